/-! the readers of a sentence: each takes the other as it is one level further in -/
theorem dX7_readCond_0 : decode cX7_readCond 0 = .ok (.iconst 1, 1) := by decide +kernel
theorem dX7_readCond_1 : decode cX7_readCond 1 = .ok (.istore_n 2, 1) := by decide +kernel
theorem dX7_readCond_2 : decode cX7_readCond 2 = .ok (.iconst 0, 1) := by decide +kernel
theorem dX7_readCond_3 : decode cX7_readCond 3 = .ok (.istore_n 3, 1) := by decide +kernel
theorem dX7_readCond_4 : decode cX7_readCond 4 = .ok (.iload_n 3, 1) := by decide +kernel
theorem dX7_readCond_5 : decode cX7_readCond 5 = .ok (.bipush 20, 2) := by decide +kernel
theorem dX7_readCond_7 : decode cX7_readCond 7 = .ok (.if_icmp .gt 87, 3) := by decide +kernel
theorem dX7_readCond_10 : decode cX7_readCond 10 = .ok (.iload_n 2, 1) := by decide +kernel
theorem dX7_readCond_11 : decode cX7_readCond 11 = .ok (.ifCond .eq 83, 3) := by decide +kernel
theorem dX7_readCond_14 : decode cX7_readCond 14 = .ok (.aload_n 0, 1) := by decide +kernel
theorem dX7_readCond_15 : decode cX7_readCond 15 = .ok (.iload_n 1, 1) := by decide +kernel
theorem dX7_readCond_16 : decode cX7_readCond 16 = .ok (.invokevirtual 49, 3) := by decide +kernel
theorem dX7_readCond_19 : decode cX7_readCond 19 = .ok (.iconst 0, 1) := by decide +kernel
theorem dX7_readCond_20 : decode cX7_readCond 20 = .ok (.istore 4, 2) := by decide +kernel
theorem dX7_readCond_22 : decode cX7_readCond 22 = .ok (.iload 4, 2) := by decide +kernel
theorem dX7_readCond_24 : decode cX7_readCond 24 = .ok (.bipush 20, 2) := by decide +kernel
theorem dX7_readCond_26 : decode cX7_readCond 26 = .ok (.if_icmp .gt 37, 3) := by decide +kernel
theorem dX7_readCond_29 : decode cX7_readCond 29 = .ok (.aload_n 0, 1) := by decide +kernel
theorem dX7_readCond_30 : decode cX7_readCond 30 = .ok (.getfield 18, 3) := by decide +kernel
theorem dX7_readCond_33 : decode cX7_readCond 33 = .ok (.bipush 17, 2) := by decide +kernel
theorem dX7_readCond_35 : decode cX7_readCond 35 = .ok (.invokevirtual 52, 3) := by decide +kernel
theorem dX7_readCond_38 : decode cX7_readCond 38 = .ok (.ifCond .eq 25, 3) := by decide +kernel
theorem dX7_readCond_41 : decode cX7_readCond 41 = .ok (.aload_n 0, 1) := by decide +kernel
theorem dX7_readCond_42 : decode cX7_readCond 42 = .ok (.iload_n 1, 1) := by decide +kernel
theorem dX7_readCond_43 : decode cX7_readCond 43 = .ok (.invokevirtual 49, 3) := by decide +kernel
theorem dX7_readCond_46 : decode cX7_readCond 46 = .ok (.aload_n 0, 1) := by decide +kernel
theorem dX7_readCond_47 : decode cX7_readCond 47 = .ok (.getfield 12, 3) := by decide +kernel
theorem dX7_readCond_50 : decode cX7_readCond 50 = .ok (.bipush 17, 2) := by decide +kernel
theorem dX7_readCond_52 : decode cX7_readCond 52 = .ok (.iconst 0, 1) := by decide +kernel
theorem dX7_readCond_53 : decode cX7_readCond 53 = .ok (.iconst 0, 1) := by decide +kernel
theorem dX7_readCond_54 : decode cX7_readCond 54 = .ok (.invokevirtual 56, 3) := by decide +kernel
theorem dX7_readCond_57 : decode cX7_readCond 57 = .ok (.iinc 4 1, 3) := by decide +kernel
theorem dX7_readCond_60 : decode cX7_readCond 60 = .ok (.goto (-38), 3) := by decide +kernel
theorem dX7_readCond_63 : decode cX7_readCond 63 = .ok (.iload_n 3, 1) := by decide +kernel
theorem dX7_readCond_64 : decode cX7_readCond 64 = .ok (.ifCond .le 14, 3) := by decide +kernel
theorem dX7_readCond_67 : decode cX7_readCond 67 = .ok (.aload_n 0, 1) := by decide +kernel
theorem dX7_readCond_68 : decode cX7_readCond 68 = .ok (.getfield 12, 3) := by decide +kernel
theorem dX7_readCond_71 : decode cX7_readCond 71 = .ok (.bipush 16, 2) := by decide +kernel
theorem dX7_readCond_73 : decode cX7_readCond 73 = .ok (.iconst 0, 1) := by decide +kernel
theorem dX7_readCond_74 : decode cX7_readCond 74 = .ok (.iconst 0, 1) := by decide +kernel
theorem dX7_readCond_75 : decode cX7_readCond 75 = .ok (.invokevirtual 56, 3) := by decide +kernel
theorem dX7_readCond_78 : decode cX7_readCond 78 = .ok (.aload_n 0, 1) := by decide +kernel
theorem dX7_readCond_79 : decode cX7_readCond 79 = .ok (.getfield 18, 3) := by decide +kernel
theorem dX7_readCond_82 : decode cX7_readCond 82 = .ok (.bipush 16, 2) := by decide +kernel
theorem dX7_readCond_84 : decode cX7_readCond 84 = .ok (.invokevirtual 52, 3) := by decide +kernel
theorem dX7_readCond_87 : decode cX7_readCond 87 = .ok (.istore_n 2, 1) := by decide +kernel
theorem dX7_readCond_88 : decode cX7_readCond 88 = .ok (.iinc 3 1, 3) := by decide +kernel
theorem dX7_readCond_91 : decode cX7_readCond 91 = .ok (.goto (-87), 3) := by decide +kernel
theorem dX7_readCond_94 : decode cX7_readCond 94 = .ok (.return_, 1) := by decide +kernel
theorem dX7_readOne_0 : decode cX7_readOne 0 = .ok (.aload_n 0, 1) := by decide +kernel
theorem dX7_readOne_1 : decode cX7_readOne 1 = .ok (.getfield 18, 3) := by decide +kernel
theorem dX7_readOne_4 : decode cX7_readOne 4 = .ok (.bipush 40, 2) := by decide +kernel
theorem dX7_readOne_6 : decode cX7_readOne 6 = .ok (.invokevirtual 60, 3) := by decide +kernel
theorem dX7_readOne_9 : decode cX7_readOne 9 = .ok (.istore_n 2, 1) := by decide +kernel
theorem dX7_readOne_10 : decode cX7_readOne 10 = .ok (.aload_n 0, 1) := by decide +kernel
theorem dX7_readOne_11 : decode cX7_readOne 11 = .ok (.getfield 18, 3) := by decide +kernel
theorem dX7_readOne_14 : decode cX7_readOne 14 = .ok (.getfield 63, 3) := by decide +kernel
theorem dX7_readOne_17 : decode cX7_readOne 17 = .ok (.iconst 2, 1) := by decide +kernel
theorem dX7_readOne_18 : decode cX7_readOne 18 = .ok (.if_icmp .ne 31, 3) := by decide +kernel
theorem dX7_readOne_21 : decode cX7_readOne 21 = .ok (.aload_n 0, 1) := by decide +kernel
theorem dX7_readOne_22 : decode cX7_readOne 22 = .ok (.getfield 18, 3) := by decide +kernel
theorem dX7_readOne_25 : decode cX7_readOne 25 = .ok (.getfield 66, 3) := by decide +kernel
theorem dX7_readOne_28 : decode cX7_readOne 28 = .ok (.bipush 18, 2) := by decide +kernel
theorem dX7_readOne_30 : decode cX7_readOne 30 = .ok (.if_icmp .lt 19, 3) := by decide +kernel
theorem dX7_readOne_33 : decode cX7_readOne 33 = .ok (.aload_n 0, 1) := by decide +kernel
theorem dX7_readOne_34 : decode cX7_readOne 34 = .ok (.getfield 18, 3) := by decide +kernel
theorem dX7_readOne_37 : decode cX7_readOne 37 = .ok (.getfield 66, 3) := by decide +kernel
theorem dX7_readOne_40 : decode cX7_readOne 40 = .ok (.bipush 26, 2) := by decide +kernel
theorem dX7_readOne_42 : decode cX7_readOne 42 = .ok (.if_icmp .gt 7, 3) := by decide +kernel
theorem dX7_readOne_45 : decode cX7_readOne 45 = .ok (.iconst 1, 1) := by decide +kernel
theorem dX7_readOne_46 : decode cX7_readOne 46 = .ok (.goto 4, 3) := by decide +kernel
theorem dX7_readOne_49 : decode cX7_readOne 49 = .ok (.iconst 0, 1) := by decide +kernel
theorem dX7_readOne_50 : decode cX7_readOne 50 = .ok (.istore_n 3, 1) := by decide +kernel
theorem dX7_readOne_51 : decode cX7_readOne 51 = .ok (.iload_n 2, 1) := by decide +kernel
theorem dX7_readOne_52 : decode cX7_readOne 52 = .ok (.ifCond .ne 16, 3) := by decide +kernel
theorem dX7_readOne_55 : decode cX7_readOne 55 = .ok (.iload_n 3, 1) := by decide +kernel
theorem dX7_readOne_56 : decode cX7_readOne 56 = .ok (.ifCond .ne 12, 3) := by decide +kernel
theorem dX7_readOne_59 : decode cX7_readOne 59 = .ok (.aload_n 0, 1) := by decide +kernel
theorem dX7_readOne_60 : decode cX7_readOne 60 = .ok (.getfield 18, 3) := by decide +kernel
theorem dX7_readOne_63 : decode cX7_readOne 63 = .ok (.iconst 1, 1) := by decide +kernel
theorem dX7_readOne_64 : decode cX7_readOne 64 = .ok (.invokevirtual 46, 3) := by decide +kernel
theorem dX7_readOne_67 : decode cX7_readOne 67 = .ok (.return_, 1) := by decide +kernel
theorem dX7_readOne_68 : decode cX7_readOne 68 = .ok (.aload_n 0, 1) := by decide +kernel
theorem dX7_readOne_69 : decode cX7_readOne 69 = .ok (.getfield 26, 3) := by decide +kernel
theorem dX7_readOne_72 : decode cX7_readOne 72 = .ok (.bipush 20, 2) := by decide +kernel
theorem dX7_readOne_74 : decode cX7_readOne 74 = .ok (.if_icmp .ge 9, 3) := by decide +kernel
theorem dX7_readOne_77 : decode cX7_readOne 77 = .ok (.iload_n 1, 1) := by decide +kernel
theorem dX7_readOne_78 : decode cX7_readOne 78 = .ok (.bipush 8, 2) := by decide +kernel
theorem dX7_readOne_80 : decode cX7_readOne 80 = .ok (.if_icmp .le 12, 3) := by decide +kernel
theorem dX7_readOne_83 : decode cX7_readOne 83 = .ok (.aload_n 0, 1) := by decide +kernel
theorem dX7_readOne_84 : decode cX7_readOne 84 = .ok (.getfield 18, 3) := by decide +kernel
theorem dX7_readOne_87 : decode cX7_readOne 87 = .ok (.iconst 4, 1) := by decide +kernel
theorem dX7_readOne_88 : decode cX7_readOne 88 = .ok (.invokevirtual 46, 3) := by decide +kernel
theorem dX7_readOne_91 : decode cX7_readOne 91 = .ok (.return_, 1) := by decide +kernel
theorem dX7_readOne_92 : decode cX7_readOne 92 = .ok (.aload_n 0, 1) := by decide +kernel
theorem dX7_readOne_93 : decode cX7_readOne 93 = .ok (.dup, 1) := by decide +kernel
theorem dX7_readOne_94 : decode cX7_readOne 94 = .ok (.getfield 26, 3) := by decide +kernel
theorem dX7_readOne_97 : decode cX7_readOne 97 = .ok (.iconst 1, 1) := by decide +kernel
theorem dX7_readOne_98 : decode cX7_readOne 98 = .ok (.iadd, 1) := by decide +kernel
theorem dX7_readOne_99 : decode cX7_readOne 99 = .ok (.putfield 26, 3) := by decide +kernel
theorem dX7_readOne_102 : decode cX7_readOne 102 = .ok (.aload_n 0, 1) := by decide +kernel
theorem dX7_readOne_103 : decode cX7_readOne 103 = .ok (.getfield 18, 3) := by decide +kernel
theorem dX7_readOne_106 : decode cX7_readOne 106 = .ok (.getfield 66, 3) := by decide +kernel
theorem dX7_readOne_109 : decode cX7_readOne 109 = .ok (.istore 4, 2) := by decide +kernel
theorem dX7_readOne_111 : decode cX7_readOne 111 = .ok (.aload_n 0, 1) := by decide +kernel
theorem dX7_readOne_112 : decode cX7_readOne 112 = .ok (.getfield 18, 3) := by decide +kernel
theorem dX7_readOne_115 : decode cX7_readOne 115 = .ok (.invokevirtual 69, 3) := by decide +kernel
theorem dX7_readOne_118 : decode cX7_readOne 118 = .ok (.iload_n 2, 1) := by decide +kernel
theorem dX7_readOne_119 : decode cX7_readOne 119 = .ok (.ifCond .eq 22, 3) := by decide +kernel
theorem dX7_readOne_122 : decode cX7_readOne 122 = .ok (.aload_n 0, 1) := by decide +kernel
theorem dX7_readOne_123 : decode cX7_readOne 123 = .ok (.iload_n 1, 1) := by decide +kernel
theorem dX7_readOne_124 : decode cX7_readOne 124 = .ok (.iconst 1, 1) := by decide +kernel
theorem dX7_readOne_125 : decode cX7_readOne 125 = .ok (.iadd, 1) := by decide +kernel
theorem dX7_readOne_126 : decode cX7_readOne 126 = .ok (.invokevirtual 39, 3) := by decide +kernel
theorem dX7_readOne_129 : decode cX7_readOne 129 = .ok (.aload_n 0, 1) := by decide +kernel
theorem dX7_readOne_130 : decode cX7_readOne 130 = .ok (.getfield 18, 3) := by decide +kernel
theorem dX7_readOne_133 : decode cX7_readOne 133 = .ok (.bipush 41, 2) := by decide +kernel
theorem dX7_readOne_135 : decode cX7_readOne 135 = .ok (.invokevirtual 72, 3) := by decide +kernel
theorem dX7_readOne_138 : decode cX7_readOne 138 = .ok (.goto 162, 3) := by decide +kernel
theorem dX7_readOne_141 : decode cX7_readOne 141 = .ok (.iload 4, 2) := by decide +kernel
theorem dX7_readOne_143 : decode cX7_readOne 143 = .ok (.bipush 18, 2) := by decide +kernel
theorem dX7_readOne_145 : decode cX7_readOne 145 = .ok (.if_icmp .ne 24, 3) := by decide +kernel
theorem dX7_readOne_148 : decode cX7_readOne 148 = .ok (.aload_n 0, 1) := by decide +kernel
theorem dX7_readOne_149 : decode cX7_readOne 149 = .ok (.iload_n 1, 1) := by decide +kernel
theorem dX7_readOne_150 : decode cX7_readOne 150 = .ok (.iconst 1, 1) := by decide +kernel
theorem dX7_readOne_151 : decode cX7_readOne 151 = .ok (.iadd, 1) := by decide +kernel
theorem dX7_readOne_152 : decode cX7_readOne 152 = .ok (.invokevirtual 49, 3) := by decide +kernel
theorem dX7_readOne_155 : decode cX7_readOne 155 = .ok (.aload_n 0, 1) := by decide +kernel
theorem dX7_readOne_156 : decode cX7_readOne 156 = .ok (.getfield 12, 3) := by decide +kernel
theorem dX7_readOne_159 : decode cX7_readOne 159 = .ok (.bipush 18, 2) := by decide +kernel
theorem dX7_readOne_161 : decode cX7_readOne 161 = .ok (.iconst 0, 1) := by decide +kernel
theorem dX7_readOne_162 : decode cX7_readOne 162 = .ok (.iconst 0, 1) := by decide +kernel
theorem dX7_readOne_163 : decode cX7_readOne 163 = .ok (.invokevirtual 56, 3) := by decide +kernel
theorem dX7_readOne_166 : decode cX7_readOne 166 = .ok (.goto 134, 3) := by decide +kernel
theorem dX7_readOne_169 : decode cX7_readOne 169 = .ok (.iload 4, 2) := by decide +kernel
theorem dX7_readOne_171 : decode cX7_readOne 171 = .ok (.bipush 22, 2) := by decide +kernel
theorem dX7_readOne_173 : decode cX7_readOne 173 = .ok (.if_icmp .ne 37, 3) := by decide +kernel
theorem dX7_readOne_176 : decode cX7_readOne 176 = .ok (.aload_n 0, 1) := by decide +kernel
theorem dX7_readOne_177 : decode cX7_readOne 177 = .ok (.getfield 12, 3) := by decide +kernel
theorem dX7_readOne_180 : decode cX7_readOne 180 = .ok (.iload 4, 2) := by decide +kernel
theorem dX7_readOne_182 : decode cX7_readOne 182 = .ok (.iconst 0, 1) := by decide +kernel
theorem dX7_readOne_183 : decode cX7_readOne 183 = .ok (.aload_n 0, 1) := by decide +kernel
theorem dX7_readOne_184 : decode cX7_readOne 184 = .ok (.getfield 18, 3) := by decide +kernel
theorem dX7_readOne_187 : decode cX7_readOne 187 = .ok (.aload_n 0, 1) := by decide +kernel
theorem dX7_readOne_188 : decode cX7_readOne 188 = .ok (.getfield 22, 3) := by decide +kernel
theorem dX7_readOne_191 : decode cX7_readOne 191 = .ok (.getfield 75, 3) := by decide +kernel
theorem dX7_readOne_194 : decode cX7_readOne 194 = .ok (.aload_n 0, 1) := by decide +kernel
theorem dX7_readOne_195 : decode cX7_readOne 195 = .ok (.getfield 22, 3) := by decide +kernel
theorem dX7_readOne_198 : decode cX7_readOne 198 = .ok (.getfield 81, 3) := by decide +kernel
theorem dX7_readOne_201 : decode cX7_readOne 201 = .ok (.invokevirtual 84, 3) := by decide +kernel
theorem dX7_readOne_204 : decode cX7_readOne 204 = .ok (.invokevirtual 56, 3) := by decide +kernel
theorem dX7_readOne_207 : decode cX7_readOne 207 = .ok (.goto 93, 3) := by decide +kernel
theorem dX7_readOne_210 : decode cX7_readOne 210 = .ok (.iload 4, 2) := by decide +kernel
theorem dX7_readOne_212 : decode cX7_readOne 212 = .ok (.bipush 23, 2) := by decide +kernel
theorem dX7_readOne_214 : decode cX7_readOne 214 = .ok (.if_icmp .ne 37, 3) := by decide +kernel
theorem dX7_readOne_217 : decode cX7_readOne 217 = .ok (.aload_n 0, 1) := by decide +kernel
theorem dX7_readOne_218 : decode cX7_readOne 218 = .ok (.getfield 12, 3) := by decide +kernel
theorem dX7_readOne_221 : decode cX7_readOne 221 = .ok (.iload 4, 2) := by decide +kernel
theorem dX7_readOne_223 : decode cX7_readOne 223 = .ok (.iconst 0, 1) := by decide +kernel
theorem dX7_readOne_224 : decode cX7_readOne 224 = .ok (.aload_n 0, 1) := by decide +kernel
theorem dX7_readOne_225 : decode cX7_readOne 225 = .ok (.getfield 18, 3) := by decide +kernel
theorem dX7_readOne_228 : decode cX7_readOne 228 = .ok (.aload_n 0, 1) := by decide +kernel
theorem dX7_readOne_229 : decode cX7_readOne 229 = .ok (.getfield 22, 3) := by decide +kernel
theorem dX7_readOne_232 : decode cX7_readOne 232 = .ok (.getfield 88, 3) := by decide +kernel
theorem dX7_readOne_235 : decode cX7_readOne 235 = .ok (.aload_n 0, 1) := by decide +kernel
theorem dX7_readOne_236 : decode cX7_readOne 236 = .ok (.getfield 22, 3) := by decide +kernel
theorem dX7_readOne_239 : decode cX7_readOne 239 = .ok (.getfield 91, 3) := by decide +kernel
theorem dX7_readOne_242 : decode cX7_readOne 242 = .ok (.invokevirtual 84, 3) := by decide +kernel
theorem dX7_readOne_245 : decode cX7_readOne 245 = .ok (.invokevirtual 56, 3) := by decide +kernel
theorem dX7_readOne_248 : decode cX7_readOne 248 = .ok (.goto 52, 3) := by decide +kernel
theorem dX7_readOne_251 : decode cX7_readOne 251 = .ok (.iload 4, 2) := by decide +kernel
theorem dX7_readOne_253 : decode cX7_readOne 253 = .ok (.bipush 24, 2) := by decide +kernel
theorem dX7_readOne_255 : decode cX7_readOne 255 = .ok (.if_icmp .lt 34, 3) := by decide +kernel
theorem dX7_readOne_258 : decode cX7_readOne 258 = .ok (.aload_n 0, 1) := by decide +kernel
theorem dX7_readOne_259 : decode cX7_readOne 259 = .ok (.invokevirtual 94, 3) := by decide +kernel
theorem dX7_readOne_262 : decode cX7_readOne 262 = .ok (.istore 5, 2) := by decide +kernel
theorem dX7_readOne_264 : decode cX7_readOne 264 = .ok (.aload_n 0, 1) := by decide +kernel
theorem dX7_readOne_265 : decode cX7_readOne 265 = .ok (.getfield 12, 3) := by decide +kernel
theorem dX7_readOne_268 : decode cX7_readOne 268 = .ok (.iload 4, 2) := by decide +kernel
theorem dX7_readOne_270 : decode cX7_readOne 270 = .ok (.iload 5, 2) := by decide +kernel
theorem dX7_readOne_272 : decode cX7_readOne 272 = .ok (.aload_n 0, 1) := by decide +kernel
theorem dX7_readOne_273 : decode cX7_readOne 273 = .ok (.getfield 18, 3) := by decide +kernel
theorem dX7_readOne_276 : decode cX7_readOne 276 = .ok (.iconst 0, 1) := by decide +kernel
theorem dX7_readOne_277 : decode cX7_readOne 277 = .ok (.sipush 999, 3) := by decide +kernel
theorem dX7_readOne_280 : decode cX7_readOne 280 = .ok (.invokevirtual 98, 3) := by decide +kernel
theorem dX7_readOne_283 : decode cX7_readOne 283 = .ok (.invokevirtual 56, 3) := by decide +kernel
theorem dX7_readOne_286 : decode cX7_readOne 286 = .ok (.goto 14, 3) := by decide +kernel
theorem dX7_readOne_289 : decode cX7_readOne 289 = .ok (.aload_n 0, 1) := by decide +kernel
theorem dX7_readOne_290 : decode cX7_readOne 290 = .ok (.getfield 12, 3) := by decide +kernel
theorem dX7_readOne_293 : decode cX7_readOne 293 = .ok (.iload 4, 2) := by decide +kernel
theorem dX7_readOne_295 : decode cX7_readOne 295 = .ok (.iconst 0, 1) := by decide +kernel
theorem dX7_readOne_296 : decode cX7_readOne 296 = .ok (.iconst 0, 1) := by decide +kernel
theorem dX7_readOne_297 : decode cX7_readOne 297 = .ok (.invokevirtual 56, 3) := by decide +kernel
theorem dX7_readOne_300 : decode cX7_readOne 300 = .ok (.return_, 1) := by decide +kernel
def zOne (l : Launch) (G : zG) (n D : Nat) (one : zF → Nat → Int32 → Option zF) : Prop := ∀ (f : zF) (a : Nat) (b : Int32) (f9 : zF), one f a b = some f9 → zM l G yX7_readOne cX7_readOne 6 (none) D n f [zr G a, .int b] (none) f9
def zCond (l : Launch) (G : zG) (n D : Nat) (one : zF → Nat → Int32 → Option zF) : Prop := ∀ (f : zF) (a : Nat) (b : Int32) (f9 : zF), one f a b = some f9 → zM l G yX7_readCond cX7_readCond 5 (none) D n f [zr G a, .int b] (none) f9
def fX7_readCond_78 (one : zF → Nat → Int32 → Option zF) (r4 : zF → Nat → Int32 → Int32 → Int32 → Option zF) (N n : Nat) (f : zF) (a0 : Nat) (a1 : Int32) (a3 : Int32) : Option zF :=
    ((zgR n f 7 a0 0).bind fun x2 => ((zck n f 9 x2).bind fun _ => (zbd (fX9_takesWord N n f x2 (16 : Int32)) fun f4 x3 => (r4 f4 a0 a1 x3 (a3 + 1)))))
set_option maxRecDepth 100000 in
set_option maxHeartbeats 4000000 in
theorem gX7_readCond_78 (l : Launch) {G : zG} {p : Program} {e : Env} {s : State} {m : MethodId} {args : Array Value} {below : List Frame} {meth : Method} {c : Code} {N n : Nat} {f9 : zF} {r4 : zF → Nat → Int32 → Int32 → Int32 → Option zF} (B : zB G p s m args meth c RX7 cX7_readCond 5 (none)) {D : Nat} {one : zF → Nat → Int32 → Option zF} (hD : 8 ≤ D) (hone : zOne l G n D one) (hr4 : ∀ (f : zF) (a0 : Nat) (a1 : Int32) (a2 : Int32) (a3 : Int32) (H : Heap) (locs : List Loc) (ls : Array Slot), r4 f a0 a1 a2 a3 = some f9 → zS G n f H locs → lv_has ls 5 [(0, zr G a0), (1, .int a1), (2, .int a2), (3, .int a3)] → W p l e (zrm (D + 1)) s m args below meth c H locs 0 0 (MQ below (zQc G n f9 (none)) args s 0 0 (zA G)) (F0 m 4 ls [])) : ∀ (f : zF) (a0 : Nat) (a1 : Int32) (a3 : Int32) (H : Heap) (locs : List Loc) (ls : Array Slot), fX7_readCond_78 one r4 N n f a0 a1 a3 = some f9 → zS G n f H locs → lv_has ls 5 [(0, zr G a0), (1, .int a1), (3, .int a3)] → W p l e (zrm (D + 1)) s m args below meth c H locs 0 0 (MQ below (zQc G n f9 (none)) args s 0 0 (zA G)) (F0 m 78 ls []) := by
  have he := B.1
  have hb := B.2.1
  intro f a0 a1 a3 H locs ls h hS hl
  unfold fX7_readCond_78 at h
  refine z_aload_n he hb dX7_readCond_78 rfl (lv_at hl 0 rfl) (zref_r _ _) ?_
  obtain ⟨x2, hx, h⟩ := zob h
  refine z_getR (ci := 7) (T := TX7) (N := 4) (j := 0) B hS hx rfl zin_X7 (by decide) zk_378 dX7_readCond_79 ?_
  refine lv_bipush (v := (16 : Int32)) he hb dX7_readCond_82 (by decide) ?_
  obtain ⟨_, hc, h⟩ := zob h
  obtain ⟨f4, x3, hx, h⟩ := zbd_i h
  refine z_callV (ci := 9) (T := TX9) (N := 12) (rest := []) B hS (mX9_takesWord l G hx) zy_X9_takesWord zk_1169 (by omega) hc rfl rfl hl rfl (Nat.le_of_ble_eq_true rfl) dX7_readCond_84 (kk := (fun H locs hS => ?_))
  refine lv_istore_n (lv' := [(2, _), (0, _), (1, _), (3, _)]) he hb dX7_readCond_87 rfl hl (by decide) rfl (fun ls hl => ?_)
  refine lv_iinc (v := (a3 + 1)) (lv' := [(3, _), (2, _), (0, _), (1, _)]) he hb dX7_readCond_88 hl (k := 3) rfl rfl (by decide) rfl (fun ls hl => ?_)
  refine lv_goto (tgt := 4) he hb dX7_readCond_91 (by decide) ?_
  exact hr4 _ _ _ _ _ _ _ _ h hS (lv_sub hl [2, 3, 1, 0] rfl)
def fX7_readCond_63 (one : zF → Nat → Int32 → Option zF) (r4 : zF → Nat → Int32 → Int32 → Int32 → Option zF) (N n : Nat) (f : zF) (a0 : Nat) (a1 : Int32) (a3 : Int32) : Option zF :=
    (if a3 ≤ 0 then (fX7_readCond_78 one r4 N n f a0 a1 a3) else ((zgR n f 7 a0 2).bind fun x5 => ((zck n f 6 x5).bind fun _ => ((fX6_add N n f x5 (16 : Int32) (0 : Int32) (0 : Int32)).bind fun f6 => (fX7_readCond_78 one r4 N n f6 a0 a1 a3)))))
set_option maxRecDepth 100000 in
set_option maxHeartbeats 4000000 in
theorem gX7_readCond_63 (l : Launch) {G : zG} {p : Program} {e : Env} {s : State} {m : MethodId} {args : Array Value} {below : List Frame} {meth : Method} {c : Code} {N n : Nat} {f9 : zF} {r4 : zF → Nat → Int32 → Int32 → Int32 → Option zF} (B : zB G p s m args meth c RX7 cX7_readCond 5 (none)) {D : Nat} {one : zF → Nat → Int32 → Option zF} (hD : 8 ≤ D) (hone : zOne l G n D one) (hr4 : ∀ (f : zF) (a0 : Nat) (a1 : Int32) (a2 : Int32) (a3 : Int32) (H : Heap) (locs : List Loc) (ls : Array Slot), r4 f a0 a1 a2 a3 = some f9 → zS G n f H locs → lv_has ls 5 [(0, zr G a0), (1, .int a1), (2, .int a2), (3, .int a3)] → W p l e (zrm (D + 1)) s m args below meth c H locs 0 0 (MQ below (zQc G n f9 (none)) args s 0 0 (zA G)) (F0 m 4 ls [])) : ∀ (f : zF) (a0 : Nat) (a1 : Int32) (a3 : Int32) (H : Heap) (locs : List Loc) (ls : Array Slot), fX7_readCond_63 one r4 N n f a0 a1 a3 = some f9 → zS G n f H locs → lv_has ls 5 [(0, zr G a0), (1, .int a1), (3, .int a3)] → W p l e (zrm (D + 1)) s m args below meth c H locs 0 0 (MQ below (zQc G n f9 (none)) args s 0 0 (zA G)) (F0 m 63 ls []) := by
  have he := B.1
  have hb := B.2.1
  intro f a0 a1 a3 H locs ls h hS hl
  unfold fX7_readCond_63 at h
  refine lv_iload_n he hb dX7_readCond_63 rfl (lv_at hl 2 rfl) ?_
  refine lv_if_le (tgt := 78) he hb dX7_readCond_64 (by decide) (fun hc => ?_) (fun hc => ?_)
  · rw [if_pos hc] at h
    exact gX7_readCond_78 l B hD hone hr4 _ _ _ _ _ _ _ h hS (lv_sub hl [0, 1, 2] rfl)
  · rw [if_neg hc] at h
    refine z_aload_n he hb dX7_readCond_67 rfl (lv_at hl 0 rfl) (zref_r _ _) ?_
    obtain ⟨x5, hx, h⟩ := zob h
    refine z_getR (ci := 7) (T := TX7) (N := 4) (j := 2) B hS hx rfl zin_X7 (by decide) zk_380 dX7_readCond_68 ?_
    refine lv_bipush (v := (16 : Int32)) he hb dX7_readCond_71 (by decide) ?_
    refine lv_iconst (v := (0 : Int32)) he hb dX7_readCond_73 (by decide) ?_
    refine lv_iconst (v := (0 : Int32)) he hb dX7_readCond_74 (by decide) ?_
    obtain ⟨_, hc, h⟩ := zob h
    obtain ⟨f6, hx, h⟩ := zob h
    refine z_callV (ci := 6) (T := TX6) (N := 4) (rest := []) B hS (mX6_add l G hx) zy_X6_add zk_1158 (by omega) hc rfl rfl hl rfl (Nat.le_of_ble_eq_true rfl) dX7_readCond_75 (kk := (fun H locs hS => ?_))
    exact gX7_readCond_78 l B hD hone hr4 _ _ _ _ _ _ _ h hS (lv_sub hl [0, 1, 2] rfl)
def fX7_readCond_22 (one : zF → Nat → Int32 → Option zF) (r4 : zF → Nat → Int32 → Int32 → Int32 → Option zF) (N n : Nat) : Nat → zF → Nat → Int32 → Int32 → Int32 → Option zF
  | 0, _, _, _, _, _ => none
  | k + 1, f, a0, a1, a3, a4 =>
    (if (20 : Int32) < a4 then (fX7_readCond_63 one r4 N n f a0 a1 a3) else ((zgR n f 7 a0 0).bind fun x7 => ((zck n f 9 x7).bind fun _ => (zbd (fX9_takesWord N n f x7 (17 : Int32)) fun f9 x8 => (if x8 = 0 then (fX7_readCond_63 one r4 N n f9 a0 a1 a3) else ((zck n f9 7 a0).bind fun _ => ((one f9 a0 a1).bind fun f10 => ((zgR n f10 7 a0 2).bind fun x11 => ((zck n f10 6 x11).bind fun _ => ((fX6_add N n f10 x11 (17 : Int32) (0 : Int32) (0 : Int32)).bind fun f12 => (fX7_readCond_22 one r4 N n k f12 a0 a1 a3 (a4 + 1))))))))))))
set_option maxRecDepth 100000 in
set_option maxHeartbeats 4000000 in
theorem gX7_readCond_22 (l : Launch) {G : zG} {p : Program} {e : Env} {s : State} {m : MethodId} {args : Array Value} {below : List Frame} {meth : Method} {c : Code} {N n : Nat} {f9 : zF} {r4 : zF → Nat → Int32 → Int32 → Int32 → Option zF} (B : zB G p s m args meth c RX7 cX7_readCond 5 (none)) {D : Nat} {one : zF → Nat → Int32 → Option zF} (hD : 8 ≤ D) (hone : zOne l G n D one) (hr4 : ∀ (f : zF) (a0 : Nat) (a1 : Int32) (a2 : Int32) (a3 : Int32) (H : Heap) (locs : List Loc) (ls : Array Slot), r4 f a0 a1 a2 a3 = some f9 → zS G n f H locs → lv_has ls 5 [(0, zr G a0), (1, .int a1), (2, .int a2), (3, .int a3)] → W p l e (zrm (D + 1)) s m args below meth c H locs 0 0 (MQ below (zQc G n f9 (none)) args s 0 0 (zA G)) (F0 m 4 ls [])) : ∀ (k : Nat), ∀ (f : zF) (a0 : Nat) (a1 : Int32) (a3 : Int32) (a4 : Int32) (H : Heap) (locs : List Loc) (ls : Array Slot), fX7_readCond_22 one r4 N n k f a0 a1 a3 a4 = some f9 → zS G n f H locs → lv_has ls 5 [(0, zr G a0), (1, .int a1), (3, .int a3), (4, .int a4)] → W p l e (zrm (D + 1)) s m args below meth c H locs 0 0 (MQ below (zQc G n f9 (none)) args s 0 0 (zA G)) (F0 m 22 ls []) := by
  have he := B.1
  have hb := B.2.1
  intro k
  induction k with
  | zero =>
    intro f a0 a1 a3 a4 H locs ls h
    unfold fX7_readCond_22 at h
    cases h
  | succ k ih =>
    intro f a0 a1 a3 a4 H locs ls h hS hl
    unfold fX7_readCond_22 at h
    refine lv_iload he hb dX7_readCond_22 (lv_at hl 3 rfl) ?_
    refine lv_bipush (v := (20 : Int32)) he hb dX7_readCond_24 (by decide) ?_
    refine lv_icmp_gt (tgt := 63) he hb dX7_readCond_26 (by decide) (fun hc => ?_) (fun hc => ?_)
    · rw [if_pos hc] at h
      exact gX7_readCond_63 l B hD hone hr4 _ _ _ _ _ _ _ h hS (lv_sub hl [0, 1, 2] rfl)
    · rw [if_neg hc] at h
      refine z_aload_n he hb dX7_readCond_29 rfl (lv_at hl 0 rfl) (zref_r _ _) ?_
      obtain ⟨x7, hx, h⟩ := zob h
      refine z_getR (ci := 7) (T := TX7) (N := 4) (j := 0) B hS hx rfl zin_X7 (by decide) zk_378 dX7_readCond_30 ?_
      refine lv_bipush (v := (17 : Int32)) he hb dX7_readCond_33 (by decide) ?_
      obtain ⟨_, hc, h⟩ := zob h
      obtain ⟨f9, x8, hx, h⟩ := zbd_i h
      refine z_callV (ci := 9) (T := TX9) (N := 12) (rest := []) B hS (mX9_takesWord l G hx) zy_X9_takesWord zk_1169 (by omega) hc rfl rfl hl rfl (Nat.le_of_ble_eq_true rfl) dX7_readCond_35 (kk := (fun H locs hS => ?_))
      refine lv_if_eq (tgt := 63) he hb dX7_readCond_38 (by decide) (fun hc => ?_) (fun hc => ?_)
      · rw [if_pos hc] at h
        exact gX7_readCond_63 l B hD hone hr4 _ _ _ _ _ _ _ h hS (lv_sub hl [0, 1, 2] rfl)
      · rw [if_neg hc] at h
        refine z_aload_n he hb dX7_readCond_41 rfl (lv_at hl 0 rfl) (zref_r _ _) ?_
        refine lv_iload_n he hb dX7_readCond_42 rfl (lv_at hl 1 rfl) ?_
        obtain ⟨_, hc, h⟩ := zob h
        obtain ⟨f10, hx, h⟩ := zob h
        refine z_callV (ci := 7) (T := TX7) (N := 4) (rest := []) B hS (hone _ _ _ _ hx) zy_X7_readOne zk_1150 (by omega) hc rfl rfl hl rfl (Nat.le_of_ble_eq_true rfl) dX7_readCond_43 (kk := (fun H locs hS => ?_))
        refine z_aload_n he hb dX7_readCond_46 rfl (lv_at hl 0 rfl) (zref_r _ _) ?_
        obtain ⟨x11, hx, h⟩ := zob h
        refine z_getR (ci := 7) (T := TX7) (N := 4) (j := 2) B hS hx rfl zin_X7 (by decide) zk_380 dX7_readCond_47 ?_
        refine lv_bipush (v := (17 : Int32)) he hb dX7_readCond_50 (by decide) ?_
        refine lv_iconst (v := (0 : Int32)) he hb dX7_readCond_52 (by decide) ?_
        refine lv_iconst (v := (0 : Int32)) he hb dX7_readCond_53 (by decide) ?_
        obtain ⟨_, hc, h⟩ := zob h
        obtain ⟨f12, hx, h⟩ := zob h
        refine z_callV (ci := 6) (T := TX6) (N := 4) (rest := []) B hS (mX6_add l G hx) zy_X6_add zk_1158 (by omega) hc rfl rfl hl rfl (Nat.le_of_ble_eq_true rfl) dX7_readCond_54 (kk := (fun H locs hS => ?_))
        refine lv_iinc (v := (a4 + 1)) (lv' := [(4, _), (0, _), (1, _), (3, _)]) he hb dX7_readCond_57 hl (k := 3) rfl rfl (by decide) rfl (fun ls hl => ?_)
        refine lv_goto (tgt := 22) he hb dX7_readCond_60 (by decide) ?_
        exact ih _ _ _ _ _ _ _ _ h hS (lv_sub hl [1, 2, 3, 0] rfl)
def fX7_readCond_4 (one : zF → Nat → Int32 → Option zF) (N n : Nat) : Nat → zF → Nat → Int32 → Int32 → Int32 → Option zF
  | 0, _, _, _, _, _ => none
  | k + 1, f, a0, a1, a2, a3 =>
    (if (20 : Int32) < a3 then some f else (if a2 = 0 then some f else ((zck n f 7 a0).bind fun _ => ((one f a0 a1).bind fun f1 => (fX7_readCond_22 one (fX7_readCond_4 one N n k) N n N f1 a0 a1 a3 (0 : Int32))))))
set_option maxRecDepth 100000 in
set_option maxHeartbeats 4000000 in
theorem gX7_readCond_4 (l : Launch) {G : zG} {p : Program} {e : Env} {s : State} {m : MethodId} {args : Array Value} {below : List Frame} {meth : Method} {c : Code} {N n : Nat} {f9 : zF} (B : zB G p s m args meth c RX7 cX7_readCond 5 (none)) {D : Nat} {one : zF → Nat → Int32 → Option zF} (hD : 8 ≤ D) (hone : zOne l G n D one) : ∀ (k : Nat), ∀ (f : zF) (a0 : Nat) (a1 : Int32) (a2 : Int32) (a3 : Int32) (H : Heap) (locs : List Loc) (ls : Array Slot), fX7_readCond_4 one N n k f a0 a1 a2 a3 = some f9 → zS G n f H locs → lv_has ls 5 [(0, zr G a0), (1, .int a1), (2, .int a2), (3, .int a3)] → W p l e (zrm (D + 1)) s m args below meth c H locs 0 0 (MQ below (zQc G n f9 (none)) args s 0 0 (zA G)) (F0 m 4 ls []) := by
  have he := B.1
  have hb := B.2.1
  intro k
  induction k with
  | zero =>
    intro f a0 a1 a2 a3 H locs ls h
    unfold fX7_readCond_4 at h
    cases h
  | succ k ih =>
    intro f a0 a1 a2 a3 H locs ls h hS hl
    unfold fX7_readCond_4 at h
    refine lv_iload_n he hb dX7_readCond_4 rfl (lv_at hl 3 rfl) ?_
    refine lv_bipush (v := (20 : Int32)) he hb dX7_readCond_5 (by decide) ?_
    refine lv_icmp_gt (tgt := 94) he hb dX7_readCond_7 (by decide) (fun hc => ?_) (fun hc => ?_)
    · rw [if_pos hc] at h
      obtain rfl := Option.some.inj h
      exact z_vret B hS dX7_readCond_94
    · rw [if_neg hc] at h
      refine lv_iload_n he hb dX7_readCond_10 rfl (lv_at hl 2 rfl) ?_
      refine lv_if_eq (tgt := 94) he hb dX7_readCond_11 (by decide) (fun hc => ?_) (fun hc => ?_)
      · rw [if_pos hc] at h
        obtain rfl := Option.some.inj h
        exact z_vret B hS dX7_readCond_94
      · rw [if_neg hc] at h
        refine z_aload_n he hb dX7_readCond_14 rfl (lv_at hl 0 rfl) (zref_r _ _) ?_
        refine lv_iload_n he hb dX7_readCond_15 rfl (lv_at hl 1 rfl) ?_
        obtain ⟨_, hc, h⟩ := zob h
        obtain ⟨f1, hx, h⟩ := zob h
        refine z_callV (ci := 7) (T := TX7) (N := 4) (rest := []) B hS (hone _ _ _ _ hx) zy_X7_readOne zk_1150 (by omega) hc rfl rfl hl rfl (Nat.le_of_ble_eq_true rfl) dX7_readCond_16 (kk := (fun H locs hS => ?_))
        refine lv_iconst (v := (0 : Int32)) he hb dX7_readCond_19 (by decide) ?_
        refine lv_istore (lv' := [(4, _), (0, _), (1, _), (2, _), (3, _)]) he hb dX7_readCond_20 hl (by decide) rfl (fun ls hl => ?_)
        exact gX7_readCond_22 l B hD hone ih N _ _ _ _ _ _ _ _ h hS (lv_sub hl [1, 2, 4, 0] rfl)
def fX7_readCond (one : zF → Nat → Int32 → Option zF) (N n : Nat) (f : zF) (a0 : Nat) (a1 : Int32) : Option zF :=
    (fX7_readCond_4 one N n N f a0 a1 (1 : Int32) (0 : Int32))
set_option maxRecDepth 100000 in
set_option maxHeartbeats 4000000 in
theorem mX7_readCond (l : Launch) (G : zG) {N n : Nat} {f : zF} {f9 : zF} {a0 : Nat} {a1 : Int32}  {D : Nat} {one : zF → Nat → Int32 → Option zF} (hD : 8 ≤ D) (hone : zOne l G n D one) (h : fX7_readCond one N n f a0 a1 = some f9) : zM l G yX7_readCond cX7_readCond 5 (none) (D + 1) n f [zr G a0, .int a1] (none) f9 := by
  refine zM.of (by decide) (Nat.le_of_ble_eq_true rfl) ?_
  intro p e s m args below meth c locs ls B hS hl
  have he := B.1
  have hb := B.2.1
  have hl : lv_has ls 5 [(0, zr G a0), (1, .int a1)] := hl
  unfold fX7_readCond at h
  generalize s.heap = H at hS ⊢
  refine lv_iconst (v := (1 : Int32)) he hb dX7_readCond_0 (by decide) ?_
  refine lv_istore_n (lv' := [(2, _), (0, _), (1, _)]) he hb dX7_readCond_1 rfl hl (by decide) rfl (fun ls hl => ?_)
  refine lv_iconst (v := (0 : Int32)) he hb dX7_readCond_2 (by decide) ?_
  refine lv_istore_n (lv' := [(3, _), (2, _), (0, _), (1, _)]) he hb dX7_readCond_3 rfl hl (by decide) rfl (fun ls hl => ?_)
  exact gX7_readCond_4 l B hD hone N _ _ _ _ _ _ _ _ h hS (lv_sub hl [2, 3, 1, 0] rfl)
def fX7_readOne_83 (one cond : zF → Nat → Int32 → Option zF) (N n : Nat) (f : zF) (a0 : Nat) : Option zF :=
    ((zgR n f 7 a0 0).bind fun x6 => ((zck n f 9 x6).bind fun _ => ((fX9_fail N n f x6 (4 : Int32)).bind fun f7 => some f7)))
set_option maxRecDepth 100000 in
set_option maxHeartbeats 4000000 in
theorem gX7_readOne_83 (l : Launch) {G : zG} {p : Program} {e : Env} {s : State} {m : MethodId} {args : Array Value} {below : List Frame} {meth : Method} {c : Code} {N n : Nat} {f9 : zF} (B : zB G p s m args meth c RX7 cX7_readOne 6 (none)) {D : Nat} {one cond : zF → Nat → Int32 → Option zF} (hD : 8 ≤ D) (hone : zOne l G n D one) (hcond : zCond l G n (D + 1) cond) : ∀ (f : zF) (a0 : Nat) (H : Heap) (locs : List Loc) (ls : Array Slot), fX7_readOne_83 one cond N n f a0 = some f9 → zS G n f H locs → lv_has ls 6 [(0, zr G a0)] → W p l e (zrm (D + 2)) s m args below meth c H locs 0 0 (MQ below (zQc G n f9 (none)) args s 0 0 (zA G)) (F0 m 83 ls []) := by
  have he := B.1
  have hb := B.2.1
  intro f a0 H locs ls h hS hl
  unfold fX7_readOne_83 at h
  refine z_aload_n he hb dX7_readOne_83 rfl (lv_at hl 0 rfl) (zref_r _ _) ?_
  obtain ⟨x6, hx, h⟩ := zob h
  refine z_getR (ci := 7) (T := TX7) (N := 4) (j := 0) B hS hx rfl zin_X7 (by decide) zk_378 dX7_readOne_84 ?_
  refine lv_iconst (v := (4 : Int32)) he hb dX7_readOne_87 (by decide) ?_
  obtain ⟨_, hc, h⟩ := zob h
  obtain ⟨f7, hx, h⟩ := zob h
  refine z_callV (ci := 9) (T := TX9) (N := 12) (rest := []) B hS (mX9_fail l G hx) zy_X9_fail zk_1155 (by omega) hc rfl rfl hl rfl (Nat.le_of_ble_eq_true rfl) dX7_readOne_88 (kk := (fun H locs hS => ?_))
  obtain rfl := Option.some.inj h
  exact z_vret B hS dX7_readOne_91
def fX7_readOne_68 (one cond : zF → Nat → Int32 → Option zF) (N n : Nat) (f : zF) (a0 : Nat) (a1 : Int32) (a2 : Int32) : Option zF :=
    ((zgI n f 7 a0 3).bind fun x5 => (if (20 : Int32) ≤ x5 then (fX7_readOne_83 one cond N n f a0) else (if a1 ≤ (8 : Int32) then ((zgI n f 7 a0 3).bind fun x8 => ((zpI n f 7 a0 3 (x8 + (1 : Int32))).bind fun f9 => ((zgR n f9 7 a0 0).bind fun x10 => ((zgI n f9 9 x10 8).bind fun x11 => ((zgR n f9 7 a0 0).bind fun x12 => ((zck n f9 9 x12).bind fun _ => ((fX9_advance N n f9 x12).bind fun f13 => (if a2 = 0 then (if x11 = (18 : Int32) then ((zck n f13 7 a0).bind fun _ => ((one f13 a0 (a1 + (1 : Int32))).bind fun f41 => ((zgR n f41 7 a0 2).bind fun x42 => ((zck n f41 6 x42).bind fun _ => ((fX6_add N n f41 x42 (18 : Int32) (0 : Int32) (0 : Int32)).bind fun f43 => some f43))))) else (if x11 = (22 : Int32) then ((zgR n f13 7 a0 2).bind fun x32 => ((zgR n f13 7 a0 0).bind fun x33 => ((zgR n f13 7 a0 1).bind fun x34 => ((zgR n f13 2 x34 5).bind fun x35 => ((zgR n f13 7 a0 1).bind fun x36 => ((zgI n f13 2 x36 2).bind fun x37 => ((zck n f13 9 x33).bind fun _ => (zbd (fX9_needNameOf N n f13 x33 x35 x37) fun f39 x38 => ((zck n f39 6 x32).bind fun _ => ((fX6_add N n f39 x32 x11 (0 : Int32) x38).bind fun f40 => some f40)))))))))) else (if x11 = (23 : Int32) then ((zgR n f13 7 a0 2).bind fun x23 => ((zgR n f13 7 a0 0).bind fun x24 => ((zgR n f13 7 a0 1).bind fun x25 => ((zgR n f13 2 x25 7).bind fun x26 => ((zgR n f13 7 a0 1).bind fun x27 => ((zgI n f13 2 x27 4).bind fun x28 => ((zck n f13 9 x24).bind fun _ => (zbd (fX9_needNameOf N n f13 x24 x26 x28) fun f30 x29 => ((zck n f30 6 x23).bind fun _ => ((fX6_add N n f30 x23 x11 (0 : Int32) x29).bind fun f31 => some f31)))))))))) else (if x11 < (24 : Int32) then ((zgR n f13 7 a0 2).bind fun x14 => ((zck n f13 6 x14).bind fun _ => ((fX6_add N n f13 x14 x11 (0 : Int32) (0 : Int32)).bind fun f15 => some f15))) else ((zck n f13 7 a0).bind fun _ => (zbd (fX7_readSign N n f13 a0) fun f17 x16 => ((zgR n f17 7 a0 2).bind fun x18 => ((zgR n f17 7 a0 0).bind fun x19 => ((zck n f17 9 x19).bind fun _ => (zbd (fX9_needNumber N n f17 x19 (0 : Int32) (999 : Int32)) fun f21 x20 => ((zck n f21 6 x18).bind fun _ => ((fX6_add N n f21 x18 x11 x16 x20).bind fun f22 => some f22)))))))))))) else ((zck n f13 7 a0).bind fun _ => ((cond f13 a0 (a1 + (1 : Int32))).bind fun f44 => ((zgR n f44 7 a0 0).bind fun x45 => ((zck n f44 9 x45).bind fun _ => ((fX9_needSign N n f44 x45 (41 : Int32)).bind fun f46 => some f46))))))))))))) else (fX7_readOne_83 one cond N n f a0))))
set_option maxRecDepth 100000 in
set_option maxHeartbeats 4000000 in
theorem gX7_readOne_68 (l : Launch) {G : zG} {p : Program} {e : Env} {s : State} {m : MethodId} {args : Array Value} {below : List Frame} {meth : Method} {c : Code} {N n : Nat} {f9 : zF} (B : zB G p s m args meth c RX7 cX7_readOne 6 (none)) {D : Nat} {one cond : zF → Nat → Int32 → Option zF} (hD : 8 ≤ D) (hone : zOne l G n D one) (hcond : zCond l G n (D + 1) cond) : ∀ (f : zF) (a0 : Nat) (a1 : Int32) (a2 : Int32) (H : Heap) (locs : List Loc) (ls : Array Slot), fX7_readOne_68 one cond N n f a0 a1 a2 = some f9 → zS G n f H locs → lv_has ls 6 [(0, zr G a0), (1, .int a1), (2, .int a2)] → W p l e (zrm (D + 2)) s m args below meth c H locs 0 0 (MQ below (zQc G n f9 (none)) args s 0 0 (zA G)) (F0 m 68 ls []) := by
  have he := B.1
  have hb := B.2.1
  intro f a0 a1 a2 H locs ls h hS hl
  unfold fX7_readOne_68 at h
  refine z_aload_n he hb dX7_readOne_68 rfl (lv_at hl 0 rfl) (zref_r _ _) ?_
  obtain ⟨x5, hx, h⟩ := zob h
  refine z_getI (ci := 7) (T := TX7) (N := 4) (j := 3) B hS hx rfl zin_X7 (by decide) zk_382 dX7_readOne_69 ?_
  refine lv_bipush (v := (20 : Int32)) he hb dX7_readOne_72 (by decide) ?_
  refine lv_icmp_ge (tgt := 83) he hb dX7_readOne_74 (by decide) (fun hc => ?_) (fun hc => ?_)
  · rw [if_pos hc] at h
    exact gX7_readOne_83 l B hD hone hcond _ _ _ _ _ h hS (lv_sub hl [0] rfl)
  · rw [if_neg hc] at h
    refine lv_iload_n he hb dX7_readOne_77 rfl (lv_at hl 1 rfl) ?_
    refine lv_bipush (v := (8 : Int32)) he hb dX7_readOne_78 (by decide) ?_
    refine lv_icmp_le (tgt := 92) he hb dX7_readOne_80 (by decide) (fun hc => ?_) (fun hc => ?_)
    · rw [if_pos hc] at h
      refine z_aload_n he hb dX7_readOne_92 rfl (lv_at hl 0 rfl) (zref_r _ _) ?_
      refine lv_dup he hb dX7_readOne_93 rfl ?_
      obtain ⟨x8, hx, h⟩ := zob h
      refine z_getI (ci := 7) (T := TX7) (N := 4) (j := 3) B hS hx rfl zin_X7 (by decide) zk_382 dX7_readOne_94 ?_
      refine lv_iconst (v := (1 : Int32)) he hb dX7_readOne_97 (by decide) ?_
      refine lv_iadd he hb dX7_readOne_98 ?_
      obtain ⟨f9, hx, h⟩ := zob h
      refine z_putI (ci := 7) (T := TX7) (N := 4) (j := 3) B hS hx rfl zin_X7 tyX7 tyX7_ok nmX7 (by decide) zk_382 rfl rfl dX7_readOne_99 (fun H locs hS => ?_)
      refine z_aload_n he hb dX7_readOne_102 rfl (lv_at hl 0 rfl) (zref_r _ _) ?_
      obtain ⟨x10, hx, h⟩ := zob h
      refine z_getR (ci := 7) (T := TX7) (N := 4) (j := 0) B hS hx rfl zin_X7 (by decide) zk_378 dX7_readOne_103 ?_
      obtain ⟨x11, hx, h⟩ := zob h
      refine z_getI (ci := 9) (T := TX9) (N := 12) (j := 8) B hS hx rfl zin_X9 (by decide) zk_107 dX7_readOne_106 ?_
      refine lv_istore (lv' := [(4, _), (0, _), (1, _), (2, _)]) he hb dX7_readOne_109 hl (by decide) rfl (fun ls hl => ?_)
      refine z_aload_n he hb dX7_readOne_111 rfl (lv_at hl 1 rfl) (zref_r _ _) ?_
      obtain ⟨x12, hx, h⟩ := zob h
      refine z_getR (ci := 7) (T := TX7) (N := 4) (j := 0) B hS hx rfl zin_X7 (by decide) zk_378 dX7_readOne_112 ?_
      obtain ⟨_, hc, h⟩ := zob h
      obtain ⟨f13, hx, h⟩ := zob h
      refine z_callV (ci := 9) (T := TX9) (N := 12) (rest := []) B hS (mX9_advance l G hx) zy_X9_advance zk_1156 (by omega) hc rfl rfl hl rfl (Nat.le_of_ble_eq_true rfl) dX7_readOne_115 (kk := (fun H locs hS => ?_))
      refine lv_iload_n he hb dX7_readOne_118 rfl (lv_at hl 3 rfl) ?_
      refine lv_if_eq (tgt := 141) he hb dX7_readOne_119 (by decide) (fun hc => ?_) (fun hc => ?_)
      · rw [if_pos hc] at h
        refine lv_iload he hb dX7_readOne_141 (lv_at hl 0 rfl) ?_
        refine lv_bipush (v := (18 : Int32)) he hb dX7_readOne_143 (by decide) ?_
        refine lv_icmp_ne (tgt := 169) he hb dX7_readOne_145 (by decide) (fun hc => ?_) (fun hc => ?_)
        · rw [if_neg hc] at h
          refine lv_iload he hb dX7_readOne_169 (lv_at hl 0 rfl) ?_
          refine lv_bipush (v := (22 : Int32)) he hb dX7_readOne_171 (by decide) ?_
          refine lv_icmp_ne (tgt := 210) he hb dX7_readOne_173 (by decide) (fun hc => ?_) (fun hc => ?_)
          · rw [if_neg hc] at h
            refine lv_iload he hb dX7_readOne_210 (lv_at hl 0 rfl) ?_
            refine lv_bipush (v := (23 : Int32)) he hb dX7_readOne_212 (by decide) ?_
            refine lv_icmp_ne (tgt := 251) he hb dX7_readOne_214 (by decide) (fun hc => ?_) (fun hc => ?_)
            · rw [if_neg hc] at h
              refine lv_iload he hb dX7_readOne_251 (lv_at hl 0 rfl) ?_
              refine lv_bipush (v := (24 : Int32)) he hb dX7_readOne_253 (by decide) ?_
              refine lv_icmp_lt (tgt := 289) he hb dX7_readOne_255 (by decide) (fun hc => ?_) (fun hc => ?_)
              · rw [if_pos hc] at h
                refine z_aload_n he hb dX7_readOne_289 rfl (lv_at hl 1 rfl) (zref_r _ _) ?_
                obtain ⟨x14, hx, h⟩ := zob h
                refine z_getR (ci := 7) (T := TX7) (N := 4) (j := 2) B hS hx rfl zin_X7 (by decide) zk_380 dX7_readOne_290 ?_
                refine lv_iload he hb dX7_readOne_293 (lv_at hl 0 rfl) ?_
                refine lv_iconst (v := (0 : Int32)) he hb dX7_readOne_295 (by decide) ?_
                refine lv_iconst (v := (0 : Int32)) he hb dX7_readOne_296 (by decide) ?_
                obtain ⟨_, hc, h⟩ := zob h
                obtain ⟨f15, hx, h⟩ := zob h
                refine z_callV (ci := 6) (T := TX6) (N := 4) (rest := []) B hS (mX6_add l G hx) zy_X6_add zk_1158 (by omega) hc rfl rfl hl rfl (Nat.le_of_ble_eq_true rfl) dX7_readOne_297 (kk := (fun H locs hS => ?_))
                obtain rfl := Option.some.inj h
                exact z_vret B hS dX7_readOne_300
              · rw [if_neg hc] at h
                refine z_aload_n he hb dX7_readOne_258 rfl (lv_at hl 1 rfl) (zref_r _ _) ?_
                obtain ⟨_, hc, h⟩ := zob h
                obtain ⟨f17, x16, hx, h⟩ := zbd_i h
                refine z_callV (ci := 7) (T := TX7) (N := 4) (rest := []) B hS (mX7_readSign l G hx) zy_X7_readSign zk_1164 (by omega) hc rfl rfl hl rfl (Nat.le_of_ble_eq_true rfl) dX7_readOne_259 (kk := (fun H locs hS => ?_))
                refine lv_istore (lv' := [(5, _), (4, _), (0, _), (1, _), (2, _)]) he hb dX7_readOne_262 hl (by decide) rfl (fun ls hl => ?_)
                refine z_aload_n he hb dX7_readOne_264 rfl (lv_at hl 2 rfl) (zref_r _ _) ?_
                obtain ⟨x18, hx, h⟩ := zob h
                refine z_getR (ci := 7) (T := TX7) (N := 4) (j := 2) B hS hx rfl zin_X7 (by decide) zk_380 dX7_readOne_265 ?_
                refine lv_iload he hb dX7_readOne_268 (lv_at hl 1 rfl) ?_
                refine lv_iload he hb dX7_readOne_270 (lv_at hl 0 rfl) ?_
                refine z_aload_n he hb dX7_readOne_272 rfl (lv_at hl 2 rfl) (zref_r _ _) ?_
                obtain ⟨x19, hx, h⟩ := zob h
                refine z_getR (ci := 7) (T := TX7) (N := 4) (j := 0) B hS hx rfl zin_X7 (by decide) zk_378 dX7_readOne_273 ?_
                refine lv_iconst (v := (0 : Int32)) he hb dX7_readOne_276 (by decide) ?_
                refine lv_sipush (v := (999 : Int32)) he hb dX7_readOne_277 (by decide) ?_
                obtain ⟨_, hc, h⟩ := zob h
                obtain ⟨f21, x20, hx, h⟩ := zbd_i h
                refine z_callV (ci := 9) (T := TX9) (N := 12) (rest := [_, _, _]) B hS (mX9_needNumber l G hx) zy_X9_needNumber zk_1168 (by omega) hc rfl rfl hl rfl (Nat.le_of_ble_eq_true rfl) dX7_readOne_280 (kk := (fun H locs hS => ?_))
                obtain ⟨_, hc, h⟩ := zob h
                obtain ⟨f22, hx, h⟩ := zob h
                refine z_callV (ci := 6) (T := TX6) (N := 4) (rest := []) B hS (mX6_add l G hx) zy_X6_add zk_1158 (by omega) hc rfl rfl hl rfl (Nat.le_of_ble_eq_true rfl) dX7_readOne_283 (kk := (fun H locs hS => ?_))
                refine lv_goto (tgt := 300) he hb dX7_readOne_286 (by decide) ?_
                obtain rfl := Option.some.inj h
                exact z_vret B hS dX7_readOne_300
            · rw [if_pos hc] at h
              refine z_aload_n he hb dX7_readOne_217 rfl (lv_at hl 1 rfl) (zref_r _ _) ?_
              obtain ⟨x23, hx, h⟩ := zob h
              refine z_getR (ci := 7) (T := TX7) (N := 4) (j := 2) B hS hx rfl zin_X7 (by decide) zk_380 dX7_readOne_218 ?_
              refine lv_iload he hb dX7_readOne_221 (lv_at hl 0 rfl) ?_
              refine lv_iconst (v := (0 : Int32)) he hb dX7_readOne_223 (by decide) ?_
              refine z_aload_n he hb dX7_readOne_224 rfl (lv_at hl 1 rfl) (zref_r _ _) ?_
              obtain ⟨x24, hx, h⟩ := zob h
              refine z_getR (ci := 7) (T := TX7) (N := 4) (j := 0) B hS hx rfl zin_X7 (by decide) zk_378 dX7_readOne_225 ?_
              refine z_aload_n he hb dX7_readOne_228 rfl (lv_at hl 1 rfl) (zref_r _ _) ?_
              obtain ⟨x25, hx, h⟩ := zob h
              refine z_getR (ci := 7) (T := TX7) (N := 4) (j := 1) B hS hx rfl zin_X7 (by decide) zk_379 dX7_readOne_229 ?_
              obtain ⟨x26, hx, h⟩ := zob h
              refine z_getR (ci := 2) (T := TX2) (N := 15) (j := 7) B hS hx rfl zin_X2 (by decide) zk_183 dX7_readOne_232 ?_
              refine z_aload_n he hb dX7_readOne_235 rfl (lv_at hl 1 rfl) (zref_r _ _) ?_
              obtain ⟨x27, hx, h⟩ := zob h
              refine z_getR (ci := 7) (T := TX7) (N := 4) (j := 1) B hS hx rfl zin_X7 (by decide) zk_379 dX7_readOne_236 ?_
              obtain ⟨x28, hx, h⟩ := zob h
              refine z_getI (ci := 2) (T := TX2) (N := 15) (j := 4) B hS hx rfl zin_X2 (by decide) zk_170 dX7_readOne_239 ?_
              obtain ⟨_, hc, h⟩ := zob h
              obtain ⟨f30, x29, hx, h⟩ := zbd_i h
              refine z_callV (ci := 9) (T := TX9) (N := 12) (rest := [_, _, _]) B hS (mX9_needNameOf l G hx) zy_X9_needNameOf zk_1163 (by omega) hc rfl rfl hl rfl (Nat.le_of_ble_eq_true rfl) dX7_readOne_242 (kk := (fun H locs hS => ?_))
              obtain ⟨_, hc, h⟩ := zob h
              obtain ⟨f31, hx, h⟩ := zob h
              refine z_callV (ci := 6) (T := TX6) (N := 4) (rest := []) B hS (mX6_add l G hx) zy_X6_add zk_1158 (by omega) hc rfl rfl hl rfl (Nat.le_of_ble_eq_true rfl) dX7_readOne_245 (kk := (fun H locs hS => ?_))
              refine lv_goto (tgt := 300) he hb dX7_readOne_248 (by decide) ?_
              obtain rfl := Option.some.inj h
              exact z_vret B hS dX7_readOne_300
          · rw [if_pos hc] at h
            refine z_aload_n he hb dX7_readOne_176 rfl (lv_at hl 1 rfl) (zref_r _ _) ?_
            obtain ⟨x32, hx, h⟩ := zob h
            refine z_getR (ci := 7) (T := TX7) (N := 4) (j := 2) B hS hx rfl zin_X7 (by decide) zk_380 dX7_readOne_177 ?_
            refine lv_iload he hb dX7_readOne_180 (lv_at hl 0 rfl) ?_
            refine lv_iconst (v := (0 : Int32)) he hb dX7_readOne_182 (by decide) ?_
            refine z_aload_n he hb dX7_readOne_183 rfl (lv_at hl 1 rfl) (zref_r _ _) ?_
            obtain ⟨x33, hx, h⟩ := zob h
            refine z_getR (ci := 7) (T := TX7) (N := 4) (j := 0) B hS hx rfl zin_X7 (by decide) zk_378 dX7_readOne_184 ?_
            refine z_aload_n he hb dX7_readOne_187 rfl (lv_at hl 1 rfl) (zref_r _ _) ?_
            obtain ⟨x34, hx, h⟩ := zob h
            refine z_getR (ci := 7) (T := TX7) (N := 4) (j := 1) B hS hx rfl zin_X7 (by decide) zk_379 dX7_readOne_188 ?_
            obtain ⟨x35, hx, h⟩ := zob h
            refine z_getR (ci := 2) (T := TX2) (N := 15) (j := 5) B hS hx rfl zin_X2 (by decide) zk_175 dX7_readOne_191 ?_
            refine z_aload_n he hb dX7_readOne_194 rfl (lv_at hl 1 rfl) (zref_r _ _) ?_
            obtain ⟨x36, hx, h⟩ := zob h
            refine z_getR (ci := 7) (T := TX7) (N := 4) (j := 1) B hS hx rfl zin_X7 (by decide) zk_379 dX7_readOne_195 ?_
            obtain ⟨x37, hx, h⟩ := zob h
            refine z_getI (ci := 2) (T := TX2) (N := 15) (j := 2) B hS hx rfl zin_X2 (by decide) zk_160 dX7_readOne_198 ?_
            obtain ⟨_, hc, h⟩ := zob h
            obtain ⟨f39, x38, hx, h⟩ := zbd_i h
            refine z_callV (ci := 9) (T := TX9) (N := 12) (rest := [_, _, _]) B hS (mX9_needNameOf l G hx) zy_X9_needNameOf zk_1163 (by omega) hc rfl rfl hl rfl (Nat.le_of_ble_eq_true rfl) dX7_readOne_201 (kk := (fun H locs hS => ?_))
            obtain ⟨_, hc, h⟩ := zob h
            obtain ⟨f40, hx, h⟩ := zob h
            refine z_callV (ci := 6) (T := TX6) (N := 4) (rest := []) B hS (mX6_add l G hx) zy_X6_add zk_1158 (by omega) hc rfl rfl hl rfl (Nat.le_of_ble_eq_true rfl) dX7_readOne_204 (kk := (fun H locs hS => ?_))
            refine lv_goto (tgt := 300) he hb dX7_readOne_207 (by decide) ?_
            obtain rfl := Option.some.inj h
            exact z_vret B hS dX7_readOne_300
        · rw [if_pos hc] at h
          refine z_aload_n he hb dX7_readOne_148 rfl (lv_at hl 1 rfl) (zref_r _ _) ?_
          refine lv_iload_n he hb dX7_readOne_149 rfl (lv_at hl 2 rfl) ?_
          refine lv_iconst (v := (1 : Int32)) he hb dX7_readOne_150 (by decide) ?_
          refine lv_iadd he hb dX7_readOne_151 ?_
          obtain ⟨_, hc, h⟩ := zob h
          obtain ⟨f41, hx, h⟩ := zob h
          refine z_callV (ci := 7) (T := TX7) (N := 4) (rest := []) B hS (hone _ _ _ _ hx) zy_X7_readOne zk_1150 (by omega) hc rfl rfl hl rfl (Nat.le_of_ble_eq_true rfl) dX7_readOne_152 (kk := (fun H locs hS => ?_))
          refine z_aload_n he hb dX7_readOne_155 rfl (lv_at hl 1 rfl) (zref_r _ _) ?_
          obtain ⟨x42, hx, h⟩ := zob h
          refine z_getR (ci := 7) (T := TX7) (N := 4) (j := 2) B hS hx rfl zin_X7 (by decide) zk_380 dX7_readOne_156 ?_
          refine lv_bipush (v := (18 : Int32)) he hb dX7_readOne_159 (by decide) ?_
          refine lv_iconst (v := (0 : Int32)) he hb dX7_readOne_161 (by decide) ?_
          refine lv_iconst (v := (0 : Int32)) he hb dX7_readOne_162 (by decide) ?_
          obtain ⟨_, hc, h⟩ := zob h
          obtain ⟨f43, hx, h⟩ := zob h
          refine z_callV (ci := 6) (T := TX6) (N := 4) (rest := []) B hS (mX6_add l G hx) zy_X6_add zk_1158 (by omega) hc rfl rfl hl rfl (Nat.le_of_ble_eq_true rfl) dX7_readOne_163 (kk := (fun H locs hS => ?_))
          refine lv_goto (tgt := 300) he hb dX7_readOne_166 (by decide) ?_
          obtain rfl := Option.some.inj h
          exact z_vret B hS dX7_readOne_300
      · rw [if_neg hc] at h
        refine z_aload_n he hb dX7_readOne_122 rfl (lv_at hl 1 rfl) (zref_r _ _) ?_
        refine lv_iload_n he hb dX7_readOne_123 rfl (lv_at hl 2 rfl) ?_
        refine lv_iconst (v := (1 : Int32)) he hb dX7_readOne_124 (by decide) ?_
        refine lv_iadd he hb dX7_readOne_125 ?_
        obtain ⟨_, hc, h⟩ := zob h
        obtain ⟨f44, hx, h⟩ := zob h
        refine z_callV (ci := 7) (T := TX7) (N := 4) (rest := []) B hS (hcond _ _ _ _ hx) zy_X7_readCond zk_1146 (by omega) hc rfl rfl hl rfl (Nat.le_of_ble_eq_true rfl) dX7_readOne_126 (kk := (fun H locs hS => ?_))
        refine z_aload_n he hb dX7_readOne_129 rfl (lv_at hl 1 rfl) (zref_r _ _) ?_
        obtain ⟨x45, hx, h⟩ := zob h
        refine z_getR (ci := 7) (T := TX7) (N := 4) (j := 0) B hS hx rfl zin_X7 (by decide) zk_378 dX7_readOne_130 ?_
        refine lv_bipush (v := (41 : Int32)) he hb dX7_readOne_133 (by decide) ?_
        obtain ⟨_, hc, h⟩ := zob h
        obtain ⟨f46, hx, h⟩ := zob h
        refine z_callV (ci := 9) (T := TX9) (N := 12) (rest := []) B hS (mX9_needSign l G hx) zy_X9_needSign zk_1157 (by omega) hc rfl rfl hl rfl (Nat.le_of_ble_eq_true rfl) dX7_readOne_135 (kk := (fun H locs hS => ?_))
        refine lv_goto (tgt := 300) he hb dX7_readOne_138 (by decide) ?_
        obtain rfl := Option.some.inj h
        exact z_vret B hS dX7_readOne_300
    · rw [if_neg hc] at h
      exact gX7_readOne_83 l B hD hone hcond _ _ _ _ _ h hS (lv_sub hl [0] rfl)
def fX7_readOne_50 (one cond : zF → Nat → Int32 → Option zF) (N n : Nat) (f : zF) (a0 : Nat) (a1 : Int32) (a2 : Int32) (t0 : Int32) : Option zF :=
    (if a2 = 0 then (if t0 = 0 then ((zgR n f 7 a0 0).bind fun x47 => ((zck n f 9 x47).bind fun _ => ((fX9_fail N n f x47 (1 : Int32)).bind fun f48 => some f48))) else (fX7_readOne_68 one cond N n f a0 a1 a2)) else (fX7_readOne_68 one cond N n f a0 a1 a2))
set_option maxRecDepth 100000 in
set_option maxHeartbeats 4000000 in
theorem gX7_readOne_50 (l : Launch) {G : zG} {p : Program} {e : Env} {s : State} {m : MethodId} {args : Array Value} {below : List Frame} {meth : Method} {c : Code} {N n : Nat} {f9 : zF} (B : zB G p s m args meth c RX7 cX7_readOne 6 (none)) {D : Nat} {one cond : zF → Nat → Int32 → Option zF} (hD : 8 ≤ D) (hone : zOne l G n D one) (hcond : zCond l G n (D + 1) cond) : ∀ (f : zF) (a0 : Nat) (a1 : Int32) (a2 : Int32) (t0 : Int32) (H : Heap) (locs : List Loc) (ls : Array Slot), fX7_readOne_50 one cond N n f a0 a1 a2 t0 = some f9 → zS G n f H locs → lv_has ls 6 [(0, zr G a0), (1, .int a1), (2, .int a2)] → W p l e (zrm (D + 2)) s m args below meth c H locs 0 0 (MQ below (zQc G n f9 (none)) args s 0 0 (zA G)) (F0 m 50 ls [.int t0]) := by
  have he := B.1
  have hb := B.2.1
  intro f a0 a1 a2 t0 H locs ls h hS hl
  unfold fX7_readOne_50 at h
  refine lv_istore_n (lv' := [(3, _), (0, _), (1, _), (2, _)]) he hb dX7_readOne_50 rfl hl (by decide) rfl (fun ls hl => ?_)
  refine lv_iload_n he hb dX7_readOne_51 rfl (lv_at hl 3 rfl) ?_
  refine lv_if_ne (tgt := 68) he hb dX7_readOne_52 (by decide) (fun hc => ?_) (fun hc => ?_)
  · rw [if_neg hc] at h
    exact gX7_readOne_68 l B hD hone hcond _ _ _ _ _ _ _ h hS (lv_sub hl [1, 2, 3] rfl)
  · rw [if_pos hc] at h
    refine lv_iload_n he hb dX7_readOne_55 rfl (lv_at hl 0 rfl) ?_
    refine lv_if_ne (tgt := 68) he hb dX7_readOne_56 (by decide) (fun hc => ?_) (fun hc => ?_)
    · rw [if_neg hc] at h
      exact gX7_readOne_68 l B hD hone hcond _ _ _ _ _ _ _ h hS (lv_sub hl [1, 2, 3] rfl)
    · rw [if_pos hc] at h
      refine z_aload_n he hb dX7_readOne_59 rfl (lv_at hl 1 rfl) (zref_r _ _) ?_
      obtain ⟨x47, hx, h⟩ := zob h
      refine z_getR (ci := 7) (T := TX7) (N := 4) (j := 0) B hS hx rfl zin_X7 (by decide) zk_378 dX7_readOne_60 ?_
      refine lv_iconst (v := (1 : Int32)) he hb dX7_readOne_63 (by decide) ?_
      obtain ⟨_, hc, h⟩ := zob h
      obtain ⟨f48, hx, h⟩ := zob h
      refine z_callV (ci := 9) (T := TX9) (N := 12) (rest := []) B hS (mX9_fail l G hx) zy_X9_fail zk_1155 (by omega) hc rfl rfl hl rfl (Nat.le_of_ble_eq_true rfl) dX7_readOne_64 (kk := (fun H locs hS => ?_))
      obtain rfl := Option.some.inj h
      exact z_vret B hS dX7_readOne_67
def fX7_readOne_49 (one cond : zF → Nat → Int32 → Option zF) (N n : Nat) (f : zF) (a0 : Nat) (a1 : Int32) (a2 : Int32) : Option zF :=
    (fX7_readOne_50 one cond N n f a0 a1 a2 (0 : Int32))
set_option maxRecDepth 100000 in
set_option maxHeartbeats 4000000 in
theorem gX7_readOne_49 (l : Launch) {G : zG} {p : Program} {e : Env} {s : State} {m : MethodId} {args : Array Value} {below : List Frame} {meth : Method} {c : Code} {N n : Nat} {f9 : zF} (B : zB G p s m args meth c RX7 cX7_readOne 6 (none)) {D : Nat} {one cond : zF → Nat → Int32 → Option zF} (hD : 8 ≤ D) (hone : zOne l G n D one) (hcond : zCond l G n (D + 1) cond) : ∀ (f : zF) (a0 : Nat) (a1 : Int32) (a2 : Int32) (H : Heap) (locs : List Loc) (ls : Array Slot), fX7_readOne_49 one cond N n f a0 a1 a2 = some f9 → zS G n f H locs → lv_has ls 6 [(0, zr G a0), (1, .int a1), (2, .int a2)] → W p l e (zrm (D + 2)) s m args below meth c H locs 0 0 (MQ below (zQc G n f9 (none)) args s 0 0 (zA G)) (F0 m 49 ls []) := by
  have he := B.1
  have hb := B.2.1
  intro f a0 a1 a2 H locs ls h hS hl
  unfold fX7_readOne_49 at h
  refine lv_iconst (v := (0 : Int32)) he hb dX7_readOne_49 (by decide) ?_
  exact gX7_readOne_50 l B hD hone hcond _ _ _ _ _ _ _ _ h hS (lv_sub hl [0, 1, 2] rfl)
def fX7_readOne (one cond : zF → Nat → Int32 → Option zF) (N n : Nat) (f : zF) (a0 : Nat) (a1 : Int32) : Option zF :=
    ((zgR n f 7 a0 0).bind fun x1 => ((zck n f 9 x1).bind fun _ => ((fX9_isSign N n f x1 (40 : Int32)).bind fun x2 => ((zgR n f 7 a0 0).bind fun x3 => ((zgI n f 9 x3 5).bind fun x4 => (if x4 = (2 : Int32) then ((zgR n f 7 a0 0).bind fun x49 => ((zgI n f 9 x49 8).bind fun x50 => (if x50 < (18 : Int32) then (fX7_readOne_49 one cond N n f a0 a1 x2) else ((zgR n f 7 a0 0).bind fun x51 => ((zgI n f 9 x51 8).bind fun x52 => (if (26 : Int32) < x52 then (fX7_readOne_49 one cond N n f a0 a1 x2) else (fX7_readOne_50 one cond N n f a0 a1 x2 (1 : Int32)))))))) else (fX7_readOne_49 one cond N n f a0 a1 x2)))))))
set_option maxRecDepth 100000 in
set_option maxHeartbeats 4000000 in
theorem mX7_readOne (l : Launch) (G : zG) {N n : Nat} {f : zF} {f9 : zF} {a0 : Nat} {a1 : Int32}  {D : Nat} {one cond : zF → Nat → Int32 → Option zF} (hD : 8 ≤ D) (hone : zOne l G n D one) (hcond : zCond l G n (D + 1) cond) (h : fX7_readOne one cond N n f a0 a1 = some f9) : zM l G yX7_readOne cX7_readOne 6 (none) (D + 2) n f [zr G a0, .int a1] (none) f9 := by
  refine zM.of (by decide) (Nat.le_of_ble_eq_true rfl) ?_
  intro p e s m args below meth c locs ls B hS hl
  have he := B.1
  have hb := B.2.1
  have hl : lv_has ls 6 [(0, zr G a0), (1, .int a1)] := hl
  unfold fX7_readOne at h
  generalize s.heap = H at hS ⊢
  refine z_aload_n he hb dX7_readOne_0 rfl (lv_at hl 0 rfl) (zref_r _ _) ?_
  obtain ⟨x1, hx, h⟩ := zob h
  refine z_getR (ci := 7) (T := TX7) (N := 4) (j := 0) B hS hx rfl zin_X7 (by decide) zk_378 dX7_readOne_1 ?_
  refine lv_bipush (v := (40 : Int32)) he hb dX7_readOne_4 (by decide) ?_
  obtain ⟨_, hc, h⟩ := zob h
  obtain ⟨x2, hx, h⟩ := zob h
  refine z_callV (ci := 9) (T := TX9) (N := 12) (rest := []) B hS (mX9_isSign l G hx) zy_X9_isSign zk_1154 (by omega) hc rfl rfl hl rfl (Nat.le_of_ble_eq_true rfl) dX7_readOne_6 (kk := (fun H locs hS => ?_))
  refine lv_istore_n (lv' := [(2, _), (0, _), (1, _)]) he hb dX7_readOne_9 rfl hl (by decide) rfl (fun ls hl => ?_)
  refine z_aload_n he hb dX7_readOne_10 rfl (lv_at hl 1 rfl) (zref_r _ _) ?_
  obtain ⟨x3, hx, h⟩ := zob h
  refine z_getR (ci := 7) (T := TX7) (N := 4) (j := 0) B hS hx rfl zin_X7 (by decide) zk_378 dX7_readOne_11 ?_
  obtain ⟨x4, hx, h⟩ := zob h
  refine z_getI (ci := 9) (T := TX9) (N := 12) (j := 5) B hS hx rfl zin_X9 (by decide) zk_101 dX7_readOne_14 ?_
  refine lv_iconst (v := (2 : Int32)) he hb dX7_readOne_17 (by decide) ?_
  refine lv_icmp_ne (tgt := 49) he hb dX7_readOne_18 (by decide) (fun hc => ?_) (fun hc => ?_)
  · rw [if_neg hc] at h
    exact gX7_readOne_49 l B hD hone hcond _ _ _ _ _ _ _ h hS (lv_sub hl [1, 2, 0] rfl)
  · rw [if_pos hc] at h
    refine z_aload_n he hb dX7_readOne_21 rfl (lv_at hl 1 rfl) (zref_r _ _) ?_
    obtain ⟨x49, hx, h⟩ := zob h
    refine z_getR (ci := 7) (T := TX7) (N := 4) (j := 0) B hS hx rfl zin_X7 (by decide) zk_378 dX7_readOne_22 ?_
    obtain ⟨x50, hx, h⟩ := zob h
    refine z_getI (ci := 9) (T := TX9) (N := 12) (j := 8) B hS hx rfl zin_X9 (by decide) zk_107 dX7_readOne_25 ?_
    refine lv_bipush (v := (18 : Int32)) he hb dX7_readOne_28 (by decide) ?_
    refine lv_icmp_lt (tgt := 49) he hb dX7_readOne_30 (by decide) (fun hc => ?_) (fun hc => ?_)
    · rw [if_pos hc] at h
      exact gX7_readOne_49 l B hD hone hcond _ _ _ _ _ _ _ h hS (lv_sub hl [1, 2, 0] rfl)
    · rw [if_neg hc] at h
      refine z_aload_n he hb dX7_readOne_33 rfl (lv_at hl 1 rfl) (zref_r _ _) ?_
      obtain ⟨x51, hx, h⟩ := zob h
      refine z_getR (ci := 7) (T := TX7) (N := 4) (j := 0) B hS hx rfl zin_X7 (by decide) zk_378 dX7_readOne_34 ?_
      obtain ⟨x52, hx, h⟩ := zob h
      refine z_getI (ci := 9) (T := TX9) (N := 12) (j := 8) B hS hx rfl zin_X9 (by decide) zk_107 dX7_readOne_37 ?_
      refine lv_bipush (v := (26 : Int32)) he hb dX7_readOne_40 (by decide) ?_
      refine lv_icmp_gt (tgt := 49) he hb dX7_readOne_42 (by decide) (fun hc => ?_) (fun hc => ?_)
      · rw [if_pos hc] at h
        exact gX7_readOne_49 l B hD hone hcond _ _ _ _ _ _ _ h hS (lv_sub hl [1, 2, 0] rfl)
      · rw [if_neg hc] at h
        refine lv_iconst (v := (1 : Int32)) he hb dX7_readOne_45 (by decide) ?_
        refine lv_goto (tgt := 50) he hb dX7_readOne_46 (by decide) ?_
        exact gX7_readOne_50 l B hD hone hcond _ _ _ _ _ _ _ _ h hS (lv_sub hl [1, 2, 0] rfl)
/-- one ONE, k levels further in at the most -/
def zfOne (N n : Nat) : Nat → zF → Nat → Int32 → Option zF
  | 0, _, _, _ => none
  | k + 1, f, a, b => fX7_readOne (zfOne N n k) (fun f a b => fX7_readCond (zfOne N n k) N n f a b) N n f a b
theorem zfOne_ok (l : Launch) (G : zG) (N n : Nat) : ∀ k : Nat, zOne l G n (8 + 2 * k) (zfOne N n k) := by
  intro k
  induction k with
  | zero =>
    intro f a b f9 h
    cases h
  | succ k ih =>
    intro f a b f9 h
    exact mX7_readOne l G (D := 8 + 2 * k) (by omega) ih (fun f a b f9 h => mX7_readCond l G (D := 8 + 2 * k) (by omega) ih h) h
/-- a whole COND -/
def zfCond (N n : Nat) (f : zF) (a : Nat) (b : Int32) : Option zF := fX7_readCond (zfOne N n 12) N n f a b
theorem zfCond_ok (l : Launch) (G : zG) (N n : Nat) : zCond l G n 33 (zfCond N n) := fun f a b f9 h => mX7_readCond l G (D := 32) (by omega) (zfOne_ok l G N n 12) h
theorem dX7_read_0 : decode cX7_read 0 = .ok (.aload_n 0, 1) := by decide +kernel
theorem dX7_read_1 : decode cX7_read 1 = .ok (.iconst 0, 1) := by decide +kernel
theorem dX7_read_2 : decode cX7_read 2 = .ok (.putfield 26, 3) := by decide +kernel
theorem dX7_read_5 : decode cX7_read 5 = .ok (.aload_n 0, 1) := by decide +kernel
theorem dX7_read_6 : decode cX7_read 6 = .ok (.getfield 12, 3) := by decide +kernel
theorem dX7_read_9 : decode cX7_read 9 = .ok (.invokevirtual 30, 3) := by decide +kernel
theorem dX7_read_12 : decode cX7_read 12 = .ok (.aload_n 0, 1) := by decide +kernel
theorem dX7_read_13 : decode cX7_read 13 = .ok (.getfield 18, 3) := by decide +kernel
theorem dX7_read_16 : decode cX7_read 16 = .ok (.sipush 200, 3) := by decide +kernel
theorem dX7_read_19 : decode cX7_read 19 = .ok (.invokevirtual 33, 3) := by decide +kernel
theorem dX7_read_22 : decode cX7_read 22 = .ok (.aload_n 0, 1) := by decide +kernel
theorem dX7_read_23 : decode cX7_read 23 = .ok (.iconst 1, 1) := by decide +kernel
theorem dX7_read_24 : decode cX7_read 24 = .ok (.invokevirtual 39, 3) := by decide +kernel
theorem dX7_read_27 : decode cX7_read 27 = .ok (.aload_n 0, 1) := by decide +kernel
theorem dX7_read_28 : decode cX7_read 28 = .ok (.getfield 18, 3) := by decide +kernel
theorem dX7_read_31 : decode cX7_read 31 = .ok (.invokevirtual 42, 3) := by decide +kernel
theorem dX7_read_34 : decode cX7_read 34 = .ok (.ifCond .eq 11, 3) := by decide +kernel
theorem dX7_read_37 : decode cX7_read 37 = .ok (.aload_n 0, 1) := by decide +kernel
theorem dX7_read_38 : decode cX7_read 38 = .ok (.getfield 18, 3) := by decide +kernel
theorem dX7_read_41 : decode cX7_read 41 = .ok (.iconst 1, 1) := by decide +kernel
theorem dX7_read_42 : decode cX7_read 42 = .ok (.invokevirtual 46, 3) := by decide +kernel
theorem dX7_read_45 : decode cX7_read 45 = .ok (.aload_n 0, 1) := by decide +kernel
theorem dX7_read_46 : decode cX7_read 46 = .ok (.getfield 26, 3) := by decide +kernel
theorem dX7_read_49 : decode cX7_read 49 = .ok (.ireturn, 1) := by decide +kernel
theorem dX11_sentence_0 : decode cX11_sentence 0 = .ok (.aload_n 0, 1) := by decide +kernel
theorem dX11_sentence_1 : decode cX11_sentence 1 = .ok (.getfield 63, 3) := by decide +kernel
theorem dX11_sentence_4 : decode cX11_sentence 4 = .ok (.invokevirtual 384, 3) := by decide +kernel
theorem dX11_sentence_7 : decode cX11_sentence 7 = .ok (.istore_n 1, 1) := by decide +kernel
theorem dX11_sentence_8 : decode cX11_sentence 8 = .ok (.aload_n 0, 1) := by decide +kernel
theorem dX11_sentence_9 : decode cX11_sentence 9 = .ok (.getfield 10, 3) := by decide +kernel
theorem dX11_sentence_12 : decode cX11_sentence 12 = .ok (.iconst 0, 1) := by decide +kernel
theorem dX11_sentence_13 : decode cX11_sentence 13 = .ok (.putfield 102, 3) := by decide +kernel
theorem dX11_sentence_16 : decode cX11_sentence 16 = .ok (.aload_n 0, 1) := by decide +kernel
theorem dX11_sentence_17 : decode cX11_sentence 17 = .ok (.getfield 94, 3) := by decide +kernel
theorem dX11_sentence_20 : decode cX11_sentence 20 = .ok (.aload_n 0, 1) := by decide +kernel
theorem dX11_sentence_21 : decode cX11_sentence 21 = .ok (.getfield 10, 3) := by decide +kernel
theorem dX11_sentence_24 : decode cX11_sentence 24 = .ok (.getfield 114, 3) := by decide +kernel
theorem dX11_sentence_27 : decode cX11_sentence 27 = .ok (.putfield 117, 3) := by decide +kernel
theorem dX11_sentence_30 : decode cX11_sentence 30 = .ok (.aload_n 0, 1) := by decide +kernel
theorem dX11_sentence_31 : decode cX11_sentence 31 = .ok (.getfield 10, 3) := by decide +kernel
theorem dX11_sentence_34 : decode cX11_sentence 34 = .ok (.getfield 114, 3) := by decide +kernel
theorem dX11_sentence_37 : decode cX11_sentence 37 = .ok (.ifCond .eq 13, 3) := by decide +kernel
theorem dX11_sentence_40 : decode cX11_sentence 40 = .ok (.iconst (-1), 1) := by decide +kernel
theorem dX11_sentence_41 : decode cX11_sentence 41 = .ok (.aload_n 0, 1) := by decide +kernel
theorem dX11_sentence_42 : decode cX11_sentence 42 = .ok (.getfield 10, 3) := by decide +kernel
theorem dX11_sentence_45 : decode cX11_sentence 45 = .ok (.getfield 118, 3) := by decide +kernel
theorem dX11_sentence_48 : decode cX11_sentence 48 = .ok (.isub, 1) := by decide +kernel
theorem dX11_sentence_49 : decode cX11_sentence 49 = .ok (.ireturn, 1) := by decide +kernel
theorem dX11_sentence_50 : decode cX11_sentence 50 = .ok (.aload_n 0, 1) := by decide +kernel
theorem dX11_sentence_51 : decode cX11_sentence 51 = .ok (.getfield 38, 3) := by decide +kernel
theorem dX11_sentence_54 : decode cX11_sentence 54 = .ok (.aload_n 0, 1) := by decide +kernel
theorem dX11_sentence_55 : decode cX11_sentence 55 = .ok (.getfield 63, 3) := by decide +kernel
theorem dX11_sentence_58 : decode cX11_sentence 58 = .ok (.getfield 385, 3) := by decide +kernel
theorem dX11_sentence_61 : decode cX11_sentence 61 = .ok (.invokevirtual 386, 3) := by decide +kernel
theorem dX11_sentence_64 : decode cX11_sentence 64 = .ok (.iload_n 1, 1) := by decide +kernel
theorem dX11_sentence_65 : decode cX11_sentence 65 = .ok (.ireturn, 1) := by decide +kernel
def fX7_read_45 (N n : Nat) (f : zF) (a0 : Nat) : Option (zF × Int32) :=
    ((zgI n f 7 a0 3).bind fun x10 => some (f, x10))
set_option maxRecDepth 100000 in
set_option maxHeartbeats 4000000 in
theorem gX7_read_45 (l : Launch) {G : zG} {p : Program} {e : Env} {s : State} {m : MethodId} {args : Array Value} {below : List Frame} {meth : Method} {c : Code} {N n : Nat} {f9 : zF} {r : Int32} (B : zB G p s m args meth c RX7 cX7_read 1 (some .int)) : ∀ (f : zF) (a0 : Nat) (H : Heap) (locs : List Loc) (ls : Array Slot), fX7_read_45 N n f a0 = some (f9, r) → zS G n f H locs → lv_has ls 1 [(0, zr G a0)] → W p l e (zrm 34) s m args below meth c H locs 0 0 (MQ below (zQc G n f9 (some (.int r))) args s 0 0 (zA G)) (F0 m 45 ls []) := by
  have he := B.1
  have hb := B.2.1
  intro f a0 H locs ls h hS hl
  unfold fX7_read_45 at h
  refine z_aload_n he hb dX7_read_45 rfl (lv_at hl 0 rfl) (zref_r _ _) ?_
  obtain ⟨x10, hx, h⟩ := zob h
  refine z_getI (ci := 7) (T := TX7) (N := 4) (j := 3) B hS hx rfl zin_X7 (by decide) zk_382 dX7_read_46 ?_
  obtain ⟨rfl, rfl⟩ := Prod.mk.inj (Option.some.inj h)
  exact z_iret B hS dX7_read_49
def fX7_read (N n : Nat) (f : zF) (a0 : Nat) : Option (zF × Int32) :=
    ((zpI n f 7 a0 3 (0 : Int32)).bind fun f1 => ((zgR n f1 7 a0 2).bind fun x2 => ((zck n f1 6 x2).bind fun _ => ((fX6_clear N n f1 x2).bind fun f3 => ((zgR n f3 7 a0 0).bind fun x4 => ((zck n f3 9 x4).bind fun _ => ((fX9_start N n f3 x4 (200 : Int32)).bind fun f5 => ((zck n f5 7 a0).bind fun _ => ((zfCond N n f5 a0 (1 : Int32)).bind fun f6 => ((zgR n f6 7 a0 0).bind fun x7 => ((zck n f6 9 x7).bind fun _ => (zbd (fX9_goesOn N n f6 x7) fun f9 x8 => (if x8 = 0 then (fX7_read_45 N n f9 a0) else ((zgR n f9 7 a0 0).bind fun x11 => ((zck n f9 9 x11).bind fun _ => ((fX9_fail N n f9 x11 (1 : Int32)).bind fun f12 => (fX7_read_45 N n f12 a0)))))))))))))))))
set_option maxRecDepth 100000 in
set_option maxHeartbeats 4000000 in
theorem mX7_read (l : Launch) (G : zG) {N n : Nat} {f : zF} {f9 : zF} {r : Int32} {a0 : Nat}  (h : fX7_read N n f a0 = some (f9, r)) : zM l G yX7_read cX7_read 1 (some .int) 34 n f [zr G a0] (some (.int r)) f9 := by
  refine zM.of (by decide) (Nat.le_of_ble_eq_true rfl) ?_
  intro p e s m args below meth c locs ls B hS hl
  have he := B.1
  have hb := B.2.1
  have hl : lv_has ls 1 [(0, zr G a0)] := hl
  unfold fX7_read at h
  generalize s.heap = H at hS ⊢
  refine z_aload_n he hb dX7_read_0 rfl (lv_at hl 0 rfl) (zref_r _ _) ?_
  refine lv_iconst (v := (0 : Int32)) he hb dX7_read_1 (by decide) ?_
  obtain ⟨f1, hx, h⟩ := zob h
  refine z_putI (ci := 7) (T := TX7) (N := 4) (j := 3) B hS hx rfl zin_X7 tyX7 tyX7_ok nmX7 (by decide) zk_382 rfl rfl dX7_read_2 (fun H locs hS => ?_)
  refine z_aload_n he hb dX7_read_5 rfl (lv_at hl 0 rfl) (zref_r _ _) ?_
  obtain ⟨x2, hx, h⟩ := zob h
  refine z_getR (ci := 7) (T := TX7) (N := 4) (j := 2) B hS hx rfl zin_X7 (by decide) zk_380 dX7_read_6 ?_
  obtain ⟨_, hc, h⟩ := zob h
  obtain ⟨f3, hx, h⟩ := zob h
  refine z_callV (ci := 6) (T := TX6) (N := 4) (rest := []) B hS (mX6_clear l G hx) zy_X6_clear zk_1144 (by decide) hc rfl rfl hl rfl (Nat.le_of_ble_eq_true rfl) dX7_read_9 (kk := (fun H locs hS => ?_))
  refine z_aload_n he hb dX7_read_12 rfl (lv_at hl 0 rfl) (zref_r _ _) ?_
  obtain ⟨x4, hx, h⟩ := zob h
  refine z_getR (ci := 7) (T := TX7) (N := 4) (j := 0) B hS hx rfl zin_X7 (by decide) zk_378 dX7_read_13 ?_
  refine lv_sipush (v := (200 : Int32)) he hb dX7_read_16 (by decide) ?_
  obtain ⟨_, hc, h⟩ := zob h
  obtain ⟨f5, hx, h⟩ := zob h
  refine z_callV (ci := 9) (T := TX9) (N := 12) (rest := []) B hS (mX9_start l G hx) zy_X9_start zk_1145 (by decide) hc rfl rfl hl rfl (Nat.le_of_ble_eq_true rfl) dX7_read_19 (kk := (fun H locs hS => ?_))
  refine z_aload_n he hb dX7_read_22 rfl (lv_at hl 0 rfl) (zref_r _ _) ?_
  refine lv_iconst (v := (1 : Int32)) he hb dX7_read_23 (by decide) ?_
  obtain ⟨_, hc, h⟩ := zob h
  obtain ⟨f6, hx, h⟩ := zob h
  refine z_callV (ci := 7) (T := TX7) (N := 4) (rest := []) B hS ((zfCond_ok l G N n) _ _ _ _ hx) zy_X7_readCond zk_1146 (by decide) hc rfl rfl hl rfl (Nat.le_of_ble_eq_true rfl) dX7_read_24 (kk := (fun H locs hS => ?_))
  refine z_aload_n he hb dX7_read_27 rfl (lv_at hl 0 rfl) (zref_r _ _) ?_
  obtain ⟨x7, hx, h⟩ := zob h
  refine z_getR (ci := 7) (T := TX7) (N := 4) (j := 0) B hS hx rfl zin_X7 (by decide) zk_378 dX7_read_28 ?_
  obtain ⟨_, hc, h⟩ := zob h
  obtain ⟨f9, x8, hx, h⟩ := zbd_i h
  refine z_callV (ci := 9) (T := TX9) (N := 12) (rest := []) B hS (mX9_goesOn l G hx) zy_X9_goesOn zk_1170 (by decide) hc rfl rfl hl rfl (Nat.le_of_ble_eq_true rfl) dX7_read_31 (kk := (fun H locs hS => ?_))
  refine lv_if_eq (tgt := 45) he hb dX7_read_34 (by decide) (fun hc => ?_) (fun hc => ?_)
  · rw [if_pos hc] at h
    exact gX7_read_45 l B _ _ _ _ _ h hS (lv_sub hl [0] rfl)
  · rw [if_neg hc] at h
    refine z_aload_n he hb dX7_read_37 rfl (lv_at hl 0 rfl) (zref_r _ _) ?_
    obtain ⟨x11, hx, h⟩ := zob h
    refine z_getR (ci := 7) (T := TX7) (N := 4) (j := 0) B hS hx rfl zin_X7 (by decide) zk_378 dX7_read_38 ?_
    refine lv_iconst (v := (1 : Int32)) he hb dX7_read_41 (by decide) ?_
    obtain ⟨_, hc, h⟩ := zob h
    obtain ⟨f12, hx, h⟩ := zob h
    refine z_callV (ci := 9) (T := TX9) (N := 12) (rest := []) B hS (mX9_fail l G hx) zy_X9_fail zk_1155 (by decide) hc rfl rfl hl rfl (Nat.le_of_ble_eq_true rfl) dX7_read_42 (kk := (fun H locs hS => ?_))
    exact gX7_read_45 l B _ _ _ _ _ h hS (lv_sub hl [0] rfl)
def fX11_sentence (N n : Nat) (f : zF) (a0 : Nat) : Option (zF × Int32) :=
    ((zgR n f 11 a0 7).bind fun x1 => ((zck n f 7 x1).bind fun _ => (zbd (fX7_read N n f x1) fun f3 x2 => ((zgR n f3 11 a0 0).bind fun x4 => ((zpI n f3 9 x4 2 (0 : Int32)).bind fun f5 => ((zgR n f5 11 a0 12).bind fun x6 => ((zgR n f5 11 a0 0).bind fun x7 => ((zgI n f5 9 x7 10).bind fun x8 => ((zpI n f5 0 x6 0 x8).bind fun f9 => ((zgR n f9 11 a0 0).bind fun x10 => ((zgI n f9 9 x10 10).bind fun x11 => (if x11 = 0 then ((zgR n f9 11 a0 4).bind fun x12 => ((zgR n f9 11 a0 7).bind fun x13 => ((zgR n f9 7 x13 2).bind fun x14 => ((zck n f9 6 x12).bind fun _ => ((fX6_copyFrom N n f9 x12 x14).bind fun f15 => some (f15, x2)))))) else ((zgR n f9 11 a0 0).bind fun x16 => ((zgI n f9 9 x16 11).bind fun x17 => some (f9, ((-1 : Int32) - x17))))))))))))))))
set_option maxRecDepth 100000 in
set_option maxHeartbeats 4000000 in
theorem mX11_sentence (l : Launch) (G : zG) {N n : Nat} {f : zF} {f9 : zF} {r : Int32} {a0 : Nat}  (h : fX11_sentence N n f a0 = some (f9, r)) : zM l G yX11_sentence cX11_sentence 2 (some .int) 35 n f [zr G a0] (some (.int r)) f9 := by
  refine zM.of (by decide) (Nat.le_of_ble_eq_true rfl) ?_
  intro p e s m args below meth c locs ls B hS hl
  have he := B.1
  have hb := B.2.1
  have hl : lv_has ls 2 [(0, zr G a0)] := hl
  unfold fX11_sentence at h
  generalize s.heap = H at hS ⊢
  refine z_aload_n he hb dX11_sentence_0 rfl (lv_at hl 0 rfl) (zref_r _ _) ?_
  obtain ⟨x1, hx, h⟩ := zob h
  refine z_getR (ci := 11) (T := TX11) (N := 14) (j := 7) B hS hx rfl zin_X11 (by decide) zk_515 dX11_sentence_1 ?_
  obtain ⟨_, hc, h⟩ := zob h
  obtain ⟨f3, x2, hx, h⟩ := zbd_i h
  refine z_callV (ci := 7) (T := TX7) (N := 4) (rest := []) B hS (mX7_read l G hx) zy_X7_read zk_1140 (by decide) hc rfl rfl hl rfl (Nat.le_of_ble_eq_true rfl) dX11_sentence_4 (kk := (fun H locs hS => ?_))
  refine lv_istore_n (lv' := [(1, _), (0, _)]) he hb dX11_sentence_7 rfl hl (by decide) rfl (fun ls hl => ?_)
  refine z_aload_n he hb dX11_sentence_8 rfl (lv_at hl 1 rfl) (zref_r _ _) ?_
  obtain ⟨x4, hx, h⟩ := zob h
  refine z_getR (ci := 11) (T := TX11) (N := 14) (j := 0) B hS hx rfl zin_X11 (by decide) zk_508 dX11_sentence_9 ?_
  refine lv_iconst (v := (0 : Int32)) he hb dX11_sentence_12 (by decide) ?_
  obtain ⟨f5, hx, h⟩ := zob h
  refine z_putI (ci := 9) (T := TX9) (N := 12) (j := 2) B hS hx rfl zin_X9 tyX9 tyX9_ok nmX9 (by decide) zk_95 rfl rfl dX11_sentence_13 (fun H locs hS => ?_)
  refine z_aload_n he hb dX11_sentence_16 rfl (lv_at hl 1 rfl) (zref_r _ _) ?_
  obtain ⟨x6, hx, h⟩ := zob h
  refine z_getR (ci := 11) (T := TX11) (N := 14) (j := 12) B hS hx rfl zin_X11 (by decide) zk_520 dX11_sentence_17 ?_
  refine z_aload_n he hb dX11_sentence_20 rfl (lv_at hl 1 rfl) (zref_r _ _) ?_
  obtain ⟨x7, hx, h⟩ := zob h
  refine z_getR (ci := 11) (T := TX11) (N := 14) (j := 0) B hS hx rfl zin_X11 (by decide) zk_508 dX11_sentence_21 ?_
  obtain ⟨x8, hx, h⟩ := zob h
  refine z_getI (ci := 9) (T := TX9) (N := 12) (j := 10) B hS hx rfl zin_X9 (by decide) zk_114 dX11_sentence_24 ?_
  obtain ⟨f9, hx, h⟩ := zob h
  refine z_putI (ci := 0) (T := TX0) (N := 9) (j := 0) B hS hx rfl zin_X0 tyX0 tyX0_ok nmX0 (by decide) zk_473 rfl rfl dX11_sentence_27 (fun H locs hS => ?_)
  refine z_aload_n he hb dX11_sentence_30 rfl (lv_at hl 1 rfl) (zref_r _ _) ?_
  obtain ⟨x10, hx, h⟩ := zob h
  refine z_getR (ci := 11) (T := TX11) (N := 14) (j := 0) B hS hx rfl zin_X11 (by decide) zk_508 dX11_sentence_31 ?_
  obtain ⟨x11, hx, h⟩ := zob h
  refine z_getI (ci := 9) (T := TX9) (N := 12) (j := 10) B hS hx rfl zin_X9 (by decide) zk_114 dX11_sentence_34 ?_
  refine lv_if_eq (tgt := 50) he hb dX11_sentence_37 (by decide) (fun hc => ?_) (fun hc => ?_)
  · rw [if_pos hc] at h
    refine z_aload_n he hb dX11_sentence_50 rfl (lv_at hl 1 rfl) (zref_r _ _) ?_
    obtain ⟨x12, hx, h⟩ := zob h
    refine z_getR (ci := 11) (T := TX11) (N := 14) (j := 4) B hS hx rfl zin_X11 (by decide) zk_512 dX11_sentence_51 ?_
    refine z_aload_n he hb dX11_sentence_54 rfl (lv_at hl 1 rfl) (zref_r _ _) ?_
    obtain ⟨x13, hx, h⟩ := zob h
    refine z_getR (ci := 11) (T := TX11) (N := 14) (j := 7) B hS hx rfl zin_X11 (by decide) zk_515 dX11_sentence_55 ?_
    obtain ⟨x14, hx, h⟩ := zob h
    refine z_getR (ci := 7) (T := TX7) (N := 4) (j := 2) B hS hx rfl zin_X7 (by decide) zk_381 dX11_sentence_58 ?_
    obtain ⟨_, hc, h⟩ := zob h
    obtain ⟨f15, hx, h⟩ := zob h
    refine z_callV (ci := 6) (T := TX6) (N := 4) (rest := []) B hS (mX6_copyFrom l G hx) zy_X6_copyFrom zk_1171 (by decide) hc rfl rfl hl rfl (Nat.le_of_ble_eq_true rfl) dX11_sentence_61 (kk := (fun H locs hS => ?_))
    refine lv_iload_n he hb dX11_sentence_64 rfl (lv_at hl 0 rfl) ?_
    obtain ⟨rfl, rfl⟩ := Prod.mk.inj (Option.some.inj h)
    exact z_iret B hS dX11_sentence_65
  · rw [if_neg hc] at h
    refine lv_iconst (v := (-1 : Int32)) he hb dX11_sentence_40 (by decide) ?_
    refine z_aload_n he hb dX11_sentence_41 rfl (lv_at hl 1 rfl) (zref_r _ _) ?_
    obtain ⟨x16, hx, h⟩ := zob h
    refine z_getR (ci := 11) (T := TX11) (N := 14) (j := 0) B hS hx rfl zin_X11 (by decide) zk_508 dX11_sentence_42 ?_
    obtain ⟨x17, hx, h⟩ := zob h
    refine z_getI (ci := 9) (T := TX9) (N := 12) (j := 11) B hS hx rfl zin_X9 (by decide) zk_116 dX11_sentence_45 ?_
    refine lv_isub he hb dX11_sentence_48 ?_
    obtain ⟨rfl, rfl⟩ := Prod.mk.inj (Option.some.inj h)
    exact z_iret B hS dX11_sentence_49
