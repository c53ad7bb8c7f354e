theorem dX12_brothers_14 : decode cX12_brothers 14 = .ok (.invokestatic 67, 3) := by decide +kernel
theorem dX12_brothers_17 : decode cX12_brothers 17 = .ok (.ifCond .eq 13, 3) := by decide +kernel
theorem dX12_brothers_20 : decode cX12_brothers 20 = .ok (.iload_n 2, 1) := by decide +kernel
theorem dX12_brothers_21 : decode cX12_brothers 21 = .ok (.i2l, 1) := by decide +kernel
theorem dX12_brothers_22 : decode cX12_brothers 22 = .ok (.lconst 0, 1) := by decide +kernel
theorem dX12_brothers_23 : decode cX12_brothers 23 = .ok (.lconst 1, 1) := by decide +kernel
theorem dX12_brothers_24 : decode cX12_brothers 24 = .ok (.invokestatic 67, 3) := by decide +kernel
theorem dX12_brothers_27 : decode cX12_brothers 27 = .ok (.ifCond .ne 5, 3) := by decide +kernel
theorem dX12_brothers_30 : decode cX12_brothers 30 = .ok (.iconst (-1), 1) := by decide +kernel
theorem dX12_brothers_31 : decode cX12_brothers 31 = .ok (.ireturn, 1) := by decide +kernel
theorem dX12_brothers_32 : decode cX12_brothers 32 = .ok (.iconst 0, 1) := by decide +kernel
theorem dX12_brothers_33 : decode cX12_brothers 33 = .ok (.istore_n 3, 1) := by decide +kernel
theorem dX12_brothers_34 : decode cX12_brothers 34 = .ok (.iconst 0, 1) := by decide +kernel
theorem dX12_brothers_35 : decode cX12_brothers 35 = .ok (.istore 4, 2) := by decide +kernel
theorem dX12_brothers_37 : decode cX12_brothers 37 = .ok (.iload 4, 2) := by decide +kernel
theorem dX12_brothers_39 : decode cX12_brothers 39 = .ok (.iconst 4, 1) := by decide +kernel
theorem dX12_brothers_40 : decode cX12_brothers 40 = .ok (.if_icmp .ge 162, 3) := by decide +kernel
theorem dX12_brothers_43 : decode cX12_brothers 43 = .ok (.iconst 0, 1) := by decide +kernel
theorem dX12_brothers_44 : decode cX12_brothers 44 = .ok (.istore 5, 2) := by decide +kernel
theorem dX12_brothers_46 : decode cX12_brothers 46 = .ok (.iconst 0, 1) := by decide +kernel
theorem dX12_brothers_47 : decode cX12_brothers 47 = .ok (.istore 6, 2) := by decide +kernel
theorem dX12_brothers_49 : decode cX12_brothers 49 = .ok (.iconst 0, 1) := by decide +kernel
theorem dX12_brothers_50 : decode cX12_brothers 50 = .ok (.istore 7, 2) := by decide +kernel
theorem dX12_brothers_52 : decode cX12_brothers 52 = .ok (.iload 7, 2) := by decide +kernel
theorem dX12_brothers_54 : decode cX12_brothers 54 = .ok (.aload_n 0, 1) := by decide +kernel
theorem dX12_brothers_55 : decode cX12_brothers 55 = .ok (.getfield 7, 3) := by decide +kernel
theorem dX12_brothers_58 : decode cX12_brothers 58 = .ok (.iconst 1, 1) := by decide +kernel
theorem dX12_brothers_59 : decode cX12_brothers 59 = .ok (.iaload, 1) := by decide +kernel
theorem dX12_brothers_60 : decode cX12_brothers 60 = .ok (.if_icmp .ge 119, 3) := by decide +kernel
theorem dX12_brothers_63 : decode cX12_brothers 63 = .ok (.aload_n 0, 1) := by decide +kernel
theorem dX12_brothers_64 : decode cX12_brothers 64 = .ok (.getfield 7, 3) := by decide +kernel
theorem dX12_brothers_67 : decode cX12_brothers 67 = .ok (.bipush 47, 2) := by decide +kernel
theorem dX12_brothers_69 : decode cX12_brothers 69 = .ok (.iload 7, 2) := by decide +kernel
theorem dX12_brothers_71 : decode cX12_brothers 71 = .ok (.iadd, 1) := by decide +kernel
theorem dX12_brothers_72 : decode cX12_brothers 72 = .ok (.iaload, 1) := by decide +kernel
theorem dX12_brothers_73 : decode cX12_brothers 73 = .ok (.iload 4, 2) := by decide +kernel
theorem dX12_brothers_75 : decode cX12_brothers 75 = .ok (.if_icmp .ne 38, 3) := by decide +kernel
theorem dX12_brothers_78 : decode cX12_brothers 78 = .ok (.aload_n 0, 1) := by decide +kernel
theorem dX12_brothers_79 : decode cX12_brothers 79 = .ok (.getfield 7, 3) := by decide +kernel
theorem dX12_brothers_82 : decode cX12_brothers 82 = .ok (.bipush 63, 2) := by decide +kernel
theorem dX12_brothers_84 : decode cX12_brothers 84 = .ok (.iload 7, 2) := by decide +kernel
theorem dX12_brothers_86 : decode cX12_brothers 86 = .ok (.iadd, 1) := by decide +kernel
theorem dX12_brothers_87 : decode cX12_brothers 87 = .ok (.iaload, 1) := by decide +kernel
theorem dX12_brothers_88 : decode cX12_brothers 88 = .ok (.ifCond .le 25, 3) := by decide +kernel
theorem dX12_brothers_91 : decode cX12_brothers 91 = .ok (.iload_n 1, 1) := by decide +kernel
theorem dX12_brothers_92 : decode cX12_brothers 92 = .ok (.aload_n 0, 1) := by decide +kernel
theorem dX12_brothers_93 : decode cX12_brothers 93 = .ok (.getfield 7, 3) := by decide +kernel
theorem dX12_brothers_96 : decode cX12_brothers 96 = .ok (.bipush 15, 2) := by decide +kernel
theorem dX12_brothers_98 : decode cX12_brothers 98 = .ok (.iload 7, 2) := by decide +kernel
theorem dX12_brothers_100 : decode cX12_brothers 100 = .ok (.iadd, 1) := by decide +kernel
theorem dX12_brothers_101 : decode cX12_brothers 101 = .ok (.iaload, 1) := by decide +kernel
theorem dX12_brothers_102 : decode cX12_brothers 102 = .ok (.ishr, 1) := by decide +kernel
theorem dX12_brothers_103 : decode cX12_brothers 103 = .ok (.iconst 1, 1) := by decide +kernel
theorem dX12_brothers_104 : decode cX12_brothers 104 = .ok (.iand, 1) := by decide +kernel
theorem dX12_brothers_105 : decode cX12_brothers 105 = .ok (.iconst 1, 1) := by decide +kernel
theorem dX12_brothers_106 : decode cX12_brothers 106 = .ok (.if_icmp .ne 7, 3) := by decide +kernel
theorem dX12_brothers_109 : decode cX12_brothers 109 = .ok (.iconst 1, 1) := by decide +kernel
theorem dX12_brothers_110 : decode cX12_brothers 110 = .ok (.goto 4, 3) := by decide +kernel
theorem dX12_brothers_113 : decode cX12_brothers 113 = .ok (.iconst 0, 1) := by decide +kernel
theorem dX12_brothers_114 : decode cX12_brothers 114 = .ok (.istore 8, 2) := by decide +kernel
theorem dX12_brothers_116 : decode cX12_brothers 116 = .ok (.iload 5, 2) := by decide +kernel
theorem dX12_brothers_118 : decode cX12_brothers 118 = .ok (.iload 8, 2) := by decide +kernel
theorem dX12_brothers_120 : decode cX12_brothers 120 = .ok (.ifCond .eq 20, 3) := by decide +kernel
theorem dX12_brothers_123 : decode cX12_brothers 123 = .ok (.aload_n 0, 1) := by decide +kernel
theorem dX12_brothers_124 : decode cX12_brothers 124 = .ok (.getfield 7, 3) := by decide +kernel
theorem dX12_brothers_127 : decode cX12_brothers 127 = .ok (.bipush 31, 2) := by decide +kernel
theorem dX12_brothers_129 : decode cX12_brothers 129 = .ok (.iload 7, 2) := by decide +kernel
theorem dX12_brothers_131 : decode cX12_brothers 131 = .ok (.iadd, 1) := by decide +kernel
theorem dX12_brothers_132 : decode cX12_brothers 132 = .ok (.iaload, 1) := by decide +kernel
theorem dX12_brothers_133 : decode cX12_brothers 133 = .ok (.ifCond .ne 7, 3) := by decide +kernel
theorem dX12_brothers_136 : decode cX12_brothers 136 = .ok (.iconst 1, 1) := by decide +kernel
theorem dX12_brothers_137 : decode cX12_brothers 137 = .ok (.goto 4, 3) := by decide +kernel
theorem dX12_brothers_140 : decode cX12_brothers 140 = .ok (.iconst 0, 1) := by decide +kernel
theorem dX12_brothers_141 : decode cX12_brothers 141 = .ok (.iadd, 1) := by decide +kernel
theorem dX12_brothers_142 : decode cX12_brothers 142 = .ok (.istore 5, 2) := by decide +kernel
theorem dX12_brothers_144 : decode cX12_brothers 144 = .ok (.iload 6, 2) := by decide +kernel
theorem dX12_brothers_146 : decode cX12_brothers 146 = .ok (.iload 8, 2) := by decide +kernel
theorem dX12_brothers_148 : decode cX12_brothers 148 = .ok (.ifCond .eq 21, 3) := by decide +kernel
theorem dX12_brothers_151 : decode cX12_brothers 151 = .ok (.aload_n 0, 1) := by decide +kernel
theorem dX12_brothers_152 : decode cX12_brothers 152 = .ok (.getfield 7, 3) := by decide +kernel
theorem dX12_brothers_155 : decode cX12_brothers 155 = .ok (.bipush 31, 2) := by decide +kernel
theorem dX12_brothers_157 : decode cX12_brothers 157 = .ok (.iload 7, 2) := by decide +kernel
theorem dX12_brothers_159 : decode cX12_brothers 159 = .ok (.iadd, 1) := by decide +kernel
theorem dX12_brothers_160 : decode cX12_brothers 160 = .ok (.iaload, 1) := by decide +kernel
theorem dX12_brothers_161 : decode cX12_brothers 161 = .ok (.iconst 1, 1) := by decide +kernel
theorem dX12_brothers_162 : decode cX12_brothers 162 = .ok (.if_icmp .ne 7, 3) := by decide +kernel
theorem dX12_brothers_165 : decode cX12_brothers 165 = .ok (.iconst 1, 1) := by decide +kernel
theorem dX12_brothers_166 : decode cX12_brothers 166 = .ok (.goto 4, 3) := by decide +kernel
theorem dX12_brothers_169 : decode cX12_brothers 169 = .ok (.iconst 0, 1) := by decide +kernel
theorem dX12_brothers_170 : decode cX12_brothers 170 = .ok (.iadd, 1) := by decide +kernel
theorem dX12_brothers_171 : decode cX12_brothers 171 = .ok (.istore 6, 2) := by decide +kernel
theorem dX12_brothers_173 : decode cX12_brothers 173 = .ok (.iinc 7 1, 3) := by decide +kernel
theorem dX12_brothers_176 : decode cX12_brothers 176 = .ok (.goto (-124), 3) := by decide +kernel
theorem dX12_brothers_179 : decode cX12_brothers 179 = .ok (.iload_n 3, 1) := by decide +kernel
theorem dX12_brothers_180 : decode cX12_brothers 180 = .ok (.iload 5, 2) := by decide +kernel
theorem dX12_brothers_182 : decode cX12_brothers 182 = .ok (.iload 6, 2) := by decide +kernel
theorem dX12_brothers_184 : decode cX12_brothers 184 = .ok (.if_icmp .ge 8, 3) := by decide +kernel
theorem dX12_brothers_187 : decode cX12_brothers 187 = .ok (.iload 5, 2) := by decide +kernel
theorem dX12_brothers_189 : decode cX12_brothers 189 = .ok (.goto 5, 3) := by decide +kernel
theorem dX12_brothers_192 : decode cX12_brothers 192 = .ok (.iload 6, 2) := by decide +kernel
theorem dX12_brothers_194 : decode cX12_brothers 194 = .ok (.iadd, 1) := by decide +kernel
theorem dX12_brothers_195 : decode cX12_brothers 195 = .ok (.istore_n 3, 1) := by decide +kernel
theorem dX12_brothers_196 : decode cX12_brothers 196 = .ok (.iinc 4 1, 3) := by decide +kernel
theorem dX12_brothers_199 : decode cX12_brothers 199 = .ok (.goto (-162), 3) := by decide +kernel
theorem dX12_brothers_202 : decode cX12_brothers 202 = .ok (.iconst 0, 1) := by decide +kernel
theorem dX12_brothers_203 : decode cX12_brothers 203 = .ok (.istore 4, 2) := by decide +kernel
theorem dX12_brothers_205 : decode cX12_brothers 205 = .ok (.iconst 0, 1) := by decide +kernel
theorem dX12_brothers_206 : decode cX12_brothers 206 = .ok (.istore 5, 2) := by decide +kernel
theorem dX12_brothers_208 : decode cX12_brothers 208 = .ok (.iload 5, 2) := by decide +kernel
theorem dX12_brothers_210 : decode cX12_brothers 210 = .ok (.aload_n 0, 1) := by decide +kernel
theorem dX12_brothers_211 : decode cX12_brothers 211 = .ok (.getfield 7, 3) := by decide +kernel
theorem dX12_brothers_214 : decode cX12_brothers 214 = .ok (.iconst 0, 1) := by decide +kernel
theorem dX12_brothers_215 : decode cX12_brothers 215 = .ok (.iaload, 1) := by decide +kernel
theorem dX12_brothers_216 : decode cX12_brothers 216 = .ok (.if_icmp .ge 42, 3) := by decide +kernel
theorem dX12_brothers_219 : decode cX12_brothers 219 = .ok (.iload 4, 2) := by decide +kernel
theorem dX12_brothers_221 : decode cX12_brothers 221 = .ok (.iload_n 1, 1) := by decide +kernel
theorem dX12_brothers_222 : decode cX12_brothers 222 = .ok (.iload 5, 2) := by decide +kernel
theorem dX12_brothers_224 : decode cX12_brothers 224 = .ok (.ishr, 1) := by decide +kernel
theorem dX12_brothers_225 : decode cX12_brothers 225 = .ok (.iconst 1, 1) := by decide +kernel
theorem dX12_brothers_226 : decode cX12_brothers 226 = .ok (.iand, 1) := by decide +kernel
theorem dX12_brothers_227 : decode cX12_brothers 227 = .ok (.iconst 1, 1) := by decide +kernel
theorem dX12_brothers_228 : decode cX12_brothers 228 = .ok (.if_icmp .ne 20, 3) := by decide +kernel
theorem dX12_brothers_231 : decode cX12_brothers 231 = .ok (.aload_n 0, 1) := by decide +kernel
theorem dX12_brothers_232 : decode cX12_brothers 232 = .ok (.getfield 7, 3) := by decide +kernel
theorem dX12_brothers_235 : decode cX12_brothers 235 = .ok (.bipush 10, 2) := by decide +kernel
theorem dX12_brothers_237 : decode cX12_brothers 237 = .ok (.iload 5, 2) := by decide +kernel
theorem dX12_brothers_239 : decode cX12_brothers 239 = .ok (.iadd, 1) := by decide +kernel
theorem dX12_brothers_240 : decode cX12_brothers 240 = .ok (.iaload, 1) := by decide +kernel
theorem dX12_brothers_241 : decode cX12_brothers 241 = .ok (.ifCond .ne 7, 3) := by decide +kernel
theorem dX12_brothers_244 : decode cX12_brothers 244 = .ok (.iconst 1, 1) := by decide +kernel
theorem dX12_brothers_245 : decode cX12_brothers 245 = .ok (.goto 4, 3) := by decide +kernel
theorem dX12_brothers_248 : decode cX12_brothers 248 = .ok (.iconst 0, 1) := by decide +kernel
theorem dX12_brothers_249 : decode cX12_brothers 249 = .ok (.iadd, 1) := by decide +kernel
theorem dX12_brothers_250 : decode cX12_brothers 250 = .ok (.istore 4, 2) := by decide +kernel
theorem dX12_brothers_252 : decode cX12_brothers 252 = .ok (.iinc 5 1, 3) := by decide +kernel
theorem dX12_brothers_255 : decode cX12_brothers 255 = .ok (.goto (-47), 3) := by decide +kernel
theorem dX12_brothers_258 : decode cX12_brothers 258 = .ok (.iload_n 2, 1) := by decide +kernel
theorem dX12_brothers_259 : decode cX12_brothers 259 = .ok (.ifCond .eq 9, 3) := by decide +kernel
theorem dX12_brothers_262 : decode cX12_brothers 262 = .ok (.iload_n 3, 1) := by decide +kernel
theorem dX12_brothers_263 : decode cX12_brothers 263 = .ok (.iload 4, 2) := by decide +kernel
theorem dX12_brothers_265 : decode cX12_brothers 265 = .ok (.if_icmp .ge 7, 3) := by decide +kernel
theorem dX12_brothers_268 : decode cX12_brothers 268 = .ok (.iload_n 3, 1) := by decide +kernel
theorem dX12_brothers_269 : decode cX12_brothers 269 = .ok (.goto 5, 3) := by decide +kernel
theorem dX12_brothers_272 : decode cX12_brothers 272 = .ok (.iload 4, 2) := by decide +kernel
theorem dX12_brothers_274 : decode cX12_brothers 274 = .ok (.ireturn, 1) := by decide +kernel
theorem dX12_image_0 : decode cX12_image 0 = .ok (.iconst 0, 1) := by decide +kernel
theorem dX12_image_1 : decode cX12_image 1 = .ok (.istore_n 1, 1) := by decide +kernel
theorem dX12_image_2 : decode cX12_image 2 = .ok (.iload_n 1, 1) := by decide +kernel
theorem dX12_image_3 : decode cX12_image 3 = .ok (.sipush 193, 3) := by decide +kernel
theorem dX12_image_6 : decode cX12_image 6 = .ok (.if_icmp .ge 21, 3) := by decide +kernel
theorem dX12_image_9 : decode cX12_image 9 = .ok (.aload_n 0, 1) := by decide +kernel
theorem dX12_image_10 : decode cX12_image 10 = .ok (.getfield 13, 3) := by decide +kernel
theorem dX12_image_13 : decode cX12_image 13 = .ok (.iload_n 1, 1) := by decide +kernel
theorem dX12_image_14 : decode cX12_image 14 = .ok (.aload_n 0, 1) := by decide +kernel
theorem dX12_image_15 : decode cX12_image 15 = .ok (.getfield 7, 3) := by decide +kernel
theorem dX12_image_18 : decode cX12_image 18 = .ok (.iload_n 1, 1) := by decide +kernel
theorem dX12_image_19 : decode cX12_image 19 = .ok (.iaload, 1) := by decide +kernel
theorem dX12_image_20 : decode cX12_image 20 = .ok (.iastore, 1) := by decide +kernel
theorem dX12_image_21 : decode cX12_image 21 = .ok (.iinc 1 1, 3) := by decide +kernel
theorem dX12_image_24 : decode cX12_image 24 = .ok (.goto (-22), 3) := by decide +kernel
theorem dX12_image_27 : decode cX12_image 27 = .ok (.aload_n 0, 1) := by decide +kernel
theorem dX12_image_28 : decode cX12_image 28 = .ok (.iconst 1, 1) := by decide +kernel
theorem dX12_image_29 : decode cX12_image 29 = .ok (.putfield 220, 3) := by decide +kernel
theorem dX12_image_32 : decode cX12_image 32 = .ok (.iconst 1, 1) := by decide +kernel
theorem dX12_image_33 : decode cX12_image 33 = .ok (.ireturn, 1) := by decide +kernel
theorem dX12_restore_0 : decode cX12_restore 0 = .ok (.aload_n 0, 1) := by decide +kernel
theorem dX12_restore_1 : decode cX12_restore 1 = .ok (.getfield 220, 3) := by decide +kernel
theorem dX12_restore_4 : decode cX12_restore 4 = .ok (.ifCond .ne 6, 3) := by decide +kernel
theorem dX12_restore_7 : decode cX12_restore 7 = .ok (.bipush (-4), 2) := by decide +kernel
theorem dX12_restore_9 : decode cX12_restore 9 = .ok (.ireturn, 1) := by decide +kernel
theorem dX12_restore_10 : decode cX12_restore 10 = .ok (.iconst 0, 1) := by decide +kernel
theorem dX12_restore_11 : decode cX12_restore 11 = .ok (.istore_n 1, 1) := by decide +kernel
theorem dX12_restore_12 : decode cX12_restore 12 = .ok (.iload_n 1, 1) := by decide +kernel
theorem dX12_restore_13 : decode cX12_restore 13 = .ok (.sipush 193, 3) := by decide +kernel
theorem dX12_restore_16 : decode cX12_restore 16 = .ok (.if_icmp .ge 21, 3) := by decide +kernel
theorem dX12_restore_19 : decode cX12_restore 19 = .ok (.aload_n 0, 1) := by decide +kernel
theorem dX12_restore_20 : decode cX12_restore 20 = .ok (.getfield 7, 3) := by decide +kernel
theorem dX12_restore_23 : decode cX12_restore 23 = .ok (.iload_n 1, 1) := by decide +kernel
theorem dX12_restore_24 : decode cX12_restore 24 = .ok (.aload_n 0, 1) := by decide +kernel
theorem dX12_restore_25 : decode cX12_restore 25 = .ok (.getfield 13, 3) := by decide +kernel
theorem dX12_restore_28 : decode cX12_restore 28 = .ok (.iload_n 1, 1) := by decide +kernel
theorem dX12_restore_29 : decode cX12_restore 29 = .ok (.iaload, 1) := by decide +kernel
theorem dX12_restore_30 : decode cX12_restore 30 = .ok (.iastore, 1) := by decide +kernel
theorem dX12_restore_31 : decode cX12_restore 31 = .ok (.iinc 1 1, 3) := by decide +kernel
theorem dX12_restore_34 : decode cX12_restore 34 = .ok (.goto (-22), 3) := by decide +kernel
theorem dX12_restore_37 : decode cX12_restore 37 = .ok (.iconst 1, 1) := by decide +kernel
theorem dX12_restore_38 : decode cX12_restore 38 = .ok (.ireturn, 1) := by decide +kernel
set_option maxRecDepth 20000 in
theorem ggX12_isSheet_X12_in : GoodIn wsX12_isSheet wsX12_in := goodIn_r _ [6] (by decide +kernel) (by decide +kernel)
set_option maxRecDepth 20000 in
theorem gX12_isSheet_X12_in : GoodIn wsX12_isSheet (va_wsS RX12 67 yX12_in wsX12_in) := goodIn_app (goodIn_of _ (by decide +kernel)) ggX12_isSheet_X12_in
theorem dX12_isSheet_0 : decode cX12_isSheet 0 = .ok (.iload_n 0, 1) := by decide +kernel
theorem dX12_isSheet_1 : decode cX12_isSheet 1 = .ok (.i2l, 1) := by decide +kernel
theorem dX12_isSheet_2 : decode cX12_isSheet 2 = .ok (.lconst 0, 1) := by decide +kernel
theorem dX12_isSheet_3 : decode cX12_isSheet 3 = .ok (.ldc2_w 79, 3) := by decide +kernel
theorem dX12_isSheet_6 : decode cX12_isSheet 6 = .ok (.invokestatic 67, 3) := by decide +kernel
theorem dX12_isSheet_9 : decode cX12_isSheet 9 = .ok (.ifCond .eq 19, 3) := by decide +kernel
theorem dX12_isSheet_12 : decode cX12_isSheet 12 = .ok (.iload_n 1, 1) := by decide +kernel
theorem dX12_isSheet_13 : decode cX12_isSheet 13 = .ok (.i2l, 1) := by decide +kernel
theorem dX12_isSheet_14 : decode cX12_isSheet 14 = .ok (.lconst 0, 1) := by decide +kernel
theorem dX12_isSheet_15 : decode cX12_isSheet 15 = .ok (.ldc2_w 73, 3) := by decide +kernel
theorem dX12_isSheet_18 : decode cX12_isSheet 18 = .ok (.invokestatic 67, 3) := by decide +kernel
theorem dX12_isSheet_21 : decode cX12_isSheet 21 = .ok (.ifCond .eq 7, 3) := by decide +kernel
theorem dX12_isSheet_24 : decode cX12_isSheet 24 = .ok (.iconst 1, 1) := by decide +kernel
theorem dX12_isSheet_25 : decode cX12_isSheet 25 = .ok (.goto 4, 3) := by decide +kernel
theorem dX12_isSheet_28 : decode cX12_isSheet 28 = .ok (.iconst 0, 1) := by decide +kernel
theorem dX12_isSheet_29 : decode cX12_isSheet 29 = .ok (.ireturn, 1) := by decide +kernel
theorem dX12_found_0 : decode cX12_found 0 = .ok (.aload_n 0, 1) := by decide +kernel
theorem dX12_found_1 : decode cX12_found 1 = .ok (.getfield 19, 3) := by decide +kernel
theorem dX12_found_4 : decode cX12_found 4 = .ok (.iload_n 1, 1) := by decide +kernel
theorem dX12_found_5 : decode cX12_found 5 = .ok (.iaload, 1) := by decide +kernel
theorem dX12_found_6 : decode cX12_found 6 = .ok (.ifCond .ge 8, 3) := by decide +kernel
theorem dX12_found_9 : decode cX12_found 9 = .ok (.bipush (-11), 2) := by decide +kernel
theorem dX12_found_11 : decode cX12_found 11 = .ok (.goto 45, 3) := by decide +kernel
theorem dX12_found_14 : decode cX12_found 14 = .ok (.aload_n 0, 1) := by decide +kernel
theorem dX12_found_15 : decode cX12_found 15 = .ok (.getfield 22, 3) := by decide +kernel
theorem dX12_found_18 : decode cX12_found 18 = .ok (.iload_n 1, 1) := by decide +kernel
theorem dX12_found_19 : decode cX12_found 19 = .ok (.iaload, 1) := by decide +kernel
theorem dX12_found_20 : decode cX12_found 20 = .ok (.iload_n 2, 1) := by decide +kernel
theorem dX12_found_21 : decode cX12_found 21 = .ok (.if_icmp .eq 8, 3) := by decide +kernel
theorem dX12_found_24 : decode cX12_found 24 = .ok (.bipush (-12), 2) := by decide +kernel
theorem dX12_found_26 : decode cX12_found 26 = .ok (.goto 30, 3) := by decide +kernel
theorem dX12_found_29 : decode cX12_found 29 = .ok (.iload_n 3, 1) := by decide +kernel
theorem dX12_found_30 : decode cX12_found 30 = .ok (.ifCond .lt 20, 3) := by decide +kernel
theorem dX12_found_33 : decode cX12_found 33 = .ok (.iload_n 3, 1) := by decide +kernel
theorem dX12_found_34 : decode cX12_found 34 = .ok (.i2l, 1) := by decide +kernel
theorem dX12_found_35 : decode cX12_found 35 = .ok (.iload 4, 2) := by decide +kernel
theorem dX12_found_37 : decode cX12_found 37 = .ok (.i2l, 1) := by decide +kernel
theorem dX12_found_38 : decode cX12_found 38 = .ok (.ladd, 1) := by decide +kernel
theorem dX12_found_39 : decode cX12_found 39 = .ok (.aload_n 0, 1) := by decide +kernel
theorem dX12_found_40 : decode cX12_found 40 = .ok (.getfield 19, 3) := by decide +kernel
theorem dX12_found_43 : decode cX12_found 43 = .ok (.iload_n 1, 1) := by decide +kernel
theorem dX12_found_44 : decode cX12_found 44 = .ok (.iaload, 1) := by decide +kernel
theorem dX12_found_45 : decode cX12_found 45 = .ok (.i2l, 1) := by decide +kernel
theorem dX12_found_46 : decode cX12_found 46 = .ok (.lcmp, 1) := by decide +kernel
theorem dX12_found_47 : decode cX12_found 47 = .ok (.ifCond .le 8, 3) := by decide +kernel
theorem dX12_found_50 : decode cX12_found 50 = .ok (.bipush (-13), 2) := by decide +kernel
theorem dX12_found_52 : decode cX12_found 52 = .ok (.goto 4, 3) := by decide +kernel
theorem dX12_found_55 : decode cX12_found 55 = .ok (.iconst 0, 1) := by decide +kernel
theorem dX12_found_56 : decode cX12_found 56 = .ok (.ireturn, 1) := by decide +kernel
theorem dX12_turns_0 : decode cX12_turns 0 = .ok (.iconst 1, 1) := by decide +kernel
theorem dX12_turns_1 : decode cX12_turns 1 = .ok (.istore 5, 2) := by decide +kernel
theorem dX12_turns_3 : decode cX12_turns 3 = .ok (.iconst 0, 1) := by decide +kernel
theorem dX12_turns_4 : decode cX12_turns 4 = .ok (.istore 6, 2) := by decide +kernel
theorem dX12_turns_6 : decode cX12_turns 6 = .ok (.iload 6, 2) := by decide +kernel
theorem dX12_turns_8 : decode cX12_turns 8 = .ok (.iload_n 2, 1) := by decide +kernel
theorem dX12_turns_9 : decode cX12_turns 9 = .ok (.if_icmp .ge 46, 3) := by decide +kernel
theorem dX12_turns_12 : decode cX12_turns 12 = .ok (.iload 5, 2) := by decide +kernel
theorem dX12_turns_14 : decode cX12_turns 14 = .ok (.ifCond .eq 32, 3) := by decide +kernel
theorem dX12_turns_17 : decode cX12_turns 17 = .ok (.aload_n 0, 1) := by decide +kernel
theorem dX12_turns_18 : decode cX12_turns 18 = .ok (.getfield 25, 3) := by decide +kernel
theorem dX12_turns_21 : decode cX12_turns 21 = .ok (.iload_n 1, 1) := by decide +kernel
theorem dX12_turns_22 : decode cX12_turns 22 = .ok (.iload 6, 2) := by decide +kernel
theorem dX12_turns_24 : decode cX12_turns 24 = .ok (.iadd, 1) := by decide +kernel
theorem dX12_turns_25 : decode cX12_turns 25 = .ok (.iaload, 1) := by decide +kernel
theorem dX12_turns_26 : decode cX12_turns 26 = .ok (.iload 6, 2) := by decide +kernel
theorem dX12_turns_28 : decode cX12_turns 28 = .ok (.iconst 2, 1) := by decide +kernel
theorem dX12_turns_29 : decode cX12_turns 29 = .ok (.irem, 1) := by decide +kernel
theorem dX12_turns_30 : decode cX12_turns 30 = .ok (.ifCond .ne 7, 3) := by decide +kernel
theorem dX12_turns_33 : decode cX12_turns 33 = .ok (.iload_n 3, 1) := by decide +kernel
theorem dX12_turns_34 : decode cX12_turns 34 = .ok (.goto 5, 3) := by decide +kernel
theorem dX12_turns_37 : decode cX12_turns 37 = .ok (.iload 4, 2) := by decide +kernel
theorem dX12_turns_39 : decode cX12_turns 39 = .ok (.if_icmp .ne 7, 3) := by decide +kernel
theorem dX12_turns_42 : decode cX12_turns 42 = .ok (.iconst 1, 1) := by decide +kernel
theorem dX12_turns_43 : decode cX12_turns 43 = .ok (.goto 4, 3) := by decide +kernel
theorem dX12_turns_46 : decode cX12_turns 46 = .ok (.iconst 0, 1) := by decide +kernel
theorem dX12_turns_47 : decode cX12_turns 47 = .ok (.istore 5, 2) := by decide +kernel
theorem dX12_turns_49 : decode cX12_turns 49 = .ok (.iinc 6 1, 3) := by decide +kernel
theorem dX12_turns_52 : decode cX12_turns 52 = .ok (.goto (-46), 3) := by decide +kernel
theorem dX12_turns_55 : decode cX12_turns 55 = .ok (.iload 5, 2) := by decide +kernel
theorem dX12_turns_57 : decode cX12_turns 57 = .ok (.ireturn, 1) := by decide +kernel
theorem dX12_printOf_0 : decode cX12_printOf 0 = .ok (.iconst 2, 1) := by decide +kernel
theorem dX12_printOf_1 : decode cX12_printOf 1 = .ok (.iconst 1, 1) := by decide +kernel
theorem dX12_printOf_2 : decode cX12_printOf 2 = .ok (.aload_n 0, 1) := by decide +kernel
theorem dX12_printOf_3 : decode cX12_printOf 3 = .ok (.getfield 7, 3) := by decide +kernel
theorem dX12_printOf_6 : decode cX12_printOf 6 = .ok (.bipush 47, 2) := by decide +kernel
theorem dX12_printOf_8 : decode cX12_printOf 8 = .ok (.iload_n 1, 1) := by decide +kernel
theorem dX12_printOf_9 : decode cX12_printOf 9 = .ok (.iadd, 1) := by decide +kernel
theorem dX12_printOf_10 : decode cX12_printOf 10 = .ok (.iaload, 1) := by decide +kernel
theorem dX12_printOf_11 : decode cX12_printOf 11 = .ok (.iadd, 1) := by decide +kernel
theorem dX12_printOf_12 : decode cX12_printOf 12 = .ok (.imul, 1) := by decide +kernel
theorem dX12_printOf_13 : decode cX12_printOf 13 = .ok (.aload_n 0, 1) := by decide +kernel
theorem dX12_printOf_14 : decode cX12_printOf 14 = .ok (.getfield 7, 3) := by decide +kernel
theorem dX12_printOf_17 : decode cX12_printOf 17 = .ok (.bipush 31, 2) := by decide +kernel
theorem dX12_printOf_19 : decode cX12_printOf 19 = .ok (.iload_n 1, 1) := by decide +kernel
theorem dX12_printOf_20 : decode cX12_printOf 20 = .ok (.iadd, 1) := by decide +kernel
theorem dX12_printOf_21 : decode cX12_printOf 21 = .ok (.iaload, 1) := by decide +kernel
theorem dX12_printOf_22 : decode cX12_printOf 22 = .ok (.iadd, 1) := by decide +kernel
theorem dX12_printOf_23 : decode cX12_printOf 23 = .ok (.ireturn, 1) := by decide +kernel
set_option maxRecDepth 20000 in
theorem ggX12_byTwo_X12_printOf : GoodIn wsX12_byTwo wsX12_printOf := goodIn_r _ [5, 6, 12, 13, 14, 15, 16, 17, 18, 19, 20, 21, 22, 23, 24, 25, 26, 27, 28, 29, 30, 31, 32, 33, 34, 35, 36, 37] (by decide +kernel) (by decide +kernel)
set_option maxRecDepth 20000 in
theorem gX12_byTwo_X12_printOf : GoodIn wsX12_byTwo (wsV RX12 224 RX12 yX12_printOf wsX12_printOf) := goodIn_app (goodIn_of _ (by decide +kernel)) ggX12_byTwo_X12_printOf
set_option maxRecDepth 20000 in
theorem ggX12_byTwo_X12_turns : GoodIn wsX12_byTwo wsX12_turns := goodIn_r _ [10, 11, 12, 13, 14, 15, 16, 17, 18, 19, 20, 21, 22, 23, 24, 25, 26, 27, 28, 29, 30, 31, 32, 33, 34, 35, 36, 37] (by decide +kernel) (by decide +kernel)
set_option maxRecDepth 20000 in
theorem gX12_byTwo_X12_turns : GoodIn wsX12_byTwo (wsV RX12 227 RX12 yX12_turns wsX12_turns) := goodIn_app (goodIn_of _ (by decide +kernel)) ggX12_byTwo_X12_turns
theorem dX12_byTwo_0 : decode cX12_byTwo 0 = .ok (.aload_n 0, 1) := by decide +kernel
theorem dX12_byTwo_1 : decode cX12_byTwo 1 = .ok (.iload_n 1, 1) := by decide +kernel
theorem dX12_byTwo_2 : decode cX12_byTwo 2 = .ok (.iload_n 2, 1) := by decide +kernel
theorem dX12_byTwo_3 : decode cX12_byTwo 3 = .ok (.aload_n 0, 1) := by decide +kernel
theorem dX12_byTwo_4 : decode cX12_byTwo 4 = .ok (.iload_n 3, 1) := by decide +kernel
theorem dX12_byTwo_5 : decode cX12_byTwo 5 = .ok (.invokevirtual 224, 3) := by decide +kernel
theorem dX12_byTwo_8 : decode cX12_byTwo 8 = .ok (.aload_n 0, 1) := by decide +kernel
theorem dX12_byTwo_9 : decode cX12_byTwo 9 = .ok (.iload 4, 2) := by decide +kernel
theorem dX12_byTwo_11 : decode cX12_byTwo 11 = .ok (.invokevirtual 224, 3) := by decide +kernel
theorem dX12_byTwo_14 : decode cX12_byTwo 14 = .ok (.invokevirtual 227, 3) := by decide +kernel
theorem dX12_byTwo_17 : decode cX12_byTwo 17 = .ok (.ifCond .eq 7, 3) := by decide +kernel
theorem dX12_byTwo_20 : decode cX12_byTwo 20 = .ok (.iconst 1, 1) := by decide +kernel
theorem dX12_byTwo_21 : decode cX12_byTwo 21 = .ok (.goto 4, 3) := by decide +kernel
theorem dX12_byTwo_24 : decode cX12_byTwo 24 = .ok (.iconst 0, 1) := by decide +kernel
theorem dX12_byTwo_25 : decode cX12_byTwo 25 = .ok (.istore 5, 2) := by decide +kernel
theorem dX12_byTwo_27 : decode cX12_byTwo 27 = .ok (.aload_n 0, 1) := by decide +kernel
theorem dX12_byTwo_28 : decode cX12_byTwo 28 = .ok (.iload_n 1, 1) := by decide +kernel
theorem dX12_byTwo_29 : decode cX12_byTwo 29 = .ok (.iload_n 2, 1) := by decide +kernel
theorem dX12_byTwo_30 : decode cX12_byTwo 30 = .ok (.aload_n 0, 1) := by decide +kernel
theorem dX12_byTwo_31 : decode cX12_byTwo 31 = .ok (.iload 4, 2) := by decide +kernel
theorem dX12_byTwo_33 : decode cX12_byTwo 33 = .ok (.invokevirtual 224, 3) := by decide +kernel
theorem dX12_byTwo_36 : decode cX12_byTwo 36 = .ok (.aload_n 0, 1) := by decide +kernel
theorem dX12_byTwo_37 : decode cX12_byTwo 37 = .ok (.iload_n 3, 1) := by decide +kernel
theorem dX12_byTwo_38 : decode cX12_byTwo 38 = .ok (.invokevirtual 224, 3) := by decide +kernel
theorem dX12_byTwo_41 : decode cX12_byTwo 41 = .ok (.invokevirtual 227, 3) := by decide +kernel
theorem dX12_byTwo_44 : decode cX12_byTwo 44 = .ok (.ifCond .eq 7, 3) := by decide +kernel
theorem dX12_byTwo_47 : decode cX12_byTwo 47 = .ok (.iconst 1, 1) := by decide +kernel
theorem dX12_byTwo_48 : decode cX12_byTwo 48 = .ok (.goto 4, 3) := by decide +kernel
theorem dX12_byTwo_51 : decode cX12_byTwo 51 = .ok (.iconst 0, 1) := by decide +kernel
theorem dX12_byTwo_52 : decode cX12_byTwo 52 = .ok (.istore 6, 2) := by decide +kernel
theorem dX12_byTwo_54 : decode cX12_byTwo 54 = .ok (.iload 5, 2) := by decide +kernel
theorem dX12_byTwo_56 : decode cX12_byTwo 56 = .ok (.iload 6, 2) := by decide +kernel
theorem dX12_byTwo_58 : decode cX12_byTwo 58 = .ok (.iadd, 1) := by decide +kernel
theorem dX12_byTwo_59 : decode cX12_byTwo 59 = .ok (.ireturn, 1) := by decide +kernel
set_option maxRecDepth 20000 in
theorem ggX12_waysOf_X12_printOf : GoodIn wsX12_waysOf wsX12_printOf := goodIn_r _ [6, 1, 16, 17, 18, 19, 20, 21, 22, 23, 24, 25, 26, 27, 28, 29, 30, 31, 32, 33, 34, 35, 36, 37, 38, 39, 40, 41] (by decide +kernel) (by decide +kernel)
set_option maxRecDepth 20000 in
theorem gX12_waysOf_X12_printOf : GoodIn wsX12_waysOf (wsV RX12 224 RX12 yX12_printOf wsX12_printOf) := goodIn_app (goodIn_of _ (by decide +kernel)) ggX12_waysOf_X12_printOf
set_option maxRecDepth 20000 in
theorem ggX12_waysOf_X12_turns : GoodIn wsX12_waysOf wsX12_turns := goodIn_r _ [10, 11, 16, 17, 18, 19, 20, 21, 22, 23, 24, 25, 26, 27, 28, 29, 30, 31, 32, 33, 34, 35, 36, 37, 38, 39, 40, 41] (by decide +kernel) (by decide +kernel)
set_option maxRecDepth 20000 in
theorem gX12_waysOf_X12_turns : GoodIn wsX12_waysOf (wsV RX12 227 RX12 yX12_turns wsX12_turns) := goodIn_app (goodIn_of _ (by decide +kernel)) ggX12_waysOf_X12_turns
set_option maxRecDepth 20000 in
theorem ggX12_waysOf_X12_byTwo : GoodIn wsX12_waysOf wsX12_byTwo := goodIn_r _ [15, 2, 3, 4, 5, 6, 1, 7, 8, 9, 10, 11, 16, 17, 18, 19, 20, 21, 22, 23, 24, 25, 26, 27, 28, 29, 30, 31, 32, 33, 34, 35, 36, 37, 38, 39, 40, 41] (by decide +kernel) (by decide +kernel)
set_option maxRecDepth 20000 in
theorem gX12_waysOf_X12_byTwo : GoodIn wsX12_waysOf (wsV RX12 230 RX12 yX12_byTwo wsX12_byTwo) := goodIn_app (goodIn_of _ (by decide +kernel)) ggX12_waysOf_X12_byTwo
theorem dX12_waysOf_0 : decode cX12_waysOf 0 = .ok (.aload_n 0, 1) := by decide +kernel
theorem dX12_waysOf_1 : decode cX12_waysOf 1 = .ok (.getfield 7, 3) := by decide +kernel
theorem dX12_waysOf_4 : decode cX12_waysOf 4 = .ok (.bipush 10, 2) := by decide +kernel
theorem dX12_waysOf_6 : decode cX12_waysOf 6 = .ok (.iload_n 1, 1) := by decide +kernel
theorem dX12_waysOf_7 : decode cX12_waysOf 7 = .ok (.iadd, 1) := by decide +kernel
theorem dX12_waysOf_8 : decode cX12_waysOf 8 = .ok (.iaload, 1) := by decide +kernel
theorem dX12_waysOf_9 : decode cX12_waysOf 9 = .ok (.istore 4, 2) := by decide +kernel
theorem dX12_waysOf_11 : decode cX12_waysOf 11 = .ok (.iconst 0, 1) := by decide +kernel
theorem dX12_waysOf_12 : decode cX12_waysOf 12 = .ok (.istore 5, 2) := by decide +kernel
theorem dX12_waysOf_14 : decode cX12_waysOf 14 = .ok (.iconst 0, 1) := by decide +kernel
theorem dX12_waysOf_15 : decode cX12_waysOf 15 = .ok (.istore 6, 2) := by decide +kernel
theorem dX12_waysOf_17 : decode cX12_waysOf 17 = .ok (.iload 6, 2) := by decide +kernel
theorem dX12_waysOf_19 : decode cX12_waysOf 19 = .ok (.aload_n 0, 1) := by decide +kernel
theorem dX12_waysOf_20 : decode cX12_waysOf 20 = .ok (.getfield 7, 3) := by decide +kernel
theorem dX12_waysOf_23 : decode cX12_waysOf 23 = .ok (.iconst 1, 1) := by decide +kernel
theorem dX12_waysOf_24 : decode cX12_waysOf 24 = .ok (.iaload, 1) := by decide +kernel
theorem dX12_waysOf_25 : decode cX12_waysOf 25 = .ok (.if_icmp .ge 133, 3) := by decide +kernel
theorem dX12_waysOf_28 : decode cX12_waysOf 28 = .ok (.aload_n 0, 1) := by decide +kernel
theorem dX12_waysOf_29 : decode cX12_waysOf 29 = .ok (.getfield 7, 3) := by decide +kernel
theorem dX12_waysOf_32 : decode cX12_waysOf 32 = .ok (.bipush 15, 2) := by decide +kernel
theorem dX12_waysOf_34 : decode cX12_waysOf 34 = .ok (.iload 6, 2) := by decide +kernel
theorem dX12_waysOf_36 : decode cX12_waysOf 36 = .ok (.iadd, 1) := by decide +kernel
theorem dX12_waysOf_37 : decode cX12_waysOf 37 = .ok (.iaload, 1) := by decide +kernel
theorem dX12_waysOf_38 : decode cX12_waysOf 38 = .ok (.iload_n 1, 1) := by decide +kernel
theorem dX12_waysOf_39 : decode cX12_waysOf 39 = .ok (.if_icmp .ne 113, 3) := by decide +kernel
theorem dX12_waysOf_42 : decode cX12_waysOf 42 = .ok (.iload 4, 2) := by decide +kernel
theorem dX12_waysOf_44 : decode cX12_waysOf 44 = .ok (.ifCond .le 23, 3) := by decide +kernel
theorem dX12_waysOf_47 : decode cX12_waysOf 47 = .ok (.aload_n 0, 1) := by decide +kernel
theorem dX12_waysOf_48 : decode cX12_waysOf 48 = .ok (.getfield 7, 3) := by decide +kernel
theorem dX12_waysOf_51 : decode cX12_waysOf 51 = .ok (.bipush 31, 2) := by decide +kernel
theorem dX12_waysOf_53 : decode cX12_waysOf 53 = .ok (.iload 6, 2) := by decide +kernel
theorem dX12_waysOf_55 : decode cX12_waysOf 55 = .ok (.iadd, 1) := by decide +kernel
theorem dX12_waysOf_56 : decode cX12_waysOf 56 = .ok (.iaload, 1) := by decide +kernel
theorem dX12_waysOf_57 : decode cX12_waysOf 57 = .ok (.iload 4, 2) := by decide +kernel
theorem dX12_waysOf_59 : decode cX12_waysOf 59 = .ok (.iconst 1, 1) := by decide +kernel
theorem dX12_waysOf_60 : decode cX12_waysOf 60 = .ok (.isub, 1) := by decide +kernel
theorem dX12_waysOf_61 : decode cX12_waysOf 61 = .ok (.if_icmp .eq 6, 3) := by decide +kernel
theorem dX12_waysOf_64 : decode cX12_waysOf 64 = .ok (.goto 88, 3) := by decide +kernel
theorem dX12_waysOf_67 : decode cX12_waysOf 67 = .ok (.iload 5, 2) := by decide +kernel
theorem dX12_waysOf_69 : decode cX12_waysOf 69 = .ok (.aload_n 0, 1) := by decide +kernel
theorem dX12_waysOf_70 : decode cX12_waysOf 70 = .ok (.iload_n 2, 1) := by decide +kernel
theorem dX12_waysOf_71 : decode cX12_waysOf 71 = .ok (.iload_n 3, 1) := by decide +kernel
theorem dX12_waysOf_72 : decode cX12_waysOf 72 = .ok (.aload_n 0, 1) := by decide +kernel
theorem dX12_waysOf_73 : decode cX12_waysOf 73 = .ok (.iload 6, 2) := by decide +kernel
theorem dX12_waysOf_75 : decode cX12_waysOf 75 = .ok (.invokevirtual 224, 3) := by decide +kernel
theorem dX12_waysOf_78 : decode cX12_waysOf 78 = .ok (.aload_n 0, 1) := by decide +kernel
theorem dX12_waysOf_79 : decode cX12_waysOf 79 = .ok (.iload 6, 2) := by decide +kernel
theorem dX12_waysOf_81 : decode cX12_waysOf 81 = .ok (.invokevirtual 224, 3) := by decide +kernel
theorem dX12_waysOf_84 : decode cX12_waysOf 84 = .ok (.invokevirtual 227, 3) := by decide +kernel
theorem dX12_waysOf_87 : decode cX12_waysOf 87 = .ok (.ifCond .eq 7, 3) := by decide +kernel
theorem dX12_waysOf_90 : decode cX12_waysOf 90 = .ok (.iconst 1, 1) := by decide +kernel
theorem dX12_waysOf_91 : decode cX12_waysOf 91 = .ok (.goto 4, 3) := by decide +kernel
theorem dX12_waysOf_94 : decode cX12_waysOf 94 = .ok (.iconst 0, 1) := by decide +kernel
theorem dX12_waysOf_95 : decode cX12_waysOf 95 = .ok (.iadd, 1) := by decide +kernel
theorem dX12_waysOf_96 : decode cX12_waysOf 96 = .ok (.istore 5, 2) := by decide +kernel
theorem dX12_waysOf_98 : decode cX12_waysOf 98 = .ok (.iconst 0, 1) := by decide +kernel
theorem dX12_waysOf_99 : decode cX12_waysOf 99 = .ok (.istore 7, 2) := by decide +kernel
theorem dX12_waysOf_101 : decode cX12_waysOf 101 = .ok (.iload 7, 2) := by decide +kernel
theorem dX12_waysOf_103 : decode cX12_waysOf 103 = .ok (.iload 6, 2) := by decide +kernel
theorem dX12_waysOf_105 : decode cX12_waysOf 105 = .ok (.if_icmp .ge 47, 3) := by decide +kernel
theorem dX12_waysOf_108 : decode cX12_waysOf 108 = .ok (.iload 4, 2) := by decide +kernel
theorem dX12_waysOf_110 : decode cX12_waysOf 110 = .ok (.ifCond .ne 42, 3) := by decide +kernel
theorem dX12_waysOf_113 : decode cX12_waysOf 113 = .ok (.iload 5, 2) := by decide +kernel
theorem dX12_waysOf_115 : decode cX12_waysOf 115 = .ok (.aload_n 0, 1) := by decide +kernel
theorem dX12_waysOf_116 : decode cX12_waysOf 116 = .ok (.getfield 7, 3) := by decide +kernel
theorem dX12_waysOf_119 : decode cX12_waysOf 119 = .ok (.bipush 15, 2) := by decide +kernel
theorem dX12_waysOf_121 : decode cX12_waysOf 121 = .ok (.iload 7, 2) := by decide +kernel
theorem dX12_waysOf_123 : decode cX12_waysOf 123 = .ok (.iadd, 1) := by decide +kernel
theorem dX12_waysOf_124 : decode cX12_waysOf 124 = .ok (.iaload, 1) := by decide +kernel
theorem dX12_waysOf_125 : decode cX12_waysOf 125 = .ok (.iload_n 1, 1) := by decide +kernel
theorem dX12_waysOf_126 : decode cX12_waysOf 126 = .ok (.if_icmp .ne 16, 3) := by decide +kernel
theorem dX12_waysOf_129 : decode cX12_waysOf 129 = .ok (.aload_n 0, 1) := by decide +kernel
theorem dX12_waysOf_130 : decode cX12_waysOf 130 = .ok (.iload_n 2, 1) := by decide +kernel
theorem dX12_waysOf_131 : decode cX12_waysOf 131 = .ok (.iload_n 3, 1) := by decide +kernel
theorem dX12_waysOf_132 : decode cX12_waysOf 132 = .ok (.iload 6, 2) := by decide +kernel
theorem dX12_waysOf_134 : decode cX12_waysOf 134 = .ok (.iload 7, 2) := by decide +kernel
theorem dX12_waysOf_136 : decode cX12_waysOf 136 = .ok (.invokevirtual 230, 3) := by decide +kernel
theorem dX12_waysOf_139 : decode cX12_waysOf 139 = .ok (.goto 4, 3) := by decide +kernel
theorem dX12_waysOf_142 : decode cX12_waysOf 142 = .ok (.iconst 0, 1) := by decide +kernel
theorem dX12_waysOf_143 : decode cX12_waysOf 143 = .ok (.iadd, 1) := by decide +kernel
theorem dX12_waysOf_144 : decode cX12_waysOf 144 = .ok (.istore 5, 2) := by decide +kernel
theorem dX12_waysOf_146 : decode cX12_waysOf 146 = .ok (.iinc 7 1, 3) := by decide +kernel
theorem dX12_waysOf_149 : decode cX12_waysOf 149 = .ok (.goto (-48), 3) := by decide +kernel
theorem dX12_waysOf_152 : decode cX12_waysOf 152 = .ok (.iinc 6 1, 3) := by decide +kernel
theorem dX12_waysOf_155 : decode cX12_waysOf 155 = .ok (.goto (-138), 3) := by decide +kernel
theorem dX12_waysOf_158 : decode cX12_waysOf 158 = .ok (.iload 4, 2) := by decide +kernel
theorem dX12_waysOf_160 : decode cX12_waysOf 160 = .ok (.ifCond .le 29, 3) := by decide +kernel
theorem dX12_waysOf_163 : decode cX12_waysOf 163 = .ok (.iload 5, 2) := by decide +kernel
theorem dX12_waysOf_165 : decode cX12_waysOf 165 = .ok (.aload_n 0, 1) := by decide +kernel
theorem dX12_waysOf_166 : decode cX12_waysOf 166 = .ok (.iload_n 2, 1) := by decide +kernel
theorem dX12_waysOf_167 : decode cX12_waysOf 167 = .ok (.iload_n 3, 1) := by decide +kernel
theorem dX12_waysOf_168 : decode cX12_waysOf 168 = .ok (.iload 4, 2) := by decide +kernel
theorem dX12_waysOf_170 : decode cX12_waysOf 170 = .ok (.iconst 1, 1) := by decide +kernel
theorem dX12_waysOf_171 : decode cX12_waysOf 171 = .ok (.isub, 1) := by decide +kernel
theorem dX12_waysOf_172 : decode cX12_waysOf 172 = .ok (.iload 4, 2) := by decide +kernel
theorem dX12_waysOf_174 : decode cX12_waysOf 174 = .ok (.iconst 1, 1) := by decide +kernel
theorem dX12_waysOf_175 : decode cX12_waysOf 175 = .ok (.isub, 1) := by decide +kernel
theorem dX12_waysOf_176 : decode cX12_waysOf 176 = .ok (.invokevirtual 227, 3) := by decide +kernel
theorem dX12_waysOf_179 : decode cX12_waysOf 179 = .ok (.ifCond .eq 7, 3) := by decide +kernel
theorem dX12_waysOf_182 : decode cX12_waysOf 182 = .ok (.iconst 1, 1) := by decide +kernel
theorem dX12_waysOf_183 : decode cX12_waysOf 183 = .ok (.goto 4, 3) := by decide +kernel
theorem dX12_waysOf_186 : decode cX12_waysOf 186 = .ok (.iconst 0, 1) := by decide +kernel
theorem dX12_waysOf_187 : decode cX12_waysOf 187 = .ok (.iadd, 1) := by decide +kernel
theorem dX12_waysOf_188 : decode cX12_waysOf 188 = .ok (.ireturn, 1) := by decide +kernel
theorem dX12_waysOf_189 : decode cX12_waysOf 189 = .ok (.iload 5, 2) := by decide +kernel
theorem dX12_waysOf_191 : decode cX12_waysOf 191 = .ok (.aload_n 0, 1) := by decide +kernel
theorem dX12_waysOf_192 : decode cX12_waysOf 192 = .ok (.iload_n 2, 1) := by decide +kernel
theorem dX12_waysOf_193 : decode cX12_waysOf 193 = .ok (.iload_n 3, 1) := by decide +kernel
theorem dX12_waysOf_194 : decode cX12_waysOf 194 = .ok (.iconst 0, 1) := by decide +kernel
theorem dX12_waysOf_195 : decode cX12_waysOf 195 = .ok (.iconst 1, 1) := by decide +kernel
theorem dX12_waysOf_196 : decode cX12_waysOf 196 = .ok (.invokevirtual 227, 3) := by decide +kernel
theorem dX12_waysOf_199 : decode cX12_waysOf 199 = .ok (.ifCond .ne 14, 3) := by decide +kernel
theorem dX12_waysOf_202 : decode cX12_waysOf 202 = .ok (.aload_n 0, 1) := by decide +kernel
theorem dX12_waysOf_203 : decode cX12_waysOf 203 = .ok (.iload_n 2, 1) := by decide +kernel
theorem dX12_waysOf_204 : decode cX12_waysOf 204 = .ok (.iload_n 3, 1) := by decide +kernel
theorem dX12_waysOf_205 : decode cX12_waysOf 205 = .ok (.iconst 1, 1) := by decide +kernel
theorem dX12_waysOf_206 : decode cX12_waysOf 206 = .ok (.iconst 0, 1) := by decide +kernel
theorem dX12_waysOf_207 : decode cX12_waysOf 207 = .ok (.invokevirtual 227, 3) := by decide +kernel
theorem dX12_waysOf_210 : decode cX12_waysOf 210 = .ok (.ifCond .eq 7, 3) := by decide +kernel
theorem dX12_waysOf_213 : decode cX12_waysOf 213 = .ok (.iconst 1, 1) := by decide +kernel
theorem dX12_waysOf_214 : decode cX12_waysOf 214 = .ok (.goto 4, 3) := by decide +kernel
theorem dX12_waysOf_217 : decode cX12_waysOf 217 = .ok (.iconst 0, 1) := by decide +kernel
theorem dX12_waysOf_218 : decode cX12_waysOf 218 = .ok (.iadd, 1) := by decide +kernel
theorem dX12_waysOf_219 : decode cX12_waysOf 219 = .ok (.ireturn, 1) := by decide +kernel
set_option maxRecDepth 20000 in
theorem ggX12_waysOfAll_X12_waysOf : GoodIn wsX12_waysOfAll wsX12_waysOf := goodIn_r _ [6, 1, 7, 8, 9, 5, 10, 11, 12, 13, 14, 15, 16, 17, 18, 19, 20, 21, 22, 23, 24, 25, 26, 27, 28, 29, 30, 31, 32, 33, 34, 35, 36, 37, 38, 39, 40, 41, 42, 43, 44, 45] (by decide +kernel) (by decide +kernel)
set_option maxRecDepth 20000 in
theorem gX12_waysOfAll_X12_waysOf : GoodIn wsX12_waysOfAll (wsV RX12 233 RX12 yX12_waysOf wsX12_waysOf) := goodIn_app (goodIn_of _ (by decide +kernel)) ggX12_waysOfAll_X12_waysOf
theorem dX12_waysOfAll_0 : decode cX12_waysOfAll 0 = .ok (.iconst 0, 1) := by decide +kernel
theorem dX12_waysOfAll_1 : decode cX12_waysOfAll 1 = .ok (.istore_n 3, 1) := by decide +kernel
theorem dX12_waysOfAll_2 : decode cX12_waysOfAll 2 = .ok (.iconst 0, 1) := by decide +kernel
theorem dX12_waysOfAll_3 : decode cX12_waysOfAll 3 = .ok (.istore 4, 2) := by decide +kernel
theorem dX12_waysOfAll_5 : decode cX12_waysOfAll 5 = .ok (.iload 4, 2) := by decide +kernel
theorem dX12_waysOfAll_7 : decode cX12_waysOfAll 7 = .ok (.aload_n 0, 1) := by decide +kernel
theorem dX12_waysOfAll_8 : decode cX12_waysOfAll 8 = .ok (.getfield 7, 3) := by decide +kernel
theorem dX12_waysOfAll_11 : decode cX12_waysOfAll 11 = .ok (.iconst 0, 1) := by decide +kernel
theorem dX12_waysOfAll_12 : decode cX12_waysOfAll 12 = .ok (.iaload, 1) := by decide +kernel
theorem dX12_waysOfAll_13 : decode cX12_waysOfAll 13 = .ok (.if_icmp .ge 20, 3) := by decide +kernel
theorem dX12_waysOfAll_16 : decode cX12_waysOfAll 16 = .ok (.iload_n 3, 1) := by decide +kernel
theorem dX12_waysOfAll_17 : decode cX12_waysOfAll 17 = .ok (.aload_n 0, 1) := by decide +kernel
theorem dX12_waysOfAll_18 : decode cX12_waysOfAll 18 = .ok (.iload 4, 2) := by decide +kernel
theorem dX12_waysOfAll_20 : decode cX12_waysOfAll 20 = .ok (.iload_n 1, 1) := by decide +kernel
theorem dX12_waysOfAll_21 : decode cX12_waysOfAll 21 = .ok (.iload_n 2, 1) := by decide +kernel
theorem dX12_waysOfAll_22 : decode cX12_waysOfAll 22 = .ok (.invokevirtual 233, 3) := by decide +kernel
theorem dX12_waysOfAll_25 : decode cX12_waysOfAll 25 = .ok (.iadd, 1) := by decide +kernel
theorem dX12_waysOfAll_26 : decode cX12_waysOfAll 26 = .ok (.istore_n 3, 1) := by decide +kernel
theorem dX12_waysOfAll_27 : decode cX12_waysOfAll 27 = .ok (.iinc 4 1, 3) := by decide +kernel
theorem dX12_waysOfAll_30 : decode cX12_waysOfAll 30 = .ok (.goto (-25), 3) := by decide +kernel
theorem dX12_waysOfAll_33 : decode cX12_waysOfAll 33 = .ok (.iload_n 3, 1) := by decide +kernel
theorem dX12_waysOfAll_34 : decode cX12_waysOfAll 34 = .ok (.ireturn, 1) := by decide +kernel
set_option maxRecDepth 20000 in
theorem ggX12_barred_X12_found : GoodIn wsX12_barred wsX12_found := goodIn_r _ [7, 8, 9, 13, 14, 15, 16, 17, 18, 19, 20, 21, 22, 23, 24, 25, 26, 27, 28, 29, 30, 31, 32, 33, 34, 35, 36, 37, 38] (by decide +kernel) (by decide +kernel)
set_option maxRecDepth 20000 in
theorem gX12_barred_X12_found : GoodIn wsX12_barred (wsV RX12 237 RX12 yX12_found wsX12_found) := goodIn_app (goodIn_of _ (by decide +kernel)) ggX12_barred_X12_found
set_option maxRecDepth 20000 in
theorem ggX12_barred_X12_in : GoodIn wsX12_barred wsX12_in := goodIn_r _ [12] (by decide +kernel) (by decide +kernel)
set_option maxRecDepth 20000 in
theorem gX12_barred_X12_in : GoodIn wsX12_barred (va_wsS RX12 67 yX12_in wsX12_in) := goodIn_app (goodIn_of _ (by decide +kernel)) ggX12_barred_X12_in
theorem dX12_barred_0 : decode cX12_barred 0 = .ok (.aload_n 0, 1) := by decide +kernel
theorem dX12_barred_1 : decode cX12_barred 1 = .ok (.iload_n 1, 1) := by decide +kernel
theorem dX12_barred_2 : decode cX12_barred 2 = .ok (.iload_n 2, 1) := by decide +kernel
theorem dX12_barred_3 : decode cX12_barred 3 = .ok (.iload_n 3, 1) := by decide +kernel
theorem dX12_barred_4 : decode cX12_barred 4 = .ok (.iload 4, 2) := by decide +kernel
theorem dX12_barred_6 : decode cX12_barred 6 = .ok (.invokevirtual 237, 3) := by decide +kernel
theorem dX12_barred_9 : decode cX12_barred 9 = .ok (.istore 5, 2) := by decide +kernel
theorem dX12_barred_11 : decode cX12_barred 11 = .ok (.iconst 0, 1) := by decide +kernel
theorem dX12_barred_12 : decode cX12_barred 12 = .ok (.istore 6, 2) := by decide +kernel
theorem dX12_barred_14 : decode cX12_barred 14 = .ok (.iload 6, 2) := by decide +kernel
theorem dX12_barred_16 : decode cX12_barred 16 = .ok (.iload 4, 2) := by decide +kernel
theorem dX12_barred_18 : decode cX12_barred 18 = .ok (.if_icmp .ge 47, 3) := by decide +kernel
theorem dX12_barred_21 : decode cX12_barred 21 = .ok (.iload 5, 2) := by decide +kernel
theorem dX12_barred_23 : decode cX12_barred 23 = .ok (.ifCond .ne 42, 3) := by decide +kernel
theorem dX12_barred_26 : decode cX12_barred 26 = .ok (.aload_n 0, 1) := by decide +kernel
theorem dX12_barred_27 : decode cX12_barred 27 = .ok (.getfield 25, 3) := by decide +kernel
theorem dX12_barred_30 : decode cX12_barred 30 = .ok (.bipush 24, 2) := by decide +kernel
theorem dX12_barred_32 : decode cX12_barred 32 = .ok (.iload_n 1, 1) := by decide +kernel
theorem dX12_barred_33 : decode cX12_barred 33 = .ok (.imul, 1) := by decide +kernel
theorem dX12_barred_34 : decode cX12_barred 34 = .ok (.iload_n 3, 1) := by decide +kernel
theorem dX12_barred_35 : decode cX12_barred 35 = .ok (.iadd, 1) := by decide +kernel
theorem dX12_barred_36 : decode cX12_barred 36 = .ok (.iload 6, 2) := by decide +kernel
theorem dX12_barred_38 : decode cX12_barred 38 = .ok (.iadd, 1) := by decide +kernel
theorem dX12_barred_39 : decode cX12_barred 39 = .ok (.iaload, 1) := by decide +kernel
theorem dX12_barred_40 : decode cX12_barred 40 = .ok (.i2l, 1) := by decide +kernel
theorem dX12_barred_41 : decode cX12_barred 41 = .ok (.lconst 0, 1) := by decide +kernel
theorem dX12_barred_42 : decode cX12_barred 42 = .ok (.ldc2_w 213, 3) := by decide +kernel
theorem dX12_barred_45 : decode cX12_barred 45 = .ok (.invokestatic 67, 3) := by decide +kernel
theorem dX12_barred_48 : decode cX12_barred 48 = .ok (.ifCond .eq 7, 3) := by decide +kernel
theorem dX12_barred_51 : decode cX12_barred 51 = .ok (.iconst 0, 1) := by decide +kernel
theorem dX12_barred_52 : decode cX12_barred 52 = .ok (.goto 5, 3) := by decide +kernel
theorem dX12_barred_55 : decode cX12_barred 55 = .ok (.bipush (-2), 2) := by decide +kernel
theorem dX12_barred_57 : decode cX12_barred 57 = .ok (.istore 5, 2) := by decide +kernel
theorem dX12_barred_59 : decode cX12_barred 59 = .ok (.iinc 6 1, 3) := by decide +kernel
theorem dX12_barred_62 : decode cX12_barred 62 = .ok (.goto (-48), 3) := by decide +kernel
theorem dX12_barred_65 : decode cX12_barred 65 = .ok (.iload 5, 2) := by decide +kernel
theorem dX12_barred_67 : decode cX12_barred 67 = .ok (.ireturn, 1) := by decide +kernel
set_option maxRecDepth 20000 in
theorem ggX12_prints_X12_isSheet : GoodIn wsX12_prints wsX12_isSheet := goodIn_r _ [5, 6, 7, 8, 9, 4, 10] (by decide +kernel) (by decide +kernel)
set_option maxRecDepth 20000 in
theorem gX12_prints_X12_isSheet : GoodIn wsX12_prints (va_wsS RX12 240 yX12_isSheet wsX12_isSheet) := goodIn_app (goodIn_of _ (by decide +kernel)) ggX12_prints_X12_isSheet
set_option maxRecDepth 20000 in
theorem ggX12_prints_X12_in : GoodIn wsX12_prints wsX12_in := goodIn_r _ [10] (by decide +kernel) (by decide +kernel)
set_option maxRecDepth 20000 in
theorem gX12_prints_X12_in : GoodIn wsX12_prints (va_wsS RX12 67 yX12_in wsX12_in) := goodIn_app (goodIn_of _ (by decide +kernel)) ggX12_prints_X12_in
set_option maxRecDepth 20000 in
theorem ggX12_prints_X12_isPerson : GoodIn wsX12_prints wsX12_isPerson := goodIn_r _ [14, 15, 8, 9, 4, 10, 48, 49, 50, 51, 52, 53, 54, 55, 56, 57, 58, 59, 60, 61, 62, 63, 64, 65, 66, 67, 68, 69, 70, 71, 72, 73] (by decide +kernel) (by decide +kernel)
set_option maxRecDepth 20000 in
theorem gX12_prints_X12_isPerson : GoodIn wsX12_prints (wsV RX12 75 RX12 yX12_isPerson wsX12_isPerson) := goodIn_app (goodIn_of _ (by decide +kernel)) ggX12_prints_X12_isPerson
set_option maxRecDepth 20000 in
theorem ggX12_prints_X12_barred : GoodIn wsX12_prints wsX12_barred := goodIn_r _ [19, 20, 21, 22, 23, 24, 4, 25, 26, 27, 8, 9, 10, 48, 49, 50, 51, 52, 53, 54, 55, 56, 57, 58, 59, 60, 61, 62, 63, 64, 65, 66, 67, 68, 69, 70, 71, 72, 73] (by decide +kernel) (by decide +kernel)
set_option maxRecDepth 20000 in
theorem gX12_prints_X12_barred : GoodIn wsX12_prints (wsV RX12 245 RX12 yX12_barred wsX12_barred) := goodIn_app (goodIn_of _ (by decide +kernel)) ggX12_prints_X12_barred
set_option maxRecDepth 20000 in
theorem ggX12_prints_X12_waysOf : GoodIn wsX12_prints wsX12_waysOf := goodIn_r _ [31, 15, 32, 33, 34, 4, 35, 36, 37, 38, 39, 20, 40, 41, 42, 43, 48, 49, 50, 51, 52, 53, 54, 55, 56, 57, 58, 59, 60, 61, 62, 63, 64, 65, 66, 67, 68, 69, 70, 71, 72, 73] (by decide +kernel) (by decide +kernel)
set_option maxRecDepth 20000 in
theorem gX12_prints_X12_waysOf : GoodIn wsX12_prints (wsV RX12 233 RX12 yX12_waysOf wsX12_waysOf) := goodIn_app (goodIn_of _ (by decide +kernel)) ggX12_prints_X12_waysOf
set_option maxRecDepth 20000 in
theorem ggX12_prints_X12_waysOfAll : GoodIn wsX12_prints wsX12_waysOfAll := goodIn_r _ [47, 15, 28, 29, 30, 4, 31, 32, 33, 34, 35, 36, 37, 38, 39, 20, 40, 41, 42, 43, 48, 49, 50, 51, 52, 53, 54, 55, 56, 57, 58, 59, 60, 61, 62, 63, 64, 65, 66, 67, 68, 69, 70, 71, 72, 73] (by decide +kernel) (by decide +kernel)
set_option maxRecDepth 20000 in
theorem gX12_prints_X12_waysOfAll : GoodIn wsX12_prints (wsV RX12 248 RX12 yX12_waysOfAll wsX12_waysOfAll) := goodIn_app (goodIn_of _ (by decide +kernel)) ggX12_prints_X12_waysOfAll
theorem dX12_prints_0 : decode cX12_prints 0 = .ok (.iload_n 1, 1) := by decide +kernel
theorem dX12_prints_1 : decode cX12_prints 1 = .ok (.iload_n 2, 1) := by decide +kernel
theorem dX12_prints_2 : decode cX12_prints 2 = .ok (.invokestatic 240, 3) := by decide +kernel
theorem dX12_prints_5 : decode cX12_prints 5 = .ok (.ifCond .eq 36, 3) := by decide +kernel
theorem dX12_prints_8 : decode cX12_prints 8 = .ok (.iload 4, 2) := by decide +kernel
theorem dX12_prints_10 : decode cX12_prints 10 = .ok (.i2l, 1) := by decide +kernel
theorem dX12_prints_11 : decode cX12_prints 11 = .ok (.lconst 1, 1) := by decide +kernel
theorem dX12_prints_12 : decode cX12_prints 12 = .ok (.ldc2_w 243, 3) := by decide +kernel
theorem dX12_prints_15 : decode cX12_prints 15 = .ok (.invokestatic 67, 3) := by decide +kernel
theorem dX12_prints_18 : decode cX12_prints 18 = .ok (.ifCond .eq 23, 3) := by decide +kernel
theorem dX12_prints_21 : decode cX12_prints 21 = .ok (.aload_n 0, 1) := by decide +kernel
theorem dX12_prints_22 : decode cX12_prints 22 = .ok (.iload 5, 2) := by decide +kernel
theorem dX12_prints_24 : decode cX12_prints 24 = .ok (.invokevirtual 75, 3) := by decide +kernel
theorem dX12_prints_27 : decode cX12_prints 27 = .ok (.ifCond .eq 14, 3) := by decide +kernel
theorem dX12_prints_30 : decode cX12_prints 30 = .ok (.iload 6, 2) := by decide +kernel
theorem dX12_prints_32 : decode cX12_prints 32 = .ok (.i2l, 1) := by decide +kernel
theorem dX12_prints_33 : decode cX12_prints 33 = .ok (.lconst 0, 1) := by decide +kernel
theorem dX12_prints_34 : decode cX12_prints 34 = .ok (.lconst 1, 1) := by decide +kernel
theorem dX12_prints_35 : decode cX12_prints 35 = .ok (.invokestatic 67, 3) := by decide +kernel
theorem dX12_prints_38 : decode cX12_prints 38 = .ok (.ifCond .ne 5, 3) := by decide +kernel
theorem dX12_prints_41 : decode cX12_prints 41 = .ok (.iconst (-1), 1) := by decide +kernel
theorem dX12_prints_42 : decode cX12_prints 42 = .ok (.ireturn, 1) := by decide +kernel
theorem dX12_prints_43 : decode cX12_prints 43 = .ok (.aload_n 0, 1) := by decide +kernel
theorem dX12_prints_44 : decode cX12_prints 44 = .ok (.iload_n 1, 1) := by decide +kernel
theorem dX12_prints_45 : decode cX12_prints 45 = .ok (.iload_n 2, 1) := by decide +kernel
theorem dX12_prints_46 : decode cX12_prints 46 = .ok (.iload_n 3, 1) := by decide +kernel
theorem dX12_prints_47 : decode cX12_prints 47 = .ok (.iload 4, 2) := by decide +kernel
theorem dX12_prints_49 : decode cX12_prints 49 = .ok (.invokevirtual 245, 3) := by decide +kernel
theorem dX12_prints_52 : decode cX12_prints 52 = .ok (.istore 7, 2) := by decide +kernel
theorem dX12_prints_54 : decode cX12_prints 54 = .ok (.iload 7, 2) := by decide +kernel
theorem dX12_prints_56 : decode cX12_prints 56 = .ok (.ifCond .ge 6, 3) := by decide +kernel
theorem dX12_prints_59 : decode cX12_prints 59 = .ok (.iload 7, 2) := by decide +kernel
theorem dX12_prints_61 : decode cX12_prints 61 = .ok (.ireturn, 1) := by decide +kernel
theorem dX12_prints_62 : decode cX12_prints 62 = .ok (.iload 6, 2) := by decide +kernel
theorem dX12_prints_64 : decode cX12_prints 64 = .ok (.ifCond .ne 20, 3) := by decide +kernel
theorem dX12_prints_67 : decode cX12_prints 67 = .ok (.aload_n 0, 1) := by decide +kernel
theorem dX12_prints_68 : decode cX12_prints 68 = .ok (.iload 5, 2) := by decide +kernel
theorem dX12_prints_70 : decode cX12_prints 70 = .ok (.bipush 24, 2) := by decide +kernel
theorem dX12_prints_72 : decode cX12_prints 72 = .ok (.iload_n 1, 1) := by decide +kernel
theorem dX12_prints_73 : decode cX12_prints 73 = .ok (.imul, 1) := by decide +kernel
theorem dX12_prints_74 : decode cX12_prints 74 = .ok (.iload_n 3, 1) := by decide +kernel
theorem dX12_prints_75 : decode cX12_prints 75 = .ok (.iadd, 1) := by decide +kernel
theorem dX12_prints_76 : decode cX12_prints 76 = .ok (.iload 4, 2) := by decide +kernel
theorem dX12_prints_78 : decode cX12_prints 78 = .ok (.invokevirtual 233, 3) := by decide +kernel
theorem dX12_prints_81 : decode cX12_prints 81 = .ok (.goto 15, 3) := by decide +kernel
theorem dX12_prints_84 : decode cX12_prints 84 = .ok (.aload_n 0, 1) := by decide +kernel
theorem dX12_prints_85 : decode cX12_prints 85 = .ok (.bipush 24, 2) := by decide +kernel
theorem dX12_prints_87 : decode cX12_prints 87 = .ok (.iload_n 1, 1) := by decide +kernel
theorem dX12_prints_88 : decode cX12_prints 88 = .ok (.imul, 1) := by decide +kernel
theorem dX12_prints_89 : decode cX12_prints 89 = .ok (.iload_n 3, 1) := by decide +kernel
theorem dX12_prints_90 : decode cX12_prints 90 = .ok (.iadd, 1) := by decide +kernel
theorem dX12_prints_91 : decode cX12_prints 91 = .ok (.iload 4, 2) := by decide +kernel
theorem dX12_prints_93 : decode cX12_prints 93 = .ok (.invokevirtual 248, 3) := by decide +kernel
theorem dX12_prints_96 : decode cX12_prints 96 = .ok (.ireturn, 1) := by decide +kernel
set_option maxRecDepth 20000 in
theorem ggX12_odds_X12_isSheet : GoodIn wsX12_odds wsX12_isSheet := goodIn_r _ [5, 6, 7, 8, 9, 4, 10] (by decide +kernel) (by decide +kernel)
set_option maxRecDepth 20000 in
theorem gX12_odds_X12_isSheet : GoodIn wsX12_odds (va_wsS RX12 240 yX12_isSheet wsX12_isSheet) := goodIn_app (goodIn_of _ (by decide +kernel)) ggX12_odds_X12_isSheet
set_option maxRecDepth 20000 in
theorem ggX12_odds_X12_in : GoodIn wsX12_odds wsX12_in := goodIn_r _ [10] (by decide +kernel) (by decide +kernel)
set_option maxRecDepth 20000 in
theorem gX12_odds_X12_in : GoodIn wsX12_odds (va_wsS RX12 67 yX12_in wsX12_in) := goodIn_app (goodIn_of _ (by decide +kernel)) ggX12_odds_X12_in
set_option maxRecDepth 20000 in
theorem ggX12_odds_X12_isPerson : GoodIn wsX12_odds wsX12_isPerson := goodIn_r _ [14, 15, 8, 9, 4, 10, 48, 49, 50, 51, 52, 53, 54, 55, 56, 57, 58, 59, 60, 61, 62, 63, 64, 65, 66, 67, 68, 69, 70, 71, 72, 73] (by decide +kernel) (by decide +kernel)
set_option maxRecDepth 20000 in
theorem gX12_odds_X12_isPerson : GoodIn wsX12_odds (wsV RX12 75 RX12 yX12_isPerson wsX12_isPerson) := goodIn_app (goodIn_of _ (by decide +kernel)) ggX12_odds_X12_isPerson
set_option maxRecDepth 20000 in
theorem ggX12_odds_X12_barred : GoodIn wsX12_odds wsX12_barred := goodIn_r _ [19, 20, 21, 22, 23, 24, 4, 25, 26, 27, 8, 9, 10, 48, 49, 50, 51, 52, 53, 54, 55, 56, 57, 58, 59, 60, 61, 62, 63, 64, 65, 66, 67, 68, 69, 70, 71, 72, 73] (by decide +kernel) (by decide +kernel)
set_option maxRecDepth 20000 in
theorem gX12_odds_X12_barred : GoodIn wsX12_odds (wsV RX12 245 RX12 yX12_barred wsX12_barred) := goodIn_app (goodIn_of _ (by decide +kernel)) ggX12_odds_X12_barred
set_option maxRecDepth 20000 in
theorem ggX12_odds_X12_waysOf : GoodIn wsX12_odds wsX12_waysOf := goodIn_r _ [31, 15, 32, 33, 34, 4, 35, 36, 37, 38, 39, 20, 40, 41, 42, 43, 48, 49, 50, 51, 52, 53, 54, 55, 56, 57, 58, 59, 60, 61, 62, 63, 64, 65, 66, 67, 68, 69, 70, 71, 72, 73] (by decide +kernel) (by decide +kernel)
set_option maxRecDepth 20000 in
theorem gX12_odds_X12_waysOf : GoodIn wsX12_odds (wsV RX12 233 RX12 yX12_waysOf wsX12_waysOf) := goodIn_app (goodIn_of _ (by decide +kernel)) ggX12_odds_X12_waysOf
set_option maxRecDepth 20000 in
theorem ggX12_odds_X12_waysOfAll : GoodIn wsX12_odds wsX12_waysOfAll := goodIn_r _ [47, 15, 28, 29, 30, 4, 31, 32, 33, 34, 35, 36, 37, 38, 39, 20, 40, 41, 42, 43, 48, 49, 50, 51, 52, 53, 54, 55, 56, 57, 58, 59, 60, 61, 62, 63, 64, 65, 66, 67, 68, 69, 70, 71, 72, 73] (by decide +kernel) (by decide +kernel)
set_option maxRecDepth 20000 in
theorem gX12_odds_X12_waysOfAll : GoodIn wsX12_odds (wsV RX12 248 RX12 yX12_waysOfAll wsX12_waysOfAll) := goodIn_app (goodIn_of _ (by decide +kernel)) ggX12_odds_X12_waysOfAll
theorem dX12_odds_0 : decode cX12_odds 0 = .ok (.iload_n 1, 1) := by decide +kernel
theorem dX12_odds_1 : decode cX12_odds 1 = .ok (.iload_n 2, 1) := by decide +kernel
theorem dX12_odds_2 : decode cX12_odds 2 = .ok (.invokestatic 240, 3) := by decide +kernel
theorem dX12_odds_5 : decode cX12_odds 5 = .ok (.ifCond .eq 36, 3) := by decide +kernel
theorem dX12_odds_8 : decode cX12_odds 8 = .ok (.iload 4, 2) := by decide +kernel
theorem dX12_odds_10 : decode cX12_odds 10 = .ok (.i2l, 1) := by decide +kernel
theorem dX12_odds_11 : decode cX12_odds 11 = .ok (.lconst 1, 1) := by decide +kernel
theorem dX12_odds_12 : decode cX12_odds 12 = .ok (.ldc2_w 243, 3) := by decide +kernel
theorem dX12_odds_15 : decode cX12_odds 15 = .ok (.invokestatic 67, 3) := by decide +kernel
theorem dX12_odds_18 : decode cX12_odds 18 = .ok (.ifCond .eq 23, 3) := by decide +kernel
theorem dX12_odds_21 : decode cX12_odds 21 = .ok (.aload_n 0, 1) := by decide +kernel
theorem dX12_odds_22 : decode cX12_odds 22 = .ok (.iload 5, 2) := by decide +kernel
theorem dX12_odds_24 : decode cX12_odds 24 = .ok (.invokevirtual 75, 3) := by decide +kernel
theorem dX12_odds_27 : decode cX12_odds 27 = .ok (.ifCond .eq 14, 3) := by decide +kernel
theorem dX12_odds_30 : decode cX12_odds 30 = .ok (.iload 6, 2) := by decide +kernel
theorem dX12_odds_32 : decode cX12_odds 32 = .ok (.i2l, 1) := by decide +kernel
theorem dX12_odds_33 : decode cX12_odds 33 = .ok (.lconst 0, 1) := by decide +kernel
theorem dX12_odds_34 : decode cX12_odds 34 = .ok (.lconst 1, 1) := by decide +kernel
theorem dX12_odds_35 : decode cX12_odds 35 = .ok (.invokestatic 67, 3) := by decide +kernel
theorem dX12_odds_38 : decode cX12_odds 38 = .ok (.ifCond .ne 5, 3) := by decide +kernel
theorem dX12_odds_41 : decode cX12_odds 41 = .ok (.iconst (-1), 1) := by decide +kernel
theorem dX12_odds_42 : decode cX12_odds 42 = .ok (.ireturn, 1) := by decide +kernel
theorem dX12_odds_43 : decode cX12_odds 43 = .ok (.aload_n 0, 1) := by decide +kernel
theorem dX12_odds_44 : decode cX12_odds 44 = .ok (.iload_n 1, 1) := by decide +kernel
theorem dX12_odds_45 : decode cX12_odds 45 = .ok (.iload_n 2, 1) := by decide +kernel
theorem dX12_odds_46 : decode cX12_odds 46 = .ok (.iload_n 3, 1) := by decide +kernel
theorem dX12_odds_47 : decode cX12_odds 47 = .ok (.iload 4, 2) := by decide +kernel
theorem dX12_odds_49 : decode cX12_odds 49 = .ok (.invokevirtual 245, 3) := by decide +kernel
theorem dX12_odds_52 : decode cX12_odds 52 = .ok (.istore 7, 2) := by decide +kernel
theorem dX12_odds_54 : decode cX12_odds 54 = .ok (.iload 7, 2) := by decide +kernel
theorem dX12_odds_56 : decode cX12_odds 56 = .ok (.ifCond .ge 6, 3) := by decide +kernel
theorem dX12_odds_59 : decode cX12_odds 59 = .ok (.iload 7, 2) := by decide +kernel
theorem dX12_odds_61 : decode cX12_odds 61 = .ok (.ireturn, 1) := by decide +kernel
theorem dX12_odds_62 : decode cX12_odds 62 = .ok (.aload_n 0, 1) := by decide +kernel
theorem dX12_odds_63 : decode cX12_odds 63 = .ok (.iload 5, 2) := by decide +kernel
theorem dX12_odds_65 : decode cX12_odds 65 = .ok (.bipush 24, 2) := by decide +kernel
theorem dX12_odds_67 : decode cX12_odds 67 = .ok (.iload_n 1, 1) := by decide +kernel
theorem dX12_odds_68 : decode cX12_odds 68 = .ok (.imul, 1) := by decide +kernel
theorem dX12_odds_69 : decode cX12_odds 69 = .ok (.iload_n 3, 1) := by decide +kernel
theorem dX12_odds_70 : decode cX12_odds 70 = .ok (.iadd, 1) := by decide +kernel
theorem dX12_odds_71 : decode cX12_odds 71 = .ok (.iload 4, 2) := by decide +kernel
theorem dX12_odds_73 : decode cX12_odds 73 = .ok (.invokevirtual 233, 3) := by decide +kernel
theorem dX12_odds_76 : decode cX12_odds 76 = .ok (.istore 8, 2) := by decide +kernel
theorem dX12_odds_78 : decode cX12_odds 78 = .ok (.aload_n 0, 1) := by decide +kernel
theorem dX12_odds_79 : decode cX12_odds 79 = .ok (.bipush 24, 2) := by decide +kernel
theorem dX12_odds_81 : decode cX12_odds 81 = .ok (.iload_n 1, 1) := by decide +kernel
theorem dX12_odds_82 : decode cX12_odds 82 = .ok (.imul, 1) := by decide +kernel
theorem dX12_odds_83 : decode cX12_odds 83 = .ok (.iload_n 3, 1) := by decide +kernel
theorem dX12_odds_84 : decode cX12_odds 84 = .ok (.iadd, 1) := by decide +kernel
theorem dX12_odds_85 : decode cX12_odds 85 = .ok (.iload 4, 2) := by decide +kernel
theorem dX12_odds_87 : decode cX12_odds 87 = .ok (.invokevirtual 248, 3) := by decide +kernel
theorem dX12_odds_90 : decode cX12_odds 90 = .ok (.istore 9, 2) := by decide +kernel
theorem dX12_odds_92 : decode cX12_odds 92 = .ok (.iload 9, 2) := by decide +kernel
theorem dX12_odds_94 : decode cX12_odds 94 = .ok (.ifCond .ne 6, 3) := by decide +kernel
theorem dX12_odds_97 : decode cX12_odds 97 = .ok (.bipush (-4), 2) := by decide +kernel
theorem dX12_odds_99 : decode cX12_odds 99 = .ok (.ireturn, 1) := by decide +kernel
theorem dX12_odds_100 : decode cX12_odds 100 = .ok (.iload 8, 2) := by decide +kernel
theorem dX12_odds_102 : decode cX12_odds 102 = .ok (.istore 10, 2) := by decide +kernel
theorem dX12_odds_104 : decode cX12_odds 104 = .ok (.iload 9, 2) := by decide +kernel
theorem dX12_odds_106 : decode cX12_odds 106 = .ok (.istore 11, 2) := by decide +kernel
theorem dX12_odds_108 : decode cX12_odds 108 = .ok (.iload 11, 2) := by decide +kernel
theorem dX12_odds_110 : decode cX12_odds 110 = .ok (.ifCond .eq 21, 3) := by decide +kernel
theorem dX12_odds_113 : decode cX12_odds 113 = .ok (.iload 10, 2) := by decide +kernel
theorem dX12_odds_115 : decode cX12_odds 115 = .ok (.iload 11, 2) := by decide +kernel
theorem dX12_odds_117 : decode cX12_odds 117 = .ok (.irem, 1) := by decide +kernel
theorem dX12_odds_118 : decode cX12_odds 118 = .ok (.istore 12, 2) := by decide +kernel
theorem dX12_odds_120 : decode cX12_odds 120 = .ok (.iload 11, 2) := by decide +kernel
theorem dX12_odds_122 : decode cX12_odds 122 = .ok (.istore 10, 2) := by decide +kernel
theorem dX12_odds_124 : decode cX12_odds 124 = .ok (.iload 12, 2) := by decide +kernel
theorem dX12_odds_126 : decode cX12_odds 126 = .ok (.istore 11, 2) := by decide +kernel
theorem dX12_odds_128 : decode cX12_odds 128 = .ok (.goto (-20), 3) := by decide +kernel
theorem dX12_odds_131 : decode cX12_odds 131 = .ok (.iload 6, 2) := by decide +kernel
theorem dX12_odds_133 : decode cX12_odds 133 = .ok (.ifCond .ne 11, 3) := by decide +kernel
theorem dX12_odds_136 : decode cX12_odds 136 = .ok (.iload 8, 2) := by decide +kernel
theorem dX12_odds_138 : decode cX12_odds 138 = .ok (.iload 10, 2) := by decide +kernel
theorem dX12_odds_140 : decode cX12_odds 140 = .ok (.idiv, 1) := by decide +kernel
theorem dX12_odds_141 : decode cX12_odds 141 = .ok (.goto 8, 3) := by decide +kernel
theorem dX12_odds_144 : decode cX12_odds 144 = .ok (.iload 9, 2) := by decide +kernel
theorem dX12_odds_146 : decode cX12_odds 146 = .ok (.iload 10, 2) := by decide +kernel
theorem dX12_odds_148 : decode cX12_odds 148 = .ok (.idiv, 1) := by decide +kernel
theorem dX12_odds_149 : decode cX12_odds 149 = .ok (.ireturn, 1) := by decide +kernel
set_option maxRecDepth 20000 in
theorem ggX12_book_X12_isSheet : GoodIn wsX12_book wsX12_isSheet := goodIn_r _ [9, 10, 11, 12, 13, 8, 14] (by decide +kernel) (by decide +kernel)
set_option maxRecDepth 20000 in
theorem gX12_book_X12_isSheet : GoodIn wsX12_book (va_wsS RX12 240 yX12_isSheet wsX12_isSheet) := goodIn_app (goodIn_of _ (by decide +kernel)) ggX12_book_X12_isSheet
set_option maxRecDepth 20000 in
theorem ggX12_book_X12_in : GoodIn wsX12_book wsX12_in := goodIn_r _ [14] (by decide +kernel) (by decide +kernel)
set_option maxRecDepth 20000 in
theorem gX12_book_X12_in : GoodIn wsX12_book (va_wsS RX12 67 yX12_in wsX12_in) := goodIn_app (goodIn_of _ (by decide +kernel)) ggX12_book_X12_in
set_option maxRecDepth 20000 in
theorem ggX12_book_X12_found : GoodIn wsX12_book wsX12_found := goodIn_r _ [18, 19, 20, 25, 26, 27, 28, 29, 30, 31, 32, 33, 34, 35, 36, 37, 38, 39, 40, 41, 42, 43, 44, 45, 46, 47, 48, 49, 50] (by decide +kernel) (by decide +kernel)
set_option maxRecDepth 20000 in
theorem gX12_book_X12_found : GoodIn wsX12_book (wsV RX12 237 RX12 yX12_found wsX12_found) := goodIn_app (goodIn_of _ (by decide +kernel)) ggX12_book_X12_found
set_option maxRecDepth 20000 in
theorem ggX12_book_X12_isShoe : GoodIn wsX12_book wsX12_isShoe := goodIn_r _ [24, 3, 12, 13, 8, 14, 25, 26, 27, 28, 29, 30, 31, 32, 33, 34, 35, 36, 37, 38, 39, 40, 41, 42, 43, 44, 45, 46, 47, 48, 49, 50] (by decide +kernel) (by decide +kernel)
set_option maxRecDepth 20000 in
theorem gX12_book_X12_isShoe : GoodIn wsX12_book (wsV RX12 83 RX12 yX12_isShoe wsX12_isShoe) := goodIn_app (goodIn_of _ (by decide +kernel)) ggX12_book_X12_isShoe
theorem dX12_book_0 : decode cX12_book 0 = .ok (.iload_n 1, 1) := by decide +kernel
theorem dX12_book_1 : decode cX12_book 1 = .ok (.iload_n 2, 1) := by decide +kernel
theorem dX12_book_2 : decode cX12_book 2 = .ok (.invokestatic 240, 3) := by decide +kernel
theorem dX12_book_5 : decode cX12_book 5 = .ok (.ifCond .eq 16, 3) := by decide +kernel
theorem dX12_book_8 : decode cX12_book 8 = .ok (.iload 4, 2) := by decide +kernel
theorem dX12_book_10 : decode cX12_book 10 = .ok (.i2l, 1) := by decide +kernel
theorem dX12_book_11 : decode cX12_book 11 = .ok (.lconst 1, 1) := by decide +kernel
theorem dX12_book_12 : decode cX12_book 12 = .ok (.ldc2_w 243, 3) := by decide +kernel
theorem dX12_book_15 : decode cX12_book 15 = .ok (.invokestatic 67, 3) := by decide +kernel
theorem dX12_book_18 : decode cX12_book 18 = .ok (.ifCond .ne 5, 3) := by decide +kernel
theorem dX12_book_21 : decode cX12_book 21 = .ok (.iconst (-1), 1) := by decide +kernel
theorem dX12_book_22 : decode cX12_book 22 = .ok (.ireturn, 1) := by decide +kernel
theorem dX12_book_23 : decode cX12_book 23 = .ok (.aload_n 0, 1) := by decide +kernel
theorem dX12_book_24 : decode cX12_book 24 = .ok (.iload_n 1, 1) := by decide +kernel
theorem dX12_book_25 : decode cX12_book 25 = .ok (.iload_n 2, 1) := by decide +kernel
theorem dX12_book_26 : decode cX12_book 26 = .ok (.iload_n 3, 1) := by decide +kernel
theorem dX12_book_27 : decode cX12_book 27 = .ok (.iconst 2, 1) := by decide +kernel
theorem dX12_book_28 : decode cX12_book 28 = .ok (.iload 4, 2) := by decide +kernel
theorem dX12_book_30 : decode cX12_book 30 = .ok (.imul, 1) := by decide +kernel
theorem dX12_book_31 : decode cX12_book 31 = .ok (.invokevirtual 237, 3) := by decide +kernel
theorem dX12_book_34 : decode cX12_book 34 = .ok (.istore 5, 2) := by decide +kernel
theorem dX12_book_36 : decode cX12_book 36 = .ok (.iload 5, 2) := by decide +kernel
theorem dX12_book_38 : decode cX12_book 38 = .ok (.ifCond .ge 6, 3) := by decide +kernel
theorem dX12_book_41 : decode cX12_book 41 = .ok (.iload 5, 2) := by decide +kernel
theorem dX12_book_43 : decode cX12_book 43 = .ok (.ireturn, 1) := by decide +kernel
theorem dX12_book_44 : decode cX12_book 44 = .ok (.iconst 0, 1) := by decide +kernel
theorem dX12_book_45 : decode cX12_book 45 = .ok (.istore 6, 2) := by decide +kernel
theorem dX12_book_47 : decode cX12_book 47 = .ok (.iload 6, 2) := by decide +kernel
theorem dX12_book_49 : decode cX12_book 49 = .ok (.bipush 16, 2) := by decide +kernel
theorem dX12_book_51 : decode cX12_book 51 = .ok (.if_icmp .ge 26, 3) := by decide +kernel
theorem dX12_book_54 : decode cX12_book 54 = .ok (.aload_n 0, 1) := by decide +kernel
theorem dX12_book_55 : decode cX12_book 55 = .ok (.getfield 64, 3) := by decide +kernel
theorem dX12_book_58 : decode cX12_book 58 = .ok (.iload 6, 2) := by decide +kernel
theorem dX12_book_60 : decode cX12_book 60 = .ok (.aload_n 0, 1) := by decide +kernel
theorem dX12_book_61 : decode cX12_book 61 = .ok (.getfield 7, 3) := by decide +kernel
theorem dX12_book_64 : decode cX12_book 64 = .ok (.bipush 63, 2) := by decide +kernel
theorem dX12_book_66 : decode cX12_book 66 = .ok (.iload 6, 2) := by decide +kernel
theorem dX12_book_68 : decode cX12_book 68 = .ok (.iadd, 1) := by decide +kernel
theorem dX12_book_69 : decode cX12_book 69 = .ok (.iaload, 1) := by decide +kernel
theorem dX12_book_70 : decode cX12_book 70 = .ok (.iastore, 1) := by decide +kernel
theorem dX12_book_71 : decode cX12_book 71 = .ok (.iinc 6 1, 3) := by decide +kernel
theorem dX12_book_74 : decode cX12_book 74 = .ok (.goto (-27), 3) := by decide +kernel
theorem dX12_book_77 : decode cX12_book 77 = .ok (.iconst 0, 1) := by decide +kernel
theorem dX12_book_78 : decode cX12_book 78 = .ok (.istore 6, 2) := by decide +kernel
theorem dX12_book_80 : decode cX12_book 80 = .ok (.iload 6, 2) := by decide +kernel
theorem dX12_book_82 : decode cX12_book 82 = .ok (.iload 4, 2) := by decide +kernel
theorem dX12_book_84 : decode cX12_book 84 = .ok (.if_icmp .ge 96, 3) := by decide +kernel
theorem dX12_book_87 : decode cX12_book 87 = .ok (.aload_n 0, 1) := by decide +kernel
theorem dX12_book_88 : decode cX12_book 88 = .ok (.getfield 25, 3) := by decide +kernel
theorem dX12_book_91 : decode cX12_book 91 = .ok (.bipush 24, 2) := by decide +kernel
theorem dX12_book_93 : decode cX12_book 93 = .ok (.iload_n 1, 1) := by decide +kernel
theorem dX12_book_94 : decode cX12_book 94 = .ok (.imul, 1) := by decide +kernel
theorem dX12_book_95 : decode cX12_book 95 = .ok (.iload_n 3, 1) := by decide +kernel
theorem dX12_book_96 : decode cX12_book 96 = .ok (.iadd, 1) := by decide +kernel
theorem dX12_book_97 : decode cX12_book 97 = .ok (.iconst 2, 1) := by decide +kernel
theorem dX12_book_98 : decode cX12_book 98 = .ok (.iload 6, 2) := by decide +kernel
theorem dX12_book_100 : decode cX12_book 100 = .ok (.imul, 1) := by decide +kernel
theorem dX12_book_101 : decode cX12_book 101 = .ok (.iadd, 1) := by decide +kernel
theorem dX12_book_102 : decode cX12_book 102 = .ok (.iaload, 1) := by decide +kernel
theorem dX12_book_103 : decode cX12_book 103 = .ok (.istore 7, 2) := by decide +kernel
theorem dX12_book_105 : decode cX12_book 105 = .ok (.aload_n 0, 1) := by decide +kernel
theorem dX12_book_106 : decode cX12_book 106 = .ok (.getfield 25, 3) := by decide +kernel
theorem dX12_book_109 : decode cX12_book 109 = .ok (.bipush 24, 2) := by decide +kernel
theorem dX12_book_111 : decode cX12_book 111 = .ok (.iload_n 1, 1) := by decide +kernel
theorem dX12_book_112 : decode cX12_book 112 = .ok (.imul, 1) := by decide +kernel
theorem dX12_book_113 : decode cX12_book 113 = .ok (.iload_n 3, 1) := by decide +kernel
theorem dX12_book_114 : decode cX12_book 114 = .ok (.iadd, 1) := by decide +kernel
theorem dX12_book_115 : decode cX12_book 115 = .ok (.iconst 2, 1) := by decide +kernel
theorem dX12_book_116 : decode cX12_book 116 = .ok (.iload 6, 2) := by decide +kernel
theorem dX12_book_118 : decode cX12_book 118 = .ok (.imul, 1) := by decide +kernel
theorem dX12_book_119 : decode cX12_book 119 = .ok (.iadd, 1) := by decide +kernel
theorem dX12_book_120 : decode cX12_book 120 = .ok (.iconst 1, 1) := by decide +kernel
theorem dX12_book_121 : decode cX12_book 121 = .ok (.iadd, 1) := by decide +kernel
theorem dX12_book_122 : decode cX12_book 122 = .ok (.iaload, 1) := by decide +kernel
theorem dX12_book_123 : decode cX12_book 123 = .ok (.istore 8, 2) := by decide +kernel
theorem dX12_book_125 : decode cX12_book 125 = .ok (.aload_n 0, 1) := by decide +kernel
theorem dX12_book_126 : decode cX12_book 126 = .ok (.iload 7, 2) := by decide +kernel
theorem dX12_book_128 : decode cX12_book 128 = .ok (.invokevirtual 83, 3) := by decide +kernel
theorem dX12_book_131 : decode cX12_book 131 = .ok (.ifCond .eq 28, 3) := by decide +kernel
theorem dX12_book_134 : decode cX12_book 134 = .ok (.iload 8, 2) := by decide +kernel
theorem dX12_book_136 : decode cX12_book 136 = .ok (.i2l, 1) := by decide +kernel
theorem dX12_book_137 : decode cX12_book 137 = .ok (.lconst 1, 1) := by decide +kernel
theorem dX12_book_138 : decode cX12_book 138 = .ok (.ldc2_w 81, 3) := by decide +kernel
theorem dX12_book_141 : decode cX12_book 141 = .ok (.invokestatic 67, 3) := by decide +kernel
theorem dX12_book_144 : decode cX12_book 144 = .ok (.ifCond .eq 15, 3) := by decide +kernel
theorem dX12_book_147 : decode cX12_book 147 = .ok (.aload_n 0, 1) := by decide +kernel
theorem dX12_book_148 : decode cX12_book 148 = .ok (.getfield 64, 3) := by decide +kernel
theorem dX12_book_151 : decode cX12_book 151 = .ok (.iload 7, 2) := by decide +kernel
theorem dX12_book_153 : decode cX12_book 153 = .ok (.iaload, 1) := by decide +kernel
theorem dX12_book_154 : decode cX12_book 154 = .ok (.iload 8, 2) := by decide +kernel
theorem dX12_book_156 : decode cX12_book 156 = .ok (.if_icmp .ge 6, 3) := by decide +kernel
theorem dX12_book_159 : decode cX12_book 159 = .ok (.iload 6, 2) := by decide +kernel
theorem dX12_book_161 : decode cX12_book 161 = .ok (.ireturn, 1) := by decide +kernel
theorem dX12_book_162 : decode cX12_book 162 = .ok (.aload_n 0, 1) := by decide +kernel
theorem dX12_book_163 : decode cX12_book 163 = .ok (.getfield 64, 3) := by decide +kernel
theorem dX12_book_166 : decode cX12_book 166 = .ok (.iload 7, 2) := by decide +kernel
theorem dX12_book_168 : decode cX12_book 168 = .ok (.dup2, 1) := by decide +kernel
theorem dX12_book_169 : decode cX12_book 169 = .ok (.iaload, 1) := by decide +kernel
theorem dX12_book_170 : decode cX12_book 170 = .ok (.iload 8, 2) := by decide +kernel
theorem dX12_book_172 : decode cX12_book 172 = .ok (.isub, 1) := by decide +kernel
theorem dX12_book_173 : decode cX12_book 173 = .ok (.iastore, 1) := by decide +kernel
theorem dX12_book_174 : decode cX12_book 174 = .ok (.iinc 6 1, 3) := by decide +kernel
theorem dX12_book_177 : decode cX12_book 177 = .ok (.goto (-97), 3) := by decide +kernel
theorem dX12_book_180 : decode cX12_book 180 = .ok (.bipush (-4), 2) := by decide +kernel
theorem dX12_book_182 : decode cX12_book 182 = .ok (.ireturn, 1) := by decide +kernel
set_option maxRecDepth 20000 in
theorem ggX12_sheet_X12_isSheet : GoodIn wsX12_sheet wsX12_isSheet := goodIn_r _ [7, 8, 9, 10, 11, 6, 12] (by decide +kernel) (by decide +kernel)
set_option maxRecDepth 20000 in
theorem gX12_sheet_X12_isSheet : GoodIn wsX12_sheet (va_wsS RX12 240 yX12_isSheet wsX12_isSheet) := goodIn_app (goodIn_of _ (by decide +kernel)) ggX12_sheet_X12_isSheet
theorem dX12_sheet_0 : decode cX12_sheet 0 = .ok (.iload_n 1, 1) := by decide +kernel
theorem dX12_sheet_1 : decode cX12_sheet 1 = .ok (.iload_n 2, 1) := by decide +kernel
theorem dX12_sheet_2 : decode cX12_sheet 2 = .ok (.invokestatic 240, 3) := by decide +kernel
theorem dX12_sheet_5 : decode cX12_sheet 5 = .ok (.ifCond .eq 9, 3) := by decide +kernel
theorem dX12_sheet_8 : decode cX12_sheet 8 = .ok (.iload_n 3, 1) := by decide +kernel
theorem dX12_sheet_9 : decode cX12_sheet 9 = .ok (.bipush 24, 2) := by decide +kernel
theorem dX12_sheet_11 : decode cX12_sheet 11 = .ok (.if_icmp .le 5, 3) := by decide +kernel
theorem dX12_sheet_14 : decode cX12_sheet 14 = .ok (.iconst (-1), 1) := by decide +kernel
theorem dX12_sheet_15 : decode cX12_sheet 15 = .ok (.ireturn, 1) := by decide +kernel
theorem dX12_sheet_16 : decode cX12_sheet 16 = .ok (.iload_n 3, 1) := by decide +kernel
theorem dX12_sheet_17 : decode cX12_sheet 17 = .ok (.ifCond .ge 6, 3) := by decide +kernel
theorem dX12_sheet_20 : decode cX12_sheet 20 = .ok (.bipush (-14), 2) := by decide +kernel
theorem dX12_sheet_22 : decode cX12_sheet 22 = .ok (.ireturn, 1) := by decide +kernel
theorem dX12_sheet_23 : decode cX12_sheet 23 = .ok (.aload_n 0, 1) := by decide +kernel
theorem dX12_sheet_24 : decode cX12_sheet 24 = .ok (.getfield 19, 3) := by decide +kernel
theorem dX12_sheet_27 : decode cX12_sheet 27 = .ok (.iload_n 1, 1) := by decide +kernel
theorem dX12_sheet_28 : decode cX12_sheet 28 = .ok (.iload_n 3, 1) := by decide +kernel
theorem dX12_sheet_29 : decode cX12_sheet 29 = .ok (.iastore, 1) := by decide +kernel
theorem dX12_sheet_30 : decode cX12_sheet 30 = .ok (.aload_n 0, 1) := by decide +kernel
theorem dX12_sheet_31 : decode cX12_sheet 31 = .ok (.getfield 22, 3) := by decide +kernel
theorem dX12_sheet_34 : decode cX12_sheet 34 = .ok (.iload_n 1, 1) := by decide +kernel
theorem dX12_sheet_35 : decode cX12_sheet 35 = .ok (.iload_n 2, 1) := by decide +kernel
theorem dX12_sheet_36 : decode cX12_sheet 36 = .ok (.iastore, 1) := by decide +kernel
theorem dX12_sheet_37 : decode cX12_sheet 37 = .ok (.iconst 0, 1) := by decide +kernel
theorem dX12_sheet_38 : decode cX12_sheet 38 = .ok (.istore 4, 2) := by decide +kernel
theorem dX12_sheet_40 : decode cX12_sheet 40 = .ok (.iload 4, 2) := by decide +kernel
theorem dX12_sheet_42 : decode cX12_sheet 42 = .ok (.bipush 24, 2) := by decide +kernel
theorem dX12_sheet_44 : decode cX12_sheet 44 = .ok (.if_icmp .ge 22, 3) := by decide +kernel
theorem dX12_sheet_47 : decode cX12_sheet 47 = .ok (.aload_n 0, 1) := by decide +kernel
theorem dX12_sheet_48 : decode cX12_sheet 48 = .ok (.getfield 25, 3) := by decide +kernel
theorem dX12_sheet_51 : decode cX12_sheet 51 = .ok (.bipush 24, 2) := by decide +kernel
theorem dX12_sheet_53 : decode cX12_sheet 53 = .ok (.iload_n 1, 1) := by decide +kernel
theorem dX12_sheet_54 : decode cX12_sheet 54 = .ok (.imul, 1) := by decide +kernel
theorem dX12_sheet_55 : decode cX12_sheet 55 = .ok (.iload 4, 2) := by decide +kernel
theorem dX12_sheet_57 : decode cX12_sheet 57 = .ok (.iadd, 1) := by decide +kernel
theorem dX12_sheet_58 : decode cX12_sheet 58 = .ok (.iconst 0, 1) := by decide +kernel
theorem dX12_sheet_59 : decode cX12_sheet 59 = .ok (.iastore, 1) := by decide +kernel
theorem dX12_sheet_60 : decode cX12_sheet 60 = .ok (.iinc 4 1, 3) := by decide +kernel
theorem dX12_sheet_63 : decode cX12_sheet 63 = .ok (.goto (-23), 3) := by decide +kernel
theorem dX12_sheet_66 : decode cX12_sheet 66 = .ok (.iload_n 3, 1) := by decide +kernel
theorem dX12_sheet_67 : decode cX12_sheet 67 = .ok (.ireturn, 1) := by decide +kernel
set_option maxRecDepth 20000 in
theorem ggX12_drop_X12_in : GoodIn wsX12_drop wsX12_in := goodIn_r _ [6] (by decide +kernel) (by decide +kernel)
set_option maxRecDepth 20000 in
theorem gX12_drop_X12_in : GoodIn wsX12_drop (va_wsS RX12 67 yX12_in wsX12_in) := goodIn_app (goodIn_of _ (by decide +kernel)) ggX12_drop_X12_in
theorem dX12_drop_0 : decode cX12_drop 0 = .ok (.iload_n 1, 1) := by decide +kernel
theorem dX12_drop_1 : decode cX12_drop 1 = .ok (.i2l, 1) := by decide +kernel
theorem dX12_drop_2 : decode cX12_drop 2 = .ok (.lconst 0, 1) := by decide +kernel
theorem dX12_drop_3 : decode cX12_drop 3 = .ok (.ldc2_w 79, 3) := by decide +kernel
theorem dX12_drop_6 : decode cX12_drop 6 = .ok (.invokestatic 67, 3) := by decide +kernel
theorem dX12_drop_9 : decode cX12_drop 9 = .ok (.ifCond .ne 5, 3) := by decide +kernel
theorem dX12_drop_12 : decode cX12_drop 12 = .ok (.iconst (-1), 1) := by decide +kernel
theorem dX12_drop_13 : decode cX12_drop 13 = .ok (.ireturn, 1) := by decide +kernel
theorem dX12_drop_14 : decode cX12_drop 14 = .ok (.aload_n 0, 1) := by decide +kernel
theorem dX12_drop_15 : decode cX12_drop 15 = .ok (.getfield 19, 3) := by decide +kernel
theorem dX12_drop_18 : decode cX12_drop 18 = .ok (.iload_n 1, 1) := by decide +kernel
theorem dX12_drop_19 : decode cX12_drop 19 = .ok (.iaload, 1) := by decide +kernel
theorem dX12_drop_20 : decode cX12_drop 20 = .ok (.ifCond .ge 6, 3) := by decide +kernel
theorem dX12_drop_23 : decode cX12_drop 23 = .ok (.bipush (-11), 2) := by decide +kernel
theorem dX12_drop_25 : decode cX12_drop 25 = .ok (.ireturn, 1) := by decide +kernel
theorem dX12_drop_26 : decode cX12_drop 26 = .ok (.aload_n 0, 1) := by decide +kernel
theorem dX12_drop_27 : decode cX12_drop 27 = .ok (.getfield 19, 3) := by decide +kernel
theorem dX12_drop_30 : decode cX12_drop 30 = .ok (.iload_n 1, 1) := by decide +kernel
theorem dX12_drop_31 : decode cX12_drop 31 = .ok (.iaload, 1) := by decide +kernel
theorem dX12_drop_32 : decode cX12_drop 32 = .ok (.istore_n 2, 1) := by decide +kernel
theorem dX12_drop_33 : decode cX12_drop 33 = .ok (.aload_n 0, 1) := by decide +kernel
theorem dX12_drop_34 : decode cX12_drop 34 = .ok (.getfield 19, 3) := by decide +kernel
theorem dX12_drop_37 : decode cX12_drop 37 = .ok (.iload_n 1, 1) := by decide +kernel
theorem dX12_drop_38 : decode cX12_drop 38 = .ok (.iconst (-1), 1) := by decide +kernel
theorem dX12_drop_39 : decode cX12_drop 39 = .ok (.iastore, 1) := by decide +kernel
theorem dX12_drop_40 : decode cX12_drop 40 = .ok (.iload_n 2, 1) := by decide +kernel
theorem dX12_drop_41 : decode cX12_drop 41 = .ok (.ireturn, 1) := by decide +kernel
set_option maxRecDepth 20000 in
theorem ggX12_item_X12_isSheet : GoodIn wsX12_item wsX12_isSheet := goodIn_r _ [5, 6, 7, 8, 9, 4, 10] (by decide +kernel) (by decide +kernel)
set_option maxRecDepth 20000 in
theorem gX12_item_X12_isSheet : GoodIn wsX12_item (va_wsS RX12 240 yX12_isSheet wsX12_isSheet) := goodIn_app (goodIn_of _ (by decide +kernel)) ggX12_item_X12_isSheet
set_option maxRecDepth 20000 in
theorem ggX12_item_X12_found : GoodIn wsX12_item wsX12_found := goodIn_r _ [14, 15, 16, 17, 18, 19, 20, 21, 22, 23, 24, 25, 26, 27, 28, 29, 30, 31, 32, 33, 34, 35, 36, 37, 38, 39, 40, 41, 42] (by decide +kernel) (by decide +kernel)
set_option maxRecDepth 20000 in
theorem gX12_item_X12_found : GoodIn wsX12_item (wsV RX12 237 RX12 yX12_found wsX12_found) := goodIn_app (goodIn_of _ (by decide +kernel)) ggX12_item_X12_found
theorem dX12_item_0 : decode cX12_item 0 = .ok (.iload_n 1, 1) := by decide +kernel
theorem dX12_item_1 : decode cX12_item 1 = .ok (.iload_n 2, 1) := by decide +kernel
theorem dX12_item_2 : decode cX12_item 2 = .ok (.invokestatic 240, 3) := by decide +kernel
theorem dX12_item_5 : decode cX12_item 5 = .ok (.ifCond .ne 5, 3) := by decide +kernel
theorem dX12_item_8 : decode cX12_item 8 = .ok (.iconst (-1), 1) := by decide +kernel
theorem dX12_item_9 : decode cX12_item 9 = .ok (.ireturn, 1) := by decide +kernel
theorem dX12_item_10 : decode cX12_item 10 = .ok (.aload_n 0, 1) := by decide +kernel
theorem dX12_item_11 : decode cX12_item 11 = .ok (.iload_n 1, 1) := by decide +kernel
theorem dX12_item_12 : decode cX12_item 12 = .ok (.iload_n 2, 1) := by decide +kernel
theorem dX12_item_13 : decode cX12_item 13 = .ok (.iload_n 3, 1) := by decide +kernel
theorem dX12_item_14 : decode cX12_item 14 = .ok (.iconst 1, 1) := by decide +kernel
theorem dX12_item_15 : decode cX12_item 15 = .ok (.invokevirtual 237, 3) := by decide +kernel
theorem dX12_item_18 : decode cX12_item 18 = .ok (.istore 5, 2) := by decide +kernel
theorem dX12_item_20 : decode cX12_item 20 = .ok (.iload 5, 2) := by decide +kernel
theorem dX12_item_22 : decode cX12_item 22 = .ok (.ifCond .ge 6, 3) := by decide +kernel
theorem dX12_item_25 : decode cX12_item 25 = .ok (.iload 5, 2) := by decide +kernel
theorem dX12_item_27 : decode cX12_item 27 = .ok (.ireturn, 1) := by decide +kernel
theorem dX12_item_28 : decode cX12_item 28 = .ok (.aload_n 0, 1) := by decide +kernel
theorem dX12_item_29 : decode cX12_item 29 = .ok (.getfield 25, 3) := by decide +kernel
theorem dX12_item_32 : decode cX12_item 32 = .ok (.bipush 24, 2) := by decide +kernel
theorem dX12_item_34 : decode cX12_item 34 = .ok (.iload_n 1, 1) := by decide +kernel
theorem dX12_item_35 : decode cX12_item 35 = .ok (.imul, 1) := by decide +kernel
theorem dX12_item_36 : decode cX12_item 36 = .ok (.iload_n 3, 1) := by decide +kernel
theorem dX12_item_37 : decode cX12_item 37 = .ok (.iadd, 1) := by decide +kernel
theorem dX12_item_38 : decode cX12_item 38 = .ok (.iload_n 2, 1) := by decide +kernel
theorem dX12_item_39 : decode cX12_item 39 = .ok (.ifCond .ne 9, 3) := by decide +kernel
theorem dX12_item_42 : decode cX12_item 42 = .ok (.iload 4, 2) := by decide +kernel
theorem dX12_item_44 : decode cX12_item 44 = .ok (.i2b, 1) := by decide +kernel
theorem dX12_item_45 : decode cX12_item 45 = .ok (.goto 16, 3) := by decide +kernel
theorem dX12_item_48 : decode cX12_item 48 = .ok (.iload_n 2, 1) := by decide +kernel
theorem dX12_item_49 : decode cX12_item 49 = .ok (.iconst 1, 1) := by decide +kernel
theorem dX12_item_50 : decode cX12_item 50 = .ok (.if_icmp .ne 9, 3) := by decide +kernel
theorem dX12_item_53 : decode cX12_item 53 = .ok (.iload 4, 2) := by decide +kernel
theorem dX12_item_55 : decode cX12_item 55 = .ok (.i2s, 1) := by decide +kernel
theorem dX12_item_56 : decode cX12_item 56 = .ok (.goto 5, 3) := by decide +kernel
theorem dX12_item_59 : decode cX12_item 59 = .ok (.iload 4, 2) := by decide +kernel
theorem dX12_item_61 : decode cX12_item 61 = .ok (.iastore, 1) := by decide +kernel
theorem dX12_item_62 : decode cX12_item 62 = .ok (.iconst 1, 1) := by decide +kernel
theorem dX12_item_63 : decode cX12_item 63 = .ok (.ireturn, 1) := by decide +kernel
set_option maxRecDepth 20000 in
theorem ggX12_copy_X12_in : GoodIn wsX12_copy wsX12_in := goodIn_r _ [8] (by decide +kernel) (by decide +kernel)
set_option maxRecDepth 20000 in
theorem gX12_copy_X12_in : GoodIn wsX12_copy (va_wsS RX12 67 yX12_in wsX12_in) := goodIn_app (goodIn_of _ (by decide +kernel)) ggX12_copy_X12_in
set_option maxRecDepth 20000 in
theorem ggX12_copy_X12_found : GoodIn wsX12_copy wsX12_found := goodIn_r _ [12, 2, 3, 13, 14, 15, 16, 17, 18, 19, 20, 21, 22, 23, 24, 25, 26, 27, 28, 29, 30, 31, 32, 33, 34, 35, 36, 37, 38] (by decide +kernel) (by decide +kernel)
set_option maxRecDepth 20000 in
theorem gX12_copy_X12_found : GoodIn wsX12_copy (wsV RX12 237 RX12 yX12_found wsX12_found) := goodIn_app (goodIn_of _ (by decide +kernel)) ggX12_copy_X12_found
theorem dX12_copy_0 : decode cX12_copy 0 = .ok (.iload_n 1, 1) := by decide +kernel
theorem dX12_copy_1 : decode cX12_copy 1 = .ok (.i2l, 1) := by decide +kernel
theorem dX12_copy_2 : decode cX12_copy 2 = .ok (.lconst 0, 1) := by decide +kernel
theorem dX12_copy_3 : decode cX12_copy 3 = .ok (.ldc2_w 79, 3) := by decide +kernel
theorem dX12_copy_6 : decode cX12_copy 6 = .ok (.invokestatic 67, 3) := by decide +kernel
theorem dX12_copy_9 : decode cX12_copy 9 = .ok (.ifCond .eq 15, 3) := by decide +kernel
theorem dX12_copy_12 : decode cX12_copy 12 = .ok (.iload_n 3, 1) := by decide +kernel
theorem dX12_copy_13 : decode cX12_copy 13 = .ok (.i2l, 1) := by decide +kernel
theorem dX12_copy_14 : decode cX12_copy 14 = .ok (.lconst 0, 1) := by decide +kernel
theorem dX12_copy_15 : decode cX12_copy 15 = .ok (.ldc2_w 79, 3) := by decide +kernel
theorem dX12_copy_18 : decode cX12_copy 18 = .ok (.invokestatic 67, 3) := by decide +kernel
theorem dX12_copy_21 : decode cX12_copy 21 = .ok (.ifCond .ne 5, 3) := by decide +kernel
theorem dX12_copy_24 : decode cX12_copy 24 = .ok (.iconst (-1), 1) := by decide +kernel
theorem dX12_copy_25 : decode cX12_copy 25 = .ok (.ireturn, 1) := by decide +kernel
theorem dX12_copy_26 : decode cX12_copy 26 = .ok (.aload_n 0, 1) := by decide +kernel
theorem dX12_copy_27 : decode cX12_copy 27 = .ok (.getfield 19, 3) := by decide +kernel
theorem dX12_copy_30 : decode cX12_copy 30 = .ok (.iload_n 1, 1) := by decide +kernel
theorem dX12_copy_31 : decode cX12_copy 31 = .ok (.iaload, 1) := by decide +kernel
theorem dX12_copy_32 : decode cX12_copy 32 = .ok (.ifCond .lt 12, 3) := by decide +kernel
theorem dX12_copy_35 : decode cX12_copy 35 = .ok (.aload_n 0, 1) := by decide +kernel
theorem dX12_copy_36 : decode cX12_copy 36 = .ok (.getfield 19, 3) := by decide +kernel
theorem dX12_copy_39 : decode cX12_copy 39 = .ok (.iload_n 3, 1) := by decide +kernel
theorem dX12_copy_40 : decode cX12_copy 40 = .ok (.iaload, 1) := by decide +kernel
theorem dX12_copy_41 : decode cX12_copy 41 = .ok (.ifCond .ge 6, 3) := by decide +kernel
theorem dX12_copy_44 : decode cX12_copy 44 = .ok (.bipush (-11), 2) := by decide +kernel
theorem dX12_copy_46 : decode cX12_copy 46 = .ok (.ireturn, 1) := by decide +kernel
theorem dX12_copy_47 : decode cX12_copy 47 = .ok (.aload_n 0, 1) := by decide +kernel
theorem dX12_copy_48 : decode cX12_copy 48 = .ok (.getfield 22, 3) := by decide +kernel
theorem dX12_copy_51 : decode cX12_copy 51 = .ok (.iload_n 1, 1) := by decide +kernel
theorem dX12_copy_52 : decode cX12_copy 52 = .ok (.iaload, 1) := by decide +kernel
theorem dX12_copy_53 : decode cX12_copy 53 = .ok (.aload_n 0, 1) := by decide +kernel
theorem dX12_copy_54 : decode cX12_copy 54 = .ok (.getfield 22, 3) := by decide +kernel
theorem dX12_copy_57 : decode cX12_copy 57 = .ok (.iload_n 3, 1) := by decide +kernel
theorem dX12_copy_58 : decode cX12_copy 58 = .ok (.iaload, 1) := by decide +kernel
theorem dX12_copy_59 : decode cX12_copy 59 = .ok (.if_icmp .eq 6, 3) := by decide +kernel
theorem dX12_copy_62 : decode cX12_copy 62 = .ok (.bipush (-12), 2) := by decide +kernel
theorem dX12_copy_64 : decode cX12_copy 64 = .ok (.ireturn, 1) := by decide +kernel
theorem dX12_copy_65 : decode cX12_copy 65 = .ok (.iload 5, 2) := by decide +kernel
theorem dX12_copy_67 : decode cX12_copy 67 = .ok (.ifCond .lt 38, 3) := by decide +kernel
theorem dX12_copy_70 : decode cX12_copy 70 = .ok (.aload_n 0, 1) := by decide +kernel
theorem dX12_copy_71 : decode cX12_copy 71 = .ok (.iload_n 1, 1) := by decide +kernel
theorem dX12_copy_72 : decode cX12_copy 72 = .ok (.aload_n 0, 1) := by decide +kernel
theorem dX12_copy_73 : decode cX12_copy 73 = .ok (.getfield 22, 3) := by decide +kernel
theorem dX12_copy_76 : decode cX12_copy 76 = .ok (.iload_n 1, 1) := by decide +kernel
theorem dX12_copy_77 : decode cX12_copy 77 = .ok (.iaload, 1) := by decide +kernel
theorem dX12_copy_78 : decode cX12_copy 78 = .ok (.iload_n 2, 1) := by decide +kernel
theorem dX12_copy_79 : decode cX12_copy 79 = .ok (.iload 5, 2) := by decide +kernel
theorem dX12_copy_81 : decode cX12_copy 81 = .ok (.invokevirtual 237, 3) := by decide +kernel
theorem dX12_copy_84 : decode cX12_copy 84 = .ok (.ifCond .lt 21, 3) := by decide +kernel
theorem dX12_copy_87 : decode cX12_copy 87 = .ok (.aload_n 0, 1) := by decide +kernel
theorem dX12_copy_88 : decode cX12_copy 88 = .ok (.iload_n 3, 1) := by decide +kernel
theorem dX12_copy_89 : decode cX12_copy 89 = .ok (.aload_n 0, 1) := by decide +kernel
theorem dX12_copy_90 : decode cX12_copy 90 = .ok (.getfield 22, 3) := by decide +kernel
theorem dX12_copy_93 : decode cX12_copy 93 = .ok (.iload_n 3, 1) := by decide +kernel
theorem dX12_copy_94 : decode cX12_copy 94 = .ok (.iaload, 1) := by decide +kernel
theorem dX12_copy_95 : decode cX12_copy 95 = .ok (.iload 4, 2) := by decide +kernel
theorem dX12_copy_97 : decode cX12_copy 97 = .ok (.iload 5, 2) := by decide +kernel
theorem dX12_copy_99 : decode cX12_copy 99 = .ok (.invokevirtual 237, 3) := by decide +kernel
theorem dX12_copy_102 : decode cX12_copy 102 = .ok (.ifCond .ge 6, 3) := by decide +kernel
theorem dX12_copy_105 : decode cX12_copy 105 = .ok (.bipush (-13), 2) := by decide +kernel
theorem dX12_copy_107 : decode cX12_copy 107 = .ok (.ireturn, 1) := by decide +kernel
theorem dX12_copy_108 : decode cX12_copy 108 = .ok (.iconst 0, 1) := by decide +kernel
theorem dX12_copy_109 : decode cX12_copy 109 = .ok (.istore 6, 2) := by decide +kernel
theorem dX12_copy_111 : decode cX12_copy 111 = .ok (.iload 6, 2) := by decide +kernel
theorem dX12_copy_113 : decode cX12_copy 113 = .ok (.iload 5, 2) := by decide +kernel
theorem dX12_copy_115 : decode cX12_copy 115 = .ok (.if_icmp .ge 58, 3) := by decide +kernel
theorem dX12_copy_118 : decode cX12_copy 118 = .ok (.iload 4, 2) := by decide +kernel
theorem dX12_copy_120 : decode cX12_copy 120 = .ok (.iload_n 2, 1) := by decide +kernel
theorem dX12_copy_121 : decode cX12_copy 121 = .ok (.if_icmp .le 13, 3) := by decide +kernel
theorem dX12_copy_124 : decode cX12_copy 124 = .ok (.iload 5, 2) := by decide +kernel
theorem dX12_copy_126 : decode cX12_copy 126 = .ok (.iconst 1, 1) := by decide +kernel
theorem dX12_copy_127 : decode cX12_copy 127 = .ok (.isub, 1) := by decide +kernel
theorem dX12_copy_128 : decode cX12_copy 128 = .ok (.iload 6, 2) := by decide +kernel
theorem dX12_copy_130 : decode cX12_copy 130 = .ok (.isub, 1) := by decide +kernel
theorem dX12_copy_131 : decode cX12_copy 131 = .ok (.goto 5, 3) := by decide +kernel
theorem dX12_copy_134 : decode cX12_copy 134 = .ok (.iload 6, 2) := by decide +kernel
theorem dX12_copy_136 : decode cX12_copy 136 = .ok (.istore 7, 2) := by decide +kernel
theorem dX12_copy_138 : decode cX12_copy 138 = .ok (.aload_n 0, 1) := by decide +kernel
theorem dX12_copy_139 : decode cX12_copy 139 = .ok (.getfield 25, 3) := by decide +kernel
theorem dX12_copy_142 : decode cX12_copy 142 = .ok (.bipush 24, 2) := by decide +kernel
theorem dX12_copy_144 : decode cX12_copy 144 = .ok (.iload_n 3, 1) := by decide +kernel
theorem dX12_copy_145 : decode cX12_copy 145 = .ok (.imul, 1) := by decide +kernel
theorem dX12_copy_146 : decode cX12_copy 146 = .ok (.iload 4, 2) := by decide +kernel
theorem dX12_copy_148 : decode cX12_copy 148 = .ok (.iadd, 1) := by decide +kernel
theorem dX12_copy_149 : decode cX12_copy 149 = .ok (.iload 7, 2) := by decide +kernel
theorem dX12_copy_151 : decode cX12_copy 151 = .ok (.iadd, 1) := by decide +kernel
theorem dX12_copy_152 : decode cX12_copy 152 = .ok (.aload_n 0, 1) := by decide +kernel
theorem dX12_copy_153 : decode cX12_copy 153 = .ok (.getfield 25, 3) := by decide +kernel
theorem dX12_copy_156 : decode cX12_copy 156 = .ok (.bipush 24, 2) := by decide +kernel
theorem dX12_copy_158 : decode cX12_copy 158 = .ok (.iload_n 1, 1) := by decide +kernel
theorem dX12_copy_159 : decode cX12_copy 159 = .ok (.imul, 1) := by decide +kernel
theorem dX12_copy_160 : decode cX12_copy 160 = .ok (.iload_n 2, 1) := by decide +kernel
theorem dX12_copy_161 : decode cX12_copy 161 = .ok (.iadd, 1) := by decide +kernel
theorem dX12_copy_162 : decode cX12_copy 162 = .ok (.iload 7, 2) := by decide +kernel
theorem dX12_copy_164 : decode cX12_copy 164 = .ok (.iadd, 1) := by decide +kernel
theorem dX12_copy_165 : decode cX12_copy 165 = .ok (.iaload, 1) := by decide +kernel
theorem dX12_copy_166 : decode cX12_copy 166 = .ok (.iastore, 1) := by decide +kernel
theorem dX12_copy_167 : decode cX12_copy 167 = .ok (.iinc 6 1, 3) := by decide +kernel
theorem dX12_copy_170 : decode cX12_copy 170 = .ok (.goto (-59), 3) := by decide +kernel
theorem dX12_copy_173 : decode cX12_copy 173 = .ok (.iload 5, 2) := by decide +kernel
theorem dX12_copy_175 : decode cX12_copy 175 = .ok (.ireturn, 1) := by decide +kernel
theorem dJ9_max_7cf53_0 : decode cJ9_max_7cf53 0 = .ok (.iload_n 0, 1) := by decide +kernel
theorem dJ9_max_7cf53_1 : decode cJ9_max_7cf53 1 = .ok (.iload_n 1, 1) := by decide +kernel
theorem dJ9_max_7cf53_2 : decode cJ9_max_7cf53 2 = .ok (.if_icmp .lt 7, 3) := by decide +kernel
theorem dJ9_max_7cf53_5 : decode cJ9_max_7cf53 5 = .ok (.iload_n 0, 1) := by decide +kernel
theorem dJ9_max_7cf53_6 : decode cJ9_max_7cf53 6 = .ok (.goto 4, 3) := by decide +kernel
theorem dJ9_max_7cf53_9 : decode cJ9_max_7cf53 9 = .ok (.iload_n 1, 1) := by decide +kernel
theorem dJ9_max_7cf53_10 : decode cJ9_max_7cf53 10 = .ok (.ireturn, 1) := by decide +kernel
theorem dJ9_min_7cf53_0 : decode cJ9_min_7cf53 0 = .ok (.iload_n 0, 1) := by decide +kernel
theorem dJ9_min_7cf53_1 : decode cJ9_min_7cf53 1 = .ok (.iload_n 1, 1) := by decide +kernel
theorem dJ9_min_7cf53_2 : decode cJ9_min_7cf53 2 = .ok (.if_icmp .gt 7, 3) := by decide +kernel
theorem dJ9_min_7cf53_5 : decode cJ9_min_7cf53 5 = .ok (.iload_n 0, 1) := by decide +kernel
theorem dJ9_min_7cf53_6 : decode cJ9_min_7cf53 6 = .ok (.goto 4, 3) := by decide +kernel
theorem dJ9_min_7cf53_9 : decode cJ9_min_7cf53 9 = .ok (.iload_n 1, 1) := by decide +kernel
theorem dJ9_min_7cf53_10 : decode cJ9_min_7cf53 10 = .ok (.ireturn, 1) := by decide +kernel
theorem dJ7_fill_53178_0 : decode cJ7_fill_53178 0 = .ok (.iconst 0, 1) := by decide +kernel
theorem dJ7_fill_53178_1 : decode cJ7_fill_53178 1 = .ok (.istore_n 2, 1) := by decide +kernel
theorem dJ7_fill_53178_2 : decode cJ7_fill_53178 2 = .ok (.aload_n 0, 1) := by decide +kernel
theorem dJ7_fill_53178_3 : decode cJ7_fill_53178 3 = .ok (.arraylength, 1) := by decide +kernel
theorem dJ7_fill_53178_4 : decode cJ7_fill_53178 4 = .ok (.istore_n 3, 1) := by decide +kernel
theorem dJ7_fill_53178_5 : decode cJ7_fill_53178 5 = .ok (.iload_n 2, 1) := by decide +kernel
theorem dJ7_fill_53178_6 : decode cJ7_fill_53178 6 = .ok (.iload_n 3, 1) := by decide +kernel
theorem dJ7_fill_53178_7 : decode cJ7_fill_53178 7 = .ok (.if_icmp .ge 13, 3) := by decide +kernel
theorem dJ7_fill_53178_10 : decode cJ7_fill_53178 10 = .ok (.aload_n 0, 1) := by decide +kernel
theorem dJ7_fill_53178_11 : decode cJ7_fill_53178 11 = .ok (.iload_n 2, 1) := by decide +kernel
theorem dJ7_fill_53178_12 : decode cJ7_fill_53178 12 = .ok (.iload_n 1, 1) := by decide +kernel
theorem dJ7_fill_53178_13 : decode cJ7_fill_53178 13 = .ok (.iastore, 1) := by decide +kernel
theorem dJ7_fill_53178_14 : decode cJ7_fill_53178 14 = .ok (.iinc 2 1, 3) := by decide +kernel
theorem dJ7_fill_53178_17 : decode cJ7_fill_53178 17 = .ok (.goto (-12), 3) := by decide +kernel
theorem dJ7_fill_53178_20 : decode cJ7_fill_53178 20 = .ok (.return_, 1) := by decide +kernel
theorem dL_law_0 : decode cL_law 0 = .ok (.new 7, 3) := by decide +kernel
theorem dL_law_3 : decode cL_law 3 = .ok (.dup, 1) := by decide +kernel
theorem dL_law_4 : decode cL_law 4 = .ok (.invokespecial 9, 3) := by decide +kernel
theorem dL_law_7 : decode cL_law 7 = .ok (.astore_n 1, 1) := by decide +kernel
theorem dL_law_8 : decode cL_law 8 = .ok (.new 10, 3) := by decide +kernel
theorem dL_law_11 : decode cL_law 11 = .ok (.dup, 1) := by decide +kernel
theorem dL_law_12 : decode cL_law 12 = .ok (.invokespecial 12, 3) := by decide +kernel
theorem dL_law_15 : decode cL_law 15 = .ok (.astore_n 2, 1) := by decide +kernel
theorem dL_law_16 : decode cL_law 16 = .ok (.iconst 0, 1) := by decide +kernel
theorem dL_law_17 : decode cL_law 17 = .ok (.istore_n 3, 1) := by decide +kernel
theorem dL_law_18 : decode cL_law 18 = .ok (.iload_n 3, 1) := by decide +kernel
theorem dL_law_19 : decode cL_law 19 = .ok (.aload_n 0, 1) := by decide +kernel
theorem dL_law_20 : decode cL_law 20 = .ok (.arraylength, 1) := by decide +kernel
theorem dL_law_21 : decode cL_law 21 = .ok (.bipush 7, 2) := by decide +kernel
theorem dL_law_23 : decode cL_law 23 = .ok (.isub, 1) := by decide +kernel
theorem dL_law_24 : decode cL_law 24 = .ok (.if_icmp .gt 1419, 3) := by decide +kernel
theorem dL_law_27 : decode cL_law 27 = .ok (.aload_n 0, 1) := by decide +kernel
theorem dL_law_28 : decode cL_law 28 = .ok (.iload_n 3, 1) := by decide +kernel
theorem dL_law_29 : decode cL_law 29 = .ok (.iaload, 1) := by decide +kernel
theorem dL_law_30 : decode cL_law 30 = .ok (.bipush 31, 2) := by decide +kernel
theorem dL_law_32 : decode cL_law 32 = .ok (.iand, 1) := by decide +kernel
theorem dL_law_33 : decode cL_law 33 = .ok (.tableswitch 1404 0 30 #[139, 172, 225, 258, 307, 340, 373, 406, 449, 512, 525, 538, 561, 614, 689, 752, 795, 838, 871, 904, 947, 960, 993, 1006, 1019, 1094, 1169, 1222, 1265, 1288, 1341], 139) := by decide +kernel
theorem dL_law_172 : decode cL_law 172 = .ok (.aload_n 1, 1) := by decide +kernel
theorem dL_law_173 : decode cL_law 173 = .ok (.aload_n 0, 1) := by decide +kernel
theorem dL_law_174 : decode cL_law 174 = .ok (.iload_n 3, 1) := by decide +kernel
theorem dL_law_175 : decode cL_law 175 = .ok (.iconst 1, 1) := by decide +kernel
theorem dL_law_176 : decode cL_law 176 = .ok (.iadd, 1) := by decide +kernel
theorem dL_law_177 : decode cL_law 177 = .ok (.iaload, 1) := by decide +kernel
theorem dL_law_178 : decode cL_law 178 = .ok (.aload_n 0, 1) := by decide +kernel
theorem dL_law_179 : decode cL_law 179 = .ok (.iload_n 3, 1) := by decide +kernel
theorem dL_law_180 : decode cL_law 180 = .ok (.iconst 2, 1) := by decide +kernel
theorem dL_law_181 : decode cL_law 181 = .ok (.iadd, 1) := by decide +kernel
theorem dL_law_182 : decode cL_law 182 = .ok (.iaload, 1) := by decide +kernel
theorem dL_law_183 : decode cL_law 183 = .ok (.invokevirtual 13, 3) := by decide +kernel
theorem dL_law_186 : decode cL_law 186 = .ok (.aload_n 2, 1) := by decide +kernel
theorem dL_law_187 : decode cL_law 187 = .ok (.aload_n 0, 1) := by decide +kernel
theorem dL_law_188 : decode cL_law 188 = .ok (.iload_n 3, 1) := by decide +kernel
theorem dL_law_189 : decode cL_law 189 = .ok (.iconst 1, 1) := by decide +kernel
theorem dL_law_190 : decode cL_law 190 = .ok (.iadd, 1) := by decide +kernel
theorem dL_law_191 : decode cL_law 191 = .ok (.iaload, 1) := by decide +kernel
theorem dL_law_192 : decode cL_law 192 = .ok (.aload_n 0, 1) := by decide +kernel
theorem dL_law_193 : decode cL_law 193 = .ok (.iload_n 3, 1) := by decide +kernel
theorem dL_law_194 : decode cL_law 194 = .ok (.iconst 2, 1) := by decide +kernel
theorem dL_law_195 : decode cL_law 195 = .ok (.iadd, 1) := by decide +kernel
theorem dL_law_196 : decode cL_law 196 = .ok (.iaload, 1) := by decide +kernel
theorem dL_law_197 : decode cL_law 197 = .ok (.invokevirtual 17, 3) := by decide +kernel
theorem dL_law_200 : decode cL_law 200 = .ok (.if_icmp .eq 1237, 3) := by decide +kernel
theorem dL_law_203 : decode cL_law 203 = .ok (.iconst 0, 1) := by decide +kernel
theorem dL_law_204 : decode cL_law 204 = .ok (.ireturn, 1) := by decide +kernel
theorem dL_law_205 : decode cL_law 205 = .ok (.aload_n 1, 1) := by decide +kernel
theorem dL_law_206 : decode cL_law 206 = .ok (.aload_n 0, 1) := by decide +kernel
theorem dL_law_207 : decode cL_law 207 = .ok (.iload_n 3, 1) := by decide +kernel
theorem dL_law_208 : decode cL_law 208 = .ok (.iconst 1, 1) := by decide +kernel
theorem dL_law_209 : decode cL_law 209 = .ok (.iadd, 1) := by decide +kernel
theorem dL_law_210 : decode cL_law 210 = .ok (.iaload, 1) := by decide +kernel
theorem dL_law_211 : decode cL_law 211 = .ok (.aload_n 0, 1) := by decide +kernel
theorem dL_law_212 : decode cL_law 212 = .ok (.iload_n 3, 1) := by decide +kernel
theorem dL_law_213 : decode cL_law 213 = .ok (.iconst 2, 1) := by decide +kernel
theorem dL_law_214 : decode cL_law 214 = .ok (.iadd, 1) := by decide +kernel
theorem dL_law_215 : decode cL_law 215 = .ok (.iaload, 1) := by decide +kernel
theorem dL_law_216 : decode cL_law 216 = .ok (.aload_n 0, 1) := by decide +kernel
theorem dL_law_217 : decode cL_law 217 = .ok (.iload_n 3, 1) := by decide +kernel
theorem dL_law_218 : decode cL_law 218 = .ok (.iconst 3, 1) := by decide +kernel
theorem dL_law_219 : decode cL_law 219 = .ok (.iadd, 1) := by decide +kernel
theorem dL_law_220 : decode cL_law 220 = .ok (.iaload, 1) := by decide +kernel
theorem dL_law_221 : decode cL_law 221 = .ok (.aload_n 0, 1) := by decide +kernel
theorem dL_law_222 : decode cL_law 222 = .ok (.iload_n 3, 1) := by decide +kernel
theorem dL_law_223 : decode cL_law 223 = .ok (.iconst 4, 1) := by decide +kernel
theorem dL_law_224 : decode cL_law 224 = .ok (.iadd, 1) := by decide +kernel
theorem dL_law_225 : decode cL_law 225 = .ok (.iaload, 1) := by decide +kernel
theorem dL_law_226 : decode cL_law 226 = .ok (.invokevirtual 18, 3) := by decide +kernel
theorem dL_law_229 : decode cL_law 229 = .ok (.aload_n 2, 1) := by decide +kernel
theorem dL_law_230 : decode cL_law 230 = .ok (.aload_n 0, 1) := by decide +kernel
theorem dL_law_231 : decode cL_law 231 = .ok (.iload_n 3, 1) := by decide +kernel
theorem dL_law_232 : decode cL_law 232 = .ok (.iconst 1, 1) := by decide +kernel
theorem dL_law_233 : decode cL_law 233 = .ok (.iadd, 1) := by decide +kernel
theorem dL_law_234 : decode cL_law 234 = .ok (.iaload, 1) := by decide +kernel
theorem dL_law_235 : decode cL_law 235 = .ok (.aload_n 0, 1) := by decide +kernel
theorem dL_law_236 : decode cL_law 236 = .ok (.iload_n 3, 1) := by decide +kernel
theorem dL_law_237 : decode cL_law 237 = .ok (.iconst 2, 1) := by decide +kernel
theorem dL_law_238 : decode cL_law 238 = .ok (.iadd, 1) := by decide +kernel
theorem dL_law_239 : decode cL_law 239 = .ok (.iaload, 1) := by decide +kernel
theorem dL_law_240 : decode cL_law 240 = .ok (.aload_n 0, 1) := by decide +kernel
theorem dL_law_241 : decode cL_law 241 = .ok (.iload_n 3, 1) := by decide +kernel
theorem dL_law_242 : decode cL_law 242 = .ok (.iconst 3, 1) := by decide +kernel
theorem dL_law_243 : decode cL_law 243 = .ok (.iadd, 1) := by decide +kernel
theorem dL_law_244 : decode cL_law 244 = .ok (.iaload, 1) := by decide +kernel
theorem dL_law_245 : decode cL_law 245 = .ok (.aload_n 0, 1) := by decide +kernel
theorem dL_law_246 : decode cL_law 246 = .ok (.iload_n 3, 1) := by decide +kernel
theorem dL_law_247 : decode cL_law 247 = .ok (.iconst 4, 1) := by decide +kernel
theorem dL_law_248 : decode cL_law 248 = .ok (.iadd, 1) := by decide +kernel
theorem dL_law_249 : decode cL_law 249 = .ok (.iaload, 1) := by decide +kernel
theorem dL_law_250 : decode cL_law 250 = .ok (.invokevirtual 22, 3) := by decide +kernel
theorem dL_law_253 : decode cL_law 253 = .ok (.if_icmp .eq 1184, 3) := by decide +kernel
theorem dL_law_256 : decode cL_law 256 = .ok (.iconst 0, 1) := by decide +kernel
theorem dL_law_257 : decode cL_law 257 = .ok (.ireturn, 1) := by decide +kernel
theorem dL_law_258 : decode cL_law 258 = .ok (.aload_n 1, 1) := by decide +kernel
theorem dL_law_259 : decode cL_law 259 = .ok (.aload_n 0, 1) := by decide +kernel
theorem dL_law_260 : decode cL_law 260 = .ok (.iload_n 3, 1) := by decide +kernel
theorem dL_law_261 : decode cL_law 261 = .ok (.iconst 1, 1) := by decide +kernel
theorem dL_law_262 : decode cL_law 262 = .ok (.iadd, 1) := by decide +kernel
theorem dL_law_263 : decode cL_law 263 = .ok (.iaload, 1) := by decide +kernel
theorem dL_law_264 : decode cL_law 264 = .ok (.aload_n 0, 1) := by decide +kernel
theorem dL_law_265 : decode cL_law 265 = .ok (.iload_n 3, 1) := by decide +kernel
theorem dL_law_266 : decode cL_law 266 = .ok (.iconst 2, 1) := by decide +kernel
theorem dL_law_267 : decode cL_law 267 = .ok (.iadd, 1) := by decide +kernel
theorem dL_law_268 : decode cL_law 268 = .ok (.iaload, 1) := by decide +kernel
theorem dL_law_269 : decode cL_law 269 = .ok (.invokevirtual 23, 3) := by decide +kernel
theorem dL_law_272 : decode cL_law 272 = .ok (.aload_n 2, 1) := by decide +kernel
theorem dL_law_273 : decode cL_law 273 = .ok (.aload_n 0, 1) := by decide +kernel
theorem dL_law_274 : decode cL_law 274 = .ok (.iload_n 3, 1) := by decide +kernel
theorem dL_law_275 : decode cL_law 275 = .ok (.iconst 1, 1) := by decide +kernel
theorem dL_law_276 : decode cL_law 276 = .ok (.iadd, 1) := by decide +kernel
theorem dL_law_277 : decode cL_law 277 = .ok (.iaload, 1) := by decide +kernel
theorem dL_law_278 : decode cL_law 278 = .ok (.aload_n 0, 1) := by decide +kernel
theorem dL_law_279 : decode cL_law 279 = .ok (.iload_n 3, 1) := by decide +kernel
theorem dL_law_280 : decode cL_law 280 = .ok (.iconst 2, 1) := by decide +kernel
theorem dL_law_281 : decode cL_law 281 = .ok (.iadd, 1) := by decide +kernel
theorem dL_law_282 : decode cL_law 282 = .ok (.iaload, 1) := by decide +kernel
theorem dL_law_283 : decode cL_law 283 = .ok (.invokevirtual 26, 3) := by decide +kernel
theorem dL_law_286 : decode cL_law 286 = .ok (.if_icmp .eq 1151, 3) := by decide +kernel
theorem dL_law_289 : decode cL_law 289 = .ok (.iconst 0, 1) := by decide +kernel
theorem dL_law_290 : decode cL_law 290 = .ok (.ireturn, 1) := by decide +kernel
theorem dL_law_291 : decode cL_law 291 = .ok (.aload_n 1, 1) := by decide +kernel
theorem dL_law_292 : decode cL_law 292 = .ok (.aload_n 0, 1) := by decide +kernel
theorem dL_law_293 : decode cL_law 293 = .ok (.iload_n 3, 1) := by decide +kernel
theorem dL_law_294 : decode cL_law 294 = .ok (.iconst 1, 1) := by decide +kernel
theorem dL_law_295 : decode cL_law 295 = .ok (.iadd, 1) := by decide +kernel
theorem dL_law_296 : decode cL_law 296 = .ok (.iaload, 1) := by decide +kernel
theorem dL_law_297 : decode cL_law 297 = .ok (.aload_n 0, 1) := by decide +kernel
theorem dL_law_298 : decode cL_law 298 = .ok (.iload_n 3, 1) := by decide +kernel
theorem dL_law_299 : decode cL_law 299 = .ok (.iconst 2, 1) := by decide +kernel
theorem dL_law_300 : decode cL_law 300 = .ok (.iadd, 1) := by decide +kernel
theorem dL_law_301 : decode cL_law 301 = .ok (.iaload, 1) := by decide +kernel
theorem dL_law_302 : decode cL_law 302 = .ok (.ifCond .eq 7, 3) := by decide +kernel
theorem dL_law_305 : decode cL_law 305 = .ok (.iconst 1, 1) := by decide +kernel
theorem dL_law_306 : decode cL_law 306 = .ok (.goto 4, 3) := by decide +kernel
theorem dL_law_309 : decode cL_law 309 = .ok (.iconst 0, 1) := by decide +kernel
theorem dL_law_310 : decode cL_law 310 = .ok (.invokevirtual 27, 3) := by decide +kernel
theorem dL_law_313 : decode cL_law 313 = .ok (.aload_n 2, 1) := by decide +kernel
theorem dL_law_314 : decode cL_law 314 = .ok (.aload_n 0, 1) := by decide +kernel
theorem dL_law_315 : decode cL_law 315 = .ok (.iload_n 3, 1) := by decide +kernel
theorem dL_law_316 : decode cL_law 316 = .ok (.iconst 1, 1) := by decide +kernel
theorem dL_law_317 : decode cL_law 317 = .ok (.iadd, 1) := by decide +kernel
theorem dL_law_318 : decode cL_law 318 = .ok (.iaload, 1) := by decide +kernel
theorem dL_law_319 : decode cL_law 319 = .ok (.aload_n 0, 1) := by decide +kernel
theorem dL_law_320 : decode cL_law 320 = .ok (.iload_n 3, 1) := by decide +kernel
theorem dL_law_321 : decode cL_law 321 = .ok (.iconst 2, 1) := by decide +kernel
theorem dL_law_322 : decode cL_law 322 = .ok (.iadd, 1) := by decide +kernel
theorem dL_law_323 : decode cL_law 323 = .ok (.iaload, 1) := by decide +kernel
theorem dL_law_324 : decode cL_law 324 = .ok (.ifCond .eq 7, 3) := by decide +kernel
theorem dL_law_327 : decode cL_law 327 = .ok (.iconst 1, 1) := by decide +kernel
theorem dL_law_328 : decode cL_law 328 = .ok (.goto 4, 3) := by decide +kernel
theorem dL_law_331 : decode cL_law 331 = .ok (.iconst 0, 1) := by decide +kernel
theorem dL_law_332 : decode cL_law 332 = .ok (.invokevirtual 31, 3) := by decide +kernel
theorem dL_law_335 : decode cL_law 335 = .ok (.if_icmp .eq 1102, 3) := by decide +kernel
theorem dL_law_338 : decode cL_law 338 = .ok (.iconst 0, 1) := by decide +kernel
theorem dL_law_339 : decode cL_law 339 = .ok (.ireturn, 1) := by decide +kernel
theorem dL_law_340 : decode cL_law 340 = .ok (.aload_n 1, 1) := by decide +kernel
theorem dL_law_341 : decode cL_law 341 = .ok (.aload_n 0, 1) := by decide +kernel
theorem dL_law_342 : decode cL_law 342 = .ok (.iload_n 3, 1) := by decide +kernel
theorem dL_law_343 : decode cL_law 343 = .ok (.iconst 1, 1) := by decide +kernel
theorem dL_law_344 : decode cL_law 344 = .ok (.iadd, 1) := by decide +kernel
theorem dL_law_345 : decode cL_law 345 = .ok (.iaload, 1) := by decide +kernel
theorem dL_law_346 : decode cL_law 346 = .ok (.aload_n 0, 1) := by decide +kernel
theorem dL_law_347 : decode cL_law 347 = .ok (.iload_n 3, 1) := by decide +kernel
theorem dL_law_348 : decode cL_law 348 = .ok (.iconst 2, 1) := by decide +kernel
theorem dL_law_349 : decode cL_law 349 = .ok (.iadd, 1) := by decide +kernel
theorem dL_law_350 : decode cL_law 350 = .ok (.iaload, 1) := by decide +kernel
theorem dL_law_351 : decode cL_law 351 = .ok (.invokevirtual 32, 3) := by decide +kernel
theorem dL_law_354 : decode cL_law 354 = .ok (.aload_n 2, 1) := by decide +kernel
theorem dL_law_355 : decode cL_law 355 = .ok (.aload_n 0, 1) := by decide +kernel
theorem dL_law_356 : decode cL_law 356 = .ok (.iload_n 3, 1) := by decide +kernel
theorem dL_law_357 : decode cL_law 357 = .ok (.iconst 1, 1) := by decide +kernel
theorem dL_law_358 : decode cL_law 358 = .ok (.iadd, 1) := by decide +kernel
theorem dL_law_359 : decode cL_law 359 = .ok (.iaload, 1) := by decide +kernel
theorem dL_law_360 : decode cL_law 360 = .ok (.aload_n 0, 1) := by decide +kernel
theorem dL_law_361 : decode cL_law 361 = .ok (.iload_n 3, 1) := by decide +kernel
theorem dL_law_362 : decode cL_law 362 = .ok (.iconst 2, 1) := by decide +kernel
theorem dL_law_363 : decode cL_law 363 = .ok (.iadd, 1) := by decide +kernel
theorem dL_law_364 : decode cL_law 364 = .ok (.iaload, 1) := by decide +kernel
theorem dL_law_365 : decode cL_law 365 = .ok (.invokevirtual 35, 3) := by decide +kernel
theorem dL_law_368 : decode cL_law 368 = .ok (.if_icmp .eq 1069, 3) := by decide +kernel
theorem dL_law_371 : decode cL_law 371 = .ok (.iconst 0, 1) := by decide +kernel
theorem dL_law_372 : decode cL_law 372 = .ok (.ireturn, 1) := by decide +kernel
theorem dL_law_373 : decode cL_law 373 = .ok (.aload_n 1, 1) := by decide +kernel
theorem dL_law_374 : decode cL_law 374 = .ok (.aload_n 0, 1) := by decide +kernel
theorem dL_law_375 : decode cL_law 375 = .ok (.iload_n 3, 1) := by decide +kernel
theorem dL_law_376 : decode cL_law 376 = .ok (.iconst 1, 1) := by decide +kernel
theorem dL_law_377 : decode cL_law 377 = .ok (.iadd, 1) := by decide +kernel
theorem dL_law_378 : decode cL_law 378 = .ok (.iaload, 1) := by decide +kernel
theorem dL_law_379 : decode cL_law 379 = .ok (.aload_n 0, 1) := by decide +kernel
theorem dL_law_380 : decode cL_law 380 = .ok (.iload_n 3, 1) := by decide +kernel
theorem dL_law_381 : decode cL_law 381 = .ok (.iconst 2, 1) := by decide +kernel
theorem dL_law_382 : decode cL_law 382 = .ok (.iadd, 1) := by decide +kernel
theorem dL_law_383 : decode cL_law 383 = .ok (.iaload, 1) := by decide +kernel
theorem dL_law_384 : decode cL_law 384 = .ok (.invokevirtual 36, 3) := by decide +kernel
theorem dL_law_387 : decode cL_law 387 = .ok (.aload_n 2, 1) := by decide +kernel
theorem dL_law_388 : decode cL_law 388 = .ok (.aload_n 0, 1) := by decide +kernel
theorem dL_law_389 : decode cL_law 389 = .ok (.iload_n 3, 1) := by decide +kernel
theorem dL_law_390 : decode cL_law 390 = .ok (.iconst 1, 1) := by decide +kernel
theorem dL_law_391 : decode cL_law 391 = .ok (.iadd, 1) := by decide +kernel
theorem dL_law_392 : decode cL_law 392 = .ok (.iaload, 1) := by decide +kernel
theorem dL_law_393 : decode cL_law 393 = .ok (.aload_n 0, 1) := by decide +kernel
theorem dL_law_394 : decode cL_law 394 = .ok (.iload_n 3, 1) := by decide +kernel
theorem dL_law_395 : decode cL_law 395 = .ok (.iconst 2, 1) := by decide +kernel
theorem dL_law_396 : decode cL_law 396 = .ok (.iadd, 1) := by decide +kernel
theorem dL_law_397 : decode cL_law 397 = .ok (.iaload, 1) := by decide +kernel
theorem dL_law_398 : decode cL_law 398 = .ok (.invokevirtual 39, 3) := by decide +kernel
theorem dL_law_401 : decode cL_law 401 = .ok (.if_icmp .eq 1036, 3) := by decide +kernel
theorem dL_law_404 : decode cL_law 404 = .ok (.iconst 0, 1) := by decide +kernel
theorem dL_law_405 : decode cL_law 405 = .ok (.ireturn, 1) := by decide +kernel
theorem dL_law_406 : decode cL_law 406 = .ok (.aload_n 1, 1) := by decide +kernel
theorem dL_law_407 : decode cL_law 407 = .ok (.aload_n 0, 1) := by decide +kernel
theorem dL_law_408 : decode cL_law 408 = .ok (.iload_n 3, 1) := by decide +kernel
theorem dL_law_409 : decode cL_law 409 = .ok (.iconst 1, 1) := by decide +kernel
theorem dL_law_410 : decode cL_law 410 = .ok (.iadd, 1) := by decide +kernel
theorem dL_law_411 : decode cL_law 411 = .ok (.iaload, 1) := by decide +kernel
theorem dL_law_412 : decode cL_law 412 = .ok (.aload_n 0, 1) := by decide +kernel
theorem dL_law_413 : decode cL_law 413 = .ok (.iload_n 3, 1) := by decide +kernel
theorem dL_law_414 : decode cL_law 414 = .ok (.iconst 2, 1) := by decide +kernel
theorem dL_law_415 : decode cL_law 415 = .ok (.iadd, 1) := by decide +kernel
theorem dL_law_416 : decode cL_law 416 = .ok (.iaload, 1) := by decide +kernel
theorem dL_law_417 : decode cL_law 417 = .ok (.invokevirtual 40, 3) := by decide +kernel
theorem dL_law_420 : decode cL_law 420 = .ok (.aload_n 2, 1) := by decide +kernel
theorem dL_law_421 : decode cL_law 421 = .ok (.aload_n 0, 1) := by decide +kernel
theorem dL_law_422 : decode cL_law 422 = .ok (.iload_n 3, 1) := by decide +kernel
theorem dL_law_423 : decode cL_law 423 = .ok (.iconst 1, 1) := by decide +kernel
theorem dL_law_424 : decode cL_law 424 = .ok (.iadd, 1) := by decide +kernel
theorem dL_law_425 : decode cL_law 425 = .ok (.iaload, 1) := by decide +kernel
theorem dL_law_426 : decode cL_law 426 = .ok (.aload_n 0, 1) := by decide +kernel
theorem dL_law_427 : decode cL_law 427 = .ok (.iload_n 3, 1) := by decide +kernel
theorem dL_law_428 : decode cL_law 428 = .ok (.iconst 2, 1) := by decide +kernel
theorem dL_law_429 : decode cL_law 429 = .ok (.iadd, 1) := by decide +kernel
theorem dL_law_430 : decode cL_law 430 = .ok (.iaload, 1) := by decide +kernel
theorem dL_law_431 : decode cL_law 431 = .ok (.invokevirtual 43, 3) := by decide +kernel
theorem dL_law_434 : decode cL_law 434 = .ok (.if_icmp .eq 1003, 3) := by decide +kernel
theorem dL_law_437 : decode cL_law 437 = .ok (.iconst 0, 1) := by decide +kernel
theorem dL_law_438 : decode cL_law 438 = .ok (.ireturn, 1) := by decide +kernel
theorem dL_law_439 : decode cL_law 439 = .ok (.aload_n 1, 1) := by decide +kernel
theorem dL_law_440 : decode cL_law 440 = .ok (.aload_n 0, 1) := by decide +kernel
theorem dL_law_441 : decode cL_law 441 = .ok (.iload_n 3, 1) := by decide +kernel
theorem dL_law_442 : decode cL_law 442 = .ok (.iconst 1, 1) := by decide +kernel
theorem dL_law_443 : decode cL_law 443 = .ok (.iadd, 1) := by decide +kernel
theorem dL_law_444 : decode cL_law 444 = .ok (.iaload, 1) := by decide +kernel
theorem dL_law_445 : decode cL_law 445 = .ok (.aload_n 0, 1) := by decide +kernel
theorem dL_law_446 : decode cL_law 446 = .ok (.iload_n 3, 1) := by decide +kernel
theorem dL_law_447 : decode cL_law 447 = .ok (.iconst 2, 1) := by decide +kernel
theorem dL_law_448 : decode cL_law 448 = .ok (.iadd, 1) := by decide +kernel
theorem dL_law_449 : decode cL_law 449 = .ok (.iaload, 1) := by decide +kernel
theorem dL_law_450 : decode cL_law 450 = .ok (.aload_n 0, 1) := by decide +kernel
theorem dL_law_451 : decode cL_law 451 = .ok (.iload_n 3, 1) := by decide +kernel
theorem dL_law_452 : decode cL_law 452 = .ok (.iconst 3, 1) := by decide +kernel
theorem dL_law_453 : decode cL_law 453 = .ok (.iadd, 1) := by decide +kernel
theorem dL_law_454 : decode cL_law 454 = .ok (.iaload, 1) := by decide +kernel
theorem dL_law_455 : decode cL_law 455 = .ok (.invokevirtual 44, 3) := by decide +kernel
theorem dL_law_458 : decode cL_law 458 = .ok (.aload_n 2, 1) := by decide +kernel
theorem dL_law_459 : decode cL_law 459 = .ok (.aload_n 0, 1) := by decide +kernel
theorem dL_law_460 : decode cL_law 460 = .ok (.iload_n 3, 1) := by decide +kernel
theorem dL_law_461 : decode cL_law 461 = .ok (.iconst 1, 1) := by decide +kernel
theorem dL_law_462 : decode cL_law 462 = .ok (.iadd, 1) := by decide +kernel
theorem dL_law_463 : decode cL_law 463 = .ok (.iaload, 1) := by decide +kernel
theorem dL_law_464 : decode cL_law 464 = .ok (.aload_n 0, 1) := by decide +kernel
theorem dL_law_465 : decode cL_law 465 = .ok (.iload_n 3, 1) := by decide +kernel
theorem dL_law_466 : decode cL_law 466 = .ok (.iconst 2, 1) := by decide +kernel
theorem dL_law_467 : decode cL_law 467 = .ok (.iadd, 1) := by decide +kernel
theorem dL_law_468 : decode cL_law 468 = .ok (.iaload, 1) := by decide +kernel
theorem dL_law_469 : decode cL_law 469 = .ok (.aload_n 0, 1) := by decide +kernel
theorem dL_law_470 : decode cL_law 470 = .ok (.iload_n 3, 1) := by decide +kernel
theorem dL_law_471 : decode cL_law 471 = .ok (.iconst 3, 1) := by decide +kernel
theorem dL_law_472 : decode cL_law 472 = .ok (.iadd, 1) := by decide +kernel
theorem dL_law_473 : decode cL_law 473 = .ok (.iaload, 1) := by decide +kernel
theorem dL_law_474 : decode cL_law 474 = .ok (.invokevirtual 48, 3) := by decide +kernel
theorem dL_law_477 : decode cL_law 477 = .ok (.if_icmp .eq 960, 3) := by decide +kernel
theorem dL_law_480 : decode cL_law 480 = .ok (.iconst 0, 1) := by decide +kernel
theorem dL_law_481 : decode cL_law 481 = .ok (.ireturn, 1) := by decide +kernel
theorem dL_law_482 : decode cL_law 482 = .ok (.aload_n 1, 1) := by decide +kernel
theorem dL_law_483 : decode cL_law 483 = .ok (.aload_n 0, 1) := by decide +kernel
theorem dL_law_484 : decode cL_law 484 = .ok (.iload_n 3, 1) := by decide +kernel
theorem dL_law_485 : decode cL_law 485 = .ok (.iconst 1, 1) := by decide +kernel
theorem dL_law_486 : decode cL_law 486 = .ok (.iadd, 1) := by decide +kernel
theorem dL_law_487 : decode cL_law 487 = .ok (.iaload, 1) := by decide +kernel
theorem dL_law_488 : decode cL_law 488 = .ok (.i2l, 1) := by decide +kernel
theorem dL_law_489 : decode cL_law 489 = .ok (.bipush 32, 2) := by decide +kernel
theorem dL_law_491 : decode cL_law 491 = .ok (.lshl, 1) := by decide +kernel
theorem dL_law_492 : decode cL_law 492 = .ok (.aload_n 0, 1) := by decide +kernel
theorem dL_law_493 : decode cL_law 493 = .ok (.iload_n 3, 1) := by decide +kernel
theorem dL_law_494 : decode cL_law 494 = .ok (.iconst 2, 1) := by decide +kernel
theorem dL_law_495 : decode cL_law 495 = .ok (.iadd, 1) := by decide +kernel
theorem dL_law_496 : decode cL_law 496 = .ok (.iaload, 1) := by decide +kernel
theorem dL_law_497 : decode cL_law 497 = .ok (.i2l, 1) := by decide +kernel
theorem dL_law_498 : decode cL_law 498 = .ok (.ldc2_w 49, 3) := by decide +kernel
theorem dL_law_501 : decode cL_law 501 = .ok (.land, 1) := by decide +kernel
theorem dL_law_502 : decode cL_law 502 = .ok (.lor, 1) := by decide +kernel
theorem dL_law_503 : decode cL_law 503 = .ok (.aload_n 0, 1) := by decide +kernel
theorem dL_law_504 : decode cL_law 504 = .ok (.iload_n 3, 1) := by decide +kernel
theorem dL_law_505 : decode cL_law 505 = .ok (.iconst 3, 1) := by decide +kernel
theorem dL_law_506 : decode cL_law 506 = .ok (.iadd, 1) := by decide +kernel
theorem dL_law_507 : decode cL_law 507 = .ok (.iaload, 1) := by decide +kernel
theorem dL_law_508 : decode cL_law 508 = .ok (.invokevirtual 51, 3) := by decide +kernel
theorem dL_law_511 : decode cL_law 511 = .ok (.aload_n 2, 1) := by decide +kernel
theorem dL_law_512 : decode cL_law 512 = .ok (.aload_n 0, 1) := by decide +kernel
theorem dL_law_513 : decode cL_law 513 = .ok (.iload_n 3, 1) := by decide +kernel
theorem dL_law_514 : decode cL_law 514 = .ok (.iconst 1, 1) := by decide +kernel
theorem dL_law_515 : decode cL_law 515 = .ok (.iadd, 1) := by decide +kernel
theorem dL_law_516 : decode cL_law 516 = .ok (.iaload, 1) := by decide +kernel
theorem dL_law_517 : decode cL_law 517 = .ok (.i2l, 1) := by decide +kernel
theorem dL_law_518 : decode cL_law 518 = .ok (.bipush 32, 2) := by decide +kernel
theorem dL_law_520 : decode cL_law 520 = .ok (.lshl, 1) := by decide +kernel
theorem dL_law_521 : decode cL_law 521 = .ok (.aload_n 0, 1) := by decide +kernel
theorem dL_law_522 : decode cL_law 522 = .ok (.iload_n 3, 1) := by decide +kernel
theorem dL_law_523 : decode cL_law 523 = .ok (.iconst 2, 1) := by decide +kernel
theorem dL_law_524 : decode cL_law 524 = .ok (.iadd, 1) := by decide +kernel
theorem dL_law_525 : decode cL_law 525 = .ok (.iaload, 1) := by decide +kernel
theorem dL_law_526 : decode cL_law 526 = .ok (.i2l, 1) := by decide +kernel
theorem dL_law_527 : decode cL_law 527 = .ok (.ldc2_w 49, 3) := by decide +kernel
theorem dL_law_530 : decode cL_law 530 = .ok (.land, 1) := by decide +kernel
theorem dL_law_531 : decode cL_law 531 = .ok (.lor, 1) := by decide +kernel
theorem dL_law_532 : decode cL_law 532 = .ok (.aload_n 0, 1) := by decide +kernel
theorem dL_law_533 : decode cL_law 533 = .ok (.iload_n 3, 1) := by decide +kernel
theorem dL_law_534 : decode cL_law 534 = .ok (.iconst 3, 1) := by decide +kernel
theorem dL_law_535 : decode cL_law 535 = .ok (.iadd, 1) := by decide +kernel
theorem dL_law_536 : decode cL_law 536 = .ok (.iaload, 1) := by decide +kernel
theorem dL_law_537 : decode cL_law 537 = .ok (.invokevirtual 55, 3) := by decide +kernel
theorem dL_law_540 : decode cL_law 540 = .ok (.if_icmp .eq 897, 3) := by decide +kernel
theorem dL_law_543 : decode cL_law 543 = .ok (.iconst 0, 1) := by decide +kernel
theorem dL_law_544 : decode cL_law 544 = .ok (.ireturn, 1) := by decide +kernel
theorem dL_law_545 : decode cL_law 545 = .ok (.aload_n 1, 1) := by decide +kernel
theorem dL_law_546 : decode cL_law 546 = .ok (.invokevirtual 56, 3) := by decide +kernel
theorem dL_law_549 : decode cL_law 549 = .ok (.aload_n 2, 1) := by decide +kernel
theorem dL_law_550 : decode cL_law 550 = .ok (.invokevirtual 60, 3) := by decide +kernel
theorem dL_law_553 : decode cL_law 553 = .ok (.if_icmp .eq 884, 3) := by decide +kernel
theorem dL_law_556 : decode cL_law 556 = .ok (.iconst 0, 1) := by decide +kernel
theorem dL_law_557 : decode cL_law 557 = .ok (.ireturn, 1) := by decide +kernel
theorem dL_law_558 : decode cL_law 558 = .ok (.aload_n 1, 1) := by decide +kernel
theorem dL_law_559 : decode cL_law 559 = .ok (.invokevirtual 61, 3) := by decide +kernel
theorem dL_law_562 : decode cL_law 562 = .ok (.aload_n 2, 1) := by decide +kernel
theorem dL_law_563 : decode cL_law 563 = .ok (.invokevirtual 64, 3) := by decide +kernel
theorem dL_law_566 : decode cL_law 566 = .ok (.if_icmp .eq 871, 3) := by decide +kernel
theorem dL_law_569 : decode cL_law 569 = .ok (.iconst 0, 1) := by decide +kernel
theorem dL_law_570 : decode cL_law 570 = .ok (.ireturn, 1) := by decide +kernel
theorem dL_law_571 : decode cL_law 571 = .ok (.aload_n 1, 1) := by decide +kernel
theorem dL_law_572 : decode cL_law 572 = .ok (.aload_n 0, 1) := by decide +kernel
theorem dL_law_573 : decode cL_law 573 = .ok (.iload_n 3, 1) := by decide +kernel
theorem dL_law_574 : decode cL_law 574 = .ok (.iconst 1, 1) := by decide +kernel
theorem dL_law_575 : decode cL_law 575 = .ok (.iadd, 1) := by decide +kernel
theorem dL_law_576 : decode cL_law 576 = .ok (.iaload, 1) := by decide +kernel
theorem dL_law_577 : decode cL_law 577 = .ok (.invokevirtual 65, 3) := by decide +kernel
theorem dL_law_580 : decode cL_law 580 = .ok (.aload_n 2, 1) := by decide +kernel
theorem dL_law_581 : decode cL_law 581 = .ok (.aload_n 0, 1) := by decide +kernel
theorem dL_law_582 : decode cL_law 582 = .ok (.iload_n 3, 1) := by decide +kernel
theorem dL_law_583 : decode cL_law 583 = .ok (.iconst 1, 1) := by decide +kernel
theorem dL_law_584 : decode cL_law 584 = .ok (.iadd, 1) := by decide +kernel
theorem dL_law_585 : decode cL_law 585 = .ok (.iaload, 1) := by decide +kernel
theorem dL_law_586 : decode cL_law 586 = .ok (.invokevirtual 69, 3) := by decide +kernel
theorem dL_law_589 : decode cL_law 589 = .ok (.if_icmp .eq 848, 3) := by decide +kernel
theorem dL_law_592 : decode cL_law 592 = .ok (.iconst 0, 1) := by decide +kernel
theorem dL_law_593 : decode cL_law 593 = .ok (.ireturn, 1) := by decide +kernel
theorem dL_law_594 : decode cL_law 594 = .ok (.aload_n 1, 1) := by decide +kernel
theorem dL_law_595 : decode cL_law 595 = .ok (.aload_n 0, 1) := by decide +kernel
theorem dL_law_596 : decode cL_law 596 = .ok (.iload_n 3, 1) := by decide +kernel
theorem dL_law_597 : decode cL_law 597 = .ok (.iconst 1, 1) := by decide +kernel
theorem dL_law_598 : decode cL_law 598 = .ok (.iadd, 1) := by decide +kernel
theorem dL_law_599 : decode cL_law 599 = .ok (.iaload, 1) := by decide +kernel
theorem dL_law_600 : decode cL_law 600 = .ok (.aload_n 0, 1) := by decide +kernel
theorem dL_law_601 : decode cL_law 601 = .ok (.iload_n 3, 1) := by decide +kernel
theorem dL_law_602 : decode cL_law 602 = .ok (.iconst 2, 1) := by decide +kernel
theorem dL_law_603 : decode cL_law 603 = .ok (.iadd, 1) := by decide +kernel
theorem dL_law_604 : decode cL_law 604 = .ok (.iaload, 1) := by decide +kernel
theorem dL_law_605 : decode cL_law 605 = .ok (.aload_n 0, 1) := by decide +kernel
theorem dL_law_606 : decode cL_law 606 = .ok (.iload_n 3, 1) := by decide +kernel
theorem dL_law_607 : decode cL_law 607 = .ok (.iconst 3, 1) := by decide +kernel
theorem dL_law_608 : decode cL_law 608 = .ok (.iadd, 1) := by decide +kernel
theorem dL_law_609 : decode cL_law 609 = .ok (.iaload, 1) := by decide +kernel
theorem dL_law_610 : decode cL_law 610 = .ok (.aload_n 0, 1) := by decide +kernel
theorem dL_law_611 : decode cL_law 611 = .ok (.iload_n 3, 1) := by decide +kernel
theorem dL_law_612 : decode cL_law 612 = .ok (.iconst 4, 1) := by decide +kernel
theorem dL_law_613 : decode cL_law 613 = .ok (.iadd, 1) := by decide +kernel
theorem dL_law_614 : decode cL_law 614 = .ok (.iaload, 1) := by decide +kernel
theorem dL_law_615 : decode cL_law 615 = .ok (.invokevirtual 70, 3) := by decide +kernel
theorem dL_law_618 : decode cL_law 618 = .ok (.aload_n 2, 1) := by decide +kernel
theorem dL_law_619 : decode cL_law 619 = .ok (.aload_n 0, 1) := by decide +kernel
theorem dL_law_620 : decode cL_law 620 = .ok (.iload_n 3, 1) := by decide +kernel
theorem dL_law_621 : decode cL_law 621 = .ok (.iconst 1, 1) := by decide +kernel
theorem dL_law_622 : decode cL_law 622 = .ok (.iadd, 1) := by decide +kernel
theorem dL_law_623 : decode cL_law 623 = .ok (.iaload, 1) := by decide +kernel
theorem dL_law_624 : decode cL_law 624 = .ok (.aload_n 0, 1) := by decide +kernel
theorem dL_law_625 : decode cL_law 625 = .ok (.iload_n 3, 1) := by decide +kernel
theorem dL_law_626 : decode cL_law 626 = .ok (.iconst 2, 1) := by decide +kernel
theorem dL_law_627 : decode cL_law 627 = .ok (.iadd, 1) := by decide +kernel
theorem dL_law_628 : decode cL_law 628 = .ok (.iaload, 1) := by decide +kernel
theorem dL_law_629 : decode cL_law 629 = .ok (.aload_n 0, 1) := by decide +kernel
theorem dL_law_630 : decode cL_law 630 = .ok (.iload_n 3, 1) := by decide +kernel
theorem dL_law_631 : decode cL_law 631 = .ok (.iconst 3, 1) := by decide +kernel
theorem dL_law_632 : decode cL_law 632 = .ok (.iadd, 1) := by decide +kernel
theorem dL_law_633 : decode cL_law 633 = .ok (.iaload, 1) := by decide +kernel
theorem dL_law_634 : decode cL_law 634 = .ok (.aload_n 0, 1) := by decide +kernel
