theorem dX5_text_84 : decode cX5_text 84 = .ok (.aload_n 0, 1) := by decide +kernel
theorem dX5_text_85 : decode cX5_text 85 = .ok (.getfield 7, 3) := by decide +kernel
theorem dX5_text_88 : decode cX5_text 88 = .ok (.aload_n 0, 1) := by decide +kernel
theorem dX5_text_89 : decode cX5_text 89 = .ok (.getfield 64, 3) := by decide +kernel
theorem dX5_text_92 : decode cX5_text 92 = .ok (.iload 5, 2) := by decide +kernel
theorem dX5_text_94 : decode cX5_text 94 = .ok (.iadd, 1) := by decide +kernel
theorem dX5_text_95 : decode cX5_text 95 = .ok (.iaload, 1) := by decide +kernel
theorem dX5_text_96 : decode cX5_text 96 = .ok (.invokevirtual 80, 3) := by decide +kernel
theorem dX5_text_99 : decode cX5_text 99 = .ok (.iinc 5 1, 3) := by decide +kernel
theorem dX5_text_102 : decode cX5_text 102 = .ok (.goto (-26), 3) := by decide +kernel
theorem dX5_text_105 : decode cX5_text 105 = .ok (.aload_n 0, 1) := by decide +kernel
theorem dX5_text_106 : decode cX5_text 106 = .ok (.dup, 1) := by decide +kernel
theorem dX5_text_107 : decode cX5_text 107 = .ok (.getfield 64, 3) := by decide +kernel
theorem dX5_text_110 : decode cX5_text 110 = .ok (.iload 4, 2) := by decide +kernel
theorem dX5_text_112 : decode cX5_text 112 = .ok (.iadd, 1) := by decide +kernel
theorem dX5_text_113 : decode cX5_text 113 = .ok (.putfield 64, 3) := by decide +kernel
theorem dX5_text_116 : decode cX5_text 116 = .ok (.goto (-77), 3) := by decide +kernel
theorem dX5_text_119 : decode cX5_text 119 = .ok (.iconst 1, 1) := by decide +kernel
theorem dX5_text_120 : decode cX5_text 120 = .ok (.ireturn, 1) := by decide +kernel
theorem dX5_isKey_0 : decode cX5_isKey 0 = .ok (.aload_n 0, 1) := by decide +kernel
theorem dX5_isKey_1 : decode cX5_isKey 1 = .ok (.invokevirtual 177, 3) := by decide +kernel
theorem dX5_isKey_4 : decode cX5_isKey 4 = .ok (.ifCond .eq 25, 3) := by decide +kernel
theorem dX5_isKey_7 : decode cX5_isKey 7 = .ok (.aload_n 0, 1) := by decide +kernel
theorem dX5_isKey_8 : decode cX5_isKey 8 = .ok (.getfield 43, 3) := by decide +kernel
theorem dX5_isKey_11 : decode cX5_isKey 11 = .ok (.aload_n 0, 1) := by decide +kernel
theorem dX5_isKey_12 : decode cX5_isKey 12 = .ok (.getfield 73, 3) := by decide +kernel
theorem dX5_isKey_15 : decode cX5_isKey 15 = .ok (.iconst 1, 1) := by decide +kernel
theorem dX5_isKey_16 : decode cX5_isKey 16 = .ok (.isub, 1) := by decide +kernel
theorem dX5_isKey_17 : decode cX5_isKey 17 = .ok (.laload, 1) := by decide +kernel
theorem dX5_isKey_18 : decode cX5_isKey 18 = .ok (.lconst 1, 1) := by decide +kernel
theorem dX5_isKey_19 : decode cX5_isKey 19 = .ok (.land, 1) := by decide +kernel
theorem dX5_isKey_20 : decode cX5_isKey 20 = .ok (.lconst 0, 1) := by decide +kernel
theorem dX5_isKey_21 : decode cX5_isKey 21 = .ok (.lcmp, 1) := by decide +kernel
theorem dX5_isKey_22 : decode cX5_isKey 22 = .ok (.ifCond .ne 7, 3) := by decide +kernel
theorem dX5_isKey_25 : decode cX5_isKey 25 = .ok (.iconst 1, 1) := by decide +kernel
theorem dX5_isKey_26 : decode cX5_isKey 26 = .ok (.goto 4, 3) := by decide +kernel
theorem dX5_isKey_29 : decode cX5_isKey 29 = .ok (.iconst 0, 1) := by decide +kernel
theorem dX5_isKey_30 : decode cX5_isKey 30 = .ok (.ireturn, 1) := by decide +kernel
theorem dX5_readsCbor_0 : decode cX5_readsCbor 0 = .ok (.iconst 1, 1) := by decide +kernel
theorem dX5_readsCbor_1 : decode cX5_readsCbor 1 = .ok (.istore_n 1, 1) := by decide +kernel
theorem dX5_readsCbor_2 : decode cX5_readsCbor 2 = .ok (.iload_n 1, 1) := by decide +kernel
theorem dX5_readsCbor_3 : decode cX5_readsCbor 3 = .ok (.ifCond .eq 234, 3) := by decide +kernel
theorem dX5_readsCbor_6 : decode cX5_readsCbor 6 = .ok (.aload_n 0, 1) := by decide +kernel
theorem dX5_readsCbor_7 : decode cX5_readsCbor 7 = .ok (.getfield 64, 3) := by decide +kernel
theorem dX5_readsCbor_10 : decode cX5_readsCbor 10 = .ok (.aload_n 0, 1) := by decide +kernel
theorem dX5_readsCbor_11 : decode cX5_readsCbor 11 = .ok (.getfield 55, 3) := by decide +kernel
theorem dX5_readsCbor_14 : decode cX5_readsCbor 14 = .ok (.if_icmp .lt 14, 3) := by decide +kernel
theorem dX5_readsCbor_17 : decode cX5_readsCbor 17 = .ok (.aload_n 0, 1) := by decide +kernel
theorem dX5_readsCbor_18 : decode cX5_readsCbor 18 = .ok (.iconst 1, 1) := by decide +kernel
theorem dX5_readsCbor_19 : decode cX5_readsCbor 19 = .ok (.aload_n 0, 1) := by decide +kernel
theorem dX5_readsCbor_20 : decode cX5_readsCbor 20 = .ok (.getfield 55, 3) := by decide +kernel
theorem dX5_readsCbor_23 : decode cX5_readsCbor 23 = .ok (.invokevirtual 90, 3) := by decide +kernel
theorem dX5_readsCbor_26 : decode cX5_readsCbor 26 = .ok (.pop, 1) := by decide +kernel
theorem dX5_readsCbor_27 : decode cX5_readsCbor 27 = .ok (.return_, 1) := by decide +kernel
theorem dX5_readsCbor_28 : decode cX5_readsCbor 28 = .ok (.aload_n 0, 1) := by decide +kernel
theorem dX5_readsCbor_29 : decode cX5_readsCbor 29 = .ok (.aload_n 0, 1) := by decide +kernel
theorem dX5_readsCbor_30 : decode cX5_readsCbor 30 = .ok (.invokevirtual 201, 3) := by decide +kernel
theorem dX5_readsCbor_33 : decode cX5_readsCbor 33 = .ok (.invokevirtual 204, 3) := by decide +kernel
theorem dX5_readsCbor_36 : decode cX5_readsCbor 36 = .ok (.ifCond .ne 4, 3) := by decide +kernel
theorem dX5_readsCbor_39 : decode cX5_readsCbor 39 = .ok (.return_, 1) := by decide +kernel
theorem dX5_readsCbor_40 : decode cX5_readsCbor 40 = .ok (.aload_n 0, 1) := by decide +kernel
theorem dX5_readsCbor_41 : decode cX5_readsCbor 41 = .ok (.getfield 67, 3) := by decide +kernel
theorem dX5_readsCbor_44 : decode cX5_readsCbor 44 = .ok (.iconst 1, 1) := by decide +kernel
theorem dX5_readsCbor_45 : decode cX5_readsCbor 45 = .ok (.isub, 1) := by decide +kernel
theorem dX5_readsCbor_46 : decode cX5_readsCbor 46 = .ok (.istore_n 2, 1) := by decide +kernel
theorem dX5_readsCbor_47 : decode cX5_readsCbor 47 = .ok (.aload_n 0, 1) := by decide +kernel
theorem dX5_readsCbor_48 : decode cX5_readsCbor 48 = .ok (.getfield 73, 3) := by decide +kernel
theorem dX5_readsCbor_51 : decode cX5_readsCbor 51 = .ok (.ifCond .le 18, 3) := by decide +kernel
theorem dX5_readsCbor_54 : decode cX5_readsCbor 54 = .ok (.aload_n 0, 1) := by decide +kernel
theorem dX5_readsCbor_55 : decode cX5_readsCbor 55 = .ok (.getfield 43, 3) := by decide +kernel
theorem dX5_readsCbor_58 : decode cX5_readsCbor 58 = .ok (.aload_n 0, 1) := by decide +kernel
theorem dX5_readsCbor_59 : decode cX5_readsCbor 59 = .ok (.getfield 73, 3) := by decide +kernel
theorem dX5_readsCbor_62 : decode cX5_readsCbor 62 = .ok (.iconst 1, 1) := by decide +kernel
theorem dX5_readsCbor_63 : decode cX5_readsCbor 63 = .ok (.isub, 1) := by decide +kernel
theorem dX5_readsCbor_64 : decode cX5_readsCbor 64 = .ok (.dup2, 1) := by decide +kernel
theorem dX5_readsCbor_65 : decode cX5_readsCbor 65 = .ok (.laload, 1) := by decide +kernel
theorem dX5_readsCbor_66 : decode cX5_readsCbor 66 = .ok (.lconst 1, 1) := by decide +kernel
theorem dX5_readsCbor_67 : decode cX5_readsCbor 67 = .ok (.lsub, 1) := by decide +kernel
theorem dX5_readsCbor_68 : decode cX5_readsCbor 68 = .ok (.lastore, 1) := by decide +kernel
theorem dX5_readsCbor_69 : decode cX5_readsCbor 69 = .ok (.aload_n 0, 1) := by decide +kernel
theorem dX5_readsCbor_70 : decode cX5_readsCbor 70 = .ok (.getfield 27, 3) := by decide +kernel
theorem dX5_readsCbor_73 : decode cX5_readsCbor 73 = .ok (.iload_n 2, 1) := by decide +kernel
theorem dX5_readsCbor_74 : decode cX5_readsCbor 74 = .ok (.iaload, 1) := by decide +kernel
theorem dX5_readsCbor_75 : decode cX5_readsCbor 75 = .ok (.iconst 4, 1) := by decide +kernel
theorem dX5_readsCbor_76 : decode cX5_readsCbor 76 = .ok (.if_icmp .eq 13, 3) := by decide +kernel
theorem dX5_readsCbor_79 : decode cX5_readsCbor 79 = .ok (.aload_n 0, 1) := by decide +kernel
theorem dX5_readsCbor_80 : decode cX5_readsCbor 80 = .ok (.getfield 27, 3) := by decide +kernel
theorem dX5_readsCbor_83 : decode cX5_readsCbor 83 = .ok (.iload_n 2, 1) := by decide +kernel
theorem dX5_readsCbor_84 : decode cX5_readsCbor 84 = .ok (.iaload, 1) := by decide +kernel
theorem dX5_readsCbor_85 : decode cX5_readsCbor 85 = .ok (.iconst 5, 1) := by decide +kernel
theorem dX5_readsCbor_86 : decode cX5_readsCbor 86 = .ok (.if_icmp .ne 99, 3) := by decide +kernel
theorem dX5_readsCbor_89 : decode cX5_readsCbor 89 = .ok (.aload_n 0, 1) := by decide +kernel
theorem dX5_readsCbor_90 : decode cX5_readsCbor 90 = .ok (.getfield 30, 3) := by decide +kernel
theorem dX5_readsCbor_93 : decode cX5_readsCbor 93 = .ok (.iload_n 2, 1) := by decide +kernel
theorem dX5_readsCbor_94 : decode cX5_readsCbor 94 = .ok (.laload, 1) := by decide +kernel
theorem dX5_readsCbor_95 : decode cX5_readsCbor 95 = .ok (.lconst 0, 1) := by decide +kernel
theorem dX5_readsCbor_96 : decode cX5_readsCbor 96 = .ok (.lcmp, 1) := by decide +kernel
theorem dX5_readsCbor_97 : decode cX5_readsCbor 97 = .ok (.ifCond .eq 88, 3) := by decide +kernel
theorem dX5_readsCbor_100 : decode cX5_readsCbor 100 = .ok (.aload_n 0, 1) := by decide +kernel
theorem dX5_readsCbor_101 : decode cX5_readsCbor 101 = .ok (.getfield 40, 3) := by decide +kernel
theorem dX5_readsCbor_104 : decode cX5_readsCbor 104 = .ok (.aload_n 0, 1) := by decide +kernel
theorem dX5_readsCbor_105 : decode cX5_readsCbor 105 = .ok (.getfield 73, 3) := by decide +kernel
theorem dX5_readsCbor_108 : decode cX5_readsCbor 108 = .ok (.iload_n 2, 1) := by decide +kernel
theorem dX5_readsCbor_109 : decode cX5_readsCbor 109 = .ok (.iastore, 1) := by decide +kernel
theorem dX5_readsCbor_110 : decode cX5_readsCbor 110 = .ok (.aload_n 0, 1) := by decide +kernel
theorem dX5_readsCbor_111 : decode cX5_readsCbor 111 = .ok (.getfield 30, 3) := by decide +kernel
theorem dX5_readsCbor_114 : decode cX5_readsCbor 114 = .ok (.iload_n 2, 1) := by decide +kernel
theorem dX5_readsCbor_115 : decode cX5_readsCbor 115 = .ok (.laload, 1) := by decide +kernel
theorem dX5_readsCbor_116 : decode cX5_readsCbor 116 = .ok (.lconst 0, 1) := by decide +kernel
theorem dX5_readsCbor_117 : decode cX5_readsCbor 117 = .ok (.lcmp, 1) := by decide +kernel
theorem dX5_readsCbor_118 : decode cX5_readsCbor 118 = .ok (.ifCond .lt 16, 3) := by decide +kernel
theorem dX5_readsCbor_121 : decode cX5_readsCbor 121 = .ok (.aload_n 0, 1) := by decide +kernel
theorem dX5_readsCbor_122 : decode cX5_readsCbor 122 = .ok (.getfield 30, 3) := by decide +kernel
theorem dX5_readsCbor_125 : decode cX5_readsCbor 125 = .ok (.iload_n 2, 1) := by decide +kernel
theorem dX5_readsCbor_126 : decode cX5_readsCbor 126 = .ok (.laload, 1) := by decide +kernel
theorem dX5_readsCbor_127 : decode cX5_readsCbor 127 = .ok (.ldc2_w 208, 3) := by decide +kernel
theorem dX5_readsCbor_130 : decode cX5_readsCbor 130 = .ok (.lcmp, 1) := by decide +kernel
theorem dX5_readsCbor_131 : decode cX5_readsCbor 131 = .ok (.ifCond .le 9, 3) := by decide +kernel
theorem dX5_readsCbor_134 : decode cX5_readsCbor 134 = .ok (.ldc2_w 208, 3) := by decide +kernel
theorem dX5_readsCbor_137 : decode cX5_readsCbor 137 = .ok (.goto 9, 3) := by decide +kernel
theorem dX5_readsCbor_140 : decode cX5_readsCbor 140 = .ok (.aload_n 0, 1) := by decide +kernel
theorem dX5_readsCbor_141 : decode cX5_readsCbor 141 = .ok (.getfield 30, 3) := by decide +kernel
theorem dX5_readsCbor_144 : decode cX5_readsCbor 144 = .ok (.iload_n 2, 1) := by decide +kernel
theorem dX5_readsCbor_145 : decode cX5_readsCbor 145 = .ok (.laload, 1) := by decide +kernel
theorem dX5_readsCbor_146 : decode cX5_readsCbor 146 = .ok (.lstore_n 3, 1) := by decide +kernel
theorem dX5_readsCbor_147 : decode cX5_readsCbor 147 = .ok (.aload_n 0, 1) := by decide +kernel
theorem dX5_readsCbor_148 : decode cX5_readsCbor 148 = .ok (.getfield 43, 3) := by decide +kernel
theorem dX5_readsCbor_151 : decode cX5_readsCbor 151 = .ok (.aload_n 0, 1) := by decide +kernel
theorem dX5_readsCbor_152 : decode cX5_readsCbor 152 = .ok (.getfield 73, 3) := by decide +kernel
theorem dX5_readsCbor_155 : decode cX5_readsCbor 155 = .ok (.aload_n 0, 1) := by decide +kernel
theorem dX5_readsCbor_156 : decode cX5_readsCbor 156 = .ok (.getfield 27, 3) := by decide +kernel
theorem dX5_readsCbor_159 : decode cX5_readsCbor 159 = .ok (.iload_n 2, 1) := by decide +kernel
theorem dX5_readsCbor_160 : decode cX5_readsCbor 160 = .ok (.iaload, 1) := by decide +kernel
theorem dX5_readsCbor_161 : decode cX5_readsCbor 161 = .ok (.iconst 5, 1) := by decide +kernel
theorem dX5_readsCbor_162 : decode cX5_readsCbor 162 = .ok (.if_icmp .ne 11, 3) := by decide +kernel
theorem dX5_readsCbor_165 : decode cX5_readsCbor 165 = .ok (.ldc2_w 210, 3) := by decide +kernel
theorem dX5_readsCbor_168 : decode cX5_readsCbor 168 = .ok (.lload_n 3, 1) := by decide +kernel
theorem dX5_readsCbor_169 : decode cX5_readsCbor 169 = .ok (.lmul, 1) := by decide +kernel
theorem dX5_readsCbor_170 : decode cX5_readsCbor 170 = .ok (.goto 4, 3) := by decide +kernel
theorem dX5_readsCbor_173 : decode cX5_readsCbor 173 = .ok (.lload_n 3, 1) := by decide +kernel
theorem dX5_readsCbor_174 : decode cX5_readsCbor 174 = .ok (.lastore, 1) := by decide +kernel
theorem dX5_readsCbor_175 : decode cX5_readsCbor 175 = .ok (.aload_n 0, 1) := by decide +kernel
theorem dX5_readsCbor_176 : decode cX5_readsCbor 176 = .ok (.dup, 1) := by decide +kernel
theorem dX5_readsCbor_177 : decode cX5_readsCbor 177 = .ok (.getfield 73, 3) := by decide +kernel
theorem dX5_readsCbor_180 : decode cX5_readsCbor 180 = .ok (.iconst 1, 1) := by decide +kernel
theorem dX5_readsCbor_181 : decode cX5_readsCbor 181 = .ok (.iadd, 1) := by decide +kernel
theorem dX5_readsCbor_182 : decode cX5_readsCbor 182 = .ok (.putfield 73, 3) := by decide +kernel
theorem dX5_readsCbor_185 : decode cX5_readsCbor 185 = .ok (.aload_n 0, 1) := by decide +kernel
theorem dX5_readsCbor_186 : decode cX5_readsCbor 186 = .ok (.getfield 73, 3) := by decide +kernel
theorem dX5_readsCbor_189 : decode cX5_readsCbor 189 = .ok (.ifCond .le 32, 3) := by decide +kernel
theorem dX5_readsCbor_192 : decode cX5_readsCbor 192 = .ok (.aload_n 0, 1) := by decide +kernel
theorem dX5_readsCbor_193 : decode cX5_readsCbor 193 = .ok (.getfield 43, 3) := by decide +kernel
theorem dX5_readsCbor_196 : decode cX5_readsCbor 196 = .ok (.aload_n 0, 1) := by decide +kernel
theorem dX5_readsCbor_197 : decode cX5_readsCbor 197 = .ok (.getfield 73, 3) := by decide +kernel
theorem dX5_readsCbor_200 : decode cX5_readsCbor 200 = .ok (.iconst 1, 1) := by decide +kernel
theorem dX5_readsCbor_201 : decode cX5_readsCbor 201 = .ok (.isub, 1) := by decide +kernel
theorem dX5_readsCbor_202 : decode cX5_readsCbor 202 = .ok (.laload, 1) := by decide +kernel
theorem dX5_readsCbor_203 : decode cX5_readsCbor 203 = .ok (.lconst 0, 1) := by decide +kernel
theorem dX5_readsCbor_204 : decode cX5_readsCbor 204 = .ok (.lcmp, 1) := by decide +kernel
theorem dX5_readsCbor_205 : decode cX5_readsCbor 205 = .ok (.ifCond .ne 16, 3) := by decide +kernel
theorem dX5_readsCbor_208 : decode cX5_readsCbor 208 = .ok (.aload_n 0, 1) := by decide +kernel
theorem dX5_readsCbor_209 : decode cX5_readsCbor 209 = .ok (.dup, 1) := by decide +kernel
theorem dX5_readsCbor_210 : decode cX5_readsCbor 210 = .ok (.getfield 73, 3) := by decide +kernel
theorem dX5_readsCbor_213 : decode cX5_readsCbor 213 = .ok (.iconst 1, 1) := by decide +kernel
theorem dX5_readsCbor_214 : decode cX5_readsCbor 214 = .ok (.isub, 1) := by decide +kernel
theorem dX5_readsCbor_215 : decode cX5_readsCbor 215 = .ok (.putfield 73, 3) := by decide +kernel
theorem dX5_readsCbor_218 : decode cX5_readsCbor 218 = .ok (.goto (-33), 3) := by decide +kernel
theorem dX5_readsCbor_221 : decode cX5_readsCbor 221 = .ok (.aload_n 0, 1) := by decide +kernel
theorem dX5_readsCbor_222 : decode cX5_readsCbor 222 = .ok (.getfield 73, 3) := by decide +kernel
theorem dX5_readsCbor_225 : decode cX5_readsCbor 225 = .ok (.ifCond .le 7, 3) := by decide +kernel
theorem dX5_readsCbor_228 : decode cX5_readsCbor 228 = .ok (.iconst 1, 1) := by decide +kernel
theorem dX5_readsCbor_229 : decode cX5_readsCbor 229 = .ok (.goto 4, 3) := by decide +kernel
theorem dX5_readsCbor_232 : decode cX5_readsCbor 232 = .ok (.iconst 0, 1) := by decide +kernel
theorem dX5_readsCbor_233 : decode cX5_readsCbor 233 = .ok (.istore_n 1, 1) := by decide +kernel
theorem dX5_readsCbor_234 : decode cX5_readsCbor 234 = .ok (.goto (-232), 3) := by decide +kernel
theorem dX5_readsCbor_237 : decode cX5_readsCbor 237 = .ok (.aload_n 0, 1) := by decide +kernel
theorem dX5_readsCbor_238 : decode cX5_readsCbor 238 = .ok (.getfield 64, 3) := by decide +kernel
theorem dX5_readsCbor_241 : decode cX5_readsCbor 241 = .ok (.aload_n 0, 1) := by decide +kernel
theorem dX5_readsCbor_242 : decode cX5_readsCbor 242 = .ok (.getfield 55, 3) := by decide +kernel
theorem dX5_readsCbor_245 : decode cX5_readsCbor 245 = .ok (.if_icmp .ge 13, 3) := by decide +kernel
theorem dX5_readsCbor_248 : decode cX5_readsCbor 248 = .ok (.aload_n 0, 1) := by decide +kernel
theorem dX5_readsCbor_249 : decode cX5_readsCbor 249 = .ok (.iconst 1, 1) := by decide +kernel
theorem dX5_readsCbor_250 : decode cX5_readsCbor 250 = .ok (.aload_n 0, 1) := by decide +kernel
theorem dX5_readsCbor_251 : decode cX5_readsCbor 251 = .ok (.getfield 64, 3) := by decide +kernel
theorem dX5_readsCbor_254 : decode cX5_readsCbor 254 = .ok (.invokevirtual 90, 3) := by decide +kernel
theorem dX5_readsCbor_257 : decode cX5_readsCbor 257 = .ok (.pop, 1) := by decide +kernel
theorem dX5_readsCbor_258 : decode cX5_readsCbor 258 = .ok (.return_, 1) := by decide +kernel
theorem dX5_put_0 : decode cX5_put 0 = .ok (.aload_n 0, 1) := by decide +kernel
theorem dX5_put_1 : decode cX5_put 1 = .ok (.getfield 212, 3) := by decide +kernel
theorem dX5_put_4 : decode cX5_put 4 = .ok (.sipush 6000, 3) := by decide +kernel
theorem dX5_put_7 : decode cX5_put 7 = .ok (.if_icmp .ge 14, 3) := by decide +kernel
theorem dX5_put_10 : decode cX5_put 10 = .ok (.aload_n 0, 1) := by decide +kernel
theorem dX5_put_11 : decode cX5_put 11 = .ok (.getfield 46, 3) := by decide +kernel
theorem dX5_put_14 : decode cX5_put 14 = .ok (.aload_n 0, 1) := by decide +kernel
theorem dX5_put_15 : decode cX5_put 15 = .ok (.getfield 212, 3) := by decide +kernel
theorem dX5_put_18 : decode cX5_put 18 = .ok (.iload_n 1, 1) := by decide +kernel
theorem dX5_put_19 : decode cX5_put 19 = .ok (.i2b, 1) := by decide +kernel
theorem dX5_put_20 : decode cX5_put 20 = .ok (.bastore, 1) := by decide +kernel
theorem dX5_put_21 : decode cX5_put 21 = .ok (.aload_n 0, 1) := by decide +kernel
theorem dX5_put_22 : decode cX5_put 22 = .ok (.dup, 1) := by decide +kernel
theorem dX5_put_23 : decode cX5_put 23 = .ok (.getfield 212, 3) := by decide +kernel
theorem dX5_put_26 : decode cX5_put 26 = .ok (.iconst 1, 1) := by decide +kernel
theorem dX5_put_27 : decode cX5_put 27 = .ok (.iadd, 1) := by decide +kernel
theorem dX5_put_28 : decode cX5_put 28 = .ok (.putfield 212, 3) := by decide +kernel
theorem dX5_put_31 : decode cX5_put 31 = .ok (.return_, 1) := by decide +kernel
theorem dX5_ends_0 : decode cX5_ends 0 = .ok (.aload_n 0, 1) := by decide +kernel
theorem dX5_ends_1 : decode cX5_ends 1 = .ok (.getfield 212, 3) := by decide +kernel
theorem dX5_ends_4 : decode cX5_ends 4 = .ok (.aload_n 0, 1) := by decide +kernel
theorem dX5_ends_5 : decode cX5_ends 5 = .ok (.getfield 17, 3) := by decide +kernel
theorem dX5_ends_8 : decode cX5_ends 8 = .ok (.if_icmp .le 13, 3) := by decide +kernel
theorem dX5_ends_11 : decode cX5_ends 11 = .ok (.aload_n 0, 1) := by decide +kernel
theorem dX5_ends_12 : decode cX5_ends 12 = .ok (.iconst 5, 1) := by decide +kernel
theorem dX5_ends_13 : decode cX5_ends 13 = .ok (.aload_n 0, 1) := by decide +kernel
theorem dX5_ends_14 : decode cX5_ends 14 = .ok (.getfield 55, 3) := by decide +kernel
theorem dX5_ends_17 : decode cX5_ends 17 = .ok (.invokevirtual 90, 3) := by decide +kernel
theorem dX5_ends_20 : decode cX5_ends 20 = .ok (.pop, 1) := by decide +kernel
theorem dX5_ends_21 : decode cX5_ends 21 = .ok (.aload_n 0, 1) := by decide +kernel
theorem dX5_ends_22 : decode cX5_ends 22 = .ok (.getfield 61, 3) := by decide +kernel
theorem dX5_ends_25 : decode cX5_ends 25 = .ok (.ifCond .le 9, 3) := by decide +kernel
theorem dX5_ends_28 : decode cX5_ends 28 = .ok (.aload_n 0, 1) := by decide +kernel
theorem dX5_ends_29 : decode cX5_ends 29 = .ok (.getfield 61, 3) := by decide +kernel
theorem dX5_ends_32 : decode cX5_ends 32 = .ok (.ineg, 1) := by decide +kernel
theorem dX5_ends_33 : decode cX5_ends 33 = .ok (.ireturn, 1) := by decide +kernel
theorem dX5_ends_34 : decode cX5_ends 34 = .ok (.iconst 0, 1) := by decide +kernel
theorem dX5_ends_35 : decode cX5_ends 35 = .ok (.istore_n 1, 1) := by decide +kernel
theorem dX5_ends_36 : decode cX5_ends 36 = .ok (.iload_n 1, 1) := by decide +kernel
theorem dX5_ends_37 : decode cX5_ends 37 = .ok (.aload_n 0, 1) := by decide +kernel
theorem dX5_ends_38 : decode cX5_ends 38 = .ok (.getfield 212, 3) := by decide +kernel
theorem dX5_ends_41 : decode cX5_ends 41 = .ok (.if_icmp .ge 21, 3) := by decide +kernel
theorem dX5_ends_44 : decode cX5_ends 44 = .ok (.aload_n 0, 1) := by decide +kernel
theorem dX5_ends_45 : decode cX5_ends 45 = .ok (.getfield 20, 3) := by decide +kernel
theorem dX5_ends_48 : decode cX5_ends 48 = .ok (.iload_n 1, 1) := by decide +kernel
theorem dX5_ends_49 : decode cX5_ends 49 = .ok (.aload_n 0, 1) := by decide +kernel
theorem dX5_ends_50 : decode cX5_ends 50 = .ok (.getfield 46, 3) := by decide +kernel
theorem dX5_ends_53 : decode cX5_ends 53 = .ok (.iload_n 1, 1) := by decide +kernel
theorem dX5_ends_54 : decode cX5_ends 54 = .ok (.baload, 1) := by decide +kernel
theorem dX5_ends_55 : decode cX5_ends 55 = .ok (.bastore, 1) := by decide +kernel
theorem dX5_ends_56 : decode cX5_ends 56 = .ok (.iinc 1 1, 3) := by decide +kernel
theorem dX5_ends_59 : decode cX5_ends 59 = .ok (.goto (-23), 3) := by decide +kernel
theorem dX5_ends_62 : decode cX5_ends 62 = .ok (.aload_n 0, 1) := by decide +kernel
theorem dX5_ends_63 : decode cX5_ends 63 = .ok (.aload_n 0, 1) := by decide +kernel
theorem dX5_ends_64 : decode cX5_ends 64 = .ok (.getfield 212, 3) := by decide +kernel
theorem dX5_ends_67 : decode cX5_ends 67 = .ok (.putfield 58, 3) := by decide +kernel
theorem dX5_ends_70 : decode cX5_ends 70 = .ok (.aload_n 0, 1) := by decide +kernel
theorem dX5_ends_71 : decode cX5_ends 71 = .ok (.getfield 58, 3) := by decide +kernel
theorem dX5_ends_74 : decode cX5_ends 74 = .ok (.ireturn, 1) := by decide +kernel
theorem dX5_puts_0 : decode cX5_puts 0 = .ok (.lload_n 2, 1) := by decide +kernel
theorem dX5_puts_1 : decode cX5_puts 1 = .ok (.lconst 0, 1) := by decide +kernel
theorem dX5_puts_2 : decode cX5_puts 2 = .ok (.lcmp, 1) := by decide +kernel
theorem dX5_puts_3 : decode cX5_puts 3 = .ok (.ifCond .lt 15, 3) := by decide +kernel
theorem dX5_puts_6 : decode cX5_puts 6 = .ok (.lload_n 2, 1) := by decide +kernel
theorem dX5_puts_7 : decode cX5_puts 7 = .ok (.ldc2_w 195, 3) := by decide +kernel
theorem dX5_puts_10 : decode cX5_puts 10 = .ok (.lcmp, 1) := by decide +kernel
theorem dX5_puts_11 : decode cX5_puts 11 = .ok (.ifCond .ge 7, 3) := by decide +kernel
theorem dX5_puts_14 : decode cX5_puts 14 = .ok (.iconst 0, 1) := by decide +kernel
theorem dX5_puts_15 : decode cX5_puts 15 = .ok (.goto 54, 3) := by decide +kernel
theorem dX5_puts_18 : decode cX5_puts 18 = .ok (.lload_n 2, 1) := by decide +kernel
theorem dX5_puts_19 : decode cX5_puts 19 = .ok (.lconst 0, 1) := by decide +kernel
theorem dX5_puts_20 : decode cX5_puts 20 = .ok (.lcmp, 1) := by decide +kernel
theorem dX5_puts_21 : decode cX5_puts 21 = .ok (.ifCond .lt 15, 3) := by decide +kernel
theorem dX5_puts_24 : decode cX5_puts 24 = .ok (.lload_n 2, 1) := by decide +kernel
theorem dX5_puts_25 : decode cX5_puts 25 = .ok (.ldc2_w 215, 3) := by decide +kernel
theorem dX5_puts_28 : decode cX5_puts 28 = .ok (.lcmp, 1) := by decide +kernel
theorem dX5_puts_29 : decode cX5_puts 29 = .ok (.ifCond .ge 7, 3) := by decide +kernel
theorem dX5_puts_32 : decode cX5_puts 32 = .ok (.iconst 1, 1) := by decide +kernel
theorem dX5_puts_33 : decode cX5_puts 33 = .ok (.goto 36, 3) := by decide +kernel
theorem dX5_puts_36 : decode cX5_puts 36 = .ok (.lload_n 2, 1) := by decide +kernel
theorem dX5_puts_37 : decode cX5_puts 37 = .ok (.lconst 0, 1) := by decide +kernel
theorem dX5_puts_38 : decode cX5_puts 38 = .ok (.lcmp, 1) := by decide +kernel
theorem dX5_puts_39 : decode cX5_puts 39 = .ok (.ifCond .lt 15, 3) := by decide +kernel
theorem dX5_puts_42 : decode cX5_puts 42 = .ok (.lload_n 2, 1) := by decide +kernel
theorem dX5_puts_43 : decode cX5_puts 43 = .ok (.ldc2_w 217, 3) := by decide +kernel
theorem dX5_puts_46 : decode cX5_puts 46 = .ok (.lcmp, 1) := by decide +kernel
theorem dX5_puts_47 : decode cX5_puts 47 = .ok (.ifCond .ge 7, 3) := by decide +kernel
theorem dX5_puts_50 : decode cX5_puts 50 = .ok (.iconst 2, 1) := by decide +kernel
theorem dX5_puts_51 : decode cX5_puts 51 = .ok (.goto 18, 3) := by decide +kernel
theorem dX5_puts_54 : decode cX5_puts 54 = .ok (.lload_n 2, 1) := by decide +kernel
theorem dX5_puts_55 : decode cX5_puts 55 = .ok (.bipush 32, 2) := by decide +kernel
theorem dX5_puts_57 : decode cX5_puts 57 = .ok (.lushr, 1) := by decide +kernel
theorem dX5_puts_58 : decode cX5_puts 58 = .ok (.lconst 0, 1) := by decide +kernel
theorem dX5_puts_59 : decode cX5_puts 59 = .ok (.lcmp, 1) := by decide +kernel
theorem dX5_puts_60 : decode cX5_puts 60 = .ok (.ifCond .ne 7, 3) := by decide +kernel
theorem dX5_puts_63 : decode cX5_puts 63 = .ok (.iconst 4, 1) := by decide +kernel
theorem dX5_puts_64 : decode cX5_puts 64 = .ok (.goto 5, 3) := by decide +kernel
theorem dX5_puts_67 : decode cX5_puts 67 = .ok (.bipush 8, 2) := by decide +kernel
theorem dX5_puts_69 : decode cX5_puts 69 = .ok (.istore 4, 2) := by decide +kernel
theorem dX5_puts_71 : decode cX5_puts 71 = .ok (.aload_n 0, 1) := by decide +kernel
theorem dX5_puts_72 : decode cX5_puts 72 = .ok (.bipush 32, 2) := by decide +kernel
theorem dX5_puts_74 : decode cX5_puts 74 = .ok (.iload_n 1, 1) := by decide +kernel
theorem dX5_puts_75 : decode cX5_puts 75 = .ok (.imul, 1) := by decide +kernel
theorem dX5_puts_76 : decode cX5_puts 76 = .ok (.iload 4, 2) := by decide +kernel
theorem dX5_puts_78 : decode cX5_puts 78 = .ok (.ifCond .ne 8, 3) := by decide +kernel
theorem dX5_puts_81 : decode cX5_puts 81 = .ok (.lload_n 2, 1) := by decide +kernel
theorem dX5_puts_82 : decode cX5_puts 82 = .ok (.l2i, 1) := by decide +kernel
theorem dX5_puts_83 : decode cX5_puts 83 = .ok (.goto 38, 3) := by decide +kernel
theorem dX5_puts_86 : decode cX5_puts 86 = .ok (.iload 4, 2) := by decide +kernel
theorem dX5_puts_88 : decode cX5_puts 88 = .ok (.iconst 1, 1) := by decide +kernel
theorem dX5_puts_89 : decode cX5_puts 89 = .ok (.if_icmp .ne 8, 3) := by decide +kernel
theorem dX5_puts_92 : decode cX5_puts 92 = .ok (.bipush 24, 2) := by decide +kernel
theorem dX5_puts_94 : decode cX5_puts 94 = .ok (.goto 27, 3) := by decide +kernel
theorem dX5_puts_97 : decode cX5_puts 97 = .ok (.iload 4, 2) := by decide +kernel
theorem dX5_puts_99 : decode cX5_puts 99 = .ok (.iconst 2, 1) := by decide +kernel
theorem dX5_puts_100 : decode cX5_puts 100 = .ok (.if_icmp .ne 8, 3) := by decide +kernel
theorem dX5_puts_103 : decode cX5_puts 103 = .ok (.bipush 25, 2) := by decide +kernel
theorem dX5_puts_105 : decode cX5_puts 105 = .ok (.goto 16, 3) := by decide +kernel
theorem dX5_puts_108 : decode cX5_puts 108 = .ok (.iload 4, 2) := by decide +kernel
theorem dX5_puts_110 : decode cX5_puts 110 = .ok (.iconst 4, 1) := by decide +kernel
theorem dX5_puts_111 : decode cX5_puts 111 = .ok (.if_icmp .ne 8, 3) := by decide +kernel
theorem dX5_puts_114 : decode cX5_puts 114 = .ok (.bipush 26, 2) := by decide +kernel
theorem dX5_puts_116 : decode cX5_puts 116 = .ok (.goto 5, 3) := by decide +kernel
theorem dX5_puts_119 : decode cX5_puts 119 = .ok (.bipush 27, 2) := by decide +kernel
theorem dX5_puts_121 : decode cX5_puts 121 = .ok (.iadd, 1) := by decide +kernel
theorem dX5_puts_122 : decode cX5_puts 122 = .ok (.invokevirtual 219, 3) := by decide +kernel
theorem dX5_puts_125 : decode cX5_puts 125 = .ok (.bipush 8, 2) := by decide +kernel
theorem dX5_puts_127 : decode cX5_puts 127 = .ok (.iload 4, 2) := by decide +kernel
theorem dX5_puts_129 : decode cX5_puts 129 = .ok (.imul, 1) := by decide +kernel
theorem dX5_puts_130 : decode cX5_puts 130 = .ok (.bipush 8, 2) := by decide +kernel
theorem dX5_puts_132 : decode cX5_puts 132 = .ok (.isub, 1) := by decide +kernel
theorem dX5_puts_133 : decode cX5_puts 133 = .ok (.istore 5, 2) := by decide +kernel
theorem dX5_puts_135 : decode cX5_puts 135 = .ok (.iload 5, 2) := by decide +kernel
theorem dX5_puts_137 : decode cX5_puts 137 = .ok (.ifCond .lt 22, 3) := by decide +kernel
theorem dX5_puts_140 : decode cX5_puts 140 = .ok (.aload_n 0, 1) := by decide +kernel
theorem dX5_puts_141 : decode cX5_puts 141 = .ok (.lload_n 2, 1) := by decide +kernel
theorem dX5_puts_142 : decode cX5_puts 142 = .ok (.iload 5, 2) := by decide +kernel
theorem dX5_puts_144 : decode cX5_puts 144 = .ok (.lshr, 1) := by decide +kernel
theorem dX5_puts_145 : decode cX5_puts 145 = .ok (.l2i, 1) := by decide +kernel
theorem dX5_puts_146 : decode cX5_puts 146 = .ok (.sipush 255, 3) := by decide +kernel
theorem dX5_puts_149 : decode cX5_puts 149 = .ok (.iand, 1) := by decide +kernel
theorem dX5_puts_150 : decode cX5_puts 150 = .ok (.invokevirtual 219, 3) := by decide +kernel
theorem dX5_puts_153 : decode cX5_puts 153 = .ok (.iinc 5 (-8), 3) := by decide +kernel
theorem dX5_puts_156 : decode cX5_puts 156 = .ok (.goto (-21), 3) := by decide +kernel
theorem dX5_puts_159 : decode cX5_puts 159 = .ok (.return_, 1) := by decide +kernel
theorem dX5_putsLetters_0 : decode cX5_putsLetters 0 = .ok (.iconst 0, 1) := by decide +kernel
theorem dX5_putsLetters_1 : decode cX5_putsLetters 1 = .ok (.istore_n 2, 1) := by decide +kernel
theorem dX5_putsLetters_2 : decode cX5_putsLetters 2 = .ok (.iload_n 2, 1) := by decide +kernel
theorem dX5_putsLetters_3 : decode cX5_putsLetters 3 = .ok (.aload_n 0, 1) := by decide +kernel
theorem dX5_putsLetters_4 : decode cX5_putsLetters 4 = .ok (.getfield 30, 3) := by decide +kernel
theorem dX5_putsLetters_7 : decode cX5_putsLetters 7 = .ok (.iload_n 1, 1) := by decide +kernel
theorem dX5_putsLetters_8 : decode cX5_putsLetters 8 = .ok (.laload, 1) := by decide +kernel
theorem dX5_putsLetters_9 : decode cX5_putsLetters 9 = .ok (.l2i, 1) := by decide +kernel
theorem dX5_putsLetters_10 : decode cX5_putsLetters 10 = .ok (.if_icmp .ge 26, 3) := by decide +kernel
theorem dX5_putsLetters_13 : decode cX5_putsLetters 13 = .ok (.aload_n 0, 1) := by decide +kernel
theorem dX5_putsLetters_14 : decode cX5_putsLetters 14 = .ok (.aload_n 0, 1) := by decide +kernel
theorem dX5_putsLetters_15 : decode cX5_putsLetters 15 = .ok (.getfield 37, 3) := by decide +kernel
theorem dX5_putsLetters_18 : decode cX5_putsLetters 18 = .ok (.aload_n 0, 1) := by decide +kernel
theorem dX5_putsLetters_19 : decode cX5_putsLetters 19 = .ok (.getfield 34, 3) := by decide +kernel
theorem dX5_putsLetters_22 : decode cX5_putsLetters 22 = .ok (.iload_n 1, 1) := by decide +kernel
theorem dX5_putsLetters_23 : decode cX5_putsLetters 23 = .ok (.iaload, 1) := by decide +kernel
theorem dX5_putsLetters_24 : decode cX5_putsLetters 24 = .ok (.iload_n 2, 1) := by decide +kernel
theorem dX5_putsLetters_25 : decode cX5_putsLetters 25 = .ok (.iadd, 1) := by decide +kernel
theorem dX5_putsLetters_26 : decode cX5_putsLetters 26 = .ok (.baload, 1) := by decide +kernel
theorem dX5_putsLetters_27 : decode cX5_putsLetters 27 = .ok (.invokevirtual 219, 3) := by decide +kernel
theorem dX5_putsLetters_30 : decode cX5_putsLetters 30 = .ok (.iinc 2 1, 3) := by decide +kernel
theorem dX5_putsLetters_33 : decode cX5_putsLetters 33 = .ok (.goto (-31), 3) := by decide +kernel
theorem dX5_putsLetters_36 : decode cX5_putsLetters 36 = .ok (.return_, 1) := by decide +kernel
theorem dX5_writesCbor_0 : decode cX5_writesCbor 0 = .ok (.aload_n 0, 1) := by decide +kernel
theorem dX5_writesCbor_1 : decode cX5_writesCbor 1 = .ok (.iconst 0, 1) := by decide +kernel
theorem dX5_writesCbor_2 : decode cX5_writesCbor 2 = .ok (.putfield 212, 3) := by decide +kernel
theorem dX5_writesCbor_5 : decode cX5_writesCbor 5 = .ok (.iconst 0, 1) := by decide +kernel
theorem dX5_writesCbor_6 : decode cX5_writesCbor 6 = .ok (.istore_n 1, 1) := by decide +kernel
theorem dX5_writesCbor_7 : decode cX5_writesCbor 7 = .ok (.iload_n 1, 1) := by decide +kernel
theorem dX5_writesCbor_8 : decode cX5_writesCbor 8 = .ok (.aload_n 0, 1) := by decide +kernel
theorem dX5_writesCbor_9 : decode cX5_writesCbor 9 = .ok (.getfield 67, 3) := by decide +kernel
theorem dX5_writesCbor_12 : decode cX5_writesCbor 12 = .ok (.if_icmp .ge 40, 3) := by decide +kernel
theorem dX5_writesCbor_15 : decode cX5_writesCbor 15 = .ok (.aload_n 0, 1) := by decide +kernel
theorem dX5_writesCbor_16 : decode cX5_writesCbor 16 = .ok (.aload_n 0, 1) := by decide +kernel
theorem dX5_writesCbor_17 : decode cX5_writesCbor 17 = .ok (.getfield 27, 3) := by decide +kernel
theorem dX5_writesCbor_20 : decode cX5_writesCbor 20 = .ok (.iload_n 1, 1) := by decide +kernel
theorem dX5_writesCbor_21 : decode cX5_writesCbor 21 = .ok (.iaload, 1) := by decide +kernel
theorem dX5_writesCbor_22 : decode cX5_writesCbor 22 = .ok (.aload_n 0, 1) := by decide +kernel
theorem dX5_writesCbor_23 : decode cX5_writesCbor 23 = .ok (.getfield 30, 3) := by decide +kernel
theorem dX5_writesCbor_26 : decode cX5_writesCbor 26 = .ok (.iload_n 1, 1) := by decide +kernel
theorem dX5_writesCbor_27 : decode cX5_writesCbor 27 = .ok (.laload, 1) := by decide +kernel
theorem dX5_writesCbor_28 : decode cX5_writesCbor 28 = .ok (.invokevirtual 222, 3) := by decide +kernel
theorem dX5_writesCbor_31 : decode cX5_writesCbor 31 = .ok (.aload_n 0, 1) := by decide +kernel
theorem dX5_writesCbor_32 : decode cX5_writesCbor 32 = .ok (.getfield 27, 3) := by decide +kernel
theorem dX5_writesCbor_35 : decode cX5_writesCbor 35 = .ok (.iload_n 1, 1) := by decide +kernel
theorem dX5_writesCbor_36 : decode cX5_writesCbor 36 = .ok (.iaload, 1) := by decide +kernel
theorem dX5_writesCbor_37 : decode cX5_writesCbor 37 = .ok (.iconst 3, 1) := by decide +kernel
theorem dX5_writesCbor_38 : decode cX5_writesCbor 38 = .ok (.if_icmp .ne 8, 3) := by decide +kernel
theorem dX5_writesCbor_41 : decode cX5_writesCbor 41 = .ok (.aload_n 0, 1) := by decide +kernel
theorem dX5_writesCbor_42 : decode cX5_writesCbor 42 = .ok (.iload_n 1, 1) := by decide +kernel
theorem dX5_writesCbor_43 : decode cX5_writesCbor 43 = .ok (.invokevirtual 226, 3) := by decide +kernel
theorem dX5_writesCbor_46 : decode cX5_writesCbor 46 = .ok (.iinc 1 1, 3) := by decide +kernel
theorem dX5_writesCbor_49 : decode cX5_writesCbor 49 = .ok (.goto (-42), 3) := by decide +kernel
theorem dX5_writesCbor_52 : decode cX5_writesCbor 52 = .ok (.aload_n 0, 1) := by decide +kernel
theorem dX5_writesCbor_53 : decode cX5_writesCbor 53 = .ok (.invokevirtual 229, 3) := by decide +kernel
theorem dX5_writesCbor_56 : decode cX5_writesCbor 56 = .ok (.ireturn, 1) := by decide +kernel
theorem dX5_putsWord_0 : decode cX5_putsWord 0 = .ok (.iconst 0, 1) := by decide +kernel
theorem dX5_putsWord_1 : decode cX5_putsWord 1 = .ok (.istore_n 2, 1) := by decide +kernel
theorem dX5_putsWord_2 : decode cX5_putsWord 2 = .ok (.iload_n 2, 1) := by decide +kernel
theorem dX5_putsWord_3 : decode cX5_putsWord 3 = .ok (.aload_n 1, 1) := by decide +kernel
theorem dX5_putsWord_4 : decode cX5_putsWord 4 = .ok (.invokevirtual 152, 3) := by decide +kernel
theorem dX5_putsWord_7 : decode cX5_putsWord 7 = .ok (.if_icmp .ge 18, 3) := by decide +kernel
theorem dX5_putsWord_10 : decode cX5_putsWord 10 = .ok (.aload_n 0, 1) := by decide +kernel
theorem dX5_putsWord_11 : decode cX5_putsWord 11 = .ok (.aload_n 1, 1) := by decide +kernel
theorem dX5_putsWord_12 : decode cX5_putsWord 12 = .ok (.iload_n 2, 1) := by decide +kernel
theorem dX5_putsWord_13 : decode cX5_putsWord 13 = .ok (.invokevirtual 111, 3) := by decide +kernel
theorem dX5_putsWord_16 : decode cX5_putsWord 16 = .ok (.invokevirtual 219, 3) := by decide +kernel
theorem dX5_putsWord_19 : decode cX5_putsWord 19 = .ok (.iinc 2 1, 3) := by decide +kernel
theorem dX5_putsWord_22 : decode cX5_putsWord 22 = .ok (.goto (-20), 3) := by decide +kernel
theorem dX5_putsWord_25 : decode cX5_putsWord 25 = .ok (.return_, 1) := by decide +kernel
theorem dX5_putsNumber_0 : decode cX5_putsNumber 0 = .ok (.iload_n 3, 1) := by decide +kernel
theorem dX5_putsNumber_1 : decode cX5_putsNumber 1 = .ok (.ifCond .eq 18, 3) := by decide +kernel
theorem dX5_putsNumber_4 : decode cX5_putsNumber 4 = .ok (.lload_n 1, 1) := by decide +kernel
theorem dX5_putsNumber_5 : decode cX5_putsNumber 5 = .ok (.ldc2_w 232, 3) := by decide +kernel
theorem dX5_putsNumber_8 : decode cX5_putsNumber 8 = .ok (.lcmp, 1) := by decide +kernel
theorem dX5_putsNumber_9 : decode cX5_putsNumber 9 = .ok (.ifCond .ne 10, 3) := by decide +kernel
theorem dX5_putsNumber_12 : decode cX5_putsNumber 12 = .ok (.aload_n 0, 1) := by decide +kernel
theorem dX5_putsNumber_13 : decode cX5_putsNumber 13 = .ok (.ldc 109, 2) := by decide +kernel
theorem dX5_putsNumber_15 : decode cX5_putsNumber 15 = .ok (.invokevirtual 234, 3) := by decide +kernel
theorem dX5_putsNumber_18 : decode cX5_putsNumber 18 = .ok (.return_, 1) := by decide +kernel
theorem dX5_putsNumber_19 : decode cX5_putsNumber 19 = .ok (.iload_n 3, 1) := by decide +kernel
theorem dX5_putsNumber_20 : decode cX5_putsNumber 20 = .ok (.ifCond .eq 9, 3) := by decide +kernel
theorem dX5_putsNumber_23 : decode cX5_putsNumber 23 = .ok (.lload_n 1, 1) := by decide +kernel
theorem dX5_putsNumber_24 : decode cX5_putsNumber 24 = .ok (.lconst 1, 1) := by decide +kernel
theorem dX5_putsNumber_25 : decode cX5_putsNumber 25 = .ok (.ladd, 1) := by decide +kernel
theorem dX5_putsNumber_26 : decode cX5_putsNumber 26 = .ok (.goto 4, 3) := by decide +kernel
theorem dX5_putsNumber_29 : decode cX5_putsNumber 29 = .ok (.lload_n 1, 1) := by decide +kernel
theorem dX5_putsNumber_30 : decode cX5_putsNumber 30 = .ok (.lstore 4, 2) := by decide +kernel
theorem dX5_putsNumber_32 : decode cX5_putsNumber 32 = .ok (.iconst 0, 1) := by decide +kernel
theorem dX5_putsNumber_33 : decode cX5_putsNumber 33 = .ok (.istore 6, 2) := by decide +kernel
theorem dX5_putsNumber_35 : decode cX5_putsNumber 35 = .ok (.iload 6, 2) := by decide +kernel
theorem dX5_putsNumber_37 : decode cX5_putsNumber 37 = .ok (.ifCond .eq 10, 3) := by decide +kernel
theorem dX5_putsNumber_40 : decode cX5_putsNumber 40 = .ok (.lload 4, 2) := by decide +kernel
theorem dX5_putsNumber_42 : decode cX5_putsNumber 42 = .ok (.lconst 0, 1) := by decide +kernel
theorem dX5_putsNumber_43 : decode cX5_putsNumber 43 = .ok (.lcmp, 1) := by decide +kernel
theorem dX5_putsNumber_44 : decode cX5_putsNumber 44 = .ok (.ifCond .eq 40, 3) := by decide +kernel
theorem dX5_putsNumber_47 : decode cX5_putsNumber 47 = .ok (.lload 4, 2) := by decide +kernel
theorem dX5_putsNumber_49 : decode cX5_putsNumber 49 = .ok (.iconst 1, 1) := by decide +kernel
theorem dX5_putsNumber_50 : decode cX5_putsNumber 50 = .ok (.lushr, 1) := by decide +kernel
theorem dX5_putsNumber_51 : decode cX5_putsNumber 51 = .ok (.ldc2_w 238, 3) := by decide +kernel
theorem dX5_putsNumber_54 : decode cX5_putsNumber 54 = .ok (.ldiv, 1) := by decide +kernel
theorem dX5_putsNumber_55 : decode cX5_putsNumber 55 = .ok (.lstore 7, 2) := by decide +kernel
theorem dX5_putsNumber_57 : decode cX5_putsNumber 57 = .ok (.aload_n 0, 1) := by decide +kernel
theorem dX5_putsNumber_58 : decode cX5_putsNumber 58 = .ok (.getfield 49, 3) := by decide +kernel
theorem dX5_putsNumber_61 : decode cX5_putsNumber 61 = .ok (.iload 6, 2) := by decide +kernel
theorem dX5_putsNumber_63 : decode cX5_putsNumber 63 = .ok (.lload 4, 2) := by decide +kernel
theorem dX5_putsNumber_65 : decode cX5_putsNumber 65 = .ok (.ldc2_w 121, 3) := by decide +kernel
theorem dX5_putsNumber_68 : decode cX5_putsNumber 68 = .ok (.lload 7, 2) := by decide +kernel
theorem dX5_putsNumber_70 : decode cX5_putsNumber 70 = .ok (.lmul, 1) := by decide +kernel
theorem dX5_putsNumber_71 : decode cX5_putsNumber 71 = .ok (.lsub, 1) := by decide +kernel
theorem dX5_putsNumber_72 : decode cX5_putsNumber 72 = .ok (.l2i, 1) := by decide +kernel
theorem dX5_putsNumber_73 : decode cX5_putsNumber 73 = .ok (.iastore, 1) := by decide +kernel
theorem dX5_putsNumber_74 : decode cX5_putsNumber 74 = .ok (.iinc 6 1, 3) := by decide +kernel
theorem dX5_putsNumber_77 : decode cX5_putsNumber 77 = .ok (.lload 7, 2) := by decide +kernel
theorem dX5_putsNumber_79 : decode cX5_putsNumber 79 = .ok (.lstore 4, 2) := by decide +kernel
theorem dX5_putsNumber_81 : decode cX5_putsNumber 81 = .ok (.goto (-46), 3) := by decide +kernel
theorem dX5_putsNumber_84 : decode cX5_putsNumber 84 = .ok (.iload 6, 2) := by decide +kernel
theorem dX5_putsNumber_86 : decode cX5_putsNumber 86 = .ok (.iconst 1, 1) := by decide +kernel
theorem dX5_putsNumber_87 : decode cX5_putsNumber 87 = .ok (.isub, 1) := by decide +kernel
theorem dX5_putsNumber_88 : decode cX5_putsNumber 88 = .ok (.istore 7, 2) := by decide +kernel
theorem dX5_putsNumber_90 : decode cX5_putsNumber 90 = .ok (.iload 7, 2) := by decide +kernel
theorem dX5_putsNumber_92 : decode cX5_putsNumber 92 = .ok (.ifCond .lt 23, 3) := by decide +kernel
theorem dX5_putsNumber_95 : decode cX5_putsNumber 95 = .ok (.aload_n 0, 1) := by decide +kernel
theorem dX5_putsNumber_96 : decode cX5_putsNumber 96 = .ok (.bipush 48, 2) := by decide +kernel
theorem dX5_putsNumber_98 : decode cX5_putsNumber 98 = .ok (.aload_n 0, 1) := by decide +kernel
theorem dX5_putsNumber_99 : decode cX5_putsNumber 99 = .ok (.getfield 49, 3) := by decide +kernel
theorem dX5_putsNumber_102 : decode cX5_putsNumber 102 = .ok (.iload 7, 2) := by decide +kernel
theorem dX5_putsNumber_104 : decode cX5_putsNumber 104 = .ok (.iaload, 1) := by decide +kernel
theorem dX5_putsNumber_105 : decode cX5_putsNumber 105 = .ok (.iadd, 1) := by decide +kernel
theorem dX5_putsNumber_106 : decode cX5_putsNumber 106 = .ok (.invokevirtual 219, 3) := by decide +kernel
theorem dX5_putsNumber_109 : decode cX5_putsNumber 109 = .ok (.iinc 7 (-1), 3) := by decide +kernel
theorem dX5_putsNumber_112 : decode cX5_putsNumber 112 = .ok (.goto (-22), 3) := by decide +kernel
theorem dX5_putsNumber_115 : decode cX5_putsNumber 115 = .ok (.return_, 1) := by decide +kernel
theorem dX5_shown_0 : decode cX5_shown 0 = .ok (.iload_n 0, 1) := by decide +kernel
theorem dX5_shown_1 : decode cX5_shown 1 = .ok (.bipush 10, 2) := by decide +kernel
theorem dX5_shown_3 : decode cX5_shown 3 = .ok (.if_icmp .ge 10, 3) := by decide +kernel
theorem dX5_shown_6 : decode cX5_shown 6 = .ok (.bipush 48, 2) := by decide +kernel
theorem dX5_shown_8 : decode cX5_shown 8 = .ok (.iload_n 0, 1) := by decide +kernel
theorem dX5_shown_9 : decode cX5_shown 9 = .ok (.iadd, 1) := by decide +kernel
theorem dX5_shown_10 : decode cX5_shown 10 = .ok (.goto 10, 3) := by decide +kernel
theorem dX5_shown_13 : decode cX5_shown 13 = .ok (.bipush 97, 2) := by decide +kernel
theorem dX5_shown_15 : decode cX5_shown 15 = .ok (.iload_n 0, 1) := by decide +kernel
theorem dX5_shown_16 : decode cX5_shown 16 = .ok (.iadd, 1) := by decide +kernel
theorem dX5_shown_17 : decode cX5_shown 17 = .ok (.bipush 10, 2) := by decide +kernel
theorem dX5_shown_19 : decode cX5_shown 19 = .ok (.isub, 1) := by decide +kernel
theorem dX5_shown_20 : decode cX5_shown 20 = .ok (.ireturn, 1) := by decide +kernel
theorem dX5_putsString_0 : decode cX5_putsString 0 = .ok (.aload_n 0, 1) := by decide +kernel
theorem dX5_putsString_1 : decode cX5_putsString 1 = .ok (.bipush 34, 2) := by decide +kernel
theorem dX5_putsString_3 : decode cX5_putsString 3 = .ok (.invokevirtual 219, 3) := by decide +kernel
theorem dX5_putsString_6 : decode cX5_putsString 6 = .ok (.iconst 0, 1) := by decide +kernel
theorem dX5_putsString_7 : decode cX5_putsString 7 = .ok (.istore_n 2, 1) := by decide +kernel
theorem dX5_putsString_8 : decode cX5_putsString 8 = .ok (.iload_n 2, 1) := by decide +kernel
theorem dX5_putsString_9 : decode cX5_putsString 9 = .ok (.aload_n 0, 1) := by decide +kernel
theorem dX5_putsString_10 : decode cX5_putsString 10 = .ok (.getfield 30, 3) := by decide +kernel
theorem dX5_putsString_13 : decode cX5_putsString 13 = .ok (.iload_n 1, 1) := by decide +kernel
theorem dX5_putsString_14 : decode cX5_putsString 14 = .ok (.laload, 1) := by decide +kernel
theorem dX5_putsString_15 : decode cX5_putsString 15 = .ok (.l2i, 1) := by decide +kernel
theorem dX5_putsString_16 : decode cX5_putsString 16 = .ok (.if_icmp .ge 163, 3) := by decide +kernel
theorem dX5_putsString_19 : decode cX5_putsString 19 = .ok (.aload_n 0, 1) := by decide +kernel
theorem dX5_putsString_20 : decode cX5_putsString 20 = .ok (.getfield 37, 3) := by decide +kernel
theorem dX5_putsString_23 : decode cX5_putsString 23 = .ok (.aload_n 0, 1) := by decide +kernel
theorem dX5_putsString_24 : decode cX5_putsString 24 = .ok (.getfield 34, 3) := by decide +kernel
theorem dX5_putsString_27 : decode cX5_putsString 27 = .ok (.iload_n 1, 1) := by decide +kernel
theorem dX5_putsString_28 : decode cX5_putsString 28 = .ok (.iaload, 1) := by decide +kernel
theorem dX5_putsString_29 : decode cX5_putsString 29 = .ok (.iload_n 2, 1) := by decide +kernel
theorem dX5_putsString_30 : decode cX5_putsString 30 = .ok (.iadd, 1) := by decide +kernel
theorem dX5_putsString_31 : decode cX5_putsString 31 = .ok (.baload, 1) := by decide +kernel
theorem dX5_putsString_32 : decode cX5_putsString 32 = .ok (.istore_n 3, 1) := by decide +kernel
theorem dX5_putsString_33 : decode cX5_putsString 33 = .ok (.iload_n 3, 1) := by decide +kernel
theorem dX5_putsString_34 : decode cX5_putsString 34 = .ok (.bipush 34, 2) := by decide +kernel
theorem dX5_putsString_36 : decode cX5_putsString 36 = .ok (.if_icmp .eq 9, 3) := by decide +kernel
theorem dX5_putsString_39 : decode cX5_putsString 39 = .ok (.iload_n 3, 1) := by decide +kernel
theorem dX5_putsString_40 : decode cX5_putsString 40 = .ok (.bipush 92, 2) := by decide +kernel
theorem dX5_putsString_42 : decode cX5_putsString 42 = .ok (.if_icmp .ne 7, 3) := by decide +kernel
theorem dX5_putsString_45 : decode cX5_putsString 45 = .ok (.iload_n 3, 1) := by decide +kernel
theorem dX5_putsString_46 : decode cX5_putsString 46 = .ok (.goto 59, 3) := by decide +kernel
theorem dX5_putsString_49 : decode cX5_putsString 49 = .ok (.iload_n 3, 1) := by decide +kernel
theorem dX5_putsString_50 : decode cX5_putsString 50 = .ok (.bipush 8, 2) := by decide +kernel
theorem dX5_putsString_52 : decode cX5_putsString 52 = .ok (.if_icmp .ne 8, 3) := by decide +kernel
theorem dX5_putsString_55 : decode cX5_putsString 55 = .ok (.bipush 98, 2) := by decide +kernel
theorem dX5_putsString_57 : decode cX5_putsString 57 = .ok (.goto 48, 3) := by decide +kernel
theorem dX5_putsString_60 : decode cX5_putsString 60 = .ok (.iload_n 3, 1) := by decide +kernel
theorem dX5_putsString_61 : decode cX5_putsString 61 = .ok (.bipush 9, 2) := by decide +kernel
theorem dX5_putsString_63 : decode cX5_putsString 63 = .ok (.if_icmp .ne 8, 3) := by decide +kernel
theorem dX5_putsString_66 : decode cX5_putsString 66 = .ok (.bipush 116, 2) := by decide +kernel
theorem dX5_putsString_68 : decode cX5_putsString 68 = .ok (.goto 37, 3) := by decide +kernel
theorem dX5_putsString_71 : decode cX5_putsString 71 = .ok (.iload_n 3, 1) := by decide +kernel
theorem dX5_putsString_72 : decode cX5_putsString 72 = .ok (.bipush 10, 2) := by decide +kernel
theorem dX5_putsString_74 : decode cX5_putsString 74 = .ok (.if_icmp .ne 8, 3) := by decide +kernel
theorem dX5_putsString_77 : decode cX5_putsString 77 = .ok (.bipush 110, 2) := by decide +kernel
theorem dX5_putsString_79 : decode cX5_putsString 79 = .ok (.goto 26, 3) := by decide +kernel
theorem dX5_putsString_82 : decode cX5_putsString 82 = .ok (.iload_n 3, 1) := by decide +kernel
theorem dX5_putsString_83 : decode cX5_putsString 83 = .ok (.bipush 12, 2) := by decide +kernel
theorem dX5_putsString_85 : decode cX5_putsString 85 = .ok (.if_icmp .ne 8, 3) := by decide +kernel
theorem dX5_putsString_88 : decode cX5_putsString 88 = .ok (.bipush 102, 2) := by decide +kernel
theorem dX5_putsString_90 : decode cX5_putsString 90 = .ok (.goto 15, 3) := by decide +kernel
theorem dX5_putsString_93 : decode cX5_putsString 93 = .ok (.iload_n 3, 1) := by decide +kernel
theorem dX5_putsString_94 : decode cX5_putsString 94 = .ok (.bipush 13, 2) := by decide +kernel
theorem dX5_putsString_96 : decode cX5_putsString 96 = .ok (.if_icmp .ne 8, 3) := by decide +kernel
theorem dX5_putsString_99 : decode cX5_putsString 99 = .ok (.bipush 114, 2) := by decide +kernel
theorem dX5_putsString_101 : decode cX5_putsString 101 = .ok (.goto 4, 3) := by decide +kernel
theorem dX5_putsString_104 : decode cX5_putsString 104 = .ok (.iconst 0, 1) := by decide +kernel
theorem dX5_putsString_105 : decode cX5_putsString 105 = .ok (.istore 4, 2) := by decide +kernel
theorem dX5_putsString_107 : decode cX5_putsString 107 = .ok (.iload 4, 2) := by decide +kernel
theorem dX5_putsString_109 : decode cX5_putsString 109 = .ok (.ifCond .le 18, 3) := by decide +kernel
theorem dX5_putsString_112 : decode cX5_putsString 112 = .ok (.aload_n 0, 1) := by decide +kernel
theorem dX5_putsString_113 : decode cX5_putsString 113 = .ok (.bipush 92, 2) := by decide +kernel
theorem dX5_putsString_115 : decode cX5_putsString 115 = .ok (.invokevirtual 219, 3) := by decide +kernel
theorem dX5_putsString_118 : decode cX5_putsString 118 = .ok (.aload_n 0, 1) := by decide +kernel
theorem dX5_putsString_119 : decode cX5_putsString 119 = .ok (.iload 4, 2) := by decide +kernel
theorem dX5_putsString_121 : decode cX5_putsString 121 = .ok (.invokevirtual 219, 3) := by decide +kernel
theorem dX5_putsString_124 : decode cX5_putsString 124 = .ok (.goto 49, 3) := by decide +kernel
theorem dX5_putsString_127 : decode cX5_putsString 127 = .ok (.iload_n 3, 1) := by decide +kernel
theorem dX5_putsString_128 : decode cX5_putsString 128 = .ok (.ifCond .lt 40, 3) := by decide +kernel
theorem dX5_putsString_131 : decode cX5_putsString 131 = .ok (.iload_n 3, 1) := by decide +kernel
theorem dX5_putsString_132 : decode cX5_putsString 132 = .ok (.bipush 32, 2) := by decide +kernel
theorem dX5_putsString_134 : decode cX5_putsString 134 = .ok (.if_icmp .ge 34, 3) := by decide +kernel
theorem dX5_putsString_137 : decode cX5_putsString 137 = .ok (.aload_n 0, 1) := by decide +kernel
theorem dX5_putsString_138 : decode cX5_putsString 138 = .ok (.ldc 240, 2) := by decide +kernel
theorem dX5_putsString_140 : decode cX5_putsString 140 = .ok (.invokevirtual 234, 3) := by decide +kernel
theorem dX5_putsString_143 : decode cX5_putsString 143 = .ok (.aload_n 0, 1) := by decide +kernel
theorem dX5_putsString_144 : decode cX5_putsString 144 = .ok (.iload_n 3, 1) := by decide +kernel
theorem dX5_putsString_145 : decode cX5_putsString 145 = .ok (.bipush 16, 2) := by decide +kernel
theorem dX5_putsString_147 : decode cX5_putsString 147 = .ok (.idiv, 1) := by decide +kernel
theorem dX5_putsString_148 : decode cX5_putsString 148 = .ok (.invokestatic 242, 3) := by decide +kernel
theorem dX5_putsString_151 : decode cX5_putsString 151 = .ok (.invokevirtual 219, 3) := by decide +kernel
theorem dX5_putsString_154 : decode cX5_putsString 154 = .ok (.aload_n 0, 1) := by decide +kernel
theorem dX5_putsString_155 : decode cX5_putsString 155 = .ok (.iload_n 3, 1) := by decide +kernel
theorem dX5_putsString_156 : decode cX5_putsString 156 = .ok (.bipush 16, 2) := by decide +kernel
theorem dX5_putsString_158 : decode cX5_putsString 158 = .ok (.irem, 1) := by decide +kernel
theorem dX5_putsString_159 : decode cX5_putsString 159 = .ok (.invokestatic 242, 3) := by decide +kernel
theorem dX5_putsString_162 : decode cX5_putsString 162 = .ok (.invokevirtual 219, 3) := by decide +kernel
theorem dX5_putsString_165 : decode cX5_putsString 165 = .ok (.goto 8, 3) := by decide +kernel
theorem dX5_putsString_168 : decode cX5_putsString 168 = .ok (.aload_n 0, 1) := by decide +kernel
theorem dX5_putsString_169 : decode cX5_putsString 169 = .ok (.iload_n 3, 1) := by decide +kernel
theorem dX5_putsString_170 : decode cX5_putsString 170 = .ok (.invokevirtual 219, 3) := by decide +kernel
theorem dX5_putsString_173 : decode cX5_putsString 173 = .ok (.iinc 2 1, 3) := by decide +kernel
theorem dX5_putsString_176 : decode cX5_putsString 176 = .ok (.goto (-168), 3) := by decide +kernel
theorem dX5_putsString_179 : decode cX5_putsString 179 = .ok (.aload_n 0, 1) := by decide +kernel
theorem dX5_putsString_180 : decode cX5_putsString 180 = .ok (.bipush 34, 2) := by decide +kernel
theorem dX5_putsString_182 : decode cX5_putsString 182 = .ok (.invokevirtual 219, 3) := by decide +kernel
theorem dX5_putsString_185 : decode cX5_putsString 185 = .ok (.return_, 1) := by decide +kernel
theorem dX5_putsThing_0 : decode cX5_putsThing 0 = .ok (.aload_n 0, 1) := by decide +kernel
theorem dX5_putsThing_1 : decode cX5_putsThing 1 = .ok (.getfield 27, 3) := by decide +kernel
theorem dX5_putsThing_4 : decode cX5_putsThing 4 = .ok (.iload_n 1, 1) := by decide +kernel
theorem dX5_putsThing_5 : decode cX5_putsThing 5 = .ok (.iaload, 1) := by decide +kernel
theorem dX5_putsThing_6 : decode cX5_putsThing 6 = .ok (.tableswitch 133 0 7 #[46, 60, 133, 80, 133, 133, 133, 88], 46) := by decide +kernel
theorem dX5_putsThing_52 : decode cX5_putsThing 52 = .ok (.aload_n 0, 1) := by decide +kernel
theorem dX5_putsThing_53 : decode cX5_putsThing 53 = .ok (.aload_n 0, 1) := by decide +kernel
theorem dX5_putsThing_54 : decode cX5_putsThing 54 = .ok (.getfield 30, 3) := by decide +kernel
theorem dX5_putsThing_57 : decode cX5_putsThing 57 = .ok (.iload_n 1, 1) := by decide +kernel
theorem dX5_putsThing_58 : decode cX5_putsThing 58 = .ok (.laload, 1) := by decide +kernel
theorem dX5_putsThing_59 : decode cX5_putsThing 59 = .ok (.iconst 0, 1) := by decide +kernel
theorem dX5_putsThing_60 : decode cX5_putsThing 60 = .ok (.invokevirtual 245, 3) := by decide +kernel
theorem dX5_putsThing_63 : decode cX5_putsThing 63 = .ok (.goto 155, 3) := by decide +kernel
theorem dX5_putsThing_66 : decode cX5_putsThing 66 = .ok (.aload_n 0, 1) := by decide +kernel
theorem dX5_putsThing_67 : decode cX5_putsThing 67 = .ok (.bipush 45, 2) := by decide +kernel
theorem dX5_putsThing_69 : decode cX5_putsThing 69 = .ok (.invokevirtual 219, 3) := by decide +kernel
theorem dX5_putsThing_72 : decode cX5_putsThing 72 = .ok (.aload_n 0, 1) := by decide +kernel
theorem dX5_putsThing_73 : decode cX5_putsThing 73 = .ok (.aload_n 0, 1) := by decide +kernel
theorem dX5_putsThing_74 : decode cX5_putsThing 74 = .ok (.getfield 30, 3) := by decide +kernel
theorem dX5_putsThing_77 : decode cX5_putsThing 77 = .ok (.iload_n 1, 1) := by decide +kernel
theorem dX5_putsThing_78 : decode cX5_putsThing 78 = .ok (.laload, 1) := by decide +kernel
theorem dX5_putsThing_79 : decode cX5_putsThing 79 = .ok (.iconst 1, 1) := by decide +kernel
theorem dX5_putsThing_80 : decode cX5_putsThing 80 = .ok (.invokevirtual 245, 3) := by decide +kernel
theorem dX5_putsThing_83 : decode cX5_putsThing 83 = .ok (.goto 135, 3) := by decide +kernel
theorem dX5_putsThing_86 : decode cX5_putsThing 86 = .ok (.aload_n 0, 1) := by decide +kernel
theorem dX5_putsThing_87 : decode cX5_putsThing 87 = .ok (.iload_n 1, 1) := by decide +kernel
theorem dX5_putsThing_88 : decode cX5_putsThing 88 = .ok (.invokevirtual 249, 3) := by decide +kernel
theorem dX5_putsThing_91 : decode cX5_putsThing 91 = .ok (.goto 127, 3) := by decide +kernel
theorem dX5_putsThing_94 : decode cX5_putsThing 94 = .ok (.aload_n 0, 1) := by decide +kernel
theorem dX5_putsThing_95 : decode cX5_putsThing 95 = .ok (.aload_n 0, 1) := by decide +kernel
theorem dX5_putsThing_96 : decode cX5_putsThing 96 = .ok (.getfield 30, 3) := by decide +kernel
theorem dX5_putsThing_99 : decode cX5_putsThing 99 = .ok (.iload_n 1, 1) := by decide +kernel
theorem dX5_putsThing_100 : decode cX5_putsThing 100 = .ok (.laload, 1) := by decide +kernel
theorem dX5_putsThing_101 : decode cX5_putsThing 101 = .ok (.ldc2_w 252, 3) := by decide +kernel
theorem dX5_putsThing_104 : decode cX5_putsThing 104 = .ok (.lcmp, 1) := by decide +kernel
theorem dX5_putsThing_105 : decode cX5_putsThing 105 = .ok (.ifCond .ne 8, 3) := by decide +kernel
theorem dX5_putsThing_108 : decode cX5_putsThing 108 = .ok (.ldc 161, 2) := by decide +kernel
theorem dX5_putsThing_110 : decode cX5_putsThing 110 = .ok (.goto 23, 3) := by decide +kernel
theorem dX5_putsThing_113 : decode cX5_putsThing 113 = .ok (.aload_n 0, 1) := by decide +kernel
theorem dX5_putsThing_114 : decode cX5_putsThing 114 = .ok (.getfield 30, 3) := by decide +kernel
theorem dX5_putsThing_117 : decode cX5_putsThing 117 = .ok (.iload_n 1, 1) := by decide +kernel
theorem dX5_putsThing_118 : decode cX5_putsThing 118 = .ok (.laload, 1) := by decide +kernel
theorem dX5_putsThing_119 : decode cX5_putsThing 119 = .ok (.ldc2_w 254, 3) := by decide +kernel
theorem dX5_putsThing_122 : decode cX5_putsThing 122 = .ok (.lcmp, 1) := by decide +kernel
theorem dX5_putsThing_123 : decode cX5_putsThing 123 = .ok (.ifCond .ne 8, 3) := by decide +kernel
theorem dX5_putsThing_126 : decode cX5_putsThing 126 = .ok (.ldc 167, 2) := by decide +kernel
theorem dX5_putsThing_128 : decode cX5_putsThing 128 = .ok (.goto 5, 3) := by decide +kernel
theorem dX5_putsThing_131 : decode cX5_putsThing 131 = .ok (.ldc 169, 2) := by decide +kernel
theorem dX5_putsThing_133 : decode cX5_putsThing 133 = .ok (.invokevirtual 234, 3) := by decide +kernel
theorem dX5_putsThing_136 : decode cX5_putsThing 136 = .ok (.goto 82, 3) := by decide +kernel
theorem dX5_putsThing_139 : decode cX5_putsThing 139 = .ok (.aload_n 0, 1) := by decide +kernel
theorem dX5_putsThing_140 : decode cX5_putsThing 140 = .ok (.aload_n 0, 1) := by decide +kernel
theorem dX5_putsThing_141 : decode cX5_putsThing 141 = .ok (.getfield 27, 3) := by decide +kernel
theorem dX5_putsThing_144 : decode cX5_putsThing 144 = .ok (.iload_n 1, 1) := by decide +kernel
theorem dX5_putsThing_145 : decode cX5_putsThing 145 = .ok (.iaload, 1) := by decide +kernel
theorem dX5_putsThing_146 : decode cX5_putsThing 146 = .ok (.iconst 5, 1) := by decide +kernel
theorem dX5_putsThing_147 : decode cX5_putsThing 147 = .ok (.if_icmp .ne 8, 3) := by decide +kernel
theorem dX5_putsThing_150 : decode cX5_putsThing 150 = .ok (.bipush 123, 2) := by decide +kernel
theorem dX5_putsThing_152 : decode cX5_putsThing 152 = .ok (.goto 5, 3) := by decide +kernel
theorem dX5_putsThing_155 : decode cX5_putsThing 155 = .ok (.bipush 91, 2) := by decide +kernel
theorem dX5_putsThing_157 : decode cX5_putsThing 157 = .ok (.invokevirtual 219, 3) := by decide +kernel
theorem dX5_putsThing_160 : decode cX5_putsThing 160 = .ok (.aload_n 0, 1) := by decide +kernel
theorem dX5_putsThing_161 : decode cX5_putsThing 161 = .ok (.getfield 40, 3) := by decide +kernel
theorem dX5_putsThing_164 : decode cX5_putsThing 164 = .ok (.aload_n 0, 1) := by decide +kernel
theorem dX5_putsThing_165 : decode cX5_putsThing 165 = .ok (.getfield 73, 3) := by decide +kernel
theorem dX5_putsThing_168 : decode cX5_putsThing 168 = .ok (.iload_n 1, 1) := by decide +kernel
theorem dX5_putsThing_169 : decode cX5_putsThing 169 = .ok (.iastore, 1) := by decide +kernel
theorem dX5_putsThing_170 : decode cX5_putsThing 170 = .ok (.aload_n 0, 1) := by decide +kernel
theorem dX5_putsThing_171 : decode cX5_putsThing 171 = .ok (.getfield 43, 3) := by decide +kernel
theorem dX5_putsThing_174 : decode cX5_putsThing 174 = .ok (.aload_n 0, 1) := by decide +kernel
theorem dX5_putsThing_175 : decode cX5_putsThing 175 = .ok (.getfield 73, 3) := by decide +kernel
theorem dX5_putsThing_178 : decode cX5_putsThing 178 = .ok (.aload_n 0, 1) := by decide +kernel
theorem dX5_putsThing_179 : decode cX5_putsThing 179 = .ok (.getfield 27, 3) := by decide +kernel
theorem dX5_putsThing_182 : decode cX5_putsThing 182 = .ok (.iload_n 1, 1) := by decide +kernel
theorem dX5_putsThing_183 : decode cX5_putsThing 183 = .ok (.iaload, 1) := by decide +kernel
theorem dX5_putsThing_184 : decode cX5_putsThing 184 = .ok (.iconst 5, 1) := by decide +kernel
theorem dX5_putsThing_185 : decode cX5_putsThing 185 = .ok (.if_icmp .ne 16, 3) := by decide +kernel
theorem dX5_putsThing_188 : decode cX5_putsThing 188 = .ok (.ldc2_w 210, 3) := by decide +kernel
theorem dX5_putsThing_191 : decode cX5_putsThing 191 = .ok (.aload_n 0, 1) := by decide +kernel
theorem dX5_putsThing_192 : decode cX5_putsThing 192 = .ok (.getfield 30, 3) := by decide +kernel
theorem dX5_putsThing_195 : decode cX5_putsThing 195 = .ok (.iload_n 1, 1) := by decide +kernel
theorem dX5_putsThing_196 : decode cX5_putsThing 196 = .ok (.laload, 1) := by decide +kernel
theorem dX5_putsThing_197 : decode cX5_putsThing 197 = .ok (.lmul, 1) := by decide +kernel
theorem dX5_putsThing_198 : decode cX5_putsThing 198 = .ok (.goto 9, 3) := by decide +kernel
theorem dX5_putsThing_201 : decode cX5_putsThing 201 = .ok (.aload_n 0, 1) := by decide +kernel
theorem dX5_putsThing_202 : decode cX5_putsThing 202 = .ok (.getfield 30, 3) := by decide +kernel
theorem dX5_putsThing_205 : decode cX5_putsThing 205 = .ok (.iload_n 1, 1) := by decide +kernel
theorem dX5_putsThing_206 : decode cX5_putsThing 206 = .ok (.laload, 1) := by decide +kernel
theorem dX5_putsThing_207 : decode cX5_putsThing 207 = .ok (.lastore, 1) := by decide +kernel
theorem dX5_putsThing_208 : decode cX5_putsThing 208 = .ok (.aload_n 0, 1) := by decide +kernel
theorem dX5_putsThing_209 : decode cX5_putsThing 209 = .ok (.dup, 1) := by decide +kernel
theorem dX5_putsThing_210 : decode cX5_putsThing 210 = .ok (.getfield 73, 3) := by decide +kernel
theorem dX5_putsThing_213 : decode cX5_putsThing 213 = .ok (.iconst 1, 1) := by decide +kernel
theorem dX5_putsThing_214 : decode cX5_putsThing 214 = .ok (.iadd, 1) := by decide +kernel
theorem dX5_putsThing_215 : decode cX5_putsThing 215 = .ok (.putfield 73, 3) := by decide +kernel
theorem dX5_putsThing_218 : decode cX5_putsThing 218 = .ok (.return_, 1) := by decide +kernel
theorem dX5_writesJson_0 : decode cX5_writesJson 0 = .ok (.aload_n 0, 1) := by decide +kernel
theorem dX5_writesJson_1 : decode cX5_writesJson 1 = .ok (.iconst 0, 1) := by decide +kernel
theorem dX5_writesJson_2 : decode cX5_writesJson 2 = .ok (.putfield 212, 3) := by decide +kernel
theorem dX5_writesJson_5 : decode cX5_writesJson 5 = .ok (.aload_n 0, 1) := by decide +kernel
theorem dX5_writesJson_6 : decode cX5_writesJson 6 = .ok (.iconst 0, 1) := by decide +kernel
theorem dX5_writesJson_7 : decode cX5_writesJson 7 = .ok (.putfield 73, 3) := by decide +kernel
theorem dX5_writesJson_10 : decode cX5_writesJson 10 = .ok (.iconst 0, 1) := by decide +kernel
theorem dX5_writesJson_11 : decode cX5_writesJson 11 = .ok (.istore_n 1, 1) := by decide +kernel
theorem dX5_writesJson_12 : decode cX5_writesJson 12 = .ok (.iload_n 1, 1) := by decide +kernel
theorem dX5_writesJson_13 : decode cX5_writesJson 13 = .ok (.aload_n 0, 1) := by decide +kernel
theorem dX5_writesJson_14 : decode cX5_writesJson 14 = .ok (.getfield 67, 3) := by decide +kernel
theorem dX5_writesJson_17 : decode cX5_writesJson 17 = .ok (.if_icmp .ge 228, 3) := by decide +kernel
theorem dX5_writesJson_20 : decode cX5_writesJson 20 = .ok (.aload_n 0, 1) := by decide +kernel
theorem dX5_writesJson_21 : decode cX5_writesJson 21 = .ok (.getfield 73, 3) := by decide +kernel
theorem dX5_writesJson_24 : decode cX5_writesJson 24 = .ok (.ifCond .le 145, 3) := by decide +kernel
theorem dX5_writesJson_27 : decode cX5_writesJson 27 = .ok (.aload_n 0, 1) := by decide +kernel
theorem dX5_writesJson_28 : decode cX5_writesJson 28 = .ok (.getfield 40, 3) := by decide +kernel
theorem dX5_writesJson_31 : decode cX5_writesJson 31 = .ok (.aload_n 0, 1) := by decide +kernel
theorem dX5_writesJson_32 : decode cX5_writesJson 32 = .ok (.getfield 73, 3) := by decide +kernel
theorem dX5_writesJson_35 : decode cX5_writesJson 35 = .ok (.iconst 1, 1) := by decide +kernel
theorem dX5_writesJson_36 : decode cX5_writesJson 36 = .ok (.isub, 1) := by decide +kernel
theorem dX5_writesJson_37 : decode cX5_writesJson 37 = .ok (.iaload, 1) := by decide +kernel
theorem dX5_writesJson_38 : decode cX5_writesJson 38 = .ok (.istore_n 2, 1) := by decide +kernel
theorem dX5_writesJson_39 : decode cX5_writesJson 39 = .ok (.aload_n 0, 1) := by decide +kernel
theorem dX5_writesJson_40 : decode cX5_writesJson 40 = .ok (.getfield 27, 3) := by decide +kernel
theorem dX5_writesJson_43 : decode cX5_writesJson 43 = .ok (.iload_n 2, 1) := by decide +kernel
theorem dX5_writesJson_44 : decode cX5_writesJson 44 = .ok (.iaload, 1) := by decide +kernel
theorem dX5_writesJson_45 : decode cX5_writesJson 45 = .ok (.iconst 5, 1) := by decide +kernel
theorem dX5_writesJson_46 : decode cX5_writesJson 46 = .ok (.if_icmp .ne 7, 3) := by decide +kernel
theorem dX5_writesJson_49 : decode cX5_writesJson 49 = .ok (.iconst 1, 1) := by decide +kernel
theorem dX5_writesJson_50 : decode cX5_writesJson 50 = .ok (.goto 4, 3) := by decide +kernel
theorem dX5_writesJson_53 : decode cX5_writesJson 53 = .ok (.iconst 0, 1) := by decide +kernel
theorem dX5_writesJson_54 : decode cX5_writesJson 54 = .ok (.istore_n 3, 1) := by decide +kernel
theorem dX5_writesJson_55 : decode cX5_writesJson 55 = .ok (.iload_n 3, 1) := by decide +kernel
theorem dX5_writesJson_56 : decode cX5_writesJson 56 = .ok (.ifCond .eq 25, 3) := by decide +kernel
theorem dX5_writesJson_59 : decode cX5_writesJson 59 = .ok (.aload_n 0, 1) := by decide +kernel
theorem dX5_writesJson_60 : decode cX5_writesJson 60 = .ok (.getfield 43, 3) := by decide +kernel
theorem dX5_writesJson_63 : decode cX5_writesJson 63 = .ok (.aload_n 0, 1) := by decide +kernel
theorem dX5_writesJson_64 : decode cX5_writesJson 64 = .ok (.getfield 73, 3) := by decide +kernel
theorem dX5_writesJson_67 : decode cX5_writesJson 67 = .ok (.iconst 1, 1) := by decide +kernel
theorem dX5_writesJson_68 : decode cX5_writesJson 68 = .ok (.isub, 1) := by decide +kernel
theorem dX5_writesJson_69 : decode cX5_writesJson 69 = .ok (.laload, 1) := by decide +kernel
theorem dX5_writesJson_70 : decode cX5_writesJson 70 = .ok (.lconst 1, 1) := by decide +kernel
theorem dX5_writesJson_71 : decode cX5_writesJson 71 = .ok (.land, 1) := by decide +kernel
theorem dX5_writesJson_72 : decode cX5_writesJson 72 = .ok (.lconst 1, 1) := by decide +kernel
theorem dX5_writesJson_73 : decode cX5_writesJson 73 = .ok (.lcmp, 1) := by decide +kernel
theorem dX5_writesJson_74 : decode cX5_writesJson 74 = .ok (.ifCond .ne 7, 3) := by decide +kernel
theorem dX5_writesJson_77 : decode cX5_writesJson 77 = .ok (.iconst 1, 1) := by decide +kernel
theorem dX5_writesJson_78 : decode cX5_writesJson 78 = .ok (.goto 4, 3) := by decide +kernel
theorem dX5_writesJson_81 : decode cX5_writesJson 81 = .ok (.iconst 0, 1) := by decide +kernel
theorem dX5_writesJson_82 : decode cX5_writesJson 82 = .ok (.istore 4, 2) := by decide +kernel
theorem dX5_writesJson_84 : decode cX5_writesJson 84 = .ok (.aload_n 0, 1) := by decide +kernel
theorem dX5_writesJson_85 : decode cX5_writesJson 85 = .ok (.getfield 43, 3) := by decide +kernel
theorem dX5_writesJson_88 : decode cX5_writesJson 88 = .ok (.aload_n 0, 1) := by decide +kernel
theorem dX5_writesJson_89 : decode cX5_writesJson 89 = .ok (.getfield 73, 3) := by decide +kernel
theorem dX5_writesJson_92 : decode cX5_writesJson 92 = .ok (.iconst 1, 1) := by decide +kernel
theorem dX5_writesJson_93 : decode cX5_writesJson 93 = .ok (.isub, 1) := by decide +kernel
theorem dX5_writesJson_94 : decode cX5_writesJson 94 = .ok (.laload, 1) := by decide +kernel
theorem dX5_writesJson_95 : decode cX5_writesJson 95 = .ok (.iload_n 3, 1) := by decide +kernel
theorem dX5_writesJson_96 : decode cX5_writesJson 96 = .ok (.ifCond .eq 16, 3) := by decide +kernel
theorem dX5_writesJson_99 : decode cX5_writesJson 99 = .ok (.ldc2_w 210, 3) := by decide +kernel
theorem dX5_writesJson_102 : decode cX5_writesJson 102 = .ok (.aload_n 0, 1) := by decide +kernel
theorem dX5_writesJson_103 : decode cX5_writesJson 103 = .ok (.getfield 30, 3) := by decide +kernel
theorem dX5_writesJson_106 : decode cX5_writesJson 106 = .ok (.iload_n 2, 1) := by decide +kernel
theorem dX5_writesJson_107 : decode cX5_writesJson 107 = .ok (.laload, 1) := by decide +kernel
theorem dX5_writesJson_108 : decode cX5_writesJson 108 = .ok (.lmul, 1) := by decide +kernel
theorem dX5_writesJson_109 : decode cX5_writesJson 109 = .ok (.goto 9, 3) := by decide +kernel
theorem dX5_writesJson_112 : decode cX5_writesJson 112 = .ok (.aload_n 0, 1) := by decide +kernel
theorem dX5_writesJson_113 : decode cX5_writesJson 113 = .ok (.getfield 30, 3) := by decide +kernel
theorem dX5_writesJson_116 : decode cX5_writesJson 116 = .ok (.iload_n 2, 1) := by decide +kernel
theorem dX5_writesJson_117 : decode cX5_writesJson 117 = .ok (.laload, 1) := by decide +kernel
theorem dX5_writesJson_118 : decode cX5_writesJson 118 = .ok (.lcmp, 1) := by decide +kernel
theorem dX5_writesJson_119 : decode cX5_writesJson 119 = .ok (.ifCond .ne 7, 3) := by decide +kernel
theorem dX5_writesJson_122 : decode cX5_writesJson 122 = .ok (.iconst 1, 1) := by decide +kernel
theorem dX5_writesJson_123 : decode cX5_writesJson 123 = .ok (.goto 4, 3) := by decide +kernel
theorem dX5_writesJson_126 : decode cX5_writesJson 126 = .ok (.iconst 0, 1) := by decide +kernel
theorem dX5_writesJson_127 : decode cX5_writesJson 127 = .ok (.istore 5, 2) := by decide +kernel
theorem dX5_writesJson_129 : decode cX5_writesJson 129 = .ok (.iload 4, 2) := by decide +kernel
theorem dX5_writesJson_131 : decode cX5_writesJson 131 = .ok (.ifCond .eq 12, 3) := by decide +kernel
theorem dX5_writesJson_134 : decode cX5_writesJson 134 = .ok (.aload_n 0, 1) := by decide +kernel
theorem dX5_writesJson_135 : decode cX5_writesJson 135 = .ok (.bipush 58, 2) := by decide +kernel
theorem dX5_writesJson_137 : decode cX5_writesJson 137 = .ok (.invokevirtual 219, 3) := by decide +kernel
theorem dX5_writesJson_140 : decode cX5_writesJson 140 = .ok (.goto 14, 3) := by decide +kernel
theorem dX5_writesJson_143 : decode cX5_writesJson 143 = .ok (.iload 5, 2) := by decide +kernel
theorem dX5_writesJson_145 : decode cX5_writesJson 145 = .ok (.ifCond .ne 9, 3) := by decide +kernel
theorem dX5_writesJson_148 : decode cX5_writesJson 148 = .ok (.aload_n 0, 1) := by decide +kernel
theorem dX5_writesJson_149 : decode cX5_writesJson 149 = .ok (.bipush 44, 2) := by decide +kernel
theorem dX5_writesJson_151 : decode cX5_writesJson 151 = .ok (.invokevirtual 219, 3) := by decide +kernel
theorem dX5_writesJson_154 : decode cX5_writesJson 154 = .ok (.aload_n 0, 1) := by decide +kernel
theorem dX5_writesJson_155 : decode cX5_writesJson 155 = .ok (.getfield 43, 3) := by decide +kernel
theorem dX5_writesJson_158 : decode cX5_writesJson 158 = .ok (.aload_n 0, 1) := by decide +kernel
theorem dX5_writesJson_159 : decode cX5_writesJson 159 = .ok (.getfield 73, 3) := by decide +kernel
theorem dX5_writesJson_162 : decode cX5_writesJson 162 = .ok (.iconst 1, 1) := by decide +kernel
theorem dX5_writesJson_163 : decode cX5_writesJson 163 = .ok (.isub, 1) := by decide +kernel
theorem dX5_writesJson_164 : decode cX5_writesJson 164 = .ok (.dup2, 1) := by decide +kernel
theorem dX5_writesJson_165 : decode cX5_writesJson 165 = .ok (.laload, 1) := by decide +kernel
theorem dX5_writesJson_166 : decode cX5_writesJson 166 = .ok (.lconst 1, 1) := by decide +kernel
theorem dX5_writesJson_167 : decode cX5_writesJson 167 = .ok (.lsub, 1) := by decide +kernel
theorem dX5_writesJson_168 : decode cX5_writesJson 168 = .ok (.lastore, 1) := by decide +kernel
theorem dX5_writesJson_169 : decode cX5_writesJson 169 = .ok (.aload_n 0, 1) := by decide +kernel
theorem dX5_writesJson_170 : decode cX5_writesJson 170 = .ok (.iload_n 1, 1) := by decide +kernel
theorem dX5_writesJson_171 : decode cX5_writesJson 171 = .ok (.invokevirtual 256, 3) := by decide +kernel
theorem dX5_writesJson_174 : decode cX5_writesJson 174 = .ok (.aload_n 0, 1) := by decide +kernel
theorem dX5_writesJson_175 : decode cX5_writesJson 175 = .ok (.getfield 73, 3) := by decide +kernel
theorem dX5_writesJson_178 : decode cX5_writesJson 178 = .ok (.ifCond .le 61, 3) := by decide +kernel
theorem dX5_writesJson_181 : decode cX5_writesJson 181 = .ok (.aload_n 0, 1) := by decide +kernel
theorem dX5_writesJson_182 : decode cX5_writesJson 182 = .ok (.getfield 43, 3) := by decide +kernel
theorem dX5_writesJson_185 : decode cX5_writesJson 185 = .ok (.aload_n 0, 1) := by decide +kernel
theorem dX5_writesJson_186 : decode cX5_writesJson 186 = .ok (.getfield 73, 3) := by decide +kernel
theorem dX5_writesJson_189 : decode cX5_writesJson 189 = .ok (.iconst 1, 1) := by decide +kernel
theorem dX5_writesJson_190 : decode cX5_writesJson 190 = .ok (.isub, 1) := by decide +kernel
theorem dX5_writesJson_191 : decode cX5_writesJson 191 = .ok (.laload, 1) := by decide +kernel
theorem dX5_writesJson_192 : decode cX5_writesJson 192 = .ok (.lconst 0, 1) := by decide +kernel
theorem dX5_writesJson_193 : decode cX5_writesJson 193 = .ok (.lcmp, 1) := by decide +kernel
theorem dX5_writesJson_194 : decode cX5_writesJson 194 = .ok (.ifCond .ne 45, 3) := by decide +kernel
theorem dX5_writesJson_197 : decode cX5_writesJson 197 = .ok (.aload_n 0, 1) := by decide +kernel
theorem dX5_writesJson_198 : decode cX5_writesJson 198 = .ok (.dup, 1) := by decide +kernel
theorem dX5_writesJson_199 : decode cX5_writesJson 199 = .ok (.getfield 73, 3) := by decide +kernel
theorem dX5_writesJson_202 : decode cX5_writesJson 202 = .ok (.iconst 1, 1) := by decide +kernel
theorem dX5_writesJson_203 : decode cX5_writesJson 203 = .ok (.isub, 1) := by decide +kernel
theorem dX5_writesJson_204 : decode cX5_writesJson 204 = .ok (.putfield 73, 3) := by decide +kernel
theorem dX5_writesJson_207 : decode cX5_writesJson 207 = .ok (.aload_n 0, 1) := by decide +kernel
theorem dX5_writesJson_208 : decode cX5_writesJson 208 = .ok (.aload_n 0, 1) := by decide +kernel
theorem dX5_writesJson_209 : decode cX5_writesJson 209 = .ok (.getfield 27, 3) := by decide +kernel
theorem dX5_writesJson_212 : decode cX5_writesJson 212 = .ok (.aload_n 0, 1) := by decide +kernel
theorem dX5_writesJson_213 : decode cX5_writesJson 213 = .ok (.getfield 40, 3) := by decide +kernel
theorem dX5_writesJson_216 : decode cX5_writesJson 216 = .ok (.aload_n 0, 1) := by decide +kernel
theorem dX5_writesJson_217 : decode cX5_writesJson 217 = .ok (.getfield 73, 3) := by decide +kernel
theorem dX5_writesJson_220 : decode cX5_writesJson 220 = .ok (.iaload, 1) := by decide +kernel
theorem dX5_writesJson_221 : decode cX5_writesJson 221 = .ok (.iaload, 1) := by decide +kernel
theorem dX5_writesJson_222 : decode cX5_writesJson 222 = .ok (.iconst 5, 1) := by decide +kernel
theorem dX5_writesJson_223 : decode cX5_writesJson 223 = .ok (.if_icmp .ne 8, 3) := by decide +kernel
theorem dX5_writesJson_226 : decode cX5_writesJson 226 = .ok (.bipush 125, 2) := by decide +kernel
theorem dX5_writesJson_228 : decode cX5_writesJson 228 = .ok (.goto 5, 3) := by decide +kernel
theorem dX5_writesJson_231 : decode cX5_writesJson 231 = .ok (.bipush 93, 2) := by decide +kernel
theorem dX5_writesJson_233 : decode cX5_writesJson 233 = .ok (.invokevirtual 219, 3) := by decide +kernel
theorem dX5_writesJson_236 : decode cX5_writesJson 236 = .ok (.goto (-62), 3) := by decide +kernel
theorem dX5_writesJson_239 : decode cX5_writesJson 239 = .ok (.iinc 1 1, 3) := by decide +kernel
theorem dX5_writesJson_242 : decode cX5_writesJson 242 = .ok (.goto (-230), 3) := by decide +kernel
theorem dX5_writesJson_245 : decode cX5_writesJson 245 = .ok (.aload_n 0, 1) := by decide +kernel
theorem dX5_writesJson_246 : decode cX5_writesJson 246 = .ok (.invokevirtual 229, 3) := by decide +kernel
theorem dX5_writesJson_249 : decode cX5_writesJson 249 = .ok (.ireturn, 1) := by decide +kernel
theorem dX5_toCbor_0 : decode cX5_toCbor 0 = .ok (.aload_n 0, 1) := by decide +kernel
theorem dX5_toCbor_1 : decode cX5_toCbor 1 = .ok (.invokevirtual 259, 3) := by decide +kernel
theorem dX5_toCbor_4 : decode cX5_toCbor 4 = .ok (.aload_n 0, 1) := by decide +kernel
theorem dX5_toCbor_5 : decode cX5_toCbor 5 = .ok (.invokevirtual 262, 3) := by decide +kernel
theorem dX5_toCbor_8 : decode cX5_toCbor 8 = .ok (.aload_n 0, 1) := by decide +kernel
theorem dX5_toCbor_9 : decode cX5_toCbor 9 = .ok (.getfield 61, 3) := by decide +kernel
theorem dX5_toCbor_12 : decode cX5_toCbor 12 = .ok (.ifCond .le 11, 3) := by decide +kernel
theorem dX5_toCbor_15 : decode cX5_toCbor 15 = .ok (.aload_n 0, 1) := by decide +kernel
theorem dX5_toCbor_16 : decode cX5_toCbor 16 = .ok (.getfield 61, 3) := by decide +kernel
theorem dX5_toCbor_19 : decode cX5_toCbor 19 = .ok (.ineg, 1) := by decide +kernel
theorem dX5_toCbor_20 : decode cX5_toCbor 20 = .ok (.goto 7, 3) := by decide +kernel
theorem dX5_toCbor_23 : decode cX5_toCbor 23 = .ok (.aload_n 0, 1) := by decide +kernel
theorem dX5_toCbor_24 : decode cX5_toCbor 24 = .ok (.invokevirtual 265, 3) := by decide +kernel
theorem dX5_toCbor_27 : decode cX5_toCbor 27 = .ok (.ireturn, 1) := by decide +kernel
theorem dX5_toJson_0 : decode cX5_toJson 0 = .ok (.aload_n 0, 1) := by decide +kernel
theorem dX5_toJson_1 : decode cX5_toJson 1 = .ok (.invokevirtual 259, 3) := by decide +kernel
theorem dX5_toJson_4 : decode cX5_toJson 4 = .ok (.aload_n 0, 1) := by decide +kernel
theorem dX5_toJson_5 : decode cX5_toJson 5 = .ok (.invokevirtual 268, 3) := by decide +kernel
theorem dX5_toJson_8 : decode cX5_toJson 8 = .ok (.aload_n 0, 1) := by decide +kernel
theorem dX5_toJson_9 : decode cX5_toJson 9 = .ok (.getfield 61, 3) := by decide +kernel
theorem dX5_toJson_12 : decode cX5_toJson 12 = .ok (.ifCond .le 11, 3) := by decide +kernel
theorem dX5_toJson_15 : decode cX5_toJson 15 = .ok (.aload_n 0, 1) := by decide +kernel
theorem dX5_toJson_16 : decode cX5_toJson 16 = .ok (.getfield 61, 3) := by decide +kernel
theorem dX5_toJson_19 : decode cX5_toJson 19 = .ok (.ineg, 1) := by decide +kernel
theorem dX5_toJson_20 : decode cX5_toJson 20 = .ok (.goto 7, 3) := by decide +kernel
theorem dX5_toJson_23 : decode cX5_toJson 23 = .ok (.aload_n 0, 1) := by decide +kernel
theorem dX5_toJson_24 : decode cX5_toJson 24 = .ok (.invokevirtual 271, 3) := by decide +kernel
theorem dX5_toJson_27 : decode cX5_toJson 27 = .ok (.ireturn, 1) := by decide +kernel
