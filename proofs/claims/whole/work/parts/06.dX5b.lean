theorem dX5_four_43 : decode cX5_four 43 = .ok (.bipush 16, 2) := by decide +kernel
theorem dX5_four_45 : decode cX5_four 45 = .ok (.iload_n 2, 1) := by decide +kernel
theorem dX5_four_46 : decode cX5_four 46 = .ok (.imul, 1) := by decide +kernel
theorem dX5_four_47 : decode cX5_four 47 = .ok (.iload 4, 2) := by decide +kernel
theorem dX5_four_49 : decode cX5_four 49 = .ok (.iadd, 1) := by decide +kernel
theorem dX5_four_50 : decode cX5_four 50 = .ok (.istore_n 2, 1) := by decide +kernel
theorem dX5_four_51 : decode cX5_four 51 = .ok (.iinc 3 1, 3) := by decide +kernel
theorem dX5_four_54 : decode cX5_four 54 = .ok (.goto (-50), 3) := by decide +kernel
theorem dX5_four_57 : decode cX5_four 57 = .ok (.iload_n 2, 1) := by decide +kernel
theorem dX5_four_58 : decode cX5_four 58 = .ok (.ireturn, 1) := by decide +kernel
theorem dX5_coded_0 : decode cX5_coded 0 = .ok (.iconst 0, 1) := by decide +kernel
theorem dX5_coded_1 : decode cX5_coded 1 = .ok (.istore_n 2, 1) := by decide +kernel
theorem dX5_coded_2 : decode cX5_coded 2 = .ok (.iload_n 2, 1) := by decide +kernel
theorem dX5_coded_3 : decode cX5_coded 3 = .ok (.iconst 4, 1) := by decide +kernel
theorem dX5_coded_4 : decode cX5_coded 4 = .ok (.if_icmp .ge 34, 3) := by decide +kernel
theorem dX5_coded_7 : decode cX5_coded 7 = .ok (.aload_n 0, 1) := by decide +kernel
theorem dX5_coded_8 : decode cX5_coded 8 = .ok (.dup, 1) := by decide +kernel
theorem dX5_coded_9 : decode cX5_coded 9 = .ok (.getfield 64, 3) := by decide +kernel
theorem dX5_coded_12 : decode cX5_coded 12 = .ok (.iconst 1, 1) := by decide +kernel
theorem dX5_coded_13 : decode cX5_coded 13 = .ok (.iadd, 1) := by decide +kernel
theorem dX5_coded_14 : decode cX5_coded 14 = .ok (.putfield 64, 3) := by decide +kernel
theorem dX5_coded_17 : decode cX5_coded 17 = .ok (.aload_n 0, 1) := by decide +kernel
theorem dX5_coded_18 : decode cX5_coded 18 = .ok (.invokevirtual 86, 3) := by decide +kernel
theorem dX5_coded_21 : decode cX5_coded 21 = .ok (.invokestatic 129, 3) := by decide +kernel
theorem dX5_coded_24 : decode cX5_coded 24 = .ok (.ifCond .ge 8, 3) := by decide +kernel
theorem dX5_coded_27 : decode cX5_coded 27 = .ok (.aload_n 0, 1) := by decide +kernel
theorem dX5_coded_28 : decode cX5_coded 28 = .ok (.invokevirtual 98, 3) := by decide +kernel
theorem dX5_coded_31 : decode cX5_coded 31 = .ok (.ireturn, 1) := by decide +kernel
theorem dX5_coded_32 : decode cX5_coded 32 = .ok (.iinc 2 1, 3) := by decide +kernel
theorem dX5_coded_35 : decode cX5_coded 35 = .ok (.goto (-33), 3) := by decide +kernel
theorem dX5_coded_38 : decode cX5_coded 38 = .ok (.aload_n 0, 1) := by decide +kernel
theorem dX5_coded_39 : decode cX5_coded 39 = .ok (.dup, 1) := by decide +kernel
theorem dX5_coded_40 : decode cX5_coded 40 = .ok (.getfield 64, 3) := by decide +kernel
theorem dX5_coded_43 : decode cX5_coded 43 = .ok (.iconst 1, 1) := by decide +kernel
theorem dX5_coded_44 : decode cX5_coded 44 = .ok (.iadd, 1) := by decide +kernel
theorem dX5_coded_45 : decode cX5_coded 45 = .ok (.putfield 64, 3) := by decide +kernel
theorem dX5_coded_48 : decode cX5_coded 48 = .ok (.aload_n 0, 1) := by decide +kernel
theorem dX5_coded_49 : decode cX5_coded 49 = .ok (.iload_n 1, 1) := by decide +kernel
theorem dX5_coded_50 : decode cX5_coded 50 = .ok (.iconst 2, 1) := by decide +kernel
theorem dX5_coded_51 : decode cX5_coded 51 = .ok (.iadd, 1) := by decide +kernel
theorem dX5_coded_52 : decode cX5_coded 52 = .ok (.invokevirtual 133, 3) := by decide +kernel
theorem dX5_coded_55 : decode cX5_coded 55 = .ok (.istore_n 2, 1) := by decide +kernel
theorem dX5_coded_56 : decode cX5_coded 56 = .ok (.iload_n 2, 1) := by decide +kernel
theorem dX5_coded_57 : decode cX5_coded 57 = .ok (.ldc 136, 2) := by decide +kernel
theorem dX5_coded_59 : decode cX5_coded 59 = .ok (.if_icmp .lt 16, 3) := by decide +kernel
theorem dX5_coded_62 : decode cX5_coded 62 = .ok (.iload_n 2, 1) := by decide +kernel
theorem dX5_coded_63 : decode cX5_coded 63 = .ok (.ldc 137, 2) := by decide +kernel
theorem dX5_coded_65 : decode cX5_coded 65 = .ok (.if_icmp .gt 10, 3) := by decide +kernel
theorem dX5_coded_68 : decode cX5_coded 68 = .ok (.aload_n 0, 1) := by decide +kernel
theorem dX5_coded_69 : decode cX5_coded 69 = .ok (.iconst 2, 1) := by decide +kernel
theorem dX5_coded_70 : decode cX5_coded 70 = .ok (.iload_n 1, 1) := by decide +kernel
theorem dX5_coded_71 : decode cX5_coded 71 = .ok (.invokevirtual 90, 3) := by decide +kernel
theorem dX5_coded_74 : decode cX5_coded 74 = .ok (.ireturn, 1) := by decide +kernel
theorem dX5_coded_75 : decode cX5_coded 75 = .ok (.iload_n 2, 1) := by decide +kernel
theorem dX5_coded_76 : decode cX5_coded 76 = .ok (.ldc 138, 2) := by decide +kernel
theorem dX5_coded_78 : decode cX5_coded 78 = .ok (.if_icmp .lt 9, 3) := by decide +kernel
theorem dX5_coded_81 : decode cX5_coded 81 = .ok (.iload_n 2, 1) := by decide +kernel
theorem dX5_coded_82 : decode cX5_coded 82 = .ok (.ldc 139, 2) := by decide +kernel
theorem dX5_coded_84 : decode cX5_coded 84 = .ok (.if_icmp .le 10, 3) := by decide +kernel
theorem dX5_coded_87 : decode cX5_coded 87 = .ok (.aload_n 0, 1) := by decide +kernel
theorem dX5_coded_88 : decode cX5_coded 88 = .ok (.iload_n 2, 1) := by decide +kernel
theorem dX5_coded_89 : decode cX5_coded 89 = .ok (.invokevirtual 140, 3) := by decide +kernel
theorem dX5_coded_92 : decode cX5_coded 92 = .ok (.iconst 1, 1) := by decide +kernel
theorem dX5_coded_93 : decode cX5_coded 93 = .ok (.ireturn, 1) := by decide +kernel
theorem dX5_coded_94 : decode cX5_coded 94 = .ok (.aload_n 0, 1) := by decide +kernel
theorem dX5_coded_95 : decode cX5_coded 95 = .ok (.getfield 64, 3) := by decide +kernel
theorem dX5_coded_98 : decode cX5_coded 98 = .ok (.iconst 1, 1) := by decide +kernel
theorem dX5_coded_99 : decode cX5_coded 99 = .ok (.iadd, 1) := by decide +kernel
theorem dX5_coded_100 : decode cX5_coded 100 = .ok (.aload_n 0, 1) := by decide +kernel
theorem dX5_coded_101 : decode cX5_coded 101 = .ok (.getfield 55, 3) := by decide +kernel
theorem dX5_coded_104 : decode cX5_coded 104 = .ok (.if_icmp .ge 37, 3) := by decide +kernel
theorem dX5_coded_107 : decode cX5_coded 107 = .ok (.aload_n 0, 1) := by decide +kernel
theorem dX5_coded_108 : decode cX5_coded 108 = .ok (.getfield 7, 3) := by decide +kernel
theorem dX5_coded_111 : decode cX5_coded 111 = .ok (.aload_n 0, 1) := by decide +kernel
theorem dX5_coded_112 : decode cX5_coded 112 = .ok (.getfield 64, 3) := by decide +kernel
theorem dX5_coded_115 : decode cX5_coded 115 = .ok (.iaload, 1) := by decide +kernel
theorem dX5_coded_116 : decode cX5_coded 116 = .ok (.bipush 92, 2) := by decide +kernel
theorem dX5_coded_118 : decode cX5_coded 118 = .ok (.if_icmp .ne 23, 3) := by decide +kernel
theorem dX5_coded_121 : decode cX5_coded 121 = .ok (.aload_n 0, 1) := by decide +kernel
theorem dX5_coded_122 : decode cX5_coded 122 = .ok (.getfield 7, 3) := by decide +kernel
theorem dX5_coded_125 : decode cX5_coded 125 = .ok (.aload_n 0, 1) := by decide +kernel
theorem dX5_coded_126 : decode cX5_coded 126 = .ok (.getfield 64, 3) := by decide +kernel
theorem dX5_coded_129 : decode cX5_coded 129 = .ok (.iconst 1, 1) := by decide +kernel
theorem dX5_coded_130 : decode cX5_coded 130 = .ok (.iadd, 1) := by decide +kernel
theorem dX5_coded_131 : decode cX5_coded 131 = .ok (.iaload, 1) := by decide +kernel
theorem dX5_coded_132 : decode cX5_coded 132 = .ok (.bipush 117, 2) := by decide +kernel
theorem dX5_coded_134 : decode cX5_coded 134 = .ok (.if_icmp .ne 7, 3) := by decide +kernel
theorem dX5_coded_137 : decode cX5_coded 137 = .ok (.iconst 1, 1) := by decide +kernel
theorem dX5_coded_138 : decode cX5_coded 138 = .ok (.goto 4, 3) := by decide +kernel
theorem dX5_coded_141 : decode cX5_coded 141 = .ok (.iconst 0, 1) := by decide +kernel
theorem dX5_coded_142 : decode cX5_coded 142 = .ok (.istore_n 3, 1) := by decide +kernel
theorem dX5_coded_143 : decode cX5_coded 143 = .ok (.iload_n 3, 1) := by decide +kernel
theorem dX5_coded_144 : decode cX5_coded 144 = .ok (.ifCond .eq 16, 3) := by decide +kernel
theorem dX5_coded_147 : decode cX5_coded 147 = .ok (.aload_n 0, 1) := by decide +kernel
theorem dX5_coded_148 : decode cX5_coded 148 = .ok (.aload_n 0, 1) := by decide +kernel
theorem dX5_coded_149 : decode cX5_coded 149 = .ok (.getfield 64, 3) := by decide +kernel
theorem dX5_coded_152 : decode cX5_coded 152 = .ok (.iconst 2, 1) := by decide +kernel
theorem dX5_coded_153 : decode cX5_coded 153 = .ok (.iadd, 1) := by decide +kernel
theorem dX5_coded_154 : decode cX5_coded 154 = .ok (.invokevirtual 133, 3) := by decide +kernel
theorem dX5_coded_157 : decode cX5_coded 157 = .ok (.goto 4, 3) := by decide +kernel
theorem dX5_coded_160 : decode cX5_coded 160 = .ok (.iconst (-1), 1) := by decide +kernel
theorem dX5_coded_161 : decode cX5_coded 161 = .ok (.istore 4, 2) := by decide +kernel
theorem dX5_coded_163 : decode cX5_coded 163 = .ok (.iload 4, 2) := by decide +kernel
theorem dX5_coded_165 : decode cX5_coded 165 = .ok (.ldc 136, 2) := by decide +kernel
theorem dX5_coded_167 : decode cX5_coded 167 = .ok (.if_icmp .lt 10, 3) := by decide +kernel
theorem dX5_coded_170 : decode cX5_coded 170 = .ok (.iload 4, 2) := by decide +kernel
theorem dX5_coded_172 : decode cX5_coded 172 = .ok (.ldc 137, 2) := by decide +kernel
theorem dX5_coded_174 : decode cX5_coded 174 = .ok (.if_icmp .le 10, 3) := by decide +kernel
theorem dX5_coded_177 : decode cX5_coded 177 = .ok (.aload_n 0, 1) := by decide +kernel
theorem dX5_coded_178 : decode cX5_coded 178 = .ok (.iconst 2, 1) := by decide +kernel
theorem dX5_coded_179 : decode cX5_coded 179 = .ok (.iload_n 1, 1) := by decide +kernel
theorem dX5_coded_180 : decode cX5_coded 180 = .ok (.invokevirtual 90, 3) := by decide +kernel
theorem dX5_coded_183 : decode cX5_coded 183 = .ok (.ireturn, 1) := by decide +kernel
theorem dX5_coded_184 : decode cX5_coded 184 = .ok (.aload_n 0, 1) := by decide +kernel
theorem dX5_coded_185 : decode cX5_coded 185 = .ok (.dup, 1) := by decide +kernel
theorem dX5_coded_186 : decode cX5_coded 186 = .ok (.getfield 64, 3) := by decide +kernel
theorem dX5_coded_189 : decode cX5_coded 189 = .ok (.bipush 6, 2) := by decide +kernel
theorem dX5_coded_191 : decode cX5_coded 191 = .ok (.iadd, 1) := by decide +kernel
theorem dX5_coded_192 : decode cX5_coded 192 = .ok (.putfield 64, 3) := by decide +kernel
theorem dX5_coded_195 : decode cX5_coded 195 = .ok (.aload_n 0, 1) := by decide +kernel
theorem dX5_coded_196 : decode cX5_coded 196 = .ok (.ldc 84, 2) := by decide +kernel
theorem dX5_coded_198 : decode cX5_coded 198 = .ok (.iload_n 2, 1) := by decide +kernel
theorem dX5_coded_199 : decode cX5_coded 199 = .ok (.ldc 138, 2) := by decide +kernel
theorem dX5_coded_201 : decode cX5_coded 201 = .ok (.isub, 1) := by decide +kernel
theorem dX5_coded_202 : decode cX5_coded 202 = .ok (.sipush 1024, 3) := by decide +kernel
theorem dX5_coded_205 : decode cX5_coded 205 = .ok (.imul, 1) := by decide +kernel
theorem dX5_coded_206 : decode cX5_coded 206 = .ok (.iadd, 1) := by decide +kernel
theorem dX5_coded_207 : decode cX5_coded 207 = .ok (.iload 4, 2) := by decide +kernel
theorem dX5_coded_209 : decode cX5_coded 209 = .ok (.iadd, 1) := by decide +kernel
theorem dX5_coded_210 : decode cX5_coded 210 = .ok (.ldc 136, 2) := by decide +kernel
theorem dX5_coded_212 : decode cX5_coded 212 = .ok (.isub, 1) := by decide +kernel
theorem dX5_coded_213 : decode cX5_coded 213 = .ok (.invokevirtual 140, 3) := by decide +kernel
theorem dX5_coded_216 : decode cX5_coded 216 = .ok (.iconst 1, 1) := by decide +kernel
theorem dX5_coded_217 : decode cX5_coded 217 = .ok (.ireturn, 1) := by decide +kernel
theorem dX5_escape_0 : decode cX5_escape 0 = .ok (.aload_n 0, 1) := by decide +kernel
theorem dX5_escape_1 : decode cX5_escape 1 = .ok (.getfield 64, 3) := by decide +kernel
theorem dX5_escape_4 : decode cX5_escape 4 = .ok (.istore_n 1, 1) := by decide +kernel
theorem dX5_escape_5 : decode cX5_escape 5 = .ok (.aload_n 0, 1) := by decide +kernel
theorem dX5_escape_6 : decode cX5_escape 6 = .ok (.dup, 1) := by decide +kernel
theorem dX5_escape_7 : decode cX5_escape 7 = .ok (.getfield 64, 3) := by decide +kernel
theorem dX5_escape_10 : decode cX5_escape 10 = .ok (.iconst 1, 1) := by decide +kernel
theorem dX5_escape_11 : decode cX5_escape 11 = .ok (.iadd, 1) := by decide +kernel
theorem dX5_escape_12 : decode cX5_escape 12 = .ok (.putfield 64, 3) := by decide +kernel
theorem dX5_escape_15 : decode cX5_escape 15 = .ok (.aload_n 0, 1) := by decide +kernel
theorem dX5_escape_16 : decode cX5_escape 16 = .ok (.invokevirtual 86, 3) := by decide +kernel
theorem dX5_escape_19 : decode cX5_escape 19 = .ok (.istore_n 2, 1) := by decide +kernel
theorem dX5_escape_20 : decode cX5_escape 20 = .ok (.iload_n 2, 1) := by decide +kernel
theorem dX5_escape_21 : decode cX5_escape 21 = .ok (.bipush 117, 2) := by decide +kernel
theorem dX5_escape_23 : decode cX5_escape 23 = .ok (.if_icmp .ne 9, 3) := by decide +kernel
theorem dX5_escape_26 : decode cX5_escape 26 = .ok (.aload_n 0, 1) := by decide +kernel
theorem dX5_escape_27 : decode cX5_escape 27 = .ok (.iload_n 1, 1) := by decide +kernel
theorem dX5_escape_28 : decode cX5_escape 28 = .ok (.invokevirtual 143, 3) := by decide +kernel
theorem dX5_escape_31 : decode cX5_escape 31 = .ok (.ireturn, 1) := by decide +kernel
theorem dX5_escape_32 : decode cX5_escape 32 = .ok (.iload_n 2, 1) := by decide +kernel
theorem dX5_escape_33 : decode cX5_escape 33 = .ok (.bipush 34, 2) := by decide +kernel
theorem dX5_escape_35 : decode cX5_escape 35 = .ok (.if_icmp .eq 15, 3) := by decide +kernel
theorem dX5_escape_38 : decode cX5_escape 38 = .ok (.iload_n 2, 1) := by decide +kernel
theorem dX5_escape_39 : decode cX5_escape 39 = .ok (.bipush 92, 2) := by decide +kernel
theorem dX5_escape_41 : decode cX5_escape 41 = .ok (.if_icmp .eq 9, 3) := by decide +kernel
theorem dX5_escape_44 : decode cX5_escape 44 = .ok (.iload_n 2, 1) := by decide +kernel
theorem dX5_escape_45 : decode cX5_escape 45 = .ok (.bipush 47, 2) := by decide +kernel
theorem dX5_escape_47 : decode cX5_escape 47 = .ok (.if_icmp .ne 7, 3) := by decide +kernel
theorem dX5_escape_50 : decode cX5_escape 50 = .ok (.iload_n 2, 1) := by decide +kernel
theorem dX5_escape_51 : decode cX5_escape 51 = .ok (.goto 59, 3) := by decide +kernel
theorem dX5_escape_54 : decode cX5_escape 54 = .ok (.iload_n 2, 1) := by decide +kernel
theorem dX5_escape_55 : decode cX5_escape 55 = .ok (.bipush 98, 2) := by decide +kernel
theorem dX5_escape_57 : decode cX5_escape 57 = .ok (.if_icmp .ne 8, 3) := by decide +kernel
theorem dX5_escape_60 : decode cX5_escape 60 = .ok (.bipush 8, 2) := by decide +kernel
theorem dX5_escape_62 : decode cX5_escape 62 = .ok (.goto 48, 3) := by decide +kernel
theorem dX5_escape_65 : decode cX5_escape 65 = .ok (.iload_n 2, 1) := by decide +kernel
theorem dX5_escape_66 : decode cX5_escape 66 = .ok (.bipush 102, 2) := by decide +kernel
theorem dX5_escape_68 : decode cX5_escape 68 = .ok (.if_icmp .ne 8, 3) := by decide +kernel
theorem dX5_escape_71 : decode cX5_escape 71 = .ok (.bipush 12, 2) := by decide +kernel
theorem dX5_escape_73 : decode cX5_escape 73 = .ok (.goto 37, 3) := by decide +kernel
theorem dX5_escape_76 : decode cX5_escape 76 = .ok (.iload_n 2, 1) := by decide +kernel
theorem dX5_escape_77 : decode cX5_escape 77 = .ok (.bipush 110, 2) := by decide +kernel
theorem dX5_escape_79 : decode cX5_escape 79 = .ok (.if_icmp .ne 8, 3) := by decide +kernel
theorem dX5_escape_82 : decode cX5_escape 82 = .ok (.bipush 10, 2) := by decide +kernel
theorem dX5_escape_84 : decode cX5_escape 84 = .ok (.goto 26, 3) := by decide +kernel
theorem dX5_escape_87 : decode cX5_escape 87 = .ok (.iload_n 2, 1) := by decide +kernel
theorem dX5_escape_88 : decode cX5_escape 88 = .ok (.bipush 114, 2) := by decide +kernel
theorem dX5_escape_90 : decode cX5_escape 90 = .ok (.if_icmp .ne 8, 3) := by decide +kernel
theorem dX5_escape_93 : decode cX5_escape 93 = .ok (.bipush 13, 2) := by decide +kernel
theorem dX5_escape_95 : decode cX5_escape 95 = .ok (.goto 15, 3) := by decide +kernel
theorem dX5_escape_98 : decode cX5_escape 98 = .ok (.iload_n 2, 1) := by decide +kernel
theorem dX5_escape_99 : decode cX5_escape 99 = .ok (.bipush 116, 2) := by decide +kernel
theorem dX5_escape_101 : decode cX5_escape 101 = .ok (.if_icmp .ne 8, 3) := by decide +kernel
theorem dX5_escape_104 : decode cX5_escape 104 = .ok (.bipush 9, 2) := by decide +kernel
theorem dX5_escape_106 : decode cX5_escape 106 = .ok (.goto 4, 3) := by decide +kernel
theorem dX5_escape_109 : decode cX5_escape 109 = .ok (.iconst (-1), 1) := by decide +kernel
theorem dX5_escape_110 : decode cX5_escape 110 = .ok (.istore_n 3, 1) := by decide +kernel
theorem dX5_escape_111 : decode cX5_escape 111 = .ok (.iload_n 3, 1) := by decide +kernel
theorem dX5_escape_112 : decode cX5_escape 112 = .ok (.ifCond .ge 8, 3) := by decide +kernel
theorem dX5_escape_115 : decode cX5_escape 115 = .ok (.aload_n 0, 1) := by decide +kernel
theorem dX5_escape_116 : decode cX5_escape 116 = .ok (.invokevirtual 98, 3) := by decide +kernel
theorem dX5_escape_119 : decode cX5_escape 119 = .ok (.ireturn, 1) := by decide +kernel
theorem dX5_escape_120 : decode cX5_escape 120 = .ok (.aload_n 0, 1) := by decide +kernel
theorem dX5_escape_121 : decode cX5_escape 121 = .ok (.iload_n 3, 1) := by decide +kernel
theorem dX5_escape_122 : decode cX5_escape 122 = .ok (.invokevirtual 80, 3) := by decide +kernel
theorem dX5_escape_125 : decode cX5_escape 125 = .ok (.aload_n 0, 1) := by decide +kernel
theorem dX5_escape_126 : decode cX5_escape 126 = .ok (.dup, 1) := by decide +kernel
theorem dX5_escape_127 : decode cX5_escape 127 = .ok (.getfield 64, 3) := by decide +kernel
theorem dX5_escape_130 : decode cX5_escape 130 = .ok (.iconst 1, 1) := by decide +kernel
theorem dX5_escape_131 : decode cX5_escape 131 = .ok (.iadd, 1) := by decide +kernel
theorem dX5_escape_132 : decode cX5_escape 132 = .ok (.putfield 64, 3) := by decide +kernel
theorem dX5_escape_135 : decode cX5_escape 135 = .ok (.iconst 1, 1) := by decide +kernel
theorem dX5_escape_136 : decode cX5_escape 136 = .ok (.ireturn, 1) := by decide +kernel
theorem dX5_string_0 : decode cX5_string 0 = .ok (.aload_n 0, 1) := by decide +kernel
theorem dX5_string_1 : decode cX5_string 1 = .ok (.iconst 3, 1) := by decide +kernel
theorem dX5_string_2 : decode cX5_string 2 = .ok (.lconst 0, 1) := by decide +kernel
theorem dX5_string_3 : decode cX5_string 3 = .ok (.invokevirtual 125, 3) := by decide +kernel
theorem dX5_string_6 : decode cX5_string 6 = .ok (.istore_n 1, 1) := by decide +kernel
theorem dX5_string_7 : decode cX5_string 7 = .ok (.aload_n 0, 1) := by decide +kernel
theorem dX5_string_8 : decode cX5_string 8 = .ok (.dup, 1) := by decide +kernel
theorem dX5_string_9 : decode cX5_string 9 = .ok (.getfield 64, 3) := by decide +kernel
theorem dX5_string_12 : decode cX5_string 12 = .ok (.iconst 1, 1) := by decide +kernel
theorem dX5_string_13 : decode cX5_string 13 = .ok (.iadd, 1) := by decide +kernel
theorem dX5_string_14 : decode cX5_string 14 = .ok (.putfield 64, 3) := by decide +kernel
theorem dX5_string_17 : decode cX5_string 17 = .ok (.aload_n 0, 1) := by decide +kernel
theorem dX5_string_18 : decode cX5_string 18 = .ok (.invokevirtual 86, 3) := by decide +kernel
theorem dX5_string_21 : decode cX5_string 21 = .ok (.bipush 34, 2) := by decide +kernel
theorem dX5_string_23 : decode cX5_string 23 = .ok (.if_icmp .eq 105, 3) := by decide +kernel
theorem dX5_string_26 : decode cX5_string 26 = .ok (.aload_n 0, 1) := by decide +kernel
theorem dX5_string_27 : decode cX5_string 27 = .ok (.invokevirtual 86, 3) := by decide +kernel
theorem dX5_string_30 : decode cX5_string 30 = .ok (.istore_n 2, 1) := by decide +kernel
theorem dX5_string_31 : decode cX5_string 31 = .ok (.iload_n 2, 1) := by decide +kernel
theorem dX5_string_32 : decode cX5_string 32 = .ok (.bipush 32, 2) := by decide +kernel
theorem dX5_string_34 : decode cX5_string 34 = .ok (.if_icmp .ge 8, 3) := by decide +kernel
theorem dX5_string_37 : decode cX5_string 37 = .ok (.aload_n 0, 1) := by decide +kernel
theorem dX5_string_38 : decode cX5_string 38 = .ok (.invokevirtual 98, 3) := by decide +kernel
theorem dX5_string_41 : decode cX5_string 41 = .ok (.ireturn, 1) := by decide +kernel
theorem dX5_string_42 : decode cX5_string 42 = .ok (.iload_n 2, 1) := by decide +kernel
theorem dX5_string_43 : decode cX5_string 43 = .ok (.bipush 92, 2) := by decide +kernel
theorem dX5_string_45 : decode cX5_string 45 = .ok (.if_icmp .ne 12, 3) := by decide +kernel
theorem dX5_string_48 : decode cX5_string 48 = .ok (.aload_n 0, 1) := by decide +kernel
theorem dX5_string_49 : decode cX5_string 49 = .ok (.invokevirtual 146, 3) := by decide +kernel
theorem dX5_string_52 : decode cX5_string 52 = .ok (.ifCond .ne (-35), 3) := by decide +kernel
theorem dX5_string_55 : decode cX5_string 55 = .ok (.iconst 0, 1) := by decide +kernel
theorem dX5_string_56 : decode cX5_string 56 = .ok (.ireturn, 1) := by decide +kernel
theorem dX5_string_57 : decode cX5_string 57 = .ok (.aload_n 0, 1) := by decide +kernel
theorem dX5_string_58 : decode cX5_string 58 = .ok (.aload_n 0, 1) := by decide +kernel
theorem dX5_string_59 : decode cX5_string 59 = .ok (.getfield 64, 3) := by decide +kernel
theorem dX5_string_62 : decode cX5_string 62 = .ok (.aload_n 0, 1) := by decide +kernel
theorem dX5_string_63 : decode cX5_string 63 = .ok (.getfield 55, 3) := by decide +kernel
theorem dX5_string_66 : decode cX5_string 66 = .ok (.invokevirtual 149, 3) := by decide +kernel
theorem dX5_string_69 : decode cX5_string 69 = .ok (.istore_n 3, 1) := by decide +kernel
theorem dX5_string_70 : decode cX5_string 70 = .ok (.iload_n 3, 1) := by decide +kernel
theorem dX5_string_71 : decode cX5_string 71 = .ok (.ifCond .ne 13, 3) := by decide +kernel
theorem dX5_string_74 : decode cX5_string 74 = .ok (.aload_n 0, 1) := by decide +kernel
theorem dX5_string_75 : decode cX5_string 75 = .ok (.iconst 2, 1) := by decide +kernel
theorem dX5_string_76 : decode cX5_string 76 = .ok (.aload_n 0, 1) := by decide +kernel
theorem dX5_string_77 : decode cX5_string 77 = .ok (.getfield 64, 3) := by decide +kernel
theorem dX5_string_80 : decode cX5_string 80 = .ok (.invokevirtual 90, 3) := by decide +kernel
theorem dX5_string_83 : decode cX5_string 83 = .ok (.ireturn, 1) := by decide +kernel
theorem dX5_string_84 : decode cX5_string 84 = .ok (.iconst 0, 1) := by decide +kernel
theorem dX5_string_85 : decode cX5_string 85 = .ok (.istore 4, 2) := by decide +kernel
theorem dX5_string_87 : decode cX5_string 87 = .ok (.iload 4, 2) := by decide +kernel
theorem dX5_string_89 : decode cX5_string 89 = .ok (.iload_n 3, 1) := by decide +kernel
theorem dX5_string_90 : decode cX5_string 90 = .ok (.if_icmp .ge 25, 3) := by decide +kernel
theorem dX5_string_93 : decode cX5_string 93 = .ok (.aload_n 0, 1) := by decide +kernel
theorem dX5_string_94 : decode cX5_string 94 = .ok (.aload_n 0, 1) := by decide +kernel
theorem dX5_string_95 : decode cX5_string 95 = .ok (.getfield 7, 3) := by decide +kernel
theorem dX5_string_98 : decode cX5_string 98 = .ok (.aload_n 0, 1) := by decide +kernel
theorem dX5_string_99 : decode cX5_string 99 = .ok (.getfield 64, 3) := by decide +kernel
theorem dX5_string_102 : decode cX5_string 102 = .ok (.iload 4, 2) := by decide +kernel
theorem dX5_string_104 : decode cX5_string 104 = .ok (.iadd, 1) := by decide +kernel
theorem dX5_string_105 : decode cX5_string 105 = .ok (.iaload, 1) := by decide +kernel
theorem dX5_string_106 : decode cX5_string 106 = .ok (.invokevirtual 80, 3) := by decide +kernel
theorem dX5_string_109 : decode cX5_string 109 = .ok (.iinc 4 1, 3) := by decide +kernel
theorem dX5_string_112 : decode cX5_string 112 = .ok (.goto (-25), 3) := by decide +kernel
theorem dX5_string_115 : decode cX5_string 115 = .ok (.aload_n 0, 1) := by decide +kernel
theorem dX5_string_116 : decode cX5_string 116 = .ok (.dup, 1) := by decide +kernel
theorem dX5_string_117 : decode cX5_string 117 = .ok (.getfield 64, 3) := by decide +kernel
theorem dX5_string_120 : decode cX5_string 120 = .ok (.iload_n 3, 1) := by decide +kernel
theorem dX5_string_121 : decode cX5_string 121 = .ok (.iadd, 1) := by decide +kernel
theorem dX5_string_122 : decode cX5_string 122 = .ok (.putfield 64, 3) := by decide +kernel
theorem dX5_string_125 : decode cX5_string 125 = .ok (.goto (-108), 3) := by decide +kernel
theorem dX5_string_128 : decode cX5_string 128 = .ok (.aload_n 0, 1) := by decide +kernel
theorem dX5_string_129 : decode cX5_string 129 = .ok (.dup, 1) := by decide +kernel
theorem dX5_string_130 : decode cX5_string 130 = .ok (.getfield 64, 3) := by decide +kernel
theorem dX5_string_133 : decode cX5_string 133 = .ok (.iconst 1, 1) := by decide +kernel
theorem dX5_string_134 : decode cX5_string 134 = .ok (.iadd, 1) := by decide +kernel
theorem dX5_string_135 : decode cX5_string 135 = .ok (.putfield 64, 3) := by decide +kernel
theorem dX5_string_138 : decode cX5_string 138 = .ok (.aload_n 0, 1) := by decide +kernel
theorem dX5_string_139 : decode cX5_string 139 = .ok (.getfield 30, 3) := by decide +kernel
theorem dX5_string_142 : decode cX5_string 142 = .ok (.iload_n 1, 1) := by decide +kernel
theorem dX5_string_143 : decode cX5_string 143 = .ok (.aload_n 0, 1) := by decide +kernel
theorem dX5_string_144 : decode cX5_string 144 = .ok (.getfield 70, 3) := by decide +kernel
theorem dX5_string_147 : decode cX5_string 147 = .ok (.aload_n 0, 1) := by decide +kernel
theorem dX5_string_148 : decode cX5_string 148 = .ok (.getfield 34, 3) := by decide +kernel
theorem dX5_string_151 : decode cX5_string 151 = .ok (.iload_n 1, 1) := by decide +kernel
theorem dX5_string_152 : decode cX5_string 152 = .ok (.iaload, 1) := by decide +kernel
theorem dX5_string_153 : decode cX5_string 153 = .ok (.isub, 1) := by decide +kernel
theorem dX5_string_154 : decode cX5_string 154 = .ok (.i2l, 1) := by decide +kernel
theorem dX5_string_155 : decode cX5_string 155 = .ok (.lastore, 1) := by decide +kernel
theorem dX5_string_156 : decode cX5_string 156 = .ok (.iconst 1, 1) := by decide +kernel
theorem dX5_string_157 : decode cX5_string 157 = .ok (.ireturn, 1) := by decide +kernel
theorem dX5_word_0 : decode cX5_word 0 = .ok (.iconst 0, 1) := by decide +kernel
theorem dX5_word_1 : decode cX5_word 1 = .ok (.istore_n 3, 1) := by decide +kernel
theorem dX5_word_2 : decode cX5_word 2 = .ok (.iload_n 3, 1) := by decide +kernel
theorem dX5_word_3 : decode cX5_word 3 = .ok (.aload_n 1, 1) := by decide +kernel
theorem dX5_word_4 : decode cX5_word 4 = .ok (.invokevirtual 152, 3) := by decide +kernel
theorem dX5_word_7 : decode cX5_word 7 = .ok (.if_icmp .ge 36, 3) := by decide +kernel
theorem dX5_word_10 : decode cX5_word 10 = .ok (.aload_n 0, 1) := by decide +kernel
theorem dX5_word_11 : decode cX5_word 11 = .ok (.invokevirtual 86, 3) := by decide +kernel
theorem dX5_word_14 : decode cX5_word 14 = .ok (.aload_n 1, 1) := by decide +kernel
theorem dX5_word_15 : decode cX5_word 15 = .ok (.iload_n 3, 1) := by decide +kernel
theorem dX5_word_16 : decode cX5_word 16 = .ok (.invokevirtual 111, 3) := by decide +kernel
theorem dX5_word_19 : decode cX5_word 19 = .ok (.if_icmp .eq 8, 3) := by decide +kernel
theorem dX5_word_22 : decode cX5_word 22 = .ok (.aload_n 0, 1) := by decide +kernel
theorem dX5_word_23 : decode cX5_word 23 = .ok (.invokevirtual 98, 3) := by decide +kernel
theorem dX5_word_26 : decode cX5_word 26 = .ok (.ireturn, 1) := by decide +kernel
theorem dX5_word_27 : decode cX5_word 27 = .ok (.aload_n 0, 1) := by decide +kernel
theorem dX5_word_28 : decode cX5_word 28 = .ok (.dup, 1) := by decide +kernel
theorem dX5_word_29 : decode cX5_word 29 = .ok (.getfield 64, 3) := by decide +kernel
theorem dX5_word_32 : decode cX5_word 32 = .ok (.iconst 1, 1) := by decide +kernel
theorem dX5_word_33 : decode cX5_word 33 = .ok (.iadd, 1) := by decide +kernel
theorem dX5_word_34 : decode cX5_word 34 = .ok (.putfield 64, 3) := by decide +kernel
theorem dX5_word_37 : decode cX5_word 37 = .ok (.iinc 3 1, 3) := by decide +kernel
theorem dX5_word_40 : decode cX5_word 40 = .ok (.goto (-38), 3) := by decide +kernel
theorem dX5_word_43 : decode cX5_word 43 = .ok (.aload_n 0, 1) := by decide +kernel
theorem dX5_word_44 : decode cX5_word 44 = .ok (.bipush 7, 2) := by decide +kernel
theorem dX5_word_46 : decode cX5_word 46 = .ok (.iload_n 2, 1) := by decide +kernel
theorem dX5_word_47 : decode cX5_word 47 = .ok (.i2l, 1) := by decide +kernel
theorem dX5_word_48 : decode cX5_word 48 = .ok (.invokevirtual 125, 3) := by decide +kernel
theorem dX5_word_51 : decode cX5_word 51 = .ok (.pop, 1) := by decide +kernel
theorem dX5_word_52 : decode cX5_word 52 = .ok (.iconst 1, 1) := by decide +kernel
theorem dX5_word_53 : decode cX5_word 53 = .ok (.ireturn, 1) := by decide +kernel
theorem dX5_opens_0 : decode cX5_opens 0 = .ok (.aload_n 0, 1) := by decide +kernel
theorem dX5_opens_1 : decode cX5_opens 1 = .ok (.getfield 73, 3) := by decide +kernel
theorem dX5_opens_4 : decode cX5_opens 4 = .ok (.aload_n 0, 1) := by decide +kernel
theorem dX5_opens_5 : decode cX5_opens 5 = .ok (.getfield 13, 3) := by decide +kernel
theorem dX5_opens_8 : decode cX5_opens 8 = .ok (.if_icmp .ne 13, 3) := by decide +kernel
theorem dX5_opens_11 : decode cX5_opens 11 = .ok (.aload_n 0, 1) := by decide +kernel
theorem dX5_opens_12 : decode cX5_opens 12 = .ok (.iconst 4, 1) := by decide +kernel
theorem dX5_opens_13 : decode cX5_opens 13 = .ok (.aload_n 0, 1) := by decide +kernel
theorem dX5_opens_14 : decode cX5_opens 14 = .ok (.getfield 64, 3) := by decide +kernel
theorem dX5_opens_17 : decode cX5_opens 17 = .ok (.invokevirtual 90, 3) := by decide +kernel
theorem dX5_opens_20 : decode cX5_opens 20 = .ok (.ireturn, 1) := by decide +kernel
theorem dX5_opens_21 : decode cX5_opens 21 = .ok (.aload_n 0, 1) := by decide +kernel
theorem dX5_opens_22 : decode cX5_opens 22 = .ok (.getfield 40, 3) := by decide +kernel
theorem dX5_opens_25 : decode cX5_opens 25 = .ok (.aload_n 0, 1) := by decide +kernel
theorem dX5_opens_26 : decode cX5_opens 26 = .ok (.getfield 73, 3) := by decide +kernel
theorem dX5_opens_29 : decode cX5_opens 29 = .ok (.aload_n 0, 1) := by decide +kernel
theorem dX5_opens_30 : decode cX5_opens 30 = .ok (.iload_n 1, 1) := by decide +kernel
theorem dX5_opens_31 : decode cX5_opens 31 = .ok (.lconst 0, 1) := by decide +kernel
theorem dX5_opens_32 : decode cX5_opens 32 = .ok (.invokevirtual 125, 3) := by decide +kernel
theorem dX5_opens_35 : decode cX5_opens 35 = .ok (.iastore, 1) := by decide +kernel
theorem dX5_opens_36 : decode cX5_opens 36 = .ok (.aload_n 0, 1) := by decide +kernel
theorem dX5_opens_37 : decode cX5_opens 37 = .ok (.dup, 1) := by decide +kernel
theorem dX5_opens_38 : decode cX5_opens 38 = .ok (.getfield 73, 3) := by decide +kernel
theorem dX5_opens_41 : decode cX5_opens 41 = .ok (.iconst 1, 1) := by decide +kernel
theorem dX5_opens_42 : decode cX5_opens 42 = .ok (.iadd, 1) := by decide +kernel
theorem dX5_opens_43 : decode cX5_opens 43 = .ok (.putfield 73, 3) := by decide +kernel
theorem dX5_opens_46 : decode cX5_opens 46 = .ok (.aload_n 0, 1) := by decide +kernel
theorem dX5_opens_47 : decode cX5_opens 47 = .ok (.dup, 1) := by decide +kernel
theorem dX5_opens_48 : decode cX5_opens 48 = .ok (.getfield 64, 3) := by decide +kernel
theorem dX5_opens_51 : decode cX5_opens 51 = .ok (.iconst 1, 1) := by decide +kernel
theorem dX5_opens_52 : decode cX5_opens 52 = .ok (.iadd, 1) := by decide +kernel
theorem dX5_opens_53 : decode cX5_opens 53 = .ok (.putfield 64, 3) := by decide +kernel
theorem dX5_opens_56 : decode cX5_opens 56 = .ok (.iconst 1, 1) := by decide +kernel
theorem dX5_opens_57 : decode cX5_opens 57 = .ok (.ireturn, 1) := by decide +kernel
theorem dX5_isMap_0 : decode cX5_isMap 0 = .ok (.aload_n 0, 1) := by decide +kernel
theorem dX5_isMap_1 : decode cX5_isMap 1 = .ok (.getfield 73, 3) := by decide +kernel
theorem dX5_isMap_4 : decode cX5_isMap 4 = .ok (.ifCond .le 27, 3) := by decide +kernel
theorem dX5_isMap_7 : decode cX5_isMap 7 = .ok (.aload_n 0, 1) := by decide +kernel
theorem dX5_isMap_8 : decode cX5_isMap 8 = .ok (.getfield 27, 3) := by decide +kernel
theorem dX5_isMap_11 : decode cX5_isMap 11 = .ok (.aload_n 0, 1) := by decide +kernel
theorem dX5_isMap_12 : decode cX5_isMap 12 = .ok (.getfield 40, 3) := by decide +kernel
theorem dX5_isMap_15 : decode cX5_isMap 15 = .ok (.aload_n 0, 1) := by decide +kernel
theorem dX5_isMap_16 : decode cX5_isMap 16 = .ok (.getfield 73, 3) := by decide +kernel
theorem dX5_isMap_19 : decode cX5_isMap 19 = .ok (.iconst 1, 1) := by decide +kernel
theorem dX5_isMap_20 : decode cX5_isMap 20 = .ok (.isub, 1) := by decide +kernel
theorem dX5_isMap_21 : decode cX5_isMap 21 = .ok (.iaload, 1) := by decide +kernel
theorem dX5_isMap_22 : decode cX5_isMap 22 = .ok (.iaload, 1) := by decide +kernel
theorem dX5_isMap_23 : decode cX5_isMap 23 = .ok (.iconst 5, 1) := by decide +kernel
theorem dX5_isMap_24 : decode cX5_isMap 24 = .ok (.if_icmp .ne 7, 3) := by decide +kernel
theorem dX5_isMap_27 : decode cX5_isMap 27 = .ok (.iconst 1, 1) := by decide +kernel
theorem dX5_isMap_28 : decode cX5_isMap 28 = .ok (.goto 4, 3) := by decide +kernel
theorem dX5_isMap_31 : decode cX5_isMap 31 = .ok (.iconst 0, 1) := by decide +kernel
theorem dX5_isMap_32 : decode cX5_isMap 32 = .ok (.ireturn, 1) := by decide +kernel
theorem dX5_value_0 : decode cX5_value 0 = .ok (.aload_n 0, 1) := by decide +kernel
theorem dX5_value_1 : decode cX5_value 1 = .ok (.invokevirtual 86, 3) := by decide +kernel
theorem dX5_value_4 : decode cX5_value 4 = .ok (.istore_n 1, 1) := by decide +kernel
theorem dX5_value_5 : decode cX5_value 5 = .ok (.iload_n 1, 1) := by decide +kernel
theorem dX5_value_6 : decode cX5_value 6 = .ok (.bipush 34, 2) := by decide +kernel
theorem dX5_value_8 : decode cX5_value 8 = .ok (.if_icmp .ne 8, 3) := by decide +kernel
theorem dX5_value_11 : decode cX5_value 11 = .ok (.aload_n 0, 1) := by decide +kernel
theorem dX5_value_12 : decode cX5_value 12 = .ok (.invokevirtual 155, 3) := by decide +kernel
theorem dX5_value_15 : decode cX5_value 15 = .ok (.ireturn, 1) := by decide +kernel
theorem dX5_value_16 : decode cX5_value 16 = .ok (.iload_n 1, 1) := by decide +kernel
theorem dX5_value_17 : decode cX5_value 17 = .ok (.bipush 91, 2) := by decide +kernel
theorem dX5_value_19 : decode cX5_value 19 = .ok (.if_icmp .ne 9, 3) := by decide +kernel
theorem dX5_value_22 : decode cX5_value 22 = .ok (.aload_n 0, 1) := by decide +kernel
theorem dX5_value_23 : decode cX5_value 23 = .ok (.iconst 4, 1) := by decide +kernel
theorem dX5_value_24 : decode cX5_value 24 = .ok (.invokevirtual 158, 3) := by decide +kernel
theorem dX5_value_27 : decode cX5_value 27 = .ok (.ireturn, 1) := by decide +kernel
theorem dX5_value_28 : decode cX5_value 28 = .ok (.iload_n 1, 1) := by decide +kernel
theorem dX5_value_29 : decode cX5_value 29 = .ok (.bipush 123, 2) := by decide +kernel
theorem dX5_value_31 : decode cX5_value 31 = .ok (.if_icmp .ne 9, 3) := by decide +kernel
theorem dX5_value_34 : decode cX5_value 34 = .ok (.aload_n 0, 1) := by decide +kernel
theorem dX5_value_35 : decode cX5_value 35 = .ok (.iconst 5, 1) := by decide +kernel
theorem dX5_value_36 : decode cX5_value 36 = .ok (.invokevirtual 158, 3) := by decide +kernel
theorem dX5_value_39 : decode cX5_value 39 = .ok (.ireturn, 1) := by decide +kernel
theorem dX5_value_40 : decode cX5_value 40 = .ok (.iload_n 1, 1) := by decide +kernel
theorem dX5_value_41 : decode cX5_value 41 = .ok (.bipush 102, 2) := by decide +kernel
theorem dX5_value_43 : decode cX5_value 43 = .ok (.if_icmp .ne 12, 3) := by decide +kernel
theorem dX5_value_46 : decode cX5_value 46 = .ok (.aload_n 0, 1) := by decide +kernel
theorem dX5_value_47 : decode cX5_value 47 = .ok (.ldc 161, 2) := by decide +kernel
theorem dX5_value_49 : decode cX5_value 49 = .ok (.bipush 20, 2) := by decide +kernel
theorem dX5_value_51 : decode cX5_value 51 = .ok (.invokevirtual 163, 3) := by decide +kernel
theorem dX5_value_54 : decode cX5_value 54 = .ok (.ireturn, 1) := by decide +kernel
theorem dX5_value_55 : decode cX5_value 55 = .ok (.iload_n 1, 1) := by decide +kernel
theorem dX5_value_56 : decode cX5_value 56 = .ok (.bipush 116, 2) := by decide +kernel
theorem dX5_value_58 : decode cX5_value 58 = .ok (.if_icmp .ne 12, 3) := by decide +kernel
theorem dX5_value_61 : decode cX5_value 61 = .ok (.aload_n 0, 1) := by decide +kernel
theorem dX5_value_62 : decode cX5_value 62 = .ok (.ldc 167, 2) := by decide +kernel
theorem dX5_value_64 : decode cX5_value 64 = .ok (.bipush 21, 2) := by decide +kernel
theorem dX5_value_66 : decode cX5_value 66 = .ok (.invokevirtual 163, 3) := by decide +kernel
theorem dX5_value_69 : decode cX5_value 69 = .ok (.ireturn, 1) := by decide +kernel
theorem dX5_value_70 : decode cX5_value 70 = .ok (.iload_n 1, 1) := by decide +kernel
theorem dX5_value_71 : decode cX5_value 71 = .ok (.bipush 110, 2) := by decide +kernel
theorem dX5_value_73 : decode cX5_value 73 = .ok (.if_icmp .ne 12, 3) := by decide +kernel
theorem dX5_value_76 : decode cX5_value 76 = .ok (.aload_n 0, 1) := by decide +kernel
theorem dX5_value_77 : decode cX5_value 77 = .ok (.ldc 169, 2) := by decide +kernel
theorem dX5_value_79 : decode cX5_value 79 = .ok (.bipush 22, 2) := by decide +kernel
theorem dX5_value_81 : decode cX5_value 81 = .ok (.invokevirtual 163, 3) := by decide +kernel
theorem dX5_value_84 : decode cX5_value 84 = .ok (.ireturn, 1) := by decide +kernel
theorem dX5_value_85 : decode cX5_value 85 = .ok (.iload_n 1, 1) := by decide +kernel
theorem dX5_value_86 : decode cX5_value 86 = .ok (.bipush 45, 2) := by decide +kernel
theorem dX5_value_88 : decode cX5_value 88 = .ok (.if_icmp .eq 11, 3) := by decide +kernel
theorem dX5_value_91 : decode cX5_value 91 = .ok (.aload_n 0, 1) := by decide +kernel
theorem dX5_value_92 : decode cX5_value 92 = .ok (.iload_n 1, 1) := by decide +kernel
theorem dX5_value_93 : decode cX5_value 93 = .ok (.invokevirtual 94, 3) := by decide +kernel
theorem dX5_value_96 : decode cX5_value 96 = .ok (.ifCond .eq 10, 3) := by decide +kernel
theorem dX5_value_99 : decode cX5_value 99 = .ok (.aload_n 0, 1) := by decide +kernel
theorem dX5_value_100 : decode cX5_value 100 = .ok (.invokevirtual 171, 3) := by decide +kernel
theorem dX5_value_103 : decode cX5_value 103 = .ok (.goto 7, 3) := by decide +kernel
theorem dX5_value_106 : decode cX5_value 106 = .ok (.aload_n 0, 1) := by decide +kernel
theorem dX5_value_107 : decode cX5_value 107 = .ok (.invokevirtual 98, 3) := by decide +kernel
theorem dX5_value_110 : decode cX5_value 110 = .ok (.ireturn, 1) := by decide +kernel
theorem dX5_key_0 : decode cX5_key 0 = .ok (.aload_n 0, 1) := by decide +kernel
theorem dX5_key_1 : decode cX5_key 1 = .ok (.invokevirtual 86, 3) := by decide +kernel
theorem dX5_key_4 : decode cX5_key 4 = .ok (.bipush 34, 2) := by decide +kernel
theorem dX5_key_6 : decode cX5_key 6 = .ok (.if_icmp .eq 8, 3) := by decide +kernel
theorem dX5_key_9 : decode cX5_key 9 = .ok (.aload_n 0, 1) := by decide +kernel
theorem dX5_key_10 : decode cX5_key 10 = .ok (.invokevirtual 98, 3) := by decide +kernel
theorem dX5_key_13 : decode cX5_key 13 = .ok (.ireturn, 1) := by decide +kernel
theorem dX5_key_14 : decode cX5_key 14 = .ok (.aload_n 0, 1) := by decide +kernel
theorem dX5_key_15 : decode cX5_key 15 = .ok (.invokevirtual 155, 3) := by decide +kernel
theorem dX5_key_18 : decode cX5_key 18 = .ok (.ifCond .ne 5, 3) := by decide +kernel
theorem dX5_key_21 : decode cX5_key 21 = .ok (.iconst 0, 1) := by decide +kernel
theorem dX5_key_22 : decode cX5_key 22 = .ok (.ireturn, 1) := by decide +kernel
theorem dX5_key_23 : decode cX5_key 23 = .ok (.aload_n 0, 1) := by decide +kernel
theorem dX5_key_24 : decode cX5_key 24 = .ok (.invokevirtual 174, 3) := by decide +kernel
theorem dX5_key_27 : decode cX5_key 27 = .ok (.aload_n 0, 1) := by decide +kernel
theorem dX5_key_28 : decode cX5_key 28 = .ok (.invokevirtual 86, 3) := by decide +kernel
theorem dX5_key_31 : decode cX5_key 31 = .ok (.bipush 58, 2) := by decide +kernel
theorem dX5_key_33 : decode cX5_key 33 = .ok (.if_icmp .eq 8, 3) := by decide +kernel
theorem dX5_key_36 : decode cX5_key 36 = .ok (.aload_n 0, 1) := by decide +kernel
theorem dX5_key_37 : decode cX5_key 37 = .ok (.invokevirtual 98, 3) := by decide +kernel
theorem dX5_key_40 : decode cX5_key 40 = .ok (.ireturn, 1) := by decide +kernel
theorem dX5_key_41 : decode cX5_key 41 = .ok (.aload_n 0, 1) := by decide +kernel
theorem dX5_key_42 : decode cX5_key 42 = .ok (.dup, 1) := by decide +kernel
theorem dX5_key_43 : decode cX5_key 43 = .ok (.getfield 64, 3) := by decide +kernel
theorem dX5_key_46 : decode cX5_key 46 = .ok (.iconst 1, 1) := by decide +kernel
theorem dX5_key_47 : decode cX5_key 47 = .ok (.iadd, 1) := by decide +kernel
theorem dX5_key_48 : decode cX5_key 48 = .ok (.putfield 64, 3) := by decide +kernel
theorem dX5_key_51 : decode cX5_key 51 = .ok (.aload_n 0, 1) := by decide +kernel
theorem dX5_key_52 : decode cX5_key 52 = .ok (.invokevirtual 174, 3) := by decide +kernel
theorem dX5_key_55 : decode cX5_key 55 = .ok (.iconst 1, 1) := by decide +kernel
theorem dX5_key_56 : decode cX5_key 56 = .ok (.ireturn, 1) := by decide +kernel
theorem dX5_item_0 : decode cX5_item 0 = .ok (.aload_n 0, 1) := by decide +kernel
theorem dX5_item_1 : decode cX5_item 1 = .ok (.getfield 73, 3) := by decide +kernel
theorem dX5_item_4 : decode cX5_item 4 = .ok (.ifCond .le 23, 3) := by decide +kernel
theorem dX5_item_7 : decode cX5_item 7 = .ok (.aload_n 0, 1) := by decide +kernel
theorem dX5_item_8 : decode cX5_item 8 = .ok (.getfield 30, 3) := by decide +kernel
theorem dX5_item_11 : decode cX5_item 11 = .ok (.aload_n 0, 1) := by decide +kernel
theorem dX5_item_12 : decode cX5_item 12 = .ok (.getfield 40, 3) := by decide +kernel
theorem dX5_item_15 : decode cX5_item 15 = .ok (.aload_n 0, 1) := by decide +kernel
theorem dX5_item_16 : decode cX5_item 16 = .ok (.getfield 73, 3) := by decide +kernel
theorem dX5_item_19 : decode cX5_item 19 = .ok (.iconst 1, 1) := by decide +kernel
theorem dX5_item_20 : decode cX5_item 20 = .ok (.isub, 1) := by decide +kernel
theorem dX5_item_21 : decode cX5_item 21 = .ok (.iaload, 1) := by decide +kernel
theorem dX5_item_22 : decode cX5_item 22 = .ok (.dup2, 1) := by decide +kernel
theorem dX5_item_23 : decode cX5_item 23 = .ok (.laload, 1) := by decide +kernel
theorem dX5_item_24 : decode cX5_item 24 = .ok (.lconst 1, 1) := by decide +kernel
theorem dX5_item_25 : decode cX5_item 25 = .ok (.ladd, 1) := by decide +kernel
theorem dX5_item_26 : decode cX5_item 26 = .ok (.lastore, 1) := by decide +kernel
theorem dX5_item_27 : decode cX5_item 27 = .ok (.aload_n 0, 1) := by decide +kernel
theorem dX5_item_28 : decode cX5_item 28 = .ok (.invokevirtual 177, 3) := by decide +kernel
theorem dX5_item_31 : decode cX5_item 31 = .ok (.ifCond .eq 10, 3) := by decide +kernel
theorem dX5_item_34 : decode cX5_item 34 = .ok (.aload_n 0, 1) := by decide +kernel
theorem dX5_item_35 : decode cX5_item 35 = .ok (.invokevirtual 180, 3) := by decide +kernel
theorem dX5_item_38 : decode cX5_item 38 = .ok (.ifCond .eq 14, 3) := by decide +kernel
theorem dX5_item_41 : decode cX5_item 41 = .ok (.aload_n 0, 1) := by decide +kernel
theorem dX5_item_42 : decode cX5_item 42 = .ok (.invokevirtual 183, 3) := by decide +kernel
theorem dX5_item_45 : decode cX5_item 45 = .ok (.ifCond .eq 7, 3) := by decide +kernel
theorem dX5_item_48 : decode cX5_item 48 = .ok (.iconst 1, 1) := by decide +kernel
theorem dX5_item_49 : decode cX5_item 49 = .ok (.goto 4, 3) := by decide +kernel
theorem dX5_item_52 : decode cX5_item 52 = .ok (.iconst 0, 1) := by decide +kernel
theorem dX5_item_53 : decode cX5_item 53 = .ok (.ireturn, 1) := by decide +kernel
theorem dX5_isCloser_0 : decode cX5_isCloser 0 = .ok (.aload_n 0, 1) := by decide +kernel
theorem dX5_isCloser_1 : decode cX5_isCloser 1 = .ok (.invokevirtual 86, 3) := by decide +kernel
theorem dX5_isCloser_4 : decode cX5_isCloser 4 = .ok (.aload_n 0, 1) := by decide +kernel
theorem dX5_isCloser_5 : decode cX5_isCloser 5 = .ok (.invokevirtual 177, 3) := by decide +kernel
theorem dX5_isCloser_8 : decode cX5_isCloser 8 = .ok (.ifCond .eq 8, 3) := by decide +kernel
theorem dX5_isCloser_11 : decode cX5_isCloser 11 = .ok (.bipush 125, 2) := by decide +kernel
theorem dX5_isCloser_13 : decode cX5_isCloser 13 = .ok (.goto 5, 3) := by decide +kernel
theorem dX5_isCloser_16 : decode cX5_isCloser 16 = .ok (.bipush 93, 2) := by decide +kernel
theorem dX5_isCloser_18 : decode cX5_isCloser 18 = .ok (.if_icmp .ne 7, 3) := by decide +kernel
theorem dX5_isCloser_21 : decode cX5_isCloser 21 = .ok (.iconst 1, 1) := by decide +kernel
theorem dX5_isCloser_22 : decode cX5_isCloser 22 = .ok (.goto 4, 3) := by decide +kernel
theorem dX5_isCloser_25 : decode cX5_isCloser 25 = .ok (.iconst 0, 1) := by decide +kernel
theorem dX5_isCloser_26 : decode cX5_isCloser 26 = .ok (.ireturn, 1) := by decide +kernel
theorem dX5_goesOn_0 : decode cX5_goesOn 0 = .ok (.aload_n 0, 1) := by decide +kernel
theorem dX5_goesOn_1 : decode cX5_goesOn 1 = .ok (.invokevirtual 174, 3) := by decide +kernel
theorem dX5_goesOn_4 : decode cX5_goesOn 4 = .ok (.aload_n 0, 1) := by decide +kernel
theorem dX5_goesOn_5 : decode cX5_goesOn 5 = .ok (.getfield 73, 3) := by decide +kernel
theorem dX5_goesOn_8 : decode cX5_goesOn 8 = .ok (.ifCond .le 37, 3) := by decide +kernel
theorem dX5_goesOn_11 : decode cX5_goesOn 11 = .ok (.aload_n 0, 1) := by decide +kernel
theorem dX5_goesOn_12 : decode cX5_goesOn 12 = .ok (.invokevirtual 186, 3) := by decide +kernel
theorem dX5_goesOn_15 : decode cX5_goesOn 15 = .ok (.ifCond .eq 30, 3) := by decide +kernel
theorem dX5_goesOn_18 : decode cX5_goesOn 18 = .ok (.aload_n 0, 1) := by decide +kernel
theorem dX5_goesOn_19 : decode cX5_goesOn 19 = .ok (.dup, 1) := by decide +kernel
theorem dX5_goesOn_20 : decode cX5_goesOn 20 = .ok (.getfield 73, 3) := by decide +kernel
theorem dX5_goesOn_23 : decode cX5_goesOn 23 = .ok (.iconst 1, 1) := by decide +kernel
theorem dX5_goesOn_24 : decode cX5_goesOn 24 = .ok (.isub, 1) := by decide +kernel
theorem dX5_goesOn_25 : decode cX5_goesOn 25 = .ok (.putfield 73, 3) := by decide +kernel
theorem dX5_goesOn_28 : decode cX5_goesOn 28 = .ok (.aload_n 0, 1) := by decide +kernel
theorem dX5_goesOn_29 : decode cX5_goesOn 29 = .ok (.dup, 1) := by decide +kernel
theorem dX5_goesOn_30 : decode cX5_goesOn 30 = .ok (.getfield 64, 3) := by decide +kernel
theorem dX5_goesOn_33 : decode cX5_goesOn 33 = .ok (.iconst 1, 1) := by decide +kernel
theorem dX5_goesOn_34 : decode cX5_goesOn 34 = .ok (.iadd, 1) := by decide +kernel
theorem dX5_goesOn_35 : decode cX5_goesOn 35 = .ok (.putfield 64, 3) := by decide +kernel
theorem dX5_goesOn_38 : decode cX5_goesOn 38 = .ok (.aload_n 0, 1) := by decide +kernel
theorem dX5_goesOn_39 : decode cX5_goesOn 39 = .ok (.invokevirtual 174, 3) := by decide +kernel
theorem dX5_goesOn_42 : decode cX5_goesOn 42 = .ok (.goto (-38), 3) := by decide +kernel
theorem dX5_goesOn_45 : decode cX5_goesOn 45 = .ok (.aload_n 0, 1) := by decide +kernel
theorem dX5_goesOn_46 : decode cX5_goesOn 46 = .ok (.getfield 73, 3) := by decide +kernel
theorem dX5_goesOn_49 : decode cX5_goesOn 49 = .ok (.ifCond .ne 5, 3) := by decide +kernel
theorem dX5_goesOn_52 : decode cX5_goesOn 52 = .ok (.iconst 0, 1) := by decide +kernel
theorem dX5_goesOn_53 : decode cX5_goesOn 53 = .ok (.ireturn, 1) := by decide +kernel
theorem dX5_goesOn_54 : decode cX5_goesOn 54 = .ok (.aload_n 0, 1) := by decide +kernel
theorem dX5_goesOn_55 : decode cX5_goesOn 55 = .ok (.invokevirtual 86, 3) := by decide +kernel
theorem dX5_goesOn_58 : decode cX5_goesOn 58 = .ok (.bipush 44, 2) := by decide +kernel
theorem dX5_goesOn_60 : decode cX5_goesOn 60 = .ok (.if_icmp .eq 8, 3) := by decide +kernel
theorem dX5_goesOn_63 : decode cX5_goesOn 63 = .ok (.aload_n 0, 1) := by decide +kernel
theorem dX5_goesOn_64 : decode cX5_goesOn 64 = .ok (.invokevirtual 98, 3) := by decide +kernel
theorem dX5_goesOn_67 : decode cX5_goesOn 67 = .ok (.ireturn, 1) := by decide +kernel
theorem dX5_goesOn_68 : decode cX5_goesOn 68 = .ok (.aload_n 0, 1) := by decide +kernel
theorem dX5_goesOn_69 : decode cX5_goesOn 69 = .ok (.dup, 1) := by decide +kernel
theorem dX5_goesOn_70 : decode cX5_goesOn 70 = .ok (.getfield 64, 3) := by decide +kernel
theorem dX5_goesOn_73 : decode cX5_goesOn 73 = .ok (.iconst 1, 1) := by decide +kernel
theorem dX5_goesOn_74 : decode cX5_goesOn 74 = .ok (.iadd, 1) := by decide +kernel
theorem dX5_goesOn_75 : decode cX5_goesOn 75 = .ok (.putfield 64, 3) := by decide +kernel
theorem dX5_goesOn_78 : decode cX5_goesOn 78 = .ok (.aload_n 0, 1) := by decide +kernel
theorem dX5_goesOn_79 : decode cX5_goesOn 79 = .ok (.invokevirtual 174, 3) := by decide +kernel
theorem dX5_goesOn_82 : decode cX5_goesOn 82 = .ok (.iconst 1, 1) := by decide +kernel
theorem dX5_goesOn_83 : decode cX5_goesOn 83 = .ok (.ireturn, 1) := by decide +kernel
theorem dX5_readsJson_0 : decode cX5_readsJson 0 = .ok (.aload_n 0, 1) := by decide +kernel
theorem dX5_readsJson_1 : decode cX5_readsJson 1 = .ok (.invokevirtual 174, 3) := by decide +kernel
theorem dX5_readsJson_4 : decode cX5_readsJson 4 = .ok (.iconst 1, 1) := by decide +kernel
theorem dX5_readsJson_5 : decode cX5_readsJson 5 = .ok (.istore_n 1, 1) := by decide +kernel
theorem dX5_readsJson_6 : decode cX5_readsJson 6 = .ok (.iload_n 1, 1) := by decide +kernel
theorem dX5_readsJson_7 : decode cX5_readsJson 7 = .ok (.ifCond .eq 46, 3) := by decide +kernel
theorem dX5_readsJson_10 : decode cX5_readsJson 10 = .ok (.aload_n 0, 1) := by decide +kernel
theorem dX5_readsJson_11 : decode cX5_readsJson 11 = .ok (.getfield 73, 3) := by decide +kernel
theorem dX5_readsJson_14 : decode cX5_readsJson 14 = .ok (.istore_n 2, 1) := by decide +kernel
theorem dX5_readsJson_15 : decode cX5_readsJson 15 = .ok (.aload_n 0, 1) := by decide +kernel
theorem dX5_readsJson_16 : decode cX5_readsJson 16 = .ok (.invokevirtual 189, 3) := by decide +kernel
theorem dX5_readsJson_19 : decode cX5_readsJson 19 = .ok (.ifCond .ne 4, 3) := by decide +kernel
theorem dX5_readsJson_22 : decode cX5_readsJson 22 = .ok (.return_, 1) := by decide +kernel
theorem dX5_readsJson_23 : decode cX5_readsJson 23 = .ok (.aload_n 0, 1) := by decide +kernel
theorem dX5_readsJson_24 : decode cX5_readsJson 24 = .ok (.getfield 73, 3) := by decide +kernel
theorem dX5_readsJson_27 : decode cX5_readsJson 27 = .ok (.iload_n 2, 1) := by decide +kernel
theorem dX5_readsJson_28 : decode cX5_readsJson 28 = .ok (.if_icmp .le 17, 3) := by decide +kernel
theorem dX5_readsJson_31 : decode cX5_readsJson 31 = .ok (.aload_n 0, 1) := by decide +kernel
theorem dX5_readsJson_32 : decode cX5_readsJson 32 = .ok (.invokevirtual 174, 3) := by decide +kernel
theorem dX5_readsJson_35 : decode cX5_readsJson 35 = .ok (.aload_n 0, 1) := by decide +kernel
theorem dX5_readsJson_36 : decode cX5_readsJson 36 = .ok (.invokevirtual 186, 3) := by decide +kernel
theorem dX5_readsJson_39 : decode cX5_readsJson 39 = .ok (.ifCond .ne 6, 3) := by decide +kernel
theorem dX5_readsJson_42 : decode cX5_readsJson 42 = .ok (.goto (-36), 3) := by decide +kernel
theorem dX5_readsJson_45 : decode cX5_readsJson 45 = .ok (.aload_n 0, 1) := by decide +kernel
theorem dX5_readsJson_46 : decode cX5_readsJson 46 = .ok (.invokevirtual 192, 3) := by decide +kernel
theorem dX5_readsJson_49 : decode cX5_readsJson 49 = .ok (.istore_n 1, 1) := by decide +kernel
theorem dX5_readsJson_50 : decode cX5_readsJson 50 = .ok (.goto (-44), 3) := by decide +kernel
theorem dX5_readsJson_53 : decode cX5_readsJson 53 = .ok (.aload_n 0, 1) := by decide +kernel
theorem dX5_readsJson_54 : decode cX5_readsJson 54 = .ok (.getfield 61, 3) := by decide +kernel
theorem dX5_readsJson_57 : decode cX5_readsJson 57 = .ok (.ifCond .ne 19, 3) := by decide +kernel
theorem dX5_readsJson_60 : decode cX5_readsJson 60 = .ok (.aload_n 0, 1) := by decide +kernel
theorem dX5_readsJson_61 : decode cX5_readsJson 61 = .ok (.getfield 64, 3) := by decide +kernel
theorem dX5_readsJson_64 : decode cX5_readsJson 64 = .ok (.aload_n 0, 1) := by decide +kernel
theorem dX5_readsJson_65 : decode cX5_readsJson 65 = .ok (.getfield 55, 3) := by decide +kernel
theorem dX5_readsJson_68 : decode cX5_readsJson 68 = .ok (.if_icmp .ge 8, 3) := by decide +kernel
theorem dX5_readsJson_71 : decode cX5_readsJson 71 = .ok (.aload_n 0, 1) := by decide +kernel
theorem dX5_readsJson_72 : decode cX5_readsJson 72 = .ok (.invokevirtual 98, 3) := by decide +kernel
theorem dX5_readsJson_75 : decode cX5_readsJson 75 = .ok (.pop, 1) := by decide +kernel
theorem dX5_readsJson_76 : decode cX5_readsJson 76 = .ok (.return_, 1) := by decide +kernel
theorem dX5_head_0 : decode cX5_head 0 = .ok (.aload_n 0, 1) := by decide +kernel
theorem dX5_head_1 : decode cX5_head 1 = .ok (.getfield 64, 3) := by decide +kernel
theorem dX5_head_4 : decode cX5_head 4 = .ok (.istore_n 2, 1) := by decide +kernel
theorem dX5_head_5 : decode cX5_head 5 = .ok (.aload_n 0, 1) := by decide +kernel
theorem dX5_head_6 : decode cX5_head 6 = .ok (.getfield 7, 3) := by decide +kernel
theorem dX5_head_9 : decode cX5_head 9 = .ok (.aload_n 0, 1) := by decide +kernel
theorem dX5_head_10 : decode cX5_head 10 = .ok (.getfield 64, 3) := by decide +kernel
theorem dX5_head_13 : decode cX5_head 13 = .ok (.iaload, 1) := by decide +kernel
theorem dX5_head_14 : decode cX5_head 14 = .ok (.iconst 5, 1) := by decide +kernel
theorem dX5_head_15 : decode cX5_head 15 = .ok (.ishr, 1) := by decide +kernel
theorem dX5_head_16 : decode cX5_head 16 = .ok (.istore_n 3, 1) := by decide +kernel
theorem dX5_head_17 : decode cX5_head 17 = .ok (.aload_n 0, 1) := by decide +kernel
theorem dX5_head_18 : decode cX5_head 18 = .ok (.getfield 7, 3) := by decide +kernel
theorem dX5_head_21 : decode cX5_head 21 = .ok (.aload_n 0, 1) := by decide +kernel
theorem dX5_head_22 : decode cX5_head 22 = .ok (.getfield 64, 3) := by decide +kernel
theorem dX5_head_25 : decode cX5_head 25 = .ok (.iaload, 1) := by decide +kernel
theorem dX5_head_26 : decode cX5_head 26 = .ok (.bipush 31, 2) := by decide +kernel
theorem dX5_head_28 : decode cX5_head 28 = .ok (.iand, 1) := by decide +kernel
theorem dX5_head_29 : decode cX5_head 29 = .ok (.istore 4, 2) := by decide +kernel
theorem dX5_head_31 : decode cX5_head 31 = .ok (.iload 4, 2) := by decide +kernel
theorem dX5_head_33 : decode cX5_head 33 = .ok (.bipush 27, 2) := by decide +kernel
theorem dX5_head_35 : decode cX5_head 35 = .ok (.if_icmp .le 28, 3) := by decide +kernel
theorem dX5_head_38 : decode cX5_head 38 = .ok (.iload 4, 2) := by decide +kernel
theorem dX5_head_40 : decode cX5_head 40 = .ok (.bipush 31, 2) := by decide +kernel
theorem dX5_head_42 : decode cX5_head 42 = .ok (.if_icmp .lt 14, 3) := by decide +kernel
theorem dX5_head_45 : decode cX5_head 45 = .ok (.iload_n 3, 1) := by decide +kernel
theorem dX5_head_46 : decode cX5_head 46 = .ok (.iconst 2, 1) := by decide +kernel
theorem dX5_head_47 : decode cX5_head 47 = .ok (.if_icmp .lt 9, 3) := by decide +kernel
theorem dX5_head_50 : decode cX5_head 50 = .ok (.iload_n 3, 1) := by decide +kernel
theorem dX5_head_51 : decode cX5_head 51 = .ok (.bipush 7, 2) := by decide +kernel
theorem dX5_head_53 : decode cX5_head 53 = .ok (.if_icmp .ne 10, 3) := by decide +kernel
theorem dX5_head_56 : decode cX5_head 56 = .ok (.aload_n 0, 1) := by decide +kernel
theorem dX5_head_57 : decode cX5_head 57 = .ok (.iconst 1, 1) := by decide +kernel
theorem dX5_head_58 : decode cX5_head 58 = .ok (.iload_n 2, 1) := by decide +kernel
theorem dX5_head_59 : decode cX5_head 59 = .ok (.invokevirtual 90, 3) := by decide +kernel
theorem dX5_head_62 : decode cX5_head 62 = .ok (.ireturn, 1) := by decide +kernel
theorem dX5_head_63 : decode cX5_head 63 = .ok (.iload_n 3, 1) := by decide +kernel
theorem dX5_head_64 : decode cX5_head 64 = .ok (.iconst 2, 1) := by decide +kernel
theorem dX5_head_65 : decode cX5_head 65 = .ok (.if_icmp .eq 38, 3) := by decide +kernel
theorem dX5_head_68 : decode cX5_head 68 = .ok (.iload_n 3, 1) := by decide +kernel
theorem dX5_head_69 : decode cX5_head 69 = .ok (.bipush 6, 2) := by decide +kernel
theorem dX5_head_71 : decode cX5_head 71 = .ok (.if_icmp .eq 32, 3) := by decide +kernel
theorem dX5_head_74 : decode cX5_head 74 = .ok (.iload_n 3, 1) := by decide +kernel
theorem dX5_head_75 : decode cX5_head 75 = .ok (.bipush 7, 2) := by decide +kernel
theorem dX5_head_77 : decode cX5_head 77 = .ok (.if_icmp .ne 17, 3) := by decide +kernel
theorem dX5_head_80 : decode cX5_head 80 = .ok (.iload 4, 2) := by decide +kernel
theorem dX5_head_82 : decode cX5_head 82 = .ok (.bipush 20, 2) := by decide +kernel
theorem dX5_head_84 : decode cX5_head 84 = .ok (.if_icmp .lt 19, 3) := by decide +kernel
theorem dX5_head_87 : decode cX5_head 87 = .ok (.iload 4, 2) := by decide +kernel
theorem dX5_head_89 : decode cX5_head 89 = .ok (.bipush 22, 2) := by decide +kernel
theorem dX5_head_91 : decode cX5_head 91 = .ok (.if_icmp .gt 12, 3) := by decide +kernel
theorem dX5_head_94 : decode cX5_head 94 = .ok (.iload_n 1, 1) := by decide +kernel
theorem dX5_head_95 : decode cX5_head 95 = .ok (.ifCond .eq 15, 3) := by decide +kernel
theorem dX5_head_98 : decode cX5_head 98 = .ok (.iload_n 3, 1) := by decide +kernel
theorem dX5_head_99 : decode cX5_head 99 = .ok (.iconst 3, 1) := by decide +kernel
theorem dX5_head_100 : decode cX5_head 100 = .ok (.if_icmp .eq 10, 3) := by decide +kernel
theorem dX5_head_103 : decode cX5_head 103 = .ok (.aload_n 0, 1) := by decide +kernel
theorem dX5_head_104 : decode cX5_head 104 = .ok (.iconst 2, 1) := by decide +kernel
theorem dX5_head_105 : decode cX5_head 105 = .ok (.iload_n 2, 1) := by decide +kernel
theorem dX5_head_106 : decode cX5_head 106 = .ok (.invokevirtual 90, 3) := by decide +kernel
theorem dX5_head_109 : decode cX5_head 109 = .ok (.ireturn, 1) := by decide +kernel
theorem dX5_head_110 : decode cX5_head 110 = .ok (.iload 4, 2) := by decide +kernel
theorem dX5_head_112 : decode cX5_head 112 = .ok (.bipush 31, 2) := by decide +kernel
theorem dX5_head_114 : decode cX5_head 114 = .ok (.if_icmp .ne 11, 3) := by decide +kernel
theorem dX5_head_117 : decode cX5_head 117 = .ok (.aload_n 0, 1) := by decide +kernel
theorem dX5_head_118 : decode cX5_head 118 = .ok (.bipush 6, 2) := by decide +kernel
theorem dX5_head_120 : decode cX5_head 120 = .ok (.iload_n 2, 1) := by decide +kernel
theorem dX5_head_121 : decode cX5_head 121 = .ok (.invokevirtual 90, 3) := by decide +kernel
theorem dX5_head_124 : decode cX5_head 124 = .ok (.ireturn, 1) := by decide +kernel
theorem dX5_head_125 : decode cX5_head 125 = .ok (.iload 4, 2) := by decide +kernel
theorem dX5_head_127 : decode cX5_head 127 = .ok (.bipush 24, 2) := by decide +kernel
theorem dX5_head_129 : decode cX5_head 129 = .ok (.if_icmp .ge 7, 3) := by decide +kernel
theorem dX5_head_132 : decode cX5_head 132 = .ok (.iconst 0, 1) := by decide +kernel
theorem dX5_head_133 : decode cX5_head 133 = .ok (.goto 10, 3) := by decide +kernel
theorem dX5_head_136 : decode cX5_head 136 = .ok (.iconst 1, 1) := by decide +kernel
theorem dX5_head_137 : decode cX5_head 137 = .ok (.iload 4, 2) := by decide +kernel
theorem dX5_head_139 : decode cX5_head 139 = .ok (.bipush 24, 2) := by decide +kernel
theorem dX5_head_141 : decode cX5_head 141 = .ok (.isub, 1) := by decide +kernel
theorem dX5_head_142 : decode cX5_head 142 = .ok (.ishl, 1) := by decide +kernel
theorem dX5_head_143 : decode cX5_head 143 = .ok (.istore 5, 2) := by decide +kernel
theorem dX5_head_145 : decode cX5_head 145 = .ok (.aload_n 0, 1) := by decide +kernel
theorem dX5_head_146 : decode cX5_head 146 = .ok (.getfield 55, 3) := by decide +kernel
theorem dX5_head_149 : decode cX5_head 149 = .ok (.aload_n 0, 1) := by decide +kernel
theorem dX5_head_150 : decode cX5_head 150 = .ok (.getfield 64, 3) := by decide +kernel
theorem dX5_head_153 : decode cX5_head 153 = .ok (.isub, 1) := by decide +kernel
theorem dX5_head_154 : decode cX5_head 154 = .ok (.iconst 1, 1) := by decide +kernel
theorem dX5_head_155 : decode cX5_head 155 = .ok (.isub, 1) := by decide +kernel
theorem dX5_head_156 : decode cX5_head 156 = .ok (.iload 5, 2) := by decide +kernel
theorem dX5_head_158 : decode cX5_head 158 = .ok (.if_icmp .ge 13, 3) := by decide +kernel
theorem dX5_head_161 : decode cX5_head 161 = .ok (.aload_n 0, 1) := by decide +kernel
theorem dX5_head_162 : decode cX5_head 162 = .ok (.iconst 1, 1) := by decide +kernel
theorem dX5_head_163 : decode cX5_head 163 = .ok (.aload_n 0, 1) := by decide +kernel
theorem dX5_head_164 : decode cX5_head 164 = .ok (.getfield 55, 3) := by decide +kernel
theorem dX5_head_167 : decode cX5_head 167 = .ok (.invokevirtual 90, 3) := by decide +kernel
theorem dX5_head_170 : decode cX5_head 170 = .ok (.ireturn, 1) := by decide +kernel
theorem dX5_head_171 : decode cX5_head 171 = .ok (.iload 4, 2) := by decide +kernel
theorem dX5_head_173 : decode cX5_head 173 = .ok (.i2l, 1) := by decide +kernel
theorem dX5_head_174 : decode cX5_head 174 = .ok (.lstore 6, 2) := by decide +kernel
theorem dX5_head_176 : decode cX5_head 176 = .ok (.iload 5, 2) := by decide +kernel
theorem dX5_head_178 : decode cX5_head 178 = .ok (.ifCond .le 99, 3) := by decide +kernel
theorem dX5_head_181 : decode cX5_head 181 = .ok (.lconst 0, 1) := by decide +kernel
theorem dX5_head_182 : decode cX5_head 182 = .ok (.lstore 6, 2) := by decide +kernel
theorem dX5_head_184 : decode cX5_head 184 = .ok (.iconst 1, 1) := by decide +kernel
theorem dX5_head_185 : decode cX5_head 185 = .ok (.istore 8, 2) := by decide +kernel
theorem dX5_head_187 : decode cX5_head 187 = .ok (.iload 8, 2) := by decide +kernel
theorem dX5_head_189 : decode cX5_head 189 = .ok (.iload 5, 2) := by decide +kernel
theorem dX5_head_191 : decode cX5_head 191 = .ok (.if_icmp .gt 30, 3) := by decide +kernel
theorem dX5_head_194 : decode cX5_head 194 = .ok (.lload 6, 2) := by decide +kernel
theorem dX5_head_196 : decode cX5_head 196 = .ok (.bipush 8, 2) := by decide +kernel
theorem dX5_head_198 : decode cX5_head 198 = .ok (.lshl, 1) := by decide +kernel
theorem dX5_head_199 : decode cX5_head 199 = .ok (.aload_n 0, 1) := by decide +kernel
theorem dX5_head_200 : decode cX5_head 200 = .ok (.getfield 7, 3) := by decide +kernel
theorem dX5_head_203 : decode cX5_head 203 = .ok (.aload_n 0, 1) := by decide +kernel
theorem dX5_head_204 : decode cX5_head 204 = .ok (.getfield 64, 3) := by decide +kernel
theorem dX5_head_207 : decode cX5_head 207 = .ok (.iload 8, 2) := by decide +kernel
theorem dX5_head_209 : decode cX5_head 209 = .ok (.iadd, 1) := by decide +kernel
theorem dX5_head_210 : decode cX5_head 210 = .ok (.iaload, 1) := by decide +kernel
theorem dX5_head_211 : decode cX5_head 211 = .ok (.i2l, 1) := by decide +kernel
theorem dX5_head_212 : decode cX5_head 212 = .ok (.lor, 1) := by decide +kernel
theorem dX5_head_213 : decode cX5_head 213 = .ok (.lstore 6, 2) := by decide +kernel
theorem dX5_head_215 : decode cX5_head 215 = .ok (.iinc 8 1, 3) := by decide +kernel
theorem dX5_head_218 : decode cX5_head 218 = .ok (.goto (-31), 3) := by decide +kernel
theorem dX5_head_221 : decode cX5_head 221 = .ok (.iload 5, 2) := by decide +kernel
theorem dX5_head_223 : decode cX5_head 223 = .ok (.iconst 1, 1) := by decide +kernel
theorem dX5_head_224 : decode cX5_head 224 = .ok (.if_icmp .ne 9, 3) := by decide +kernel
theorem dX5_head_227 : decode cX5_head 227 = .ok (.ldc2_w 195, 3) := by decide +kernel
theorem dX5_head_230 : decode cX5_head 230 = .ok (.goto 9, 3) := by decide +kernel
theorem dX5_head_233 : decode cX5_head 233 = .ok (.lconst 1, 1) := by decide +kernel
theorem dX5_head_234 : decode cX5_head 234 = .ok (.iconst 4, 1) := by decide +kernel
theorem dX5_head_235 : decode cX5_head 235 = .ok (.iload 5, 2) := by decide +kernel
theorem dX5_head_237 : decode cX5_head 237 = .ok (.imul, 1) := by decide +kernel
theorem dX5_head_238 : decode cX5_head 238 = .ok (.lshl, 1) := by decide +kernel
theorem dX5_head_239 : decode cX5_head 239 = .ok (.lstore 8, 2) := by decide +kernel
theorem dX5_head_241 : decode cX5_head 241 = .ok (.iload 5, 2) := by decide +kernel
theorem dX5_head_243 : decode cX5_head 243 = .ok (.bipush 8, 2) := by decide +kernel
theorem dX5_head_245 : decode cX5_head 245 = .ok (.if_icmp .ge 14, 3) := by decide +kernel
theorem dX5_head_248 : decode cX5_head 248 = .ok (.lload 6, 2) := by decide +kernel
theorem dX5_head_250 : decode cX5_head 250 = .ok (.lload 8, 2) := by decide +kernel
theorem dX5_head_252 : decode cX5_head 252 = .ok (.lcmp, 1) := by decide +kernel
theorem dX5_head_253 : decode cX5_head 253 = .ok (.ifCond .ge 24, 3) := by decide +kernel
theorem dX5_head_256 : decode cX5_head 256 = .ok (.goto 13, 3) := by decide +kernel
theorem dX5_head_259 : decode cX5_head 259 = .ok (.lload 6, 2) := by decide +kernel
theorem dX5_head_261 : decode cX5_head 261 = .ok (.bipush 32, 2) := by decide +kernel
theorem dX5_head_263 : decode cX5_head 263 = .ok (.lushr, 1) := by decide +kernel
theorem dX5_head_264 : decode cX5_head 264 = .ok (.lconst 0, 1) := by decide +kernel
theorem dX5_head_265 : decode cX5_head 265 = .ok (.lcmp, 1) := by decide +kernel
theorem dX5_head_266 : decode cX5_head 266 = .ok (.ifCond .ne 11, 3) := by decide +kernel
theorem dX5_head_269 : decode cX5_head 269 = .ok (.aload_n 0, 1) := by decide +kernel
theorem dX5_head_270 : decode cX5_head 270 = .ok (.bipush 6, 2) := by decide +kernel
theorem dX5_head_272 : decode cX5_head 272 = .ok (.iload_n 2, 1) := by decide +kernel
theorem dX5_head_273 : decode cX5_head 273 = .ok (.invokevirtual 90, 3) := by decide +kernel
theorem dX5_head_276 : decode cX5_head 276 = .ok (.ireturn, 1) := by decide +kernel
theorem dX5_head_277 : decode cX5_head 277 = .ok (.aload_n 0, 1) := by decide +kernel
theorem dX5_head_278 : decode cX5_head 278 = .ok (.dup, 1) := by decide +kernel
theorem dX5_head_279 : decode cX5_head 279 = .ok (.getfield 64, 3) := by decide +kernel
theorem dX5_head_282 : decode cX5_head 282 = .ok (.iload 5, 2) := by decide +kernel
theorem dX5_head_284 : decode cX5_head 284 = .ok (.iconst 1, 1) := by decide +kernel
theorem dX5_head_285 : decode cX5_head 285 = .ok (.iadd, 1) := by decide +kernel
theorem dX5_head_286 : decode cX5_head 286 = .ok (.iadd, 1) := by decide +kernel
theorem dX5_head_287 : decode cX5_head 287 = .ok (.putfield 64, 3) := by decide +kernel
theorem dX5_head_290 : decode cX5_head 290 = .ok (.iload_n 3, 1) := by decide +kernel
theorem dX5_head_291 : decode cX5_head 291 = .ok (.iconst 4, 1) := by decide +kernel
theorem dX5_head_292 : decode cX5_head 292 = .ok (.if_icmp .eq 8, 3) := by decide +kernel
theorem dX5_head_295 : decode cX5_head 295 = .ok (.iload_n 3, 1) := by decide +kernel
theorem dX5_head_296 : decode cX5_head 296 = .ok (.iconst 5, 1) := by decide +kernel
theorem dX5_head_297 : decode cX5_head 297 = .ok (.if_icmp .ne 21, 3) := by decide +kernel
theorem dX5_head_300 : decode cX5_head 300 = .ok (.aload_n 0, 1) := by decide +kernel
theorem dX5_head_301 : decode cX5_head 301 = .ok (.getfield 73, 3) := by decide +kernel
theorem dX5_head_304 : decode cX5_head 304 = .ok (.aload_n 0, 1) := by decide +kernel
theorem dX5_head_305 : decode cX5_head 305 = .ok (.getfield 13, 3) := by decide +kernel
theorem dX5_head_308 : decode cX5_head 308 = .ok (.if_icmp .ne 10, 3) := by decide +kernel
theorem dX5_head_311 : decode cX5_head 311 = .ok (.aload_n 0, 1) := by decide +kernel
theorem dX5_head_312 : decode cX5_head 312 = .ok (.iconst 4, 1) := by decide +kernel
theorem dX5_head_313 : decode cX5_head 313 = .ok (.iload_n 2, 1) := by decide +kernel
theorem dX5_head_314 : decode cX5_head 314 = .ok (.invokevirtual 90, 3) := by decide +kernel
theorem dX5_head_317 : decode cX5_head 317 = .ok (.ireturn, 1) := by decide +kernel
theorem dX5_head_318 : decode cX5_head 318 = .ok (.aload_n 0, 1) := by decide +kernel
theorem dX5_head_319 : decode cX5_head 319 = .ok (.iload_n 3, 1) := by decide +kernel
theorem dX5_head_320 : decode cX5_head 320 = .ok (.lload 6, 2) := by decide +kernel
theorem dX5_head_322 : decode cX5_head 322 = .ok (.invokevirtual 125, 3) := by decide +kernel
theorem dX5_head_325 : decode cX5_head 325 = .ok (.pop, 1) := by decide +kernel
theorem dX5_head_326 : decode cX5_head 326 = .ok (.iload_n 3, 1) := by decide +kernel
theorem dX5_head_327 : decode cX5_head 327 = .ok (.iconst 3, 1) := by decide +kernel
theorem dX5_head_328 : decode cX5_head 328 = .ok (.if_icmp .ne 12, 3) := by decide +kernel
theorem dX5_head_331 : decode cX5_head 331 = .ok (.aload_n 0, 1) := by decide +kernel
theorem dX5_head_332 : decode cX5_head 332 = .ok (.lload 6, 2) := by decide +kernel
theorem dX5_head_334 : decode cX5_head 334 = .ok (.invokevirtual 197, 3) := by decide +kernel
theorem dX5_head_337 : decode cX5_head 337 = .ok (.ifCond .eq 7, 3) := by decide +kernel
theorem dX5_head_340 : decode cX5_head 340 = .ok (.iconst 1, 1) := by decide +kernel
theorem dX5_head_341 : decode cX5_head 341 = .ok (.goto 4, 3) := by decide +kernel
theorem dX5_head_344 : decode cX5_head 344 = .ok (.iconst 0, 1) := by decide +kernel
theorem dX5_head_345 : decode cX5_head 345 = .ok (.ireturn, 1) := by decide +kernel
theorem dX5_text_0 : decode cX5_text 0 = .ok (.lload_n 1, 1) := by decide +kernel
theorem dX5_text_1 : decode cX5_text 1 = .ok (.lconst 0, 1) := by decide +kernel
theorem dX5_text_2 : decode cX5_text 2 = .ok (.lcmp, 1) := by decide +kernel
theorem dX5_text_3 : decode cX5_text 3 = .ok (.ifCond .lt 18, 3) := by decide +kernel
theorem dX5_text_6 : decode cX5_text 6 = .ok (.lload_n 1, 1) := by decide +kernel
theorem dX5_text_7 : decode cX5_text 7 = .ok (.aload_n 0, 1) := by decide +kernel
theorem dX5_text_8 : decode cX5_text 8 = .ok (.getfield 55, 3) := by decide +kernel
theorem dX5_text_11 : decode cX5_text 11 = .ok (.aload_n 0, 1) := by decide +kernel
theorem dX5_text_12 : decode cX5_text 12 = .ok (.getfield 64, 3) := by decide +kernel
theorem dX5_text_15 : decode cX5_text 15 = .ok (.isub, 1) := by decide +kernel
theorem dX5_text_16 : decode cX5_text 16 = .ok (.i2l, 1) := by decide +kernel
theorem dX5_text_17 : decode cX5_text 17 = .ok (.lcmp, 1) := by decide +kernel
theorem dX5_text_18 : decode cX5_text 18 = .ok (.ifCond .le 13, 3) := by decide +kernel
theorem dX5_text_21 : decode cX5_text 21 = .ok (.aload_n 0, 1) := by decide +kernel
theorem dX5_text_22 : decode cX5_text 22 = .ok (.iconst 1, 1) := by decide +kernel
theorem dX5_text_23 : decode cX5_text 23 = .ok (.aload_n 0, 1) := by decide +kernel
theorem dX5_text_24 : decode cX5_text 24 = .ok (.getfield 55, 3) := by decide +kernel
theorem dX5_text_27 : decode cX5_text 27 = .ok (.invokevirtual 90, 3) := by decide +kernel
theorem dX5_text_30 : decode cX5_text 30 = .ok (.ireturn, 1) := by decide +kernel
theorem dX5_text_31 : decode cX5_text 31 = .ok (.aload_n 0, 1) := by decide +kernel
theorem dX5_text_32 : decode cX5_text 32 = .ok (.getfield 64, 3) := by decide +kernel
theorem dX5_text_35 : decode cX5_text 35 = .ok (.lload_n 1, 1) := by decide +kernel
theorem dX5_text_36 : decode cX5_text 36 = .ok (.l2i, 1) := by decide +kernel
theorem dX5_text_37 : decode cX5_text 37 = .ok (.iadd, 1) := by decide +kernel
theorem dX5_text_38 : decode cX5_text 38 = .ok (.istore_n 3, 1) := by decide +kernel
theorem dX5_text_39 : decode cX5_text 39 = .ok (.aload_n 0, 1) := by decide +kernel
theorem dX5_text_40 : decode cX5_text 40 = .ok (.getfield 64, 3) := by decide +kernel
theorem dX5_text_43 : decode cX5_text 43 = .ok (.iload_n 3, 1) := by decide +kernel
theorem dX5_text_44 : decode cX5_text 44 = .ok (.if_icmp .ge 75, 3) := by decide +kernel
theorem dX5_text_47 : decode cX5_text 47 = .ok (.aload_n 0, 1) := by decide +kernel
theorem dX5_text_48 : decode cX5_text 48 = .ok (.aload_n 0, 1) := by decide +kernel
theorem dX5_text_49 : decode cX5_text 49 = .ok (.getfield 64, 3) := by decide +kernel
theorem dX5_text_52 : decode cX5_text 52 = .ok (.iload_n 3, 1) := by decide +kernel
theorem dX5_text_53 : decode cX5_text 53 = .ok (.invokevirtual 149, 3) := by decide +kernel
theorem dX5_text_56 : decode cX5_text 56 = .ok (.istore 4, 2) := by decide +kernel
theorem dX5_text_58 : decode cX5_text 58 = .ok (.iload 4, 2) := by decide +kernel
theorem dX5_text_60 : decode cX5_text 60 = .ok (.ifCond .ne 13, 3) := by decide +kernel
theorem dX5_text_63 : decode cX5_text 63 = .ok (.aload_n 0, 1) := by decide +kernel
theorem dX5_text_64 : decode cX5_text 64 = .ok (.iconst 3, 1) := by decide +kernel
theorem dX5_text_65 : decode cX5_text 65 = .ok (.aload_n 0, 1) := by decide +kernel
theorem dX5_text_66 : decode cX5_text 66 = .ok (.getfield 64, 3) := by decide +kernel
theorem dX5_text_69 : decode cX5_text 69 = .ok (.invokevirtual 90, 3) := by decide +kernel
theorem dX5_text_72 : decode cX5_text 72 = .ok (.ireturn, 1) := by decide +kernel
theorem dX5_text_73 : decode cX5_text 73 = .ok (.iconst 0, 1) := by decide +kernel
theorem dX5_text_74 : decode cX5_text 74 = .ok (.istore 5, 2) := by decide +kernel
theorem dX5_text_76 : decode cX5_text 76 = .ok (.iload 5, 2) := by decide +kernel
theorem dX5_text_78 : decode cX5_text 78 = .ok (.iload 4, 2) := by decide +kernel
theorem dX5_text_80 : decode cX5_text 80 = .ok (.if_icmp .ge 25, 3) := by decide +kernel
theorem dX5_text_83 : decode cX5_text 83 = .ok (.aload_n 0, 1) := by decide +kernel
