theorem dX0_init_0 : decode cX0_init 0 = .ok (.aload_n 0, 1) := by decide +kernel
theorem dX0_init_1 : decode cX0_init 1 = .ok (.aload_n 1, 1) := by decide +kernel
theorem dX0_init_2 : decode cX0_init 2 = .ok (.aload_n 2, 1) := by decide +kernel
theorem dX0_init_3 : decode cX0_init 3 = .ok (.iload_n 3, 1) := by decide +kernel
theorem dX0_init_4 : decode cX0_init 4 = .ok (.invokespecial 3, 3) := by decide +kernel
theorem dX0_init_7 : decode cX0_init 7 = .ok (.aload_n 0, 1) := by decide +kernel
theorem dX0_init_8 : decode cX0_init 8 = .ok (.iconst 0, 1) := by decide +kernel
theorem dX0_init_9 : decode cX0_init 9 = .ok (.putfield 9, 3) := by decide +kernel
theorem dX0_init_12 : decode cX0_init 12 = .ok (.aload_n 0, 1) := by decide +kernel
theorem dX0_init_13 : decode cX0_init 13 = .ok (.lconst 0, 1) := by decide +kernel
theorem dX0_init_14 : decode cX0_init 14 = .ok (.putfield 15, 3) := by decide +kernel
theorem dX0_init_17 : decode cX0_init 17 = .ok (.return_, 1) := by decide +kernel
theorem dX0_readEnd_0 : decode cX0_readEnd 0 = .ok (.aload_n 0, 1) := by decide +kernel
theorem dX0_readEnd_1 : decode cX0_readEnd 1 = .ok (.getfield 19, 3) := by decide +kernel
theorem dX0_readEnd_4 : decode cX0_readEnd 4 = .ok (.aload_n 0, 1) := by decide +kernel
theorem dX0_readEnd_5 : decode cX0_readEnd 5 = .ok (.getfield 22, 3) := by decide +kernel
theorem dX0_readEnd_8 : decode cX0_readEnd 8 = .ok (.invokevirtual 26, 3) := by decide +kernel
theorem dX0_readEnd_11 : decode cX0_readEnd 11 = .ok (.if_icmp .eq 15, 3) := by decide +kernel
theorem dX0_readEnd_14 : decode cX0_readEnd 14 = .ok (.aload_n 0, 1) := by decide +kernel
theorem dX0_readEnd_15 : decode cX0_readEnd 15 = .ok (.iconst 1, 1) := by decide +kernel
theorem dX0_readEnd_16 : decode cX0_readEnd 16 = .ok (.aload_n 0, 1) := by decide +kernel
theorem dX0_readEnd_17 : decode cX0_readEnd 17 = .ok (.getfield 19, 3) := by decide +kernel
theorem dX0_readEnd_20 : decode cX0_readEnd 20 = .ok (.invokevirtual 32, 3) := by decide +kernel
theorem dX0_readEnd_23 : decode cX0_readEnd 23 = .ok (.ifCond .eq 7, 3) := by decide +kernel
theorem dX0_readEnd_26 : decode cX0_readEnd 26 = .ok (.iconst 1, 1) := by decide +kernel
theorem dX0_readEnd_27 : decode cX0_readEnd 27 = .ok (.goto 4, 3) := by decide +kernel
theorem dX0_readEnd_30 : decode cX0_readEnd 30 = .ok (.iconst 0, 1) := by decide +kernel
theorem dX0_readEnd_31 : decode cX0_readEnd 31 = .ok (.ireturn, 1) := by decide +kernel
theorem dX0_readItem_0 : decode cX0_readItem 0 = .ok (.aload_n 0, 1) := by decide +kernel
theorem dX0_readItem_1 : decode cX0_readItem 1 = .ok (.getfield 19, 3) := by decide +kernel
theorem dX0_readItem_4 : decode cX0_readItem 4 = .ok (.istore_n 2, 1) := by decide +kernel
theorem dX0_readItem_5 : decode cX0_readItem 5 = .ok (.aload_n 0, 1) := by decide +kernel
theorem dX0_readItem_6 : decode cX0_readItem 6 = .ok (.iconst 0, 1) := by decide +kernel
theorem dX0_readItem_7 : decode cX0_readItem 7 = .ok (.invokevirtual 36, 3) := by decide +kernel
theorem dX0_readItem_10 : decode cX0_readItem 10 = .ok (.ifCond .ne 5, 3) := by decide +kernel
theorem dX0_readItem_13 : decode cX0_readItem 13 = .ok (.iconst 0, 1) := by decide +kernel
theorem dX0_readItem_14 : decode cX0_readItem 14 = .ok (.ireturn, 1) := by decide +kernel
theorem dX0_readItem_15 : decode cX0_readItem 15 = .ok (.aload_n 0, 1) := by decide +kernel
theorem dX0_readItem_16 : decode cX0_readItem 16 = .ok (.getfield 9, 3) := by decide +kernel
theorem dX0_readItem_19 : decode cX0_readItem 19 = .ok (.tableswitch 87 0 5 #[37, 47, 87, 57, 62, 62], 37) := by decide +kernel
theorem dX0_readItem_56 : decode cX0_readItem 56 = .ok (.aload_n 0, 1) := by decide +kernel
theorem dX0_readItem_57 : decode cX0_readItem 57 = .ok (.aload_n 0, 1) := by decide +kernel
theorem dX0_readItem_58 : decode cX0_readItem 58 = .ok (.getfield 15, 3) := by decide +kernel
theorem dX0_readItem_61 : decode cX0_readItem 61 = .ok (.invokevirtual 40, 3) := by decide +kernel
theorem dX0_readItem_64 : decode cX0_readItem 64 = .ok (.iconst 1, 1) := by decide +kernel
theorem dX0_readItem_65 : decode cX0_readItem 65 = .ok (.ireturn, 1) := by decide +kernel
theorem dX0_readItem_66 : decode cX0_readItem 66 = .ok (.aload_n 0, 1) := by decide +kernel
theorem dX0_readItem_67 : decode cX0_readItem 67 = .ok (.aload_n 0, 1) := by decide +kernel
theorem dX0_readItem_68 : decode cX0_readItem 68 = .ok (.getfield 15, 3) := by decide +kernel
theorem dX0_readItem_71 : decode cX0_readItem 71 = .ok (.invokevirtual 44, 3) := by decide +kernel
theorem dX0_readItem_74 : decode cX0_readItem 74 = .ok (.iconst 1, 1) := by decide +kernel
theorem dX0_readItem_75 : decode cX0_readItem 75 = .ok (.ireturn, 1) := by decide +kernel
theorem dX0_readItem_76 : decode cX0_readItem 76 = .ok (.aload_n 0, 1) := by decide +kernel
theorem dX0_readItem_77 : decode cX0_readItem 77 = .ok (.invokevirtual 47, 3) := by decide +kernel
theorem dX0_readItem_80 : decode cX0_readItem 80 = .ok (.ireturn, 1) := by decide +kernel
theorem dX0_readItem_81 : decode cX0_readItem 81 = .ok (.iload_n 1, 1) := by decide +kernel
theorem dX0_readItem_82 : decode cX0_readItem 82 = .ok (.aload_n 0, 1) := by decide +kernel
theorem dX0_readItem_83 : decode cX0_readItem 83 = .ok (.getfield 51, 3) := by decide +kernel
theorem dX0_readItem_86 : decode cX0_readItem 86 = .ok (.if_icmp .ge 13, 3) := by decide +kernel
theorem dX0_readItem_89 : decode cX0_readItem 89 = .ok (.aload_n 0, 1) := by decide +kernel
theorem dX0_readItem_90 : decode cX0_readItem 90 = .ok (.iload_n 1, 1) := by decide +kernel
theorem dX0_readItem_91 : decode cX0_readItem 91 = .ok (.iconst 1, 1) := by decide +kernel
theorem dX0_readItem_92 : decode cX0_readItem 92 = .ok (.iadd, 1) := by decide +kernel
theorem dX0_readItem_93 : decode cX0_readItem 93 = .ok (.invokevirtual 54, 3) := by decide +kernel
theorem dX0_readItem_96 : decode cX0_readItem 96 = .ok (.goto 9, 3) := by decide +kernel
theorem dX0_readItem_99 : decode cX0_readItem 99 = .ok (.aload_n 0, 1) := by decide +kernel
theorem dX0_readItem_100 : decode cX0_readItem 100 = .ok (.iconst 4, 1) := by decide +kernel
theorem dX0_readItem_101 : decode cX0_readItem 101 = .ok (.iload_n 2, 1) := by decide +kernel
theorem dX0_readItem_102 : decode cX0_readItem 102 = .ok (.invokevirtual 32, 3) := by decide +kernel
theorem dX0_readItem_105 : decode cX0_readItem 105 = .ok (.ireturn, 1) := by decide +kernel
theorem dX0_readItem_106 : decode cX0_readItem 106 = .ok (.aload_n 0, 1) := by decide +kernel
theorem dX0_readItem_107 : decode cX0_readItem 107 = .ok (.getfield 58, 3) := by decide +kernel
theorem dX0_readItem_110 : decode cX0_readItem 110 = .ok (.aload_n 0, 1) := by decide +kernel
theorem dX0_readItem_111 : decode cX0_readItem 111 = .ok (.getfield 15, 3) := by decide +kernel
theorem dX0_readItem_114 : decode cX0_readItem 114 = .ok (.ldc2_w 61, 3) := by decide +kernel
theorem dX0_readItem_117 : decode cX0_readItem 117 = .ok (.lcmp, 1) := by decide +kernel
theorem dX0_readItem_118 : decode cX0_readItem 118 = .ok (.ifCond .ne 8, 3) := by decide +kernel
theorem dX0_readItem_121 : decode cX0_readItem 121 = .ok (.ldc 63, 2) := by decide +kernel
theorem dX0_readItem_123 : decode cX0_readItem 123 = .ok (.goto 21, 3) := by decide +kernel
theorem dX0_readItem_126 : decode cX0_readItem 126 = .ok (.aload_n 0, 1) := by decide +kernel
theorem dX0_readItem_127 : decode cX0_readItem 127 = .ok (.getfield 15, 3) := by decide +kernel
theorem dX0_readItem_130 : decode cX0_readItem 130 = .ok (.ldc2_w 65, 3) := by decide +kernel
theorem dX0_readItem_133 : decode cX0_readItem 133 = .ok (.lcmp, 1) := by decide +kernel
theorem dX0_readItem_134 : decode cX0_readItem 134 = .ok (.ifCond .ne 8, 3) := by decide +kernel
theorem dX0_readItem_137 : decode cX0_readItem 137 = .ok (.ldc 67, 2) := by decide +kernel
theorem dX0_readItem_139 : decode cX0_readItem 139 = .ok (.goto 5, 3) := by decide +kernel
theorem dX0_readItem_142 : decode cX0_readItem 142 = .ok (.ldc 69, 2) := by decide +kernel
theorem dX0_readItem_144 : decode cX0_readItem 144 = .ok (.invokevirtual 71, 3) := by decide +kernel
theorem dX0_readItem_147 : decode cX0_readItem 147 = .ok (.iconst 1, 1) := by decide +kernel
theorem dX0_readItem_148 : decode cX0_readItem 148 = .ok (.ireturn, 1) := by decide +kernel
theorem dX0_readHead_0 : decode cX0_readHead 0 = .ok (.aload_n 0, 1) := by decide +kernel
theorem dX0_readHead_1 : decode cX0_readHead 1 = .ok (.getfield 22, 3) := by decide +kernel
theorem dX0_readHead_4 : decode cX0_readHead 4 = .ok (.aload_n 0, 1) := by decide +kernel
theorem dX0_readHead_5 : decode cX0_readHead 5 = .ok (.getfield 19, 3) := by decide +kernel
theorem dX0_readHead_8 : decode cX0_readHead 8 = .ok (.invokevirtual 75, 3) := by decide +kernel
theorem dX0_readHead_11 : decode cX0_readHead 11 = .ok (.istore_n 2, 1) := by decide +kernel
theorem dX0_readHead_12 : decode cX0_readHead 12 = .ok (.iload_n 2, 1) := by decide +kernel
theorem dX0_readHead_13 : decode cX0_readHead 13 = .ok (.iconst (-1), 1) := by decide +kernel
theorem dX0_readHead_14 : decode cX0_readHead 14 = .ok (.if_icmp .ne 16, 3) := by decide +kernel
theorem dX0_readHead_17 : decode cX0_readHead 17 = .ok (.aload_n 0, 1) := by decide +kernel
theorem dX0_readHead_18 : decode cX0_readHead 18 = .ok (.iconst 1, 1) := by decide +kernel
theorem dX0_readHead_19 : decode cX0_readHead 19 = .ok (.aload_n 0, 1) := by decide +kernel
theorem dX0_readHead_20 : decode cX0_readHead 20 = .ok (.getfield 22, 3) := by decide +kernel
theorem dX0_readHead_23 : decode cX0_readHead 23 = .ok (.invokevirtual 26, 3) := by decide +kernel
theorem dX0_readHead_26 : decode cX0_readHead 26 = .ok (.invokevirtual 32, 3) := by decide +kernel
theorem dX0_readHead_29 : decode cX0_readHead 29 = .ok (.ireturn, 1) := by decide +kernel
theorem dX0_readHead_30 : decode cX0_readHead 30 = .ok (.aload_n 0, 1) := by decide +kernel
theorem dX0_readHead_31 : decode cX0_readHead 31 = .ok (.iload_n 2, 1) := by decide +kernel
theorem dX0_readHead_32 : decode cX0_readHead 32 = .ok (.iconst 5, 1) := by decide +kernel
theorem dX0_readHead_33 : decode cX0_readHead 33 = .ok (.ishr, 1) := by decide +kernel
theorem dX0_readHead_34 : decode cX0_readHead 34 = .ok (.putfield 9, 3) := by decide +kernel
theorem dX0_readHead_37 : decode cX0_readHead 37 = .ok (.iload_n 2, 1) := by decide +kernel
theorem dX0_readHead_38 : decode cX0_readHead 38 = .ok (.bipush 31, 2) := by decide +kernel
theorem dX0_readHead_40 : decode cX0_readHead 40 = .ok (.iand, 1) := by decide +kernel
theorem dX0_readHead_41 : decode cX0_readHead 41 = .ok (.istore_n 3, 1) := by decide +kernel
theorem dX0_readHead_42 : decode cX0_readHead 42 = .ok (.aload_n 0, 1) := by decide +kernel
theorem dX0_readHead_43 : decode cX0_readHead 43 = .ok (.iload_n 3, 1) := by decide +kernel
theorem dX0_readHead_44 : decode cX0_readHead 44 = .ok (.iload_n 1, 1) := by decide +kernel
theorem dX0_readHead_45 : decode cX0_readHead 45 = .ok (.invokevirtual 79, 3) := by decide +kernel
theorem dX0_readHead_48 : decode cX0_readHead 48 = .ok (.istore 4, 2) := by decide +kernel
theorem dX0_readHead_50 : decode cX0_readHead 50 = .ok (.iload 4, 2) := by decide +kernel
theorem dX0_readHead_52 : decode cX0_readHead 52 = .ok (.ifCond .eq 14, 3) := by decide +kernel
theorem dX0_readHead_55 : decode cX0_readHead 55 = .ok (.aload_n 0, 1) := by decide +kernel
theorem dX0_readHead_56 : decode cX0_readHead 56 = .ok (.iload 4, 2) := by decide +kernel
theorem dX0_readHead_58 : decode cX0_readHead 58 = .ok (.aload_n 0, 1) := by decide +kernel
theorem dX0_readHead_59 : decode cX0_readHead 59 = .ok (.getfield 19, 3) := by decide +kernel
theorem dX0_readHead_62 : decode cX0_readHead 62 = .ok (.invokevirtual 32, 3) := by decide +kernel
theorem dX0_readHead_65 : decode cX0_readHead 65 = .ok (.ireturn, 1) := by decide +kernel
theorem dX0_readHead_66 : decode cX0_readHead 66 = .ok (.iload_n 3, 1) := by decide +kernel
theorem dX0_readHead_67 : decode cX0_readHead 67 = .ok (.invokestatic 83, 3) := by decide +kernel
theorem dX0_readHead_70 : decode cX0_readHead 70 = .ok (.istore 5, 2) := by decide +kernel
theorem dX0_readHead_72 : decode cX0_readHead 72 = .ok (.iload 5, 2) := by decide +kernel
theorem dX0_readHead_74 : decode cX0_readHead 74 = .ok (.aload_n 0, 1) := by decide +kernel
theorem dX0_readHead_75 : decode cX0_readHead 75 = .ok (.getfield 22, 3) := by decide +kernel
theorem dX0_readHead_78 : decode cX0_readHead 78 = .ok (.invokevirtual 26, 3) := by decide +kernel
theorem dX0_readHead_81 : decode cX0_readHead 81 = .ok (.aload_n 0, 1) := by decide +kernel
theorem dX0_readHead_82 : decode cX0_readHead 82 = .ok (.getfield 19, 3) := by decide +kernel
theorem dX0_readHead_85 : decode cX0_readHead 85 = .ok (.isub, 1) := by decide +kernel
theorem dX0_readHead_86 : decode cX0_readHead 86 = .ok (.if_icmp .lt 16, 3) := by decide +kernel
theorem dX0_readHead_89 : decode cX0_readHead 89 = .ok (.aload_n 0, 1) := by decide +kernel
theorem dX0_readHead_90 : decode cX0_readHead 90 = .ok (.iconst 1, 1) := by decide +kernel
theorem dX0_readHead_91 : decode cX0_readHead 91 = .ok (.aload_n 0, 1) := by decide +kernel
theorem dX0_readHead_92 : decode cX0_readHead 92 = .ok (.getfield 22, 3) := by decide +kernel
theorem dX0_readHead_95 : decode cX0_readHead 95 = .ok (.invokevirtual 26, 3) := by decide +kernel
theorem dX0_readHead_98 : decode cX0_readHead 98 = .ok (.invokevirtual 32, 3) := by decide +kernel
theorem dX0_readHead_101 : decode cX0_readHead 101 = .ok (.ireturn, 1) := by decide +kernel
theorem dX0_readHead_102 : decode cX0_readHead 102 = .ok (.aload_n 0, 1) := by decide +kernel
theorem dX0_readHead_103 : decode cX0_readHead 103 = .ok (.iload 5, 2) := by decide +kernel
theorem dX0_readHead_105 : decode cX0_readHead 105 = .ok (.ifCond .ne 8, 3) := by decide +kernel
theorem dX0_readHead_108 : decode cX0_readHead 108 = .ok (.iload_n 3, 1) := by decide +kernel
theorem dX0_readHead_109 : decode cX0_readHead 109 = .ok (.i2l, 1) := by decide +kernel
theorem dX0_readHead_110 : decode cX0_readHead 110 = .ok (.goto 9, 3) := by decide +kernel
theorem dX0_readHead_113 : decode cX0_readHead 113 = .ok (.aload_n 0, 1) := by decide +kernel
theorem dX0_readHead_114 : decode cX0_readHead 114 = .ok (.iload 5, 2) := by decide +kernel
theorem dX0_readHead_116 : decode cX0_readHead 116 = .ok (.invokevirtual 86, 3) := by decide +kernel
theorem dX0_readHead_119 : decode cX0_readHead 119 = .ok (.putfield 15, 3) := by decide +kernel
theorem dX0_readHead_122 : decode cX0_readHead 122 = .ok (.iload 5, 2) := by decide +kernel
theorem dX0_readHead_124 : decode cX0_readHead 124 = .ok (.ifCond .le 25, 3) := by decide +kernel
theorem dX0_readHead_127 : decode cX0_readHead 127 = .ok (.aload_n 0, 1) := by decide +kernel
theorem dX0_readHead_128 : decode cX0_readHead 128 = .ok (.getfield 15, 3) := by decide +kernel
theorem dX0_readHead_131 : decode cX0_readHead 131 = .ok (.invokestatic 90, 3) := by decide +kernel
theorem dX0_readHead_134 : decode cX0_readHead 134 = .ok (.iload_n 3, 1) := by decide +kernel
theorem dX0_readHead_135 : decode cX0_readHead 135 = .ok (.if_icmp .eq 14, 3) := by decide +kernel
theorem dX0_readHead_138 : decode cX0_readHead 138 = .ok (.aload_n 0, 1) := by decide +kernel
theorem dX0_readHead_139 : decode cX0_readHead 139 = .ok (.bipush 6, 2) := by decide +kernel
theorem dX0_readHead_141 : decode cX0_readHead 141 = .ok (.aload_n 0, 1) := by decide +kernel
theorem dX0_readHead_142 : decode cX0_readHead 142 = .ok (.getfield 19, 3) := by decide +kernel
theorem dX0_readHead_145 : decode cX0_readHead 145 = .ok (.invokevirtual 32, 3) := by decide +kernel
theorem dX0_readHead_148 : decode cX0_readHead 148 = .ok (.ireturn, 1) := by decide +kernel
theorem dX0_readHead_149 : decode cX0_readHead 149 = .ok (.aload_n 0, 1) := by decide +kernel
theorem dX0_readHead_150 : decode cX0_readHead 150 = .ok (.dup, 1) := by decide +kernel
theorem dX0_readHead_151 : decode cX0_readHead 151 = .ok (.getfield 19, 3) := by decide +kernel
theorem dX0_readHead_154 : decode cX0_readHead 154 = .ok (.iconst 1, 1) := by decide +kernel
theorem dX0_readHead_155 : decode cX0_readHead 155 = .ok (.iload 5, 2) := by decide +kernel
theorem dX0_readHead_157 : decode cX0_readHead 157 = .ok (.iadd, 1) := by decide +kernel
theorem dX0_readHead_158 : decode cX0_readHead 158 = .ok (.iadd, 1) := by decide +kernel
theorem dX0_readHead_159 : decode cX0_readHead 159 = .ok (.putfield 19, 3) := by decide +kernel
theorem dX0_readHead_162 : decode cX0_readHead 162 = .ok (.iconst 1, 1) := by decide +kernel
theorem dX0_readHead_163 : decode cX0_readHead 163 = .ok (.ireturn, 1) := by decide +kernel
theorem dX0_faultOfFirst_0 : decode cX0_faultOfFirst 0 = .ok (.aload_n 0, 1) := by decide +kernel
theorem dX0_faultOfFirst_1 : decode cX0_faultOfFirst 1 = .ok (.getfield 9, 3) := by decide +kernel
theorem dX0_faultOfFirst_4 : decode cX0_faultOfFirst 4 = .ok (.ifCond .eq 20, 3) := by decide +kernel
theorem dX0_faultOfFirst_7 : decode cX0_faultOfFirst 7 = .ok (.aload_n 0, 1) := by decide +kernel
theorem dX0_faultOfFirst_8 : decode cX0_faultOfFirst 8 = .ok (.getfield 9, 3) := by decide +kernel
theorem dX0_faultOfFirst_11 : decode cX0_faultOfFirst 11 = .ok (.iconst 1, 1) := by decide +kernel
theorem dX0_faultOfFirst_12 : decode cX0_faultOfFirst 12 = .ok (.if_icmp .eq 12, 3) := by decide +kernel
theorem dX0_faultOfFirst_15 : decode cX0_faultOfFirst 15 = .ok (.aload_n 0, 1) := by decide +kernel
theorem dX0_faultOfFirst_16 : decode cX0_faultOfFirst 16 = .ok (.getfield 9, 3) := by decide +kernel
theorem dX0_faultOfFirst_19 : decode cX0_faultOfFirst 19 = .ok (.bipush 7, 2) := by decide +kernel
theorem dX0_faultOfFirst_21 : decode cX0_faultOfFirst 21 = .ok (.if_icmp .ne 7, 3) := by decide +kernel
theorem dX0_faultOfFirst_24 : decode cX0_faultOfFirst 24 = .ok (.iconst 1, 1) := by decide +kernel
theorem dX0_faultOfFirst_25 : decode cX0_faultOfFirst 25 = .ok (.goto 4, 3) := by decide +kernel
theorem dX0_faultOfFirst_28 : decode cX0_faultOfFirst 28 = .ok (.iconst 0, 1) := by decide +kernel
theorem dX0_faultOfFirst_29 : decode cX0_faultOfFirst 29 = .ok (.istore_n 3, 1) := by decide +kernel
theorem dX0_faultOfFirst_30 : decode cX0_faultOfFirst 30 = .ok (.iload_n 1, 1) := by decide +kernel
theorem dX0_faultOfFirst_31 : decode cX0_faultOfFirst 31 = .ok (.bipush 27, 2) := by decide +kernel
theorem dX0_faultOfFirst_33 : decode cX0_faultOfFirst 33 = .ok (.if_icmp .le 15, 3) := by decide +kernel
theorem dX0_faultOfFirst_36 : decode cX0_faultOfFirst 36 = .ok (.iload_n 1, 1) := by decide +kernel
theorem dX0_faultOfFirst_37 : decode cX0_faultOfFirst 37 = .ok (.bipush 31, 2) := by decide +kernel
theorem dX0_faultOfFirst_39 : decode cX0_faultOfFirst 39 = .ok (.if_icmp .lt 7, 3) := by decide +kernel
theorem dX0_faultOfFirst_42 : decode cX0_faultOfFirst 42 = .ok (.iload_n 3, 1) := by decide +kernel
theorem dX0_faultOfFirst_43 : decode cX0_faultOfFirst 43 = .ok (.ifCond .eq 5, 3) := by decide +kernel
theorem dX0_faultOfFirst_46 : decode cX0_faultOfFirst 46 = .ok (.iconst 1, 1) := by decide +kernel
theorem dX0_faultOfFirst_47 : decode cX0_faultOfFirst 47 = .ok (.ireturn, 1) := by decide +kernel
theorem dX0_faultOfFirst_48 : decode cX0_faultOfFirst 48 = .ok (.aload_n 0, 1) := by decide +kernel
theorem dX0_faultOfFirst_49 : decode cX0_faultOfFirst 49 = .ok (.getfield 9, 3) := by decide +kernel
theorem dX0_faultOfFirst_52 : decode cX0_faultOfFirst 52 = .ok (.iconst 2, 1) := by decide +kernel
theorem dX0_faultOfFirst_53 : decode cX0_faultOfFirst 53 = .ok (.if_icmp .eq 24, 3) := by decide +kernel
theorem dX0_faultOfFirst_56 : decode cX0_faultOfFirst 56 = .ok (.aload_n 0, 1) := by decide +kernel
theorem dX0_faultOfFirst_57 : decode cX0_faultOfFirst 57 = .ok (.getfield 9, 3) := by decide +kernel
theorem dX0_faultOfFirst_60 : decode cX0_faultOfFirst 60 = .ok (.bipush 6, 2) := by decide +kernel
theorem dX0_faultOfFirst_62 : decode cX0_faultOfFirst 62 = .ok (.if_icmp .eq 15, 3) := by decide +kernel
theorem dX0_faultOfFirst_65 : decode cX0_faultOfFirst 65 = .ok (.iload_n 2, 1) := by decide +kernel
theorem dX0_faultOfFirst_66 : decode cX0_faultOfFirst 66 = .ok (.ifCond .eq 13, 3) := by decide +kernel
theorem dX0_faultOfFirst_69 : decode cX0_faultOfFirst 69 = .ok (.aload_n 0, 1) := by decide +kernel
theorem dX0_faultOfFirst_70 : decode cX0_faultOfFirst 70 = .ok (.getfield 9, 3) := by decide +kernel
theorem dX0_faultOfFirst_73 : decode cX0_faultOfFirst 73 = .ok (.iconst 3, 1) := by decide +kernel
theorem dX0_faultOfFirst_74 : decode cX0_faultOfFirst 74 = .ok (.if_icmp .eq 5, 3) := by decide +kernel
theorem dX0_faultOfFirst_77 : decode cX0_faultOfFirst 77 = .ok (.iconst 2, 1) := by decide +kernel
theorem dX0_faultOfFirst_78 : decode cX0_faultOfFirst 78 = .ok (.ireturn, 1) := by decide +kernel
theorem dX0_faultOfFirst_79 : decode cX0_faultOfFirst 79 = .ok (.aload_n 0, 1) := by decide +kernel
theorem dX0_faultOfFirst_80 : decode cX0_faultOfFirst 80 = .ok (.getfield 9, 3) := by decide +kernel
theorem dX0_faultOfFirst_83 : decode cX0_faultOfFirst 83 = .ok (.bipush 7, 2) := by decide +kernel
theorem dX0_faultOfFirst_85 : decode cX0_faultOfFirst 85 = .ok (.if_icmp .ne 17, 3) := by decide +kernel
theorem dX0_faultOfFirst_88 : decode cX0_faultOfFirst 88 = .ok (.iload_n 1, 1) := by decide +kernel
theorem dX0_faultOfFirst_89 : decode cX0_faultOfFirst 89 = .ok (.bipush 20, 2) := by decide +kernel
theorem dX0_faultOfFirst_91 : decode cX0_faultOfFirst 91 = .ok (.if_icmp .lt 9, 3) := by decide +kernel
theorem dX0_faultOfFirst_94 : decode cX0_faultOfFirst 94 = .ok (.iload_n 1, 1) := by decide +kernel
theorem dX0_faultOfFirst_95 : decode cX0_faultOfFirst 95 = .ok (.bipush 22, 2) := by decide +kernel
theorem dX0_faultOfFirst_97 : decode cX0_faultOfFirst 97 = .ok (.if_icmp .le 5, 3) := by decide +kernel
theorem dX0_faultOfFirst_100 : decode cX0_faultOfFirst 100 = .ok (.iconst 2, 1) := by decide +kernel
theorem dX0_faultOfFirst_101 : decode cX0_faultOfFirst 101 = .ok (.ireturn, 1) := by decide +kernel
theorem dX0_faultOfFirst_102 : decode cX0_faultOfFirst 102 = .ok (.iload_n 1, 1) := by decide +kernel
theorem dX0_faultOfFirst_103 : decode cX0_faultOfFirst 103 = .ok (.bipush 31, 2) := by decide +kernel
theorem dX0_faultOfFirst_105 : decode cX0_faultOfFirst 105 = .ok (.if_icmp .ne 8, 3) := by decide +kernel
theorem dX0_faultOfFirst_108 : decode cX0_faultOfFirst 108 = .ok (.bipush 6, 2) := by decide +kernel
theorem dX0_faultOfFirst_110 : decode cX0_faultOfFirst 110 = .ok (.goto 4, 3) := by decide +kernel
theorem dX0_faultOfFirst_113 : decode cX0_faultOfFirst 113 = .ok (.iconst 0, 1) := by decide +kernel
theorem dX0_faultOfFirst_114 : decode cX0_faultOfFirst 114 = .ok (.ireturn, 1) := by decide +kernel
theorem dX0_numberBehind_0 : decode cX0_numberBehind 0 = .ok (.lconst 0, 1) := by decide +kernel
theorem dX0_numberBehind_1 : decode cX0_numberBehind 1 = .ok (.lstore_n 2, 1) := by decide +kernel
theorem dX0_numberBehind_2 : decode cX0_numberBehind 2 = .ok (.iconst 1, 1) := by decide +kernel
theorem dX0_numberBehind_3 : decode cX0_numberBehind 3 = .ok (.istore 4, 2) := by decide +kernel
theorem dX0_numberBehind_5 : decode cX0_numberBehind 5 = .ok (.iload 4, 2) := by decide +kernel
theorem dX0_numberBehind_7 : decode cX0_numberBehind 7 = .ok (.iload_n 1, 1) := by decide +kernel
theorem dX0_numberBehind_8 : decode cX0_numberBehind 8 = .ok (.if_icmp .gt 30, 3) := by decide +kernel
theorem dX0_numberBehind_11 : decode cX0_numberBehind 11 = .ok (.lload_n 2, 1) := by decide +kernel
theorem dX0_numberBehind_12 : decode cX0_numberBehind 12 = .ok (.bipush 8, 2) := by decide +kernel
theorem dX0_numberBehind_14 : decode cX0_numberBehind 14 = .ok (.lshl, 1) := by decide +kernel
theorem dX0_numberBehind_15 : decode cX0_numberBehind 15 = .ok (.aload_n 0, 1) := by decide +kernel
theorem dX0_numberBehind_16 : decode cX0_numberBehind 16 = .ok (.getfield 22, 3) := by decide +kernel
theorem dX0_numberBehind_19 : decode cX0_numberBehind 19 = .ok (.aload_n 0, 1) := by decide +kernel
theorem dX0_numberBehind_20 : decode cX0_numberBehind 20 = .ok (.getfield 19, 3) := by decide +kernel
theorem dX0_numberBehind_23 : decode cX0_numberBehind 23 = .ok (.iload 4, 2) := by decide +kernel
theorem dX0_numberBehind_25 : decode cX0_numberBehind 25 = .ok (.iadd, 1) := by decide +kernel
theorem dX0_numberBehind_26 : decode cX0_numberBehind 26 = .ok (.invokevirtual 75, 3) := by decide +kernel
theorem dX0_numberBehind_29 : decode cX0_numberBehind 29 = .ok (.i2l, 1) := by decide +kernel
theorem dX0_numberBehind_30 : decode cX0_numberBehind 30 = .ok (.lor, 1) := by decide +kernel
theorem dX0_numberBehind_31 : decode cX0_numberBehind 31 = .ok (.lstore_n 2, 1) := by decide +kernel
theorem dX0_numberBehind_32 : decode cX0_numberBehind 32 = .ok (.iinc 4 1, 3) := by decide +kernel
theorem dX0_numberBehind_35 : decode cX0_numberBehind 35 = .ok (.goto (-30), 3) := by decide +kernel
theorem dX0_numberBehind_38 : decode cX0_numberBehind 38 = .ok (.lload_n 2, 1) := by decide +kernel
theorem dX0_numberBehind_39 : decode cX0_numberBehind 39 = .ok (.lreturn, 1) := by decide +kernel
theorem dX0_readParts_0 : decode cX0_readParts 0 = .ok (.aload_n 0, 1) := by decide +kernel
theorem dX0_readParts_1 : decode cX0_readParts 1 = .ok (.getfield 9, 3) := by decide +kernel
theorem dX0_readParts_4 : decode cX0_readParts 4 = .ok (.iconst 5, 1) := by decide +kernel
theorem dX0_readParts_5 : decode cX0_readParts 5 = .ok (.if_icmp .ne 7, 3) := by decide +kernel
theorem dX0_readParts_8 : decode cX0_readParts 8 = .ok (.iconst 1, 1) := by decide +kernel
theorem dX0_readParts_9 : decode cX0_readParts 9 = .ok (.goto 4, 3) := by decide +kernel
theorem dX0_readParts_12 : decode cX0_readParts 12 = .ok (.iconst 0, 1) := by decide +kernel
theorem dX0_readParts_13 : decode cX0_readParts 13 = .ok (.istore_n 2, 1) := by decide +kernel
theorem dX0_readParts_14 : decode cX0_readParts 14 = .ok (.aload_n 0, 1) := by decide +kernel
theorem dX0_readParts_15 : decode cX0_readParts 15 = .ok (.getfield 15, 3) := by decide +kernel
theorem dX0_readParts_18 : decode cX0_readParts 18 = .ok (.aload_n 0, 1) := by decide +kernel
theorem dX0_readParts_19 : decode cX0_readParts 19 = .ok (.getfield 22, 3) := by decide +kernel
theorem dX0_readParts_22 : decode cX0_readParts 22 = .ok (.invokevirtual 26, 3) := by decide +kernel
theorem dX0_readParts_25 : decode cX0_readParts 25 = .ok (.invokestatic 94, 3) := by decide +kernel
theorem dX0_readParts_28 : decode cX0_readParts 28 = .ok (.ifCond .eq 11, 3) := by decide +kernel
theorem dX0_readParts_31 : decode cX0_readParts 31 = .ok (.aload_n 0, 1) := by decide +kernel
theorem dX0_readParts_32 : decode cX0_readParts 32 = .ok (.getfield 15, 3) := by decide +kernel
theorem dX0_readParts_35 : decode cX0_readParts 35 = .ok (.l2i, 1) := by decide +kernel
theorem dX0_readParts_36 : decode cX0_readParts 36 = .ok (.goto 12, 3) := by decide +kernel
theorem dX0_readParts_39 : decode cX0_readParts 39 = .ok (.aload_n 0, 1) := by decide +kernel
theorem dX0_readParts_40 : decode cX0_readParts 40 = .ok (.getfield 22, 3) := by decide +kernel
theorem dX0_readParts_43 : decode cX0_readParts 43 = .ok (.invokevirtual 26, 3) := by decide +kernel
theorem dX0_readParts_46 : decode cX0_readParts 46 = .ok (.iconst 1, 1) := by decide +kernel
theorem dX0_readParts_47 : decode cX0_readParts 47 = .ok (.iadd, 1) := by decide +kernel
theorem dX0_readParts_48 : decode cX0_readParts 48 = .ok (.istore_n 3, 1) := by decide +kernel
theorem dX0_readParts_49 : decode cX0_readParts 49 = .ok (.aload_n 0, 1) := by decide +kernel
theorem dX0_readParts_50 : decode cX0_readParts 50 = .ok (.getfield 58, 3) := by decide +kernel
theorem dX0_readParts_53 : decode cX0_readParts 53 = .ok (.iload_n 2, 1) := by decide +kernel
theorem dX0_readParts_54 : decode cX0_readParts 54 = .ok (.ifCond .eq 8, 3) := by decide +kernel
theorem dX0_readParts_57 : decode cX0_readParts 57 = .ok (.bipush 123, 2) := by decide +kernel
theorem dX0_readParts_59 : decode cX0_readParts 59 = .ok (.goto 5, 3) := by decide +kernel
theorem dX0_readParts_62 : decode cX0_readParts 62 = .ok (.bipush 91, 2) := by decide +kernel
theorem dX0_readParts_64 : decode cX0_readParts 64 = .ok (.invokevirtual 98, 3) := by decide +kernel
theorem dX0_readParts_67 : decode cX0_readParts 67 = .ok (.iconst 0, 1) := by decide +kernel
theorem dX0_readParts_68 : decode cX0_readParts 68 = .ok (.istore 4, 2) := by decide +kernel
theorem dX0_readParts_70 : decode cX0_readParts 70 = .ok (.iload 4, 2) := by decide +kernel
theorem dX0_readParts_72 : decode cX0_readParts 72 = .ok (.iload_n 3, 1) := by decide +kernel
theorem dX0_readParts_73 : decode cX0_readParts 73 = .ok (.if_icmp .ge 44, 3) := by decide +kernel
theorem dX0_readParts_76 : decode cX0_readParts 76 = .ok (.iload 4, 2) := by decide +kernel
theorem dX0_readParts_78 : decode cX0_readParts 78 = .ok (.ifCond .le 12, 3) := by decide +kernel
theorem dX0_readParts_81 : decode cX0_readParts 81 = .ok (.aload_n 0, 1) := by decide +kernel
theorem dX0_readParts_82 : decode cX0_readParts 82 = .ok (.getfield 58, 3) := by decide +kernel
theorem dX0_readParts_85 : decode cX0_readParts 85 = .ok (.bipush 44, 2) := by decide +kernel
theorem dX0_readParts_87 : decode cX0_readParts 87 = .ok (.invokevirtual 98, 3) := by decide +kernel
theorem dX0_readParts_90 : decode cX0_readParts 90 = .ok (.iload_n 2, 1) := by decide +kernel
theorem dX0_readParts_91 : decode cX0_readParts 91 = .ok (.ifCond .eq 10, 3) := by decide +kernel
theorem dX0_readParts_94 : decode cX0_readParts 94 = .ok (.aload_n 0, 1) := by decide +kernel
theorem dX0_readParts_95 : decode cX0_readParts 95 = .ok (.invokevirtual 102, 3) := by decide +kernel
theorem dX0_readParts_98 : decode cX0_readParts 98 = .ok (.ifCond .eq 11, 3) := by decide +kernel
theorem dX0_readParts_101 : decode cX0_readParts 101 = .ok (.aload_n 0, 1) := by decide +kernel
theorem dX0_readParts_102 : decode cX0_readParts 102 = .ok (.iload_n 1, 1) := by decide +kernel
theorem dX0_readParts_103 : decode cX0_readParts 103 = .ok (.invokevirtual 105, 3) := by decide +kernel
theorem dX0_readParts_106 : decode cX0_readParts 106 = .ok (.ifCond .ne 5, 3) := by decide +kernel
theorem dX0_readParts_109 : decode cX0_readParts 109 = .ok (.iconst 0, 1) := by decide +kernel
theorem dX0_readParts_110 : decode cX0_readParts 110 = .ok (.ireturn, 1) := by decide +kernel
theorem dX0_readParts_111 : decode cX0_readParts 111 = .ok (.iinc 4 1, 3) := by decide +kernel
theorem dX0_readParts_114 : decode cX0_readParts 114 = .ok (.goto (-44), 3) := by decide +kernel
theorem dX0_readParts_117 : decode cX0_readParts 117 = .ok (.aload_n 0, 1) := by decide +kernel
theorem dX0_readParts_118 : decode cX0_readParts 118 = .ok (.getfield 58, 3) := by decide +kernel
theorem dX0_readParts_121 : decode cX0_readParts 121 = .ok (.iload_n 2, 1) := by decide +kernel
theorem dX0_readParts_122 : decode cX0_readParts 122 = .ok (.ifCond .eq 8, 3) := by decide +kernel
theorem dX0_readParts_125 : decode cX0_readParts 125 = .ok (.bipush 125, 2) := by decide +kernel
theorem dX0_readParts_127 : decode cX0_readParts 127 = .ok (.goto 5, 3) := by decide +kernel
theorem dX0_readParts_130 : decode cX0_readParts 130 = .ok (.bipush 93, 2) := by decide +kernel
theorem dX0_readParts_132 : decode cX0_readParts 132 = .ok (.invokevirtual 98, 3) := by decide +kernel
theorem dX0_readParts_135 : decode cX0_readParts 135 = .ok (.iconst 1, 1) := by decide +kernel
theorem dX0_readParts_136 : decode cX0_readParts 136 = .ok (.ireturn, 1) := by decide +kernel
theorem dX0_readKey_0 : decode cX0_readKey 0 = .ok (.aload_n 0, 1) := by decide +kernel
theorem dX0_readKey_1 : decode cX0_readKey 1 = .ok (.iconst 1, 1) := by decide +kernel
theorem dX0_readKey_2 : decode cX0_readKey 2 = .ok (.invokevirtual 36, 3) := by decide +kernel
theorem dX0_readKey_5 : decode cX0_readKey 5 = .ok (.ifCond .eq 10, 3) := by decide +kernel
theorem dX0_readKey_8 : decode cX0_readKey 8 = .ok (.aload_n 0, 1) := by decide +kernel
theorem dX0_readKey_9 : decode cX0_readKey 9 = .ok (.invokevirtual 47, 3) := by decide +kernel
theorem dX0_readKey_12 : decode cX0_readKey 12 = .ok (.ifCond .ne 5, 3) := by decide +kernel
theorem dX0_readKey_15 : decode cX0_readKey 15 = .ok (.iconst 0, 1) := by decide +kernel
theorem dX0_readKey_16 : decode cX0_readKey 16 = .ok (.ireturn, 1) := by decide +kernel
theorem dX0_readKey_17 : decode cX0_readKey 17 = .ok (.aload_n 0, 1) := by decide +kernel
theorem dX0_readKey_18 : decode cX0_readKey 18 = .ok (.getfield 58, 3) := by decide +kernel
theorem dX0_readKey_21 : decode cX0_readKey 21 = .ok (.bipush 58, 2) := by decide +kernel
theorem dX0_readKey_23 : decode cX0_readKey 23 = .ok (.invokevirtual 98, 3) := by decide +kernel
theorem dX0_readKey_26 : decode cX0_readKey 26 = .ok (.iconst 1, 1) := by decide +kernel
theorem dX0_readKey_27 : decode cX0_readKey 27 = .ok (.ireturn, 1) := by decide +kernel
theorem dX0_readText_0 : decode cX0_readText 0 = .ok (.aload_n 0, 1) := by decide +kernel
theorem dX0_readText_1 : decode cX0_readText 1 = .ok (.getfield 15, 3) := by decide +kernel
theorem dX0_readText_4 : decode cX0_readText 4 = .ok (.aload_n 0, 1) := by decide +kernel
theorem dX0_readText_5 : decode cX0_readText 5 = .ok (.getfield 22, 3) := by decide +kernel
theorem dX0_readText_8 : decode cX0_readText 8 = .ok (.invokevirtual 26, 3) := by decide +kernel
theorem dX0_readText_11 : decode cX0_readText 11 = .ok (.aload_n 0, 1) := by decide +kernel
theorem dX0_readText_12 : decode cX0_readText 12 = .ok (.getfield 19, 3) := by decide +kernel
theorem dX0_readText_15 : decode cX0_readText 15 = .ok (.isub, 1) := by decide +kernel
theorem dX0_readText_16 : decode cX0_readText 16 = .ok (.invokestatic 94, 3) := by decide +kernel
theorem dX0_readText_19 : decode cX0_readText 19 = .ok (.ifCond .ne 16, 3) := by decide +kernel
theorem dX0_readText_22 : decode cX0_readText 22 = .ok (.aload_n 0, 1) := by decide +kernel
theorem dX0_readText_23 : decode cX0_readText 23 = .ok (.iconst 1, 1) := by decide +kernel
theorem dX0_readText_24 : decode cX0_readText 24 = .ok (.aload_n 0, 1) := by decide +kernel
theorem dX0_readText_25 : decode cX0_readText 25 = .ok (.getfield 22, 3) := by decide +kernel
theorem dX0_readText_28 : decode cX0_readText 28 = .ok (.invokevirtual 26, 3) := by decide +kernel
theorem dX0_readText_31 : decode cX0_readText 31 = .ok (.invokevirtual 32, 3) := by decide +kernel
theorem dX0_readText_34 : decode cX0_readText 34 = .ok (.ireturn, 1) := by decide +kernel
theorem dX0_readText_35 : decode cX0_readText 35 = .ok (.aload_n 0, 1) := by decide +kernel
theorem dX0_readText_36 : decode cX0_readText 36 = .ok (.getfield 15, 3) := by decide +kernel
theorem dX0_readText_39 : decode cX0_readText 39 = .ok (.l2i, 1) := by decide +kernel
theorem dX0_readText_40 : decode cX0_readText 40 = .ok (.istore_n 1, 1) := by decide +kernel
theorem dX0_readText_41 : decode cX0_readText 41 = .ok (.aload_n 0, 1) := by decide +kernel
theorem dX0_readText_42 : decode cX0_readText 42 = .ok (.getfield 19, 3) := by decide +kernel
theorem dX0_readText_45 : decode cX0_readText 45 = .ok (.iload_n 1, 1) := by decide +kernel
theorem dX0_readText_46 : decode cX0_readText 46 = .ok (.iadd, 1) := by decide +kernel
theorem dX0_readText_47 : decode cX0_readText 47 = .ok (.istore_n 2, 1) := by decide +kernel
theorem dX0_readText_48 : decode cX0_readText 48 = .ok (.aload_n 0, 1) := by decide +kernel
theorem dX0_readText_49 : decode cX0_readText 49 = .ok (.getfield 58, 3) := by decide +kernel
theorem dX0_readText_52 : decode cX0_readText 52 = .ok (.bipush 34, 2) := by decide +kernel
theorem dX0_readText_54 : decode cX0_readText 54 = .ok (.invokevirtual 98, 3) := by decide +kernel
theorem dX0_readText_57 : decode cX0_readText 57 = .ok (.iconst 0, 1) := by decide +kernel
theorem dX0_readText_58 : decode cX0_readText 58 = .ok (.istore_n 3, 1) := by decide +kernel
theorem dX0_readText_59 : decode cX0_readText 59 = .ok (.iload_n 3, 1) := by decide +kernel
theorem dX0_readText_60 : decode cX0_readText 60 = .ok (.iload_n 1, 1) := by decide +kernel
theorem dX0_readText_61 : decode cX0_readText 61 = .ok (.if_icmp .ge 52, 3) := by decide +kernel
theorem dX0_readText_64 : decode cX0_readText 64 = .ok (.aload_n 0, 1) := by decide +kernel
theorem dX0_readText_65 : decode cX0_readText 65 = .ok (.getfield 19, 3) := by decide +kernel
theorem dX0_readText_68 : decode cX0_readText 68 = .ok (.iload_n 2, 1) := by decide +kernel
theorem dX0_readText_69 : decode cX0_readText 69 = .ok (.if_icmp .ge 44, 3) := by decide +kernel
theorem dX0_readText_72 : decode cX0_readText 72 = .ok (.aload_n 0, 1) := by decide +kernel
theorem dX0_readText_73 : decode cX0_readText 73 = .ok (.getfield 22, 3) := by decide +kernel
theorem dX0_readText_76 : decode cX0_readText 76 = .ok (.aload_n 0, 1) := by decide +kernel
theorem dX0_readText_77 : decode cX0_readText 77 = .ok (.getfield 19, 3) := by decide +kernel
theorem dX0_readText_80 : decode cX0_readText 80 = .ok (.iload_n 2, 1) := by decide +kernel
theorem dX0_readText_81 : decode cX0_readText 81 = .ok (.invokestatic 108, 3) := by decide +kernel
theorem dX0_readText_84 : decode cX0_readText 84 = .ok (.istore 4, 2) := by decide +kernel
theorem dX0_readText_86 : decode cX0_readText 86 = .ok (.iload 4, 2) := by decide +kernel
theorem dX0_readText_88 : decode cX0_readText 88 = .ok (.ifCond .ne 13, 3) := by decide +kernel
theorem dX0_readText_91 : decode cX0_readText 91 = .ok (.aload_n 0, 1) := by decide +kernel
theorem dX0_readText_92 : decode cX0_readText 92 = .ok (.iconst 3, 1) := by decide +kernel
theorem dX0_readText_93 : decode cX0_readText 93 = .ok (.aload_n 0, 1) := by decide +kernel
theorem dX0_readText_94 : decode cX0_readText 94 = .ok (.getfield 19, 3) := by decide +kernel
theorem dX0_readText_97 : decode cX0_readText 97 = .ok (.invokevirtual 32, 3) := by decide +kernel
theorem dX0_readText_100 : decode cX0_readText 100 = .ok (.ireturn, 1) := by decide +kernel
theorem dX0_readText_101 : decode cX0_readText 101 = .ok (.aload_n 0, 1) := by decide +kernel
theorem dX0_readText_102 : decode cX0_readText 102 = .ok (.iload 4, 2) := by decide +kernel
theorem dX0_readText_104 : decode cX0_readText 104 = .ok (.invokevirtual 112, 3) := by decide +kernel
theorem dX0_readText_107 : decode cX0_readText 107 = .ok (.iinc 3 1, 3) := by decide +kernel
theorem dX0_readText_110 : decode cX0_readText 110 = .ok (.goto (-51), 3) := by decide +kernel
theorem dX0_readText_113 : decode cX0_readText 113 = .ok (.aload_n 0, 1) := by decide +kernel
theorem dX0_readText_114 : decode cX0_readText 114 = .ok (.getfield 58, 3) := by decide +kernel
theorem dX0_readText_117 : decode cX0_readText 117 = .ok (.bipush 34, 2) := by decide +kernel
theorem dX0_readText_119 : decode cX0_readText 119 = .ok (.invokevirtual 98, 3) := by decide +kernel
theorem dX0_readText_122 : decode cX0_readText 122 = .ok (.iconst 1, 1) := by decide +kernel
theorem dX0_readText_123 : decode cX0_readText 123 = .ok (.ireturn, 1) := by decide +kernel
theorem dX0_isWithin_0 : decode cX0_isWithin 0 = .ok (.lload_n 0, 1) := by decide +kernel
theorem dX0_isWithin_1 : decode cX0_isWithin 1 = .ok (.lconst 0, 1) := by decide +kernel
theorem dX0_isWithin_2 : decode cX0_isWithin 2 = .ok (.lcmp, 1) := by decide +kernel
theorem dX0_isWithin_3 : decode cX0_isWithin 3 = .ok (.ifCond .lt 14, 3) := by decide +kernel
theorem dX0_isWithin_6 : decode cX0_isWithin 6 = .ok (.lload_n 0, 1) := by decide +kernel
theorem dX0_isWithin_7 : decode cX0_isWithin 7 = .ok (.iload_n 2, 1) := by decide +kernel
theorem dX0_isWithin_8 : decode cX0_isWithin 8 = .ok (.i2l, 1) := by decide +kernel
theorem dX0_isWithin_9 : decode cX0_isWithin 9 = .ok (.lcmp, 1) := by decide +kernel
theorem dX0_isWithin_10 : decode cX0_isWithin 10 = .ok (.ifCond .gt 7, 3) := by decide +kernel
theorem dX0_isWithin_13 : decode cX0_isWithin 13 = .ok (.iconst 1, 1) := by decide +kernel
theorem dX0_isWithin_14 : decode cX0_isWithin 14 = .ok (.goto 4, 3) := by decide +kernel
theorem dX0_isWithin_17 : decode cX0_isWithin 17 = .ok (.iconst 0, 1) := by decide +kernel
theorem dX0_isWithin_18 : decode cX0_isWithin 18 = .ok (.ireturn, 1) := by decide +kernel
theorem dX0_putSign_0 : decode cX0_putSign 0 = .ok (.iload_n 1, 1) := by decide +kernel
theorem dX0_putSign_1 : decode cX0_putSign 1 = .ok (.iconst 1, 1) := by decide +kernel
theorem dX0_putSign_2 : decode cX0_putSign 2 = .ok (.if_icmp .ne 21, 3) := by decide +kernel
theorem dX0_putSign_5 : decode cX0_putSign 5 = .ok (.aload_n 0, 1) := by decide +kernel
theorem dX0_putSign_6 : decode cX0_putSign 6 = .ok (.aload_n 0, 1) := by decide +kernel
theorem dX0_putSign_7 : decode cX0_putSign 7 = .ok (.getfield 22, 3) := by decide +kernel
theorem dX0_putSign_10 : decode cX0_putSign 10 = .ok (.aload_n 0, 1) := by decide +kernel
theorem dX0_putSign_11 : decode cX0_putSign 11 = .ok (.getfield 19, 3) := by decide +kernel
theorem dX0_putSign_14 : decode cX0_putSign 14 = .ok (.invokevirtual 75, 3) := by decide +kernel
theorem dX0_putSign_17 : decode cX0_putSign 17 = .ok (.invokevirtual 115, 3) := by decide +kernel
theorem dX0_putSign_20 : decode cX0_putSign 20 = .ok (.goto 36, 3) := by decide +kernel
theorem dX0_putSign_23 : decode cX0_putSign 23 = .ok (.iconst 0, 1) := by decide +kernel
theorem dX0_putSign_24 : decode cX0_putSign 24 = .ok (.istore_n 2, 1) := by decide +kernel
theorem dX0_putSign_25 : decode cX0_putSign 25 = .ok (.iload_n 2, 1) := by decide +kernel
theorem dX0_putSign_26 : decode cX0_putSign 26 = .ok (.iload_n 1, 1) := by decide +kernel
theorem dX0_putSign_27 : decode cX0_putSign 27 = .ok (.if_icmp .ge 29, 3) := by decide +kernel
theorem dX0_putSign_30 : decode cX0_putSign 30 = .ok (.aload_n 0, 1) := by decide +kernel
theorem dX0_putSign_31 : decode cX0_putSign 31 = .ok (.getfield 58, 3) := by decide +kernel
theorem dX0_putSign_34 : decode cX0_putSign 34 = .ok (.aload_n 0, 1) := by decide +kernel
theorem dX0_putSign_35 : decode cX0_putSign 35 = .ok (.getfield 22, 3) := by decide +kernel
theorem dX0_putSign_38 : decode cX0_putSign 38 = .ok (.aload_n 0, 1) := by decide +kernel
theorem dX0_putSign_39 : decode cX0_putSign 39 = .ok (.getfield 19, 3) := by decide +kernel
theorem dX0_putSign_42 : decode cX0_putSign 42 = .ok (.iload_n 2, 1) := by decide +kernel
theorem dX0_putSign_43 : decode cX0_putSign 43 = .ok (.iadd, 1) := by decide +kernel
theorem dX0_putSign_44 : decode cX0_putSign 44 = .ok (.invokevirtual 75, 3) := by decide +kernel
theorem dX0_putSign_47 : decode cX0_putSign 47 = .ok (.invokevirtual 98, 3) := by decide +kernel
theorem dX0_putSign_50 : decode cX0_putSign 50 = .ok (.iinc 2 1, 3) := by decide +kernel
theorem dX0_putSign_53 : decode cX0_putSign 53 = .ok (.goto (-28), 3) := by decide +kernel
theorem dX0_putSign_56 : decode cX0_putSign 56 = .ok (.aload_n 0, 1) := by decide +kernel
theorem dX0_putSign_57 : decode cX0_putSign 57 = .ok (.dup, 1) := by decide +kernel
theorem dX0_putSign_58 : decode cX0_putSign 58 = .ok (.getfield 19, 3) := by decide +kernel
theorem dX0_putSign_61 : decode cX0_putSign 61 = .ok (.iload_n 1, 1) := by decide +kernel
theorem dX0_putSign_62 : decode cX0_putSign 62 = .ok (.iadd, 1) := by decide +kernel
theorem dX0_putSign_63 : decode cX0_putSign 63 = .ok (.putfield 19, 3) := by decide +kernel
theorem dX0_putSign_66 : decode cX0_putSign 66 = .ok (.return_, 1) := by decide +kernel
theorem dX0_putShortSign_0 : decode cX0_putShortSign 0 = .ok (.iload_n 1, 1) := by decide +kernel
theorem dX0_putShortSign_1 : decode cX0_putShortSign 1 = .ok (.invokestatic 118, 3) := by decide +kernel
theorem dX0_putShortSign_4 : decode cX0_putShortSign 4 = .ok (.istore_n 2, 1) := by decide +kernel
theorem dX0_putShortSign_5 : decode cX0_putShortSign 5 = .ok (.iload_n 2, 1) := by decide +kernel
theorem dX0_putShortSign_6 : decode cX0_putShortSign 6 = .ok (.iconst (-1), 1) := by decide +kernel
theorem dX0_putShortSign_7 : decode cX0_putShortSign 7 = .ok (.if_icmp .eq 23, 3) := by decide +kernel
theorem dX0_putShortSign_10 : decode cX0_putShortSign 10 = .ok (.aload_n 0, 1) := by decide +kernel
theorem dX0_putShortSign_11 : decode cX0_putShortSign 11 = .ok (.getfield 58, 3) := by decide +kernel
theorem dX0_putShortSign_14 : decode cX0_putShortSign 14 = .ok (.bipush 92, 2) := by decide +kernel
theorem dX0_putShortSign_16 : decode cX0_putShortSign 16 = .ok (.invokevirtual 98, 3) := by decide +kernel
theorem dX0_putShortSign_19 : decode cX0_putShortSign 19 = .ok (.aload_n 0, 1) := by decide +kernel
theorem dX0_putShortSign_20 : decode cX0_putShortSign 20 = .ok (.getfield 58, 3) := by decide +kernel
theorem dX0_putShortSign_23 : decode cX0_putShortSign 23 = .ok (.iload_n 2, 1) := by decide +kernel
theorem dX0_putShortSign_24 : decode cX0_putShortSign 24 = .ok (.invokevirtual 98, 3) := by decide +kernel
theorem dX0_putShortSign_27 : decode cX0_putShortSign 27 = .ok (.goto 90, 3) := by decide +kernel
theorem dX0_putShortSign_30 : decode cX0_putShortSign 30 = .ok (.iload_n 1, 1) := by decide +kernel
theorem dX0_putShortSign_31 : decode cX0_putShortSign 31 = .ok (.bipush 32, 2) := by decide +kernel
theorem dX0_putShortSign_33 : decode cX0_putShortSign 33 = .ok (.if_icmp .ge 76, 3) := by decide +kernel
theorem dX0_putShortSign_36 : decode cX0_putShortSign 36 = .ok (.aload_n 0, 1) := by decide +kernel
theorem dX0_putShortSign_37 : decode cX0_putShortSign 37 = .ok (.getfield 58, 3) := by decide +kernel
theorem dX0_putShortSign_40 : decode cX0_putShortSign 40 = .ok (.bipush 92, 2) := by decide +kernel
theorem dX0_putShortSign_42 : decode cX0_putShortSign 42 = .ok (.invokevirtual 98, 3) := by decide +kernel
theorem dX0_putShortSign_45 : decode cX0_putShortSign 45 = .ok (.aload_n 0, 1) := by decide +kernel
theorem dX0_putShortSign_46 : decode cX0_putShortSign 46 = .ok (.getfield 58, 3) := by decide +kernel
theorem dX0_putShortSign_49 : decode cX0_putShortSign 49 = .ok (.bipush 117, 2) := by decide +kernel
theorem dX0_putShortSign_51 : decode cX0_putShortSign 51 = .ok (.invokevirtual 98, 3) := by decide +kernel
theorem dX0_putShortSign_54 : decode cX0_putShortSign 54 = .ok (.aload_n 0, 1) := by decide +kernel
theorem dX0_putShortSign_55 : decode cX0_putShortSign 55 = .ok (.getfield 58, 3) := by decide +kernel
theorem dX0_putShortSign_58 : decode cX0_putShortSign 58 = .ok (.bipush 48, 2) := by decide +kernel
theorem dX0_putShortSign_60 : decode cX0_putShortSign 60 = .ok (.invokevirtual 98, 3) := by decide +kernel
theorem dX0_putShortSign_63 : decode cX0_putShortSign 63 = .ok (.aload_n 0, 1) := by decide +kernel
theorem dX0_putShortSign_64 : decode cX0_putShortSign 64 = .ok (.getfield 58, 3) := by decide +kernel
theorem dX0_putShortSign_67 : decode cX0_putShortSign 67 = .ok (.bipush 48, 2) := by decide +kernel
theorem dX0_putShortSign_69 : decode cX0_putShortSign 69 = .ok (.invokevirtual 98, 3) := by decide +kernel
theorem dX0_putShortSign_72 : decode cX0_putShortSign 72 = .ok (.aload_n 0, 1) := by decide +kernel
theorem dX0_putShortSign_73 : decode cX0_putShortSign 73 = .ok (.getfield 58, 3) := by decide +kernel
theorem dX0_putShortSign_76 : decode cX0_putShortSign 76 = .ok (.ldc 121, 2) := by decide +kernel
theorem dX0_putShortSign_78 : decode cX0_putShortSign 78 = .ok (.iload_n 1, 1) := by decide +kernel
theorem dX0_putShortSign_79 : decode cX0_putShortSign 79 = .ok (.iconst 4, 1) := by decide +kernel
theorem dX0_putShortSign_80 : decode cX0_putShortSign 80 = .ok (.ishr, 1) := by decide +kernel
theorem dX0_putShortSign_81 : decode cX0_putShortSign 81 = .ok (.bipush 15, 2) := by decide +kernel
theorem dX0_putShortSign_83 : decode cX0_putShortSign 83 = .ok (.iand, 1) := by decide +kernel
theorem dX0_putShortSign_84 : decode cX0_putShortSign 84 = .ok (.invokevirtual 123, 3) := by decide +kernel
theorem dX0_putShortSign_87 : decode cX0_putShortSign 87 = .ok (.invokevirtual 98, 3) := by decide +kernel
theorem dX0_putShortSign_90 : decode cX0_putShortSign 90 = .ok (.aload_n 0, 1) := by decide +kernel
theorem dX0_putShortSign_91 : decode cX0_putShortSign 91 = .ok (.getfield 58, 3) := by decide +kernel
theorem dX0_putShortSign_94 : decode cX0_putShortSign 94 = .ok (.ldc 121, 2) := by decide +kernel
theorem dX0_putShortSign_96 : decode cX0_putShortSign 96 = .ok (.iload_n 1, 1) := by decide +kernel
theorem dX0_putShortSign_97 : decode cX0_putShortSign 97 = .ok (.bipush 15, 2) := by decide +kernel
theorem dX0_putShortSign_99 : decode cX0_putShortSign 99 = .ok (.iand, 1) := by decide +kernel
theorem dX0_putShortSign_100 : decode cX0_putShortSign 100 = .ok (.invokevirtual 123, 3) := by decide +kernel
theorem dX0_putShortSign_103 : decode cX0_putShortSign 103 = .ok (.invokevirtual 98, 3) := by decide +kernel
theorem dX0_putShortSign_106 : decode cX0_putShortSign 106 = .ok (.goto 11, 3) := by decide +kernel
theorem dX0_putShortSign_109 : decode cX0_putShortSign 109 = .ok (.aload_n 0, 1) := by decide +kernel
theorem dX0_putShortSign_110 : decode cX0_putShortSign 110 = .ok (.getfield 58, 3) := by decide +kernel
theorem dX0_putShortSign_113 : decode cX0_putShortSign 113 = .ok (.iload_n 1, 1) := by decide +kernel
theorem dX0_putShortSign_114 : decode cX0_putShortSign 114 = .ok (.invokevirtual 98, 3) := by decide +kernel
theorem dX0_putShortSign_117 : decode cX0_putShortSign 117 = .ok (.return_, 1) := by decide +kernel
theorem dX0_letterOf_0 : decode cX0_letterOf 0 = .ok (.iload_n 0, 1) := by decide +kernel
theorem dX0_letterOf_1 : decode cX0_letterOf 1 = .ok (.lookupswitch 84 #[(8, 69), (9, 72), (10, 75), (12, 78), (13, 81), (34, 67), (92, 67)], 67) := by decide +kernel
theorem dX0_letterOf_68 : decode cX0_letterOf 68 = .ok (.iload_n 0, 1) := by decide +kernel
theorem dX0_letterOf_69 : decode cX0_letterOf 69 = .ok (.ireturn, 1) := by decide +kernel
theorem dX0_letterOf_70 : decode cX0_letterOf 70 = .ok (.bipush 98, 2) := by decide +kernel
theorem dX0_letterOf_72 : decode cX0_letterOf 72 = .ok (.ireturn, 1) := by decide +kernel
theorem dX0_letterOf_73 : decode cX0_letterOf 73 = .ok (.bipush 116, 2) := by decide +kernel
theorem dX0_letterOf_75 : decode cX0_letterOf 75 = .ok (.ireturn, 1) := by decide +kernel
theorem dX0_letterOf_76 : decode cX0_letterOf 76 = .ok (.bipush 110, 2) := by decide +kernel
theorem dX0_letterOf_78 : decode cX0_letterOf 78 = .ok (.ireturn, 1) := by decide +kernel
theorem dX0_letterOf_79 : decode cX0_letterOf 79 = .ok (.bipush 102, 2) := by decide +kernel
theorem dX0_letterOf_81 : decode cX0_letterOf 81 = .ok (.ireturn, 1) := by decide +kernel
theorem dX0_letterOf_82 : decode cX0_letterOf 82 = .ok (.bipush 114, 2) := by decide +kernel
theorem dX0_letterOf_84 : decode cX0_letterOf 84 = .ok (.ireturn, 1) := by decide +kernel
theorem dX0_letterOf_85 : decode cX0_letterOf 85 = .ok (.iconst (-1), 1) := by decide +kernel
theorem dX0_letterOf_86 : decode cX0_letterOf 86 = .ok (.ireturn, 1) := by decide +kernel
theorem dX0_putDecimal_0 : decode cX0_putDecimal 0 = .ok (.lload_n 1, 1) := by decide +kernel
theorem dX0_putDecimal_1 : decode cX0_putDecimal 1 = .ok (.invokestatic 129, 3) := by decide +kernel
theorem dX0_putDecimal_4 : decode cX0_putDecimal 4 = .ok (.lstore_n 3, 1) := by decide +kernel
theorem dX0_putDecimal_5 : decode cX0_putDecimal 5 = .ok (.aload_n 0, 1) := by decide +kernel
theorem dX0_putDecimal_6 : decode cX0_putDecimal 6 = .ok (.lload_n 3, 1) := by decide +kernel
theorem dX0_putDecimal_7 : decode cX0_putDecimal 7 = .ok (.lload_n 1, 1) := by decide +kernel
theorem dX0_putDecimal_8 : decode cX0_putDecimal 8 = .ok (.lload_n 3, 1) := by decide +kernel
theorem dX0_putDecimal_9 : decode cX0_putDecimal 9 = .ok (.ldc2_w 133, 3) := by decide +kernel
theorem dX0_putDecimal_12 : decode cX0_putDecimal 12 = .ok (.lmul, 1) := by decide +kernel
theorem dX0_putDecimal_13 : decode cX0_putDecimal 13 = .ok (.lsub, 1) := by decide +kernel
theorem dX0_putDecimal_14 : decode cX0_putDecimal 14 = .ok (.l2i, 1) := by decide +kernel
theorem dX0_putDecimal_15 : decode cX0_putDecimal 15 = .ok (.invokevirtual 135, 3) := by decide +kernel
theorem dX0_putDecimal_18 : decode cX0_putDecimal 18 = .ok (.return_, 1) := by decide +kernel
theorem dX0_putNegative_0 : decode cX0_putNegative 0 = .ok (.lload_n 1, 1) := by decide +kernel
theorem dX0_putNegative_1 : decode cX0_putNegative 1 = .ok (.invokestatic 129, 3) := by decide +kernel
theorem dX0_putNegative_4 : decode cX0_putNegative 4 = .ok (.lstore_n 3, 1) := by decide +kernel
theorem dX0_putNegative_5 : decode cX0_putNegative 5 = .ok (.lload_n 1, 1) := by decide +kernel
theorem dX0_putNegative_6 : decode cX0_putNegative 6 = .ok (.lload_n 3, 1) := by decide +kernel
theorem dX0_putNegative_7 : decode cX0_putNegative 7 = .ok (.ldc2_w 133, 3) := by decide +kernel
theorem dX0_putNegative_10 : decode cX0_putNegative 10 = .ok (.lmul, 1) := by decide +kernel
theorem dX0_putNegative_11 : decode cX0_putNegative 11 = .ok (.lsub, 1) := by decide +kernel
theorem dX0_putNegative_12 : decode cX0_putNegative 12 = .ok (.l2i, 1) := by decide +kernel
theorem dX0_putNegative_13 : decode cX0_putNegative 13 = .ok (.istore 5, 2) := by decide +kernel
theorem dX0_putNegative_15 : decode cX0_putNegative 15 = .ok (.aload_n 0, 1) := by decide +kernel
theorem dX0_putNegative_16 : decode cX0_putNegative 16 = .ok (.getfield 58, 3) := by decide +kernel
theorem dX0_putNegative_19 : decode cX0_putNegative 19 = .ok (.bipush 45, 2) := by decide +kernel
theorem dX0_putNegative_21 : decode cX0_putNegative 21 = .ok (.invokevirtual 98, 3) := by decide +kernel
theorem dX0_putNegative_24 : decode cX0_putNegative 24 = .ok (.iload 5, 2) := by decide +kernel
theorem dX0_putNegative_26 : decode cX0_putNegative 26 = .ok (.bipush 9, 2) := by decide +kernel
theorem dX0_putNegative_28 : decode cX0_putNegative 28 = .ok (.if_icmp .ne 14, 3) := by decide +kernel
theorem dX0_putNegative_31 : decode cX0_putNegative 31 = .ok (.aload_n 0, 1) := by decide +kernel
theorem dX0_putNegative_32 : decode cX0_putNegative 32 = .ok (.lload_n 3, 1) := by decide +kernel
theorem dX0_putNegative_33 : decode cX0_putNegative 33 = .ok (.lconst 1, 1) := by decide +kernel
theorem dX0_putNegative_34 : decode cX0_putNegative 34 = .ok (.ladd, 1) := by decide +kernel
theorem dX0_putNegative_35 : decode cX0_putNegative 35 = .ok (.iconst 0, 1) := by decide +kernel
theorem dX0_putNegative_36 : decode cX0_putNegative 36 = .ok (.invokevirtual 135, 3) := by decide +kernel
theorem dX0_putNegative_39 : decode cX0_putNegative 39 = .ok (.goto 12, 3) := by decide +kernel
theorem dX0_putNegative_42 : decode cX0_putNegative 42 = .ok (.aload_n 0, 1) := by decide +kernel
theorem dX0_putNegative_43 : decode cX0_putNegative 43 = .ok (.lload_n 3, 1) := by decide +kernel
theorem dX0_putNegative_44 : decode cX0_putNegative 44 = .ok (.iload 5, 2) := by decide +kernel
theorem dX0_putNegative_46 : decode cX0_putNegative 46 = .ok (.iconst 1, 1) := by decide +kernel
theorem dX0_putNegative_47 : decode cX0_putNegative 47 = .ok (.iadd, 1) := by decide +kernel
theorem dX0_putNegative_48 : decode cX0_putNegative 48 = .ok (.invokevirtual 135, 3) := by decide +kernel
theorem dX0_putNegative_51 : decode cX0_putNegative 51 = .ok (.return_, 1) := by decide +kernel
theorem dX0_tenthOf_0 : decode cX0_tenthOf 0 = .ok (.lload_n 0, 1) := by decide +kernel
theorem dX0_tenthOf_1 : decode cX0_tenthOf 1 = .ok (.iconst 1, 1) := by decide +kernel
theorem dX0_tenthOf_2 : decode cX0_tenthOf 2 = .ok (.lushr, 1) := by decide +kernel
theorem dX0_tenthOf_3 : decode cX0_tenthOf 3 = .ok (.ldc2_w 139, 3) := by decide +kernel
theorem dX0_tenthOf_6 : decode cX0_tenthOf 6 = .ok (.ldiv, 1) := by decide +kernel
theorem dX0_tenthOf_7 : decode cX0_tenthOf 7 = .ok (.lreturn, 1) := by decide +kernel
theorem dX0_putDigits_0 : decode cX0_putDigits 0 = .ok (.lconst 1, 1) := by decide +kernel
theorem dX0_putDigits_1 : decode cX0_putDigits 1 = .ok (.lstore 4, 2) := by decide +kernel
theorem dX0_putDigits_3 : decode cX0_putDigits 3 = .ok (.iconst 1, 1) := by decide +kernel
theorem dX0_putDigits_4 : decode cX0_putDigits 4 = .ok (.istore 6, 2) := by decide +kernel
theorem dX0_putDigits_6 : decode cX0_putDigits 6 = .ok (.iload 6, 2) := by decide +kernel
theorem dX0_putDigits_8 : decode cX0_putDigits 8 = .ok (.bipush 19, 2) := by decide +kernel
theorem dX0_putDigits_10 : decode cX0_putDigits 10 = .ok (.if_icmp .ge 28, 3) := by decide +kernel
theorem dX0_putDigits_13 : decode cX0_putDigits 13 = .ok (.lload 4, 2) := by decide +kernel
theorem dX0_putDigits_15 : decode cX0_putDigits 15 = .ok (.lload_n 1, 1) := by decide +kernel
theorem dX0_putDigits_16 : decode cX0_putDigits 16 = .ok (.ldc2_w 133, 3) := by decide +kernel
theorem dX0_putDigits_19 : decode cX0_putDigits 19 = .ok (.ldiv, 1) := by decide +kernel
theorem dX0_putDigits_20 : decode cX0_putDigits 20 = .ok (.lcmp, 1) := by decide +kernel
theorem dX0_putDigits_21 : decode cX0_putDigits 21 = .ok (.ifCond .gt 17, 3) := by decide +kernel
theorem dX0_putDigits_24 : decode cX0_putDigits 24 = .ok (.lload 4, 2) := by decide +kernel
theorem dX0_putDigits_26 : decode cX0_putDigits 26 = .ok (.ldc2_w 133, 3) := by decide +kernel
theorem dX0_putDigits_29 : decode cX0_putDigits 29 = .ok (.lmul, 1) := by decide +kernel
theorem dX0_putDigits_30 : decode cX0_putDigits 30 = .ok (.lstore 4, 2) := by decide +kernel
theorem dX0_putDigits_32 : decode cX0_putDigits 32 = .ok (.iinc 6 1, 3) := by decide +kernel
theorem dX0_putDigits_35 : decode cX0_putDigits 35 = .ok (.goto (-29), 3) := by decide +kernel
theorem dX0_putDigits_38 : decode cX0_putDigits 38 = .ok (.lload_n 1, 1) := by decide +kernel
theorem dX0_putDigits_39 : decode cX0_putDigits 39 = .ok (.lstore 6, 2) := by decide +kernel
theorem dX0_putDigits_41 : decode cX0_putDigits 41 = .ok (.iconst 0, 1) := by decide +kernel
theorem dX0_putDigits_42 : decode cX0_putDigits 42 = .ok (.istore 8, 2) := by decide +kernel
theorem dX0_putDigits_44 : decode cX0_putDigits 44 = .ok (.iload 8, 2) := by decide +kernel
theorem dX0_putDigits_46 : decode cX0_putDigits 46 = .ok (.bipush 19, 2) := by decide +kernel
theorem dX0_putDigits_48 : decode cX0_putDigits 48 = .ok (.if_icmp .ge 53, 3) := by decide +kernel
theorem dX0_putDigits_51 : decode cX0_putDigits 51 = .ok (.lload 4, 2) := by decide +kernel
theorem dX0_putDigits_53 : decode cX0_putDigits 53 = .ok (.lconst 0, 1) := by decide +kernel
theorem dX0_putDigits_54 : decode cX0_putDigits 54 = .ok (.lcmp, 1) := by decide +kernel
theorem dX0_putDigits_55 : decode cX0_putDigits 55 = .ok (.ifCond .le 46, 3) := by decide +kernel
theorem dX0_putDigits_58 : decode cX0_putDigits 58 = .ok (.lload_n 1, 1) := by decide +kernel
theorem dX0_putDigits_59 : decode cX0_putDigits 59 = .ok (.lconst 0, 1) := by decide +kernel
theorem dX0_putDigits_60 : decode cX0_putDigits 60 = .ok (.lcmp, 1) := by decide +kernel
theorem dX0_putDigits_61 : decode cX0_putDigits 61 = .ok (.ifCond .le 40, 3) := by decide +kernel
theorem dX0_putDigits_64 : decode cX0_putDigits 64 = .ok (.aload_n 0, 1) := by decide +kernel
theorem dX0_putDigits_65 : decode cX0_putDigits 65 = .ok (.getfield 58, 3) := by decide +kernel
theorem dX0_putDigits_68 : decode cX0_putDigits 68 = .ok (.bipush 48, 2) := by decide +kernel
theorem dX0_putDigits_70 : decode cX0_putDigits 70 = .ok (.lload 6, 2) := by decide +kernel
theorem dX0_putDigits_72 : decode cX0_putDigits 72 = .ok (.lload 4, 2) := by decide +kernel
theorem dX0_putDigits_74 : decode cX0_putDigits 74 = .ok (.ldiv, 1) := by decide +kernel
theorem dX0_putDigits_75 : decode cX0_putDigits 75 = .ok (.l2i, 1) := by decide +kernel
theorem dX0_putDigits_76 : decode cX0_putDigits 76 = .ok (.iadd, 1) := by decide +kernel
theorem dX0_putDigits_77 : decode cX0_putDigits 77 = .ok (.invokevirtual 98, 3) := by decide +kernel
theorem dX0_putDigits_80 : decode cX0_putDigits 80 = .ok (.lload 6, 2) := by decide +kernel
theorem dX0_putDigits_82 : decode cX0_putDigits 82 = .ok (.lload 4, 2) := by decide +kernel
theorem dX0_putDigits_84 : decode cX0_putDigits 84 = .ok (.lrem, 1) := by decide +kernel
theorem dX0_putDigits_85 : decode cX0_putDigits 85 = .ok (.lstore 6, 2) := by decide +kernel
theorem dX0_putDigits_87 : decode cX0_putDigits 87 = .ok (.lload 4, 2) := by decide +kernel
theorem dX0_putDigits_89 : decode cX0_putDigits 89 = .ok (.ldc2_w 133, 3) := by decide +kernel
theorem dX0_putDigits_92 : decode cX0_putDigits 92 = .ok (.ldiv, 1) := by decide +kernel
theorem dX0_putDigits_93 : decode cX0_putDigits 93 = .ok (.lstore 4, 2) := by decide +kernel
theorem dX0_putDigits_95 : decode cX0_putDigits 95 = .ok (.iinc 8 1, 3) := by decide +kernel
theorem dX0_putDigits_98 : decode cX0_putDigits 98 = .ok (.goto (-54), 3) := by decide +kernel
theorem dX0_putDigits_101 : decode cX0_putDigits 101 = .ok (.aload_n 0, 1) := by decide +kernel
theorem dX0_putDigits_102 : decode cX0_putDigits 102 = .ok (.getfield 58, 3) := by decide +kernel
theorem dX0_putDigits_105 : decode cX0_putDigits 105 = .ok (.bipush 48, 2) := by decide +kernel
theorem dX0_putDigits_107 : decode cX0_putDigits 107 = .ok (.iload_n 3, 1) := by decide +kernel
theorem dX0_putDigits_108 : decode cX0_putDigits 108 = .ok (.iadd, 1) := by decide +kernel
theorem dX0_putDigits_109 : decode cX0_putDigits 109 = .ok (.invokevirtual 98, 3) := by decide +kernel
theorem dX0_putDigits_112 : decode cX0_putDigits 112 = .ok (.return_, 1) := by decide +kernel
theorem dJ9_max_7cf53_0 : decode cJ9_max_7cf53 0 = .ok (.iload_n 0, 1) := by decide +kernel
theorem dJ9_max_7cf53_1 : decode cJ9_max_7cf53 1 = .ok (.iload_n 1, 1) := by decide +kernel
theorem dJ9_max_7cf53_2 : decode cJ9_max_7cf53 2 = .ok (.if_icmp .lt 7, 3) := by decide +kernel
theorem dJ9_max_7cf53_5 : decode cJ9_max_7cf53 5 = .ok (.iload_n 0, 1) := by decide +kernel
theorem dJ9_max_7cf53_6 : decode cJ9_max_7cf53 6 = .ok (.goto 4, 3) := by decide +kernel
theorem dJ9_max_7cf53_9 : decode cJ9_max_7cf53 9 = .ok (.iload_n 1, 1) := by decide +kernel
theorem dJ9_max_7cf53_10 : decode cJ9_max_7cf53 10 = .ok (.ireturn, 1) := by decide +kernel
theorem dJ9_min_7cf53_0 : decode cJ9_min_7cf53 0 = .ok (.iload_n 0, 1) := by decide +kernel
theorem dJ9_min_7cf53_1 : decode cJ9_min_7cf53 1 = .ok (.iload_n 1, 1) := by decide +kernel
theorem dJ9_min_7cf53_2 : decode cJ9_min_7cf53 2 = .ok (.if_icmp .gt 7, 3) := by decide +kernel
theorem dJ9_min_7cf53_5 : decode cJ9_min_7cf53 5 = .ok (.iload_n 0, 1) := by decide +kernel
theorem dJ9_min_7cf53_6 : decode cJ9_min_7cf53 6 = .ok (.goto 4, 3) := by decide +kernel
theorem dJ9_min_7cf53_9 : decode cJ9_min_7cf53 9 = .ok (.iload_n 1, 1) := by decide +kernel
theorem dJ9_min_7cf53_10 : decode cJ9_min_7cf53 10 = .ok (.ireturn, 1) := by decide +kernel
theorem dJ0_length_8abf5_0 : decode cJ0_length_8abf5 0 = .ok (.aload_n 0, 1) := by decide +kernel
theorem dJ0_length_8abf5_1 : decode cJ0_length_8abf5 1 = .ok (.getfield 9, 3) := by decide +kernel
theorem dJ0_length_8abf5_4 : decode cJ0_length_8abf5 4 = .ok (.arraylength, 1) := by decide +kernel
theorem dJ0_length_8abf5_5 : decode cJ0_length_8abf5 5 = .ok (.aload_n 0, 1) := by decide +kernel
theorem dJ0_length_8abf5_6 : decode cJ0_length_8abf5 6 = .ok (.invokevirtual 335, 3) := by decide +kernel
theorem dJ0_length_8abf5_9 : decode cJ0_length_8abf5 9 = .ok (.ishr, 1) := by decide +kernel
theorem dJ0_length_8abf5_10 : decode cJ0_length_8abf5 10 = .ok (.ireturn, 1) := by decide +kernel
theorem dJ0_charAt_5068e_0 : decode cJ0_charAt_5068e 0 = .ok (.aload_n 0, 1) := by decide +kernel
theorem dJ0_charAt_5068e_1 : decode cJ0_charAt_5068e 1 = .ok (.invokevirtual 492, 3) := by decide +kernel
theorem dJ0_charAt_5068e_4 : decode cJ0_charAt_5068e 4 = .ok (.ifCond .eq 12, 3) := by decide +kernel
theorem dJ0_charAt_5068e_7 : decode cJ0_charAt_5068e 7 = .ok (.aload_n 0, 1) := by decide +kernel
theorem dJ0_charAt_5068e_8 : decode cJ0_charAt_5068e 8 = .ok (.getfield 9, 3) := by decide +kernel
theorem dJ0_charAt_5068e_11 : decode cJ0_charAt_5068e 11 = .ok (.iload_n 1, 1) := by decide +kernel
theorem dJ0_charAt_5068e_12 : decode cJ0_charAt_5068e 12 = .ok (.invokestatic 495, 3) := by decide +kernel
theorem dJ0_charAt_5068e_15 : decode cJ0_charAt_5068e 15 = .ok (.ireturn, 1) := by decide +kernel
theorem dJ0_charAt_5068e_16 : decode cJ0_charAt_5068e 16 = .ok (.aload_n 0, 1) := by decide +kernel
theorem dJ0_charAt_5068e_17 : decode cJ0_charAt_5068e 17 = .ok (.getfield 9, 3) := by decide +kernel
theorem dJ0_charAt_5068e_20 : decode cJ0_charAt_5068e 20 = .ok (.iload_n 1, 1) := by decide +kernel
theorem dJ0_charAt_5068e_21 : decode cJ0_charAt_5068e 21 = .ok (.invokestatic 498, 3) := by decide +kernel
theorem dJ0_charAt_5068e_24 : decode cJ0_charAt_5068e 24 = .ok (.ireturn, 1) := by decide +kernel
theorem dJ0_coder_7d493_0 : decode cJ0_coder_7d493 0 = .ok (.getstatic 38, 3) := by decide +kernel
theorem dJ0_coder_7d493_3 : decode cJ0_coder_7d493 3 = .ok (.ifCond .eq 10, 3) := by decide +kernel
theorem dJ0_coder_7d493_6 : decode cJ0_coder_7d493 6 = .ok (.aload_n 0, 1) := by decide +kernel
theorem dJ0_coder_7d493_7 : decode cJ0_coder_7d493 7 = .ok (.getfield 15, 3) := by decide +kernel
theorem dJ0_coder_7d493_10 : decode cJ0_coder_7d493 10 = .ok (.goto 4, 3) := by decide +kernel
theorem dJ0_coder_7d493_13 : decode cJ0_coder_7d493 13 = .ok (.iconst 1, 1) := by decide +kernel
theorem dJ0_coder_7d493_14 : decode cJ0_coder_7d493 14 = .ok (.ireturn, 1) := by decide +kernel
theorem dJ0_isLatin1_aae02_0 : decode cJ0_isLatin1_aae02 0 = .ok (.getstatic 38, 3) := by decide +kernel
theorem dJ0_isLatin1_aae02_3 : decode cJ0_isLatin1_aae02 3 = .ok (.ifCond .eq 14, 3) := by decide +kernel
theorem dJ0_isLatin1_aae02_6 : decode cJ0_isLatin1_aae02 6 = .ok (.aload_n 0, 1) := by decide +kernel
theorem dJ0_isLatin1_aae02_7 : decode cJ0_isLatin1_aae02 7 = .ok (.getfield 15, 3) := by decide +kernel
theorem dJ0_isLatin1_aae02_10 : decode cJ0_isLatin1_aae02 10 = .ok (.ifCond .ne 7, 3) := by decide +kernel
theorem dJ0_isLatin1_aae02_13 : decode cJ0_isLatin1_aae02 13 = .ok (.iconst 1, 1) := by decide +kernel
theorem dJ0_isLatin1_aae02_14 : decode cJ0_isLatin1_aae02 14 = .ok (.goto 4, 3) := by decide +kernel
theorem dJ0_isLatin1_aae02_17 : decode cJ0_isLatin1_aae02 17 = .ok (.iconst 0, 1) := by decide +kernel
theorem dJ0_isLatin1_aae02_18 : decode cJ0_isLatin1_aae02 18 = .ok (.ireturn, 1) := by decide +kernel
theorem dJ0_checkIndex_df160_0 : decode cJ0_checkIndex_df160 0 = .ok (.iload_n 0, 1) := by decide +kernel
theorem dJ0_checkIndex_df160_1 : decode cJ0_checkIndex_df160 1 = .ok (.iload_n 1, 1) := by decide +kernel
theorem dJ0_checkIndex_df160_2 : decode cJ0_checkIndex_df160 2 = .ok (.getstatic 1053, 3) := by decide +kernel
theorem dJ0_checkIndex_df160_5 : decode cJ0_checkIndex_df160 5 = .ok (.invokestatic 1059, 3) := by decide +kernel
theorem dJ0_checkIndex_df160_8 : decode cJ0_checkIndex_df160 8 = .ok (.pop, 1) := by decide +kernel
theorem dJ0_checkIndex_df160_9 : decode cJ0_checkIndex_df160 9 = .ok (.return_, 1) := by decide +kernel
theorem dJ1_charAt_3b067_0 : decode cJ1_charAt_3b067 0 = .ok (.iload_n 1, 1) := by decide +kernel
theorem dJ1_charAt_3b067_1 : decode cJ1_charAt_3b067 1 = .ok (.aload_n 0, 1) := by decide +kernel
theorem dJ1_charAt_3b067_2 : decode cJ1_charAt_3b067 2 = .ok (.arraylength, 1) := by decide +kernel
theorem dJ1_charAt_3b067_3 : decode cJ1_charAt_3b067 3 = .ok (.invokestatic 9, 3) := by decide +kernel
theorem dJ1_charAt_3b067_6 : decode cJ1_charAt_3b067 6 = .ok (.aload_n 0, 1) := by decide +kernel
theorem dJ1_charAt_3b067_7 : decode cJ1_charAt_3b067 7 = .ok (.iload_n 1, 1) := by decide +kernel
theorem dJ1_charAt_3b067_8 : decode cJ1_charAt_3b067 8 = .ok (.baload, 1) := by decide +kernel
theorem dJ1_charAt_3b067_9 : decode cJ1_charAt_3b067 9 = .ok (.sipush 255, 3) := by decide +kernel
theorem dJ1_charAt_3b067_12 : decode cJ1_charAt_3b067 12 = .ok (.iand, 1) := by decide +kernel
theorem dJ1_charAt_3b067_13 : decode cJ1_charAt_3b067 13 = .ok (.i2c, 1) := by decide +kernel
theorem dJ1_charAt_3b067_14 : decode cJ1_charAt_3b067 14 = .ok (.ireturn, 1) := by decide +kernel
theorem dJ2_getChar_3b067_0 : decode cJ2_getChar_3b067 0 = .ok (.getstatic 44, 3) := by decide +kernel
theorem dJ2_getChar_3b067_3 : decode cJ2_getChar_3b067 3 = .ok (.ifCond .ne 25, 3) := by decide +kernel
theorem dJ2_getChar_3b067_6 : decode cJ2_getChar_3b067 6 = .ok (.iload_n 1, 1) := by decide +kernel
theorem dJ2_getChar_3b067_7 : decode cJ2_getChar_3b067 7 = .ok (.ifCond .lt 11, 3) := by decide +kernel
theorem dJ2_getChar_3b067_10 : decode cJ2_getChar_3b067 10 = .ok (.iload_n 1, 1) := by decide +kernel
theorem dJ2_getChar_3b067_11 : decode cJ2_getChar_3b067 11 = .ok (.aload_n 0, 1) := by decide +kernel
theorem dJ2_getChar_3b067_12 : decode cJ2_getChar_3b067 12 = .ok (.invokestatic 48, 3) := by decide +kernel
theorem dJ2_getChar_3b067_15 : decode cJ2_getChar_3b067 15 = .ok (.if_icmp .lt 13, 3) := by decide +kernel
theorem dJ2_getChar_3b067_18 : decode cJ2_getChar_3b067 18 = .ok (.new 52, 3) := by decide +kernel
theorem dJ2_getChar_3b067_21 : decode cJ2_getChar_3b067 21 = .ok (.dup, 1) := by decide +kernel
theorem dJ2_getChar_3b067_22 : decode cJ2_getChar_3b067 22 = .ok (.ldc 54, 2) := by decide +kernel
theorem dJ2_getChar_3b067_24 : decode cJ2_getChar_3b067 24 = .ok (.invokespecial 56, 3) := by decide +kernel
theorem dJ2_getChar_3b067_27 : decode cJ2_getChar_3b067 27 = .ok (.athrow, 1) := by decide +kernel
theorem dJ2_getChar_3b067_28 : decode cJ2_getChar_3b067 28 = .ok (.iload_n 1, 1) := by decide +kernel
theorem dJ2_getChar_3b067_29 : decode cJ2_getChar_3b067 29 = .ok (.iconst 1, 1) := by decide +kernel
theorem dJ2_getChar_3b067_30 : decode cJ2_getChar_3b067 30 = .ok (.ishl, 1) := by decide +kernel
theorem dJ2_getChar_3b067_31 : decode cJ2_getChar_3b067 31 = .ok (.istore_n 1, 1) := by decide +kernel
theorem dJ2_getChar_3b067_32 : decode cJ2_getChar_3b067 32 = .ok (.aload_n 0, 1) := by decide +kernel
theorem dJ2_getChar_3b067_33 : decode cJ2_getChar_3b067 33 = .ok (.iload_n 1, 1) := by decide +kernel
theorem dJ2_getChar_3b067_34 : decode cJ2_getChar_3b067 34 = .ok (.iinc 1 1, 3) := by decide +kernel
theorem dJ2_getChar_3b067_37 : decode cJ2_getChar_3b067 37 = .ok (.baload, 1) := by decide +kernel
theorem dJ2_getChar_3b067_38 : decode cJ2_getChar_3b067 38 = .ok (.sipush 255, 3) := by decide +kernel
theorem dJ2_getChar_3b067_41 : decode cJ2_getChar_3b067 41 = .ok (.iand, 1) := by decide +kernel
theorem dJ2_getChar_3b067_42 : decode cJ2_getChar_3b067 42 = .ok (.getstatic 59, 3) := by decide +kernel
theorem dJ2_getChar_3b067_45 : decode cJ2_getChar_3b067 45 = .ok (.ishl, 1) := by decide +kernel
theorem dJ2_getChar_3b067_46 : decode cJ2_getChar_3b067 46 = .ok (.aload_n 0, 1) := by decide +kernel
theorem dJ2_getChar_3b067_47 : decode cJ2_getChar_3b067 47 = .ok (.iload_n 1, 1) := by decide +kernel
theorem dJ2_getChar_3b067_48 : decode cJ2_getChar_3b067 48 = .ok (.baload, 1) := by decide +kernel
theorem dJ2_getChar_3b067_49 : decode cJ2_getChar_3b067 49 = .ok (.sipush 255, 3) := by decide +kernel
theorem dJ2_getChar_3b067_52 : decode cJ2_getChar_3b067 52 = .ok (.iand, 1) := by decide +kernel
theorem dJ2_getChar_3b067_53 : decode cJ2_getChar_3b067 53 = .ok (.getstatic 63, 3) := by decide +kernel
theorem dJ2_getChar_3b067_56 : decode cJ2_getChar_3b067 56 = .ok (.ishl, 1) := by decide +kernel
theorem dJ2_getChar_3b067_57 : decode cJ2_getChar_3b067 57 = .ok (.ior, 1) := by decide +kernel
theorem dJ2_getChar_3b067_58 : decode cJ2_getChar_3b067 58 = .ok (.i2c, 1) := by decide +kernel
theorem dJ2_getChar_3b067_59 : decode cJ2_getChar_3b067 59 = .ok (.ireturn, 1) := by decide +kernel
theorem dJ2_length_9d52b_0 : decode cJ2_length_9d52b 0 = .ok (.aload_n 0, 1) := by decide +kernel
theorem dJ2_length_9d52b_1 : decode cJ2_length_9d52b 1 = .ok (.arraylength, 1) := by decide +kernel
theorem dJ2_length_9d52b_2 : decode cJ2_length_9d52b 2 = .ok (.iconst 1, 1) := by decide +kernel
theorem dJ2_length_9d52b_3 : decode cJ2_length_9d52b 3 = .ok (.ishr, 1) := by decide +kernel
theorem dJ2_length_9d52b_4 : decode cJ2_length_9d52b 4 = .ok (.ireturn, 1) := by decide +kernel
theorem dJ2_charAt_3b067_0 : decode cJ2_charAt_3b067 0 = .ok (.iload_n 1, 1) := by decide +kernel
theorem dJ2_charAt_3b067_1 : decode cJ2_charAt_3b067 1 = .ok (.aload_n 0, 1) := by decide +kernel
theorem dJ2_charAt_3b067_2 : decode cJ2_charAt_3b067 2 = .ok (.invokestatic 67, 3) := by decide +kernel
theorem dJ2_charAt_3b067_5 : decode cJ2_charAt_3b067 5 = .ok (.aload_n 0, 1) := by decide +kernel
theorem dJ2_charAt_3b067_6 : decode cJ2_charAt_3b067 6 = .ok (.iload_n 1, 1) := by decide +kernel
theorem dJ2_charAt_3b067_7 : decode cJ2_charAt_3b067 7 = .ok (.invokestatic 71, 3) := by decide +kernel
theorem dJ2_charAt_3b067_10 : decode cJ2_charAt_3b067 10 = .ok (.ireturn, 1) := by decide +kernel
theorem dJ2_checkIndex_2214a_0 : decode cJ2_checkIndex_2214a 0 = .ok (.iload_n 0, 1) := by decide +kernel
theorem dJ2_checkIndex_2214a_1 : decode cJ2_checkIndex_2214a 1 = .ok (.aload_n 1, 1) := by decide +kernel
theorem dJ2_checkIndex_2214a_2 : decode cJ2_checkIndex_2214a 2 = .ok (.invokestatic 48, 3) := by decide +kernel
theorem dJ2_checkIndex_2214a_5 : decode cJ2_checkIndex_2214a 5 = .ok (.invokestatic 414, 3) := by decide +kernel
theorem dJ2_checkIndex_2214a_8 : decode cJ2_checkIndex_2214a 8 = .ok (.return_, 1) := by decide +kernel
theorem dJ3_checkIndex_8e157_0 : decode cJ3_checkIndex_8e157 0 = .ok (.iload_n 0, 1) := by decide +kernel
theorem dJ3_checkIndex_8e157_1 : decode cJ3_checkIndex_8e157 1 = .ok (.ifCond .lt 8, 3) := by decide +kernel
theorem dJ3_checkIndex_8e157_4 : decode cJ3_checkIndex_8e157 4 = .ok (.iload_n 0, 1) := by decide +kernel
theorem dJ3_checkIndex_8e157_5 : decode cJ3_checkIndex_8e157 5 = .ok (.iload_n 1, 1) := by decide +kernel
theorem dJ3_checkIndex_8e157_6 : decode cJ3_checkIndex_8e157 6 = .ok (.if_icmp .lt 10, 3) := by decide +kernel
theorem dJ3_checkIndex_8e157_9 : decode cJ3_checkIndex_8e157 9 = .ok (.aload_n 2, 1) := by decide +kernel
theorem dJ3_checkIndex_8e157_10 : decode cJ3_checkIndex_8e157 10 = .ok (.iload_n 0, 1) := by decide +kernel
theorem dJ3_checkIndex_8e157_11 : decode cJ3_checkIndex_8e157 11 = .ok (.iload_n 1, 1) := by decide +kernel
theorem dJ3_checkIndex_8e157_12 : decode cJ3_checkIndex_8e157 12 = .ok (.invokestatic 95, 3) := by decide +kernel
theorem dJ3_checkIndex_8e157_15 : decode cJ3_checkIndex_8e157 15 = .ok (.athrow, 1) := by decide +kernel
theorem dJ3_checkIndex_8e157_16 : decode cJ3_checkIndex_8e157 16 = .ok (.iload_n 0, 1) := by decide +kernel
theorem dJ3_checkIndex_8e157_17 : decode cJ3_checkIndex_8e157 17 = .ok (.ireturn, 1) := by decide +kernel
