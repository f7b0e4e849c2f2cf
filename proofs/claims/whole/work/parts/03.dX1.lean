theorem dX1_init_0 : decode cX1_init 0 = .ok (.aload_n 0, 1) := by decide +kernel
theorem dX1_init_1 : decode cX1_init 1 = .ok (.aload_n 1, 1) := by decide +kernel
theorem dX1_init_2 : decode cX1_init 2 = .ok (.aload_n 2, 1) := by decide +kernel
theorem dX1_init_3 : decode cX1_init 3 = .ok (.iload_n 3, 1) := by decide +kernel
theorem dX1_init_4 : decode cX1_init 4 = .ok (.invokespecial 3, 3) := by decide +kernel
theorem dX1_init_7 : decode cX1_init 7 = .ok (.return_, 1) := by decide +kernel
theorem dX1_readEnd_0 : decode cX1_readEnd 0 = .ok (.aload_n 0, 1) := by decide +kernel
theorem dX1_readEnd_1 : decode cX1_readEnd 1 = .ok (.invokevirtual 9, 3) := by decide +kernel
theorem dX1_readEnd_4 : decode cX1_readEnd 4 = .ok (.aload_n 0, 1) := by decide +kernel
theorem dX1_readEnd_5 : decode cX1_readEnd 5 = .ok (.getfield 15, 3) := by decide +kernel
theorem dX1_readEnd_8 : decode cX1_readEnd 8 = .ok (.aload_n 0, 1) := by decide +kernel
theorem dX1_readEnd_9 : decode cX1_readEnd 9 = .ok (.getfield 19, 3) := by decide +kernel
theorem dX1_readEnd_12 : decode cX1_readEnd 12 = .ok (.invokevirtual 23, 3) := by decide +kernel
theorem dX1_readEnd_15 : decode cX1_readEnd 15 = .ok (.if_icmp .eq 15, 3) := by decide +kernel
theorem dX1_readEnd_18 : decode cX1_readEnd 18 = .ok (.aload_n 0, 1) := by decide +kernel
theorem dX1_readEnd_19 : decode cX1_readEnd 19 = .ok (.iconst 1, 1) := by decide +kernel
theorem dX1_readEnd_20 : decode cX1_readEnd 20 = .ok (.aload_n 0, 1) := by decide +kernel
theorem dX1_readEnd_21 : decode cX1_readEnd 21 = .ok (.getfield 15, 3) := by decide +kernel
theorem dX1_readEnd_24 : decode cX1_readEnd 24 = .ok (.invokevirtual 29, 3) := by decide +kernel
theorem dX1_readEnd_27 : decode cX1_readEnd 27 = .ok (.ifCond .eq 7, 3) := by decide +kernel
theorem dX1_readEnd_30 : decode cX1_readEnd 30 = .ok (.iconst 1, 1) := by decide +kernel
theorem dX1_readEnd_31 : decode cX1_readEnd 31 = .ok (.goto 4, 3) := by decide +kernel
theorem dX1_readEnd_34 : decode cX1_readEnd 34 = .ok (.iconst 0, 1) := by decide +kernel
theorem dX1_readEnd_35 : decode cX1_readEnd 35 = .ok (.ireturn, 1) := by decide +kernel
theorem dX1_readValue_0 : decode cX1_readValue 0 = .ok (.aload_n 0, 1) := by decide +kernel
theorem dX1_readValue_1 : decode cX1_readValue 1 = .ok (.invokevirtual 9, 3) := by decide +kernel
theorem dX1_readValue_4 : decode cX1_readValue 4 = .ok (.aload_n 0, 1) := by decide +kernel
theorem dX1_readValue_5 : decode cX1_readValue 5 = .ok (.getfield 19, 3) := by decide +kernel
theorem dX1_readValue_8 : decode cX1_readValue 8 = .ok (.aload_n 0, 1) := by decide +kernel
theorem dX1_readValue_9 : decode cX1_readValue 9 = .ok (.getfield 15, 3) := by decide +kernel
theorem dX1_readValue_12 : decode cX1_readValue 12 = .ok (.invokevirtual 33, 3) := by decide +kernel
theorem dX1_readValue_15 : decode cX1_readValue 15 = .ok (.istore_n 2, 1) := by decide +kernel
theorem dX1_readValue_16 : decode cX1_readValue 16 = .ok (.iload_n 2, 1) := by decide +kernel
theorem dX1_readValue_17 : decode cX1_readValue 17 = .ok (.lookupswitch 109 #[(34, 59), (91, 64), (102, 82), (110, 100), (116, 91), (123, 73)], 59) := by decide +kernel
theorem dX1_readValue_76 : decode cX1_readValue 76 = .ok (.aload_n 0, 1) := by decide +kernel
theorem dX1_readValue_77 : decode cX1_readValue 77 = .ok (.invokevirtual 37, 3) := by decide +kernel
theorem dX1_readValue_80 : decode cX1_readValue 80 = .ok (.ireturn, 1) := by decide +kernel
theorem dX1_readValue_81 : decode cX1_readValue 81 = .ok (.aload_n 0, 1) := by decide +kernel
theorem dX1_readValue_82 : decode cX1_readValue 82 = .ok (.iconst 4, 1) := by decide +kernel
theorem dX1_readValue_83 : decode cX1_readValue 83 = .ok (.bipush 93, 2) := by decide +kernel
theorem dX1_readValue_85 : decode cX1_readValue 85 = .ok (.iload_n 1, 1) := by decide +kernel
theorem dX1_readValue_86 : decode cX1_readValue 86 = .ok (.invokevirtual 41, 3) := by decide +kernel
theorem dX1_readValue_89 : decode cX1_readValue 89 = .ok (.ireturn, 1) := by decide +kernel
theorem dX1_readValue_90 : decode cX1_readValue 90 = .ok (.aload_n 0, 1) := by decide +kernel
theorem dX1_readValue_91 : decode cX1_readValue 91 = .ok (.iconst 5, 1) := by decide +kernel
theorem dX1_readValue_92 : decode cX1_readValue 92 = .ok (.bipush 125, 2) := by decide +kernel
theorem dX1_readValue_94 : decode cX1_readValue 94 = .ok (.iload_n 1, 1) := by decide +kernel
theorem dX1_readValue_95 : decode cX1_readValue 95 = .ok (.invokevirtual 41, 3) := by decide +kernel
theorem dX1_readValue_98 : decode cX1_readValue 98 = .ok (.ireturn, 1) := by decide +kernel
theorem dX1_readValue_99 : decode cX1_readValue 99 = .ok (.aload_n 0, 1) := by decide +kernel
theorem dX1_readValue_100 : decode cX1_readValue 100 = .ok (.ldc 45, 2) := by decide +kernel
theorem dX1_readValue_102 : decode cX1_readValue 102 = .ok (.bipush 20, 2) := by decide +kernel
theorem dX1_readValue_104 : decode cX1_readValue 104 = .ok (.invokevirtual 47, 3) := by decide +kernel
theorem dX1_readValue_107 : decode cX1_readValue 107 = .ok (.ireturn, 1) := by decide +kernel
theorem dX1_readValue_108 : decode cX1_readValue 108 = .ok (.aload_n 0, 1) := by decide +kernel
theorem dX1_readValue_109 : decode cX1_readValue 109 = .ok (.ldc 51, 2) := by decide +kernel
theorem dX1_readValue_111 : decode cX1_readValue 111 = .ok (.bipush 21, 2) := by decide +kernel
theorem dX1_readValue_113 : decode cX1_readValue 113 = .ok (.invokevirtual 47, 3) := by decide +kernel
theorem dX1_readValue_116 : decode cX1_readValue 116 = .ok (.ireturn, 1) := by decide +kernel
theorem dX1_readValue_117 : decode cX1_readValue 117 = .ok (.aload_n 0, 1) := by decide +kernel
theorem dX1_readValue_118 : decode cX1_readValue 118 = .ok (.ldc 53, 2) := by decide +kernel
theorem dX1_readValue_120 : decode cX1_readValue 120 = .ok (.bipush 22, 2) := by decide +kernel
theorem dX1_readValue_122 : decode cX1_readValue 122 = .ok (.invokevirtual 47, 3) := by decide +kernel
theorem dX1_readValue_125 : decode cX1_readValue 125 = .ok (.ireturn, 1) := by decide +kernel
theorem dX1_readValue_126 : decode cX1_readValue 126 = .ok (.iload_n 2, 1) := by decide +kernel
theorem dX1_readValue_127 : decode cX1_readValue 127 = .ok (.bipush 45, 2) := by decide +kernel
theorem dX1_readValue_129 : decode cX1_readValue 129 = .ok (.if_icmp .eq 10, 3) := by decide +kernel
theorem dX1_readValue_132 : decode cX1_readValue 132 = .ok (.iload_n 2, 1) := by decide +kernel
theorem dX1_readValue_133 : decode cX1_readValue 133 = .ok (.invokestatic 55, 3) := by decide +kernel
theorem dX1_readValue_136 : decode cX1_readValue 136 = .ok (.ifCond .eq 10, 3) := by decide +kernel
theorem dX1_readValue_139 : decode cX1_readValue 139 = .ok (.aload_n 0, 1) := by decide +kernel
theorem dX1_readValue_140 : decode cX1_readValue 140 = .ok (.invokevirtual 59, 3) := by decide +kernel
theorem dX1_readValue_143 : decode cX1_readValue 143 = .ok (.goto 12, 3) := by decide +kernel
theorem dX1_readValue_146 : decode cX1_readValue 146 = .ok (.aload_n 0, 1) := by decide +kernel
theorem dX1_readValue_147 : decode cX1_readValue 147 = .ok (.iconst 1, 1) := by decide +kernel
theorem dX1_readValue_148 : decode cX1_readValue 148 = .ok (.aload_n 0, 1) := by decide +kernel
theorem dX1_readValue_149 : decode cX1_readValue 149 = .ok (.getfield 15, 3) := by decide +kernel
theorem dX1_readValue_152 : decode cX1_readValue 152 = .ok (.invokevirtual 29, 3) := by decide +kernel
theorem dX1_readValue_155 : decode cX1_readValue 155 = .ok (.ireturn, 1) := by decide +kernel
theorem dX1_skipBlanks_0 : decode cX1_skipBlanks 0 = .ok (.aload_n 0, 1) := by decide +kernel
theorem dX1_skipBlanks_1 : decode cX1_skipBlanks 1 = .ok (.getfield 15, 3) := by decide +kernel
theorem dX1_skipBlanks_4 : decode cX1_skipBlanks 4 = .ok (.istore_n 1, 1) := by decide +kernel
theorem dX1_skipBlanks_5 : decode cX1_skipBlanks 5 = .ok (.iload_n 1, 1) := by decide +kernel
theorem dX1_skipBlanks_6 : decode cX1_skipBlanks 6 = .ok (.aload_n 0, 1) := by decide +kernel
theorem dX1_skipBlanks_7 : decode cX1_skipBlanks 7 = .ok (.getfield 19, 3) := by decide +kernel
theorem dX1_skipBlanks_10 : decode cX1_skipBlanks 10 = .ok (.invokevirtual 23, 3) := by decide +kernel
theorem dX1_skipBlanks_13 : decode cX1_skipBlanks 13 = .ok (.if_icmp .ge 30, 3) := by decide +kernel
theorem dX1_skipBlanks_16 : decode cX1_skipBlanks 16 = .ok (.aload_n 0, 1) := by decide +kernel
theorem dX1_skipBlanks_17 : decode cX1_skipBlanks 17 = .ok (.getfield 19, 3) := by decide +kernel
theorem dX1_skipBlanks_20 : decode cX1_skipBlanks 20 = .ok (.iload_n 1, 1) := by decide +kernel
theorem dX1_skipBlanks_21 : decode cX1_skipBlanks 21 = .ok (.invokevirtual 33, 3) := by decide +kernel
theorem dX1_skipBlanks_24 : decode cX1_skipBlanks 24 = .ok (.invokestatic 62, 3) := by decide +kernel
theorem dX1_skipBlanks_27 : decode cX1_skipBlanks 27 = .ok (.ifCond .eq 16, 3) := by decide +kernel
theorem dX1_skipBlanks_30 : decode cX1_skipBlanks 30 = .ok (.aload_n 0, 1) := by decide +kernel
theorem dX1_skipBlanks_31 : decode cX1_skipBlanks 31 = .ok (.iload_n 1, 1) := by decide +kernel
theorem dX1_skipBlanks_32 : decode cX1_skipBlanks 32 = .ok (.iconst 1, 1) := by decide +kernel
theorem dX1_skipBlanks_33 : decode cX1_skipBlanks 33 = .ok (.iadd, 1) := by decide +kernel
theorem dX1_skipBlanks_34 : decode cX1_skipBlanks 34 = .ok (.putfield 15, 3) := by decide +kernel
theorem dX1_skipBlanks_37 : decode cX1_skipBlanks 37 = .ok (.iinc 1 1, 3) := by decide +kernel
theorem dX1_skipBlanks_40 : decode cX1_skipBlanks 40 = .ok (.goto (-35), 3) := by decide +kernel
theorem dX1_skipBlanks_43 : decode cX1_skipBlanks 43 = .ok (.return_, 1) := by decide +kernel
theorem dX1_readWord_0 : decode cX1_readWord 0 = .ok (.iconst 0, 1) := by decide +kernel
theorem dX1_readWord_1 : decode cX1_readWord 1 = .ok (.istore_n 3, 1) := by decide +kernel
theorem dX1_readWord_2 : decode cX1_readWord 2 = .ok (.iload_n 3, 1) := by decide +kernel
theorem dX1_readWord_3 : decode cX1_readWord 3 = .ok (.aload_n 1, 1) := by decide +kernel
theorem dX1_readWord_4 : decode cX1_readWord 4 = .ok (.invokevirtual 65, 3) := by decide +kernel
theorem dX1_readWord_7 : decode cX1_readWord 7 = .ok (.if_icmp .ge 48, 3) := by decide +kernel
theorem dX1_readWord_10 : decode cX1_readWord 10 = .ok (.aload_n 0, 1) := by decide +kernel
theorem dX1_readWord_11 : decode cX1_readWord 11 = .ok (.getfield 19, 3) := by decide +kernel
theorem dX1_readWord_14 : decode cX1_readWord 14 = .ok (.aload_n 0, 1) := by decide +kernel
theorem dX1_readWord_15 : decode cX1_readWord 15 = .ok (.getfield 15, 3) := by decide +kernel
theorem dX1_readWord_18 : decode cX1_readWord 18 = .ok (.invokevirtual 33, 3) := by decide +kernel
theorem dX1_readWord_21 : decode cX1_readWord 21 = .ok (.aload_n 1, 1) := by decide +kernel
theorem dX1_readWord_22 : decode cX1_readWord 22 = .ok (.iload_n 3, 1) := by decide +kernel
theorem dX1_readWord_23 : decode cX1_readWord 23 = .ok (.invokevirtual 70, 3) := by decide +kernel
theorem dX1_readWord_26 : decode cX1_readWord 26 = .ok (.if_icmp .eq 13, 3) := by decide +kernel
theorem dX1_readWord_29 : decode cX1_readWord 29 = .ok (.aload_n 0, 1) := by decide +kernel
theorem dX1_readWord_30 : decode cX1_readWord 30 = .ok (.iconst 1, 1) := by decide +kernel
theorem dX1_readWord_31 : decode cX1_readWord 31 = .ok (.aload_n 0, 1) := by decide +kernel
theorem dX1_readWord_32 : decode cX1_readWord 32 = .ok (.getfield 15, 3) := by decide +kernel
theorem dX1_readWord_35 : decode cX1_readWord 35 = .ok (.invokevirtual 29, 3) := by decide +kernel
theorem dX1_readWord_38 : decode cX1_readWord 38 = .ok (.ireturn, 1) := by decide +kernel
theorem dX1_readWord_39 : decode cX1_readWord 39 = .ok (.aload_n 0, 1) := by decide +kernel
theorem dX1_readWord_40 : decode cX1_readWord 40 = .ok (.dup, 1) := by decide +kernel
theorem dX1_readWord_41 : decode cX1_readWord 41 = .ok (.getfield 15, 3) := by decide +kernel
theorem dX1_readWord_44 : decode cX1_readWord 44 = .ok (.iconst 1, 1) := by decide +kernel
theorem dX1_readWord_45 : decode cX1_readWord 45 = .ok (.iadd, 1) := by decide +kernel
theorem dX1_readWord_46 : decode cX1_readWord 46 = .ok (.putfield 15, 3) := by decide +kernel
theorem dX1_readWord_49 : decode cX1_readWord 49 = .ok (.iinc 3 1, 3) := by decide +kernel
theorem dX1_readWord_52 : decode cX1_readWord 52 = .ok (.goto (-50), 3) := by decide +kernel
theorem dX1_readWord_55 : decode cX1_readWord 55 = .ok (.aload_n 0, 1) := by decide +kernel
theorem dX1_readWord_56 : decode cX1_readWord 56 = .ok (.getfield 74, 3) := by decide +kernel
theorem dX1_readWord_59 : decode cX1_readWord 59 = .ok (.bipush 7, 2) := by decide +kernel
theorem dX1_readWord_61 : decode cX1_readWord 61 = .ok (.iload_n 2, 1) := by decide +kernel
theorem dX1_readWord_62 : decode cX1_readWord 62 = .ok (.i2l, 1) := by decide +kernel
theorem dX1_readWord_63 : decode cX1_readWord 63 = .ok (.invokevirtual 77, 3) := by decide +kernel
theorem dX1_readWord_66 : decode cX1_readWord 66 = .ok (.iconst 1, 1) := by decide +kernel
theorem dX1_readWord_67 : decode cX1_readWord 67 = .ok (.ireturn, 1) := by decide +kernel
theorem dX1_readParts_0 : decode cX1_readParts 0 = .ok (.iload_n 3, 1) := by decide +kernel
theorem dX1_readParts_1 : decode cX1_readParts 1 = .ok (.aload_n 0, 1) := by decide +kernel
theorem dX1_readParts_2 : decode cX1_readParts 2 = .ok (.getfield 81, 3) := by decide +kernel
theorem dX1_readParts_5 : decode cX1_readParts 5 = .ok (.if_icmp .lt 13, 3) := by decide +kernel
theorem dX1_readParts_8 : decode cX1_readParts 8 = .ok (.aload_n 0, 1) := by decide +kernel
theorem dX1_readParts_9 : decode cX1_readParts 9 = .ok (.iconst 4, 1) := by decide +kernel
theorem dX1_readParts_10 : decode cX1_readParts 10 = .ok (.aload_n 0, 1) := by decide +kernel
theorem dX1_readParts_11 : decode cX1_readParts 11 = .ok (.getfield 15, 3) := by decide +kernel
theorem dX1_readParts_14 : decode cX1_readParts 14 = .ok (.invokevirtual 29, 3) := by decide +kernel
theorem dX1_readParts_17 : decode cX1_readParts 17 = .ok (.ireturn, 1) := by decide +kernel
theorem dX1_readParts_18 : decode cX1_readParts 18 = .ok (.aload_n 0, 1) := by decide +kernel
theorem dX1_readParts_19 : decode cX1_readParts 19 = .ok (.getfield 74, 3) := by decide +kernel
theorem dX1_readParts_22 : decode cX1_readParts 22 = .ok (.invokevirtual 84, 3) := by decide +kernel
theorem dX1_readParts_25 : decode cX1_readParts 25 = .ok (.istore 4, 2) := by decide +kernel
theorem dX1_readParts_27 : decode cX1_readParts 27 = .ok (.aload_n 0, 1) := by decide +kernel
theorem dX1_readParts_28 : decode cX1_readParts 28 = .ok (.dup, 1) := by decide +kernel
theorem dX1_readParts_29 : decode cX1_readParts 29 = .ok (.getfield 15, 3) := by decide +kernel
theorem dX1_readParts_32 : decode cX1_readParts 32 = .ok (.iconst 1, 1) := by decide +kernel
theorem dX1_readParts_33 : decode cX1_readParts 33 = .ok (.iadd, 1) := by decide +kernel
theorem dX1_readParts_34 : decode cX1_readParts 34 = .ok (.putfield 15, 3) := by decide +kernel
theorem dX1_readParts_37 : decode cX1_readParts 37 = .ok (.aload_n 0, 1) := by decide +kernel
theorem dX1_readParts_38 : decode cX1_readParts 38 = .ok (.invokevirtual 9, 3) := by decide +kernel
theorem dX1_readParts_41 : decode cX1_readParts 41 = .ok (.aload_n 0, 1) := by decide +kernel
theorem dX1_readParts_42 : decode cX1_readParts 42 = .ok (.getfield 19, 3) := by decide +kernel
theorem dX1_readParts_45 : decode cX1_readParts 45 = .ok (.aload_n 0, 1) := by decide +kernel
theorem dX1_readParts_46 : decode cX1_readParts 46 = .ok (.getfield 15, 3) := by decide +kernel
theorem dX1_readParts_49 : decode cX1_readParts 49 = .ok (.invokevirtual 33, 3) := by decide +kernel
theorem dX1_readParts_52 : decode cX1_readParts 52 = .ok (.iload_n 2, 1) := by decide +kernel
theorem dX1_readParts_53 : decode cX1_readParts 53 = .ok (.if_icmp .ne 12, 3) := by decide +kernel
theorem dX1_readParts_56 : decode cX1_readParts 56 = .ok (.aload_n 0, 1) := by decide +kernel
theorem dX1_readParts_57 : decode cX1_readParts 57 = .ok (.iload 4, 2) := by decide +kernel
theorem dX1_readParts_59 : decode cX1_readParts 59 = .ok (.iload_n 1, 1) := by decide +kernel
theorem dX1_readParts_60 : decode cX1_readParts 60 = .ok (.iconst 0, 1) := by decide +kernel
theorem dX1_readParts_61 : decode cX1_readParts 61 = .ok (.invokevirtual 87, 3) := by decide +kernel
theorem dX1_readParts_64 : decode cX1_readParts 64 = .ok (.ireturn, 1) := by decide +kernel
theorem dX1_readParts_65 : decode cX1_readParts 65 = .ok (.iconst 1, 1) := by decide +kernel
theorem dX1_readParts_66 : decode cX1_readParts 66 = .ok (.istore 5, 2) := by decide +kernel
theorem dX1_readParts_68 : decode cX1_readParts 68 = .ok (.iload 5, 2) := by decide +kernel
theorem dX1_readParts_70 : decode cX1_readParts 70 = .ok (.aload_n 0, 1) := by decide +kernel
theorem dX1_readParts_71 : decode cX1_readParts 71 = .ok (.getfield 19, 3) := by decide +kernel
theorem dX1_readParts_74 : decode cX1_readParts 74 = .ok (.invokevirtual 23, 3) := by decide +kernel
theorem dX1_readParts_77 : decode cX1_readParts 77 = .ok (.if_icmp .gt 93, 3) := by decide +kernel
theorem dX1_readParts_80 : decode cX1_readParts 80 = .ok (.iload_n 1, 1) := by decide +kernel
theorem dX1_readParts_81 : decode cX1_readParts 81 = .ok (.iconst 5, 1) := by decide +kernel
theorem dX1_readParts_82 : decode cX1_readParts 82 = .ok (.if_icmp .ne 10, 3) := by decide +kernel
theorem dX1_readParts_85 : decode cX1_readParts 85 = .ok (.aload_n 0, 1) := by decide +kernel
theorem dX1_readParts_86 : decode cX1_readParts 86 = .ok (.invokevirtual 90, 3) := by decide +kernel
theorem dX1_readParts_89 : decode cX1_readParts 89 = .ok (.ifCond .eq 13, 3) := by decide +kernel
theorem dX1_readParts_92 : decode cX1_readParts 92 = .ok (.aload_n 0, 1) := by decide +kernel
theorem dX1_readParts_93 : decode cX1_readParts 93 = .ok (.iload_n 3, 1) := by decide +kernel
theorem dX1_readParts_94 : decode cX1_readParts 94 = .ok (.iconst 1, 1) := by decide +kernel
theorem dX1_readParts_95 : decode cX1_readParts 95 = .ok (.iadd, 1) := by decide +kernel
theorem dX1_readParts_96 : decode cX1_readParts 96 = .ok (.invokevirtual 93, 3) := by decide +kernel
theorem dX1_readParts_99 : decode cX1_readParts 99 = .ok (.ifCond .ne 5, 3) := by decide +kernel
theorem dX1_readParts_102 : decode cX1_readParts 102 = .ok (.iconst 0, 1) := by decide +kernel
theorem dX1_readParts_103 : decode cX1_readParts 103 = .ok (.ireturn, 1) := by decide +kernel
theorem dX1_readParts_104 : decode cX1_readParts 104 = .ok (.aload_n 0, 1) := by decide +kernel
theorem dX1_readParts_105 : decode cX1_readParts 105 = .ok (.invokevirtual 9, 3) := by decide +kernel
theorem dX1_readParts_108 : decode cX1_readParts 108 = .ok (.aload_n 0, 1) := by decide +kernel
theorem dX1_readParts_109 : decode cX1_readParts 109 = .ok (.getfield 19, 3) := by decide +kernel
theorem dX1_readParts_112 : decode cX1_readParts 112 = .ok (.aload_n 0, 1) := by decide +kernel
theorem dX1_readParts_113 : decode cX1_readParts 113 = .ok (.getfield 15, 3) := by decide +kernel
theorem dX1_readParts_116 : decode cX1_readParts 116 = .ok (.invokevirtual 33, 3) := by decide +kernel
theorem dX1_readParts_119 : decode cX1_readParts 119 = .ok (.istore 6, 2) := by decide +kernel
theorem dX1_readParts_121 : decode cX1_readParts 121 = .ok (.iload 6, 2) := by decide +kernel
theorem dX1_readParts_123 : decode cX1_readParts 123 = .ok (.iload_n 2, 1) := by decide +kernel
theorem dX1_readParts_124 : decode cX1_readParts 124 = .ok (.if_icmp .ne 13, 3) := by decide +kernel
theorem dX1_readParts_127 : decode cX1_readParts 127 = .ok (.aload_n 0, 1) := by decide +kernel
theorem dX1_readParts_128 : decode cX1_readParts 128 = .ok (.iload 4, 2) := by decide +kernel
theorem dX1_readParts_130 : decode cX1_readParts 130 = .ok (.iload_n 1, 1) := by decide +kernel
theorem dX1_readParts_131 : decode cX1_readParts 131 = .ok (.iload 5, 2) := by decide +kernel
theorem dX1_readParts_133 : decode cX1_readParts 133 = .ok (.invokevirtual 87, 3) := by decide +kernel
theorem dX1_readParts_136 : decode cX1_readParts 136 = .ok (.ireturn, 1) := by decide +kernel
theorem dX1_readParts_137 : decode cX1_readParts 137 = .ok (.iload 6, 2) := by decide +kernel
theorem dX1_readParts_139 : decode cX1_readParts 139 = .ok (.bipush 44, 2) := by decide +kernel
theorem dX1_readParts_141 : decode cX1_readParts 141 = .ok (.if_icmp .eq 13, 3) := by decide +kernel
theorem dX1_readParts_144 : decode cX1_readParts 144 = .ok (.aload_n 0, 1) := by decide +kernel
theorem dX1_readParts_145 : decode cX1_readParts 145 = .ok (.iconst 1, 1) := by decide +kernel
theorem dX1_readParts_146 : decode cX1_readParts 146 = .ok (.aload_n 0, 1) := by decide +kernel
theorem dX1_readParts_147 : decode cX1_readParts 147 = .ok (.getfield 15, 3) := by decide +kernel
theorem dX1_readParts_150 : decode cX1_readParts 150 = .ok (.invokevirtual 29, 3) := by decide +kernel
theorem dX1_readParts_153 : decode cX1_readParts 153 = .ok (.ireturn, 1) := by decide +kernel
theorem dX1_readParts_154 : decode cX1_readParts 154 = .ok (.aload_n 0, 1) := by decide +kernel
theorem dX1_readParts_155 : decode cX1_readParts 155 = .ok (.dup, 1) := by decide +kernel
theorem dX1_readParts_156 : decode cX1_readParts 156 = .ok (.getfield 15, 3) := by decide +kernel
theorem dX1_readParts_159 : decode cX1_readParts 159 = .ok (.iconst 1, 1) := by decide +kernel
theorem dX1_readParts_160 : decode cX1_readParts 160 = .ok (.iadd, 1) := by decide +kernel
theorem dX1_readParts_161 : decode cX1_readParts 161 = .ok (.putfield 15, 3) := by decide +kernel
theorem dX1_readParts_164 : decode cX1_readParts 164 = .ok (.iinc 5 1, 3) := by decide +kernel
theorem dX1_readParts_167 : decode cX1_readParts 167 = .ok (.goto (-99), 3) := by decide +kernel
theorem dX1_readParts_170 : decode cX1_readParts 170 = .ok (.aload_n 0, 1) := by decide +kernel
theorem dX1_readParts_171 : decode cX1_readParts 171 = .ok (.iconst 1, 1) := by decide +kernel
theorem dX1_readParts_172 : decode cX1_readParts 172 = .ok (.aload_n 0, 1) := by decide +kernel
theorem dX1_readParts_173 : decode cX1_readParts 173 = .ok (.getfield 15, 3) := by decide +kernel
theorem dX1_readParts_176 : decode cX1_readParts 176 = .ok (.invokevirtual 29, 3) := by decide +kernel
theorem dX1_readParts_179 : decode cX1_readParts 179 = .ok (.ireturn, 1) := by decide +kernel
theorem dX1_closeParts_0 : decode cX1_closeParts 0 = .ok (.aload_n 0, 1) := by decide +kernel
theorem dX1_closeParts_1 : decode cX1_closeParts 1 = .ok (.dup, 1) := by decide +kernel
theorem dX1_closeParts_2 : decode cX1_closeParts 2 = .ok (.getfield 15, 3) := by decide +kernel
theorem dX1_closeParts_5 : decode cX1_closeParts 5 = .ok (.iconst 1, 1) := by decide +kernel
theorem dX1_closeParts_6 : decode cX1_closeParts 6 = .ok (.iadd, 1) := by decide +kernel
theorem dX1_closeParts_7 : decode cX1_closeParts 7 = .ok (.putfield 15, 3) := by decide +kernel
theorem dX1_closeParts_10 : decode cX1_closeParts 10 = .ok (.aload_n 0, 1) := by decide +kernel
theorem dX1_closeParts_11 : decode cX1_closeParts 11 = .ok (.getfield 74, 3) := by decide +kernel
theorem dX1_closeParts_14 : decode cX1_closeParts 14 = .ok (.iload_n 1, 1) := by decide +kernel
theorem dX1_closeParts_15 : decode cX1_closeParts 15 = .ok (.iload_n 2, 1) := by decide +kernel
theorem dX1_closeParts_16 : decode cX1_closeParts 16 = .ok (.iload_n 3, 1) := by decide +kernel
theorem dX1_closeParts_17 : decode cX1_closeParts 17 = .ok (.i2l, 1) := by decide +kernel
theorem dX1_closeParts_18 : decode cX1_closeParts 18 = .ok (.invokevirtual 96, 3) := by decide +kernel
theorem dX1_closeParts_21 : decode cX1_closeParts 21 = .ok (.iconst 1, 1) := by decide +kernel
theorem dX1_closeParts_22 : decode cX1_closeParts 22 = .ok (.ireturn, 1) := by decide +kernel
theorem dX1_readKey_0 : decode cX1_readKey 0 = .ok (.aload_n 0, 1) := by decide +kernel
theorem dX1_readKey_1 : decode cX1_readKey 1 = .ok (.invokevirtual 9, 3) := by decide +kernel
theorem dX1_readKey_4 : decode cX1_readKey 4 = .ok (.aload_n 0, 1) := by decide +kernel
theorem dX1_readKey_5 : decode cX1_readKey 5 = .ok (.getfield 19, 3) := by decide +kernel
theorem dX1_readKey_8 : decode cX1_readKey 8 = .ok (.aload_n 0, 1) := by decide +kernel
theorem dX1_readKey_9 : decode cX1_readKey 9 = .ok (.getfield 15, 3) := by decide +kernel
theorem dX1_readKey_12 : decode cX1_readKey 12 = .ok (.invokevirtual 33, 3) := by decide +kernel
theorem dX1_readKey_15 : decode cX1_readKey 15 = .ok (.bipush 34, 2) := by decide +kernel
theorem dX1_readKey_17 : decode cX1_readKey 17 = .ok (.if_icmp .eq 13, 3) := by decide +kernel
theorem dX1_readKey_20 : decode cX1_readKey 20 = .ok (.aload_n 0, 1) := by decide +kernel
theorem dX1_readKey_21 : decode cX1_readKey 21 = .ok (.iconst 1, 1) := by decide +kernel
theorem dX1_readKey_22 : decode cX1_readKey 22 = .ok (.aload_n 0, 1) := by decide +kernel
theorem dX1_readKey_23 : decode cX1_readKey 23 = .ok (.getfield 15, 3) := by decide +kernel
theorem dX1_readKey_26 : decode cX1_readKey 26 = .ok (.invokevirtual 29, 3) := by decide +kernel
theorem dX1_readKey_29 : decode cX1_readKey 29 = .ok (.ireturn, 1) := by decide +kernel
theorem dX1_readKey_30 : decode cX1_readKey 30 = .ok (.aload_n 0, 1) := by decide +kernel
theorem dX1_readKey_31 : decode cX1_readKey 31 = .ok (.invokevirtual 37, 3) := by decide +kernel
theorem dX1_readKey_34 : decode cX1_readKey 34 = .ok (.ifCond .ne 5, 3) := by decide +kernel
theorem dX1_readKey_37 : decode cX1_readKey 37 = .ok (.iconst 0, 1) := by decide +kernel
theorem dX1_readKey_38 : decode cX1_readKey 38 = .ok (.ireturn, 1) := by decide +kernel
theorem dX1_readKey_39 : decode cX1_readKey 39 = .ok (.aload_n 0, 1) := by decide +kernel
theorem dX1_readKey_40 : decode cX1_readKey 40 = .ok (.invokevirtual 9, 3) := by decide +kernel
theorem dX1_readKey_43 : decode cX1_readKey 43 = .ok (.aload_n 0, 1) := by decide +kernel
theorem dX1_readKey_44 : decode cX1_readKey 44 = .ok (.getfield 19, 3) := by decide +kernel
theorem dX1_readKey_47 : decode cX1_readKey 47 = .ok (.aload_n 0, 1) := by decide +kernel
theorem dX1_readKey_48 : decode cX1_readKey 48 = .ok (.getfield 15, 3) := by decide +kernel
theorem dX1_readKey_51 : decode cX1_readKey 51 = .ok (.invokevirtual 33, 3) := by decide +kernel
theorem dX1_readKey_54 : decode cX1_readKey 54 = .ok (.bipush 58, 2) := by decide +kernel
theorem dX1_readKey_56 : decode cX1_readKey 56 = .ok (.if_icmp .eq 13, 3) := by decide +kernel
theorem dX1_readKey_59 : decode cX1_readKey 59 = .ok (.aload_n 0, 1) := by decide +kernel
theorem dX1_readKey_60 : decode cX1_readKey 60 = .ok (.iconst 1, 1) := by decide +kernel
theorem dX1_readKey_61 : decode cX1_readKey 61 = .ok (.aload_n 0, 1) := by decide +kernel
theorem dX1_readKey_62 : decode cX1_readKey 62 = .ok (.getfield 15, 3) := by decide +kernel
theorem dX1_readKey_65 : decode cX1_readKey 65 = .ok (.invokevirtual 29, 3) := by decide +kernel
theorem dX1_readKey_68 : decode cX1_readKey 68 = .ok (.ireturn, 1) := by decide +kernel
theorem dX1_readKey_69 : decode cX1_readKey 69 = .ok (.aload_n 0, 1) := by decide +kernel
theorem dX1_readKey_70 : decode cX1_readKey 70 = .ok (.dup, 1) := by decide +kernel
theorem dX1_readKey_71 : decode cX1_readKey 71 = .ok (.getfield 15, 3) := by decide +kernel
theorem dX1_readKey_74 : decode cX1_readKey 74 = .ok (.iconst 1, 1) := by decide +kernel
theorem dX1_readKey_75 : decode cX1_readKey 75 = .ok (.iadd, 1) := by decide +kernel
theorem dX1_readKey_76 : decode cX1_readKey 76 = .ok (.putfield 15, 3) := by decide +kernel
theorem dX1_readKey_79 : decode cX1_readKey 79 = .ok (.iconst 1, 1) := by decide +kernel
theorem dX1_readKey_80 : decode cX1_readKey 80 = .ok (.ireturn, 1) := by decide +kernel
theorem dX1_readString_0 : decode cX1_readString 0 = .ok (.aload_n 0, 1) := by decide +kernel
theorem dX1_readString_1 : decode cX1_readString 1 = .ok (.getfield 74, 3) := by decide +kernel
theorem dX1_readString_4 : decode cX1_readString 4 = .ok (.invokevirtual 84, 3) := by decide +kernel
theorem dX1_readString_7 : decode cX1_readString 7 = .ok (.istore_n 1, 1) := by decide +kernel
theorem dX1_readString_8 : decode cX1_readString 8 = .ok (.aload_n 0, 1) := by decide +kernel
theorem dX1_readString_9 : decode cX1_readString 9 = .ok (.getfield 74, 3) := by decide +kernel
theorem dX1_readString_12 : decode cX1_readString 12 = .ok (.invokevirtual 23, 3) := by decide +kernel
theorem dX1_readString_15 : decode cX1_readString 15 = .ok (.istore_n 2, 1) := by decide +kernel
theorem dX1_readString_16 : decode cX1_readString 16 = .ok (.aload_n 0, 1) := by decide +kernel
theorem dX1_readString_17 : decode cX1_readString 17 = .ok (.dup, 1) := by decide +kernel
theorem dX1_readString_18 : decode cX1_readString 18 = .ok (.getfield 15, 3) := by decide +kernel
theorem dX1_readString_21 : decode cX1_readString 21 = .ok (.iconst 1, 1) := by decide +kernel
theorem dX1_readString_22 : decode cX1_readString 22 = .ok (.iadd, 1) := by decide +kernel
theorem dX1_readString_23 : decode cX1_readString 23 = .ok (.putfield 15, 3) := by decide +kernel
theorem dX1_readString_26 : decode cX1_readString 26 = .ok (.iconst 0, 1) := by decide +kernel
theorem dX1_readString_27 : decode cX1_readString 27 = .ok (.istore_n 3, 1) := by decide +kernel
theorem dX1_readString_28 : decode cX1_readString 28 = .ok (.iload_n 3, 1) := by decide +kernel
theorem dX1_readString_29 : decode cX1_readString 29 = .ok (.aload_n 0, 1) := by decide +kernel
theorem dX1_readString_30 : decode cX1_readString 30 = .ok (.getfield 19, 3) := by decide +kernel
theorem dX1_readString_33 : decode cX1_readString 33 = .ok (.invokevirtual 23, 3) := by decide +kernel
theorem dX1_readString_36 : decode cX1_readString 36 = .ok (.if_icmp .gt 135, 3) := by decide +kernel
theorem dX1_readString_39 : decode cX1_readString 39 = .ok (.aload_n 0, 1) := by decide +kernel
theorem dX1_readString_40 : decode cX1_readString 40 = .ok (.getfield 19, 3) := by decide +kernel
theorem dX1_readString_43 : decode cX1_readString 43 = .ok (.aload_n 0, 1) := by decide +kernel
theorem dX1_readString_44 : decode cX1_readString 44 = .ok (.getfield 15, 3) := by decide +kernel
theorem dX1_readString_47 : decode cX1_readString 47 = .ok (.invokevirtual 33, 3) := by decide +kernel
theorem dX1_readString_50 : decode cX1_readString 50 = .ok (.istore 4, 2) := by decide +kernel
theorem dX1_readString_52 : decode cX1_readString 52 = .ok (.iload 4, 2) := by decide +kernel
theorem dX1_readString_54 : decode cX1_readString 54 = .ok (.bipush 34, 2) := by decide +kernel
theorem dX1_readString_56 : decode cX1_readString 56 = .ok (.if_icmp .ne 34, 3) := by decide +kernel
theorem dX1_readString_59 : decode cX1_readString 59 = .ok (.aload_n 0, 1) := by decide +kernel
theorem dX1_readString_60 : decode cX1_readString 60 = .ok (.dup, 1) := by decide +kernel
theorem dX1_readString_61 : decode cX1_readString 61 = .ok (.getfield 15, 3) := by decide +kernel
theorem dX1_readString_64 : decode cX1_readString 64 = .ok (.iconst 1, 1) := by decide +kernel
theorem dX1_readString_65 : decode cX1_readString 65 = .ok (.iadd, 1) := by decide +kernel
theorem dX1_readString_66 : decode cX1_readString 66 = .ok (.putfield 15, 3) := by decide +kernel
theorem dX1_readString_69 : decode cX1_readString 69 = .ok (.aload_n 0, 1) := by decide +kernel
theorem dX1_readString_70 : decode cX1_readString 70 = .ok (.getfield 74, 3) := by decide +kernel
theorem dX1_readString_73 : decode cX1_readString 73 = .ok (.iload_n 1, 1) := by decide +kernel
theorem dX1_readString_74 : decode cX1_readString 74 = .ok (.iconst 3, 1) := by decide +kernel
theorem dX1_readString_75 : decode cX1_readString 75 = .ok (.aload_n 0, 1) := by decide +kernel
theorem dX1_readString_76 : decode cX1_readString 76 = .ok (.getfield 74, 3) := by decide +kernel
theorem dX1_readString_79 : decode cX1_readString 79 = .ok (.invokevirtual 23, 3) := by decide +kernel
theorem dX1_readString_82 : decode cX1_readString 82 = .ok (.iload_n 2, 1) := by decide +kernel
theorem dX1_readString_83 : decode cX1_readString 83 = .ok (.isub, 1) := by decide +kernel
theorem dX1_readString_84 : decode cX1_readString 84 = .ok (.i2l, 1) := by decide +kernel
theorem dX1_readString_85 : decode cX1_readString 85 = .ok (.invokevirtual 96, 3) := by decide +kernel
theorem dX1_readString_88 : decode cX1_readString 88 = .ok (.iconst 1, 1) := by decide +kernel
theorem dX1_readString_89 : decode cX1_readString 89 = .ok (.ireturn, 1) := by decide +kernel
theorem dX1_readString_90 : decode cX1_readString 90 = .ok (.iload 4, 2) := by decide +kernel
theorem dX1_readString_92 : decode cX1_readString 92 = .ok (.bipush 92, 2) := by decide +kernel
theorem dX1_readString_94 : decode cX1_readString 94 = .ok (.if_icmp .ne 25, 3) := by decide +kernel
theorem dX1_readString_97 : decode cX1_readString 97 = .ok (.aload_n 0, 1) := by decide +kernel
theorem dX1_readString_98 : decode cX1_readString 98 = .ok (.getfield 19, 3) := by decide +kernel
theorem dX1_readString_101 : decode cX1_readString 101 = .ok (.aload_n 0, 1) := by decide +kernel
theorem dX1_readString_102 : decode cX1_readString 102 = .ok (.getfield 15, 3) := by decide +kernel
theorem dX1_readString_105 : decode cX1_readString 105 = .ok (.iconst 1, 1) := by decide +kernel
theorem dX1_readString_106 : decode cX1_readString 106 = .ok (.iadd, 1) := by decide +kernel
theorem dX1_readString_107 : decode cX1_readString 107 = .ok (.invokevirtual 33, 3) := by decide +kernel
theorem dX1_readString_110 : decode cX1_readString 110 = .ok (.bipush 117, 2) := by decide +kernel
theorem dX1_readString_112 : decode cX1_readString 112 = .ok (.if_icmp .ne 7, 3) := by decide +kernel
theorem dX1_readString_115 : decode cX1_readString 115 = .ok (.iconst 1, 1) := by decide +kernel
theorem dX1_readString_116 : decode cX1_readString 116 = .ok (.goto 4, 3) := by decide +kernel
theorem dX1_readString_119 : decode cX1_readString 119 = .ok (.iconst 0, 1) := by decide +kernel
theorem dX1_readString_120 : decode cX1_readString 120 = .ok (.istore 5, 2) := by decide +kernel
theorem dX1_readString_122 : decode cX1_readString 122 = .ok (.iload 5, 2) := by decide +kernel
theorem dX1_readString_124 : decode cX1_readString 124 = .ok (.ifCond .eq 13, 3) := by decide +kernel
theorem dX1_readString_127 : decode cX1_readString 127 = .ok (.aload_n 0, 1) := by decide +kernel
theorem dX1_readString_128 : decode cX1_readString 128 = .ok (.invokevirtual 100, 3) := by decide +kernel
theorem dX1_readString_131 : decode cX1_readString 131 = .ok (.ifCond .eq 32, 3) := by decide +kernel
theorem dX1_readString_134 : decode cX1_readString 134 = .ok (.goto 31, 3) := by decide +kernel
theorem dX1_readString_137 : decode cX1_readString 137 = .ok (.iload 4, 2) := by decide +kernel
theorem dX1_readString_139 : decode cX1_readString 139 = .ok (.bipush 92, 2) := by decide +kernel
theorem dX1_readString_141 : decode cX1_readString 141 = .ok (.if_icmp .ne 13, 3) := by decide +kernel
theorem dX1_readString_144 : decode cX1_readString 144 = .ok (.aload_n 0, 1) := by decide +kernel
theorem dX1_readString_145 : decode cX1_readString 145 = .ok (.invokevirtual 103, 3) := by decide +kernel
theorem dX1_readString_148 : decode cX1_readString 148 = .ok (.ifCond .eq 15, 3) := by decide +kernel
theorem dX1_readString_151 : decode cX1_readString 151 = .ok (.goto 14, 3) := by decide +kernel
theorem dX1_readString_154 : decode cX1_readString 154 = .ok (.aload_n 0, 1) := by decide +kernel
theorem dX1_readString_155 : decode cX1_readString 155 = .ok (.iload 4, 2) := by decide +kernel
theorem dX1_readString_157 : decode cX1_readString 157 = .ok (.invokevirtual 106, 3) := by decide +kernel
theorem dX1_readString_160 : decode cX1_readString 160 = .ok (.ifCond .ne 5, 3) := by decide +kernel
theorem dX1_readString_163 : decode cX1_readString 163 = .ok (.iconst 0, 1) := by decide +kernel
theorem dX1_readString_164 : decode cX1_readString 164 = .ok (.ireturn, 1) := by decide +kernel
theorem dX1_readString_165 : decode cX1_readString 165 = .ok (.iinc 3 1, 3) := by decide +kernel
theorem dX1_readString_168 : decode cX1_readString 168 = .ok (.goto (-140), 3) := by decide +kernel
theorem dX1_readString_171 : decode cX1_readString 171 = .ok (.aload_n 0, 1) := by decide +kernel
theorem dX1_readString_172 : decode cX1_readString 172 = .ok (.iconst 1, 1) := by decide +kernel
theorem dX1_readString_173 : decode cX1_readString 173 = .ok (.aload_n 0, 1) := by decide +kernel
theorem dX1_readString_174 : decode cX1_readString 174 = .ok (.getfield 15, 3) := by decide +kernel
theorem dX1_readString_177 : decode cX1_readString 177 = .ok (.invokevirtual 29, 3) := by decide +kernel
theorem dX1_readString_180 : decode cX1_readString 180 = .ok (.ireturn, 1) := by decide +kernel
theorem dX1_readPlainSign_0 : decode cX1_readPlainSign 0 = .ok (.iload_n 1, 1) := by decide +kernel
theorem dX1_readPlainSign_1 : decode cX1_readPlainSign 1 = .ok (.bipush 32, 2) := by decide +kernel
theorem dX1_readPlainSign_3 : decode cX1_readPlainSign 3 = .ok (.if_icmp .ge 13, 3) := by decide +kernel
theorem dX1_readPlainSign_6 : decode cX1_readPlainSign 6 = .ok (.aload_n 0, 1) := by decide +kernel
theorem dX1_readPlainSign_7 : decode cX1_readPlainSign 7 = .ok (.iconst 1, 1) := by decide +kernel
theorem dX1_readPlainSign_8 : decode cX1_readPlainSign 8 = .ok (.aload_n 0, 1) := by decide +kernel
theorem dX1_readPlainSign_9 : decode cX1_readPlainSign 9 = .ok (.getfield 15, 3) := by decide +kernel
theorem dX1_readPlainSign_12 : decode cX1_readPlainSign 12 = .ok (.invokevirtual 29, 3) := by decide +kernel
theorem dX1_readPlainSign_15 : decode cX1_readPlainSign 15 = .ok (.ireturn, 1) := by decide +kernel
theorem dX1_readPlainSign_16 : decode cX1_readPlainSign 16 = .ok (.aload_n 0, 1) := by decide +kernel
theorem dX1_readPlainSign_17 : decode cX1_readPlainSign 17 = .ok (.getfield 19, 3) := by decide +kernel
theorem dX1_readPlainSign_20 : decode cX1_readPlainSign 20 = .ok (.aload_n 0, 1) := by decide +kernel
theorem dX1_readPlainSign_21 : decode cX1_readPlainSign 21 = .ok (.getfield 15, 3) := by decide +kernel
theorem dX1_readPlainSign_24 : decode cX1_readPlainSign 24 = .ok (.aload_n 0, 1) := by decide +kernel
theorem dX1_readPlainSign_25 : decode cX1_readPlainSign 25 = .ok (.getfield 19, 3) := by decide +kernel
theorem dX1_readPlainSign_28 : decode cX1_readPlainSign 28 = .ok (.invokevirtual 23, 3) := by decide +kernel
theorem dX1_readPlainSign_31 : decode cX1_readPlainSign 31 = .ok (.invokestatic 109, 3) := by decide +kernel
theorem dX1_readPlainSign_34 : decode cX1_readPlainSign 34 = .ok (.istore_n 2, 1) := by decide +kernel
theorem dX1_readPlainSign_35 : decode cX1_readPlainSign 35 = .ok (.iload_n 2, 1) := by decide +kernel
theorem dX1_readPlainSign_36 : decode cX1_readPlainSign 36 = .ok (.ifCond .ne 13, 3) := by decide +kernel
theorem dX1_readPlainSign_39 : decode cX1_readPlainSign 39 = .ok (.aload_n 0, 1) := by decide +kernel
theorem dX1_readPlainSign_40 : decode cX1_readPlainSign 40 = .ok (.iconst 2, 1) := by decide +kernel
theorem dX1_readPlainSign_41 : decode cX1_readPlainSign 41 = .ok (.aload_n 0, 1) := by decide +kernel
theorem dX1_readPlainSign_42 : decode cX1_readPlainSign 42 = .ok (.getfield 15, 3) := by decide +kernel
theorem dX1_readPlainSign_45 : decode cX1_readPlainSign 45 = .ok (.invokevirtual 29, 3) := by decide +kernel
theorem dX1_readPlainSign_48 : decode cX1_readPlainSign 48 = .ok (.ireturn, 1) := by decide +kernel
theorem dX1_readPlainSign_49 : decode cX1_readPlainSign 49 = .ok (.iconst 0, 1) := by decide +kernel
theorem dX1_readPlainSign_50 : decode cX1_readPlainSign 50 = .ok (.istore_n 3, 1) := by decide +kernel
theorem dX1_readPlainSign_51 : decode cX1_readPlainSign 51 = .ok (.iload_n 3, 1) := by decide +kernel
theorem dX1_readPlainSign_52 : decode cX1_readPlainSign 52 = .ok (.iload_n 2, 1) := by decide +kernel
theorem dX1_readPlainSign_53 : decode cX1_readPlainSign 53 = .ok (.if_icmp .ge 29, 3) := by decide +kernel
theorem dX1_readPlainSign_56 : decode cX1_readPlainSign 56 = .ok (.aload_n 0, 1) := by decide +kernel
theorem dX1_readPlainSign_57 : decode cX1_readPlainSign 57 = .ok (.getfield 74, 3) := by decide +kernel
theorem dX1_readPlainSign_60 : decode cX1_readPlainSign 60 = .ok (.aload_n 0, 1) := by decide +kernel
theorem dX1_readPlainSign_61 : decode cX1_readPlainSign 61 = .ok (.getfield 19, 3) := by decide +kernel
theorem dX1_readPlainSign_64 : decode cX1_readPlainSign 64 = .ok (.aload_n 0, 1) := by decide +kernel
theorem dX1_readPlainSign_65 : decode cX1_readPlainSign 65 = .ok (.getfield 15, 3) := by decide +kernel
theorem dX1_readPlainSign_68 : decode cX1_readPlainSign 68 = .ok (.iload_n 3, 1) := by decide +kernel
theorem dX1_readPlainSign_69 : decode cX1_readPlainSign 69 = .ok (.iadd, 1) := by decide +kernel
theorem dX1_readPlainSign_70 : decode cX1_readPlainSign 70 = .ok (.invokevirtual 33, 3) := by decide +kernel
theorem dX1_readPlainSign_73 : decode cX1_readPlainSign 73 = .ok (.invokevirtual 113, 3) := by decide +kernel
theorem dX1_readPlainSign_76 : decode cX1_readPlainSign 76 = .ok (.iinc 3 1, 3) := by decide +kernel
theorem dX1_readPlainSign_79 : decode cX1_readPlainSign 79 = .ok (.goto (-28), 3) := by decide +kernel
theorem dX1_readPlainSign_82 : decode cX1_readPlainSign 82 = .ok (.aload_n 0, 1) := by decide +kernel
theorem dX1_readPlainSign_83 : decode cX1_readPlainSign 83 = .ok (.dup, 1) := by decide +kernel
theorem dX1_readPlainSign_84 : decode cX1_readPlainSign 84 = .ok (.getfield 15, 3) := by decide +kernel
theorem dX1_readPlainSign_87 : decode cX1_readPlainSign 87 = .ok (.iload_n 2, 1) := by decide +kernel
theorem dX1_readPlainSign_88 : decode cX1_readPlainSign 88 = .ok (.iadd, 1) := by decide +kernel
theorem dX1_readPlainSign_89 : decode cX1_readPlainSign 89 = .ok (.putfield 15, 3) := by decide +kernel
theorem dX1_readPlainSign_92 : decode cX1_readPlainSign 92 = .ok (.iconst 1, 1) := by decide +kernel
theorem dX1_readPlainSign_93 : decode cX1_readPlainSign 93 = .ok (.ireturn, 1) := by decide +kernel
theorem dX1_readLetter_0 : decode cX1_readLetter 0 = .ok (.aload_n 0, 1) := by decide +kernel
theorem dX1_readLetter_1 : decode cX1_readLetter 1 = .ok (.getfield 19, 3) := by decide +kernel
theorem dX1_readLetter_4 : decode cX1_readLetter 4 = .ok (.aload_n 0, 1) := by decide +kernel
theorem dX1_readLetter_5 : decode cX1_readLetter 5 = .ok (.getfield 15, 3) := by decide +kernel
theorem dX1_readLetter_8 : decode cX1_readLetter 8 = .ok (.iconst 1, 1) := by decide +kernel
theorem dX1_readLetter_9 : decode cX1_readLetter 9 = .ok (.iadd, 1) := by decide +kernel
theorem dX1_readLetter_10 : decode cX1_readLetter 10 = .ok (.invokevirtual 33, 3) := by decide +kernel
theorem dX1_readLetter_13 : decode cX1_readLetter 13 = .ok (.invokestatic 117, 3) := by decide +kernel
theorem dX1_readLetter_16 : decode cX1_readLetter 16 = .ok (.istore_n 1, 1) := by decide +kernel
theorem dX1_readLetter_17 : decode cX1_readLetter 17 = .ok (.iload_n 1, 1) := by decide +kernel
theorem dX1_readLetter_18 : decode cX1_readLetter 18 = .ok (.iconst (-1), 1) := by decide +kernel
theorem dX1_readLetter_19 : decode cX1_readLetter 19 = .ok (.if_icmp .ne 15, 3) := by decide +kernel
theorem dX1_readLetter_22 : decode cX1_readLetter 22 = .ok (.aload_n 0, 1) := by decide +kernel
theorem dX1_readLetter_23 : decode cX1_readLetter 23 = .ok (.iconst 1, 1) := by decide +kernel
theorem dX1_readLetter_24 : decode cX1_readLetter 24 = .ok (.aload_n 0, 1) := by decide +kernel
theorem dX1_readLetter_25 : decode cX1_readLetter 25 = .ok (.getfield 15, 3) := by decide +kernel
theorem dX1_readLetter_28 : decode cX1_readLetter 28 = .ok (.iconst 1, 1) := by decide +kernel
theorem dX1_readLetter_29 : decode cX1_readLetter 29 = .ok (.iadd, 1) := by decide +kernel
theorem dX1_readLetter_30 : decode cX1_readLetter 30 = .ok (.invokevirtual 29, 3) := by decide +kernel
theorem dX1_readLetter_33 : decode cX1_readLetter 33 = .ok (.ireturn, 1) := by decide +kernel
theorem dX1_readLetter_34 : decode cX1_readLetter 34 = .ok (.aload_n 0, 1) := by decide +kernel
theorem dX1_readLetter_35 : decode cX1_readLetter 35 = .ok (.getfield 74, 3) := by decide +kernel
theorem dX1_readLetter_38 : decode cX1_readLetter 38 = .ok (.iload_n 1, 1) := by decide +kernel
theorem dX1_readLetter_39 : decode cX1_readLetter 39 = .ok (.invokevirtual 113, 3) := by decide +kernel
theorem dX1_readLetter_42 : decode cX1_readLetter 42 = .ok (.aload_n 0, 1) := by decide +kernel
theorem dX1_readLetter_43 : decode cX1_readLetter 43 = .ok (.dup, 1) := by decide +kernel
theorem dX1_readLetter_44 : decode cX1_readLetter 44 = .ok (.getfield 15, 3) := by decide +kernel
theorem dX1_readLetter_47 : decode cX1_readLetter 47 = .ok (.iconst 2, 1) := by decide +kernel
theorem dX1_readLetter_48 : decode cX1_readLetter 48 = .ok (.iadd, 1) := by decide +kernel
theorem dX1_readLetter_49 : decode cX1_readLetter 49 = .ok (.putfield 15, 3) := by decide +kernel
theorem dX1_readLetter_52 : decode cX1_readLetter 52 = .ok (.iconst 1, 1) := by decide +kernel
theorem dX1_readLetter_53 : decode cX1_readLetter 53 = .ok (.ireturn, 1) := by decide +kernel
theorem dX1_signOf_0 : decode cX1_signOf 0 = .ok (.iload_n 0, 1) := by decide +kernel
theorem dX1_signOf_1 : decode cX1_signOf 1 = .ok (.lookupswitch 92 #[(34, 75), (47, 75), (92, 75), (98, 77), (102, 80), (110, 83), (114, 86), (116, 89)], 75) := by decide +kernel
theorem dX1_signOf_76 : decode cX1_signOf 76 = .ok (.iload_n 0, 1) := by decide +kernel
theorem dX1_signOf_77 : decode cX1_signOf 77 = .ok (.ireturn, 1) := by decide +kernel
theorem dX1_signOf_78 : decode cX1_signOf 78 = .ok (.bipush 8, 2) := by decide +kernel
theorem dX1_signOf_80 : decode cX1_signOf 80 = .ok (.ireturn, 1) := by decide +kernel
theorem dX1_signOf_81 : decode cX1_signOf 81 = .ok (.bipush 12, 2) := by decide +kernel
theorem dX1_signOf_83 : decode cX1_signOf 83 = .ok (.ireturn, 1) := by decide +kernel
theorem dX1_signOf_84 : decode cX1_signOf 84 = .ok (.bipush 10, 2) := by decide +kernel
theorem dX1_signOf_86 : decode cX1_signOf 86 = .ok (.ireturn, 1) := by decide +kernel
theorem dX1_signOf_87 : decode cX1_signOf 87 = .ok (.bipush 13, 2) := by decide +kernel
theorem dX1_signOf_89 : decode cX1_signOf 89 = .ok (.ireturn, 1) := by decide +kernel
theorem dX1_signOf_90 : decode cX1_signOf 90 = .ok (.bipush 9, 2) := by decide +kernel
theorem dX1_signOf_92 : decode cX1_signOf 92 = .ok (.ireturn, 1) := by decide +kernel
theorem dX1_signOf_93 : decode cX1_signOf 93 = .ok (.iconst (-1), 1) := by decide +kernel
theorem dX1_signOf_94 : decode cX1_signOf 94 = .ok (.ireturn, 1) := by decide +kernel
theorem dX1_readNumberedSign_0 : decode cX1_readNumberedSign 0 = .ok (.aload_n 0, 1) := by decide +kernel
theorem dX1_readNumberedSign_1 : decode cX1_readNumberedSign 1 = .ok (.getfield 15, 3) := by decide +kernel
theorem dX1_readNumberedSign_4 : decode cX1_readNumberedSign 4 = .ok (.iconst 2, 1) := by decide +kernel
theorem dX1_readNumberedSign_5 : decode cX1_readNumberedSign 5 = .ok (.iadd, 1) := by decide +kernel
theorem dX1_readNumberedSign_6 : decode cX1_readNumberedSign 6 = .ok (.istore_n 1, 1) := by decide +kernel
theorem dX1_readNumberedSign_7 : decode cX1_readNumberedSign 7 = .ok (.iload_n 1, 1) := by decide +kernel
theorem dX1_readNumberedSign_8 : decode cX1_readNumberedSign 8 = .ok (.aload_n 0, 1) := by decide +kernel
theorem dX1_readNumberedSign_9 : decode cX1_readNumberedSign 9 = .ok (.getfield 15, 3) := by decide +kernel
theorem dX1_readNumberedSign_12 : decode cX1_readNumberedSign 12 = .ok (.bipush 6, 2) := by decide +kernel
theorem dX1_readNumberedSign_14 : decode cX1_readNumberedSign 14 = .ok (.iadd, 1) := by decide +kernel
theorem dX1_readNumberedSign_15 : decode cX1_readNumberedSign 15 = .ok (.if_icmp .ge 31, 3) := by decide +kernel
theorem dX1_readNumberedSign_18 : decode cX1_readNumberedSign 18 = .ok (.aload_n 0, 1) := by decide +kernel
theorem dX1_readNumberedSign_19 : decode cX1_readNumberedSign 19 = .ok (.getfield 19, 3) := by decide +kernel
theorem dX1_readNumberedSign_22 : decode cX1_readNumberedSign 22 = .ok (.iload_n 1, 1) := by decide +kernel
theorem dX1_readNumberedSign_23 : decode cX1_readNumberedSign 23 = .ok (.invokevirtual 33, 3) := by decide +kernel
theorem dX1_readNumberedSign_26 : decode cX1_readNumberedSign 26 = .ok (.invokestatic 120, 3) := by decide +kernel
theorem dX1_readNumberedSign_29 : decode cX1_readNumberedSign 29 = .ok (.iconst (-1), 1) := by decide +kernel
theorem dX1_readNumberedSign_30 : decode cX1_readNumberedSign 30 = .ok (.if_icmp .ne 10, 3) := by decide +kernel
theorem dX1_readNumberedSign_33 : decode cX1_readNumberedSign 33 = .ok (.aload_n 0, 1) := by decide +kernel
theorem dX1_readNumberedSign_34 : decode cX1_readNumberedSign 34 = .ok (.iconst 1, 1) := by decide +kernel
theorem dX1_readNumberedSign_35 : decode cX1_readNumberedSign 35 = .ok (.iload_n 1, 1) := by decide +kernel
theorem dX1_readNumberedSign_36 : decode cX1_readNumberedSign 36 = .ok (.invokevirtual 29, 3) := by decide +kernel
theorem dX1_readNumberedSign_39 : decode cX1_readNumberedSign 39 = .ok (.ireturn, 1) := by decide +kernel
theorem dX1_readNumberedSign_40 : decode cX1_readNumberedSign 40 = .ok (.iinc 1 1, 3) := by decide +kernel
theorem dX1_readNumberedSign_43 : decode cX1_readNumberedSign 43 = .ok (.goto (-36), 3) := by decide +kernel
theorem dX1_readNumberedSign_46 : decode cX1_readNumberedSign 46 = .ok (.aload_n 0, 1) := by decide +kernel
theorem dX1_readNumberedSign_47 : decode cX1_readNumberedSign 47 = .ok (.aload_n 0, 1) := by decide +kernel
theorem dX1_readNumberedSign_48 : decode cX1_readNumberedSign 48 = .ok (.getfield 15, 3) := by decide +kernel
theorem dX1_readNumberedSign_51 : decode cX1_readNumberedSign 51 = .ok (.invokevirtual 123, 3) := by decide +kernel
theorem dX1_readNumberedSign_54 : decode cX1_readNumberedSign 54 = .ok (.istore_n 1, 1) := by decide +kernel
theorem dX1_readNumberedSign_55 : decode cX1_readNumberedSign 55 = .ok (.iload_n 1, 1) := by decide +kernel
theorem dX1_readNumberedSign_56 : decode cX1_readNumberedSign 56 = .ok (.invokestatic 126, 3) := by decide +kernel
theorem dX1_readNumberedSign_59 : decode cX1_readNumberedSign 59 = .ok (.ifCond .eq 13, 3) := by decide +kernel
theorem dX1_readNumberedSign_62 : decode cX1_readNumberedSign 62 = .ok (.aload_n 0, 1) := by decide +kernel
theorem dX1_readNumberedSign_63 : decode cX1_readNumberedSign 63 = .ok (.iconst 2, 1) := by decide +kernel
theorem dX1_readNumberedSign_64 : decode cX1_readNumberedSign 64 = .ok (.aload_n 0, 1) := by decide +kernel
theorem dX1_readNumberedSign_65 : decode cX1_readNumberedSign 65 = .ok (.getfield 15, 3) := by decide +kernel
theorem dX1_readNumberedSign_68 : decode cX1_readNumberedSign 68 = .ok (.invokevirtual 29, 3) := by decide +kernel
theorem dX1_readNumberedSign_71 : decode cX1_readNumberedSign 71 = .ok (.ireturn, 1) := by decide +kernel
theorem dX1_readNumberedSign_72 : decode cX1_readNumberedSign 72 = .ok (.iload_n 1, 1) := by decide +kernel
theorem dX1_readNumberedSign_73 : decode cX1_readNumberedSign 73 = .ok (.invokestatic 129, 3) := by decide +kernel
theorem dX1_readNumberedSign_76 : decode cX1_readNumberedSign 76 = .ok (.ifCond .ne 21, 3) := by decide +kernel
theorem dX1_readNumberedSign_79 : decode cX1_readNumberedSign 79 = .ok (.aload_n 0, 1) := by decide +kernel
theorem dX1_readNumberedSign_80 : decode cX1_readNumberedSign 80 = .ok (.iload_n 1, 1) := by decide +kernel
theorem dX1_readNumberedSign_81 : decode cX1_readNumberedSign 81 = .ok (.invokevirtual 132, 3) := by decide +kernel
theorem dX1_readNumberedSign_84 : decode cX1_readNumberedSign 84 = .ok (.aload_n 0, 1) := by decide +kernel
theorem dX1_readNumberedSign_85 : decode cX1_readNumberedSign 85 = .ok (.dup, 1) := by decide +kernel
theorem dX1_readNumberedSign_86 : decode cX1_readNumberedSign 86 = .ok (.getfield 15, 3) := by decide +kernel
theorem dX1_readNumberedSign_89 : decode cX1_readNumberedSign 89 = .ok (.bipush 6, 2) := by decide +kernel
theorem dX1_readNumberedSign_91 : decode cX1_readNumberedSign 91 = .ok (.iadd, 1) := by decide +kernel
theorem dX1_readNumberedSign_92 : decode cX1_readNumberedSign 92 = .ok (.putfield 15, 3) := by decide +kernel
theorem dX1_readNumberedSign_95 : decode cX1_readNumberedSign 95 = .ok (.iconst 1, 1) := by decide +kernel
theorem dX1_readNumberedSign_96 : decode cX1_readNumberedSign 96 = .ok (.ireturn, 1) := by decide +kernel
theorem dX1_readNumberedSign_97 : decode cX1_readNumberedSign 97 = .ok (.aload_n 0, 1) := by decide +kernel
theorem dX1_readNumberedSign_98 : decode cX1_readNumberedSign 98 = .ok (.aload_n 0, 1) := by decide +kernel
theorem dX1_readNumberedSign_99 : decode cX1_readNumberedSign 99 = .ok (.getfield 15, 3) := by decide +kernel
theorem dX1_readNumberedSign_102 : decode cX1_readNumberedSign 102 = .ok (.bipush 6, 2) := by decide +kernel
theorem dX1_readNumberedSign_104 : decode cX1_readNumberedSign 104 = .ok (.iadd, 1) := by decide +kernel
theorem dX1_readNumberedSign_105 : decode cX1_readNumberedSign 105 = .ok (.invokevirtual 123, 3) := by decide +kernel
theorem dX1_readNumberedSign_108 : decode cX1_readNumberedSign 108 = .ok (.istore_n 2, 1) := by decide +kernel
theorem dX1_readNumberedSign_109 : decode cX1_readNumberedSign 109 = .ok (.iload_n 2, 1) := by decide +kernel
theorem dX1_readNumberedSign_110 : decode cX1_readNumberedSign 110 = .ok (.invokestatic 126, 3) := by decide +kernel
theorem dX1_readNumberedSign_113 : decode cX1_readNumberedSign 113 = .ok (.ifCond .ne 13, 3) := by decide +kernel
theorem dX1_readNumberedSign_116 : decode cX1_readNumberedSign 116 = .ok (.aload_n 0, 1) := by decide +kernel
theorem dX1_readNumberedSign_117 : decode cX1_readNumberedSign 117 = .ok (.iconst 2, 1) := by decide +kernel
theorem dX1_readNumberedSign_118 : decode cX1_readNumberedSign 118 = .ok (.aload_n 0, 1) := by decide +kernel
theorem dX1_readNumberedSign_119 : decode cX1_readNumberedSign 119 = .ok (.getfield 15, 3) := by decide +kernel
theorem dX1_readNumberedSign_122 : decode cX1_readNumberedSign 122 = .ok (.invokevirtual 29, 3) := by decide +kernel
theorem dX1_readNumberedSign_125 : decode cX1_readNumberedSign 125 = .ok (.ireturn, 1) := by decide +kernel
theorem dX1_readNumberedSign_126 : decode cX1_readNumberedSign 126 = .ok (.aload_n 0, 1) := by decide +kernel
theorem dX1_readNumberedSign_127 : decode cX1_readNumberedSign 127 = .ok (.ldc 135, 2) := by decide +kernel
theorem dX1_readNumberedSign_129 : decode cX1_readNumberedSign 129 = .ok (.iload_n 1, 1) := by decide +kernel
theorem dX1_readNumberedSign_130 : decode cX1_readNumberedSign 130 = .ok (.ldc 136, 2) := by decide +kernel
theorem dX1_readNumberedSign_132 : decode cX1_readNumberedSign 132 = .ok (.isub, 1) := by decide +kernel
theorem dX1_readNumberedSign_133 : decode cX1_readNumberedSign 133 = .ok (.bipush 10, 2) := by decide +kernel
theorem dX1_readNumberedSign_135 : decode cX1_readNumberedSign 135 = .ok (.ishl, 1) := by decide +kernel
theorem dX1_readNumberedSign_136 : decode cX1_readNumberedSign 136 = .ok (.iadd, 1) := by decide +kernel
theorem dX1_readNumberedSign_137 : decode cX1_readNumberedSign 137 = .ok (.iload_n 2, 1) := by decide +kernel
theorem dX1_readNumberedSign_138 : decode cX1_readNumberedSign 138 = .ok (.ldc 137, 2) := by decide +kernel
theorem dX1_readNumberedSign_140 : decode cX1_readNumberedSign 140 = .ok (.isub, 1) := by decide +kernel
theorem dX1_readNumberedSign_141 : decode cX1_readNumberedSign 141 = .ok (.iadd, 1) := by decide +kernel
theorem dX1_readNumberedSign_142 : decode cX1_readNumberedSign 142 = .ok (.invokevirtual 132, 3) := by decide +kernel
theorem dX1_readNumberedSign_145 : decode cX1_readNumberedSign 145 = .ok (.aload_n 0, 1) := by decide +kernel
theorem dX1_readNumberedSign_146 : decode cX1_readNumberedSign 146 = .ok (.dup, 1) := by decide +kernel
theorem dX1_readNumberedSign_147 : decode cX1_readNumberedSign 147 = .ok (.getfield 15, 3) := by decide +kernel
theorem dX1_readNumberedSign_150 : decode cX1_readNumberedSign 150 = .ok (.bipush 12, 2) := by decide +kernel
theorem dX1_readNumberedSign_152 : decode cX1_readNumberedSign 152 = .ok (.iadd, 1) := by decide +kernel
theorem dX1_readNumberedSign_153 : decode cX1_readNumberedSign 153 = .ok (.putfield 15, 3) := by decide +kernel
theorem dX1_readNumberedSign_156 : decode cX1_readNumberedSign 156 = .ok (.iconst 1, 1) := by decide +kernel
theorem dX1_readNumberedSign_157 : decode cX1_readNumberedSign 157 = .ok (.ireturn, 1) := by decide +kernel
theorem dX1_codeOfEscape_0 : decode cX1_codeOfEscape 0 = .ok (.aload_n 0, 1) := by decide +kernel
theorem dX1_codeOfEscape_1 : decode cX1_codeOfEscape 1 = .ok (.getfield 19, 3) := by decide +kernel
theorem dX1_codeOfEscape_4 : decode cX1_codeOfEscape 4 = .ok (.iload_n 1, 1) := by decide +kernel
theorem dX1_codeOfEscape_5 : decode cX1_codeOfEscape 5 = .ok (.invokevirtual 33, 3) := by decide +kernel
theorem dX1_codeOfEscape_8 : decode cX1_codeOfEscape 8 = .ok (.bipush 92, 2) := by decide +kernel
theorem dX1_codeOfEscape_10 : decode cX1_codeOfEscape 10 = .ok (.if_icmp .ne 18, 3) := by decide +kernel
theorem dX1_codeOfEscape_13 : decode cX1_codeOfEscape 13 = .ok (.aload_n 0, 1) := by decide +kernel
theorem dX1_codeOfEscape_14 : decode cX1_codeOfEscape 14 = .ok (.getfield 19, 3) := by decide +kernel
theorem dX1_codeOfEscape_17 : decode cX1_codeOfEscape 17 = .ok (.iload_n 1, 1) := by decide +kernel
theorem dX1_codeOfEscape_18 : decode cX1_codeOfEscape 18 = .ok (.iconst 1, 1) := by decide +kernel
theorem dX1_codeOfEscape_19 : decode cX1_codeOfEscape 19 = .ok (.iadd, 1) := by decide +kernel
theorem dX1_codeOfEscape_20 : decode cX1_codeOfEscape 20 = .ok (.invokevirtual 33, 3) := by decide +kernel
theorem dX1_codeOfEscape_23 : decode cX1_codeOfEscape 23 = .ok (.bipush 117, 2) := by decide +kernel
theorem dX1_codeOfEscape_25 : decode cX1_codeOfEscape 25 = .ok (.if_icmp .eq 5, 3) := by decide +kernel
theorem dX1_codeOfEscape_28 : decode cX1_codeOfEscape 28 = .ok (.iconst (-1), 1) := by decide +kernel
theorem dX1_codeOfEscape_29 : decode cX1_codeOfEscape 29 = .ok (.ireturn, 1) := by decide +kernel
theorem dX1_codeOfEscape_30 : decode cX1_codeOfEscape 30 = .ok (.iconst 0, 1) := by decide +kernel
theorem dX1_codeOfEscape_31 : decode cX1_codeOfEscape 31 = .ok (.istore_n 2, 1) := by decide +kernel
theorem dX1_codeOfEscape_32 : decode cX1_codeOfEscape 32 = .ok (.iload_n 1, 1) := by decide +kernel
theorem dX1_codeOfEscape_33 : decode cX1_codeOfEscape 33 = .ok (.iconst 2, 1) := by decide +kernel
theorem dX1_codeOfEscape_34 : decode cX1_codeOfEscape 34 = .ok (.iadd, 1) := by decide +kernel
theorem dX1_codeOfEscape_35 : decode cX1_codeOfEscape 35 = .ok (.istore_n 3, 1) := by decide +kernel
theorem dX1_codeOfEscape_36 : decode cX1_codeOfEscape 36 = .ok (.iload_n 3, 1) := by decide +kernel
theorem dX1_codeOfEscape_37 : decode cX1_codeOfEscape 37 = .ok (.iload_n 1, 1) := by decide +kernel
theorem dX1_codeOfEscape_38 : decode cX1_codeOfEscape 38 = .ok (.bipush 6, 2) := by decide +kernel
theorem dX1_codeOfEscape_40 : decode cX1_codeOfEscape 40 = .ok (.iadd, 1) := by decide +kernel
theorem dX1_codeOfEscape_41 : decode cX1_codeOfEscape 41 = .ok (.if_icmp .ge 38, 3) := by decide +kernel
theorem dX1_codeOfEscape_44 : decode cX1_codeOfEscape 44 = .ok (.aload_n 0, 1) := by decide +kernel
theorem dX1_codeOfEscape_45 : decode cX1_codeOfEscape 45 = .ok (.getfield 19, 3) := by decide +kernel
theorem dX1_codeOfEscape_48 : decode cX1_codeOfEscape 48 = .ok (.iload_n 3, 1) := by decide +kernel
theorem dX1_codeOfEscape_49 : decode cX1_codeOfEscape 49 = .ok (.invokevirtual 33, 3) := by decide +kernel
theorem dX1_codeOfEscape_52 : decode cX1_codeOfEscape 52 = .ok (.invokestatic 120, 3) := by decide +kernel
theorem dX1_codeOfEscape_55 : decode cX1_codeOfEscape 55 = .ok (.istore 4, 2) := by decide +kernel
theorem dX1_codeOfEscape_57 : decode cX1_codeOfEscape 57 = .ok (.iload 4, 2) := by decide +kernel
theorem dX1_codeOfEscape_59 : decode cX1_codeOfEscape 59 = .ok (.iconst (-1), 1) := by decide +kernel
theorem dX1_codeOfEscape_60 : decode cX1_codeOfEscape 60 = .ok (.if_icmp .ne 5, 3) := by decide +kernel
theorem dX1_codeOfEscape_63 : decode cX1_codeOfEscape 63 = .ok (.iconst (-1), 1) := by decide +kernel
theorem dX1_codeOfEscape_64 : decode cX1_codeOfEscape 64 = .ok (.ireturn, 1) := by decide +kernel
theorem dX1_codeOfEscape_65 : decode cX1_codeOfEscape 65 = .ok (.iload_n 2, 1) := by decide +kernel
theorem dX1_codeOfEscape_66 : decode cX1_codeOfEscape 66 = .ok (.bipush 16, 2) := by decide +kernel
theorem dX1_codeOfEscape_68 : decode cX1_codeOfEscape 68 = .ok (.imul, 1) := by decide +kernel
theorem dX1_codeOfEscape_69 : decode cX1_codeOfEscape 69 = .ok (.iload 4, 2) := by decide +kernel
theorem dX1_codeOfEscape_71 : decode cX1_codeOfEscape 71 = .ok (.iadd, 1) := by decide +kernel
theorem dX1_codeOfEscape_72 : decode cX1_codeOfEscape 72 = .ok (.istore_n 2, 1) := by decide +kernel
theorem dX1_codeOfEscape_73 : decode cX1_codeOfEscape 73 = .ok (.iinc 3 1, 3) := by decide +kernel
theorem dX1_codeOfEscape_76 : decode cX1_codeOfEscape 76 = .ok (.goto (-40), 3) := by decide +kernel
theorem dX1_codeOfEscape_79 : decode cX1_codeOfEscape 79 = .ok (.iload_n 2, 1) := by decide +kernel
theorem dX1_codeOfEscape_80 : decode cX1_codeOfEscape 80 = .ok (.ireturn, 1) := by decide +kernel
theorem dX1_putSign_0 : decode cX1_putSign 0 = .ok (.iload_n 1, 1) := by decide +kernel
theorem dX1_putSign_1 : decode cX1_putSign 1 = .ok (.sipush 128, 3) := by decide +kernel
theorem dX1_putSign_4 : decode cX1_putSign 4 = .ok (.if_icmp .ge 12, 3) := by decide +kernel
theorem dX1_putSign_7 : decode cX1_putSign 7 = .ok (.aload_n 0, 1) := by decide +kernel
theorem dX1_putSign_8 : decode cX1_putSign 8 = .ok (.getfield 74, 3) := by decide +kernel
theorem dX1_putSign_11 : decode cX1_putSign 11 = .ok (.iload_n 1, 1) := by decide +kernel
theorem dX1_putSign_12 : decode cX1_putSign 12 = .ok (.invokevirtual 113, 3) := by decide +kernel
theorem dX1_putSign_15 : decode cX1_putSign 15 = .ok (.return_, 1) := by decide +kernel
theorem dX1_putSign_16 : decode cX1_putSign 16 = .ok (.iload_n 1, 1) := by decide +kernel
theorem dX1_putSign_17 : decode cX1_putSign 17 = .ok (.sipush 2048, 3) := by decide +kernel
theorem dX1_putSign_20 : decode cX1_putSign 20 = .ok (.if_icmp .ge 7, 3) := by decide +kernel
theorem dX1_putSign_23 : decode cX1_putSign 23 = .ok (.iconst 1, 1) := by decide +kernel
theorem dX1_putSign_24 : decode cX1_putSign 24 = .ok (.goto 14, 3) := by decide +kernel
theorem dX1_putSign_27 : decode cX1_putSign 27 = .ok (.iload_n 1, 1) := by decide +kernel
theorem dX1_putSign_28 : decode cX1_putSign 28 = .ok (.ldc 135, 2) := by decide +kernel
theorem dX1_putSign_30 : decode cX1_putSign 30 = .ok (.if_icmp .ge 7, 3) := by decide +kernel
theorem dX1_putSign_33 : decode cX1_putSign 33 = .ok (.iconst 2, 1) := by decide +kernel
theorem dX1_putSign_34 : decode cX1_putSign 34 = .ok (.goto 4, 3) := by decide +kernel
theorem dX1_putSign_37 : decode cX1_putSign 37 = .ok (.iconst 3, 1) := by decide +kernel
theorem dX1_putSign_38 : decode cX1_putSign 38 = .ok (.istore_n 2, 1) := by decide +kernel
theorem dX1_putSign_39 : decode cX1_putSign 39 = .ok (.aload_n 0, 1) := by decide +kernel
theorem dX1_putSign_40 : decode cX1_putSign 40 = .ok (.getfield 74, 3) := by decide +kernel
theorem dX1_putSign_43 : decode cX1_putSign 43 = .ok (.ldc 138, 2) := by decide +kernel
theorem dX1_putSign_45 : decode cX1_putSign 45 = .ok (.iload_n 2, 1) := by decide +kernel
theorem dX1_putSign_46 : decode cX1_putSign 46 = .ok (.iconst 1, 1) := by decide +kernel
theorem dX1_putSign_47 : decode cX1_putSign 47 = .ok (.iadd, 1) := by decide +kernel
theorem dX1_putSign_48 : decode cX1_putSign 48 = .ok (.ishr, 1) := by decide +kernel
theorem dX1_putSign_49 : decode cX1_putSign 49 = .ok (.iload_n 1, 1) := by decide +kernel
theorem dX1_putSign_50 : decode cX1_putSign 50 = .ok (.bipush 6, 2) := by decide +kernel
theorem dX1_putSign_52 : decode cX1_putSign 52 = .ok (.iload_n 2, 1) := by decide +kernel
theorem dX1_putSign_53 : decode cX1_putSign 53 = .ok (.imul, 1) := by decide +kernel
theorem dX1_putSign_54 : decode cX1_putSign 54 = .ok (.ishr, 1) := by decide +kernel
theorem dX1_putSign_55 : decode cX1_putSign 55 = .ok (.ior, 1) := by decide +kernel
theorem dX1_putSign_56 : decode cX1_putSign 56 = .ok (.invokevirtual 113, 3) := by decide +kernel
theorem dX1_putSign_59 : decode cX1_putSign 59 = .ok (.iload_n 2, 1) := by decide +kernel
theorem dX1_putSign_60 : decode cX1_putSign 60 = .ok (.iconst 1, 1) := by decide +kernel
theorem dX1_putSign_61 : decode cX1_putSign 61 = .ok (.isub, 1) := by decide +kernel
theorem dX1_putSign_62 : decode cX1_putSign 62 = .ok (.istore_n 3, 1) := by decide +kernel
theorem dX1_putSign_63 : decode cX1_putSign 63 = .ok (.iload_n 3, 1) := by decide +kernel
theorem dX1_putSign_64 : decode cX1_putSign 64 = .ok (.ifCond .lt 29, 3) := by decide +kernel
theorem dX1_putSign_67 : decode cX1_putSign 67 = .ok (.aload_n 0, 1) := by decide +kernel
theorem dX1_putSign_68 : decode cX1_putSign 68 = .ok (.getfield 74, 3) := by decide +kernel
theorem dX1_putSign_71 : decode cX1_putSign 71 = .ok (.sipush 128, 3) := by decide +kernel
theorem dX1_putSign_74 : decode cX1_putSign 74 = .ok (.iload_n 1, 1) := by decide +kernel
theorem dX1_putSign_75 : decode cX1_putSign 75 = .ok (.bipush 6, 2) := by decide +kernel
theorem dX1_putSign_77 : decode cX1_putSign 77 = .ok (.iload_n 3, 1) := by decide +kernel
theorem dX1_putSign_78 : decode cX1_putSign 78 = .ok (.imul, 1) := by decide +kernel
theorem dX1_putSign_79 : decode cX1_putSign 79 = .ok (.ishr, 1) := by decide +kernel
theorem dX1_putSign_80 : decode cX1_putSign 80 = .ok (.bipush 63, 2) := by decide +kernel
theorem dX1_putSign_82 : decode cX1_putSign 82 = .ok (.iand, 1) := by decide +kernel
theorem dX1_putSign_83 : decode cX1_putSign 83 = .ok (.ior, 1) := by decide +kernel
theorem dX1_putSign_84 : decode cX1_putSign 84 = .ok (.invokevirtual 113, 3) := by decide +kernel
theorem dX1_putSign_87 : decode cX1_putSign 87 = .ok (.iinc 3 (-1), 3) := by decide +kernel
theorem dX1_putSign_90 : decode cX1_putSign 90 = .ok (.goto (-27), 3) := by decide +kernel
theorem dX1_putSign_93 : decode cX1_putSign 93 = .ok (.return_, 1) := by decide +kernel
theorem dX1_readNumber_0 : decode cX1_readNumber 0 = .ok (.aload_n 0, 1) := by decide +kernel
theorem dX1_readNumber_1 : decode cX1_readNumber 1 = .ok (.getfield 15, 3) := by decide +kernel
theorem dX1_readNumber_4 : decode cX1_readNumber 4 = .ok (.istore_n 1, 1) := by decide +kernel
theorem dX1_readNumber_5 : decode cX1_readNumber 5 = .ok (.aload_n 0, 1) := by decide +kernel
theorem dX1_readNumber_6 : decode cX1_readNumber 6 = .ok (.getfield 19, 3) := by decide +kernel
theorem dX1_readNumber_9 : decode cX1_readNumber 9 = .ok (.aload_n 0, 1) := by decide +kernel
theorem dX1_readNumber_10 : decode cX1_readNumber 10 = .ok (.getfield 15, 3) := by decide +kernel
theorem dX1_readNumber_13 : decode cX1_readNumber 13 = .ok (.invokevirtual 33, 3) := by decide +kernel
theorem dX1_readNumber_16 : decode cX1_readNumber 16 = .ok (.bipush 45, 2) := by decide +kernel
theorem dX1_readNumber_18 : decode cX1_readNumber 18 = .ok (.if_icmp .ne 13, 3) := by decide +kernel
theorem dX1_readNumber_21 : decode cX1_readNumber 21 = .ok (.aload_n 0, 1) := by decide +kernel
theorem dX1_readNumber_22 : decode cX1_readNumber 22 = .ok (.dup, 1) := by decide +kernel
theorem dX1_readNumber_23 : decode cX1_readNumber 23 = .ok (.getfield 15, 3) := by decide +kernel
theorem dX1_readNumber_26 : decode cX1_readNumber 26 = .ok (.iconst 1, 1) := by decide +kernel
theorem dX1_readNumber_27 : decode cX1_readNumber 27 = .ok (.iadd, 1) := by decide +kernel
theorem dX1_readNumber_28 : decode cX1_readNumber 28 = .ok (.putfield 15, 3) := by decide +kernel
theorem dX1_readNumber_31 : decode cX1_readNumber 31 = .ok (.aload_n 0, 1) := by decide +kernel
theorem dX1_readNumber_32 : decode cX1_readNumber 32 = .ok (.getfield 15, 3) := by decide +kernel
theorem dX1_readNumber_35 : decode cX1_readNumber 35 = .ok (.istore_n 2, 1) := by decide +kernel
theorem dX1_readNumber_36 : decode cX1_readNumber 36 = .ok (.aload_n 0, 1) := by decide +kernel
theorem dX1_readNumber_37 : decode cX1_readNumber 37 = .ok (.getfield 19, 3) := by decide +kernel
theorem dX1_readNumber_40 : decode cX1_readNumber 40 = .ok (.aload_n 0, 1) := by decide +kernel
theorem dX1_readNumber_41 : decode cX1_readNumber 41 = .ok (.getfield 15, 3) := by decide +kernel
theorem dX1_readNumber_44 : decode cX1_readNumber 44 = .ok (.invokevirtual 33, 3) := by decide +kernel
theorem dX1_readNumber_47 : decode cX1_readNumber 47 = .ok (.bipush 48, 2) := by decide +kernel
theorem dX1_readNumber_49 : decode cX1_readNumber 49 = .ok (.if_icmp .ne 16, 3) := by decide +kernel
theorem dX1_readNumber_52 : decode cX1_readNumber 52 = .ok (.aload_n 0, 1) := by decide +kernel
theorem dX1_readNumber_53 : decode cX1_readNumber 53 = .ok (.dup, 1) := by decide +kernel
theorem dX1_readNumber_54 : decode cX1_readNumber 54 = .ok (.getfield 15, 3) := by decide +kernel
theorem dX1_readNumber_57 : decode cX1_readNumber 57 = .ok (.iconst 1, 1) := by decide +kernel
theorem dX1_readNumber_58 : decode cX1_readNumber 58 = .ok (.iadd, 1) := by decide +kernel
theorem dX1_readNumber_59 : decode cX1_readNumber 59 = .ok (.putfield 15, 3) := by decide +kernel
theorem dX1_readNumber_62 : decode cX1_readNumber 62 = .ok (.goto 12, 3) := by decide +kernel
theorem dX1_readNumber_65 : decode cX1_readNumber 65 = .ok (.aload_n 0, 1) := by decide +kernel
theorem dX1_readNumber_66 : decode cX1_readNumber 66 = .ok (.invokevirtual 139, 3) := by decide +kernel
theorem dX1_readNumber_69 : decode cX1_readNumber 69 = .ok (.ifCond .ne 5, 3) := by decide +kernel
theorem dX1_readNumber_72 : decode cX1_readNumber 72 = .ok (.iconst 0, 1) := by decide +kernel
theorem dX1_readNumber_73 : decode cX1_readNumber 73 = .ok (.ireturn, 1) := by decide +kernel
theorem dX1_readNumber_74 : decode cX1_readNumber 74 = .ok (.aload_n 0, 1) := by decide +kernel
theorem dX1_readNumber_75 : decode cX1_readNumber 75 = .ok (.getfield 15, 3) := by decide +kernel
theorem dX1_readNumber_78 : decode cX1_readNumber 78 = .ok (.istore_n 3, 1) := by decide +kernel
theorem dX1_readNumber_79 : decode cX1_readNumber 79 = .ok (.aload_n 0, 1) := by decide +kernel
theorem dX1_readNumber_80 : decode cX1_readNumber 80 = .ok (.invokevirtual 142, 3) := by decide +kernel
theorem dX1_readNumber_83 : decode cX1_readNumber 83 = .ok (.ifCond .eq 10, 3) := by decide +kernel
theorem dX1_readNumber_86 : decode cX1_readNumber 86 = .ok (.aload_n 0, 1) := by decide +kernel
theorem dX1_readNumber_87 : decode cX1_readNumber 87 = .ok (.invokevirtual 145, 3) := by decide +kernel
theorem dX1_readNumber_90 : decode cX1_readNumber 90 = .ok (.ifCond .ne 5, 3) := by decide +kernel
theorem dX1_readNumber_93 : decode cX1_readNumber 93 = .ok (.iconst 0, 1) := by decide +kernel
theorem dX1_readNumber_94 : decode cX1_readNumber 94 = .ok (.ireturn, 1) := by decide +kernel
theorem dX1_readNumber_95 : decode cX1_readNumber 95 = .ok (.aload_n 0, 1) := by decide +kernel
theorem dX1_readNumber_96 : decode cX1_readNumber 96 = .ok (.getfield 15, 3) := by decide +kernel
theorem dX1_readNumber_99 : decode cX1_readNumber 99 = .ok (.iload_n 3, 1) := by decide +kernel
theorem dX1_readNumber_100 : decode cX1_readNumber 100 = .ok (.if_icmp .ne 7, 3) := by decide +kernel
theorem dX1_readNumber_103 : decode cX1_readNumber 103 = .ok (.iconst 1, 1) := by decide +kernel
theorem dX1_readNumber_104 : decode cX1_readNumber 104 = .ok (.goto 4, 3) := by decide +kernel
theorem dX1_readNumber_107 : decode cX1_readNumber 107 = .ok (.iconst 0, 1) := by decide +kernel
theorem dX1_readNumber_108 : decode cX1_readNumber 108 = .ok (.istore 4, 2) := by decide +kernel
theorem dX1_readNumber_110 : decode cX1_readNumber 110 = .ok (.iload 4, 2) := by decide +kernel
theorem dX1_readNumber_112 : decode cX1_readNumber 112 = .ok (.ifCond .eq 22, 3) := by decide +kernel
theorem dX1_readNumber_115 : decode cX1_readNumber 115 = .ok (.aload_n 0, 1) := by decide +kernel
theorem dX1_readNumber_116 : decode cX1_readNumber 116 = .ok (.iload_n 2, 1) := by decide +kernel
theorem dX1_readNumber_117 : decode cX1_readNumber 117 = .ok (.iload_n 3, 1) := by decide +kernel
theorem dX1_readNumber_118 : decode cX1_readNumber 118 = .ok (.iload_n 2, 1) := by decide +kernel
theorem dX1_readNumber_119 : decode cX1_readNumber 119 = .ok (.iload_n 1, 1) := by decide +kernel
theorem dX1_readNumber_120 : decode cX1_readNumber 120 = .ok (.if_icmp .le 7, 3) := by decide +kernel
theorem dX1_readNumber_123 : decode cX1_readNumber 123 = .ok (.iconst 1, 1) := by decide +kernel
theorem dX1_readNumber_124 : decode cX1_readNumber 124 = .ok (.goto 4, 3) := by decide +kernel
theorem dX1_readNumber_127 : decode cX1_readNumber 127 = .ok (.iconst 0, 1) := by decide +kernel
theorem dX1_readNumber_128 : decode cX1_readNumber 128 = .ok (.invokevirtual 148, 3) := by decide +kernel
theorem dX1_readNumber_131 : decode cX1_readNumber 131 = .ok (.ifCond .ne 12, 3) := by decide +kernel
theorem dX1_readNumber_134 : decode cX1_readNumber 134 = .ok (.aload_n 0, 1) := by decide +kernel
theorem dX1_readNumber_135 : decode cX1_readNumber 135 = .ok (.iconst 3, 1) := by decide +kernel
theorem dX1_readNumber_136 : decode cX1_readNumber 136 = .ok (.iload_n 1, 1) := by decide +kernel
theorem dX1_readNumber_137 : decode cX1_readNumber 137 = .ok (.invokevirtual 29, 3) := by decide +kernel
theorem dX1_readNumber_140 : decode cX1_readNumber 140 = .ok (.ifCond .eq 7, 3) := by decide +kernel
theorem dX1_readNumber_143 : decode cX1_readNumber 143 = .ok (.iconst 1, 1) := by decide +kernel
theorem dX1_readNumber_144 : decode cX1_readNumber 144 = .ok (.goto 4, 3) := by decide +kernel
theorem dX1_readNumber_147 : decode cX1_readNumber 147 = .ok (.iconst 0, 1) := by decide +kernel
theorem dX1_readNumber_148 : decode cX1_readNumber 148 = .ok (.ireturn, 1) := by decide +kernel
theorem dX1_readDigits_0 : decode cX1_readDigits 0 = .ok (.aload_n 0, 1) := by decide +kernel
theorem dX1_readDigits_1 : decode cX1_readDigits 1 = .ok (.getfield 15, 3) := by decide +kernel
theorem dX1_readDigits_4 : decode cX1_readDigits 4 = .ok (.istore_n 1, 1) := by decide +kernel
theorem dX1_readDigits_5 : decode cX1_readDigits 5 = .ok (.iload_n 1, 1) := by decide +kernel
theorem dX1_readDigits_6 : decode cX1_readDigits 6 = .ok (.istore_n 2, 1) := by decide +kernel
theorem dX1_readDigits_7 : decode cX1_readDigits 7 = .ok (.iload_n 2, 1) := by decide +kernel
theorem dX1_readDigits_8 : decode cX1_readDigits 8 = .ok (.aload_n 0, 1) := by decide +kernel
theorem dX1_readDigits_9 : decode cX1_readDigits 9 = .ok (.getfield 19, 3) := by decide +kernel
theorem dX1_readDigits_12 : decode cX1_readDigits 12 = .ok (.invokevirtual 23, 3) := by decide +kernel
theorem dX1_readDigits_15 : decode cX1_readDigits 15 = .ok (.if_icmp .ge 30, 3) := by decide +kernel
theorem dX1_readDigits_18 : decode cX1_readDigits 18 = .ok (.aload_n 0, 1) := by decide +kernel
theorem dX1_readDigits_19 : decode cX1_readDigits 19 = .ok (.getfield 19, 3) := by decide +kernel
theorem dX1_readDigits_22 : decode cX1_readDigits 22 = .ok (.iload_n 2, 1) := by decide +kernel
theorem dX1_readDigits_23 : decode cX1_readDigits 23 = .ok (.invokevirtual 33, 3) := by decide +kernel
theorem dX1_readDigits_26 : decode cX1_readDigits 26 = .ok (.invokestatic 55, 3) := by decide +kernel
theorem dX1_readDigits_29 : decode cX1_readDigits 29 = .ok (.ifCond .eq 16, 3) := by decide +kernel
theorem dX1_readDigits_32 : decode cX1_readDigits 32 = .ok (.aload_n 0, 1) := by decide +kernel
theorem dX1_readDigits_33 : decode cX1_readDigits 33 = .ok (.iload_n 2, 1) := by decide +kernel
theorem dX1_readDigits_34 : decode cX1_readDigits 34 = .ok (.iconst 1, 1) := by decide +kernel
theorem dX1_readDigits_35 : decode cX1_readDigits 35 = .ok (.iadd, 1) := by decide +kernel
theorem dX1_readDigits_36 : decode cX1_readDigits 36 = .ok (.putfield 15, 3) := by decide +kernel
theorem dX1_readDigits_39 : decode cX1_readDigits 39 = .ok (.iinc 2 1, 3) := by decide +kernel
theorem dX1_readDigits_42 : decode cX1_readDigits 42 = .ok (.goto (-35), 3) := by decide +kernel
theorem dX1_readDigits_45 : decode cX1_readDigits 45 = .ok (.aload_n 0, 1) := by decide +kernel
theorem dX1_readDigits_46 : decode cX1_readDigits 46 = .ok (.getfield 15, 3) := by decide +kernel
theorem dX1_readDigits_49 : decode cX1_readDigits 49 = .ok (.iload_n 1, 1) := by decide +kernel
theorem dX1_readDigits_50 : decode cX1_readDigits 50 = .ok (.if_icmp .gt 15, 3) := by decide +kernel
theorem dX1_readDigits_53 : decode cX1_readDigits 53 = .ok (.aload_n 0, 1) := by decide +kernel
theorem dX1_readDigits_54 : decode cX1_readDigits 54 = .ok (.iconst 1, 1) := by decide +kernel
theorem dX1_readDigits_55 : decode cX1_readDigits 55 = .ok (.aload_n 0, 1) := by decide +kernel
theorem dX1_readDigits_56 : decode cX1_readDigits 56 = .ok (.getfield 15, 3) := by decide +kernel
theorem dX1_readDigits_59 : decode cX1_readDigits 59 = .ok (.invokevirtual 29, 3) := by decide +kernel
theorem dX1_readDigits_62 : decode cX1_readDigits 62 = .ok (.ifCond .eq 7, 3) := by decide +kernel
theorem dX1_readDigits_65 : decode cX1_readDigits 65 = .ok (.iconst 1, 1) := by decide +kernel
theorem dX1_readDigits_66 : decode cX1_readDigits 66 = .ok (.goto 4, 3) := by decide +kernel
theorem dX1_readDigits_69 : decode cX1_readDigits 69 = .ok (.iconst 0, 1) := by decide +kernel
theorem dX1_readDigits_70 : decode cX1_readDigits 70 = .ok (.ireturn, 1) := by decide +kernel
theorem dX1_readFraction_0 : decode cX1_readFraction 0 = .ok (.aload_n 0, 1) := by decide +kernel
theorem dX1_readFraction_1 : decode cX1_readFraction 1 = .ok (.getfield 19, 3) := by decide +kernel
theorem dX1_readFraction_4 : decode cX1_readFraction 4 = .ok (.aload_n 0, 1) := by decide +kernel
theorem dX1_readFraction_5 : decode cX1_readFraction 5 = .ok (.getfield 15, 3) := by decide +kernel
theorem dX1_readFraction_8 : decode cX1_readFraction 8 = .ok (.invokevirtual 33, 3) := by decide +kernel
theorem dX1_readFraction_11 : decode cX1_readFraction 11 = .ok (.bipush 46, 2) := by decide +kernel
theorem dX1_readFraction_13 : decode cX1_readFraction 13 = .ok (.if_icmp .eq 5, 3) := by decide +kernel
theorem dX1_readFraction_16 : decode cX1_readFraction 16 = .ok (.iconst 1, 1) := by decide +kernel
theorem dX1_readFraction_17 : decode cX1_readFraction 17 = .ok (.ireturn, 1) := by decide +kernel
theorem dX1_readFraction_18 : decode cX1_readFraction 18 = .ok (.aload_n 0, 1) := by decide +kernel
theorem dX1_readFraction_19 : decode cX1_readFraction 19 = .ok (.dup, 1) := by decide +kernel
theorem dX1_readFraction_20 : decode cX1_readFraction 20 = .ok (.getfield 15, 3) := by decide +kernel
theorem dX1_readFraction_23 : decode cX1_readFraction 23 = .ok (.iconst 1, 1) := by decide +kernel
theorem dX1_readFraction_24 : decode cX1_readFraction 24 = .ok (.iadd, 1) := by decide +kernel
theorem dX1_readFraction_25 : decode cX1_readFraction 25 = .ok (.putfield 15, 3) := by decide +kernel
theorem dX1_readFraction_28 : decode cX1_readFraction 28 = .ok (.aload_n 0, 1) := by decide +kernel
theorem dX1_readFraction_29 : decode cX1_readFraction 29 = .ok (.invokevirtual 139, 3) := by decide +kernel
theorem dX1_readFraction_32 : decode cX1_readFraction 32 = .ok (.ireturn, 1) := by decide +kernel
theorem dX1_readExponent_0 : decode cX1_readExponent 0 = .ok (.aload_n 0, 1) := by decide +kernel
theorem dX1_readExponent_1 : decode cX1_readExponent 1 = .ok (.getfield 19, 3) := by decide +kernel
theorem dX1_readExponent_4 : decode cX1_readExponent 4 = .ok (.aload_n 0, 1) := by decide +kernel
theorem dX1_readExponent_5 : decode cX1_readExponent 5 = .ok (.getfield 15, 3) := by decide +kernel
theorem dX1_readExponent_8 : decode cX1_readExponent 8 = .ok (.invokevirtual 33, 3) := by decide +kernel
theorem dX1_readExponent_11 : decode cX1_readExponent 11 = .ok (.bipush 101, 2) := by decide +kernel
theorem dX1_readExponent_13 : decode cX1_readExponent 13 = .ok (.if_icmp .eq 21, 3) := by decide +kernel
theorem dX1_readExponent_16 : decode cX1_readExponent 16 = .ok (.aload_n 0, 1) := by decide +kernel
theorem dX1_readExponent_17 : decode cX1_readExponent 17 = .ok (.getfield 19, 3) := by decide +kernel
theorem dX1_readExponent_20 : decode cX1_readExponent 20 = .ok (.aload_n 0, 1) := by decide +kernel
theorem dX1_readExponent_21 : decode cX1_readExponent 21 = .ok (.getfield 15, 3) := by decide +kernel
theorem dX1_readExponent_24 : decode cX1_readExponent 24 = .ok (.invokevirtual 33, 3) := by decide +kernel
theorem dX1_readExponent_27 : decode cX1_readExponent 27 = .ok (.bipush 69, 2) := by decide +kernel
theorem dX1_readExponent_29 : decode cX1_readExponent 29 = .ok (.if_icmp .eq 5, 3) := by decide +kernel
theorem dX1_readExponent_32 : decode cX1_readExponent 32 = .ok (.iconst 1, 1) := by decide +kernel
theorem dX1_readExponent_33 : decode cX1_readExponent 33 = .ok (.ireturn, 1) := by decide +kernel
theorem dX1_readExponent_34 : decode cX1_readExponent 34 = .ok (.aload_n 0, 1) := by decide +kernel
theorem dX1_readExponent_35 : decode cX1_readExponent 35 = .ok (.dup, 1) := by decide +kernel
theorem dX1_readExponent_36 : decode cX1_readExponent 36 = .ok (.getfield 15, 3) := by decide +kernel
theorem dX1_readExponent_39 : decode cX1_readExponent 39 = .ok (.iconst 1, 1) := by decide +kernel
theorem dX1_readExponent_40 : decode cX1_readExponent 40 = .ok (.iadd, 1) := by decide +kernel
theorem dX1_readExponent_41 : decode cX1_readExponent 41 = .ok (.putfield 15, 3) := by decide +kernel
theorem dX1_readExponent_44 : decode cX1_readExponent 44 = .ok (.aload_n 0, 1) := by decide +kernel
theorem dX1_readExponent_45 : decode cX1_readExponent 45 = .ok (.getfield 19, 3) := by decide +kernel
theorem dX1_readExponent_48 : decode cX1_readExponent 48 = .ok (.aload_n 0, 1) := by decide +kernel
theorem dX1_readExponent_49 : decode cX1_readExponent 49 = .ok (.getfield 15, 3) := by decide +kernel
theorem dX1_readExponent_52 : decode cX1_readExponent 52 = .ok (.invokevirtual 33, 3) := by decide +kernel
theorem dX1_readExponent_55 : decode cX1_readExponent 55 = .ok (.bipush 43, 2) := by decide +kernel
theorem dX1_readExponent_57 : decode cX1_readExponent 57 = .ok (.if_icmp .eq 19, 3) := by decide +kernel
theorem dX1_readExponent_60 : decode cX1_readExponent 60 = .ok (.aload_n 0, 1) := by decide +kernel
theorem dX1_readExponent_61 : decode cX1_readExponent 61 = .ok (.getfield 19, 3) := by decide +kernel
theorem dX1_readExponent_64 : decode cX1_readExponent 64 = .ok (.aload_n 0, 1) := by decide +kernel
theorem dX1_readExponent_65 : decode cX1_readExponent 65 = .ok (.getfield 15, 3) := by decide +kernel
theorem dX1_readExponent_68 : decode cX1_readExponent 68 = .ok (.invokevirtual 33, 3) := by decide +kernel
theorem dX1_readExponent_71 : decode cX1_readExponent 71 = .ok (.bipush 45, 2) := by decide +kernel
theorem dX1_readExponent_73 : decode cX1_readExponent 73 = .ok (.if_icmp .ne 13, 3) := by decide +kernel
theorem dX1_readExponent_76 : decode cX1_readExponent 76 = .ok (.aload_n 0, 1) := by decide +kernel
theorem dX1_readExponent_77 : decode cX1_readExponent 77 = .ok (.dup, 1) := by decide +kernel
theorem dX1_readExponent_78 : decode cX1_readExponent 78 = .ok (.getfield 15, 3) := by decide +kernel
theorem dX1_readExponent_81 : decode cX1_readExponent 81 = .ok (.iconst 1, 1) := by decide +kernel
theorem dX1_readExponent_82 : decode cX1_readExponent 82 = .ok (.iadd, 1) := by decide +kernel
theorem dX1_readExponent_83 : decode cX1_readExponent 83 = .ok (.putfield 15, 3) := by decide +kernel
theorem dX1_readExponent_86 : decode cX1_readExponent 86 = .ok (.aload_n 0, 1) := by decide +kernel
theorem dX1_readExponent_87 : decode cX1_readExponent 87 = .ok (.invokevirtual 139, 3) := by decide +kernel
theorem dX1_readExponent_90 : decode cX1_readExponent 90 = .ok (.ireturn, 1) := by decide +kernel
theorem dX1_putWhole_0 : decode cX1_putWhole 0 = .ok (.lconst 0, 1) := by decide +kernel
theorem dX1_putWhole_1 : decode cX1_putWhole 1 = .ok (.lstore 4, 2) := by decide +kernel
theorem dX1_putWhole_3 : decode cX1_putWhole 3 = .ok (.iload_n 1, 1) := by decide +kernel
theorem dX1_putWhole_4 : decode cX1_putWhole 4 = .ok (.istore 6, 2) := by decide +kernel
theorem dX1_putWhole_6 : decode cX1_putWhole 6 = .ok (.iload 6, 2) := by decide +kernel
theorem dX1_putWhole_8 : decode cX1_putWhole 8 = .ok (.iload_n 2, 1) := by decide +kernel
theorem dX1_putWhole_9 : decode cX1_putWhole 9 = .ok (.if_icmp .ge 52, 3) := by decide +kernel
theorem dX1_putWhole_12 : decode cX1_putWhole 12 = .ok (.aload_n 0, 1) := by decide +kernel
theorem dX1_putWhole_13 : decode cX1_putWhole 13 = .ok (.getfield 19, 3) := by decide +kernel
theorem dX1_putWhole_16 : decode cX1_putWhole 16 = .ok (.iload 6, 2) := by decide +kernel
theorem dX1_putWhole_18 : decode cX1_putWhole 18 = .ok (.invokevirtual 33, 3) := by decide +kernel
theorem dX1_putWhole_21 : decode cX1_putWhole 21 = .ok (.bipush 48, 2) := by decide +kernel
theorem dX1_putWhole_23 : decode cX1_putWhole 23 = .ok (.isub, 1) := by decide +kernel
theorem dX1_putWhole_24 : decode cX1_putWhole 24 = .ok (.istore 7, 2) := by decide +kernel
theorem dX1_putWhole_26 : decode cX1_putWhole 26 = .ok (.lload 4, 2) := by decide +kernel
theorem dX1_putWhole_28 : decode cX1_putWhole 28 = .ok (.iload 6, 2) := by decide +kernel
theorem dX1_putWhole_30 : decode cX1_putWhole 30 = .ok (.iload_n 1, 1) := by decide +kernel
theorem dX1_putWhole_31 : decode cX1_putWhole 31 = .ok (.isub, 1) := by decide +kernel
theorem dX1_putWhole_32 : decode cX1_putWhole 32 = .ok (.iload 7, 2) := by decide +kernel
theorem dX1_putWhole_34 : decode cX1_putWhole 34 = .ok (.iload_n 3, 1) := by decide +kernel
theorem dX1_putWhole_35 : decode cX1_putWhole 35 = .ok (.invokestatic 152, 3) := by decide +kernel
theorem dX1_putWhole_38 : decode cX1_putWhole 38 = .ok (.ifCond .eq 5, 3) := by decide +kernel
theorem dX1_putWhole_41 : decode cX1_putWhole 41 = .ok (.iconst 0, 1) := by decide +kernel
theorem dX1_putWhole_42 : decode cX1_putWhole 42 = .ok (.ireturn, 1) := by decide +kernel
theorem dX1_putWhole_43 : decode cX1_putWhole 43 = .ok (.lload 4, 2) := by decide +kernel
theorem dX1_putWhole_45 : decode cX1_putWhole 45 = .ok (.ldc2_w 156, 3) := by decide +kernel
theorem dX1_putWhole_48 : decode cX1_putWhole 48 = .ok (.lmul, 1) := by decide +kernel
theorem dX1_putWhole_49 : decode cX1_putWhole 49 = .ok (.iload 7, 2) := by decide +kernel
theorem dX1_putWhole_51 : decode cX1_putWhole 51 = .ok (.i2l, 1) := by decide +kernel
theorem dX1_putWhole_52 : decode cX1_putWhole 52 = .ok (.ladd, 1) := by decide +kernel
theorem dX1_putWhole_53 : decode cX1_putWhole 53 = .ok (.lstore 4, 2) := by decide +kernel
theorem dX1_putWhole_55 : decode cX1_putWhole 55 = .ok (.iinc 6 1, 3) := by decide +kernel
theorem dX1_putWhole_58 : decode cX1_putWhole 58 = .ok (.goto (-52), 3) := by decide +kernel
theorem dX1_putWhole_61 : decode cX1_putWhole 61 = .ok (.iload_n 3, 1) := by decide +kernel
theorem dX1_putWhole_62 : decode cX1_putWhole 62 = .ok (.ifCond .eq 31, 3) := by decide +kernel
theorem dX1_putWhole_65 : decode cX1_putWhole 65 = .ok (.aload_n 0, 1) := by decide +kernel
theorem dX1_putWhole_66 : decode cX1_putWhole 66 = .ok (.getfield 19, 3) := by decide +kernel
theorem dX1_putWhole_69 : decode cX1_putWhole 69 = .ok (.iload_n 1, 1) := by decide +kernel
theorem dX1_putWhole_70 : decode cX1_putWhole 70 = .ok (.invokevirtual 33, 3) := by decide +kernel
theorem dX1_putWhole_73 : decode cX1_putWhole 73 = .ok (.bipush 48, 2) := by decide +kernel
theorem dX1_putWhole_75 : decode cX1_putWhole 75 = .ok (.if_icmp .eq 18, 3) := by decide +kernel
theorem dX1_putWhole_78 : decode cX1_putWhole 78 = .ok (.aload_n 0, 1) := by decide +kernel
theorem dX1_putWhole_79 : decode cX1_putWhole 79 = .ok (.getfield 74, 3) := by decide +kernel
theorem dX1_putWhole_82 : decode cX1_putWhole 82 = .ok (.iconst 1, 1) := by decide +kernel
theorem dX1_putWhole_83 : decode cX1_putWhole 83 = .ok (.lload 4, 2) := by decide +kernel
theorem dX1_putWhole_85 : decode cX1_putWhole 85 = .ok (.lconst 1, 1) := by decide +kernel
theorem dX1_putWhole_86 : decode cX1_putWhole 86 = .ok (.lsub, 1) := by decide +kernel
theorem dX1_putWhole_87 : decode cX1_putWhole 87 = .ok (.invokevirtual 77, 3) := by decide +kernel
theorem dX1_putWhole_90 : decode cX1_putWhole 90 = .ok (.goto 13, 3) := by decide +kernel
theorem dX1_putWhole_93 : decode cX1_putWhole 93 = .ok (.aload_n 0, 1) := by decide +kernel
theorem dX1_putWhole_94 : decode cX1_putWhole 94 = .ok (.getfield 74, 3) := by decide +kernel
theorem dX1_putWhole_97 : decode cX1_putWhole 97 = .ok (.iconst 0, 1) := by decide +kernel
theorem dX1_putWhole_98 : decode cX1_putWhole 98 = .ok (.lload 4, 2) := by decide +kernel
theorem dX1_putWhole_100 : decode cX1_putWhole 100 = .ok (.invokevirtual 77, 3) := by decide +kernel
theorem dX1_putWhole_103 : decode cX1_putWhole 103 = .ok (.iconst 1, 1) := by decide +kernel
theorem dX1_putWhole_104 : decode cX1_putWhole 104 = .ok (.ireturn, 1) := by decide +kernel
theorem dX1_isBeyond_0 : decode cX1_isBeyond 0 = .ok (.iload_n 2, 1) := by decide +kernel
theorem dX1_isBeyond_1 : decode cX1_isBeyond 1 = .ok (.bipush 19, 2) := by decide +kernel
theorem dX1_isBeyond_3 : decode cX1_isBeyond 3 = .ok (.if_icmp .ge 5, 3) := by decide +kernel
theorem dX1_isBeyond_6 : decode cX1_isBeyond 6 = .ok (.iconst 0, 1) := by decide +kernel
theorem dX1_isBeyond_7 : decode cX1_isBeyond 7 = .ok (.ireturn, 1) := by decide +kernel
theorem dX1_isBeyond_8 : decode cX1_isBeyond 8 = .ok (.iload_n 2, 1) := by decide +kernel
theorem dX1_isBeyond_9 : decode cX1_isBeyond 9 = .ok (.bipush 20, 2) := by decide +kernel
theorem dX1_isBeyond_11 : decode cX1_isBeyond 11 = .ok (.if_icmp .ge 17, 3) := by decide +kernel
theorem dX1_isBeyond_14 : decode cX1_isBeyond 14 = .ok (.lload_n 0, 1) := by decide +kernel
theorem dX1_isBeyond_15 : decode cX1_isBeyond 15 = .ok (.lconst 0, 1) := by decide +kernel
theorem dX1_isBeyond_16 : decode cX1_isBeyond 16 = .ok (.lcmp, 1) := by decide +kernel
theorem dX1_isBeyond_17 : decode cX1_isBeyond 17 = .ok (.ifCond .lt 11, 3) := by decide +kernel
theorem dX1_isBeyond_20 : decode cX1_isBeyond 20 = .ok (.lload_n 0, 1) := by decide +kernel
theorem dX1_isBeyond_21 : decode cX1_isBeyond 21 = .ok (.ldc2_w 158, 3) := by decide +kernel
theorem dX1_isBeyond_24 : decode cX1_isBeyond 24 = .ok (.lcmp, 1) := by decide +kernel
theorem dX1_isBeyond_25 : decode cX1_isBeyond 25 = .ok (.ifCond .le 5, 3) := by decide +kernel
theorem dX1_isBeyond_28 : decode cX1_isBeyond 28 = .ok (.iconst 1, 1) := by decide +kernel
theorem dX1_isBeyond_29 : decode cX1_isBeyond 29 = .ok (.ireturn, 1) := by decide +kernel
theorem dX1_isBeyond_30 : decode cX1_isBeyond 30 = .ok (.lload_n 0, 1) := by decide +kernel
theorem dX1_isBeyond_31 : decode cX1_isBeyond 31 = .ok (.ldc2_w 158, 3) := by decide +kernel
theorem dX1_isBeyond_34 : decode cX1_isBeyond 34 = .ok (.lcmp, 1) := by decide +kernel
theorem dX1_isBeyond_35 : decode cX1_isBeyond 35 = .ok (.ifCond .ne 22, 3) := by decide +kernel
theorem dX1_isBeyond_38 : decode cX1_isBeyond 38 = .ok (.iload_n 3, 1) := by decide +kernel
theorem dX1_isBeyond_39 : decode cX1_isBeyond 39 = .ok (.iload 4, 2) := by decide +kernel
theorem dX1_isBeyond_41 : decode cX1_isBeyond 41 = .ok (.ifCond .eq 8, 3) := by decide +kernel
theorem dX1_isBeyond_44 : decode cX1_isBeyond 44 = .ok (.bipush 6, 2) := by decide +kernel
theorem dX1_isBeyond_46 : decode cX1_isBeyond 46 = .ok (.goto 4, 3) := by decide +kernel
theorem dX1_isBeyond_49 : decode cX1_isBeyond 49 = .ok (.iconst 5, 1) := by decide +kernel
theorem dX1_isBeyond_50 : decode cX1_isBeyond 50 = .ok (.if_icmp .le 7, 3) := by decide +kernel
theorem dX1_isBeyond_53 : decode cX1_isBeyond 53 = .ok (.iconst 1, 1) := by decide +kernel
theorem dX1_isBeyond_54 : decode cX1_isBeyond 54 = .ok (.goto 4, 3) := by decide +kernel
theorem dX1_isBeyond_57 : decode cX1_isBeyond 57 = .ok (.iconst 0, 1) := by decide +kernel
theorem dX1_isBeyond_58 : decode cX1_isBeyond 58 = .ok (.ireturn, 1) := by decide +kernel
theorem dX1_isBlank_0 : decode cX1_isBlank 0 = .ok (.iload_n 0, 1) := by decide +kernel
theorem dX1_isBlank_1 : decode cX1_isBlank 1 = .ok (.bipush 9, 2) := by decide +kernel
theorem dX1_isBlank_3 : decode cX1_isBlank 3 = .ok (.if_icmp .eq 21, 3) := by decide +kernel
theorem dX1_isBlank_6 : decode cX1_isBlank 6 = .ok (.iload_n 0, 1) := by decide +kernel
theorem dX1_isBlank_7 : decode cX1_isBlank 7 = .ok (.bipush 10, 2) := by decide +kernel
theorem dX1_isBlank_9 : decode cX1_isBlank 9 = .ok (.if_icmp .eq 15, 3) := by decide +kernel
theorem dX1_isBlank_12 : decode cX1_isBlank 12 = .ok (.iload_n 0, 1) := by decide +kernel
theorem dX1_isBlank_13 : decode cX1_isBlank 13 = .ok (.bipush 13, 2) := by decide +kernel
theorem dX1_isBlank_15 : decode cX1_isBlank 15 = .ok (.if_icmp .eq 9, 3) := by decide +kernel
theorem dX1_isBlank_18 : decode cX1_isBlank 18 = .ok (.iload_n 0, 1) := by decide +kernel
theorem dX1_isBlank_19 : decode cX1_isBlank 19 = .ok (.bipush 32, 2) := by decide +kernel
theorem dX1_isBlank_21 : decode cX1_isBlank 21 = .ok (.if_icmp .ne 7, 3) := by decide +kernel
theorem dX1_isBlank_24 : decode cX1_isBlank 24 = .ok (.iconst 1, 1) := by decide +kernel
theorem dX1_isBlank_25 : decode cX1_isBlank 25 = .ok (.goto 4, 3) := by decide +kernel
theorem dX1_isBlank_28 : decode cX1_isBlank 28 = .ok (.iconst 0, 1) := by decide +kernel
theorem dX1_isBlank_29 : decode cX1_isBlank 29 = .ok (.ireturn, 1) := by decide +kernel
theorem dX1_isDigit_0 : decode cX1_isDigit 0 = .ok (.iload_n 0, 1) := by decide +kernel
theorem dX1_isDigit_1 : decode cX1_isDigit 1 = .ok (.bipush 48, 2) := by decide +kernel
theorem dX1_isDigit_3 : decode cX1_isDigit 3 = .ok (.if_icmp .lt 13, 3) := by decide +kernel
theorem dX1_isDigit_6 : decode cX1_isDigit 6 = .ok (.iload_n 0, 1) := by decide +kernel
theorem dX1_isDigit_7 : decode cX1_isDigit 7 = .ok (.bipush 57, 2) := by decide +kernel
theorem dX1_isDigit_9 : decode cX1_isDigit 9 = .ok (.if_icmp .gt 7, 3) := by decide +kernel
theorem dX1_isDigit_12 : decode cX1_isDigit 12 = .ok (.iconst 1, 1) := by decide +kernel
theorem dX1_isDigit_13 : decode cX1_isDigit 13 = .ok (.goto 4, 3) := by decide +kernel
theorem dX1_isDigit_16 : decode cX1_isDigit 16 = .ok (.iconst 0, 1) := by decide +kernel
theorem dX1_isDigit_17 : decode cX1_isDigit 17 = .ok (.ireturn, 1) := by decide +kernel
theorem dX1_hexValue_0 : decode cX1_hexValue 0 = .ok (.iload_n 0, 1) := by decide +kernel
theorem dX1_hexValue_1 : decode cX1_hexValue 1 = .ok (.bipush 48, 2) := by decide +kernel
theorem dX1_hexValue_3 : decode cX1_hexValue 3 = .ok (.if_icmp .lt 14, 3) := by decide +kernel
theorem dX1_hexValue_6 : decode cX1_hexValue 6 = .ok (.iload_n 0, 1) := by decide +kernel
theorem dX1_hexValue_7 : decode cX1_hexValue 7 = .ok (.bipush 57, 2) := by decide +kernel
theorem dX1_hexValue_9 : decode cX1_hexValue 9 = .ok (.if_icmp .gt 8, 3) := by decide +kernel
theorem dX1_hexValue_12 : decode cX1_hexValue 12 = .ok (.iload_n 0, 1) := by decide +kernel
theorem dX1_hexValue_13 : decode cX1_hexValue 13 = .ok (.bipush 48, 2) := by decide +kernel
theorem dX1_hexValue_15 : decode cX1_hexValue 15 = .ok (.isub, 1) := by decide +kernel
theorem dX1_hexValue_16 : decode cX1_hexValue 16 = .ok (.ireturn, 1) := by decide +kernel
theorem dX1_hexValue_17 : decode cX1_hexValue 17 = .ok (.iload_n 0, 1) := by decide +kernel
theorem dX1_hexValue_18 : decode cX1_hexValue 18 = .ok (.bipush 97, 2) := by decide +kernel
theorem dX1_hexValue_20 : decode cX1_hexValue 20 = .ok (.if_icmp .lt 17, 3) := by decide +kernel
theorem dX1_hexValue_23 : decode cX1_hexValue 23 = .ok (.iload_n 0, 1) := by decide +kernel
theorem dX1_hexValue_24 : decode cX1_hexValue 24 = .ok (.bipush 102, 2) := by decide +kernel
theorem dX1_hexValue_26 : decode cX1_hexValue 26 = .ok (.if_icmp .gt 11, 3) := by decide +kernel
theorem dX1_hexValue_29 : decode cX1_hexValue 29 = .ok (.iload_n 0, 1) := by decide +kernel
theorem dX1_hexValue_30 : decode cX1_hexValue 30 = .ok (.bipush 97, 2) := by decide +kernel
theorem dX1_hexValue_32 : decode cX1_hexValue 32 = .ok (.isub, 1) := by decide +kernel
theorem dX1_hexValue_33 : decode cX1_hexValue 33 = .ok (.bipush 10, 2) := by decide +kernel
theorem dX1_hexValue_35 : decode cX1_hexValue 35 = .ok (.iadd, 1) := by decide +kernel
theorem dX1_hexValue_36 : decode cX1_hexValue 36 = .ok (.ireturn, 1) := by decide +kernel
theorem dX1_hexValue_37 : decode cX1_hexValue 37 = .ok (.iload_n 0, 1) := by decide +kernel
theorem dX1_hexValue_38 : decode cX1_hexValue 38 = .ok (.bipush 65, 2) := by decide +kernel
theorem dX1_hexValue_40 : decode cX1_hexValue 40 = .ok (.if_icmp .lt 19, 3) := by decide +kernel
theorem dX1_hexValue_43 : decode cX1_hexValue 43 = .ok (.iload_n 0, 1) := by decide +kernel
theorem dX1_hexValue_44 : decode cX1_hexValue 44 = .ok (.bipush 70, 2) := by decide +kernel
theorem dX1_hexValue_46 : decode cX1_hexValue 46 = .ok (.if_icmp .gt 13, 3) := by decide +kernel
theorem dX1_hexValue_49 : decode cX1_hexValue 49 = .ok (.iload_n 0, 1) := by decide +kernel
theorem dX1_hexValue_50 : decode cX1_hexValue 50 = .ok (.bipush 65, 2) := by decide +kernel
theorem dX1_hexValue_52 : decode cX1_hexValue 52 = .ok (.isub, 1) := by decide +kernel
theorem dX1_hexValue_53 : decode cX1_hexValue 53 = .ok (.bipush 10, 2) := by decide +kernel
theorem dX1_hexValue_55 : decode cX1_hexValue 55 = .ok (.iadd, 1) := by decide +kernel
theorem dX1_hexValue_56 : decode cX1_hexValue 56 = .ok (.goto 4, 3) := by decide +kernel
theorem dX1_hexValue_59 : decode cX1_hexValue 59 = .ok (.iconst (-1), 1) := by decide +kernel
theorem dX1_hexValue_60 : decode cX1_hexValue 60 = .ok (.ireturn, 1) := by decide +kernel
theorem dX1_isFirstHalf_0 : decode cX1_isFirstHalf 0 = .ok (.iload_n 0, 1) := by decide +kernel
theorem dX1_isFirstHalf_1 : decode cX1_isFirstHalf 1 = .ok (.ldc 136, 2) := by decide +kernel
theorem dX1_isFirstHalf_3 : decode cX1_isFirstHalf 3 = .ok (.if_icmp .lt 13, 3) := by decide +kernel
theorem dX1_isFirstHalf_6 : decode cX1_isFirstHalf 6 = .ok (.iload_n 0, 1) := by decide +kernel
theorem dX1_isFirstHalf_7 : decode cX1_isFirstHalf 7 = .ok (.ldc 160, 2) := by decide +kernel
theorem dX1_isFirstHalf_9 : decode cX1_isFirstHalf 9 = .ok (.if_icmp .gt 7, 3) := by decide +kernel
theorem dX1_isFirstHalf_12 : decode cX1_isFirstHalf 12 = .ok (.iconst 1, 1) := by decide +kernel
theorem dX1_isFirstHalf_13 : decode cX1_isFirstHalf 13 = .ok (.goto 4, 3) := by decide +kernel
theorem dX1_isFirstHalf_16 : decode cX1_isFirstHalf 16 = .ok (.iconst 0, 1) := by decide +kernel
theorem dX1_isFirstHalf_17 : decode cX1_isFirstHalf 17 = .ok (.ireturn, 1) := by decide +kernel
theorem dX1_isSecondHalf_0 : decode cX1_isSecondHalf 0 = .ok (.iload_n 0, 1) := by decide +kernel
theorem dX1_isSecondHalf_1 : decode cX1_isSecondHalf 1 = .ok (.ldc 137, 2) := by decide +kernel
theorem dX1_isSecondHalf_3 : decode cX1_isSecondHalf 3 = .ok (.if_icmp .lt 13, 3) := by decide +kernel
theorem dX1_isSecondHalf_6 : decode cX1_isSecondHalf 6 = .ok (.iload_n 0, 1) := by decide +kernel
theorem dX1_isSecondHalf_7 : decode cX1_isSecondHalf 7 = .ok (.ldc 161, 2) := by decide +kernel
theorem dX1_isSecondHalf_9 : decode cX1_isSecondHalf 9 = .ok (.if_icmp .gt 7, 3) := by decide +kernel
theorem dX1_isSecondHalf_12 : decode cX1_isSecondHalf 12 = .ok (.iconst 1, 1) := by decide +kernel
theorem dX1_isSecondHalf_13 : decode cX1_isSecondHalf 13 = .ok (.goto 4, 3) := by decide +kernel
theorem dX1_isSecondHalf_16 : decode cX1_isSecondHalf 16 = .ok (.iconst 0, 1) := by decide +kernel
theorem dX1_isSecondHalf_17 : decode cX1_isSecondHalf 17 = .ok (.ireturn, 1) := by decide +kernel
