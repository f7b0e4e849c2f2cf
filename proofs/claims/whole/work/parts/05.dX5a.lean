theorem dX5_init_0 : decode cX5_init 0 = .ok (.aload_n 0, 1) := by decide +kernel
theorem dX5_init_1 : decode cX5_init 1 = .ok (.invokespecial 1, 3) := by decide +kernel
theorem dX5_init_4 : decode cX5_init 4 = .ok (.aload_n 0, 1) := by decide +kernel
theorem dX5_init_5 : decode cX5_init 5 = .ok (.sipush 4000, 3) := by decide +kernel
theorem dX5_init_8 : decode cX5_init 8 = .ok (.newarray .int, 2) := by decide +kernel
theorem dX5_init_10 : decode cX5_init 10 = .ok (.putfield 7, 3) := by decide +kernel
theorem dX5_init_13 : decode cX5_init 13 = .ok (.aload_n 0, 1) := by decide +kernel
theorem dX5_init_14 : decode cX5_init 14 = .ok (.bipush 20, 2) := by decide +kernel
theorem dX5_init_16 : decode cX5_init 16 = .ok (.putfield 13, 3) := by decide +kernel
theorem dX5_init_19 : decode cX5_init 19 = .ok (.aload_n 0, 1) := by decide +kernel
theorem dX5_init_20 : decode cX5_init 20 = .ok (.sipush 4000, 3) := by decide +kernel
theorem dX5_init_23 : decode cX5_init 23 = .ok (.putfield 17, 3) := by decide +kernel
theorem dX5_init_26 : decode cX5_init 26 = .ok (.aload_n 0, 1) := by decide +kernel
theorem dX5_init_27 : decode cX5_init 27 = .ok (.sipush 6000, 3) := by decide +kernel
theorem dX5_init_30 : decode cX5_init 30 = .ok (.newarray .byte, 2) := by decide +kernel
theorem dX5_init_32 : decode cX5_init 32 = .ok (.putfield 20, 3) := by decide +kernel
theorem dX5_init_35 : decode cX5_init 35 = .ok (.aload_n 0, 1) := by decide +kernel
theorem dX5_init_36 : decode cX5_init 36 = .ok (.iconst (-1), 1) := by decide +kernel
theorem dX5_init_37 : decode cX5_init 37 = .ok (.putfield 24, 3) := by decide +kernel
theorem dX5_init_40 : decode cX5_init 40 = .ok (.aload_n 0, 1) := by decide +kernel
theorem dX5_init_41 : decode cX5_init 41 = .ok (.sipush 4200, 3) := by decide +kernel
theorem dX5_init_44 : decode cX5_init 44 = .ok (.newarray .int, 2) := by decide +kernel
theorem dX5_init_46 : decode cX5_init 46 = .ok (.putfield 27, 3) := by decide +kernel
theorem dX5_init_49 : decode cX5_init 49 = .ok (.aload_n 0, 1) := by decide +kernel
theorem dX5_init_50 : decode cX5_init 50 = .ok (.sipush 4200, 3) := by decide +kernel
theorem dX5_init_53 : decode cX5_init 53 = .ok (.newarray .long, 2) := by decide +kernel
theorem dX5_init_55 : decode cX5_init 55 = .ok (.putfield 30, 3) := by decide +kernel
theorem dX5_init_58 : decode cX5_init 58 = .ok (.aload_n 0, 1) := by decide +kernel
theorem dX5_init_59 : decode cX5_init 59 = .ok (.sipush 4200, 3) := by decide +kernel
theorem dX5_init_62 : decode cX5_init 62 = .ok (.newarray .int, 2) := by decide +kernel
theorem dX5_init_64 : decode cX5_init 64 = .ok (.putfield 34, 3) := by decide +kernel
theorem dX5_init_67 : decode cX5_init 67 = .ok (.aload_n 0, 1) := by decide +kernel
theorem dX5_init_68 : decode cX5_init 68 = .ok (.sipush 8200, 3) := by decide +kernel
theorem dX5_init_71 : decode cX5_init 71 = .ok (.newarray .byte, 2) := by decide +kernel
theorem dX5_init_73 : decode cX5_init 73 = .ok (.putfield 37, 3) := by decide +kernel
theorem dX5_init_76 : decode cX5_init 76 = .ok (.aload_n 0, 1) := by decide +kernel
theorem dX5_init_77 : decode cX5_init 77 = .ok (.bipush 64, 2) := by decide +kernel
theorem dX5_init_79 : decode cX5_init 79 = .ok (.newarray .int, 2) := by decide +kernel
theorem dX5_init_81 : decode cX5_init 81 = .ok (.putfield 40, 3) := by decide +kernel
theorem dX5_init_84 : decode cX5_init 84 = .ok (.aload_n 0, 1) := by decide +kernel
theorem dX5_init_85 : decode cX5_init 85 = .ok (.bipush 64, 2) := by decide +kernel
theorem dX5_init_87 : decode cX5_init 87 = .ok (.newarray .long, 2) := by decide +kernel
theorem dX5_init_89 : decode cX5_init 89 = .ok (.putfield 43, 3) := by decide +kernel
theorem dX5_init_92 : decode cX5_init 92 = .ok (.aload_n 0, 1) := by decide +kernel
theorem dX5_init_93 : decode cX5_init 93 = .ok (.sipush 6000, 3) := by decide +kernel
theorem dX5_init_96 : decode cX5_init 96 = .ok (.newarray .byte, 2) := by decide +kernel
theorem dX5_init_98 : decode cX5_init 98 = .ok (.putfield 46, 3) := by decide +kernel
theorem dX5_init_101 : decode cX5_init 101 = .ok (.aload_n 0, 1) := by decide +kernel
theorem dX5_init_102 : decode cX5_init 102 = .ok (.bipush 24, 2) := by decide +kernel
theorem dX5_init_104 : decode cX5_init 104 = .ok (.newarray .int, 2) := by decide +kernel
theorem dX5_init_106 : decode cX5_init 106 = .ok (.putfield 49, 3) := by decide +kernel
theorem dX5_init_109 : decode cX5_init 109 = .ok (.return_, 1) := by decide +kernel
theorem dX5_feed_0 : decode cX5_feed 0 = .ok (.aload_n 0, 1) := by decide +kernel
theorem dX5_feed_1 : decode cX5_feed 1 = .ok (.iconst 0, 1) := by decide +kernel
theorem dX5_feed_2 : decode cX5_feed 2 = .ok (.putfield 52, 3) := by decide +kernel
theorem dX5_feed_5 : decode cX5_feed 5 = .ok (.aload_n 0, 1) := by decide +kernel
theorem dX5_feed_6 : decode cX5_feed 6 = .ok (.getfield 55, 3) := by decide +kernel
theorem dX5_feed_9 : decode cX5_feed 9 = .ok (.sipush 3980, 3) := by decide +kernel
theorem dX5_feed_12 : decode cX5_feed 12 = .ok (.if_icmp .le 5, 3) := by decide +kernel
theorem dX5_feed_15 : decode cX5_feed 15 = .ok (.iconst (-1), 1) := by decide +kernel
theorem dX5_feed_16 : decode cX5_feed 16 = .ok (.ireturn, 1) := by decide +kernel
theorem dX5_feed_17 : decode cX5_feed 17 = .ok (.iconst 0, 1) := by decide +kernel
theorem dX5_feed_18 : decode cX5_feed 18 = .ok (.istore 6, 2) := by decide +kernel
theorem dX5_feed_20 : decode cX5_feed 20 = .ok (.iload 6, 2) := by decide +kernel
theorem dX5_feed_22 : decode cX5_feed 22 = .ok (.bipush 20, 2) := by decide +kernel
theorem dX5_feed_24 : decode cX5_feed 24 = .ok (.if_icmp .ge 86, 3) := by decide +kernel
theorem dX5_feed_27 : decode cX5_feed 27 = .ok (.iload 6, 2) := by decide +kernel
theorem dX5_feed_29 : decode cX5_feed 29 = .ok (.iconst 4, 1) := by decide +kernel
theorem dX5_feed_30 : decode cX5_feed 30 = .ok (.if_icmp .ge 7, 3) := by decide +kernel
theorem dX5_feed_33 : decode cX5_feed 33 = .ok (.iload_n 1, 1) := by decide +kernel
theorem dX5_feed_34 : decode cX5_feed 34 = .ok (.goto 39, 3) := by decide +kernel
theorem dX5_feed_37 : decode cX5_feed 37 = .ok (.iload 6, 2) := by decide +kernel
theorem dX5_feed_39 : decode cX5_feed 39 = .ok (.bipush 8, 2) := by decide +kernel
theorem dX5_feed_41 : decode cX5_feed 41 = .ok (.if_icmp .ge 7, 3) := by decide +kernel
theorem dX5_feed_44 : decode cX5_feed 44 = .ok (.iload_n 2, 1) := by decide +kernel
theorem dX5_feed_45 : decode cX5_feed 45 = .ok (.goto 28, 3) := by decide +kernel
theorem dX5_feed_48 : decode cX5_feed 48 = .ok (.iload 6, 2) := by decide +kernel
theorem dX5_feed_50 : decode cX5_feed 50 = .ok (.bipush 12, 2) := by decide +kernel
theorem dX5_feed_52 : decode cX5_feed 52 = .ok (.if_icmp .ge 7, 3) := by decide +kernel
theorem dX5_feed_55 : decode cX5_feed 55 = .ok (.iload_n 3, 1) := by decide +kernel
theorem dX5_feed_56 : decode cX5_feed 56 = .ok (.goto 17, 3) := by decide +kernel
theorem dX5_feed_59 : decode cX5_feed 59 = .ok (.iload 6, 2) := by decide +kernel
theorem dX5_feed_61 : decode cX5_feed 61 = .ok (.bipush 16, 2) := by decide +kernel
theorem dX5_feed_63 : decode cX5_feed 63 = .ok (.if_icmp .ge 8, 3) := by decide +kernel
theorem dX5_feed_66 : decode cX5_feed 66 = .ok (.iload 4, 2) := by decide +kernel
theorem dX5_feed_68 : decode cX5_feed 68 = .ok (.goto 5, 3) := by decide +kernel
theorem dX5_feed_71 : decode cX5_feed 71 = .ok (.iload 5, 2) := by decide +kernel
theorem dX5_feed_73 : decode cX5_feed 73 = .ok (.istore 7, 2) := by decide +kernel
theorem dX5_feed_75 : decode cX5_feed 75 = .ok (.aload_n 0, 1) := by decide +kernel
theorem dX5_feed_76 : decode cX5_feed 76 = .ok (.getfield 7, 3) := by decide +kernel
theorem dX5_feed_79 : decode cX5_feed 79 = .ok (.aload_n 0, 1) := by decide +kernel
theorem dX5_feed_80 : decode cX5_feed 80 = .ok (.getfield 55, 3) := by decide +kernel
theorem dX5_feed_83 : decode cX5_feed 83 = .ok (.iload 6, 2) := by decide +kernel
theorem dX5_feed_85 : decode cX5_feed 85 = .ok (.iadd, 1) := by decide +kernel
theorem dX5_feed_86 : decode cX5_feed 86 = .ok (.iload 7, 2) := by decide +kernel
theorem dX5_feed_88 : decode cX5_feed 88 = .ok (.bipush 24, 2) := by decide +kernel
theorem dX5_feed_90 : decode cX5_feed 90 = .ok (.bipush 8, 2) := by decide +kernel
theorem dX5_feed_92 : decode cX5_feed 92 = .ok (.iload 6, 2) := by decide +kernel
theorem dX5_feed_94 : decode cX5_feed 94 = .ok (.iconst 4, 1) := by decide +kernel
theorem dX5_feed_95 : decode cX5_feed 95 = .ok (.irem, 1) := by decide +kernel
theorem dX5_feed_96 : decode cX5_feed 96 = .ok (.imul, 1) := by decide +kernel
theorem dX5_feed_97 : decode cX5_feed 97 = .ok (.isub, 1) := by decide +kernel
theorem dX5_feed_98 : decode cX5_feed 98 = .ok (.ishr, 1) := by decide +kernel
theorem dX5_feed_99 : decode cX5_feed 99 = .ok (.sipush 255, 3) := by decide +kernel
theorem dX5_feed_102 : decode cX5_feed 102 = .ok (.iand, 1) := by decide +kernel
theorem dX5_feed_103 : decode cX5_feed 103 = .ok (.iastore, 1) := by decide +kernel
theorem dX5_feed_104 : decode cX5_feed 104 = .ok (.iinc 6 1, 3) := by decide +kernel
theorem dX5_feed_107 : decode cX5_feed 107 = .ok (.goto (-87), 3) := by decide +kernel
theorem dX5_feed_110 : decode cX5_feed 110 = .ok (.aload_n 0, 1) := by decide +kernel
theorem dX5_feed_111 : decode cX5_feed 111 = .ok (.dup, 1) := by decide +kernel
theorem dX5_feed_112 : decode cX5_feed 112 = .ok (.getfield 55, 3) := by decide +kernel
theorem dX5_feed_115 : decode cX5_feed 115 = .ok (.bipush 20, 2) := by decide +kernel
theorem dX5_feed_117 : decode cX5_feed 117 = .ok (.iadd, 1) := by decide +kernel
theorem dX5_feed_118 : decode cX5_feed 118 = .ok (.putfield 55, 3) := by decide +kernel
theorem dX5_feed_121 : decode cX5_feed 121 = .ok (.aload_n 0, 1) := by decide +kernel
theorem dX5_feed_122 : decode cX5_feed 122 = .ok (.getfield 55, 3) := by decide +kernel
theorem dX5_feed_125 : decode cX5_feed 125 = .ok (.ireturn, 1) := by decide +kernel
theorem dX5_end_0 : decode cX5_end 0 = .ok (.aload_n 0, 1) := by decide +kernel
theorem dX5_end_1 : decode cX5_end 1 = .ok (.iconst 0, 1) := by decide +kernel
theorem dX5_end_2 : decode cX5_end 2 = .ok (.putfield 52, 3) := by decide +kernel
theorem dX5_end_5 : decode cX5_end 5 = .ok (.iload_n 1, 1) := by decide +kernel
theorem dX5_end_6 : decode cX5_end 6 = .ok (.ifCond .lt 11, 3) := by decide +kernel
theorem dX5_end_9 : decode cX5_end 9 = .ok (.iload_n 1, 1) := by decide +kernel
theorem dX5_end_10 : decode cX5_end 10 = .ok (.aload_n 0, 1) := by decide +kernel
theorem dX5_end_11 : decode cX5_end 11 = .ok (.getfield 55, 3) := by decide +kernel
theorem dX5_end_14 : decode cX5_end 14 = .ok (.if_icmp .le 5, 3) := by decide +kernel
theorem dX5_end_17 : decode cX5_end 17 = .ok (.iconst (-1), 1) := by decide +kernel
theorem dX5_end_18 : decode cX5_end 18 = .ok (.ireturn, 1) := by decide +kernel
theorem dX5_end_19 : decode cX5_end 19 = .ok (.aload_n 0, 1) := by decide +kernel
theorem dX5_end_20 : decode cX5_end 20 = .ok (.iload_n 1, 1) := by decide +kernel
theorem dX5_end_21 : decode cX5_end 21 = .ok (.putfield 55, 3) := by decide +kernel
theorem dX5_end_24 : decode cX5_end 24 = .ok (.iload_n 1, 1) := by decide +kernel
theorem dX5_end_25 : decode cX5_end 25 = .ok (.ireturn, 1) := by decide +kernel
theorem dX5_bounds_0 : decode cX5_bounds 0 = .ok (.aload_n 0, 1) := by decide +kernel
theorem dX5_bounds_1 : decode cX5_bounds 1 = .ok (.iconst 0, 1) := by decide +kernel
theorem dX5_bounds_2 : decode cX5_bounds 2 = .ok (.putfield 52, 3) := by decide +kernel
theorem dX5_bounds_5 : decode cX5_bounds 5 = .ok (.iload_n 1, 1) := by decide +kernel
theorem dX5_bounds_6 : decode cX5_bounds 6 = .ok (.ifCond .lt 20, 3) := by decide +kernel
theorem dX5_bounds_9 : decode cX5_bounds 9 = .ok (.iload_n 1, 1) := by decide +kernel
theorem dX5_bounds_10 : decode cX5_bounds 10 = .ok (.bipush 40, 2) := by decide +kernel
theorem dX5_bounds_12 : decode cX5_bounds 12 = .ok (.if_icmp .gt 14, 3) := by decide +kernel
theorem dX5_bounds_15 : decode cX5_bounds 15 = .ok (.iload_n 2, 1) := by decide +kernel
theorem dX5_bounds_16 : decode cX5_bounds 16 = .ok (.ifCond .lt 10, 3) := by decide +kernel
theorem dX5_bounds_19 : decode cX5_bounds 19 = .ok (.iload_n 2, 1) := by decide +kernel
theorem dX5_bounds_20 : decode cX5_bounds 20 = .ok (.sipush 6000, 3) := by decide +kernel
theorem dX5_bounds_23 : decode cX5_bounds 23 = .ok (.if_icmp .le 5, 3) := by decide +kernel
theorem dX5_bounds_26 : decode cX5_bounds 26 = .ok (.iconst 0, 1) := by decide +kernel
theorem dX5_bounds_27 : decode cX5_bounds 27 = .ok (.ireturn, 1) := by decide +kernel
theorem dX5_bounds_28 : decode cX5_bounds 28 = .ok (.aload_n 0, 1) := by decide +kernel
theorem dX5_bounds_29 : decode cX5_bounds 29 = .ok (.iload_n 1, 1) := by decide +kernel
theorem dX5_bounds_30 : decode cX5_bounds 30 = .ok (.putfield 13, 3) := by decide +kernel
theorem dX5_bounds_33 : decode cX5_bounds 33 = .ok (.aload_n 0, 1) := by decide +kernel
theorem dX5_bounds_34 : decode cX5_bounds 34 = .ok (.iload_n 2, 1) := by decide +kernel
theorem dX5_bounds_35 : decode cX5_bounds 35 = .ok (.putfield 17, 3) := by decide +kernel
theorem dX5_bounds_38 : decode cX5_bounds 38 = .ok (.iconst 1, 1) := by decide +kernel
theorem dX5_bounds_39 : decode cX5_bounds 39 = .ok (.ireturn, 1) := by decide +kernel
theorem dX5_errorAt_0 : decode cX5_errorAt 0 = .ok (.aload_n 0, 1) := by decide +kernel
theorem dX5_errorAt_1 : decode cX5_errorAt 1 = .ok (.iconst 0, 1) := by decide +kernel
theorem dX5_errorAt_2 : decode cX5_errorAt 2 = .ok (.putfield 52, 3) := by decide +kernel
theorem dX5_errorAt_5 : decode cX5_errorAt 5 = .ok (.aload_n 0, 1) := by decide +kernel
theorem dX5_errorAt_6 : decode cX5_errorAt 6 = .ok (.getfield 24, 3) := by decide +kernel
theorem dX5_errorAt_9 : decode cX5_errorAt 9 = .ok (.ireturn, 1) := by decide +kernel
theorem dX5_out_0 : decode cX5_out 0 = .ok (.aload_n 0, 1) := by decide +kernel
theorem dX5_out_1 : decode cX5_out 1 = .ok (.iconst 0, 1) := by decide +kernel
theorem dX5_out_2 : decode cX5_out 2 = .ok (.putfield 52, 3) := by decide +kernel
theorem dX5_out_5 : decode cX5_out 5 = .ok (.iload_n 1, 1) := by decide +kernel
theorem dX5_out_6 : decode cX5_out 6 = .ok (.ifCond .lt 11, 3) := by decide +kernel
theorem dX5_out_9 : decode cX5_out 9 = .ok (.iload_n 1, 1) := by decide +kernel
theorem dX5_out_10 : decode cX5_out 10 = .ok (.aload_n 0, 1) := by decide +kernel
theorem dX5_out_11 : decode cX5_out 11 = .ok (.getfield 58, 3) := by decide +kernel
theorem dX5_out_14 : decode cX5_out 14 = .ok (.if_icmp .lt 7, 3) := by decide +kernel
theorem dX5_out_17 : decode cX5_out 17 = .ok (.iconst (-1), 1) := by decide +kernel
theorem dX5_out_18 : decode cX5_out 18 = .ok (.goto 13, 3) := by decide +kernel
theorem dX5_out_21 : decode cX5_out 21 = .ok (.aload_n 0, 1) := by decide +kernel
theorem dX5_out_22 : decode cX5_out 22 = .ok (.getfield 20, 3) := by decide +kernel
theorem dX5_out_25 : decode cX5_out 25 = .ok (.iload_n 1, 1) := by decide +kernel
theorem dX5_out_26 : decode cX5_out 26 = .ok (.baload, 1) := by decide +kernel
theorem dX5_out_27 : decode cX5_out 27 = .ok (.sipush 255, 3) := by decide +kernel
theorem dX5_out_30 : decode cX5_out 30 = .ok (.iand, 1) := by decide +kernel
theorem dX5_out_31 : decode cX5_out 31 = .ok (.ireturn, 1) := by decide +kernel
theorem dX5_outSize_0 : decode cX5_outSize 0 = .ok (.aload_n 0, 1) := by decide +kernel
theorem dX5_outSize_1 : decode cX5_outSize 1 = .ok (.iconst 0, 1) := by decide +kernel
theorem dX5_outSize_2 : decode cX5_outSize 2 = .ok (.putfield 52, 3) := by decide +kernel
theorem dX5_outSize_5 : decode cX5_outSize 5 = .ok (.aload_n 0, 1) := by decide +kernel
theorem dX5_outSize_6 : decode cX5_outSize 6 = .ok (.getfield 58, 3) := by decide +kernel
theorem dX5_outSize_9 : decode cX5_outSize 9 = .ok (.ireturn, 1) := by decide +kernel
theorem dX5_take_0 : decode cX5_take 0 = .ok (.aload_n 0, 1) := by decide +kernel
theorem dX5_take_1 : decode cX5_take 1 = .ok (.iconst 0, 1) := by decide +kernel
theorem dX5_take_2 : decode cX5_take 2 = .ok (.putfield 52, 3) := by decide +kernel
theorem dX5_take_5 : decode cX5_take 5 = .ok (.aload_n 0, 1) := by decide +kernel
theorem dX5_take_6 : decode cX5_take 6 = .ok (.getfield 58, 3) := by decide +kernel
theorem dX5_take_9 : decode cX5_take 9 = .ok (.sipush 4000, 3) := by decide +kernel
theorem dX5_take_12 : decode cX5_take 12 = .ok (.if_icmp .le 5, 3) := by decide +kernel
theorem dX5_take_15 : decode cX5_take 15 = .ok (.iconst (-1), 1) := by decide +kernel
theorem dX5_take_16 : decode cX5_take 16 = .ok (.ireturn, 1) := by decide +kernel
theorem dX5_take_17 : decode cX5_take 17 = .ok (.iconst 0, 1) := by decide +kernel
theorem dX5_take_18 : decode cX5_take 18 = .ok (.istore_n 1, 1) := by decide +kernel
theorem dX5_take_19 : decode cX5_take 19 = .ok (.iload_n 1, 1) := by decide +kernel
theorem dX5_take_20 : decode cX5_take 20 = .ok (.aload_n 0, 1) := by decide +kernel
theorem dX5_take_21 : decode cX5_take 21 = .ok (.getfield 58, 3) := by decide +kernel
theorem dX5_take_24 : decode cX5_take 24 = .ok (.if_icmp .ge 25, 3) := by decide +kernel
theorem dX5_take_27 : decode cX5_take 27 = .ok (.aload_n 0, 1) := by decide +kernel
theorem dX5_take_28 : decode cX5_take 28 = .ok (.getfield 7, 3) := by decide +kernel
theorem dX5_take_31 : decode cX5_take 31 = .ok (.iload_n 1, 1) := by decide +kernel
theorem dX5_take_32 : decode cX5_take 32 = .ok (.aload_n 0, 1) := by decide +kernel
theorem dX5_take_33 : decode cX5_take 33 = .ok (.getfield 20, 3) := by decide +kernel
theorem dX5_take_36 : decode cX5_take 36 = .ok (.iload_n 1, 1) := by decide +kernel
theorem dX5_take_37 : decode cX5_take 37 = .ok (.baload, 1) := by decide +kernel
theorem dX5_take_38 : decode cX5_take 38 = .ok (.sipush 255, 3) := by decide +kernel
theorem dX5_take_41 : decode cX5_take 41 = .ok (.iand, 1) := by decide +kernel
theorem dX5_take_42 : decode cX5_take 42 = .ok (.iastore, 1) := by decide +kernel
theorem dX5_take_43 : decode cX5_take 43 = .ok (.iinc 1 1, 3) := by decide +kernel
theorem dX5_take_46 : decode cX5_take 46 = .ok (.goto (-27), 3) := by decide +kernel
theorem dX5_take_49 : decode cX5_take 49 = .ok (.aload_n 0, 1) := by decide +kernel
theorem dX5_take_50 : decode cX5_take 50 = .ok (.aload_n 0, 1) := by decide +kernel
theorem dX5_take_51 : decode cX5_take 51 = .ok (.getfield 58, 3) := by decide +kernel
theorem dX5_take_54 : decode cX5_take 54 = .ok (.putfield 55, 3) := by decide +kernel
theorem dX5_take_57 : decode cX5_take 57 = .ok (.aload_n 0, 1) := by decide +kernel
theorem dX5_take_58 : decode cX5_take 58 = .ok (.getfield 55, 3) := by decide +kernel
theorem dX5_take_61 : decode cX5_take 61 = .ok (.ireturn, 1) := by decide +kernel
theorem dX5_wrong_0 : decode cX5_wrong 0 = .ok (.aload_n 0, 1) := by decide +kernel
theorem dX5_wrong_1 : decode cX5_wrong 1 = .ok (.getfield 61, 3) := by decide +kernel
theorem dX5_wrong_4 : decode cX5_wrong 4 = .ok (.ifCond .ne 13, 3) := by decide +kernel
theorem dX5_wrong_7 : decode cX5_wrong 7 = .ok (.aload_n 0, 1) := by decide +kernel
theorem dX5_wrong_8 : decode cX5_wrong 8 = .ok (.iload_n 1, 1) := by decide +kernel
theorem dX5_wrong_9 : decode cX5_wrong 9 = .ok (.putfield 61, 3) := by decide +kernel
theorem dX5_wrong_12 : decode cX5_wrong 12 = .ok (.aload_n 0, 1) := by decide +kernel
theorem dX5_wrong_13 : decode cX5_wrong 13 = .ok (.iload_n 2, 1) := by decide +kernel
theorem dX5_wrong_14 : decode cX5_wrong 14 = .ok (.putfield 24, 3) := by decide +kernel
theorem dX5_wrong_17 : decode cX5_wrong 17 = .ok (.iconst 0, 1) := by decide +kernel
theorem dX5_wrong_18 : decode cX5_wrong 18 = .ok (.ireturn, 1) := by decide +kernel
theorem dX5_begin_0 : decode cX5_begin 0 = .ok (.aload_n 0, 1) := by decide +kernel
theorem dX5_begin_1 : decode cX5_begin 1 = .ok (.iconst 0, 1) := by decide +kernel
theorem dX5_begin_2 : decode cX5_begin 2 = .ok (.putfield 52, 3) := by decide +kernel
theorem dX5_begin_5 : decode cX5_begin 5 = .ok (.aload_n 0, 1) := by decide +kernel
theorem dX5_begin_6 : decode cX5_begin 6 = .ok (.iconst 0, 1) := by decide +kernel
theorem dX5_begin_7 : decode cX5_begin 7 = .ok (.putfield 61, 3) := by decide +kernel
theorem dX5_begin_10 : decode cX5_begin 10 = .ok (.aload_n 0, 1) := by decide +kernel
theorem dX5_begin_11 : decode cX5_begin 11 = .ok (.iconst (-1), 1) := by decide +kernel
theorem dX5_begin_12 : decode cX5_begin 12 = .ok (.putfield 24, 3) := by decide +kernel
theorem dX5_begin_15 : decode cX5_begin 15 = .ok (.aload_n 0, 1) := by decide +kernel
theorem dX5_begin_16 : decode cX5_begin 16 = .ok (.iconst 0, 1) := by decide +kernel
theorem dX5_begin_17 : decode cX5_begin 17 = .ok (.putfield 64, 3) := by decide +kernel
theorem dX5_begin_20 : decode cX5_begin 20 = .ok (.aload_n 0, 1) := by decide +kernel
theorem dX5_begin_21 : decode cX5_begin 21 = .ok (.iconst 0, 1) := by decide +kernel
theorem dX5_begin_22 : decode cX5_begin 22 = .ok (.putfield 67, 3) := by decide +kernel
theorem dX5_begin_25 : decode cX5_begin 25 = .ok (.aload_n 0, 1) := by decide +kernel
theorem dX5_begin_26 : decode cX5_begin 26 = .ok (.iconst 0, 1) := by decide +kernel
theorem dX5_begin_27 : decode cX5_begin 27 = .ok (.putfield 70, 3) := by decide +kernel
theorem dX5_begin_30 : decode cX5_begin 30 = .ok (.aload_n 0, 1) := by decide +kernel
theorem dX5_begin_31 : decode cX5_begin 31 = .ok (.iconst 0, 1) := by decide +kernel
theorem dX5_begin_32 : decode cX5_begin 32 = .ok (.putfield 73, 3) := by decide +kernel
theorem dX5_begin_35 : decode cX5_begin 35 = .ok (.return_, 1) := by decide +kernel
theorem dX5_thing_0 : decode cX5_thing 0 = .ok (.aload_n 0, 1) := by decide +kernel
theorem dX5_thing_1 : decode cX5_thing 1 = .ok (.getfield 27, 3) := by decide +kernel
theorem dX5_thing_4 : decode cX5_thing 4 = .ok (.aload_n 0, 1) := by decide +kernel
theorem dX5_thing_5 : decode cX5_thing 5 = .ok (.getfield 67, 3) := by decide +kernel
theorem dX5_thing_8 : decode cX5_thing 8 = .ok (.iload_n 1, 1) := by decide +kernel
theorem dX5_thing_9 : decode cX5_thing 9 = .ok (.iastore, 1) := by decide +kernel
theorem dX5_thing_10 : decode cX5_thing 10 = .ok (.aload_n 0, 1) := by decide +kernel
theorem dX5_thing_11 : decode cX5_thing 11 = .ok (.getfield 30, 3) := by decide +kernel
theorem dX5_thing_14 : decode cX5_thing 14 = .ok (.aload_n 0, 1) := by decide +kernel
theorem dX5_thing_15 : decode cX5_thing 15 = .ok (.getfield 67, 3) := by decide +kernel
theorem dX5_thing_18 : decode cX5_thing 18 = .ok (.lload_n 2, 1) := by decide +kernel
theorem dX5_thing_19 : decode cX5_thing 19 = .ok (.lastore, 1) := by decide +kernel
theorem dX5_thing_20 : decode cX5_thing 20 = .ok (.aload_n 0, 1) := by decide +kernel
theorem dX5_thing_21 : decode cX5_thing 21 = .ok (.getfield 34, 3) := by decide +kernel
theorem dX5_thing_24 : decode cX5_thing 24 = .ok (.aload_n 0, 1) := by decide +kernel
theorem dX5_thing_25 : decode cX5_thing 25 = .ok (.getfield 67, 3) := by decide +kernel
theorem dX5_thing_28 : decode cX5_thing 28 = .ok (.aload_n 0, 1) := by decide +kernel
theorem dX5_thing_29 : decode cX5_thing 29 = .ok (.getfield 70, 3) := by decide +kernel
theorem dX5_thing_32 : decode cX5_thing 32 = .ok (.iastore, 1) := by decide +kernel
theorem dX5_thing_33 : decode cX5_thing 33 = .ok (.aload_n 0, 1) := by decide +kernel
theorem dX5_thing_34 : decode cX5_thing 34 = .ok (.dup, 1) := by decide +kernel
theorem dX5_thing_35 : decode cX5_thing 35 = .ok (.getfield 67, 3) := by decide +kernel
theorem dX5_thing_38 : decode cX5_thing 38 = .ok (.iconst 1, 1) := by decide +kernel
theorem dX5_thing_39 : decode cX5_thing 39 = .ok (.iadd, 1) := by decide +kernel
theorem dX5_thing_40 : decode cX5_thing 40 = .ok (.putfield 67, 3) := by decide +kernel
theorem dX5_thing_43 : decode cX5_thing 43 = .ok (.aload_n 0, 1) := by decide +kernel
theorem dX5_thing_44 : decode cX5_thing 44 = .ok (.getfield 67, 3) := by decide +kernel
theorem dX5_thing_47 : decode cX5_thing 47 = .ok (.iconst 1, 1) := by decide +kernel
theorem dX5_thing_48 : decode cX5_thing 48 = .ok (.isub, 1) := by decide +kernel
theorem dX5_thing_49 : decode cX5_thing 49 = .ok (.ireturn, 1) := by decide +kernel
theorem dX5_here_0 : decode cX5_here 0 = .ok (.aload_n 0, 1) := by decide +kernel
theorem dX5_here_1 : decode cX5_here 1 = .ok (.getfield 64, 3) := by decide +kernel
theorem dX5_here_4 : decode cX5_here 4 = .ok (.aload_n 0, 1) := by decide +kernel
theorem dX5_here_5 : decode cX5_here 5 = .ok (.getfield 55, 3) := by decide +kernel
theorem dX5_here_8 : decode cX5_here 8 = .ok (.if_icmp .ge 15, 3) := by decide +kernel
theorem dX5_here_11 : decode cX5_here 11 = .ok (.aload_n 0, 1) := by decide +kernel
theorem dX5_here_12 : decode cX5_here 12 = .ok (.getfield 7, 3) := by decide +kernel
theorem dX5_here_15 : decode cX5_here 15 = .ok (.aload_n 0, 1) := by decide +kernel
theorem dX5_here_16 : decode cX5_here 16 = .ok (.getfield 64, 3) := by decide +kernel
theorem dX5_here_19 : decode cX5_here 19 = .ok (.iaload, 1) := by decide +kernel
theorem dX5_here_20 : decode cX5_here 20 = .ok (.goto 4, 3) := by decide +kernel
theorem dX5_here_23 : decode cX5_here 23 = .ok (.iconst (-1), 1) := by decide +kernel
theorem dX5_here_24 : decode cX5_here 24 = .ok (.ireturn, 1) := by decide +kernel
theorem dX5_follows_0 : decode cX5_follows 0 = .ok (.iload_n 1, 1) := by decide +kernel
theorem dX5_follows_1 : decode cX5_follows 1 = .ok (.iload_n 2, 1) := by decide +kernel
theorem dX5_follows_2 : decode cX5_follows 2 = .ok (.if_icmp .ge 28, 3) := by decide +kernel
theorem dX5_follows_5 : decode cX5_follows 5 = .ok (.aload_n 0, 1) := by decide +kernel
theorem dX5_follows_6 : decode cX5_follows 6 = .ok (.getfield 7, 3) := by decide +kernel
theorem dX5_follows_9 : decode cX5_follows 9 = .ok (.iload_n 1, 1) := by decide +kernel
theorem dX5_follows_10 : decode cX5_follows 10 = .ok (.iaload, 1) := by decide +kernel
theorem dX5_follows_11 : decode cX5_follows 11 = .ok (.iload_n 3, 1) := by decide +kernel
theorem dX5_follows_12 : decode cX5_follows 12 = .ok (.if_icmp .lt 18, 3) := by decide +kernel
theorem dX5_follows_15 : decode cX5_follows 15 = .ok (.aload_n 0, 1) := by decide +kernel
theorem dX5_follows_16 : decode cX5_follows 16 = .ok (.getfield 7, 3) := by decide +kernel
theorem dX5_follows_19 : decode cX5_follows 19 = .ok (.iload_n 1, 1) := by decide +kernel
theorem dX5_follows_20 : decode cX5_follows 20 = .ok (.iaload, 1) := by decide +kernel
theorem dX5_follows_21 : decode cX5_follows 21 = .ok (.iload 4, 2) := by decide +kernel
theorem dX5_follows_23 : decode cX5_follows 23 = .ok (.if_icmp .gt 7, 3) := by decide +kernel
theorem dX5_follows_26 : decode cX5_follows 26 = .ok (.iconst 1, 1) := by decide +kernel
theorem dX5_follows_27 : decode cX5_follows 27 = .ok (.goto 4, 3) := by decide +kernel
theorem dX5_follows_30 : decode cX5_follows 30 = .ok (.iconst 0, 1) := by decide +kernel
theorem dX5_follows_31 : decode cX5_follows 31 = .ok (.ireturn, 1) := by decide +kernel
theorem dX5_signSize_0 : decode cX5_signSize 0 = .ok (.aload_n 0, 1) := by decide +kernel
theorem dX5_signSize_1 : decode cX5_signSize 1 = .ok (.getfield 7, 3) := by decide +kernel
theorem dX5_signSize_4 : decode cX5_signSize 4 = .ok (.iload_n 1, 1) := by decide +kernel
theorem dX5_signSize_5 : decode cX5_signSize 5 = .ok (.iaload, 1) := by decide +kernel
theorem dX5_signSize_6 : decode cX5_signSize 6 = .ok (.istore_n 3, 1) := by decide +kernel
theorem dX5_signSize_7 : decode cX5_signSize 7 = .ok (.iload_n 3, 1) := by decide +kernel
theorem dX5_signSize_8 : decode cX5_signSize 8 = .ok (.sipush 128, 3) := by decide +kernel
theorem dX5_signSize_11 : decode cX5_signSize 11 = .ok (.if_icmp .ge 5, 3) := by decide +kernel
theorem dX5_signSize_14 : decode cX5_signSize 14 = .ok (.iconst 1, 1) := by decide +kernel
theorem dX5_signSize_15 : decode cX5_signSize 15 = .ok (.ireturn, 1) := by decide +kernel
theorem dX5_signSize_16 : decode cX5_signSize 16 = .ok (.iload_n 3, 1) := by decide +kernel
theorem dX5_signSize_17 : decode cX5_signSize 17 = .ok (.sipush 194, 3) := by decide +kernel
theorem dX5_signSize_20 : decode cX5_signSize 20 = .ok (.if_icmp .lt 10, 3) := by decide +kernel
theorem dX5_signSize_23 : decode cX5_signSize 23 = .ok (.iload_n 3, 1) := by decide +kernel
theorem dX5_signSize_24 : decode cX5_signSize 24 = .ok (.sipush 244, 3) := by decide +kernel
theorem dX5_signSize_27 : decode cX5_signSize 27 = .ok (.if_icmp .le 5, 3) := by decide +kernel
theorem dX5_signSize_30 : decode cX5_signSize 30 = .ok (.iconst 0, 1) := by decide +kernel
theorem dX5_signSize_31 : decode cX5_signSize 31 = .ok (.ireturn, 1) := by decide +kernel
theorem dX5_signSize_32 : decode cX5_signSize 32 = .ok (.iload_n 3, 1) := by decide +kernel
theorem dX5_signSize_33 : decode cX5_signSize 33 = .ok (.sipush 224, 3) := by decide +kernel
theorem dX5_signSize_36 : decode cX5_signSize 36 = .ok (.if_icmp .ne 9, 3) := by decide +kernel
theorem dX5_signSize_39 : decode cX5_signSize 39 = .ok (.sipush 160, 3) := by decide +kernel
theorem dX5_signSize_42 : decode cX5_signSize 42 = .ok (.goto 19, 3) := by decide +kernel
theorem dX5_signSize_45 : decode cX5_signSize 45 = .ok (.iload_n 3, 1) := by decide +kernel
theorem dX5_signSize_46 : decode cX5_signSize 46 = .ok (.sipush 240, 3) := by decide +kernel
theorem dX5_signSize_49 : decode cX5_signSize 49 = .ok (.if_icmp .ne 9, 3) := by decide +kernel
theorem dX5_signSize_52 : decode cX5_signSize 52 = .ok (.sipush 144, 3) := by decide +kernel
theorem dX5_signSize_55 : decode cX5_signSize 55 = .ok (.goto 6, 3) := by decide +kernel
theorem dX5_signSize_58 : decode cX5_signSize 58 = .ok (.sipush 128, 3) := by decide +kernel
theorem dX5_signSize_61 : decode cX5_signSize 61 = .ok (.istore 4, 2) := by decide +kernel
theorem dX5_signSize_63 : decode cX5_signSize 63 = .ok (.iload_n 3, 1) := by decide +kernel
theorem dX5_signSize_64 : decode cX5_signSize 64 = .ok (.sipush 237, 3) := by decide +kernel
theorem dX5_signSize_67 : decode cX5_signSize 67 = .ok (.if_icmp .ne 9, 3) := by decide +kernel
theorem dX5_signSize_70 : decode cX5_signSize 70 = .ok (.sipush 159, 3) := by decide +kernel
theorem dX5_signSize_73 : decode cX5_signSize 73 = .ok (.goto 19, 3) := by decide +kernel
theorem dX5_signSize_76 : decode cX5_signSize 76 = .ok (.iload_n 3, 1) := by decide +kernel
theorem dX5_signSize_77 : decode cX5_signSize 77 = .ok (.sipush 244, 3) := by decide +kernel
theorem dX5_signSize_80 : decode cX5_signSize 80 = .ok (.if_icmp .ne 9, 3) := by decide +kernel
theorem dX5_signSize_83 : decode cX5_signSize 83 = .ok (.sipush 143, 3) := by decide +kernel
theorem dX5_signSize_86 : decode cX5_signSize 86 = .ok (.goto 6, 3) := by decide +kernel
theorem dX5_signSize_89 : decode cX5_signSize 89 = .ok (.sipush 191, 3) := by decide +kernel
theorem dX5_signSize_92 : decode cX5_signSize 92 = .ok (.istore 5, 2) := by decide +kernel
theorem dX5_signSize_94 : decode cX5_signSize 94 = .ok (.iload_n 3, 1) := by decide +kernel
theorem dX5_signSize_95 : decode cX5_signSize 95 = .ok (.sipush 224, 3) := by decide +kernel
theorem dX5_signSize_98 : decode cX5_signSize 98 = .ok (.if_icmp .ge 7, 3) := by decide +kernel
theorem dX5_signSize_101 : decode cX5_signSize 101 = .ok (.iconst 2, 1) := by decide +kernel
theorem dX5_signSize_102 : decode cX5_signSize 102 = .ok (.goto 15, 3) := by decide +kernel
theorem dX5_signSize_105 : decode cX5_signSize 105 = .ok (.iload_n 3, 1) := by decide +kernel
theorem dX5_signSize_106 : decode cX5_signSize 106 = .ok (.sipush 240, 3) := by decide +kernel
theorem dX5_signSize_109 : decode cX5_signSize 109 = .ok (.if_icmp .ge 7, 3) := by decide +kernel
theorem dX5_signSize_112 : decode cX5_signSize 112 = .ok (.iconst 3, 1) := by decide +kernel
theorem dX5_signSize_113 : decode cX5_signSize 113 = .ok (.goto 4, 3) := by decide +kernel
theorem dX5_signSize_116 : decode cX5_signSize 116 = .ok (.iconst 4, 1) := by decide +kernel
theorem dX5_signSize_117 : decode cX5_signSize 117 = .ok (.istore 6, 2) := by decide +kernel
theorem dX5_signSize_119 : decode cX5_signSize 119 = .ok (.aload_n 0, 1) := by decide +kernel
theorem dX5_signSize_120 : decode cX5_signSize 120 = .ok (.iload_n 1, 1) := by decide +kernel
theorem dX5_signSize_121 : decode cX5_signSize 121 = .ok (.iconst 1, 1) := by decide +kernel
theorem dX5_signSize_122 : decode cX5_signSize 122 = .ok (.iadd, 1) := by decide +kernel
theorem dX5_signSize_123 : decode cX5_signSize 123 = .ok (.iload_n 2, 1) := by decide +kernel
theorem dX5_signSize_124 : decode cX5_signSize 124 = .ok (.iload 4, 2) := by decide +kernel
theorem dX5_signSize_126 : decode cX5_signSize 126 = .ok (.iload 5, 2) := by decide +kernel
theorem dX5_signSize_128 : decode cX5_signSize 128 = .ok (.invokevirtual 76, 3) := by decide +kernel
theorem dX5_signSize_131 : decode cX5_signSize 131 = .ok (.ifCond .ne 5, 3) := by decide +kernel
theorem dX5_signSize_134 : decode cX5_signSize 134 = .ok (.iconst 0, 1) := by decide +kernel
theorem dX5_signSize_135 : decode cX5_signSize 135 = .ok (.ireturn, 1) := by decide +kernel
theorem dX5_signSize_136 : decode cX5_signSize 136 = .ok (.iconst 2, 1) := by decide +kernel
theorem dX5_signSize_137 : decode cX5_signSize 137 = .ok (.istore 7, 2) := by decide +kernel
theorem dX5_signSize_139 : decode cX5_signSize 139 = .ok (.iload 7, 2) := by decide +kernel
theorem dX5_signSize_141 : decode cX5_signSize 141 = .ok (.iload 6, 2) := by decide +kernel
theorem dX5_signSize_143 : decode cX5_signSize 143 = .ok (.if_icmp .ge 29, 3) := by decide +kernel
theorem dX5_signSize_146 : decode cX5_signSize 146 = .ok (.aload_n 0, 1) := by decide +kernel
theorem dX5_signSize_147 : decode cX5_signSize 147 = .ok (.iload_n 1, 1) := by decide +kernel
theorem dX5_signSize_148 : decode cX5_signSize 148 = .ok (.iload 7, 2) := by decide +kernel
theorem dX5_signSize_150 : decode cX5_signSize 150 = .ok (.iadd, 1) := by decide +kernel
theorem dX5_signSize_151 : decode cX5_signSize 151 = .ok (.iload_n 2, 1) := by decide +kernel
theorem dX5_signSize_152 : decode cX5_signSize 152 = .ok (.sipush 128, 3) := by decide +kernel
theorem dX5_signSize_155 : decode cX5_signSize 155 = .ok (.sipush 191, 3) := by decide +kernel
theorem dX5_signSize_158 : decode cX5_signSize 158 = .ok (.invokevirtual 76, 3) := by decide +kernel
theorem dX5_signSize_161 : decode cX5_signSize 161 = .ok (.ifCond .ne 5, 3) := by decide +kernel
theorem dX5_signSize_164 : decode cX5_signSize 164 = .ok (.iconst 0, 1) := by decide +kernel
theorem dX5_signSize_165 : decode cX5_signSize 165 = .ok (.ireturn, 1) := by decide +kernel
theorem dX5_signSize_166 : decode cX5_signSize 166 = .ok (.iinc 7 1, 3) := by decide +kernel
theorem dX5_signSize_169 : decode cX5_signSize 169 = .ok (.goto (-30), 3) := by decide +kernel
theorem dX5_signSize_172 : decode cX5_signSize 172 = .ok (.iload 6, 2) := by decide +kernel
theorem dX5_signSize_174 : decode cX5_signSize 174 = .ok (.ireturn, 1) := by decide +kernel
theorem dX5_letter_0 : decode cX5_letter 0 = .ok (.aload_n 0, 1) := by decide +kernel
theorem dX5_letter_1 : decode cX5_letter 1 = .ok (.getfield 37, 3) := by decide +kernel
theorem dX5_letter_4 : decode cX5_letter 4 = .ok (.aload_n 0, 1) := by decide +kernel
theorem dX5_letter_5 : decode cX5_letter 5 = .ok (.getfield 70, 3) := by decide +kernel
theorem dX5_letter_8 : decode cX5_letter 8 = .ok (.iload_n 1, 1) := by decide +kernel
theorem dX5_letter_9 : decode cX5_letter 9 = .ok (.i2b, 1) := by decide +kernel
theorem dX5_letter_10 : decode cX5_letter 10 = .ok (.bastore, 1) := by decide +kernel
theorem dX5_letter_11 : decode cX5_letter 11 = .ok (.aload_n 0, 1) := by decide +kernel
theorem dX5_letter_12 : decode cX5_letter 12 = .ok (.dup, 1) := by decide +kernel
theorem dX5_letter_13 : decode cX5_letter 13 = .ok (.getfield 70, 3) := by decide +kernel
theorem dX5_letter_16 : decode cX5_letter 16 = .ok (.iconst 1, 1) := by decide +kernel
theorem dX5_letter_17 : decode cX5_letter 17 = .ok (.iadd, 1) := by decide +kernel
theorem dX5_letter_18 : decode cX5_letter 18 = .ok (.putfield 70, 3) := by decide +kernel
theorem dX5_letter_21 : decode cX5_letter 21 = .ok (.return_, 1) := by decide +kernel
theorem dX5_sign_0 : decode cX5_sign 0 = .ok (.iload_n 1, 1) := by decide +kernel
theorem dX5_sign_1 : decode cX5_sign 1 = .ok (.sipush 128, 3) := by decide +kernel
theorem dX5_sign_4 : decode cX5_sign 4 = .ok (.if_icmp .ge 11, 3) := by decide +kernel
theorem dX5_sign_7 : decode cX5_sign 7 = .ok (.aload_n 0, 1) := by decide +kernel
theorem dX5_sign_8 : decode cX5_sign 8 = .ok (.iload_n 1, 1) := by decide +kernel
theorem dX5_sign_9 : decode cX5_sign 9 = .ok (.invokevirtual 80, 3) := by decide +kernel
theorem dX5_sign_12 : decode cX5_sign 12 = .ok (.goto 141, 3) := by decide +kernel
theorem dX5_sign_15 : decode cX5_sign 15 = .ok (.iload_n 1, 1) := by decide +kernel
theorem dX5_sign_16 : decode cX5_sign 16 = .ok (.sipush 2048, 3) := by decide +kernel
theorem dX5_sign_19 : decode cX5_sign 19 = .ok (.if_icmp .ge 30, 3) := by decide +kernel
theorem dX5_sign_22 : decode cX5_sign 22 = .ok (.aload_n 0, 1) := by decide +kernel
theorem dX5_sign_23 : decode cX5_sign 23 = .ok (.sipush 192, 3) := by decide +kernel
theorem dX5_sign_26 : decode cX5_sign 26 = .ok (.iload_n 1, 1) := by decide +kernel
theorem dX5_sign_27 : decode cX5_sign 27 = .ok (.bipush 64, 2) := by decide +kernel
theorem dX5_sign_29 : decode cX5_sign 29 = .ok (.idiv, 1) := by decide +kernel
theorem dX5_sign_30 : decode cX5_sign 30 = .ok (.iadd, 1) := by decide +kernel
theorem dX5_sign_31 : decode cX5_sign 31 = .ok (.invokevirtual 80, 3) := by decide +kernel
theorem dX5_sign_34 : decode cX5_sign 34 = .ok (.aload_n 0, 1) := by decide +kernel
theorem dX5_sign_35 : decode cX5_sign 35 = .ok (.sipush 128, 3) := by decide +kernel
theorem dX5_sign_38 : decode cX5_sign 38 = .ok (.iload_n 1, 1) := by decide +kernel
theorem dX5_sign_39 : decode cX5_sign 39 = .ok (.bipush 64, 2) := by decide +kernel
theorem dX5_sign_41 : decode cX5_sign 41 = .ok (.irem, 1) := by decide +kernel
theorem dX5_sign_42 : decode cX5_sign 42 = .ok (.iadd, 1) := by decide +kernel
theorem dX5_sign_43 : decode cX5_sign 43 = .ok (.invokevirtual 80, 3) := by decide +kernel
theorem dX5_sign_46 : decode cX5_sign 46 = .ok (.goto 107, 3) := by decide +kernel
theorem dX5_sign_49 : decode cX5_sign 49 = .ok (.iload_n 1, 1) := by decide +kernel
theorem dX5_sign_50 : decode cX5_sign 50 = .ok (.ldc 84, 2) := by decide +kernel
theorem dX5_sign_52 : decode cX5_sign 52 = .ok (.if_icmp .ge 46, 3) := by decide +kernel
theorem dX5_sign_55 : decode cX5_sign 55 = .ok (.aload_n 0, 1) := by decide +kernel
theorem dX5_sign_56 : decode cX5_sign 56 = .ok (.sipush 224, 3) := by decide +kernel
theorem dX5_sign_59 : decode cX5_sign 59 = .ok (.iload_n 1, 1) := by decide +kernel
theorem dX5_sign_60 : decode cX5_sign 60 = .ok (.sipush 4096, 3) := by decide +kernel
theorem dX5_sign_63 : decode cX5_sign 63 = .ok (.idiv, 1) := by decide +kernel
theorem dX5_sign_64 : decode cX5_sign 64 = .ok (.iadd, 1) := by decide +kernel
theorem dX5_sign_65 : decode cX5_sign 65 = .ok (.invokevirtual 80, 3) := by decide +kernel
theorem dX5_sign_68 : decode cX5_sign 68 = .ok (.aload_n 0, 1) := by decide +kernel
theorem dX5_sign_69 : decode cX5_sign 69 = .ok (.sipush 128, 3) := by decide +kernel
theorem dX5_sign_72 : decode cX5_sign 72 = .ok (.iload_n 1, 1) := by decide +kernel
theorem dX5_sign_73 : decode cX5_sign 73 = .ok (.bipush 64, 2) := by decide +kernel
theorem dX5_sign_75 : decode cX5_sign 75 = .ok (.idiv, 1) := by decide +kernel
theorem dX5_sign_76 : decode cX5_sign 76 = .ok (.bipush 64, 2) := by decide +kernel
theorem dX5_sign_78 : decode cX5_sign 78 = .ok (.irem, 1) := by decide +kernel
theorem dX5_sign_79 : decode cX5_sign 79 = .ok (.iadd, 1) := by decide +kernel
theorem dX5_sign_80 : decode cX5_sign 80 = .ok (.invokevirtual 80, 3) := by decide +kernel
theorem dX5_sign_83 : decode cX5_sign 83 = .ok (.aload_n 0, 1) := by decide +kernel
theorem dX5_sign_84 : decode cX5_sign 84 = .ok (.sipush 128, 3) := by decide +kernel
theorem dX5_sign_87 : decode cX5_sign 87 = .ok (.iload_n 1, 1) := by decide +kernel
theorem dX5_sign_88 : decode cX5_sign 88 = .ok (.bipush 64, 2) := by decide +kernel
theorem dX5_sign_90 : decode cX5_sign 90 = .ok (.irem, 1) := by decide +kernel
theorem dX5_sign_91 : decode cX5_sign 91 = .ok (.iadd, 1) := by decide +kernel
theorem dX5_sign_92 : decode cX5_sign 92 = .ok (.invokevirtual 80, 3) := by decide +kernel
theorem dX5_sign_95 : decode cX5_sign 95 = .ok (.goto 58, 3) := by decide +kernel
theorem dX5_sign_98 : decode cX5_sign 98 = .ok (.aload_n 0, 1) := by decide +kernel
theorem dX5_sign_99 : decode cX5_sign 99 = .ok (.sipush 240, 3) := by decide +kernel
theorem dX5_sign_102 : decode cX5_sign 102 = .ok (.iload_n 1, 1) := by decide +kernel
theorem dX5_sign_103 : decode cX5_sign 103 = .ok (.ldc 85, 2) := by decide +kernel
theorem dX5_sign_105 : decode cX5_sign 105 = .ok (.idiv, 1) := by decide +kernel
theorem dX5_sign_106 : decode cX5_sign 106 = .ok (.iadd, 1) := by decide +kernel
theorem dX5_sign_107 : decode cX5_sign 107 = .ok (.invokevirtual 80, 3) := by decide +kernel
theorem dX5_sign_110 : decode cX5_sign 110 = .ok (.aload_n 0, 1) := by decide +kernel
theorem dX5_sign_111 : decode cX5_sign 111 = .ok (.sipush 128, 3) := by decide +kernel
theorem dX5_sign_114 : decode cX5_sign 114 = .ok (.iload_n 1, 1) := by decide +kernel
theorem dX5_sign_115 : decode cX5_sign 115 = .ok (.sipush 4096, 3) := by decide +kernel
theorem dX5_sign_118 : decode cX5_sign 118 = .ok (.idiv, 1) := by decide +kernel
theorem dX5_sign_119 : decode cX5_sign 119 = .ok (.bipush 64, 2) := by decide +kernel
theorem dX5_sign_121 : decode cX5_sign 121 = .ok (.irem, 1) := by decide +kernel
theorem dX5_sign_122 : decode cX5_sign 122 = .ok (.iadd, 1) := by decide +kernel
theorem dX5_sign_123 : decode cX5_sign 123 = .ok (.invokevirtual 80, 3) := by decide +kernel
theorem dX5_sign_126 : decode cX5_sign 126 = .ok (.aload_n 0, 1) := by decide +kernel
theorem dX5_sign_127 : decode cX5_sign 127 = .ok (.sipush 128, 3) := by decide +kernel
theorem dX5_sign_130 : decode cX5_sign 130 = .ok (.iload_n 1, 1) := by decide +kernel
theorem dX5_sign_131 : decode cX5_sign 131 = .ok (.bipush 64, 2) := by decide +kernel
theorem dX5_sign_133 : decode cX5_sign 133 = .ok (.idiv, 1) := by decide +kernel
theorem dX5_sign_134 : decode cX5_sign 134 = .ok (.bipush 64, 2) := by decide +kernel
theorem dX5_sign_136 : decode cX5_sign 136 = .ok (.irem, 1) := by decide +kernel
theorem dX5_sign_137 : decode cX5_sign 137 = .ok (.iadd, 1) := by decide +kernel
theorem dX5_sign_138 : decode cX5_sign 138 = .ok (.invokevirtual 80, 3) := by decide +kernel
theorem dX5_sign_141 : decode cX5_sign 141 = .ok (.aload_n 0, 1) := by decide +kernel
theorem dX5_sign_142 : decode cX5_sign 142 = .ok (.sipush 128, 3) := by decide +kernel
theorem dX5_sign_145 : decode cX5_sign 145 = .ok (.iload_n 1, 1) := by decide +kernel
theorem dX5_sign_146 : decode cX5_sign 146 = .ok (.bipush 64, 2) := by decide +kernel
theorem dX5_sign_148 : decode cX5_sign 148 = .ok (.irem, 1) := by decide +kernel
theorem dX5_sign_149 : decode cX5_sign 149 = .ok (.iadd, 1) := by decide +kernel
theorem dX5_sign_150 : decode cX5_sign 150 = .ok (.invokevirtual 80, 3) := by decide +kernel
theorem dX5_sign_153 : decode cX5_sign 153 = .ok (.return_, 1) := by decide +kernel
theorem dX5_blanks_0 : decode cX5_blanks 0 = .ok (.aload_n 0, 1) := by decide +kernel
theorem dX5_blanks_1 : decode cX5_blanks 1 = .ok (.invokevirtual 86, 3) := by decide +kernel
theorem dX5_blanks_4 : decode cX5_blanks 4 = .ok (.bipush 9, 2) := by decide +kernel
theorem dX5_blanks_6 : decode cX5_blanks 6 = .ok (.if_icmp .eq 30, 3) := by decide +kernel
theorem dX5_blanks_9 : decode cX5_blanks 9 = .ok (.aload_n 0, 1) := by decide +kernel
theorem dX5_blanks_10 : decode cX5_blanks 10 = .ok (.invokevirtual 86, 3) := by decide +kernel
theorem dX5_blanks_13 : decode cX5_blanks 13 = .ok (.bipush 10, 2) := by decide +kernel
theorem dX5_blanks_15 : decode cX5_blanks 15 = .ok (.if_icmp .eq 21, 3) := by decide +kernel
theorem dX5_blanks_18 : decode cX5_blanks 18 = .ok (.aload_n 0, 1) := by decide +kernel
theorem dX5_blanks_19 : decode cX5_blanks 19 = .ok (.invokevirtual 86, 3) := by decide +kernel
theorem dX5_blanks_22 : decode cX5_blanks 22 = .ok (.bipush 13, 2) := by decide +kernel
theorem dX5_blanks_24 : decode cX5_blanks 24 = .ok (.if_icmp .eq 12, 3) := by decide +kernel
theorem dX5_blanks_27 : decode cX5_blanks 27 = .ok (.aload_n 0, 1) := by decide +kernel
theorem dX5_blanks_28 : decode cX5_blanks 28 = .ok (.invokevirtual 86, 3) := by decide +kernel
theorem dX5_blanks_31 : decode cX5_blanks 31 = .ok (.bipush 32, 2) := by decide +kernel
theorem dX5_blanks_33 : decode cX5_blanks 33 = .ok (.if_icmp .ne 16, 3) := by decide +kernel
theorem dX5_blanks_36 : decode cX5_blanks 36 = .ok (.aload_n 0, 1) := by decide +kernel
theorem dX5_blanks_37 : decode cX5_blanks 37 = .ok (.dup, 1) := by decide +kernel
theorem dX5_blanks_38 : decode cX5_blanks 38 = .ok (.getfield 64, 3) := by decide +kernel
theorem dX5_blanks_41 : decode cX5_blanks 41 = .ok (.iconst 1, 1) := by decide +kernel
theorem dX5_blanks_42 : decode cX5_blanks 42 = .ok (.iadd, 1) := by decide +kernel
theorem dX5_blanks_43 : decode cX5_blanks 43 = .ok (.putfield 64, 3) := by decide +kernel
theorem dX5_blanks_46 : decode cX5_blanks 46 = .ok (.goto (-46), 3) := by decide +kernel
theorem dX5_blanks_49 : decode cX5_blanks 49 = .ok (.return_, 1) := by decide +kernel
theorem dX5_stuck_0 : decode cX5_stuck 0 = .ok (.aload_n 0, 1) := by decide +kernel
theorem dX5_stuck_1 : decode cX5_stuck 1 = .ok (.iconst 1, 1) := by decide +kernel
theorem dX5_stuck_2 : decode cX5_stuck 2 = .ok (.aload_n 0, 1) := by decide +kernel
theorem dX5_stuck_3 : decode cX5_stuck 3 = .ok (.getfield 64, 3) := by decide +kernel
theorem dX5_stuck_6 : decode cX5_stuck 6 = .ok (.invokevirtual 90, 3) := by decide +kernel
theorem dX5_stuck_9 : decode cX5_stuck 9 = .ok (.ireturn, 1) := by decide +kernel
theorem dX5_isDigit_0 : decode cX5_isDigit 0 = .ok (.iload_n 1, 1) := by decide +kernel
theorem dX5_isDigit_1 : decode cX5_isDigit 1 = .ok (.bipush 48, 2) := by decide +kernel
theorem dX5_isDigit_3 : decode cX5_isDigit 3 = .ok (.if_icmp .lt 13, 3) := by decide +kernel
theorem dX5_isDigit_6 : decode cX5_isDigit 6 = .ok (.iload_n 1, 1) := by decide +kernel
theorem dX5_isDigit_7 : decode cX5_isDigit 7 = .ok (.bipush 57, 2) := by decide +kernel
theorem dX5_isDigit_9 : decode cX5_isDigit 9 = .ok (.if_icmp .gt 7, 3) := by decide +kernel
theorem dX5_isDigit_12 : decode cX5_isDigit 12 = .ok (.iconst 1, 1) := by decide +kernel
theorem dX5_isDigit_13 : decode cX5_isDigit 13 = .ok (.goto 4, 3) := by decide +kernel
theorem dX5_isDigit_16 : decode cX5_isDigit 16 = .ok (.iconst 0, 1) := by decide +kernel
theorem dX5_isDigit_17 : decode cX5_isDigit 17 = .ok (.ireturn, 1) := by decide +kernel
theorem dX5_digits_0 : decode cX5_digits 0 = .ok (.aload_n 0, 1) := by decide +kernel
theorem dX5_digits_1 : decode cX5_digits 1 = .ok (.aload_n 0, 1) := by decide +kernel
theorem dX5_digits_2 : decode cX5_digits 2 = .ok (.invokevirtual 86, 3) := by decide +kernel
theorem dX5_digits_5 : decode cX5_digits 5 = .ok (.invokevirtual 94, 3) := by decide +kernel
theorem dX5_digits_8 : decode cX5_digits 8 = .ok (.ifCond .ne 8, 3) := by decide +kernel
theorem dX5_digits_11 : decode cX5_digits 11 = .ok (.aload_n 0, 1) := by decide +kernel
theorem dX5_digits_12 : decode cX5_digits 12 = .ok (.invokevirtual 98, 3) := by decide +kernel
theorem dX5_digits_15 : decode cX5_digits 15 = .ok (.ireturn, 1) := by decide +kernel
theorem dX5_digits_16 : decode cX5_digits 16 = .ok (.aload_n 0, 1) := by decide +kernel
theorem dX5_digits_17 : decode cX5_digits 17 = .ok (.aload_n 0, 1) := by decide +kernel
theorem dX5_digits_18 : decode cX5_digits 18 = .ok (.invokevirtual 86, 3) := by decide +kernel
theorem dX5_digits_21 : decode cX5_digits 21 = .ok (.invokevirtual 94, 3) := by decide +kernel
theorem dX5_digits_24 : decode cX5_digits 24 = .ok (.ifCond .eq 16, 3) := by decide +kernel
theorem dX5_digits_27 : decode cX5_digits 27 = .ok (.aload_n 0, 1) := by decide +kernel
theorem dX5_digits_28 : decode cX5_digits 28 = .ok (.dup, 1) := by decide +kernel
theorem dX5_digits_29 : decode cX5_digits 29 = .ok (.getfield 64, 3) := by decide +kernel
theorem dX5_digits_32 : decode cX5_digits 32 = .ok (.iconst 1, 1) := by decide +kernel
theorem dX5_digits_33 : decode cX5_digits 33 = .ok (.iadd, 1) := by decide +kernel
theorem dX5_digits_34 : decode cX5_digits 34 = .ok (.putfield 64, 3) := by decide +kernel
theorem dX5_digits_37 : decode cX5_digits 37 = .ok (.goto (-21), 3) := by decide +kernel
theorem dX5_digits_40 : decode cX5_digits 40 = .ok (.iconst 1, 1) := by decide +kernel
theorem dX5_digits_41 : decode cX5_digits 41 = .ok (.ireturn, 1) := by decide +kernel
theorem dX5_number_0 : decode cX5_number 0 = .ok (.aload_n 0, 1) := by decide +kernel
theorem dX5_number_1 : decode cX5_number 1 = .ok (.getfield 64, 3) := by decide +kernel
theorem dX5_number_4 : decode cX5_number 4 = .ok (.istore_n 1, 1) := by decide +kernel
theorem dX5_number_5 : decode cX5_number 5 = .ok (.aload_n 0, 1) := by decide +kernel
theorem dX5_number_6 : decode cX5_number 6 = .ok (.invokevirtual 86, 3) := by decide +kernel
theorem dX5_number_9 : decode cX5_number 9 = .ok (.bipush 45, 2) := by decide +kernel
theorem dX5_number_11 : decode cX5_number 11 = .ok (.if_icmp .ne 7, 3) := by decide +kernel
theorem dX5_number_14 : decode cX5_number 14 = .ok (.iconst 1, 1) := by decide +kernel
theorem dX5_number_15 : decode cX5_number 15 = .ok (.goto 4, 3) := by decide +kernel
theorem dX5_number_18 : decode cX5_number 18 = .ok (.iconst 0, 1) := by decide +kernel
theorem dX5_number_19 : decode cX5_number 19 = .ok (.istore_n 2, 1) := by decide +kernel
theorem dX5_number_20 : decode cX5_number 20 = .ok (.iload_n 2, 1) := by decide +kernel
theorem dX5_number_21 : decode cX5_number 21 = .ok (.ifCond .eq 13, 3) := by decide +kernel
theorem dX5_number_24 : decode cX5_number 24 = .ok (.aload_n 0, 1) := by decide +kernel
theorem dX5_number_25 : decode cX5_number 25 = .ok (.dup, 1) := by decide +kernel
theorem dX5_number_26 : decode cX5_number 26 = .ok (.getfield 64, 3) := by decide +kernel
theorem dX5_number_29 : decode cX5_number 29 = .ok (.iconst 1, 1) := by decide +kernel
theorem dX5_number_30 : decode cX5_number 30 = .ok (.iadd, 1) := by decide +kernel
theorem dX5_number_31 : decode cX5_number 31 = .ok (.putfield 64, 3) := by decide +kernel
theorem dX5_number_34 : decode cX5_number 34 = .ok (.aload_n 0, 1) := by decide +kernel
theorem dX5_number_35 : decode cX5_number 35 = .ok (.getfield 64, 3) := by decide +kernel
theorem dX5_number_38 : decode cX5_number 38 = .ok (.istore_n 3, 1) := by decide +kernel
theorem dX5_number_39 : decode cX5_number 39 = .ok (.aload_n 0, 1) := by decide +kernel
theorem dX5_number_40 : decode cX5_number 40 = .ok (.invokevirtual 86, 3) := by decide +kernel
theorem dX5_number_43 : decode cX5_number 43 = .ok (.bipush 48, 2) := by decide +kernel
theorem dX5_number_45 : decode cX5_number 45 = .ok (.if_icmp .ne 16, 3) := by decide +kernel
theorem dX5_number_48 : decode cX5_number 48 = .ok (.aload_n 0, 1) := by decide +kernel
theorem dX5_number_49 : decode cX5_number 49 = .ok (.dup, 1) := by decide +kernel
theorem dX5_number_50 : decode cX5_number 50 = .ok (.getfield 64, 3) := by decide +kernel
theorem dX5_number_53 : decode cX5_number 53 = .ok (.iconst 1, 1) := by decide +kernel
theorem dX5_number_54 : decode cX5_number 54 = .ok (.iadd, 1) := by decide +kernel
theorem dX5_number_55 : decode cX5_number 55 = .ok (.putfield 64, 3) := by decide +kernel
theorem dX5_number_58 : decode cX5_number 58 = .ok (.goto 12, 3) := by decide +kernel
theorem dX5_number_61 : decode cX5_number 61 = .ok (.aload_n 0, 1) := by decide +kernel
theorem dX5_number_62 : decode cX5_number 62 = .ok (.invokevirtual 102, 3) := by decide +kernel
theorem dX5_number_65 : decode cX5_number 65 = .ok (.ifCond .ne 5, 3) := by decide +kernel
theorem dX5_number_68 : decode cX5_number 68 = .ok (.iconst 0, 1) := by decide +kernel
theorem dX5_number_69 : decode cX5_number 69 = .ok (.ireturn, 1) := by decide +kernel
theorem dX5_number_70 : decode cX5_number 70 = .ok (.aload_n 0, 1) := by decide +kernel
theorem dX5_number_71 : decode cX5_number 71 = .ok (.getfield 64, 3) := by decide +kernel
theorem dX5_number_74 : decode cX5_number 74 = .ok (.istore 4, 2) := by decide +kernel
theorem dX5_number_76 : decode cX5_number 76 = .ok (.iconst 1, 1) := by decide +kernel
theorem dX5_number_77 : decode cX5_number 77 = .ok (.istore 5, 2) := by decide +kernel
theorem dX5_number_79 : decode cX5_number 79 = .ok (.aload_n 0, 1) := by decide +kernel
theorem dX5_number_80 : decode cX5_number 80 = .ok (.invokevirtual 86, 3) := by decide +kernel
theorem dX5_number_83 : decode cX5_number 83 = .ok (.bipush 46, 2) := by decide +kernel
theorem dX5_number_85 : decode cX5_number 85 = .ok (.if_icmp .ne 25, 3) := by decide +kernel
theorem dX5_number_88 : decode cX5_number 88 = .ok (.iconst 0, 1) := by decide +kernel
theorem dX5_number_89 : decode cX5_number 89 = .ok (.istore 5, 2) := by decide +kernel
theorem dX5_number_91 : decode cX5_number 91 = .ok (.aload_n 0, 1) := by decide +kernel
theorem dX5_number_92 : decode cX5_number 92 = .ok (.dup, 1) := by decide +kernel
theorem dX5_number_93 : decode cX5_number 93 = .ok (.getfield 64, 3) := by decide +kernel
theorem dX5_number_96 : decode cX5_number 96 = .ok (.iconst 1, 1) := by decide +kernel
theorem dX5_number_97 : decode cX5_number 97 = .ok (.iadd, 1) := by decide +kernel
theorem dX5_number_98 : decode cX5_number 98 = .ok (.putfield 64, 3) := by decide +kernel
theorem dX5_number_101 : decode cX5_number 101 = .ok (.aload_n 0, 1) := by decide +kernel
theorem dX5_number_102 : decode cX5_number 102 = .ok (.invokevirtual 102, 3) := by decide +kernel
theorem dX5_number_105 : decode cX5_number 105 = .ok (.ifCond .ne 5, 3) := by decide +kernel
theorem dX5_number_108 : decode cX5_number 108 = .ok (.iconst 0, 1) := by decide +kernel
theorem dX5_number_109 : decode cX5_number 109 = .ok (.ireturn, 1) := by decide +kernel
theorem dX5_number_110 : decode cX5_number 110 = .ok (.aload_n 0, 1) := by decide +kernel
theorem dX5_number_111 : decode cX5_number 111 = .ok (.invokevirtual 86, 3) := by decide +kernel
theorem dX5_number_114 : decode cX5_number 114 = .ok (.bipush 101, 2) := by decide +kernel
theorem dX5_number_116 : decode cX5_number 116 = .ok (.if_icmp .eq 12, 3) := by decide +kernel
theorem dX5_number_119 : decode cX5_number 119 = .ok (.aload_n 0, 1) := by decide +kernel
theorem dX5_number_120 : decode cX5_number 120 = .ok (.invokevirtual 86, 3) := by decide +kernel
theorem dX5_number_123 : decode cX5_number 123 = .ok (.bipush 69, 2) := by decide +kernel
theorem dX5_number_125 : decode cX5_number 125 = .ok (.if_icmp .ne 53, 3) := by decide +kernel
theorem dX5_number_128 : decode cX5_number 128 = .ok (.iconst 0, 1) := by decide +kernel
theorem dX5_number_129 : decode cX5_number 129 = .ok (.istore 5, 2) := by decide +kernel
theorem dX5_number_131 : decode cX5_number 131 = .ok (.aload_n 0, 1) := by decide +kernel
theorem dX5_number_132 : decode cX5_number 132 = .ok (.dup, 1) := by decide +kernel
theorem dX5_number_133 : decode cX5_number 133 = .ok (.getfield 64, 3) := by decide +kernel
theorem dX5_number_136 : decode cX5_number 136 = .ok (.iconst 1, 1) := by decide +kernel
theorem dX5_number_137 : decode cX5_number 137 = .ok (.iadd, 1) := by decide +kernel
theorem dX5_number_138 : decode cX5_number 138 = .ok (.putfield 64, 3) := by decide +kernel
theorem dX5_number_141 : decode cX5_number 141 = .ok (.aload_n 0, 1) := by decide +kernel
theorem dX5_number_142 : decode cX5_number 142 = .ok (.invokevirtual 86, 3) := by decide +kernel
theorem dX5_number_145 : decode cX5_number 145 = .ok (.bipush 43, 2) := by decide +kernel
theorem dX5_number_147 : decode cX5_number 147 = .ok (.if_icmp .eq 12, 3) := by decide +kernel
theorem dX5_number_150 : decode cX5_number 150 = .ok (.aload_n 0, 1) := by decide +kernel
theorem dX5_number_151 : decode cX5_number 151 = .ok (.invokevirtual 86, 3) := by decide +kernel
theorem dX5_number_154 : decode cX5_number 154 = .ok (.bipush 45, 2) := by decide +kernel
theorem dX5_number_156 : decode cX5_number 156 = .ok (.if_icmp .ne 13, 3) := by decide +kernel
theorem dX5_number_159 : decode cX5_number 159 = .ok (.aload_n 0, 1) := by decide +kernel
theorem dX5_number_160 : decode cX5_number 160 = .ok (.dup, 1) := by decide +kernel
theorem dX5_number_161 : decode cX5_number 161 = .ok (.getfield 64, 3) := by decide +kernel
theorem dX5_number_164 : decode cX5_number 164 = .ok (.iconst 1, 1) := by decide +kernel
theorem dX5_number_165 : decode cX5_number 165 = .ok (.iadd, 1) := by decide +kernel
theorem dX5_number_166 : decode cX5_number 166 = .ok (.putfield 64, 3) := by decide +kernel
theorem dX5_number_169 : decode cX5_number 169 = .ok (.aload_n 0, 1) := by decide +kernel
theorem dX5_number_170 : decode cX5_number 170 = .ok (.invokevirtual 102, 3) := by decide +kernel
theorem dX5_number_173 : decode cX5_number 173 = .ok (.ifCond .ne 5, 3) := by decide +kernel
theorem dX5_number_176 : decode cX5_number 176 = .ok (.iconst 0, 1) := by decide +kernel
theorem dX5_number_177 : decode cX5_number 177 = .ok (.ireturn, 1) := by decide +kernel
theorem dX5_number_178 : decode cX5_number 178 = .ok (.iload 5, 2) := by decide +kernel
theorem dX5_number_180 : decode cX5_number 180 = .ok (.ifCond .eq 14, 3) := by decide +kernel
theorem dX5_number_183 : decode cX5_number 183 = .ok (.aload_n 0, 1) := by decide +kernel
theorem dX5_number_184 : decode cX5_number 184 = .ok (.iload_n 3, 1) := by decide +kernel
theorem dX5_number_185 : decode cX5_number 185 = .ok (.iload 4, 2) := by decide +kernel
theorem dX5_number_187 : decode cX5_number 187 = .ok (.iload_n 2, 1) := by decide +kernel
theorem dX5_number_188 : decode cX5_number 188 = .ok (.invokevirtual 105, 3) := by decide +kernel
theorem dX5_number_191 : decode cX5_number 191 = .ok (.ifCond .ne 12, 3) := by decide +kernel
theorem dX5_number_194 : decode cX5_number 194 = .ok (.aload_n 0, 1) := by decide +kernel
theorem dX5_number_195 : decode cX5_number 195 = .ok (.iconst 3, 1) := by decide +kernel
theorem dX5_number_196 : decode cX5_number 196 = .ok (.iload_n 1, 1) := by decide +kernel
theorem dX5_number_197 : decode cX5_number 197 = .ok (.invokevirtual 90, 3) := by decide +kernel
theorem dX5_number_200 : decode cX5_number 200 = .ok (.ifCond .eq 7, 3) := by decide +kernel
theorem dX5_number_203 : decode cX5_number 203 = .ok (.iconst 1, 1) := by decide +kernel
theorem dX5_number_204 : decode cX5_number 204 = .ok (.goto 4, 3) := by decide +kernel
theorem dX5_number_207 : decode cX5_number 207 = .ok (.iconst 0, 1) := by decide +kernel
theorem dX5_number_208 : decode cX5_number 208 = .ok (.ireturn, 1) := by decide +kernel
theorem dX5_order_0 : decode cX5_order 0 = .ok (.iload_n 2, 1) := by decide +kernel
theorem dX5_order_1 : decode cX5_order 1 = .ok (.iload_n 1, 1) := by decide +kernel
theorem dX5_order_2 : decode cX5_order 2 = .ok (.isub, 1) := by decide +kernel
theorem dX5_order_3 : decode cX5_order 3 = .ok (.istore_n 3, 1) := by decide +kernel
theorem dX5_order_4 : decode cX5_order 4 = .ok (.iload_n 3, 1) := by decide +kernel
theorem dX5_order_5 : decode cX5_order 5 = .ok (.bipush 20, 2) := by decide +kernel
theorem dX5_order_7 : decode cX5_order 7 = .ok (.if_icmp .eq 15, 3) := by decide +kernel
theorem dX5_order_10 : decode cX5_order 10 = .ok (.iload_n 3, 1) := by decide +kernel
theorem dX5_order_11 : decode cX5_order 11 = .ok (.bipush 20, 2) := by decide +kernel
theorem dX5_order_13 : decode cX5_order 13 = .ok (.if_icmp .ge 7, 3) := by decide +kernel
theorem dX5_order_16 : decode cX5_order 16 = .ok (.iconst (-1), 1) := by decide +kernel
theorem dX5_order_17 : decode cX5_order 17 = .ok (.goto 4, 3) := by decide +kernel
theorem dX5_order_20 : decode cX5_order 20 = .ok (.iconst 1, 1) := by decide +kernel
theorem dX5_order_21 : decode cX5_order 21 = .ok (.ireturn, 1) := by decide +kernel
theorem dX5_order_22 : decode cX5_order 22 = .ok (.iconst 0, 1) := by decide +kernel
theorem dX5_order_23 : decode cX5_order 23 = .ok (.istore 4, 2) := by decide +kernel
theorem dX5_order_25 : decode cX5_order 25 = .ok (.iload 4, 2) := by decide +kernel
theorem dX5_order_27 : decode cX5_order 27 = .ok (.bipush 20, 2) := by decide +kernel
theorem dX5_order_29 : decode cX5_order 29 = .ok (.if_icmp .ge 52, 3) := by decide +kernel
theorem dX5_order_32 : decode cX5_order 32 = .ok (.ldc 109, 2) := by decide +kernel
theorem dX5_order_34 : decode cX5_order 34 = .ok (.iload 4, 2) := by decide +kernel
theorem dX5_order_36 : decode cX5_order 36 = .ok (.invokevirtual 111, 3) := by decide +kernel
theorem dX5_order_39 : decode cX5_order 39 = .ok (.istore 5, 2) := by decide +kernel
theorem dX5_order_41 : decode cX5_order 41 = .ok (.aload_n 0, 1) := by decide +kernel
theorem dX5_order_42 : decode cX5_order 42 = .ok (.getfield 7, 3) := by decide +kernel
theorem dX5_order_45 : decode cX5_order 45 = .ok (.iload_n 1, 1) := by decide +kernel
theorem dX5_order_46 : decode cX5_order 46 = .ok (.iload 4, 2) := by decide +kernel
theorem dX5_order_48 : decode cX5_order 48 = .ok (.iadd, 1) := by decide +kernel
theorem dX5_order_49 : decode cX5_order 49 = .ok (.iaload, 1) := by decide +kernel
theorem dX5_order_50 : decode cX5_order 50 = .ok (.iload 5, 2) := by decide +kernel
theorem dX5_order_52 : decode cX5_order 52 = .ok (.if_icmp .eq 23, 3) := by decide +kernel
theorem dX5_order_55 : decode cX5_order 55 = .ok (.aload_n 0, 1) := by decide +kernel
theorem dX5_order_56 : decode cX5_order 56 = .ok (.getfield 7, 3) := by decide +kernel
theorem dX5_order_59 : decode cX5_order 59 = .ok (.iload_n 1, 1) := by decide +kernel
theorem dX5_order_60 : decode cX5_order 60 = .ok (.iload 4, 2) := by decide +kernel
theorem dX5_order_62 : decode cX5_order 62 = .ok (.iadd, 1) := by decide +kernel
theorem dX5_order_63 : decode cX5_order 63 = .ok (.iaload, 1) := by decide +kernel
theorem dX5_order_64 : decode cX5_order 64 = .ok (.iload 5, 2) := by decide +kernel
theorem dX5_order_66 : decode cX5_order 66 = .ok (.if_icmp .ge 7, 3) := by decide +kernel
theorem dX5_order_69 : decode cX5_order 69 = .ok (.iconst (-1), 1) := by decide +kernel
theorem dX5_order_70 : decode cX5_order 70 = .ok (.goto 4, 3) := by decide +kernel
theorem dX5_order_73 : decode cX5_order 73 = .ok (.iconst 1, 1) := by decide +kernel
theorem dX5_order_74 : decode cX5_order 74 = .ok (.ireturn, 1) := by decide +kernel
theorem dX5_order_75 : decode cX5_order 75 = .ok (.iinc 4 1, 3) := by decide +kernel
theorem dX5_order_78 : decode cX5_order 78 = .ok (.goto (-53), 3) := by decide +kernel
theorem dX5_order_81 : decode cX5_order 81 = .ok (.iconst 0, 1) := by decide +kernel
theorem dX5_order_82 : decode cX5_order 82 = .ok (.ireturn, 1) := by decide +kernel
theorem dX5_whole_0 : decode cX5_whole 0 = .ok (.aload_n 0, 1) := by decide +kernel
theorem dX5_whole_1 : decode cX5_whole 1 = .ok (.iload_n 1, 1) := by decide +kernel
theorem dX5_whole_2 : decode cX5_whole 2 = .ok (.iload_n 2, 1) := by decide +kernel
theorem dX5_whole_3 : decode cX5_whole 3 = .ok (.invokevirtual 117, 3) := by decide +kernel
theorem dX5_whole_6 : decode cX5_whole 6 = .ok (.istore 4, 2) := by decide +kernel
theorem dX5_whole_8 : decode cX5_whole 8 = .ok (.iload 4, 2) := by decide +kernel
theorem dX5_whole_10 : decode cX5_whole 10 = .ok (.ifCond .gt 12, 3) := by decide +kernel
theorem dX5_whole_13 : decode cX5_whole 13 = .ok (.iload 4, 2) := by decide +kernel
theorem dX5_whole_15 : decode cX5_whole 15 = .ok (.ifCond .ne 9, 3) := by decide +kernel
theorem dX5_whole_18 : decode cX5_whole 18 = .ok (.iload_n 3, 1) := by decide +kernel
theorem dX5_whole_19 : decode cX5_whole 19 = .ok (.ifCond .ne 5, 3) := by decide +kernel
theorem dX5_whole_22 : decode cX5_whole 22 = .ok (.iconst 0, 1) := by decide +kernel
theorem dX5_whole_23 : decode cX5_whole 23 = .ok (.ireturn, 1) := by decide +kernel
theorem dX5_whole_24 : decode cX5_whole 24 = .ok (.lconst 0, 1) := by decide +kernel
theorem dX5_whole_25 : decode cX5_whole 25 = .ok (.lstore 5, 2) := by decide +kernel
theorem dX5_whole_27 : decode cX5_whole 27 = .ok (.iload_n 1, 1) := by decide +kernel
theorem dX5_whole_28 : decode cX5_whole 28 = .ok (.istore 7, 2) := by decide +kernel
theorem dX5_whole_30 : decode cX5_whole 30 = .ok (.iload 7, 2) := by decide +kernel
theorem dX5_whole_32 : decode cX5_whole 32 = .ok (.iload_n 2, 1) := by decide +kernel
theorem dX5_whole_33 : decode cX5_whole 33 = .ok (.if_icmp .ge 30, 3) := by decide +kernel
theorem dX5_whole_36 : decode cX5_whole 36 = .ok (.ldc2_w 121, 3) := by decide +kernel
theorem dX5_whole_39 : decode cX5_whole 39 = .ok (.lload 5, 2) := by decide +kernel
theorem dX5_whole_41 : decode cX5_whole 41 = .ok (.lmul, 1) := by decide +kernel
theorem dX5_whole_42 : decode cX5_whole 42 = .ok (.aload_n 0, 1) := by decide +kernel
theorem dX5_whole_43 : decode cX5_whole 43 = .ok (.getfield 7, 3) := by decide +kernel
theorem dX5_whole_46 : decode cX5_whole 46 = .ok (.iload 7, 2) := by decide +kernel
theorem dX5_whole_48 : decode cX5_whole 48 = .ok (.iaload, 1) := by decide +kernel
theorem dX5_whole_49 : decode cX5_whole 49 = .ok (.i2l, 1) := by decide +kernel
theorem dX5_whole_50 : decode cX5_whole 50 = .ok (.ladd, 1) := by decide +kernel
theorem dX5_whole_51 : decode cX5_whole 51 = .ok (.ldc2_w 123, 3) := by decide +kernel
theorem dX5_whole_54 : decode cX5_whole 54 = .ok (.lsub, 1) := by decide +kernel
theorem dX5_whole_55 : decode cX5_whole 55 = .ok (.lstore 5, 2) := by decide +kernel
theorem dX5_whole_57 : decode cX5_whole 57 = .ok (.iinc 7 1, 3) := by decide +kernel
theorem dX5_whole_60 : decode cX5_whole 60 = .ok (.goto (-30), 3) := by decide +kernel
theorem dX5_whole_63 : decode cX5_whole 63 = .ok (.iload_n 3, 1) := by decide +kernel
theorem dX5_whole_64 : decode cX5_whole 64 = .ok (.ifCond .eq 28, 3) := by decide +kernel
theorem dX5_whole_67 : decode cX5_whole 67 = .ok (.lload 5, 2) := by decide +kernel
theorem dX5_whole_69 : decode cX5_whole 69 = .ok (.lconst 0, 1) := by decide +kernel
theorem dX5_whole_70 : decode cX5_whole 70 = .ok (.lcmp, 1) := by decide +kernel
theorem dX5_whole_71 : decode cX5_whole 71 = .ok (.ifCond .ne 8, 3) := by decide +kernel
theorem dX5_whole_74 : decode cX5_whole 74 = .ok (.iload 4, 2) := by decide +kernel
theorem dX5_whole_76 : decode cX5_whole 76 = .ok (.ifCond .ne 16, 3) := by decide +kernel
theorem dX5_whole_79 : decode cX5_whole 79 = .ok (.aload_n 0, 1) := by decide +kernel
theorem dX5_whole_80 : decode cX5_whole 80 = .ok (.iconst 1, 1) := by decide +kernel
theorem dX5_whole_81 : decode cX5_whole 81 = .ok (.lload 5, 2) := by decide +kernel
theorem dX5_whole_83 : decode cX5_whole 83 = .ok (.lconst 1, 1) := by decide +kernel
theorem dX5_whole_84 : decode cX5_whole 84 = .ok (.lsub, 1) := by decide +kernel
theorem dX5_whole_85 : decode cX5_whole 85 = .ok (.invokevirtual 125, 3) := by decide +kernel
theorem dX5_whole_88 : decode cX5_whole 88 = .ok (.pop, 1) := by decide +kernel
theorem dX5_whole_89 : decode cX5_whole 89 = .ok (.goto 11, 3) := by decide +kernel
theorem dX5_whole_92 : decode cX5_whole 92 = .ok (.aload_n 0, 1) := by decide +kernel
theorem dX5_whole_93 : decode cX5_whole 93 = .ok (.iconst 0, 1) := by decide +kernel
theorem dX5_whole_94 : decode cX5_whole 94 = .ok (.lload 5, 2) := by decide +kernel
theorem dX5_whole_96 : decode cX5_whole 96 = .ok (.invokevirtual 125, 3) := by decide +kernel
theorem dX5_whole_99 : decode cX5_whole 99 = .ok (.pop, 1) := by decide +kernel
theorem dX5_whole_100 : decode cX5_whole 100 = .ok (.iconst 1, 1) := by decide +kernel
theorem dX5_whole_101 : decode cX5_whole 101 = .ok (.ireturn, 1) := by decide +kernel
theorem dX5_hexOf_0 : decode cX5_hexOf 0 = .ok (.iload_n 0, 1) := by decide +kernel
theorem dX5_hexOf_1 : decode cX5_hexOf 1 = .ok (.bipush 48, 2) := by decide +kernel
theorem dX5_hexOf_3 : decode cX5_hexOf 3 = .ok (.if_icmp .lt 16, 3) := by decide +kernel
theorem dX5_hexOf_6 : decode cX5_hexOf 6 = .ok (.iload_n 0, 1) := by decide +kernel
theorem dX5_hexOf_7 : decode cX5_hexOf 7 = .ok (.bipush 57, 2) := by decide +kernel
theorem dX5_hexOf_9 : decode cX5_hexOf 9 = .ok (.if_icmp .gt 10, 3) := by decide +kernel
theorem dX5_hexOf_12 : decode cX5_hexOf 12 = .ok (.iload_n 0, 1) := by decide +kernel
theorem dX5_hexOf_13 : decode cX5_hexOf 13 = .ok (.bipush 48, 2) := by decide +kernel
theorem dX5_hexOf_15 : decode cX5_hexOf 15 = .ok (.isub, 1) := by decide +kernel
theorem dX5_hexOf_16 : decode cX5_hexOf 16 = .ok (.goto 48, 3) := by decide +kernel
theorem dX5_hexOf_19 : decode cX5_hexOf 19 = .ok (.iload_n 0, 1) := by decide +kernel
theorem dX5_hexOf_20 : decode cX5_hexOf 20 = .ok (.bipush 97, 2) := by decide +kernel
theorem dX5_hexOf_22 : decode cX5_hexOf 22 = .ok (.if_icmp .lt 19, 3) := by decide +kernel
theorem dX5_hexOf_25 : decode cX5_hexOf 25 = .ok (.iload_n 0, 1) := by decide +kernel
theorem dX5_hexOf_26 : decode cX5_hexOf 26 = .ok (.bipush 102, 2) := by decide +kernel
theorem dX5_hexOf_28 : decode cX5_hexOf 28 = .ok (.if_icmp .gt 13, 3) := by decide +kernel
theorem dX5_hexOf_31 : decode cX5_hexOf 31 = .ok (.iload_n 0, 1) := by decide +kernel
theorem dX5_hexOf_32 : decode cX5_hexOf 32 = .ok (.bipush 97, 2) := by decide +kernel
theorem dX5_hexOf_34 : decode cX5_hexOf 34 = .ok (.isub, 1) := by decide +kernel
theorem dX5_hexOf_35 : decode cX5_hexOf 35 = .ok (.bipush 10, 2) := by decide +kernel
theorem dX5_hexOf_37 : decode cX5_hexOf 37 = .ok (.iadd, 1) := by decide +kernel
theorem dX5_hexOf_38 : decode cX5_hexOf 38 = .ok (.goto 26, 3) := by decide +kernel
theorem dX5_hexOf_41 : decode cX5_hexOf 41 = .ok (.iload_n 0, 1) := by decide +kernel
theorem dX5_hexOf_42 : decode cX5_hexOf 42 = .ok (.bipush 65, 2) := by decide +kernel
theorem dX5_hexOf_44 : decode cX5_hexOf 44 = .ok (.if_icmp .lt 19, 3) := by decide +kernel
theorem dX5_hexOf_47 : decode cX5_hexOf 47 = .ok (.iload_n 0, 1) := by decide +kernel
theorem dX5_hexOf_48 : decode cX5_hexOf 48 = .ok (.bipush 70, 2) := by decide +kernel
theorem dX5_hexOf_50 : decode cX5_hexOf 50 = .ok (.if_icmp .gt 13, 3) := by decide +kernel
theorem dX5_hexOf_53 : decode cX5_hexOf 53 = .ok (.iload_n 0, 1) := by decide +kernel
theorem dX5_hexOf_54 : decode cX5_hexOf 54 = .ok (.bipush 65, 2) := by decide +kernel
theorem dX5_hexOf_56 : decode cX5_hexOf 56 = .ok (.isub, 1) := by decide +kernel
theorem dX5_hexOf_57 : decode cX5_hexOf 57 = .ok (.bipush 10, 2) := by decide +kernel
theorem dX5_hexOf_59 : decode cX5_hexOf 59 = .ok (.iadd, 1) := by decide +kernel
theorem dX5_hexOf_60 : decode cX5_hexOf 60 = .ok (.goto 4, 3) := by decide +kernel
theorem dX5_hexOf_63 : decode cX5_hexOf 63 = .ok (.iconst (-1), 1) := by decide +kernel
theorem dX5_hexOf_64 : decode cX5_hexOf 64 = .ok (.ireturn, 1) := by decide +kernel
theorem dX5_four_0 : decode cX5_four 0 = .ok (.iconst 0, 1) := by decide +kernel
theorem dX5_four_1 : decode cX5_four 1 = .ok (.istore_n 2, 1) := by decide +kernel
theorem dX5_four_2 : decode cX5_four 2 = .ok (.iconst 0, 1) := by decide +kernel
theorem dX5_four_3 : decode cX5_four 3 = .ok (.istore_n 3, 1) := by decide +kernel
theorem dX5_four_4 : decode cX5_four 4 = .ok (.iload_n 3, 1) := by decide +kernel
theorem dX5_four_5 : decode cX5_four 5 = .ok (.iconst 4, 1) := by decide +kernel
theorem dX5_four_6 : decode cX5_four 6 = .ok (.if_icmp .ge 51, 3) := by decide +kernel
theorem dX5_four_9 : decode cX5_four 9 = .ok (.iload_n 1, 1) := by decide +kernel
theorem dX5_four_10 : decode cX5_four 10 = .ok (.iload_n 3, 1) := by decide +kernel
theorem dX5_four_11 : decode cX5_four 11 = .ok (.iadd, 1) := by decide +kernel
theorem dX5_four_12 : decode cX5_four 12 = .ok (.aload_n 0, 1) := by decide +kernel
theorem dX5_four_13 : decode cX5_four 13 = .ok (.getfield 55, 3) := by decide +kernel
theorem dX5_four_16 : decode cX5_four 16 = .ok (.if_icmp .ge 17, 3) := by decide +kernel
theorem dX5_four_19 : decode cX5_four 19 = .ok (.aload_n 0, 1) := by decide +kernel
theorem dX5_four_20 : decode cX5_four 20 = .ok (.getfield 7, 3) := by decide +kernel
theorem dX5_four_23 : decode cX5_four 23 = .ok (.iload_n 1, 1) := by decide +kernel
theorem dX5_four_24 : decode cX5_four 24 = .ok (.iload_n 3, 1) := by decide +kernel
theorem dX5_four_25 : decode cX5_four 25 = .ok (.iadd, 1) := by decide +kernel
theorem dX5_four_26 : decode cX5_four 26 = .ok (.iaload, 1) := by decide +kernel
theorem dX5_four_27 : decode cX5_four 27 = .ok (.invokestatic 129, 3) := by decide +kernel
theorem dX5_four_30 : decode cX5_four 30 = .ok (.goto 4, 3) := by decide +kernel
theorem dX5_four_33 : decode cX5_four 33 = .ok (.iconst (-1), 1) := by decide +kernel
theorem dX5_four_34 : decode cX5_four 34 = .ok (.istore 4, 2) := by decide +kernel
theorem dX5_four_36 : decode cX5_four 36 = .ok (.iload 4, 2) := by decide +kernel
theorem dX5_four_38 : decode cX5_four 38 = .ok (.ifCond .ge 5, 3) := by decide +kernel
theorem dX5_four_41 : decode cX5_four 41 = .ok (.iconst (-1), 1) := by decide +kernel
theorem dX5_four_42 : decode cX5_four 42 = .ok (.ireturn, 1) := by decide +kernel
