theorem dX2_init_0 : decode cX2_init 0 = .ok (.aload_n 0, 1) := by decide +kernel
theorem dX2_init_1 : decode cX2_init 1 = .ok (.invokespecial 3, 3) := by decide +kernel
theorem dX2_init_4 : decode cX2_init 4 = .ok (.aload_n 0, 1) := by decide +kernel
theorem dX2_init_5 : decode cX2_init 5 = .ok (.aload_n 1, 1) := by decide +kernel
theorem dX2_init_6 : decode cX2_init 6 = .ok (.putfield 9, 3) := by decide +kernel
theorem dX2_init_9 : decode cX2_init 9 = .ok (.aload_n 0, 1) := by decide +kernel
theorem dX2_init_10 : decode cX2_init 10 = .ok (.aload_n 2, 1) := by decide +kernel
theorem dX2_init_11 : decode cX2_init 11 = .ok (.putfield 15, 3) := by decide +kernel
theorem dX2_init_14 : decode cX2_init 14 = .ok (.aload_n 0, 1) := by decide +kernel
theorem dX2_init_15 : decode cX2_init 15 = .ok (.iload_n 3, 1) := by decide +kernel
theorem dX2_init_16 : decode cX2_init 16 = .ok (.putfield 18, 3) := by decide +kernel
theorem dX2_init_19 : decode cX2_init 19 = .ok (.aload_n 0, 1) := by decide +kernel
theorem dX2_init_20 : decode cX2_init 20 = .ok (.iconst 0, 1) := by decide +kernel
theorem dX2_init_21 : decode cX2_init 21 = .ok (.putfield 22, 3) := by decide +kernel
theorem dX2_init_24 : decode cX2_init 24 = .ok (.aload_n 0, 1) := by decide +kernel
theorem dX2_init_25 : decode cX2_init 25 = .ok (.iconst 0, 1) := by decide +kernel
theorem dX2_init_26 : decode cX2_init 26 = .ok (.putfield 25, 3) := by decide +kernel
theorem dX2_init_29 : decode cX2_init 29 = .ok (.aload_n 0, 1) := by decide +kernel
theorem dX2_init_30 : decode cX2_init 30 = .ok (.iconst (-1), 1) := by decide +kernel
theorem dX2_init_31 : decode cX2_init 31 = .ok (.putfield 28, 3) := by decide +kernel
theorem dX2_init_34 : decode cX2_init 34 = .ok (.return_, 1) := by decide +kernel
theorem dX2_refuse_0 : decode cX2_refuse 0 = .ok (.aload_n 0, 1) := by decide +kernel
theorem dX2_refuse_1 : decode cX2_refuse 1 = .ok (.iload_n 1, 1) := by decide +kernel
theorem dX2_refuse_2 : decode cX2_refuse 2 = .ok (.putfield 25, 3) := by decide +kernel
theorem dX2_refuse_5 : decode cX2_refuse 5 = .ok (.aload_n 0, 1) := by decide +kernel
theorem dX2_refuse_6 : decode cX2_refuse 6 = .ok (.iload_n 2, 1) := by decide +kernel
theorem dX2_refuse_7 : decode cX2_refuse 7 = .ok (.putfield 28, 3) := by decide +kernel
theorem dX2_refuse_10 : decode cX2_refuse 10 = .ok (.iconst 0, 1) := by decide +kernel
theorem dX2_refuse_11 : decode cX2_refuse 11 = .ok (.ireturn, 1) := by decide +kernel
theorem dX2_faultKind_0 : decode cX2_faultKind 0 = .ok (.aload_n 0, 1) := by decide +kernel
theorem dX2_faultKind_1 : decode cX2_faultKind 1 = .ok (.getfield 25, 3) := by decide +kernel
theorem dX2_faultKind_4 : decode cX2_faultKind 4 = .ok (.ireturn, 1) := by decide +kernel
theorem dX2_faultPlace_0 : decode cX2_faultPlace 0 = .ok (.aload_n 0, 1) := by decide +kernel
theorem dX2_faultPlace_1 : decode cX2_faultPlace 1 = .ok (.getfield 28, 3) := by decide +kernel
theorem dX2_faultPlace_4 : decode cX2_faultPlace 4 = .ok (.ireturn, 1) := by decide +kernel
theorem dX3_init_0 : decode cX3_init 0 = .ok (.aload_n 0, 1) := by decide +kernel
theorem dX3_init_1 : decode cX3_init 1 = .ok (.invokespecial 3, 3) := by decide +kernel
theorem dX3_init_4 : decode cX3_init 4 = .ok (.aload_n 0, 1) := by decide +kernel
theorem dX3_init_5 : decode cX3_init 5 = .ok (.iload_n 1, 1) := by decide +kernel
theorem dX3_init_6 : decode cX3_init 6 = .ok (.iconst 0, 1) := by decide +kernel
theorem dX3_init_7 : decode cX3_init 7 = .ok (.invokestatic 9, 3) := by decide +kernel
theorem dX3_init_10 : decode cX3_init 10 = .ok (.newarray .byte, 2) := by decide +kernel
theorem dX3_init_12 : decode cX3_init 12 = .ok (.putfield 15, 3) := by decide +kernel
theorem dX3_init_15 : decode cX3_init 15 = .ok (.aload_n 0, 1) := by decide +kernel
theorem dX3_init_16 : decode cX3_init 16 = .ok (.iconst 0, 1) := by decide +kernel
theorem dX3_init_17 : decode cX3_init 17 = .ok (.putfield 21, 3) := by decide +kernel
theorem dX3_init_20 : decode cX3_init 20 = .ok (.return_, 1) := by decide +kernel
theorem dX3_size_0 : decode cX3_size 0 = .ok (.aload_n 0, 1) := by decide +kernel
theorem dX3_size_1 : decode cX3_size 1 = .ok (.getfield 21, 3) := by decide +kernel
theorem dX3_size_4 : decode cX3_size 4 = .ok (.ireturn, 1) := by decide +kernel
theorem dX3_at_0 : decode cX3_at 0 = .ok (.iload_n 1, 1) := by decide +kernel
theorem dX3_at_1 : decode cX3_at 1 = .ok (.ifCond .lt 20, 3) := by decide +kernel
theorem dX3_at_4 : decode cX3_at 4 = .ok (.iload_n 1, 1) := by decide +kernel
theorem dX3_at_5 : decode cX3_at 5 = .ok (.aload_n 0, 1) := by decide +kernel
theorem dX3_at_6 : decode cX3_at 6 = .ok (.getfield 21, 3) := by decide +kernel
theorem dX3_at_9 : decode cX3_at 9 = .ok (.if_icmp .ge 12, 3) := by decide +kernel
theorem dX3_at_12 : decode cX3_at 12 = .ok (.iload_n 1, 1) := by decide +kernel
theorem dX3_at_13 : decode cX3_at 13 = .ok (.aload_n 0, 1) := by decide +kernel
theorem dX3_at_14 : decode cX3_at 14 = .ok (.getfield 15, 3) := by decide +kernel
theorem dX3_at_17 : decode cX3_at 17 = .ok (.arraylength, 1) := by decide +kernel
theorem dX3_at_18 : decode cX3_at 18 = .ok (.if_icmp .lt 5, 3) := by decide +kernel
theorem dX3_at_21 : decode cX3_at 21 = .ok (.iconst (-1), 1) := by decide +kernel
theorem dX3_at_22 : decode cX3_at 22 = .ok (.ireturn, 1) := by decide +kernel
theorem dX3_at_23 : decode cX3_at 23 = .ok (.aload_n 0, 1) := by decide +kernel
theorem dX3_at_24 : decode cX3_at 24 = .ok (.getfield 15, 3) := by decide +kernel
theorem dX3_at_27 : decode cX3_at 27 = .ok (.iload_n 1, 1) := by decide +kernel
theorem dX3_at_28 : decode cX3_at 28 = .ok (.baload, 1) := by decide +kernel
theorem dX3_at_29 : decode cX3_at 29 = .ok (.sipush 255, 3) := by decide +kernel
theorem dX3_at_32 : decode cX3_at 32 = .ok (.iand, 1) := by decide +kernel
theorem dX3_at_33 : decode cX3_at 33 = .ok (.ireturn, 1) := by decide +kernel
theorem dX3_put_0 : decode cX3_put 0 = .ok (.aload_n 0, 1) := by decide +kernel
theorem dX3_put_1 : decode cX3_put 1 = .ok (.getfield 21, 3) := by decide +kernel
theorem dX3_put_4 : decode cX3_put 4 = .ok (.ifCond .lt 26, 3) := by decide +kernel
theorem dX3_put_7 : decode cX3_put 7 = .ok (.aload_n 0, 1) := by decide +kernel
theorem dX3_put_8 : decode cX3_put 8 = .ok (.getfield 21, 3) := by decide +kernel
theorem dX3_put_11 : decode cX3_put 11 = .ok (.aload_n 0, 1) := by decide +kernel
theorem dX3_put_12 : decode cX3_put 12 = .ok (.getfield 15, 3) := by decide +kernel
theorem dX3_put_15 : decode cX3_put 15 = .ok (.arraylength, 1) := by decide +kernel
theorem dX3_put_16 : decode cX3_put 16 = .ok (.if_icmp .ge 14, 3) := by decide +kernel
theorem dX3_put_19 : decode cX3_put 19 = .ok (.aload_n 0, 1) := by decide +kernel
theorem dX3_put_20 : decode cX3_put 20 = .ok (.getfield 15, 3) := by decide +kernel
theorem dX3_put_23 : decode cX3_put 23 = .ok (.aload_n 0, 1) := by decide +kernel
theorem dX3_put_24 : decode cX3_put 24 = .ok (.getfield 21, 3) := by decide +kernel
theorem dX3_put_27 : decode cX3_put 27 = .ok (.iload_n 1, 1) := by decide +kernel
theorem dX3_put_28 : decode cX3_put 28 = .ok (.i2b, 1) := by decide +kernel
theorem dX3_put_29 : decode cX3_put 29 = .ok (.bastore, 1) := by decide +kernel
theorem dX3_put_30 : decode cX3_put 30 = .ok (.aload_n 0, 1) := by decide +kernel
theorem dX3_put_31 : decode cX3_put 31 = .ok (.dup, 1) := by decide +kernel
theorem dX3_put_32 : decode cX3_put 32 = .ok (.getfield 21, 3) := by decide +kernel
theorem dX3_put_35 : decode cX3_put 35 = .ok (.iconst 1, 1) := by decide +kernel
theorem dX3_put_36 : decode cX3_put 36 = .ok (.iadd, 1) := by decide +kernel
theorem dX3_put_37 : decode cX3_put 37 = .ok (.putfield 21, 3) := by decide +kernel
theorem dX3_put_40 : decode cX3_put 40 = .ok (.return_, 1) := by decide +kernel
theorem dX3_putFour_0 : decode cX3_putFour 0 = .ok (.aload_n 0, 1) := by decide +kernel
theorem dX3_putFour_1 : decode cX3_putFour 1 = .ok (.iload_n 1, 1) := by decide +kernel
theorem dX3_putFour_2 : decode cX3_putFour 2 = .ok (.bipush 24, 2) := by decide +kernel
theorem dX3_putFour_4 : decode cX3_putFour 4 = .ok (.iushr, 1) := by decide +kernel
theorem dX3_putFour_5 : decode cX3_putFour 5 = .ok (.invokevirtual 25, 3) := by decide +kernel
theorem dX3_putFour_8 : decode cX3_putFour 8 = .ok (.aload_n 0, 1) := by decide +kernel
theorem dX3_putFour_9 : decode cX3_putFour 9 = .ok (.iload_n 1, 1) := by decide +kernel
theorem dX3_putFour_10 : decode cX3_putFour 10 = .ok (.bipush 16, 2) := by decide +kernel
theorem dX3_putFour_12 : decode cX3_putFour 12 = .ok (.iushr, 1) := by decide +kernel
theorem dX3_putFour_13 : decode cX3_putFour 13 = .ok (.invokevirtual 25, 3) := by decide +kernel
theorem dX3_putFour_16 : decode cX3_putFour 16 = .ok (.aload_n 0, 1) := by decide +kernel
theorem dX3_putFour_17 : decode cX3_putFour 17 = .ok (.iload_n 1, 1) := by decide +kernel
theorem dX3_putFour_18 : decode cX3_putFour 18 = .ok (.bipush 8, 2) := by decide +kernel
theorem dX3_putFour_20 : decode cX3_putFour 20 = .ok (.iushr, 1) := by decide +kernel
theorem dX3_putFour_21 : decode cX3_putFour 21 = .ok (.invokevirtual 25, 3) := by decide +kernel
theorem dX3_putFour_24 : decode cX3_putFour 24 = .ok (.aload_n 0, 1) := by decide +kernel
theorem dX3_putFour_25 : decode cX3_putFour 25 = .ok (.iload_n 1, 1) := by decide +kernel
theorem dX3_putFour_26 : decode cX3_putFour 26 = .ok (.invokevirtual 25, 3) := by decide +kernel
theorem dX3_putFour_29 : decode cX3_putFour 29 = .ok (.return_, 1) := by decide +kernel
theorem dX3_putWord_0 : decode cX3_putWord 0 = .ok (.iconst 0, 1) := by decide +kernel
theorem dX3_putWord_1 : decode cX3_putWord 1 = .ok (.istore_n 2, 1) := by decide +kernel
theorem dX3_putWord_2 : decode cX3_putWord 2 = .ok (.iload_n 2, 1) := by decide +kernel
theorem dX3_putWord_3 : decode cX3_putWord 3 = .ok (.aload_n 1, 1) := by decide +kernel
theorem dX3_putWord_4 : decode cX3_putWord 4 = .ok (.invokevirtual 29, 3) := by decide +kernel
theorem dX3_putWord_7 : decode cX3_putWord 7 = .ok (.if_icmp .ge 18, 3) := by decide +kernel
theorem dX3_putWord_10 : decode cX3_putWord 10 = .ok (.aload_n 0, 1) := by decide +kernel
theorem dX3_putWord_11 : decode cX3_putWord 11 = .ok (.aload_n 1, 1) := by decide +kernel
theorem dX3_putWord_12 : decode cX3_putWord 12 = .ok (.iload_n 2, 1) := by decide +kernel
theorem dX3_putWord_13 : decode cX3_putWord 13 = .ok (.invokevirtual 35, 3) := by decide +kernel
theorem dX3_putWord_16 : decode cX3_putWord 16 = .ok (.invokevirtual 25, 3) := by decide +kernel
theorem dX3_putWord_19 : decode cX3_putWord 19 = .ok (.iinc 2 1, 3) := by decide +kernel
theorem dX3_putWord_22 : decode cX3_putWord 22 = .ok (.goto (-20), 3) := by decide +kernel
theorem dX3_putWord_25 : decode cX3_putWord 25 = .ok (.return_, 1) := by decide +kernel
theorem dX3_cutTo_0 : decode cX3_cutTo 0 = .ok (.iload_n 1, 1) := by decide +kernel
theorem dX3_cutTo_1 : decode cX3_cutTo 1 = .ok (.ifCond .lt 16, 3) := by decide +kernel
theorem dX3_cutTo_4 : decode cX3_cutTo 4 = .ok (.iload_n 1, 1) := by decide +kernel
theorem dX3_cutTo_5 : decode cX3_cutTo 5 = .ok (.aload_n 0, 1) := by decide +kernel
theorem dX3_cutTo_6 : decode cX3_cutTo 6 = .ok (.getfield 21, 3) := by decide +kernel
theorem dX3_cutTo_9 : decode cX3_cutTo 9 = .ok (.if_icmp .gt 8, 3) := by decide +kernel
theorem dX3_cutTo_12 : decode cX3_cutTo 12 = .ok (.aload_n 0, 1) := by decide +kernel
theorem dX3_cutTo_13 : decode cX3_cutTo 13 = .ok (.iload_n 1, 1) := by decide +kernel
theorem dX3_cutTo_14 : decode cX3_cutTo 14 = .ok (.putfield 21, 3) := by decide +kernel
theorem dX3_cutTo_17 : decode cX3_cutTo 17 = .ok (.return_, 1) := by decide +kernel
theorem dX3_copyFrom_0 : decode cX3_copyFrom 0 = .ok (.aload_n 1, 1) := by decide +kernel
theorem dX3_copyFrom_1 : decode cX3_copyFrom 1 = .ok (.getfield 21, 3) := by decide +kernel
theorem dX3_copyFrom_4 : decode cX3_copyFrom 4 = .ok (.aload_n 1, 1) := by decide +kernel
theorem dX3_copyFrom_5 : decode cX3_copyFrom 5 = .ok (.getfield 15, 3) := by decide +kernel
theorem dX3_copyFrom_8 : decode cX3_copyFrom 8 = .ok (.arraylength, 1) := by decide +kernel
theorem dX3_copyFrom_9 : decode cX3_copyFrom 9 = .ok (.aload_n 0, 1) := by decide +kernel
theorem dX3_copyFrom_10 : decode cX3_copyFrom 10 = .ok (.getfield 15, 3) := by decide +kernel
theorem dX3_copyFrom_13 : decode cX3_copyFrom 13 = .ok (.arraylength, 1) := by decide +kernel
theorem dX3_copyFrom_14 : decode cX3_copyFrom 14 = .ok (.invokestatic 39, 3) := by decide +kernel
theorem dX3_copyFrom_17 : decode cX3_copyFrom 17 = .ok (.invokestatic 39, 3) := by decide +kernel
theorem dX3_copyFrom_20 : decode cX3_copyFrom 20 = .ok (.istore_n 2, 1) := by decide +kernel
theorem dX3_copyFrom_21 : decode cX3_copyFrom 21 = .ok (.aload_n 1, 1) := by decide +kernel
theorem dX3_copyFrom_22 : decode cX3_copyFrom 22 = .ok (.getfield 15, 3) := by decide +kernel
theorem dX3_copyFrom_25 : decode cX3_copyFrom 25 = .ok (.iconst 0, 1) := by decide +kernel
theorem dX3_copyFrom_26 : decode cX3_copyFrom 26 = .ok (.aload_n 0, 1) := by decide +kernel
theorem dX3_copyFrom_27 : decode cX3_copyFrom 27 = .ok (.getfield 15, 3) := by decide +kernel
theorem dX3_copyFrom_30 : decode cX3_copyFrom 30 = .ok (.iconst 0, 1) := by decide +kernel
theorem dX3_copyFrom_31 : decode cX3_copyFrom 31 = .ok (.iload_n 2, 1) := by decide +kernel
theorem dX3_copyFrom_32 : decode cX3_copyFrom 32 = .ok (.invokestatic 42, 3) := by decide +kernel
theorem dX3_copyFrom_35 : decode cX3_copyFrom 35 = .ok (.aload_n 0, 1) := by decide +kernel
theorem dX3_copyFrom_36 : decode cX3_copyFrom 36 = .ok (.iload_n 2, 1) := by decide +kernel
theorem dX3_copyFrom_37 : decode cX3_copyFrom 37 = .ok (.putfield 21, 3) := by decide +kernel
theorem dX3_copyFrom_40 : decode cX3_copyFrom 40 = .ok (.return_, 1) := by decide +kernel
theorem dX3_openHead_0 : decode cX3_openHead 0 = .ok (.aload_n 0, 1) := by decide +kernel
theorem dX3_openHead_1 : decode cX3_openHead 1 = .ok (.iconst 0, 1) := by decide +kernel
theorem dX3_openHead_2 : decode cX3_openHead 2 = .ok (.invokevirtual 25, 3) := by decide +kernel
theorem dX3_openHead_5 : decode cX3_openHead 5 = .ok (.aload_n 0, 1) := by decide +kernel
theorem dX3_openHead_6 : decode cX3_openHead 6 = .ok (.getfield 21, 3) := by decide +kernel
theorem dX3_openHead_9 : decode cX3_openHead 9 = .ok (.iconst 1, 1) := by decide +kernel
theorem dX3_openHead_10 : decode cX3_openHead 10 = .ok (.isub, 1) := by decide +kernel
theorem dX3_openHead_11 : decode cX3_openHead 11 = .ok (.ireturn, 1) := by decide +kernel
theorem dX3_closeHead_0 : decode cX3_closeHead 0 = .ok (.lload_n 3, 1) := by decide +kernel
theorem dX3_closeHead_1 : decode cX3_closeHead 1 = .ok (.invokestatic 48, 3) := by decide +kernel
theorem dX3_closeHead_4 : decode cX3_closeHead 4 = .ok (.istore 5, 2) := by decide +kernel
theorem dX3_closeHead_6 : decode cX3_closeHead 6 = .ok (.iload 5, 2) := by decide +kernel
theorem dX3_closeHead_8 : decode cX3_closeHead 8 = .ok (.invokestatic 52, 3) := by decide +kernel
theorem dX3_closeHead_11 : decode cX3_closeHead 11 = .ok (.istore 6, 2) := by decide +kernel
theorem dX3_closeHead_13 : decode cX3_closeHead 13 = .ok (.aload_n 0, 1) := by decide +kernel
theorem dX3_closeHead_14 : decode cX3_closeHead 14 = .ok (.iload_n 1, 1) := by decide +kernel
theorem dX3_closeHead_15 : decode cX3_closeHead 15 = .ok (.iconst 1, 1) := by decide +kernel
theorem dX3_closeHead_16 : decode cX3_closeHead 16 = .ok (.iadd, 1) := by decide +kernel
theorem dX3_closeHead_17 : decode cX3_closeHead 17 = .ok (.iload 6, 2) := by decide +kernel
theorem dX3_closeHead_19 : decode cX3_closeHead 19 = .ok (.invokevirtual 56, 3) := by decide +kernel
theorem dX3_closeHead_22 : decode cX3_closeHead 22 = .ok (.aload_n 0, 1) := by decide +kernel
theorem dX3_closeHead_23 : decode cX3_closeHead 23 = .ok (.iload_n 1, 1) := by decide +kernel
theorem dX3_closeHead_24 : decode cX3_closeHead 24 = .ok (.iload_n 2, 1) := by decide +kernel
theorem dX3_closeHead_25 : decode cX3_closeHead 25 = .ok (.iconst 5, 1) := by decide +kernel
theorem dX3_closeHead_26 : decode cX3_closeHead 26 = .ok (.ishl, 1) := by decide +kernel
theorem dX3_closeHead_27 : decode cX3_closeHead 27 = .ok (.iload 5, 2) := by decide +kernel
theorem dX3_closeHead_29 : decode cX3_closeHead 29 = .ok (.ior, 1) := by decide +kernel
theorem dX3_closeHead_30 : decode cX3_closeHead 30 = .ok (.invokevirtual 60, 3) := by decide +kernel
theorem dX3_closeHead_33 : decode cX3_closeHead 33 = .ok (.iconst 0, 1) := by decide +kernel
theorem dX3_closeHead_34 : decode cX3_closeHead 34 = .ok (.istore 7, 2) := by decide +kernel
theorem dX3_closeHead_36 : decode cX3_closeHead 36 = .ok (.iload 7, 2) := by decide +kernel
theorem dX3_closeHead_38 : decode cX3_closeHead 38 = .ok (.iload 6, 2) := by decide +kernel
theorem dX3_closeHead_40 : decode cX3_closeHead 40 = .ok (.if_icmp .ge 32, 3) := by decide +kernel
theorem dX3_closeHead_43 : decode cX3_closeHead 43 = .ok (.aload_n 0, 1) := by decide +kernel
theorem dX3_closeHead_44 : decode cX3_closeHead 44 = .ok (.iload_n 1, 1) := by decide +kernel
theorem dX3_closeHead_45 : decode cX3_closeHead 45 = .ok (.iconst 1, 1) := by decide +kernel
theorem dX3_closeHead_46 : decode cX3_closeHead 46 = .ok (.iadd, 1) := by decide +kernel
theorem dX3_closeHead_47 : decode cX3_closeHead 47 = .ok (.iload 7, 2) := by decide +kernel
theorem dX3_closeHead_49 : decode cX3_closeHead 49 = .ok (.iadd, 1) := by decide +kernel
theorem dX3_closeHead_50 : decode cX3_closeHead 50 = .ok (.lload_n 3, 1) := by decide +kernel
theorem dX3_closeHead_51 : decode cX3_closeHead 51 = .ok (.bipush 8, 2) := by decide +kernel
theorem dX3_closeHead_53 : decode cX3_closeHead 53 = .ok (.iload 6, 2) := by decide +kernel
theorem dX3_closeHead_55 : decode cX3_closeHead 55 = .ok (.iconst 1, 1) := by decide +kernel
theorem dX3_closeHead_56 : decode cX3_closeHead 56 = .ok (.isub, 1) := by decide +kernel
theorem dX3_closeHead_57 : decode cX3_closeHead 57 = .ok (.iload 7, 2) := by decide +kernel
theorem dX3_closeHead_59 : decode cX3_closeHead 59 = .ok (.isub, 1) := by decide +kernel
theorem dX3_closeHead_60 : decode cX3_closeHead 60 = .ok (.imul, 1) := by decide +kernel
theorem dX3_closeHead_61 : decode cX3_closeHead 61 = .ok (.lushr, 1) := by decide +kernel
theorem dX3_closeHead_62 : decode cX3_closeHead 62 = .ok (.l2i, 1) := by decide +kernel
theorem dX3_closeHead_63 : decode cX3_closeHead 63 = .ok (.invokevirtual 60, 3) := by decide +kernel
theorem dX3_closeHead_66 : decode cX3_closeHead 66 = .ok (.iinc 7 1, 3) := by decide +kernel
theorem dX3_closeHead_69 : decode cX3_closeHead 69 = .ok (.goto (-33), 3) := by decide +kernel
theorem dX3_closeHead_72 : decode cX3_closeHead 72 = .ok (.return_, 1) := by decide +kernel
theorem dX3_putHead_0 : decode cX3_putHead 0 = .ok (.aload_n 0, 1) := by decide +kernel
theorem dX3_putHead_1 : decode cX3_putHead 1 = .ok (.aload_n 0, 1) := by decide +kernel
theorem dX3_putHead_2 : decode cX3_putHead 2 = .ok (.invokevirtual 63, 3) := by decide +kernel
theorem dX3_putHead_5 : decode cX3_putHead 5 = .ok (.iload_n 1, 1) := by decide +kernel
theorem dX3_putHead_6 : decode cX3_putHead 6 = .ok (.lload_n 2, 1) := by decide +kernel
theorem dX3_putHead_7 : decode cX3_putHead 7 = .ok (.invokevirtual 66, 3) := by decide +kernel
theorem dX3_putHead_10 : decode cX3_putHead 10 = .ok (.return_, 1) := by decide +kernel
theorem dX3_makeGap_0 : decode cX3_makeGap 0 = .ok (.aload_n 0, 1) := by decide +kernel
theorem dX3_makeGap_1 : decode cX3_makeGap 1 = .ok (.getfield 21, 3) := by decide +kernel
theorem dX3_makeGap_4 : decode cX3_makeGap 4 = .ok (.aload_n 0, 1) := by decide +kernel
theorem dX3_makeGap_5 : decode cX3_makeGap 5 = .ok (.getfield 15, 3) := by decide +kernel
theorem dX3_makeGap_8 : decode cX3_makeGap 8 = .ok (.arraylength, 1) := by decide +kernel
theorem dX3_makeGap_9 : decode cX3_makeGap 9 = .ok (.iload_n 2, 1) := by decide +kernel
theorem dX3_makeGap_10 : decode cX3_makeGap 10 = .ok (.isub, 1) := by decide +kernel
theorem dX3_makeGap_11 : decode cX3_makeGap 11 = .ok (.invokestatic 39, 3) := by decide +kernel
theorem dX3_makeGap_14 : decode cX3_makeGap 14 = .ok (.iload_n 1, 1) := by decide +kernel
theorem dX3_makeGap_15 : decode cX3_makeGap 15 = .ok (.isub, 1) := by decide +kernel
theorem dX3_makeGap_16 : decode cX3_makeGap 16 = .ok (.istore_n 3, 1) := by decide +kernel
theorem dX3_makeGap_17 : decode cX3_makeGap 17 = .ok (.iload_n 1, 1) := by decide +kernel
theorem dX3_makeGap_18 : decode cX3_makeGap 18 = .ok (.ifCond .lt 27, 3) := by decide +kernel
theorem dX3_makeGap_21 : decode cX3_makeGap 21 = .ok (.iload_n 2, 1) := by decide +kernel
theorem dX3_makeGap_22 : decode cX3_makeGap 22 = .ok (.ifCond .le 23, 3) := by decide +kernel
theorem dX3_makeGap_25 : decode cX3_makeGap 25 = .ok (.iload_n 3, 1) := by decide +kernel
theorem dX3_makeGap_26 : decode cX3_makeGap 26 = .ok (.ifCond .le 19, 3) := by decide +kernel
theorem dX3_makeGap_29 : decode cX3_makeGap 29 = .ok (.aload_n 0, 1) := by decide +kernel
theorem dX3_makeGap_30 : decode cX3_makeGap 30 = .ok (.getfield 15, 3) := by decide +kernel
theorem dX3_makeGap_33 : decode cX3_makeGap 33 = .ok (.iload_n 1, 1) := by decide +kernel
theorem dX3_makeGap_34 : decode cX3_makeGap 34 = .ok (.aload_n 0, 1) := by decide +kernel
theorem dX3_makeGap_35 : decode cX3_makeGap 35 = .ok (.getfield 15, 3) := by decide +kernel
theorem dX3_makeGap_38 : decode cX3_makeGap 38 = .ok (.iload_n 1, 1) := by decide +kernel
theorem dX3_makeGap_39 : decode cX3_makeGap 39 = .ok (.iload_n 2, 1) := by decide +kernel
theorem dX3_makeGap_40 : decode cX3_makeGap 40 = .ok (.iadd, 1) := by decide +kernel
theorem dX3_makeGap_41 : decode cX3_makeGap 41 = .ok (.iload_n 3, 1) := by decide +kernel
theorem dX3_makeGap_42 : decode cX3_makeGap 42 = .ok (.invokestatic 42, 3) := by decide +kernel
theorem dX3_makeGap_45 : decode cX3_makeGap 45 = .ok (.aload_n 0, 1) := by decide +kernel
theorem dX3_makeGap_46 : decode cX3_makeGap 46 = .ok (.dup, 1) := by decide +kernel
theorem dX3_makeGap_47 : decode cX3_makeGap 47 = .ok (.getfield 21, 3) := by decide +kernel
theorem dX3_makeGap_50 : decode cX3_makeGap 50 = .ok (.iload_n 2, 1) := by decide +kernel
theorem dX3_makeGap_51 : decode cX3_makeGap 51 = .ok (.iadd, 1) := by decide +kernel
theorem dX3_makeGap_52 : decode cX3_makeGap 52 = .ok (.putfield 21, 3) := by decide +kernel
theorem dX3_makeGap_55 : decode cX3_makeGap 55 = .ok (.return_, 1) := by decide +kernel
theorem dX3_set_0 : decode cX3_set 0 = .ok (.iload_n 1, 1) := by decide +kernel
theorem dX3_set_1 : decode cX3_set 1 = .ok (.ifCond .lt 28, 3) := by decide +kernel
theorem dX3_set_4 : decode cX3_set 4 = .ok (.iload_n 1, 1) := by decide +kernel
theorem dX3_set_5 : decode cX3_set 5 = .ok (.aload_n 0, 1) := by decide +kernel
theorem dX3_set_6 : decode cX3_set 6 = .ok (.getfield 21, 3) := by decide +kernel
theorem dX3_set_9 : decode cX3_set 9 = .ok (.if_icmp .ge 20, 3) := by decide +kernel
theorem dX3_set_12 : decode cX3_set 12 = .ok (.iload_n 1, 1) := by decide +kernel
theorem dX3_set_13 : decode cX3_set 13 = .ok (.aload_n 0, 1) := by decide +kernel
theorem dX3_set_14 : decode cX3_set 14 = .ok (.getfield 15, 3) := by decide +kernel
theorem dX3_set_17 : decode cX3_set 17 = .ok (.arraylength, 1) := by decide +kernel
theorem dX3_set_18 : decode cX3_set 18 = .ok (.if_icmp .ge 11, 3) := by decide +kernel
theorem dX3_set_21 : decode cX3_set 21 = .ok (.aload_n 0, 1) := by decide +kernel
theorem dX3_set_22 : decode cX3_set 22 = .ok (.getfield 15, 3) := by decide +kernel
theorem dX3_set_25 : decode cX3_set 25 = .ok (.iload_n 1, 1) := by decide +kernel
theorem dX3_set_26 : decode cX3_set 26 = .ok (.iload_n 2, 1) := by decide +kernel
theorem dX3_set_27 : decode cX3_set 27 = .ok (.i2b, 1) := by decide +kernel
theorem dX3_set_28 : decode cX3_set 28 = .ok (.bastore, 1) := by decide +kernel
theorem dX3_set_29 : decode cX3_set 29 = .ok (.return_, 1) := by decide +kernel
theorem dX4_init_0 : decode cX4_init 0 = .ok (.aload_n 0, 1) := by decide +kernel
theorem dX4_init_1 : decode cX4_init 1 = .ok (.invokespecial 1, 3) := by decide +kernel
theorem dX4_init_4 : decode cX4_init 4 = .ok (.aload_n 0, 1) := by decide +kernel
theorem dX4_init_5 : decode cX4_init 5 = .ok (.new 7, 3) := by decide +kernel
theorem dX4_init_8 : decode cX4_init 8 = .ok (.dup, 1) := by decide +kernel
theorem dX4_init_9 : decode cX4_init 9 = .ok (.sipush 4000, 3) := by decide +kernel
theorem dX4_init_12 : decode cX4_init 12 = .ok (.invokespecial 11, 3) := by decide +kernel
theorem dX4_init_15 : decode cX4_init 15 = .ok (.putfield 14, 3) := by decide +kernel
theorem dX4_init_18 : decode cX4_init 18 = .ok (.aload_n 0, 1) := by decide +kernel
theorem dX4_init_19 : decode cX4_init 19 = .ok (.new 7, 3) := by decide +kernel
theorem dX4_init_22 : decode cX4_init 22 = .ok (.dup, 1) := by decide +kernel
theorem dX4_init_23 : decode cX4_init 23 = .ok (.sipush 6000, 3) := by decide +kernel
theorem dX4_init_26 : decode cX4_init 26 = .ok (.invokespecial 11, 3) := by decide +kernel
theorem dX4_init_29 : decode cX4_init 29 = .ok (.putfield 18, 3) := by decide +kernel
theorem dX4_init_32 : decode cX4_init 32 = .ok (.aload_n 0, 1) := by decide +kernel
theorem dX4_init_33 : decode cX4_init 33 = .ok (.new 7, 3) := by decide +kernel
theorem dX4_init_36 : decode cX4_init 36 = .ok (.dup, 1) := by decide +kernel
theorem dX4_init_37 : decode cX4_init 37 = .ok (.iconst 0, 1) := by decide +kernel
theorem dX4_init_38 : decode cX4_init 38 = .ok (.invokespecial 11, 3) := by decide +kernel
theorem dX4_init_41 : decode cX4_init 41 = .ok (.putfield 21, 3) := by decide +kernel
theorem dX4_init_44 : decode cX4_init 44 = .ok (.aload_n 0, 1) := by decide +kernel
theorem dX4_init_45 : decode cX4_init 45 = .ok (.bipush 20, 2) := by decide +kernel
theorem dX4_init_47 : decode cX4_init 47 = .ok (.putfield 24, 3) := by decide +kernel
theorem dX4_init_50 : decode cX4_init 50 = .ok (.aload_n 0, 1) := by decide +kernel
theorem dX4_init_51 : decode cX4_init 51 = .ok (.sipush 4000, 3) := by decide +kernel
theorem dX4_init_54 : decode cX4_init 54 = .ok (.putfield 28, 3) := by decide +kernel
theorem dX4_init_57 : decode cX4_init 57 = .ok (.aload_n 0, 1) := by decide +kernel
theorem dX4_init_58 : decode cX4_init 58 = .ok (.iconst (-1), 1) := by decide +kernel
theorem dX4_init_59 : decode cX4_init 59 = .ok (.putfield 31, 3) := by decide +kernel
theorem dX4_init_62 : decode cX4_init 62 = .ok (.return_, 1) := by decide +kernel
theorem dX4_feed_0 : decode cX4_feed 0 = .ok (.aload_n 0, 1) := by decide +kernel
theorem dX4_feed_1 : decode cX4_feed 1 = .ok (.getfield 14, 3) := by decide +kernel
theorem dX4_feed_4 : decode cX4_feed 4 = .ok (.invokevirtual 34, 3) := by decide +kernel
theorem dX4_feed_7 : decode cX4_feed 7 = .ok (.bipush 20, 2) := by decide +kernel
theorem dX4_feed_9 : decode cX4_feed 9 = .ok (.iadd, 1) := by decide +kernel
theorem dX4_feed_10 : decode cX4_feed 10 = .ok (.sipush 4000, 3) := by decide +kernel
theorem dX4_feed_13 : decode cX4_feed 13 = .ok (.if_icmp .le 5, 3) := by decide +kernel
theorem dX4_feed_16 : decode cX4_feed 16 = .ok (.iconst (-1), 1) := by decide +kernel
theorem dX4_feed_17 : decode cX4_feed 17 = .ok (.ireturn, 1) := by decide +kernel
theorem dX4_feed_18 : decode cX4_feed 18 = .ok (.aload_n 0, 1) := by decide +kernel
theorem dX4_feed_19 : decode cX4_feed 19 = .ok (.getfield 14, 3) := by decide +kernel
theorem dX4_feed_22 : decode cX4_feed 22 = .ok (.iload_n 1, 1) := by decide +kernel
theorem dX4_feed_23 : decode cX4_feed 23 = .ok (.invokevirtual 38, 3) := by decide +kernel
theorem dX4_feed_26 : decode cX4_feed 26 = .ok (.aload_n 0, 1) := by decide +kernel
theorem dX4_feed_27 : decode cX4_feed 27 = .ok (.getfield 14, 3) := by decide +kernel
theorem dX4_feed_30 : decode cX4_feed 30 = .ok (.iload_n 2, 1) := by decide +kernel
theorem dX4_feed_31 : decode cX4_feed 31 = .ok (.invokevirtual 38, 3) := by decide +kernel
theorem dX4_feed_34 : decode cX4_feed 34 = .ok (.aload_n 0, 1) := by decide +kernel
theorem dX4_feed_35 : decode cX4_feed 35 = .ok (.getfield 14, 3) := by decide +kernel
theorem dX4_feed_38 : decode cX4_feed 38 = .ok (.iload_n 3, 1) := by decide +kernel
theorem dX4_feed_39 : decode cX4_feed 39 = .ok (.invokevirtual 38, 3) := by decide +kernel
theorem dX4_feed_42 : decode cX4_feed 42 = .ok (.aload_n 0, 1) := by decide +kernel
theorem dX4_feed_43 : decode cX4_feed 43 = .ok (.getfield 14, 3) := by decide +kernel
theorem dX4_feed_46 : decode cX4_feed 46 = .ok (.iload 4, 2) := by decide +kernel
theorem dX4_feed_48 : decode cX4_feed 48 = .ok (.invokevirtual 38, 3) := by decide +kernel
theorem dX4_feed_51 : decode cX4_feed 51 = .ok (.aload_n 0, 1) := by decide +kernel
theorem dX4_feed_52 : decode cX4_feed 52 = .ok (.getfield 14, 3) := by decide +kernel
theorem dX4_feed_55 : decode cX4_feed 55 = .ok (.iload 5, 2) := by decide +kernel
theorem dX4_feed_57 : decode cX4_feed 57 = .ok (.invokevirtual 38, 3) := by decide +kernel
theorem dX4_feed_60 : decode cX4_feed 60 = .ok (.aload_n 0, 1) := by decide +kernel
theorem dX4_feed_61 : decode cX4_feed 61 = .ok (.getfield 14, 3) := by decide +kernel
theorem dX4_feed_64 : decode cX4_feed 64 = .ok (.invokevirtual 34, 3) := by decide +kernel
theorem dX4_feed_67 : decode cX4_feed 67 = .ok (.ireturn, 1) := by decide +kernel
theorem dX4_end_0 : decode cX4_end 0 = .ok (.iload_n 1, 1) := by decide +kernel
theorem dX4_end_1 : decode cX4_end 1 = .ok (.ifCond .lt 14, 3) := by decide +kernel
theorem dX4_end_4 : decode cX4_end 4 = .ok (.iload_n 1, 1) := by decide +kernel
theorem dX4_end_5 : decode cX4_end 5 = .ok (.aload_n 0, 1) := by decide +kernel
theorem dX4_end_6 : decode cX4_end 6 = .ok (.getfield 14, 3) := by decide +kernel
theorem dX4_end_9 : decode cX4_end 9 = .ok (.invokevirtual 34, 3) := by decide +kernel
theorem dX4_end_12 : decode cX4_end 12 = .ok (.if_icmp .le 5, 3) := by decide +kernel
theorem dX4_end_15 : decode cX4_end 15 = .ok (.iconst (-1), 1) := by decide +kernel
theorem dX4_end_16 : decode cX4_end 16 = .ok (.ireturn, 1) := by decide +kernel
theorem dX4_end_17 : decode cX4_end 17 = .ok (.aload_n 0, 1) := by decide +kernel
theorem dX4_end_18 : decode cX4_end 18 = .ok (.getfield 14, 3) := by decide +kernel
theorem dX4_end_21 : decode cX4_end 21 = .ok (.iload_n 1, 1) := by decide +kernel
theorem dX4_end_22 : decode cX4_end 22 = .ok (.invokevirtual 41, 3) := by decide +kernel
theorem dX4_end_25 : decode cX4_end 25 = .ok (.iload_n 1, 1) := by decide +kernel
theorem dX4_end_26 : decode cX4_end 26 = .ok (.ireturn, 1) := by decide +kernel
theorem dX4_bounds_0 : decode cX4_bounds 0 = .ok (.iload_n 1, 1) := by decide +kernel
theorem dX4_bounds_1 : decode cX4_bounds 1 = .ok (.ifCond .lt 20, 3) := by decide +kernel
theorem dX4_bounds_4 : decode cX4_bounds 4 = .ok (.iload_n 1, 1) := by decide +kernel
theorem dX4_bounds_5 : decode cX4_bounds 5 = .ok (.bipush 40, 2) := by decide +kernel
theorem dX4_bounds_7 : decode cX4_bounds 7 = .ok (.if_icmp .gt 14, 3) := by decide +kernel
theorem dX4_bounds_10 : decode cX4_bounds 10 = .ok (.iload_n 2, 1) := by decide +kernel
theorem dX4_bounds_11 : decode cX4_bounds 11 = .ok (.ifCond .lt 10, 3) := by decide +kernel
theorem dX4_bounds_14 : decode cX4_bounds 14 = .ok (.iload_n 2, 1) := by decide +kernel
theorem dX4_bounds_15 : decode cX4_bounds 15 = .ok (.sipush 6000, 3) := by decide +kernel
theorem dX4_bounds_18 : decode cX4_bounds 18 = .ok (.if_icmp .le 5, 3) := by decide +kernel
theorem dX4_bounds_21 : decode cX4_bounds 21 = .ok (.iconst 0, 1) := by decide +kernel
theorem dX4_bounds_22 : decode cX4_bounds 22 = .ok (.ireturn, 1) := by decide +kernel
theorem dX4_bounds_23 : decode cX4_bounds 23 = .ok (.aload_n 0, 1) := by decide +kernel
theorem dX4_bounds_24 : decode cX4_bounds 24 = .ok (.iload_n 1, 1) := by decide +kernel
theorem dX4_bounds_25 : decode cX4_bounds 25 = .ok (.putfield 24, 3) := by decide +kernel
theorem dX4_bounds_28 : decode cX4_bounds 28 = .ok (.aload_n 0, 1) := by decide +kernel
theorem dX4_bounds_29 : decode cX4_bounds 29 = .ok (.iload_n 2, 1) := by decide +kernel
theorem dX4_bounds_30 : decode cX4_bounds 30 = .ok (.putfield 28, 3) := by decide +kernel
theorem dX4_bounds_33 : decode cX4_bounds 33 = .ok (.iconst 1, 1) := by decide +kernel
theorem dX4_bounds_34 : decode cX4_bounds 34 = .ok (.ireturn, 1) := by decide +kernel
theorem dX4_toCbor_0 : decode cX4_toCbor 0 = .ok (.aload_n 0, 1) := by decide +kernel
theorem dX4_toCbor_1 : decode cX4_toCbor 1 = .ok (.getfield 21, 3) := by decide +kernel
theorem dX4_toCbor_4 : decode cX4_toCbor 4 = .ok (.iconst 0, 1) := by decide +kernel
theorem dX4_toCbor_5 : decode cX4_toCbor 5 = .ok (.invokevirtual 41, 3) := by decide +kernel
theorem dX4_toCbor_8 : decode cX4_toCbor 8 = .ok (.new 44, 3) := by decide +kernel
theorem dX4_toCbor_11 : decode cX4_toCbor 11 = .ok (.dup, 1) := by decide +kernel
theorem dX4_toCbor_12 : decode cX4_toCbor 12 = .ok (.aload_n 0, 1) := by decide +kernel
theorem dX4_toCbor_13 : decode cX4_toCbor 13 = .ok (.getfield 14, 3) := by decide +kernel
theorem dX4_toCbor_16 : decode cX4_toCbor 16 = .ok (.aload_n 0, 1) := by decide +kernel
theorem dX4_toCbor_17 : decode cX4_toCbor 17 = .ok (.getfield 21, 3) := by decide +kernel
theorem dX4_toCbor_20 : decode cX4_toCbor 20 = .ok (.aload_n 0, 1) := by decide +kernel
theorem dX4_toCbor_21 : decode cX4_toCbor 21 = .ok (.getfield 24, 3) := by decide +kernel
theorem dX4_toCbor_24 : decode cX4_toCbor 24 = .ok (.invokespecial 46, 3) := by decide +kernel
theorem dX4_toCbor_27 : decode cX4_toCbor 27 = .ok (.astore_n 1, 1) := by decide +kernel
theorem dX4_toCbor_28 : decode cX4_toCbor 28 = .ok (.aload_n 1, 1) := by decide +kernel
theorem dX4_toCbor_29 : decode cX4_toCbor 29 = .ok (.iconst 0, 1) := by decide +kernel
theorem dX4_toCbor_30 : decode cX4_toCbor 30 = .ok (.invokevirtual 49, 3) := by decide +kernel
theorem dX4_toCbor_33 : decode cX4_toCbor 33 = .ok (.ifCond .eq 14, 3) := by decide +kernel
theorem dX4_toCbor_36 : decode cX4_toCbor 36 = .ok (.aload_n 1, 1) := by decide +kernel
theorem dX4_toCbor_37 : decode cX4_toCbor 37 = .ok (.invokevirtual 53, 3) := by decide +kernel
theorem dX4_toCbor_40 : decode cX4_toCbor 40 = .ok (.ifCond .eq 7, 3) := by decide +kernel
theorem dX4_toCbor_43 : decode cX4_toCbor 43 = .ok (.iconst 1, 1) := by decide +kernel
theorem dX4_toCbor_44 : decode cX4_toCbor 44 = .ok (.goto 4, 3) := by decide +kernel
theorem dX4_toCbor_47 : decode cX4_toCbor 47 = .ok (.iconst 0, 1) := by decide +kernel
theorem dX4_toCbor_48 : decode cX4_toCbor 48 = .ok (.istore_n 2, 1) := by decide +kernel
theorem dX4_toCbor_49 : decode cX4_toCbor 49 = .ok (.aload_n 0, 1) := by decide +kernel
theorem dX4_toCbor_50 : decode cX4_toCbor 50 = .ok (.aload_n 1, 1) := by decide +kernel
theorem dX4_toCbor_51 : decode cX4_toCbor 51 = .ok (.iload_n 2, 1) := by decide +kernel
theorem dX4_toCbor_52 : decode cX4_toCbor 52 = .ok (.invokevirtual 57, 3) := by decide +kernel
theorem dX4_toCbor_55 : decode cX4_toCbor 55 = .ok (.ifCond .eq 9, 3) := by decide +kernel
theorem dX4_toCbor_58 : decode cX4_toCbor 58 = .ok (.aload_n 1, 1) := by decide +kernel
theorem dX4_toCbor_59 : decode cX4_toCbor 59 = .ok (.invokevirtual 61, 3) := by decide +kernel
theorem dX4_toCbor_62 : decode cX4_toCbor 62 = .ok (.ineg, 1) := by decide +kernel
theorem dX4_toCbor_63 : decode cX4_toCbor 63 = .ok (.ireturn, 1) := by decide +kernel
theorem dX4_toCbor_64 : decode cX4_toCbor 64 = .ok (.aload_n 0, 1) := by decide +kernel
theorem dX4_toCbor_65 : decode cX4_toCbor 65 = .ok (.getfield 18, 3) := by decide +kernel
theorem dX4_toCbor_68 : decode cX4_toCbor 68 = .ok (.iconst 0, 1) := by decide +kernel
theorem dX4_toCbor_69 : decode cX4_toCbor 69 = .ok (.invokevirtual 41, 3) := by decide +kernel
theorem dX4_toCbor_72 : decode cX4_toCbor 72 = .ok (.new 44, 3) := by decide +kernel
theorem dX4_toCbor_75 : decode cX4_toCbor 75 = .ok (.dup, 1) := by decide +kernel
theorem dX4_toCbor_76 : decode cX4_toCbor 76 = .ok (.aload_n 0, 1) := by decide +kernel
theorem dX4_toCbor_77 : decode cX4_toCbor 77 = .ok (.getfield 14, 3) := by decide +kernel
theorem dX4_toCbor_80 : decode cX4_toCbor 80 = .ok (.aload_n 0, 1) := by decide +kernel
theorem dX4_toCbor_81 : decode cX4_toCbor 81 = .ok (.getfield 18, 3) := by decide +kernel
theorem dX4_toCbor_84 : decode cX4_toCbor 84 = .ok (.aload_n 0, 1) := by decide +kernel
theorem dX4_toCbor_85 : decode cX4_toCbor 85 = .ok (.getfield 24, 3) := by decide +kernel
theorem dX4_toCbor_88 : decode cX4_toCbor 88 = .ok (.invokespecial 46, 3) := by decide +kernel
theorem dX4_toCbor_91 : decode cX4_toCbor 91 = .ok (.iconst 0, 1) := by decide +kernel
theorem dX4_toCbor_92 : decode cX4_toCbor 92 = .ok (.invokevirtual 49, 3) := by decide +kernel
theorem dX4_toCbor_95 : decode cX4_toCbor 95 = .ok (.pop, 1) := by decide +kernel
theorem dX4_toCbor_96 : decode cX4_toCbor 96 = .ok (.aload_n 0, 1) := by decide +kernel
theorem dX4_toCbor_97 : decode cX4_toCbor 97 = .ok (.getfield 18, 3) := by decide +kernel
theorem dX4_toCbor_100 : decode cX4_toCbor 100 = .ok (.invokevirtual 34, 3) := by decide +kernel
theorem dX4_toCbor_103 : decode cX4_toCbor 103 = .ok (.ireturn, 1) := by decide +kernel
theorem dX4_toJson_0 : decode cX4_toJson 0 = .ok (.aload_n 0, 1) := by decide +kernel
theorem dX4_toJson_1 : decode cX4_toJson 1 = .ok (.getfield 21, 3) := by decide +kernel
theorem dX4_toJson_4 : decode cX4_toJson 4 = .ok (.iconst 0, 1) := by decide +kernel
theorem dX4_toJson_5 : decode cX4_toJson 5 = .ok (.invokevirtual 41, 3) := by decide +kernel
theorem dX4_toJson_8 : decode cX4_toJson 8 = .ok (.new 64, 3) := by decide +kernel
theorem dX4_toJson_11 : decode cX4_toJson 11 = .ok (.dup, 1) := by decide +kernel
theorem dX4_toJson_12 : decode cX4_toJson 12 = .ok (.aload_n 0, 1) := by decide +kernel
theorem dX4_toJson_13 : decode cX4_toJson 13 = .ok (.getfield 14, 3) := by decide +kernel
theorem dX4_toJson_16 : decode cX4_toJson 16 = .ok (.aload_n 0, 1) := by decide +kernel
theorem dX4_toJson_17 : decode cX4_toJson 17 = .ok (.getfield 21, 3) := by decide +kernel
theorem dX4_toJson_20 : decode cX4_toJson 20 = .ok (.aload_n 0, 1) := by decide +kernel
theorem dX4_toJson_21 : decode cX4_toJson 21 = .ok (.getfield 24, 3) := by decide +kernel
theorem dX4_toJson_24 : decode cX4_toJson 24 = .ok (.invokespecial 66, 3) := by decide +kernel
theorem dX4_toJson_27 : decode cX4_toJson 27 = .ok (.astore_n 1, 1) := by decide +kernel
theorem dX4_toJson_28 : decode cX4_toJson 28 = .ok (.aload_n 1, 1) := by decide +kernel
theorem dX4_toJson_29 : decode cX4_toJson 29 = .ok (.iconst 0, 1) := by decide +kernel
theorem dX4_toJson_30 : decode cX4_toJson 30 = .ok (.invokevirtual 67, 3) := by decide +kernel
theorem dX4_toJson_33 : decode cX4_toJson 33 = .ok (.ifCond .eq 14, 3) := by decide +kernel
theorem dX4_toJson_36 : decode cX4_toJson 36 = .ok (.aload_n 1, 1) := by decide +kernel
theorem dX4_toJson_37 : decode cX4_toJson 37 = .ok (.invokevirtual 70, 3) := by decide +kernel
theorem dX4_toJson_40 : decode cX4_toJson 40 = .ok (.ifCond .eq 7, 3) := by decide +kernel
theorem dX4_toJson_43 : decode cX4_toJson 43 = .ok (.iconst 1, 1) := by decide +kernel
theorem dX4_toJson_44 : decode cX4_toJson 44 = .ok (.goto 4, 3) := by decide +kernel
theorem dX4_toJson_47 : decode cX4_toJson 47 = .ok (.iconst 0, 1) := by decide +kernel
theorem dX4_toJson_48 : decode cX4_toJson 48 = .ok (.istore_n 2, 1) := by decide +kernel
theorem dX4_toJson_49 : decode cX4_toJson 49 = .ok (.aload_n 0, 1) := by decide +kernel
theorem dX4_toJson_50 : decode cX4_toJson 50 = .ok (.aload_n 1, 1) := by decide +kernel
theorem dX4_toJson_51 : decode cX4_toJson 51 = .ok (.iload_n 2, 1) := by decide +kernel
theorem dX4_toJson_52 : decode cX4_toJson 52 = .ok (.invokevirtual 57, 3) := by decide +kernel
theorem dX4_toJson_55 : decode cX4_toJson 55 = .ok (.ifCond .eq 9, 3) := by decide +kernel
theorem dX4_toJson_58 : decode cX4_toJson 58 = .ok (.aload_n 1, 1) := by decide +kernel
theorem dX4_toJson_59 : decode cX4_toJson 59 = .ok (.invokevirtual 71, 3) := by decide +kernel
theorem dX4_toJson_62 : decode cX4_toJson 62 = .ok (.ineg, 1) := by decide +kernel
theorem dX4_toJson_63 : decode cX4_toJson 63 = .ok (.ireturn, 1) := by decide +kernel
theorem dX4_toJson_64 : decode cX4_toJson 64 = .ok (.aload_n 0, 1) := by decide +kernel
theorem dX4_toJson_65 : decode cX4_toJson 65 = .ok (.getfield 18, 3) := by decide +kernel
theorem dX4_toJson_68 : decode cX4_toJson 68 = .ok (.iconst 0, 1) := by decide +kernel
theorem dX4_toJson_69 : decode cX4_toJson 69 = .ok (.invokevirtual 41, 3) := by decide +kernel
theorem dX4_toJson_72 : decode cX4_toJson 72 = .ok (.new 64, 3) := by decide +kernel
theorem dX4_toJson_75 : decode cX4_toJson 75 = .ok (.dup, 1) := by decide +kernel
theorem dX4_toJson_76 : decode cX4_toJson 76 = .ok (.aload_n 0, 1) := by decide +kernel
theorem dX4_toJson_77 : decode cX4_toJson 77 = .ok (.getfield 14, 3) := by decide +kernel
theorem dX4_toJson_80 : decode cX4_toJson 80 = .ok (.aload_n 0, 1) := by decide +kernel
theorem dX4_toJson_81 : decode cX4_toJson 81 = .ok (.getfield 18, 3) := by decide +kernel
theorem dX4_toJson_84 : decode cX4_toJson 84 = .ok (.aload_n 0, 1) := by decide +kernel
theorem dX4_toJson_85 : decode cX4_toJson 85 = .ok (.getfield 24, 3) := by decide +kernel
theorem dX4_toJson_88 : decode cX4_toJson 88 = .ok (.invokespecial 66, 3) := by decide +kernel
theorem dX4_toJson_91 : decode cX4_toJson 91 = .ok (.iconst 0, 1) := by decide +kernel
theorem dX4_toJson_92 : decode cX4_toJson 92 = .ok (.invokevirtual 67, 3) := by decide +kernel
theorem dX4_toJson_95 : decode cX4_toJson 95 = .ok (.pop, 1) := by decide +kernel
theorem dX4_toJson_96 : decode cX4_toJson 96 = .ok (.aload_n 0, 1) := by decide +kernel
theorem dX4_toJson_97 : decode cX4_toJson 97 = .ok (.getfield 18, 3) := by decide +kernel
theorem dX4_toJson_100 : decode cX4_toJson 100 = .ok (.invokevirtual 34, 3) := by decide +kernel
theorem dX4_toJson_103 : decode cX4_toJson 103 = .ok (.ireturn, 1) := by decide +kernel
theorem dX4_errorAt_0 : decode cX4_errorAt 0 = .ok (.aload_n 0, 1) := by decide +kernel
theorem dX4_errorAt_1 : decode cX4_errorAt 1 = .ok (.getfield 31, 3) := by decide +kernel
theorem dX4_errorAt_4 : decode cX4_errorAt 4 = .ok (.ireturn, 1) := by decide +kernel
theorem dX4_out_0 : decode cX4_out 0 = .ok (.aload_n 0, 1) := by decide +kernel
theorem dX4_out_1 : decode cX4_out 1 = .ok (.getfield 18, 3) := by decide +kernel
theorem dX4_out_4 : decode cX4_out 4 = .ok (.iload_n 1, 1) := by decide +kernel
theorem dX4_out_5 : decode cX4_out 5 = .ok (.invokevirtual 72, 3) := by decide +kernel
theorem dX4_out_8 : decode cX4_out 8 = .ok (.ireturn, 1) := by decide +kernel
theorem dX4_outSize_0 : decode cX4_outSize 0 = .ok (.aload_n 0, 1) := by decide +kernel
theorem dX4_outSize_1 : decode cX4_outSize 1 = .ok (.getfield 18, 3) := by decide +kernel
theorem dX4_outSize_4 : decode cX4_outSize 4 = .ok (.invokevirtual 34, 3) := by decide +kernel
theorem dX4_outSize_7 : decode cX4_outSize 7 = .ok (.ireturn, 1) := by decide +kernel
theorem dX4_take_0 : decode cX4_take 0 = .ok (.aload_n 0, 1) := by decide +kernel
theorem dX4_take_1 : decode cX4_take 1 = .ok (.getfield 18, 3) := by decide +kernel
theorem dX4_take_4 : decode cX4_take 4 = .ok (.invokevirtual 34, 3) := by decide +kernel
theorem dX4_take_7 : decode cX4_take 7 = .ok (.sipush 4000, 3) := by decide +kernel
theorem dX4_take_10 : decode cX4_take 10 = .ok (.if_icmp .le 5, 3) := by decide +kernel
theorem dX4_take_13 : decode cX4_take 13 = .ok (.iconst (-1), 1) := by decide +kernel
theorem dX4_take_14 : decode cX4_take 14 = .ok (.ireturn, 1) := by decide +kernel
theorem dX4_take_15 : decode cX4_take 15 = .ok (.aload_n 0, 1) := by decide +kernel
theorem dX4_take_16 : decode cX4_take 16 = .ok (.getfield 14, 3) := by decide +kernel
theorem dX4_take_19 : decode cX4_take 19 = .ok (.aload_n 0, 1) := by decide +kernel
theorem dX4_take_20 : decode cX4_take 20 = .ok (.getfield 18, 3) := by decide +kernel
theorem dX4_take_23 : decode cX4_take 23 = .ok (.invokevirtual 76, 3) := by decide +kernel
theorem dX4_take_26 : decode cX4_take 26 = .ok (.aload_n 0, 1) := by decide +kernel
theorem dX4_take_27 : decode cX4_take 27 = .ok (.getfield 14, 3) := by decide +kernel
theorem dX4_take_30 : decode cX4_take 30 = .ok (.invokevirtual 34, 3) := by decide +kernel
theorem dX4_take_33 : decode cX4_take 33 = .ok (.ireturn, 1) := by decide +kernel
theorem dX4_isRefused_0 : decode cX4_isRefused 0 = .ok (.iload_n 2, 1) := by decide +kernel
theorem dX4_isRefused_1 : decode cX4_isRefused 1 = .ok (.ifCond .eq 30, 3) := by decide +kernel
theorem dX4_isRefused_4 : decode cX4_isRefused 4 = .ok (.aload_n 0, 1) := by decide +kernel
theorem dX4_isRefused_5 : decode cX4_isRefused 5 = .ok (.getfield 21, 3) := by decide +kernel
theorem dX4_isRefused_8 : decode cX4_isRefused 8 = .ok (.invokevirtual 34, 3) := by decide +kernel
theorem dX4_isRefused_11 : decode cX4_isRefused 11 = .ok (.aload_n 0, 1) := by decide +kernel
theorem dX4_isRefused_12 : decode cX4_isRefused 12 = .ok (.getfield 28, 3) := by decide +kernel
theorem dX4_isRefused_15 : decode cX4_isRefused 15 = .ok (.if_icmp .le 16, 3) := by decide +kernel
theorem dX4_isRefused_18 : decode cX4_isRefused 18 = .ok (.aload_n 1, 1) := by decide +kernel
theorem dX4_isRefused_19 : decode cX4_isRefused 19 = .ok (.iconst 5, 1) := by decide +kernel
theorem dX4_isRefused_20 : decode cX4_isRefused 20 = .ok (.aload_n 0, 1) := by decide +kernel
theorem dX4_isRefused_21 : decode cX4_isRefused 21 = .ok (.getfield 14, 3) := by decide +kernel
theorem dX4_isRefused_24 : decode cX4_isRefused 24 = .ok (.invokevirtual 34, 3) := by decide +kernel
theorem dX4_isRefused_27 : decode cX4_isRefused 27 = .ok (.invokevirtual 80, 3) := by decide +kernel
theorem dX4_isRefused_30 : decode cX4_isRefused 30 = .ok (.pop, 1) := by decide +kernel
theorem dX4_isRefused_31 : decode cX4_isRefused 31 = .ok (.aload_n 0, 1) := by decide +kernel
theorem dX4_isRefused_32 : decode cX4_isRefused 32 = .ok (.aload_n 1, 1) := by decide +kernel
theorem dX4_isRefused_33 : decode cX4_isRefused 33 = .ok (.invokevirtual 86, 3) := by decide +kernel
theorem dX4_isRefused_36 : decode cX4_isRefused 36 = .ok (.putfield 31, 3) := by decide +kernel
theorem dX4_isRefused_39 : decode cX4_isRefused 39 = .ok (.aload_n 1, 1) := by decide +kernel
theorem dX4_isRefused_40 : decode cX4_isRefused 40 = .ok (.invokevirtual 88, 3) := by decide +kernel
theorem dX4_isRefused_43 : decode cX4_isRefused 43 = .ok (.ifCond .eq 7, 3) := by decide +kernel
theorem dX4_isRefused_46 : decode cX4_isRefused 46 = .ok (.iconst 1, 1) := by decide +kernel
theorem dX4_isRefused_47 : decode cX4_isRefused 47 = .ok (.goto 4, 3) := by decide +kernel
theorem dX4_isRefused_50 : decode cX4_isRefused 50 = .ok (.iconst 0, 1) := by decide +kernel
theorem dX4_isRefused_51 : decode cX4_isRefused 51 = .ok (.ireturn, 1) := by decide +kernel
theorem dX4_shortestInfo_0 : decode cX4_shortestInfo 0 = .ok (.lload_n 0, 1) := by decide +kernel
theorem dX4_shortestInfo_1 : decode cX4_shortestInfo 1 = .ok (.lconst 0, 1) := by decide +kernel
theorem dX4_shortestInfo_2 : decode cX4_shortestInfo 2 = .ok (.lcmp, 1) := by decide +kernel
theorem dX4_shortestInfo_3 : decode cX4_shortestInfo 3 = .ok (.ifCond .lt 11, 3) := by decide +kernel
theorem dX4_shortestInfo_6 : decode cX4_shortestInfo 6 = .ok (.lload_n 0, 1) := by decide +kernel
theorem dX4_shortestInfo_7 : decode cX4_shortestInfo 7 = .ok (.ldc2_w 89, 3) := by decide +kernel
theorem dX4_shortestInfo_10 : decode cX4_shortestInfo 10 = .ok (.lcmp, 1) := by decide +kernel
theorem dX4_shortestInfo_11 : decode cX4_shortestInfo 11 = .ok (.ifCond .le 6, 3) := by decide +kernel
theorem dX4_shortestInfo_14 : decode cX4_shortestInfo 14 = .ok (.bipush 27, 2) := by decide +kernel
theorem dX4_shortestInfo_16 : decode cX4_shortestInfo 16 = .ok (.ireturn, 1) := by decide +kernel
theorem dX4_shortestInfo_17 : decode cX4_shortestInfo 17 = .ok (.lload_n 0, 1) := by decide +kernel
theorem dX4_shortestInfo_18 : decode cX4_shortestInfo 18 = .ok (.ldc2_w 91, 3) := by decide +kernel
theorem dX4_shortestInfo_21 : decode cX4_shortestInfo 21 = .ok (.lcmp, 1) := by decide +kernel
theorem dX4_shortestInfo_22 : decode cX4_shortestInfo 22 = .ok (.ifCond .ge 6, 3) := by decide +kernel
theorem dX4_shortestInfo_25 : decode cX4_shortestInfo 25 = .ok (.lload_n 0, 1) := by decide +kernel
theorem dX4_shortestInfo_26 : decode cX4_shortestInfo 26 = .ok (.l2i, 1) := by decide +kernel
theorem dX4_shortestInfo_27 : decode cX4_shortestInfo 27 = .ok (.ireturn, 1) := by decide +kernel
theorem dX4_shortestInfo_28 : decode cX4_shortestInfo 28 = .ok (.lload_n 0, 1) := by decide +kernel
theorem dX4_shortestInfo_29 : decode cX4_shortestInfo 29 = .ok (.ldc2_w 93, 3) := by decide +kernel
theorem dX4_shortestInfo_32 : decode cX4_shortestInfo 32 = .ok (.lcmp, 1) := by decide +kernel
theorem dX4_shortestInfo_33 : decode cX4_shortestInfo 33 = .ok (.ifCond .ge 6, 3) := by decide +kernel
theorem dX4_shortestInfo_36 : decode cX4_shortestInfo 36 = .ok (.bipush 24, 2) := by decide +kernel
theorem dX4_shortestInfo_38 : decode cX4_shortestInfo 38 = .ok (.ireturn, 1) := by decide +kernel
theorem dX4_shortestInfo_39 : decode cX4_shortestInfo 39 = .ok (.lload_n 0, 1) := by decide +kernel
theorem dX4_shortestInfo_40 : decode cX4_shortestInfo 40 = .ok (.ldc2_w 95, 3) := by decide +kernel
theorem dX4_shortestInfo_43 : decode cX4_shortestInfo 43 = .ok (.lcmp, 1) := by decide +kernel
theorem dX4_shortestInfo_44 : decode cX4_shortestInfo 44 = .ok (.ifCond .ge 8, 3) := by decide +kernel
theorem dX4_shortestInfo_47 : decode cX4_shortestInfo 47 = .ok (.bipush 25, 2) := by decide +kernel
theorem dX4_shortestInfo_49 : decode cX4_shortestInfo 49 = .ok (.goto 5, 3) := by decide +kernel
theorem dX4_shortestInfo_52 : decode cX4_shortestInfo 52 = .ok (.bipush 26, 2) := by decide +kernel
theorem dX4_shortestInfo_54 : decode cX4_shortestInfo 54 = .ok (.ireturn, 1) := by decide +kernel
theorem dX4_bytesBehind_0 : decode cX4_bytesBehind 0 = .ok (.iload_n 0, 1) := by decide +kernel
theorem dX4_bytesBehind_1 : decode cX4_bytesBehind 1 = .ok (.bipush 24, 2) := by decide +kernel
theorem dX4_bytesBehind_3 : decode cX4_bytesBehind 3 = .ok (.if_icmp .lt 9, 3) := by decide +kernel
theorem dX4_bytesBehind_6 : decode cX4_bytesBehind 6 = .ok (.iload_n 0, 1) := by decide +kernel
theorem dX4_bytesBehind_7 : decode cX4_bytesBehind 7 = .ok (.bipush 27, 2) := by decide +kernel
theorem dX4_bytesBehind_9 : decode cX4_bytesBehind 9 = .ok (.if_icmp .le 7, 3) := by decide +kernel
theorem dX4_bytesBehind_12 : decode cX4_bytesBehind 12 = .ok (.iconst 0, 1) := by decide +kernel
theorem dX4_bytesBehind_13 : decode cX4_bytesBehind 13 = .ok (.goto 9, 3) := by decide +kernel
theorem dX4_bytesBehind_16 : decode cX4_bytesBehind 16 = .ok (.iconst 1, 1) := by decide +kernel
theorem dX4_bytesBehind_17 : decode cX4_bytesBehind 17 = .ok (.iload_n 0, 1) := by decide +kernel
theorem dX4_bytesBehind_18 : decode cX4_bytesBehind 18 = .ok (.bipush 24, 2) := by decide +kernel
theorem dX4_bytesBehind_20 : decode cX4_bytesBehind 20 = .ok (.isub, 1) := by decide +kernel
theorem dX4_bytesBehind_21 : decode cX4_bytesBehind 21 = .ok (.ishl, 1) := by decide +kernel
theorem dX4_bytesBehind_22 : decode cX4_bytesBehind 22 = .ok (.ireturn, 1) := by decide +kernel
theorem dX4_signLength_0 : decode cX4_signLength 0 = .ok (.aload_n 0, 1) := by decide +kernel
theorem dX4_signLength_1 : decode cX4_signLength 1 = .ok (.iload_n 1, 1) := by decide +kernel
theorem dX4_signLength_2 : decode cX4_signLength 2 = .ok (.invokevirtual 72, 3) := by decide +kernel
theorem dX4_signLength_5 : decode cX4_signLength 5 = .ok (.istore_n 3, 1) := by decide +kernel
theorem dX4_signLength_6 : decode cX4_signLength 6 = .ok (.iload_n 3, 1) := by decide +kernel
theorem dX4_signLength_7 : decode cX4_signLength 7 = .ok (.invokestatic 97, 3) := by decide +kernel
theorem dX4_signLength_10 : decode cX4_signLength 10 = .ok (.istore 4, 2) := by decide +kernel
theorem dX4_signLength_12 : decode cX4_signLength 12 = .ok (.iload 4, 2) := by decide +kernel
theorem dX4_signLength_14 : decode cX4_signLength 14 = .ok (.iconst 2, 1) := by decide +kernel
theorem dX4_signLength_15 : decode cX4_signLength 15 = .ok (.if_icmp .ge 6, 3) := by decide +kernel
theorem dX4_signLength_18 : decode cX4_signLength 18 = .ok (.iload 4, 2) := by decide +kernel
theorem dX4_signLength_20 : decode cX4_signLength 20 = .ok (.ireturn, 1) := by decide +kernel
theorem dX4_signLength_21 : decode cX4_signLength 21 = .ok (.iload 4, 2) := by decide +kernel
theorem dX4_signLength_23 : decode cX4_signLength 23 = .ok (.iload_n 2, 1) := by decide +kernel
theorem dX4_signLength_24 : decode cX4_signLength 24 = .ok (.iload_n 1, 1) := by decide +kernel
theorem dX4_signLength_25 : decode cX4_signLength 25 = .ok (.isub, 1) := by decide +kernel
theorem dX4_signLength_26 : decode cX4_signLength 26 = .ok (.if_icmp .le 5, 3) := by decide +kernel
theorem dX4_signLength_29 : decode cX4_signLength 29 = .ok (.iconst 0, 1) := by decide +kernel
theorem dX4_signLength_30 : decode cX4_signLength 30 = .ok (.ireturn, 1) := by decide +kernel
theorem dX4_signLength_31 : decode cX4_signLength 31 = .ok (.iload_n 3, 1) := by decide +kernel
theorem dX4_signLength_32 : decode cX4_signLength 32 = .ok (.sipush 255, 3) := by decide +kernel
theorem dX4_signLength_35 : decode cX4_signLength 35 = .ok (.iload 4, 2) := by decide +kernel
theorem dX4_signLength_37 : decode cX4_signLength 37 = .ok (.iconst 1, 1) := by decide +kernel
theorem dX4_signLength_38 : decode cX4_signLength 38 = .ok (.iadd, 1) := by decide +kernel
theorem dX4_signLength_39 : decode cX4_signLength 39 = .ok (.ishr, 1) := by decide +kernel
theorem dX4_signLength_40 : decode cX4_signLength 40 = .ok (.iand, 1) := by decide +kernel
theorem dX4_signLength_41 : decode cX4_signLength 41 = .ok (.istore 5, 2) := by decide +kernel
theorem dX4_signLength_43 : decode cX4_signLength 43 = .ok (.iconst 1, 1) := by decide +kernel
theorem dX4_signLength_44 : decode cX4_signLength 44 = .ok (.istore 6, 2) := by decide +kernel
theorem dX4_signLength_46 : decode cX4_signLength 46 = .ok (.iload 6, 2) := by decide +kernel
theorem dX4_signLength_48 : decode cX4_signLength 48 = .ok (.iload 4, 2) := by decide +kernel
theorem dX4_signLength_50 : decode cX4_signLength 50 = .ok (.if_icmp .ge 50, 3) := by decide +kernel
theorem dX4_signLength_53 : decode cX4_signLength 53 = .ok (.aload_n 0, 1) := by decide +kernel
theorem dX4_signLength_54 : decode cX4_signLength 54 = .ok (.iload_n 1, 1) := by decide +kernel
theorem dX4_signLength_55 : decode cX4_signLength 55 = .ok (.iload 6, 2) := by decide +kernel
theorem dX4_signLength_57 : decode cX4_signLength 57 = .ok (.iadd, 1) := by decide +kernel
theorem dX4_signLength_58 : decode cX4_signLength 58 = .ok (.invokevirtual 72, 3) := by decide +kernel
theorem dX4_signLength_61 : decode cX4_signLength 61 = .ok (.istore 7, 2) := by decide +kernel
theorem dX4_signLength_63 : decode cX4_signLength 63 = .ok (.iload 7, 2) := by decide +kernel
theorem dX4_signLength_65 : decode cX4_signLength 65 = .ok (.sipush 128, 3) := by decide +kernel
theorem dX4_signLength_68 : decode cX4_signLength 68 = .ok (.if_icmp .lt 11, 3) := by decide +kernel
theorem dX4_signLength_71 : decode cX4_signLength 71 = .ok (.iload 7, 2) := by decide +kernel
theorem dX4_signLength_73 : decode cX4_signLength 73 = .ok (.sipush 191, 3) := by decide +kernel
theorem dX4_signLength_76 : decode cX4_signLength 76 = .ok (.if_icmp .le 5, 3) := by decide +kernel
theorem dX4_signLength_79 : decode cX4_signLength 79 = .ok (.iconst 0, 1) := by decide +kernel
theorem dX4_signLength_80 : decode cX4_signLength 80 = .ok (.ireturn, 1) := by decide +kernel
theorem dX4_signLength_81 : decode cX4_signLength 81 = .ok (.iload 5, 2) := by decide +kernel
theorem dX4_signLength_83 : decode cX4_signLength 83 = .ok (.bipush 6, 2) := by decide +kernel
theorem dX4_signLength_85 : decode cX4_signLength 85 = .ok (.ishl, 1) := by decide +kernel
theorem dX4_signLength_86 : decode cX4_signLength 86 = .ok (.iload 7, 2) := by decide +kernel
theorem dX4_signLength_88 : decode cX4_signLength 88 = .ok (.bipush 63, 2) := by decide +kernel
theorem dX4_signLength_90 : decode cX4_signLength 90 = .ok (.iand, 1) := by decide +kernel
theorem dX4_signLength_91 : decode cX4_signLength 91 = .ok (.ior, 1) := by decide +kernel
theorem dX4_signLength_92 : decode cX4_signLength 92 = .ok (.istore 5, 2) := by decide +kernel
theorem dX4_signLength_94 : decode cX4_signLength 94 = .ok (.iinc 6 1, 3) := by decide +kernel
theorem dX4_signLength_97 : decode cX4_signLength 97 = .ok (.goto (-51), 3) := by decide +kernel
theorem dX4_signLength_100 : decode cX4_signLength 100 = .ok (.iload 5, 2) := by decide +kernel
theorem dX4_signLength_102 : decode cX4_signLength 102 = .ok (.iload 4, 2) := by decide +kernel
theorem dX4_signLength_104 : decode cX4_signLength 104 = .ok (.invokestatic 100, 3) := by decide +kernel
theorem dX4_signLength_107 : decode cX4_signLength 107 = .ok (.ifCond .eq 8, 3) := by decide +kernel
theorem dX4_signLength_110 : decode cX4_signLength 110 = .ok (.iload 4, 2) := by decide +kernel
theorem dX4_signLength_112 : decode cX4_signLength 112 = .ok (.goto 4, 3) := by decide +kernel
theorem dX4_signLength_115 : decode cX4_signLength 115 = .ok (.iconst 0, 1) := by decide +kernel
theorem dX4_signLength_116 : decode cX4_signLength 116 = .ok (.ireturn, 1) := by decide +kernel
theorem dX4_lengthByFirst_0 : decode cX4_lengthByFirst 0 = .ok (.iload_n 0, 1) := by decide +kernel
theorem dX4_lengthByFirst_1 : decode cX4_lengthByFirst 1 = .ok (.ifCond .lt 10, 3) := by decide +kernel
theorem dX4_lengthByFirst_4 : decode cX4_lengthByFirst 4 = .ok (.iload_n 0, 1) := by decide +kernel
theorem dX4_lengthByFirst_5 : decode cX4_lengthByFirst 5 = .ok (.sipush 244, 3) := by decide +kernel
theorem dX4_lengthByFirst_8 : decode cX4_lengthByFirst 8 = .ok (.if_icmp .le 5, 3) := by decide +kernel
theorem dX4_lengthByFirst_11 : decode cX4_lengthByFirst 11 = .ok (.iconst 0, 1) := by decide +kernel
theorem dX4_lengthByFirst_12 : decode cX4_lengthByFirst 12 = .ok (.ireturn, 1) := by decide +kernel
theorem dX4_lengthByFirst_13 : decode cX4_lengthByFirst 13 = .ok (.iload_n 0, 1) := by decide +kernel
theorem dX4_lengthByFirst_14 : decode cX4_lengthByFirst 14 = .ok (.sipush 128, 3) := by decide +kernel
theorem dX4_lengthByFirst_17 : decode cX4_lengthByFirst 17 = .ok (.if_icmp .ge 5, 3) := by decide +kernel
theorem dX4_lengthByFirst_20 : decode cX4_lengthByFirst 20 = .ok (.iconst 1, 1) := by decide +kernel
theorem dX4_lengthByFirst_21 : decode cX4_lengthByFirst 21 = .ok (.ireturn, 1) := by decide +kernel
theorem dX4_lengthByFirst_22 : decode cX4_lengthByFirst 22 = .ok (.iload_n 0, 1) := by decide +kernel
theorem dX4_lengthByFirst_23 : decode cX4_lengthByFirst 23 = .ok (.sipush 194, 3) := by decide +kernel
theorem dX4_lengthByFirst_26 : decode cX4_lengthByFirst 26 = .ok (.if_icmp .ge 5, 3) := by decide +kernel
theorem dX4_lengthByFirst_29 : decode cX4_lengthByFirst 29 = .ok (.iconst 0, 1) := by decide +kernel
theorem dX4_lengthByFirst_30 : decode cX4_lengthByFirst 30 = .ok (.ireturn, 1) := by decide +kernel
theorem dX4_lengthByFirst_31 : decode cX4_lengthByFirst 31 = .ok (.iload_n 0, 1) := by decide +kernel
theorem dX4_lengthByFirst_32 : decode cX4_lengthByFirst 32 = .ok (.sipush 224, 3) := by decide +kernel
theorem dX4_lengthByFirst_35 : decode cX4_lengthByFirst 35 = .ok (.if_icmp .ge 5, 3) := by decide +kernel
theorem dX4_lengthByFirst_38 : decode cX4_lengthByFirst 38 = .ok (.iconst 2, 1) := by decide +kernel
theorem dX4_lengthByFirst_39 : decode cX4_lengthByFirst 39 = .ok (.ireturn, 1) := by decide +kernel
theorem dX4_lengthByFirst_40 : decode cX4_lengthByFirst 40 = .ok (.iload_n 0, 1) := by decide +kernel
theorem dX4_lengthByFirst_41 : decode cX4_lengthByFirst 41 = .ok (.sipush 240, 3) := by decide +kernel
theorem dX4_lengthByFirst_44 : decode cX4_lengthByFirst 44 = .ok (.if_icmp .ge 7, 3) := by decide +kernel
theorem dX4_lengthByFirst_47 : decode cX4_lengthByFirst 47 = .ok (.iconst 3, 1) := by decide +kernel
theorem dX4_lengthByFirst_48 : decode cX4_lengthByFirst 48 = .ok (.goto 4, 3) := by decide +kernel
theorem dX4_lengthByFirst_51 : decode cX4_lengthByFirst 51 = .ok (.iconst 4, 1) := by decide +kernel
theorem dX4_lengthByFirst_52 : decode cX4_lengthByFirst 52 = .ok (.ireturn, 1) := by decide +kernel
theorem dX4_isSignOf_0 : decode cX4_isSignOf 0 = .ok (.iload_n 1, 1) := by decide +kernel
theorem dX4_isSignOf_1 : decode cX4_isSignOf 1 = .ok (.iconst 3, 1) := by decide +kernel
theorem dX4_isSignOf_2 : decode cX4_isSignOf 2 = .ok (.if_icmp .ne 28, 3) := by decide +kernel
theorem dX4_isSignOf_5 : decode cX4_isSignOf 5 = .ok (.iload_n 0, 1) := by decide +kernel
theorem dX4_isSignOf_6 : decode cX4_isSignOf 6 = .ok (.sipush 2048, 3) := by decide +kernel
theorem dX4_isSignOf_9 : decode cX4_isSignOf 9 = .ok (.if_icmp .lt 19, 3) := by decide +kernel
theorem dX4_isSignOf_12 : decode cX4_isSignOf 12 = .ok (.iload_n 0, 1) := by decide +kernel
theorem dX4_isSignOf_13 : decode cX4_isSignOf 13 = .ok (.ldc 103, 2) := by decide +kernel
theorem dX4_isSignOf_15 : decode cX4_isSignOf 15 = .ok (.if_icmp .lt 9, 3) := by decide +kernel
theorem dX4_isSignOf_18 : decode cX4_isSignOf 18 = .ok (.iload_n 0, 1) := by decide +kernel
theorem dX4_isSignOf_19 : decode cX4_isSignOf 19 = .ok (.ldc 104, 2) := by decide +kernel
theorem dX4_isSignOf_21 : decode cX4_isSignOf 21 = .ok (.if_icmp .le 7, 3) := by decide +kernel
theorem dX4_isSignOf_24 : decode cX4_isSignOf 24 = .ok (.iconst 1, 1) := by decide +kernel
theorem dX4_isSignOf_25 : decode cX4_isSignOf 25 = .ok (.goto 4, 3) := by decide +kernel
theorem dX4_isSignOf_28 : decode cX4_isSignOf 28 = .ok (.iconst 0, 1) := by decide +kernel
theorem dX4_isSignOf_29 : decode cX4_isSignOf 29 = .ok (.ireturn, 1) := by decide +kernel
theorem dX4_isSignOf_30 : decode cX4_isSignOf 30 = .ok (.iload_n 1, 1) := by decide +kernel
theorem dX4_isSignOf_31 : decode cX4_isSignOf 31 = .ok (.iconst 4, 1) := by decide +kernel
theorem dX4_isSignOf_32 : decode cX4_isSignOf 32 = .ok (.if_icmp .ne 21, 3) := by decide +kernel
theorem dX4_isSignOf_35 : decode cX4_isSignOf 35 = .ok (.iload_n 0, 1) := by decide +kernel
theorem dX4_isSignOf_36 : decode cX4_isSignOf 36 = .ok (.ldc 105, 2) := by decide +kernel
theorem dX4_isSignOf_38 : decode cX4_isSignOf 38 = .ok (.if_icmp .lt 13, 3) := by decide +kernel
theorem dX4_isSignOf_41 : decode cX4_isSignOf 41 = .ok (.iload_n 0, 1) := by decide +kernel
theorem dX4_isSignOf_42 : decode cX4_isSignOf 42 = .ok (.ldc 106, 2) := by decide +kernel
theorem dX4_isSignOf_44 : decode cX4_isSignOf 44 = .ok (.if_icmp .gt 7, 3) := by decide +kernel
theorem dX4_isSignOf_47 : decode cX4_isSignOf 47 = .ok (.iconst 1, 1) := by decide +kernel
theorem dX4_isSignOf_48 : decode cX4_isSignOf 48 = .ok (.goto 4, 3) := by decide +kernel
theorem dX4_isSignOf_51 : decode cX4_isSignOf 51 = .ok (.iconst 0, 1) := by decide +kernel
theorem dX4_isSignOf_52 : decode cX4_isSignOf 52 = .ok (.ireturn, 1) := by decide +kernel
theorem dX4_isSignOf_53 : decode cX4_isSignOf 53 = .ok (.iconst 1, 1) := by decide +kernel
theorem dX4_isSignOf_54 : decode cX4_isSignOf 54 = .ok (.ireturn, 1) := by decide +kernel
theorem dL_law_0 : decode cL_law 0 = .ok (.new 7, 3) := by decide +kernel
theorem dL_law_3 : decode cL_law 3 = .ok (.dup, 1) := by decide +kernel
theorem dL_law_4 : decode cL_law 4 = .ok (.invokespecial 9, 3) := by decide +kernel
theorem dL_law_7 : decode cL_law 7 = .ok (.astore_n 1, 1) := by decide +kernel
theorem dL_law_8 : decode cL_law 8 = .ok (.new 10, 3) := by decide +kernel
theorem dL_law_11 : decode cL_law 11 = .ok (.dup, 1) := by decide +kernel
theorem dL_law_12 : decode cL_law 12 = .ok (.invokespecial 12, 3) := by decide +kernel
theorem dL_law_15 : decode cL_law 15 = .ok (.astore_n 2, 1) := by decide +kernel
theorem dL_law_16 : decode cL_law 16 = .ok (.iconst 0, 1) := by decide +kernel
theorem dL_law_17 : decode cL_law 17 = .ok (.istore_n 3, 1) := by decide +kernel
theorem dL_law_18 : decode cL_law 18 = .ok (.iload_n 3, 1) := by decide +kernel
theorem dL_law_19 : decode cL_law 19 = .ok (.aload_n 0, 1) := by decide +kernel
theorem dL_law_20 : decode cL_law 20 = .ok (.arraylength, 1) := by decide +kernel
theorem dL_law_21 : decode cL_law 21 = .ok (.bipush 6, 2) := by decide +kernel
theorem dL_law_23 : decode cL_law 23 = .ok (.isub, 1) := by decide +kernel
theorem dL_law_24 : decode cL_law 24 = .ok (.if_icmp .gt 273, 3) := by decide +kernel
theorem dL_law_27 : decode cL_law 27 = .ok (.aload_n 0, 1) := by decide +kernel
theorem dL_law_28 : decode cL_law 28 = .ok (.iload_n 3, 1) := by decide +kernel
theorem dL_law_29 : decode cL_law 29 = .ok (.iaload, 1) := by decide +kernel
theorem dL_law_30 : decode cL_law 30 = .ok (.bipush 15, 2) := by decide +kernel
theorem dL_law_32 : decode cL_law 32 = .ok (.iand, 1) := by decide +kernel
theorem dL_law_33 : decode cL_law 33 = .ok (.tableswitch 258 0 8 #[51, 114, 137, 170, 183, 196, 209, 232, 245], 51) := by decide +kernel
theorem dL_law_84 : decode cL_law 84 = .ok (.aload_n 1, 1) := by decide +kernel
theorem dL_law_85 : decode cL_law 85 = .ok (.aload_n 0, 1) := by decide +kernel
theorem dL_law_86 : decode cL_law 86 = .ok (.iload_n 3, 1) := by decide +kernel
theorem dL_law_87 : decode cL_law 87 = .ok (.iconst 1, 1) := by decide +kernel
theorem dL_law_88 : decode cL_law 88 = .ok (.iadd, 1) := by decide +kernel
theorem dL_law_89 : decode cL_law 89 = .ok (.iaload, 1) := by decide +kernel
theorem dL_law_90 : decode cL_law 90 = .ok (.aload_n 0, 1) := by decide +kernel
theorem dL_law_91 : decode cL_law 91 = .ok (.iload_n 3, 1) := by decide +kernel
theorem dL_law_92 : decode cL_law 92 = .ok (.iconst 2, 1) := by decide +kernel
theorem dL_law_93 : decode cL_law 93 = .ok (.iadd, 1) := by decide +kernel
theorem dL_law_94 : decode cL_law 94 = .ok (.iaload, 1) := by decide +kernel
theorem dL_law_95 : decode cL_law 95 = .ok (.aload_n 0, 1) := by decide +kernel
theorem dL_law_96 : decode cL_law 96 = .ok (.iload_n 3, 1) := by decide +kernel
theorem dL_law_97 : decode cL_law 97 = .ok (.iconst 3, 1) := by decide +kernel
theorem dL_law_98 : decode cL_law 98 = .ok (.iadd, 1) := by decide +kernel
theorem dL_law_99 : decode cL_law 99 = .ok (.iaload, 1) := by decide +kernel
theorem dL_law_100 : decode cL_law 100 = .ok (.aload_n 0, 1) := by decide +kernel
theorem dL_law_101 : decode cL_law 101 = .ok (.iload_n 3, 1) := by decide +kernel
theorem dL_law_102 : decode cL_law 102 = .ok (.iconst 4, 1) := by decide +kernel
theorem dL_law_103 : decode cL_law 103 = .ok (.iadd, 1) := by decide +kernel
theorem dL_law_104 : decode cL_law 104 = .ok (.iaload, 1) := by decide +kernel
theorem dL_law_105 : decode cL_law 105 = .ok (.aload_n 0, 1) := by decide +kernel
theorem dL_law_106 : decode cL_law 106 = .ok (.iload_n 3, 1) := by decide +kernel
theorem dL_law_107 : decode cL_law 107 = .ok (.iconst 5, 1) := by decide +kernel
theorem dL_law_108 : decode cL_law 108 = .ok (.iadd, 1) := by decide +kernel
theorem dL_law_109 : decode cL_law 109 = .ok (.iaload, 1) := by decide +kernel
theorem dL_law_110 : decode cL_law 110 = .ok (.invokevirtual 13, 3) := by decide +kernel
theorem dL_law_113 : decode cL_law 113 = .ok (.aload_n 2, 1) := by decide +kernel
theorem dL_law_114 : decode cL_law 114 = .ok (.aload_n 0, 1) := by decide +kernel
theorem dL_law_115 : decode cL_law 115 = .ok (.iload_n 3, 1) := by decide +kernel
theorem dL_law_116 : decode cL_law 116 = .ok (.iconst 1, 1) := by decide +kernel
theorem dL_law_117 : decode cL_law 117 = .ok (.iadd, 1) := by decide +kernel
theorem dL_law_118 : decode cL_law 118 = .ok (.iaload, 1) := by decide +kernel
theorem dL_law_119 : decode cL_law 119 = .ok (.aload_n 0, 1) := by decide +kernel
theorem dL_law_120 : decode cL_law 120 = .ok (.iload_n 3, 1) := by decide +kernel
theorem dL_law_121 : decode cL_law 121 = .ok (.iconst 2, 1) := by decide +kernel
theorem dL_law_122 : decode cL_law 122 = .ok (.iadd, 1) := by decide +kernel
theorem dL_law_123 : decode cL_law 123 = .ok (.iaload, 1) := by decide +kernel
theorem dL_law_124 : decode cL_law 124 = .ok (.aload_n 0, 1) := by decide +kernel
theorem dL_law_125 : decode cL_law 125 = .ok (.iload_n 3, 1) := by decide +kernel
theorem dL_law_126 : decode cL_law 126 = .ok (.iconst 3, 1) := by decide +kernel
theorem dL_law_127 : decode cL_law 127 = .ok (.iadd, 1) := by decide +kernel
theorem dL_law_128 : decode cL_law 128 = .ok (.iaload, 1) := by decide +kernel
theorem dL_law_129 : decode cL_law 129 = .ok (.aload_n 0, 1) := by decide +kernel
theorem dL_law_130 : decode cL_law 130 = .ok (.iload_n 3, 1) := by decide +kernel
theorem dL_law_131 : decode cL_law 131 = .ok (.iconst 4, 1) := by decide +kernel
theorem dL_law_132 : decode cL_law 132 = .ok (.iadd, 1) := by decide +kernel
theorem dL_law_133 : decode cL_law 133 = .ok (.iaload, 1) := by decide +kernel
theorem dL_law_134 : decode cL_law 134 = .ok (.aload_n 0, 1) := by decide +kernel
theorem dL_law_135 : decode cL_law 135 = .ok (.iload_n 3, 1) := by decide +kernel
theorem dL_law_136 : decode cL_law 136 = .ok (.iconst 5, 1) := by decide +kernel
theorem dL_law_137 : decode cL_law 137 = .ok (.iadd, 1) := by decide +kernel
theorem dL_law_138 : decode cL_law 138 = .ok (.iaload, 1) := by decide +kernel
theorem dL_law_139 : decode cL_law 139 = .ok (.invokevirtual 17, 3) := by decide +kernel
theorem dL_law_142 : decode cL_law 142 = .ok (.if_icmp .eq 149, 3) := by decide +kernel
theorem dL_law_145 : decode cL_law 145 = .ok (.iconst 0, 1) := by decide +kernel
theorem dL_law_146 : decode cL_law 146 = .ok (.ireturn, 1) := by decide +kernel
theorem dL_law_147 : decode cL_law 147 = .ok (.aload_n 1, 1) := by decide +kernel
theorem dL_law_148 : decode cL_law 148 = .ok (.aload_n 0, 1) := by decide +kernel
theorem dL_law_149 : decode cL_law 149 = .ok (.iload_n 3, 1) := by decide +kernel
theorem dL_law_150 : decode cL_law 150 = .ok (.iconst 1, 1) := by decide +kernel
theorem dL_law_151 : decode cL_law 151 = .ok (.iadd, 1) := by decide +kernel
theorem dL_law_152 : decode cL_law 152 = .ok (.iaload, 1) := by decide +kernel
theorem dL_law_153 : decode cL_law 153 = .ok (.invokevirtual 18, 3) := by decide +kernel
theorem dL_law_156 : decode cL_law 156 = .ok (.aload_n 2, 1) := by decide +kernel
theorem dL_law_157 : decode cL_law 157 = .ok (.aload_n 0, 1) := by decide +kernel
theorem dL_law_158 : decode cL_law 158 = .ok (.iload_n 3, 1) := by decide +kernel
theorem dL_law_159 : decode cL_law 159 = .ok (.iconst 1, 1) := by decide +kernel
theorem dL_law_160 : decode cL_law 160 = .ok (.iadd, 1) := by decide +kernel
theorem dL_law_161 : decode cL_law 161 = .ok (.iaload, 1) := by decide +kernel
theorem dL_law_162 : decode cL_law 162 = .ok (.invokevirtual 22, 3) := by decide +kernel
theorem dL_law_165 : decode cL_law 165 = .ok (.if_icmp .eq 126, 3) := by decide +kernel
theorem dL_law_168 : decode cL_law 168 = .ok (.iconst 0, 1) := by decide +kernel
theorem dL_law_169 : decode cL_law 169 = .ok (.ireturn, 1) := by decide +kernel
theorem dL_law_170 : decode cL_law 170 = .ok (.aload_n 1, 1) := by decide +kernel
theorem dL_law_171 : decode cL_law 171 = .ok (.aload_n 0, 1) := by decide +kernel
theorem dL_law_172 : decode cL_law 172 = .ok (.iload_n 3, 1) := by decide +kernel
theorem dL_law_173 : decode cL_law 173 = .ok (.iconst 1, 1) := by decide +kernel
theorem dL_law_174 : decode cL_law 174 = .ok (.iadd, 1) := by decide +kernel
theorem dL_law_175 : decode cL_law 175 = .ok (.iaload, 1) := by decide +kernel
theorem dL_law_176 : decode cL_law 176 = .ok (.aload_n 0, 1) := by decide +kernel
theorem dL_law_177 : decode cL_law 177 = .ok (.iload_n 3, 1) := by decide +kernel
theorem dL_law_178 : decode cL_law 178 = .ok (.iconst 2, 1) := by decide +kernel
theorem dL_law_179 : decode cL_law 179 = .ok (.iadd, 1) := by decide +kernel
theorem dL_law_180 : decode cL_law 180 = .ok (.iaload, 1) := by decide +kernel
theorem dL_law_181 : decode cL_law 181 = .ok (.invokevirtual 23, 3) := by decide +kernel
theorem dL_law_184 : decode cL_law 184 = .ok (.aload_n 2, 1) := by decide +kernel
theorem dL_law_185 : decode cL_law 185 = .ok (.aload_n 0, 1) := by decide +kernel
theorem dL_law_186 : decode cL_law 186 = .ok (.iload_n 3, 1) := by decide +kernel
theorem dL_law_187 : decode cL_law 187 = .ok (.iconst 1, 1) := by decide +kernel
theorem dL_law_188 : decode cL_law 188 = .ok (.iadd, 1) := by decide +kernel
theorem dL_law_189 : decode cL_law 189 = .ok (.iaload, 1) := by decide +kernel
theorem dL_law_190 : decode cL_law 190 = .ok (.aload_n 0, 1) := by decide +kernel
theorem dL_law_191 : decode cL_law 191 = .ok (.iload_n 3, 1) := by decide +kernel
theorem dL_law_192 : decode cL_law 192 = .ok (.iconst 2, 1) := by decide +kernel
theorem dL_law_193 : decode cL_law 193 = .ok (.iadd, 1) := by decide +kernel
theorem dL_law_194 : decode cL_law 194 = .ok (.iaload, 1) := by decide +kernel
theorem dL_law_195 : decode cL_law 195 = .ok (.invokevirtual 27, 3) := by decide +kernel
theorem dL_law_198 : decode cL_law 198 = .ok (.if_icmp .eq 93, 3) := by decide +kernel
theorem dL_law_201 : decode cL_law 201 = .ok (.iconst 0, 1) := by decide +kernel
theorem dL_law_202 : decode cL_law 202 = .ok (.ireturn, 1) := by decide +kernel
theorem dL_law_203 : decode cL_law 203 = .ok (.aload_n 1, 1) := by decide +kernel
theorem dL_law_204 : decode cL_law 204 = .ok (.invokevirtual 28, 3) := by decide +kernel
theorem dL_law_207 : decode cL_law 207 = .ok (.aload_n 2, 1) := by decide +kernel
theorem dL_law_208 : decode cL_law 208 = .ok (.invokevirtual 32, 3) := by decide +kernel
theorem dL_law_211 : decode cL_law 211 = .ok (.if_icmp .eq 80, 3) := by decide +kernel
theorem dL_law_214 : decode cL_law 214 = .ok (.iconst 0, 1) := by decide +kernel
theorem dL_law_215 : decode cL_law 215 = .ok (.ireturn, 1) := by decide +kernel
theorem dL_law_216 : decode cL_law 216 = .ok (.aload_n 1, 1) := by decide +kernel
theorem dL_law_217 : decode cL_law 217 = .ok (.invokevirtual 33, 3) := by decide +kernel
theorem dL_law_220 : decode cL_law 220 = .ok (.aload_n 2, 1) := by decide +kernel
theorem dL_law_221 : decode cL_law 221 = .ok (.invokevirtual 36, 3) := by decide +kernel
theorem dL_law_224 : decode cL_law 224 = .ok (.if_icmp .eq 67, 3) := by decide +kernel
theorem dL_law_227 : decode cL_law 227 = .ok (.iconst 0, 1) := by decide +kernel
theorem dL_law_228 : decode cL_law 228 = .ok (.ireturn, 1) := by decide +kernel
theorem dL_law_229 : decode cL_law 229 = .ok (.aload_n 1, 1) := by decide +kernel
theorem dL_law_230 : decode cL_law 230 = .ok (.invokevirtual 37, 3) := by decide +kernel
theorem dL_law_233 : decode cL_law 233 = .ok (.aload_n 2, 1) := by decide +kernel
theorem dL_law_234 : decode cL_law 234 = .ok (.invokevirtual 40, 3) := by decide +kernel
theorem dL_law_237 : decode cL_law 237 = .ok (.if_icmp .eq 54, 3) := by decide +kernel
theorem dL_law_240 : decode cL_law 240 = .ok (.iconst 0, 1) := by decide +kernel
theorem dL_law_241 : decode cL_law 241 = .ok (.ireturn, 1) := by decide +kernel
theorem dL_law_242 : decode cL_law 242 = .ok (.aload_n 1, 1) := by decide +kernel
theorem dL_law_243 : decode cL_law 243 = .ok (.aload_n 0, 1) := by decide +kernel
theorem dL_law_244 : decode cL_law 244 = .ok (.iload_n 3, 1) := by decide +kernel
theorem dL_law_245 : decode cL_law 245 = .ok (.iconst 1, 1) := by decide +kernel
theorem dL_law_246 : decode cL_law 246 = .ok (.iadd, 1) := by decide +kernel
theorem dL_law_247 : decode cL_law 247 = .ok (.iaload, 1) := by decide +kernel
theorem dL_law_248 : decode cL_law 248 = .ok (.invokevirtual 41, 3) := by decide +kernel
theorem dL_law_251 : decode cL_law 251 = .ok (.aload_n 2, 1) := by decide +kernel
theorem dL_law_252 : decode cL_law 252 = .ok (.aload_n 0, 1) := by decide +kernel
theorem dL_law_253 : decode cL_law 253 = .ok (.iload_n 3, 1) := by decide +kernel
theorem dL_law_254 : decode cL_law 254 = .ok (.iconst 1, 1) := by decide +kernel
theorem dL_law_255 : decode cL_law 255 = .ok (.iadd, 1) := by decide +kernel
theorem dL_law_256 : decode cL_law 256 = .ok (.iaload, 1) := by decide +kernel
theorem dL_law_257 : decode cL_law 257 = .ok (.invokevirtual 44, 3) := by decide +kernel
theorem dL_law_260 : decode cL_law 260 = .ok (.if_icmp .eq 31, 3) := by decide +kernel
theorem dL_law_263 : decode cL_law 263 = .ok (.iconst 0, 1) := by decide +kernel
theorem dL_law_264 : decode cL_law 264 = .ok (.ireturn, 1) := by decide +kernel
theorem dL_law_265 : decode cL_law 265 = .ok (.aload_n 1, 1) := by decide +kernel
theorem dL_law_266 : decode cL_law 266 = .ok (.invokevirtual 45, 3) := by decide +kernel
theorem dL_law_269 : decode cL_law 269 = .ok (.aload_n 2, 1) := by decide +kernel
theorem dL_law_270 : decode cL_law 270 = .ok (.invokevirtual 48, 3) := by decide +kernel
theorem dL_law_273 : decode cL_law 273 = .ok (.if_icmp .eq 18, 3) := by decide +kernel
theorem dL_law_276 : decode cL_law 276 = .ok (.iconst 0, 1) := by decide +kernel
theorem dL_law_277 : decode cL_law 277 = .ok (.ireturn, 1) := by decide +kernel
theorem dL_law_278 : decode cL_law 278 = .ok (.aload_n 1, 1) := by decide +kernel
theorem dL_law_279 : decode cL_law 279 = .ok (.invokevirtual 49, 3) := by decide +kernel
theorem dL_law_282 : decode cL_law 282 = .ok (.aload_n 2, 1) := by decide +kernel
theorem dL_law_283 : decode cL_law 283 = .ok (.invokevirtual 52, 3) := by decide +kernel
theorem dL_law_286 : decode cL_law 286 = .ok (.if_icmp .eq 5, 3) := by decide +kernel
theorem dL_law_289 : decode cL_law 289 = .ok (.iconst 0, 1) := by decide +kernel
theorem dL_law_290 : decode cL_law 290 = .ok (.ireturn, 1) := by decide +kernel
theorem dL_law_291 : decode cL_law 291 = .ok (.iinc 3 6, 3) := by decide +kernel
theorem dL_law_294 : decode cL_law 294 = .ok (.goto (-276), 3) := by decide +kernel
theorem dL_law_297 : decode cL_law 297 = .ok (.iconst 1, 1) := by decide +kernel
theorem dL_law_298 : decode cL_law 298 = .ok (.ireturn, 1) := by decide +kernel
