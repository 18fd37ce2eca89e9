theorem i3_0 : ins 3 0 = some (.aload_n 0, 1, 0, 0) := by decide +kernel
theorem i3_1 : ins 3 1 = some (.invokevirtual 492, 4, 8, 0) := by decide +kernel
theorem i3_4 : ins 3 4 = some (.ifCond .eq (12), 7, 16, 0) := by decide +kernel
theorem i3_7 : ins 3 7 = some (.aload_n 0, 8, 0, 0) := by decide +kernel
theorem i3_8 : ins 3 8 = some (.getfield 9, 11, 13, 0) := by decide +kernel
theorem i3_11 : ins 3 11 = some (.iload_n 1, 12, 0, 0) := by decide +kernel
theorem i3_12 : ins 3 12 = some (.invokestatic 495, 15, 11, 0) := by decide +kernel
theorem i3_15 : ins 3 15 = some (.ireturn, 16, 0, 0) := by decide +kernel
theorem i3_16 : ins 3 16 = some (.aload_n 0, 17, 0, 0) := by decide +kernel
theorem i3_17 : ins 3 17 = some (.getfield 9, 20, 13, 0) := by decide +kernel
theorem i3_20 : ins 3 20 = some (.iload_n 1, 21, 0, 0) := by decide +kernel
theorem i4_0 : ins 4 0 = some (.iload_n 0, 1, 0, 0) := by decide +kernel
theorem i4_1 : ins 4 1 = some (.iload_n 1, 2, 0, 0) := by decide +kernel
theorem i4_2 : ins 4 2 = some (.getstatic 1053, 5, 2, 0) := by decide +kernel
theorem i4_5 : ins 4 5 = some (.invokestatic 1059, 8, 14, 0) := by decide +kernel
theorem i4_8 : ins 4 8 = some (.pop, 9, 0, 0) := by decide +kernel
theorem i4_9 : ins 4 9 = some (.return_, 10, 0, 0) := by decide +kernel
theorem i5_0 : ins 5 0 = some (.getstatic 38, 3, 1, 0) := by decide +kernel
theorem i5_3 : ins 5 3 = some (.ifCond .eq (10), 6, 13, 0) := by decide +kernel
theorem i5_6 : ins 5 6 = some (.aload_n 0, 7, 0, 0) := by decide +kernel
theorem i5_7 : ins 5 7 = some (.getfield 15, 10, 13, 1) := by decide +kernel
theorem i5_10 : ins 5 10 = some (.goto (4), 13, 14, 0) := by decide +kernel
theorem i5_13 : ins 5 13 = some (.iconst (1), 14, 0, 1) := by decide +kernel
theorem i5_14 : ins 5 14 = some (.ireturn, 15, 0, 0) := by decide +kernel
theorem i6_0 : ins 6 0 = some (.aload_n 0, 1, 0, 0) := by decide +kernel
theorem i6_1 : ins 6 1 = some (.iload_n 1, 2, 0, 0) := by decide +kernel
theorem i6_2 : ins 6 2 = some (.iconst (0), 3, 0, 0) := by decide +kernel
theorem i6_3 : ins 6 3 = some (.invokevirtual 633, 6, 7, 0) := by decide +kernel
theorem i6_6 : ins 6 6 = some (.ireturn, 7, 0, 0) := by decide +kernel
theorem i7_0 : ins 7 0 = some (.aload_n 0, 1, 0, 0) := by decide +kernel
theorem i7_1 : ins 7 1 = some (.invokevirtual 492, 4, 8, 0) := by decide +kernel
theorem i7_4 : ins 7 4 = some (.ifCond .eq (19), 7, 23, 0) := by decide +kernel
theorem i7_7 : ins 7 7 = some (.aload_n 0, 8, 0, 0) := by decide +kernel
theorem i7_8 : ins 7 8 = some (.getfield 9, 11, 13, 0) := by decide +kernel
theorem i7_11 : ins 7 11 = some (.iload_n 1, 12, 0, 0) := by decide +kernel
theorem i7_12 : ins 7 12 = some (.iload_n 2, 13, 0, 0) := by decide +kernel
theorem i7_13 : ins 7 13 = some (.aload_n 0, 14, 0, 0) := by decide +kernel
theorem i7_14 : ins 7 14 = some (.invokevirtual 505, 17, 9, 0) := by decide +kernel
theorem i7_17 : ins 7 17 = some (.invokestatic 637, 20, 12, 0) := by decide +kernel
theorem i7_20 : ins 7 20 = some (.goto (16), 23, 36, 0) := by decide +kernel
theorem i7_23 : ins 7 23 = some (.aload_n 0, 24, 0, 0) := by decide +kernel
theorem i7_24 : ins 7 24 = some (.getfield 9, 27, 13, 0) := by decide +kernel
theorem i7_27 : ins 7 27 = some (.iload_n 1, 28, 0, 0) := by decide +kernel
theorem i7_28 : ins 7 28 = some (.iload_n 2, 29, 0, 0) := by decide +kernel
theorem i7_29 : ins 7 29 = some (.aload_n 0, 30, 0, 0) := by decide +kernel
theorem i7_30 : ins 7 30 = some (.invokevirtual 505, 33, 9, 0) := by decide +kernel
theorem i7_36 : ins 7 36 = some (.ireturn, 37, 0, 0) := by decide +kernel
theorem i8_0 : ins 8 0 = some (.getstatic 38, 3, 1, 0) := by decide +kernel
theorem i8_3 : ins 8 3 = some (.ifCond .eq (14), 6, 17, 0) := by decide +kernel
theorem i8_6 : ins 8 6 = some (.aload_n 0, 7, 0, 0) := by decide +kernel
theorem i8_7 : ins 8 7 = some (.getfield 15, 10, 13, 1) := by decide +kernel
theorem i8_10 : ins 8 10 = some (.ifCond .ne (7), 13, 17, 0) := by decide +kernel
theorem i8_13 : ins 8 13 = some (.iconst (1), 14, 0, 1) := by decide +kernel
theorem i8_14 : ins 8 14 = some (.goto (4), 17, 18, 0) := by decide +kernel
theorem i8_17 : ins 8 17 = some (.iconst (0), 18, 0, 0) := by decide +kernel
theorem i8_18 : ins 8 18 = some (.ireturn, 19, 0, 0) := by decide +kernel
theorem i9_0 : ins 9 0 = some (.aload_n 0, 1, 0, 0) := by decide +kernel
theorem i9_1 : ins 9 1 = some (.getfield 9, 4, 13, 0) := by decide +kernel
theorem i9_4 : ins 9 4 = some (.arraylength, 5, 0, 0) := by decide +kernel
theorem i9_5 : ins 9 5 = some (.aload_n 0, 6, 0, 0) := by decide +kernel
theorem i9_6 : ins 9 6 = some (.invokevirtual 335, 9, 5, 0) := by decide +kernel
theorem i9_9 : ins 9 9 = some (.ishr, 10, 0, 0) := by decide +kernel
theorem i9_10 : ins 9 10 = some (.ireturn, 11, 0, 0) := by decide +kernel
theorem i10_0 : ins 10 0 = some (.iload_n 0, 1, 0, 0) := by decide +kernel
theorem i10_1 : ins 10 1 = some (.ifCond .lt (14), 4, 15, 0) := by decide +kernel
theorem i10_4 : ins 10 4 = some (.iload_n 0, 5, 0, 0) := by decide +kernel
theorem i10_5 : ins 10 5 = some (.sipush (255), 8, 0, 255) := by decide +kernel
theorem i10_8 : ins 10 8 = some (.if_icmp .gt (7), 11, 15, 0) := by decide +kernel
theorem i10_11 : ins 10 11 = some (.iconst (1), 12, 0, 1) := by decide +kernel
theorem i10_12 : ins 10 12 = some (.goto (4), 15, 16, 0) := by decide +kernel
theorem i10_15 : ins 10 15 = some (.iconst (0), 16, 0, 0) := by decide +kernel
theorem i10_16 : ins 10 16 = some (.ireturn, 17, 0, 0) := by decide +kernel
theorem i11_0 : ins 11 0 = some (.iload_n 1, 1, 0, 0) := by decide +kernel
theorem i11_1 : ins 11 1 = some (.aload_n 0, 2, 0, 0) := by decide +kernel
theorem i11_2 : ins 11 2 = some (.arraylength, 3, 0, 0) := by decide +kernel
theorem i11_3 : ins 11 3 = some (.invokestatic 9, 6, 4, 0) := by decide +kernel
theorem i11_6 : ins 11 6 = some (.aload_n 0, 7, 0, 0) := by decide +kernel
theorem i11_7 : ins 11 7 = some (.iload_n 1, 8, 0, 0) := by decide +kernel
theorem i11_8 : ins 11 8 = some (.baload, 9, 0, 0) := by decide +kernel
theorem i11_9 : ins 11 9 = some (.sipush (255), 12, 0, 255) := by decide +kernel
theorem i11_12 : ins 11 12 = some (.iand, 13, 0, 0) := by decide +kernel
theorem i11_13 : ins 11 13 = some (.i2c, 14, 0, 0) := by decide +kernel
theorem i11_14 : ins 11 14 = some (.ireturn, 15, 0, 0) := by decide +kernel
theorem i12_0 : ins 12 0 = some (.iload_n 1, 1, 0, 0) := by decide +kernel
theorem i12_1 : ins 12 1 = some (.invokestatic 88, 4, 10, 0) := by decide +kernel
theorem i12_4 : ins 12 4 = some (.ifCond .ne (5), 7, 9, 0) := by decide +kernel
theorem i12_7 : ins 12 7 = some (.iconst (-1), 8, 0, -1) := by decide +kernel
theorem i12_8 : ins 12 8 = some (.ireturn, 9, 0, 0) := by decide +kernel
theorem i12_9 : ins 12 9 = some (.iload_n 2, 10, 0, 0) := by decide +kernel
theorem i12_10 : ins 12 10 = some (.iconst (0), 11, 0, 0) := by decide +kernel
theorem i12_11 : ins 12 11 = some (.invokestatic 92, 14, 1, 0) := by decide +kernel
theorem i12_14 : ins 12 14 = some (.istore_n 2, 15, 0, 0) := by decide +kernel
theorem i12_15 : ins 12 15 = some (.iload_n 3, 16, 0, 0) := by decide +kernel
theorem i12_16 : ins 12 16 = some (.aload_n 0, 17, 0, 0) := by decide +kernel
theorem i12_17 : ins 12 17 = some (.arraylength, 18, 0, 0) := by decide +kernel
theorem i12_18 : ins 12 18 = some (.invokestatic 38, 21, 2, 0) := by decide +kernel
theorem i12_21 : ins 12 21 = some (.istore_n 3, 22, 0, 0) := by decide +kernel
theorem i12_22 : ins 12 22 = some (.iload_n 2, 23, 0, 0) := by decide +kernel
theorem i12_23 : ins 12 23 = some (.iload_n 3, 24, 0, 0) := by decide +kernel
theorem i12_24 : ins 12 24 = some (.if_icmp .lt (5), 27, 29, 0) := by decide +kernel
theorem i12_27 : ins 12 27 = some (.iconst (-1), 28, 0, -1) := by decide +kernel
theorem i12_28 : ins 12 28 = some (.ireturn, 29, 0, 0) := by decide +kernel
theorem i12_29 : ins 12 29 = some (.aload_n 0, 30, 0, 0) := by decide +kernel
theorem i12_30 : ins 12 30 = some (.iload_n 1, 31, 0, 0) := by decide +kernel
theorem i12_31 : ins 12 31 = some (.iload_n 2, 32, 0, 0) := by decide +kernel
theorem i12_32 : ins 12 32 = some (.iload_n 3, 33, 0, 0) := by decide +kernel
theorem i12_33 : ins 12 33 = some (.invokestatic 95, 36, 13, 0) := by decide +kernel
theorem i12_36 : ins 12 36 = some (.ireturn, 37, 0, 0) := by decide +kernel
theorem i13_0 : ins 13 0 = some (.iload_n 1, 1, 0, 0) := by decide +kernel
theorem i13_1 : ins 13 1 = some (.i2b, 2, 0, 0) := by decide +kernel
theorem i13_2 : ins 13 2 = some (.istore 4, 4, 0, 0) := by decide +kernel
theorem i13_4 : ins 13 4 = some (.iload_n 2, 5, 0, 0) := by decide +kernel
theorem i13_5 : ins 13 5 = some (.istore 5, 7, 0, 0) := by decide +kernel
theorem i13_7 : ins 13 7 = some (.iload 5, 9, 0, 0) := by decide +kernel
theorem i13_9 : ins 13 9 = some (.iload_n 3, 10, 0, 0) := by decide +kernel
theorem i13_10 : ins 13 10 = some (.if_icmp .ge (21), 13, 31, 0) := by decide +kernel
theorem i13_13 : ins 13 13 = some (.aload_n 0, 14, 0, 0) := by decide +kernel
theorem i13_14 : ins 13 14 = some (.iload 5, 16, 0, 0) := by decide +kernel
theorem i13_16 : ins 13 16 = some (.baload, 17, 0, 0) := by decide +kernel
theorem i13_17 : ins 13 17 = some (.iload 4, 19, 0, 0) := by decide +kernel
theorem i13_19 : ins 13 19 = some (.if_icmp .ne (6), 22, 25, 0) := by decide +kernel
theorem i13_22 : ins 13 22 = some (.iload 5, 24, 0, 0) := by decide +kernel
theorem i13_24 : ins 13 24 = some (.ireturn, 25, 0, 0) := by decide +kernel
theorem i13_25 : ins 13 25 = some (.iinc 5 (1), 28, 0, 1) := by decide +kernel
theorem i13_28 : ins 13 28 = some (.goto (-21), 31, 7, 0) := by decide +kernel
theorem i13_31 : ins 13 31 = some (.iconst (-1), 32, 0, -1) := by decide +kernel
theorem i13_32 : ins 13 32 = some (.ireturn, 33, 0, 0) := by decide +kernel
theorem i14_0 : ins 14 0 = some (.iload_n 0, 1, 0, 0) := by decide +kernel
theorem i14_1 : ins 14 1 = some (.ifCond .lt (8), 4, 9, 0) := by decide +kernel
theorem i14_4 : ins 14 4 = some (.iload_n 0, 5, 0, 0) := by decide +kernel
theorem i14_5 : ins 14 5 = some (.iload_n 1, 6, 0, 0) := by decide +kernel
theorem i14_6 : ins 14 6 = some (.if_icmp .lt (10), 9, 16, 0) := by decide +kernel
theorem i14_9 : ins 14 9 = some (.aload_n 2, 10, 0, 0) := by decide +kernel
theorem i14_10 : ins 14 10 = some (.iload_n 0, 11, 0, 0) := by decide +kernel
theorem i14_11 : ins 14 11 = some (.iload_n 1, 12, 0, 0) := by decide +kernel
theorem i14_16 : ins 14 16 = some (.iload_n 0, 17, 0, 0) := by decide +kernel
theorem i14_17 : ins 14 17 = some (.ireturn, 18, 0, 0) := by decide +kernel
theorem i15_0 : ins 15 0 = some (.aload_n 0, 1, 0, 0) := by decide +kernel
theorem i15_1 : ins 15 1 = some (.invokespecial 3, 4, 1000, 0) := by decide +kernel
theorem i15_4 : ins 15 4 = some (.aload_n 0, 5, 0, 0) := by decide +kernel
theorem i15_5 : ins 15 5 = some (.sipush (400), 8, 0, 400) := by decide +kernel
theorem i15_8 : ins 15 8 = some (.newarray .long, 10, 0, 0) := by decide +kernel
theorem i15_10 : ins 15 10 = some (.putfield 9, 13, 0, 0) := by decide +kernel
theorem i15_13 : ins 15 13 = some (.return_, 14, 0, 0) := by decide +kernel
theorem i16_0 : ins 16 0 = some (.aload_n 1, 1, 0, 0) := by decide +kernel
theorem i16_1 : ins 16 1 = some (.getfield 15, 4, 9, 0) := by decide +kernel
theorem i16_4 : ins 16 4 = some (.ifCond .lt (60), 7, 64, 0) := by decide +kernel
theorem i16_7 : ins 16 7 = some (.aload_n 1, 8, 0, 0) := by decide +kernel
theorem i16_8 : ins 16 8 = some (.getfield 15, 11, 9, 0) := by decide +kernel
theorem i16_11 : ins 16 11 = some (.sipush (400), 14, 0, 400) := by decide +kernel
theorem i16_14 : ins 16 14 = some (.if_icmp .ge (50), 17, 64, 0) := by decide +kernel
theorem i16_17 : ins 16 17 = some (.aload_n 1, 18, 0, 0) := by decide +kernel
theorem i16_18 : ins 16 18 = some (.getfield 21, 21, 9, 2) := by decide +kernel
theorem i16_21 : ins 16 21 = some (.bipush (-2), 23, 0, -2) := by decide +kernel
theorem i16_23 : ins 16 23 = some (.isub, 24, 0, 0) := by decide +kernel
theorem i16_24 : ins 16 24 = some (.i2l, 25, 0, 0) := by decide +kernel
theorem i16_25 : ins 16 25 = some (.lstore_n 2, 26, 0, 0) := by decide +kernel
theorem i16_26 : ins 16 26 = some (.iconst (5), 27, 0, 5) := by decide +kernel
theorem i16_27 : ins 16 27 = some (.istore 4, 29, 0, 0) := by decide +kernel
theorem i16_29 : ins 16 29 = some (.iload 4, 31, 0, 0) := by decide +kernel
theorem i16_31 : ins 16 31 = some (.ifCond .lt (23), 34, 54, 0) := by decide +kernel
theorem i16_34 : ins 16 34 = some (.lload_n 2, 35, 0, 0) := by decide +kernel
theorem i16_35 : ins 16 35 = some (.bipush (7), 37, 0, 7) := by decide +kernel
theorem i16_37 : ins 16 37 = some (.lshl, 38, 0, 0) := by decide +kernel
theorem i16_38 : ins 16 38 = some (.aload_n 1, 39, 0, 0) := by decide +kernel
theorem i16_39 : ins 16 39 = some (.getfield 24, 42, 9, 3) := by decide +kernel
theorem i16_42 : ins 16 42 = some (.iload 4, 44, 0, 0) := by decide +kernel
theorem i16_44 : ins 16 44 = some (.iaload, 45, 0, 0) := by decide +kernel
theorem i16_45 : ins 16 45 = some (.i2l, 46, 0, 0) := by decide +kernel
theorem i16_46 : ins 16 46 = some (.lor, 47, 0, 0) := by decide +kernel
theorem i16_47 : ins 16 47 = some (.lstore_n 2, 48, 0, 0) := by decide +kernel
theorem i16_48 : ins 16 48 = some (.iinc 4 (-1), 51, 0, -1) := by decide +kernel
theorem i16_51 : ins 16 51 = some (.goto (-22), 54, 29, 0) := by decide +kernel
theorem i16_54 : ins 16 54 = some (.aload_n 0, 55, 0, 0) := by decide +kernel
theorem i16_55 : ins 16 55 = some (.getfield 9, 58, 0, 0) := by decide +kernel
theorem i16_58 : ins 16 58 = some (.aload_n 1, 59, 0, 0) := by decide +kernel
theorem i16_59 : ins 16 59 = some (.getfield 15, 62, 9, 0) := by decide +kernel
theorem i16_62 : ins 16 62 = some (.lload_n 2, 63, 0, 0) := by decide +kernel
theorem i16_63 : ins 16 63 = some (.lastore, 64, 0, 0) := by decide +kernel
theorem i16_64 : ins 16 64 = some (.return_, 65, 0, 0) := by decide +kernel
theorem i17_0 : ins 17 0 = some (.aload_n 1, 1, 0, 0) := by decide +kernel
theorem i17_1 : ins 17 1 = some (.getfield 9, 4, 0, 0) := by decide +kernel
theorem i17_4 : ins 17 4 = some (.iconst (0), 5, 0, 0) := by decide +kernel
theorem i17_5 : ins 17 5 = some (.aload_n 0, 6, 0, 0) := by decide +kernel
theorem i17_6 : ins 17 6 = some (.getfield 9, 9, 0, 0) := by decide +kernel
theorem i17_9 : ins 17 9 = some (.iconst (0), 10, 0, 0) := by decide +kernel
theorem i17_10 : ins 17 10 = some (.iload_n 2, 11, 0, 0) := by decide +kernel
theorem i17_11 : ins 17 11 = some (.invokestatic 28, 14, 1001, 0) := by decide +kernel
theorem i17_14 : ins 17 14 = some (.return_, 15, 0, 0) := by decide +kernel
theorem i18_0 : ins 18 0 = some (.aload_n 0, 1, 0, 0) := by decide +kernel
theorem i18_1 : ins 18 1 = some (.getfield 9, 4, 0, 0) := by decide +kernel
theorem i18_4 : ins 18 4 = some (.iload_n 1, 5, 0, 0) := by decide +kernel
theorem i18_5 : ins 18 5 = some (.laload, 6, 0, 0) := by decide +kernel
theorem i18_6 : ins 18 6 = some (.bipush (7), 8, 0, 7) := by decide +kernel
theorem i18_8 : ins 18 8 = some (.iload_n 2, 9, 0, 0) := by decide +kernel
theorem i18_9 : ins 18 9 = some (.imul, 10, 0, 0) := by decide +kernel
theorem i18_10 : ins 18 10 = some (.lushr, 11, 0, 0) := by decide +kernel
theorem i18_11 : ins 18 11 = some (.l2i, 12, 0, 0) := by decide +kernel
theorem i18_12 : ins 18 12 = some (.bipush (127), 14, 0, 127) := by decide +kernel
theorem i18_14 : ins 18 14 = some (.iand, 15, 0, 0) := by decide +kernel
theorem i18_15 : ins 18 15 = some (.ireturn, 16, 0, 0) := by decide +kernel
theorem i19_0 : ins 19 0 = some (.aload_n 0, 1, 0, 0) := by decide +kernel
theorem i19_1 : ins 19 1 = some (.getfield 9, 4, 0, 0) := by decide +kernel
theorem i19_4 : ins 19 4 = some (.iload_n 1, 5, 0, 0) := by decide +kernel
theorem i19_5 : ins 19 5 = some (.laload, 6, 0, 0) := by decide +kernel
theorem i19_6 : ins 19 6 = some (.bipush (42), 8, 0, 42) := by decide +kernel
theorem i19_8 : ins 19 8 = some (.lushr, 9, 0, 0) := by decide +kernel
theorem i19_9 : ins 19 9 = some (.l2i, 10, 0, 0) := by decide +kernel
theorem i19_10 : ins 19 10 = some (.bipush (-2), 12, 0, -2) := by decide +kernel
theorem i19_12 : ins 19 12 = some (.iadd, 13, 0, 0) := by decide +kernel
theorem i19_13 : ins 19 13 = some (.ireturn, 14, 0, 0) := by decide +kernel
theorem i20_0 : ins 20 0 = some (.iload_n 1, 1, 0, 0) := by decide +kernel
theorem i20_1 : ins 20 1 = some (.istore_n 3, 2, 0, 0) := by decide +kernel
theorem i20_2 : ins 20 2 = some (.iload_n 3, 3, 0, 0) := by decide +kernel
theorem i20_3 : ins 20 3 = some (.iload_n 2, 4, 0, 0) := by decide +kernel
theorem i20_4 : ins 20 4 = some (.if_icmp .ge (22), 7, 26, 0) := by decide +kernel
theorem i20_7 : ins 20 7 = some (.aload_n 0, 8, 0, 0) := by decide +kernel
theorem i20_8 : ins 20 8 = some (.iload_n 3, 9, 0, 0) := by decide +kernel
theorem i20_9 : ins 20 9 = some (.invokevirtual 34, 12, 19, 0) := by decide +kernel
theorem i20_12 : ins 20 12 = some (.aload_n 0, 13, 0, 0) := by decide +kernel
theorem i20_13 : ins 20 13 = some (.iload_n 1, 14, 0, 0) := by decide +kernel
theorem i20_14 : ins 20 14 = some (.invokevirtual 34, 17, 19, 0) := by decide +kernel
theorem i20_17 : ins 20 17 = some (.if_icmp .ne (9), 20, 26, 0) := by decide +kernel
theorem i20_20 : ins 20 20 = some (.iinc 3 (1), 23, 0, 1) := by decide +kernel
theorem i20_23 : ins 20 23 = some (.goto (-21), 26, 2, 0) := by decide +kernel
theorem i20_26 : ins 20 26 = some (.iload_n 3, 27, 0, 0) := by decide +kernel
theorem i20_27 : ins 20 27 = some (.iload_n 1, 28, 0, 0) := by decide +kernel
theorem i20_28 : ins 20 28 = some (.isub, 29, 0, 0) := by decide +kernel
theorem i20_29 : ins 20 29 = some (.ireturn, 30, 0, 0) := by decide +kernel
theorem i21_0 : ins 21 0 = some (.iconst (-1), 1, 0, -1) := by decide +kernel
theorem i21_1 : ins 21 1 = some (.istore_n 2, 2, 0, 0) := by decide +kernel
theorem i21_2 : ins 21 2 = some (.iconst (0), 3, 0, 0) := by decide +kernel
theorem i21_3 : ins 21 3 = some (.istore_n 3, 4, 0, 0) := by decide +kernel
theorem i21_4 : ins 21 4 = some (.iconst (0), 5, 0, 0) := by decide +kernel
theorem i21_5 : ins 21 5 = some (.istore 4, 7, 0, 0) := by decide +kernel
theorem i21_7 : ins 21 7 = some (.iload 4, 9, 0, 0) := by decide +kernel
theorem i21_9 : ins 21 9 = some (.iload_n 1, 10, 0, 0) := by decide +kernel
theorem i21_10 : ins 21 10 = some (.if_icmp .ge (47), 13, 57, 0) := by decide +kernel
theorem i21_13 : ins 21 13 = some (.iconst (1), 14, 0, 1) := by decide +kernel
theorem i21_14 : ins 21 14 = some (.aload_n 0, 15, 0, 0) := by decide +kernel
theorem i21_15 : ins 21 15 = some (.iload 4, 17, 0, 0) := by decide +kernel
theorem i21_17 : ins 21 17 = some (.iload_n 1, 18, 0, 0) := by decide +kernel
theorem i21_18 : ins 21 18 = some (.invokevirtual 38, 21, 20, 0) := by decide +kernel
theorem i21_21 : ins 21 21 = some (.invokestatic 42, 24, 1, 0) := by decide +kernel
theorem i21_24 : ins 21 24 = some (.istore 5, 26, 0, 0) := by decide +kernel
theorem i21_26 : ins 21 26 = some (.aload_n 0, 27, 0, 0) := by decide +kernel
theorem i21_27 : ins 21 27 = some (.iload 4, 29, 0, 0) := by decide +kernel
theorem i21_29 : ins 21 29 = some (.invokevirtual 34, 32, 19, 0) := by decide +kernel
theorem i21_32 : ins 21 32 = some (.ifCond .lt (15), 35, 47, 0) := by decide +kernel
theorem i21_35 : ins 21 35 = some (.iload 5, 37, 0, 0) := by decide +kernel
theorem i21_37 : ins 21 37 = some (.iload_n 3, 38, 0, 0) := by decide +kernel
theorem i21_38 : ins 21 38 = some (.if_icmp .le (9), 41, 47, 0) := by decide +kernel
theorem i21_41 : ins 21 41 = some (.iload 4, 43, 0, 0) := by decide +kernel
theorem i21_43 : ins 21 43 = some (.istore_n 2, 44, 0, 0) := by decide +kernel
theorem i21_44 : ins 21 44 = some (.iload 5, 46, 0, 0) := by decide +kernel
theorem i21_46 : ins 21 46 = some (.istore_n 3, 47, 0, 0) := by decide +kernel
theorem i21_47 : ins 21 47 = some (.iload 4, 49, 0, 0) := by decide +kernel
theorem i21_49 : ins 21 49 = some (.iload 5, 51, 0, 0) := by decide +kernel
theorem i21_51 : ins 21 51 = some (.iadd, 52, 0, 0) := by decide +kernel
theorem i21_52 : ins 21 52 = some (.istore 4, 54, 0, 0) := by decide +kernel
theorem i21_54 : ins 21 54 = some (.goto (-47), 57, 7, 0) := by decide +kernel
theorem i21_57 : ins 21 57 = some (.iload_n 2, 58, 0, 0) := by decide +kernel
theorem i21_58 : ins 21 58 = some (.ireturn, 59, 0, 0) := by decide +kernel
theorem i22_0 : ins 22 0 = some (.aload_n 0, 1, 0, 0) := by decide +kernel
theorem i22_1 : ins 22 1 = some (.invokespecial 3, 4, 1000, 0) := by decide +kernel
theorem i22_4 : ins 22 4 = some (.aload_n 0, 5, 0, 0) := by decide +kernel
theorem i22_5 : ins 22 5 = some (.bipush (6), 7, 0, 6) := by decide +kernel
theorem i22_7 : ins 22 7 = some (.iconst (3), 8, 0, 3) := by decide +kernel
theorem i22_8 : ins 22 8 = some (.multianewarray 9 2, 12, 26, 0) := by decide +kernel
theorem i22_12 : ins 22 12 = some (.putfield 11, 15, 1, 0) := by decide +kernel
theorem i22_15 : ins 22 15 = some (.aload_n 0, 16, 0, 0) := by decide +kernel
theorem i22_16 : ins 22 16 = some (.iconst (3), 17, 0, 3) := by decide +kernel
theorem i22_17 : ins 22 17 = some (.newarray .int, 19, 0, 0) := by decide +kernel
theorem i22_19 : ins 22 19 = some (.putfield 16, 22, 1, 1) := by decide +kernel
theorem i22_22 : ins 22 22 = some (.aload_n 0, 23, 0, 0) := by decide +kernel
theorem i22_23 : ins 22 23 = some (.bipush (6), 25, 0, 6) := by decide +kernel
theorem i22_25 : ins 22 25 = some (.newarray .int, 27, 0, 0) := by decide +kernel
theorem i22_27 : ins 22 27 = some (.putfield 20, 30, 1, 2) := by decide +kernel
theorem i22_30 : ins 22 30 = some (.return_, 31, 0, 0) := by decide +kernel
theorem i23_0 : ins 23 0 = some (.iload_n 0, 1, 0, 0) := by decide +kernel
theorem i23_1 : ins 23 1 = some (.iload_n 1, 2, 0, 0) := by decide +kernel
theorem i23_2 : ins 23 2 = some (.ixor, 3, 0, 0) := by decide +kernel
theorem i23_3 : ins 23 3 = some (.ldc 23, 5, 0, 1103515245) := by decide +kernel
theorem i23_5 : ins 23 5 = some (.imul, 6, 0, 0) := by decide +kernel
theorem i23_6 : ins 23 6 = some (.sipush (12345), 9, 0, 12345) := by decide +kernel
theorem i23_9 : ins 23 9 = some (.iadd, 10, 0, 0) := by decide +kernel
theorem i23_10 : ins 23 10 = some (.istore_n 2, 11, 0, 0) := by decide +kernel
theorem i23_11 : ins 23 11 = some (.iload_n 2, 12, 0, 0) := by decide +kernel
theorem i23_12 : ins 23 12 = some (.iload_n 2, 13, 0, 0) := by decide +kernel
theorem i23_13 : ins 23 13 = some (.bipush (15), 15, 0, 15) := by decide +kernel
theorem i23_15 : ins 23 15 = some (.iushr, 16, 0, 0) := by decide +kernel
theorem i23_16 : ins 23 16 = some (.ixor, 17, 0, 0) := by decide +kernel
theorem i23_17 : ins 23 17 = some (.ireturn, 18, 0, 0) := by decide +kernel
theorem i24_0 : ins 24 0 = some (.iload_n 1, 1, 0, 0) := by decide +kernel
theorem i24_1 : ins 24 1 = some (.bipush (27), 3, 0, 27) := by decide +kernel
theorem i24_3 : ins 24 3 = some (.invokestatic 24, 6, 23, 0) := by decide +kernel
theorem i24_6 : ins 24 6 = some (.iload_n 2, 7, 0, 0) := by decide +kernel
theorem i24_7 : ins 24 7 = some (.invokestatic 24, 10, 23, 0) := by decide +kernel
theorem i24_10 : ins 24 10 = some (.istore_n 3, 11, 0, 0) := by decide +kernel
theorem i24_11 : ins 24 11 = some (.iload_n 0, 12, 0, 0) := by decide +kernel
theorem i24_12 : ins 24 12 = some (.ifCond .le (11), 15, 23, 0) := by decide +kernel
theorem i24_15 : ins 24 15 = some (.iload_n 3, 16, 0, 0) := by decide +kernel
theorem i24_16 : ins 24 16 = some (.iconst (1), 17, 0, 1) := by decide +kernel
theorem i24_17 : ins 24 17 = some (.iushr, 18, 0, 0) := by decide +kernel
theorem i24_18 : ins 24 18 = some (.iload_n 0, 19, 0, 0) := by decide +kernel
theorem i24_19 : ins 24 19 = some (.irem, 20, 0, 0) := by decide +kernel
theorem i24_20 : ins 24 20 = some (.goto (4), 23, 24, 0) := by decide +kernel
theorem i24_23 : ins 24 23 = some (.iconst (0), 24, 0, 0) := by decide +kernel
theorem i24_24 : ins 24 24 = some (.ireturn, 25, 0, 0) := by decide +kernel
theorem i25_0 : ins 25 0 = some (.aload_n 0, 1, 0, 0) := by decide +kernel
theorem i25_1 : ins 25 1 = some (.getfield 28, 4, 10, 9) := by decide +kernel
theorem i25_4 : ins 25 4 = some (.iload_n 3, 5, 0, 0) := by decide +kernel
theorem i25_5 : ins 25 5 = some (.iaload, 6, 0, 0) := by decide +kernel
theorem i25_6 : ins 25 6 = some (.istore 5, 8, 0, 0) := by decide +kernel
theorem i25_8 : ins 25 8 = some (.bipush (36), 10, 0, 36) := by decide +kernel
theorem i25_10 : ins 25 10 = some (.aload_n 1, 11, 0, 0) := by decide +kernel
theorem i25_11 : ins 25 11 = some (.getfield 33, 14, 9, 0) := by decide +kernel
theorem i25_14 : ins 25 14 = some (.imul, 15, 0, 0) := by decide +kernel
theorem i25_15 : ins 25 15 = some (.bipush (6), 17, 0, 6) := by decide +kernel
theorem i25_17 : ins 25 17 = some (.iload_n 3, 18, 0, 0) := by decide +kernel
theorem i25_18 : ins 25 18 = some (.imul, 19, 0, 0) := by decide +kernel
theorem i25_19 : ins 25 19 = some (.iadd, 20, 0, 0) := by decide +kernel
theorem i25_20 : ins 25 20 = some (.iload 4, 22, 0, 0) := by decide +kernel
theorem i25_22 : ins 25 22 = some (.iadd, 23, 0, 0) := by decide +kernel
theorem i25_23 : ins 25 23 = some (.istore 6, 25, 0, 0) := by decide +kernel
theorem i25_25 : ins 25 25 = some (.aload_n 1, 26, 0, 0) := by decide +kernel
theorem i25_26 : ins 25 26 = some (.iload_n 3, 27, 0, 0) := by decide +kernel
theorem i25_27 : ins 25 27 = some (.iload 4, 29, 0, 0) := by decide +kernel
theorem i25_29 : ins 25 29 = some (.invokevirtual 39, 32, 91, 0) := by decide +kernel
theorem i25_32 : ins 25 32 = some (.iconst (2), 33, 0, 2) := by decide +kernel
theorem i25_33 : ins 25 33 = some (.iload 5, 35, 0, 0) := by decide +kernel
theorem i25_35 : ins 25 35 = some (.imul, 36, 0, 0) := by decide +kernel
theorem i25_36 : ins 25 36 = some (.iconst (1), 37, 0, 1) := by decide +kernel
theorem i25_37 : ins 25 37 = some (.iadd, 38, 0, 0) := by decide +kernel
theorem i25_38 : ins 25 38 = some (.iload_n 2, 39, 0, 0) := by decide +kernel
theorem i25_39 : ins 25 39 = some (.iload 6, 41, 0, 0) := by decide +kernel
theorem i25_41 : ins 25 41 = some (.invokestatic 42, 44, 24, 0) := by decide +kernel
theorem i25_44 : ins 25 44 = some (.iadd, 45, 0, 0) := by decide +kernel
theorem i25_45 : ins 25 45 = some (.iload 5, 47, 0, 0) := by decide +kernel
theorem i25_47 : ins 25 47 = some (.isub, 48, 0, 0) := by decide +kernel
theorem i25_48 : ins 25 48 = some (.iconst (0), 49, 0, 0) := by decide +kernel
theorem i25_49 : ins 25 49 = some (.bipush (99), 51, 0, 99) := by decide +kernel
theorem i25_51 : ins 25 51 = some (.invokestatic 46, 54, 146, 1) := by decide +kernel
theorem i25_54 : ins 25 54 = some (.ireturn, 55, 0, 0) := by decide +kernel
theorem i26_0 : ins 26 0 = some (.iconst (0), 1, 0, 0) := by decide +kernel
theorem i26_1 : ins 26 1 = some (.istore 4, 3, 0, 0) := by decide +kernel
theorem i26_3 : ins 26 3 = some (.iload 4, 5, 0, 0) := by decide +kernel
theorem i26_5 : ins 26 5 = some (.aload_n 1, 6, 0, 0) := by decide +kernel
theorem i26_6 : ins 26 6 = some (.getfield 49, 9, 10, 1) := by decide +kernel
theorem i26_9 : ins 26 9 = some (.if_icmp .ge (107), 12, 116, 0) := by decide +kernel
theorem i26_12 : ins 26 12 = some (.iconst (0), 13, 0, 0) := by decide +kernel
theorem i26_13 : ins 26 13 = some (.istore 5, 15, 0, 0) := by decide +kernel
theorem i26_15 : ins 26 15 = some (.iload 5, 17, 0, 0) := by decide +kernel
theorem i26_17 : ins 26 17 = some (.iconst (3), 18, 0, 3) := by decide +kernel
theorem i26_18 : ins 26 18 = some (.if_icmp .ge (20), 21, 38, 0) := by decide +kernel
theorem i26_21 : ins 26 21 = some (.aload_n 0, 22, 0, 0) := by decide +kernel
theorem i26_22 : ins 26 22 = some (.getfield 11, 25, 1, 0) := by decide +kernel
theorem i26_25 : ins 26 25 = some (.iload 4, 27, 0, 0) := by decide +kernel
theorem i26_27 : ins 26 27 = some (.aaload, 28, 0, 0) := by decide +kernel
theorem i26_28 : ins 26 28 = some (.iload 5, 30, 0, 0) := by decide +kernel
theorem i26_30 : ins 26 30 = some (.iconst (0), 31, 0, 0) := by decide +kernel
theorem i26_31 : ins 26 31 = some (.iastore, 32, 0, 0) := by decide +kernel
theorem i26_32 : ins 26 32 = some (.iinc 5 (1), 35, 0, 1) := by decide +kernel
theorem i26_35 : ins 26 35 = some (.goto (-20), 38, 15, 0) := by decide +kernel
theorem i26_38 : ins 26 38 = some (.iconst (0), 39, 0, 0) := by decide +kernel
theorem i26_39 : ins 26 39 = some (.istore 5, 41, 0, 0) := by decide +kernel
theorem i26_41 : ins 26 41 = some (.iload 5, 43, 0, 0) := by decide +kernel
theorem i26_43 : ins 26 43 = some (.aload_n 1, 44, 0, 0) := by decide +kernel
theorem i26_44 : ins 26 44 = some (.getfield 52, 47, 10, 0) := by decide +kernel
theorem i26_47 : ins 26 47 = some (.if_icmp .ge (63), 50, 110, 0) := by decide +kernel
theorem i26_50 : ins 26 50 = some (.aload_n 1, 51, 0, 0) := by decide +kernel
theorem i26_51 : ins 26 51 = some (.aload_n 2, 52, 0, 0) := by decide +kernel
theorem i26_52 : ins 26 52 = some (.iload 5, 54, 0, 0) := by decide +kernel
theorem i26_54 : ins 26 54 = some (.aload_n 1, 55, 0, 0) := by decide +kernel
theorem i26_55 : ins 26 55 = some (.aload_n 2, 56, 0, 0) := by decide +kernel
theorem i26_56 : ins 26 56 = some (.iload_n 3, 57, 0, 0) := by decide +kernel
theorem i26_57 : ins 26 57 = some (.iload 4, 59, 0, 0) := by decide +kernel
theorem i26_59 : ins 26 59 = some (.iload 5, 61, 0, 0) := by decide +kernel
theorem i26_61 : ins 26 61 = some (.invokestatic 55, 64, 25, 0) := by decide +kernel
theorem i26_64 : ins 26 64 = some (.invokevirtual 59, 67, 99, 0) := by decide +kernel
theorem i26_67 : ins 26 67 = some (.iconst (0), 68, 0, 0) := by decide +kernel
theorem i26_68 : ins 26 68 = some (.istore 6, 70, 0, 0) := by decide +kernel
theorem i26_70 : ins 26 70 = some (.iload 6, 72, 0, 0) := by decide +kernel
theorem i26_72 : ins 26 72 = some (.aload_n 1, 73, 0, 0) := by decide +kernel
theorem i26_73 : ins 26 73 = some (.getfield 63, 76, 10, 2) := by decide +kernel
theorem i26_76 : ins 26 76 = some (.if_icmp .ge (28), 79, 104, 0) := by decide +kernel
theorem i26_79 : ins 26 79 = some (.aload_n 0, 80, 0, 0) := by decide +kernel
theorem i26_80 : ins 26 80 = some (.getfield 11, 83, 1, 0) := by decide +kernel
theorem i26_83 : ins 26 83 = some (.iload 4, 85, 0, 0) := by decide +kernel
theorem i26_85 : ins 26 85 = some (.aaload, 86, 0, 0) := by decide +kernel
theorem i26_86 : ins 26 86 = some (.iload 6, 88, 0, 0) := by decide +kernel
theorem i26_88 : ins 26 88 = some (.dup2, 89, 0, 0) := by decide +kernel
theorem i26_89 : ins 26 89 = some (.iaload, 90, 0, 0) := by decide +kernel
theorem i26_90 : ins 26 90 = some (.aload_n 1, 91, 0, 0) := by decide +kernel
theorem i26_91 : ins 26 91 = some (.iload 6, 93, 0, 0) := by decide +kernel
theorem i26_93 : ins 26 93 = some (.invokevirtual 66, 96, 100, 0) := by decide +kernel
theorem i26_96 : ins 26 96 = some (.iadd, 97, 0, 0) := by decide +kernel
theorem i26_97 : ins 26 97 = some (.iastore, 98, 0, 0) := by decide +kernel
theorem i26_98 : ins 26 98 = some (.iinc 6 (1), 101, 0, 1) := by decide +kernel
theorem i26_101 : ins 26 101 = some (.goto (-31), 104, 70, 0) := by decide +kernel
theorem i26_104 : ins 26 104 = some (.iinc 5 (1), 107, 0, 1) := by decide +kernel
theorem i26_107 : ins 26 107 = some (.goto (-66), 110, 41, 0) := by decide +kernel
theorem i26_110 : ins 26 110 = some (.iinc 4 (1), 113, 0, 1) := by decide +kernel
theorem i26_113 : ins 26 113 = some (.goto (-110), 116, 3, 0) := by decide +kernel
theorem i26_116 : ins 26 116 = some (.return_, 117, 0, 0) := by decide +kernel
theorem i27_0 : ins 27 0 = some (.iconst (0), 1, 0, 0) := by decide +kernel
theorem i27_1 : ins 27 1 = some (.istore 4, 3, 0, 0) := by decide +kernel
theorem i27_3 : ins 27 3 = some (.iconst (0), 4, 0, 0) := by decide +kernel
theorem i27_4 : ins 27 4 = some (.istore 5, 6, 0, 0) := by decide +kernel
theorem i27_6 : ins 27 6 = some (.iload 5, 8, 0, 0) := by decide +kernel
theorem i27_8 : ins 27 8 = some (.aload_n 1, 9, 0, 0) := by decide +kernel
theorem i27_9 : ins 27 9 = some (.getfield 63, 12, 10, 2) := by decide +kernel
theorem i27_12 : ins 27 12 = some (.if_icmp .ge (29), 15, 41, 0) := by decide +kernel
theorem i27_15 : ins 27 15 = some (.iload 5, 17, 0, 0) := by decide +kernel
theorem i27_17 : ins 27 17 = some (.iload_n 3, 18, 0, 0) := by decide +kernel
theorem i27_18 : ins 27 18 = some (.if_icmp .eq (17), 21, 35, 0) := by decide +kernel
theorem i27_21 : ins 27 21 = some (.iload 4, 23, 0, 0) := by decide +kernel
theorem i27_23 : ins 27 23 = some (.aload_n 0, 24, 0, 0) := by decide +kernel
theorem i27_24 : ins 27 24 = some (.getfield 11, 27, 1, 0) := by decide +kernel
theorem i27_27 : ins 27 27 = some (.iload_n 2, 28, 0, 0) := by decide +kernel
theorem i27_28 : ins 27 28 = some (.aaload, 29, 0, 0) := by decide +kernel
theorem i27_29 : ins 27 29 = some (.iload 5, 31, 0, 0) := by decide +kernel
theorem i27_31 : ins 27 31 = some (.iaload, 32, 0, 0) := by decide +kernel
theorem i27_32 : ins 27 32 = some (.iadd, 33, 0, 0) := by decide +kernel
theorem i27_33 : ins 27 33 = some (.istore 4, 35, 0, 0) := by decide +kernel
theorem i27_35 : ins 27 35 = some (.iinc 5 (1), 38, 0, 1) := by decide +kernel
theorem i27_38 : ins 27 38 = some (.goto (-32), 41, 6, 0) := by decide +kernel
theorem i27_41 : ins 27 41 = some (.iload 4, 43, 0, 0) := by decide +kernel
theorem i27_43 : ins 27 43 = some (.ireturn, 44, 0, 0) := by decide +kernel
theorem i28_0 : ins 28 0 = some (.bipush (-2), 2, 0, -2) := by decide +kernel
theorem i28_2 : ins 28 2 = some (.istore 4, 4, 0, 0) := by decide +kernel
theorem i28_4 : ins 28 4 = some (.iconst (0), 5, 0, 0) := by decide +kernel
theorem i28_5 : ins 28 5 = some (.istore 5, 7, 0, 0) := by decide +kernel
theorem i28_7 : ins 28 7 = some (.iload 5, 9, 0, 0) := by decide +kernel
theorem i28_9 : ins 28 9 = some (.aload_n 1, 10, 0, 0) := by decide +kernel
theorem i28_10 : ins 28 10 = some (.getfield 49, 13, 10, 1) := by decide +kernel
theorem i28_13 : ins 28 13 = some (.if_icmp .ge (45), 16, 58, 0) := by decide +kernel
theorem i28_16 : ins 28 16 = some (.iload 5, 18, 0, 0) := by decide +kernel
theorem i28_18 : ins 28 18 = some (.iload_n 3, 19, 0, 0) := by decide +kernel
theorem i28_19 : ins 28 19 = some (.if_icmp .eq (33), 22, 52, 0) := by decide +kernel
theorem i28_22 : ins 28 22 = some (.iload 4, 24, 0, 0) := by decide +kernel
theorem i28_24 : ins 28 24 = some (.ifCond .lt (24), 27, 48, 0) := by decide +kernel
theorem i28_27 : ins 28 27 = some (.aload_n 0, 28, 0, 0) := by decide +kernel
theorem i28_28 : ins 28 28 = some (.getfield 11, 31, 1, 0) := by decide +kernel
theorem i28_31 : ins 28 31 = some (.iload 5, 33, 0, 0) := by decide +kernel
theorem i28_33 : ins 28 33 = some (.aaload, 34, 0, 0) := by decide +kernel
theorem i28_34 : ins 28 34 = some (.iload_n 2, 35, 0, 0) := by decide +kernel
theorem i28_35 : ins 28 35 = some (.iaload, 36, 0, 0) := by decide +kernel
theorem i28_36 : ins 28 36 = some (.aload_n 0, 37, 0, 0) := by decide +kernel
theorem i28_37 : ins 28 37 = some (.getfield 11, 40, 1, 0) := by decide +kernel
theorem i28_40 : ins 28 40 = some (.iload 4, 42, 0, 0) := by decide +kernel
theorem i28_42 : ins 28 42 = some (.aaload, 43, 0, 0) := by decide +kernel
theorem i28_43 : ins 28 43 = some (.iload_n 2, 44, 0, 0) := by decide +kernel
theorem i28_44 : ins 28 44 = some (.iaload, 45, 0, 0) := by decide +kernel
theorem i28_45 : ins 28 45 = some (.if_icmp .ge (7), 48, 52, 0) := by decide +kernel
theorem i28_48 : ins 28 48 = some (.iload 5, 50, 0, 0) := by decide +kernel
theorem i28_50 : ins 28 50 = some (.istore 4, 52, 0, 0) := by decide +kernel
theorem i28_52 : ins 28 52 = some (.iinc 5 (1), 55, 0, 1) := by decide +kernel
theorem i28_55 : ins 28 55 = some (.goto (-48), 58, 7, 0) := by decide +kernel
theorem i28_58 : ins 28 58 = some (.iload 4, 60, 0, 0) := by decide +kernel
theorem i28_60 : ins 28 60 = some (.ireturn, 61, 0, 0) := by decide +kernel
theorem i29_0 : ins 29 0 = some (.iconst (0), 1, 0, 0) := by decide +kernel
theorem i29_1 : ins 29 1 = some (.istore 4, 3, 0, 0) := by decide +kernel
theorem i29_3 : ins 29 3 = some (.iload 4, 5, 0, 0) := by decide +kernel
theorem i29_5 : ins 29 5 = some (.bipush (6), 7, 0, 6) := by decide +kernel
theorem i29_7 : ins 29 7 = some (.if_icmp .ge (17), 10, 24, 0) := by decide +kernel
theorem i29_10 : ins 29 10 = some (.aload_n 0, 11, 0, 0) := by decide +kernel
theorem i29_11 : ins 29 11 = some (.getfield 20, 14, 1, 2) := by decide +kernel
theorem i29_14 : ins 29 14 = some (.iload 4, 16, 0, 0) := by decide +kernel
theorem i29_16 : ins 29 16 = some (.iconst (0), 17, 0, 0) := by decide +kernel
theorem i29_17 : ins 29 17 = some (.iastore, 18, 0, 0) := by decide +kernel
theorem i29_18 : ins 29 18 = some (.iinc 4 (1), 21, 0, 1) := by decide +kernel
theorem i29_21 : ins 29 21 = some (.goto (-18), 24, 3, 0) := by decide +kernel
theorem i29_24 : ins 29 24 = some (.iconst (0), 25, 0, 0) := by decide +kernel
theorem i29_25 : ins 29 25 = some (.istore 4, 27, 0, 0) := by decide +kernel
theorem i29_27 : ins 29 27 = some (.iload 4, 29, 0, 0) := by decide +kernel
theorem i29_29 : ins 29 29 = some (.aload_n 1, 30, 0, 0) := by decide +kernel
theorem i29_30 : ins 29 30 = some (.getfield 63, 33, 10, 2) := by decide +kernel
theorem i29_33 : ins 29 33 = some (.if_icmp .ge (56), 36, 89, 0) := by decide +kernel
theorem i29_36 : ins 29 36 = some (.aload_n 0, 37, 0, 0) := by decide +kernel
theorem i29_37 : ins 29 37 = some (.getfield 16, 40, 1, 1) := by decide +kernel
theorem i29_40 : ins 29 40 = some (.iload 4, 42, 0, 0) := by decide +kernel
theorem i29_42 : ins 29 42 = some (.aload_n 0, 43, 0, 0) := by decide +kernel
theorem i29_43 : ins 29 43 = some (.aload_n 1, 44, 0, 0) := by decide +kernel
theorem i29_44 : ins 29 44 = some (.iload 4, 46, 0, 0) := by decide +kernel
theorem i29_46 : ins 29 46 = some (.iload_n 2, 47, 0, 0) := by decide +kernel
theorem i29_47 : ins 29 47 = some (.invokevirtual 70, 50, 28, 0) := by decide +kernel
theorem i29_50 : ins 29 50 = some (.iastore, 51, 0, 0) := by decide +kernel
theorem i29_51 : ins 29 51 = some (.iload 4, 53, 0, 0) := by decide +kernel
theorem i29_53 : ins 29 53 = some (.iload_n 3, 54, 0, 0) := by decide +kernel
theorem i29_54 : ins 29 54 = some (.if_icmp .eq (29), 57, 83, 0) := by decide +kernel
theorem i29_57 : ins 29 57 = some (.aload_n 0, 58, 0, 0) := by decide +kernel
theorem i29_58 : ins 29 58 = some (.getfield 16, 61, 1, 1) := by decide +kernel
theorem i29_61 : ins 29 61 = some (.iload 4, 63, 0, 0) := by decide +kernel
theorem i29_63 : ins 29 63 = some (.iaload, 64, 0, 0) := by decide +kernel
theorem i29_64 : ins 29 64 = some (.ifCond .lt (19), 67, 83, 0) := by decide +kernel
theorem i29_67 : ins 29 67 = some (.aload_n 0, 68, 0, 0) := by decide +kernel
theorem i29_68 : ins 29 68 = some (.getfield 20, 71, 1, 2) := by decide +kernel
theorem i29_71 : ins 29 71 = some (.aload_n 0, 72, 0, 0) := by decide +kernel
theorem i29_72 : ins 29 72 = some (.getfield 16, 75, 1, 1) := by decide +kernel
theorem i29_75 : ins 29 75 = some (.iload 4, 77, 0, 0) := by decide +kernel
theorem i29_77 : ins 29 77 = some (.iaload, 78, 0, 0) := by decide +kernel
theorem i29_78 : ins 29 78 = some (.dup2, 79, 0, 0) := by decide +kernel
theorem i29_79 : ins 29 79 = some (.iaload, 80, 0, 0) := by decide +kernel
theorem i29_80 : ins 29 80 = some (.iconst (1), 81, 0, 1) := by decide +kernel
theorem i29_81 : ins 29 81 = some (.iadd, 82, 0, 0) := by decide +kernel
theorem i29_82 : ins 29 82 = some (.iastore, 83, 0, 0) := by decide +kernel
theorem i29_83 : ins 29 83 = some (.iinc 4 (1), 86, 0, 1) := by decide +kernel
theorem i29_86 : ins 29 86 = some (.goto (-59), 89, 27, 0) := by decide +kernel
theorem i29_89 : ins 29 89 = some (.bipush (-2), 91, 0, -2) := by decide +kernel
theorem i29_91 : ins 29 91 = some (.istore 4, 93, 0, 0) := by decide +kernel
theorem i29_93 : ins 29 93 = some (.iconst (0), 94, 0, 0) := by decide +kernel
theorem i29_94 : ins 29 94 = some (.istore 5, 96, 0, 0) := by decide +kernel
theorem i29_96 : ins 29 96 = some (.iload 5, 98, 0, 0) := by decide +kernel
theorem i29_98 : ins 29 98 = some (.aload_n 1, 99, 0, 0) := by decide +kernel
theorem i29_99 : ins 29 99 = some (.getfield 49, 102, 10, 1) := by decide +kernel
theorem i29_102 : ins 29 102 = some (.if_icmp .ge (41), 105, 143, 0) := by decide +kernel
theorem i29_105 : ins 29 105 = some (.aload_n 0, 106, 0, 0) := by decide +kernel
theorem i29_106 : ins 29 106 = some (.getfield 20, 109, 1, 2) := by decide +kernel
theorem i29_109 : ins 29 109 = some (.iload 5, 111, 0, 0) := by decide +kernel
theorem i29_111 : ins 29 111 = some (.iaload, 112, 0, 0) := by decide +kernel
theorem i29_112 : ins 29 112 = some (.ifCond .le (25), 115, 137, 0) := by decide +kernel
theorem i29_115 : ins 29 115 = some (.iload 4, 117, 0, 0) := by decide +kernel
theorem i29_117 : ins 29 117 = some (.ifCond .lt (16), 120, 133, 0) := by decide +kernel
theorem i29_120 : ins 29 120 = some (.aload_n 0, 121, 0, 0) := by decide +kernel
theorem i29_121 : ins 29 121 = some (.aload_n 1, 122, 0, 0) := by decide +kernel
theorem i29_122 : ins 29 122 = some (.iload 5, 124, 0, 0) := by decide +kernel
theorem i29_124 : ins 29 124 = some (.iload 4, 126, 0, 0) := by decide +kernel
theorem i29_126 : ins 29 126 = some (.iload_n 3, 127, 0, 0) := by decide +kernel
theorem i29_127 : ins 29 127 = some (.invokevirtual 74, 130, 30, 0) := by decide +kernel
theorem i29_130 : ins 29 130 = some (.ifCond .eq (7), 133, 137, 0) := by decide +kernel
theorem i29_133 : ins 29 133 = some (.iload 5, 135, 0, 0) := by decide +kernel
theorem i29_135 : ins 29 135 = some (.istore 4, 137, 0, 0) := by decide +kernel
theorem i29_137 : ins 29 137 = some (.iinc 5 (1), 140, 0, 1) := by decide +kernel
theorem i29_140 : ins 29 140 = some (.goto (-44), 143, 96, 0) := by decide +kernel
theorem i29_143 : ins 29 143 = some (.iload 4, 145, 0, 0) := by decide +kernel
theorem i29_145 : ins 29 145 = some (.ifCond .lt (23), 148, 168, 0) := by decide +kernel
theorem i29_148 : ins 29 148 = some (.aload_n 0, 149, 0, 0) := by decide +kernel
theorem i29_149 : ins 29 149 = some (.aload_n 1, 150, 0, 0) := by decide +kernel
theorem i29_150 : ins 29 150 = some (.iload 4, 152, 0, 0) := by decide +kernel
theorem i29_152 : ins 29 152 = some (.iload_n 3, 153, 0, 0) := by decide +kernel
theorem i29_153 : ins 29 153 = some (.invokevirtual 78, 156, 27, 0) := by decide +kernel
theorem i29_156 : ins 29 156 = some (.aload_n 1, 157, 0, 0) := by decide +kernel
theorem i29_157 : ins 29 157 = some (.getfield 81, 160, 10, 4) := by decide +kernel
theorem i29_160 : ins 29 160 = some (.if_icmp .le (8), 163, 168, 0) := by decide +kernel
theorem i29_163 : ins 29 163 = some (.bipush (-2), 165, 0, -2) := by decide +kernel
theorem i29_165 : ins 29 165 = some (.goto (5), 168, 170, 0) := by decide +kernel
theorem i29_168 : ins 29 168 = some (.iload 4, 170, 0, 0) := by decide +kernel
theorem i29_170 : ins 29 170 = some (.ireturn, 171, 0, 0) := by decide +kernel
theorem i30_0 : ins 30 0 = some (.aload_n 0, 1, 0, 0) := by decide +kernel
theorem i30_1 : ins 30 1 = some (.getfield 20, 4, 1, 2) := by decide +kernel
theorem i30_4 : ins 30 4 = some (.iload_n 2, 5, 0, 0) := by decide +kernel
theorem i30_5 : ins 30 5 = some (.iaload, 6, 0, 0) := by decide +kernel
theorem i30_6 : ins 30 6 = some (.aload_n 0, 7, 0, 0) := by decide +kernel
theorem i30_7 : ins 30 7 = some (.getfield 20, 10, 1, 2) := by decide +kernel
theorem i30_10 : ins 30 10 = some (.iload_n 3, 11, 0, 0) := by decide +kernel
theorem i30_11 : ins 30 11 = some (.iaload, 12, 0, 0) := by decide +kernel
theorem i30_12 : ins 30 12 = some (.if_icmp .eq (24), 15, 36, 0) := by decide +kernel
theorem i30_15 : ins 30 15 = some (.aload_n 0, 16, 0, 0) := by decide +kernel
theorem i30_16 : ins 30 16 = some (.getfield 20, 19, 1, 2) := by decide +kernel
theorem i30_19 : ins 30 19 = some (.iload_n 2, 20, 0, 0) := by decide +kernel
theorem i30_20 : ins 30 20 = some (.iaload, 21, 0, 0) := by decide +kernel
theorem i30_21 : ins 30 21 = some (.aload_n 0, 22, 0, 0) := by decide +kernel
theorem i30_22 : ins 30 22 = some (.getfield 20, 25, 1, 2) := by decide +kernel
theorem i30_25 : ins 30 25 = some (.iload_n 3, 26, 0, 0) := by decide +kernel
theorem i30_26 : ins 30 26 = some (.iaload, 27, 0, 0) := by decide +kernel
theorem i30_27 : ins 30 27 = some (.if_icmp .le (7), 30, 34, 0) := by decide +kernel
theorem i30_30 : ins 30 30 = some (.iconst (1), 31, 0, 1) := by decide +kernel
theorem i30_31 : ins 30 31 = some (.goto (4), 34, 35, 0) := by decide +kernel
theorem i30_34 : ins 30 34 = some (.iconst (0), 35, 0, 0) := by decide +kernel
theorem i30_35 : ins 30 35 = some (.ireturn, 36, 0, 0) := by decide +kernel
theorem i30_36 : ins 30 36 = some (.aload_n 0, 37, 0, 0) := by decide +kernel
theorem i30_37 : ins 30 37 = some (.aload_n 1, 38, 0, 0) := by decide +kernel
theorem i30_38 : ins 30 38 = some (.iload_n 2, 39, 0, 0) := by decide +kernel
theorem i30_39 : ins 30 39 = some (.iload 4, 41, 0, 0) := by decide +kernel
theorem i30_41 : ins 30 41 = some (.invokevirtual 78, 44, 27, 0) := by decide +kernel
theorem i30_44 : ins 30 44 = some (.aload_n 0, 45, 0, 0) := by decide +kernel
theorem i30_45 : ins 30 45 = some (.aload_n 1, 46, 0, 0) := by decide +kernel
theorem i30_46 : ins 30 46 = some (.iload_n 3, 47, 0, 0) := by decide +kernel
theorem i30_47 : ins 30 47 = some (.iload 4, 49, 0, 0) := by decide +kernel
theorem i30_49 : ins 30 49 = some (.invokevirtual 78, 52, 27, 0) := by decide +kernel
theorem i30_52 : ins 30 52 = some (.if_icmp .ge (7), 55, 59, 0) := by decide +kernel
theorem i30_55 : ins 30 55 = some (.iconst (1), 56, 0, 1) := by decide +kernel
theorem i30_56 : ins 30 56 = some (.goto (4), 59, 60, 0) := by decide +kernel
theorem i30_59 : ins 30 59 = some (.iconst (0), 60, 0, 0) := by decide +kernel
theorem i30_60 : ins 30 60 = some (.ireturn, 61, 0, 0) := by decide +kernel
theorem i31_0 : ins 31 0 = some (.aload_n 0, 1, 0, 0) := by decide +kernel
theorem i31_1 : ins 31 1 = some (.aload_n 1, 2, 0, 0) := by decide +kernel
theorem i31_2 : ins 31 2 = some (.aload_n 2, 3, 0, 0) := by decide +kernel
theorem i31_3 : ins 31 3 = some (.iload_n 3, 4, 0, 0) := by decide +kernel
theorem i31_4 : ins 31 4 = some (.invokevirtual 84, 7, 26, 0) := by decide +kernel
theorem i31_7 : ins 31 7 = some (.aload_n 0, 8, 0, 0) := by decide +kernel
theorem i31_8 : ins 31 8 = some (.aload_n 1, 9, 0, 0) := by decide +kernel
theorem i31_9 : ins 31 9 = some (.iconst (-1), 10, 0, -1) := by decide +kernel
theorem i31_10 : ins 31 10 = some (.iconst (-1), 11, 0, -1) := by decide +kernel
theorem i31_11 : ins 31 11 = some (.invokevirtual 88, 14, 29, 0) := by decide +kernel
theorem i31_14 : ins 31 14 = some (.ireturn, 15, 0, 0) := by decide +kernel
theorem i32_0 : ins 32 0 = some (.iconst (0), 1, 0, 0) := by decide +kernel
theorem i32_1 : ins 32 1 = some (.istore 5, 3, 0, 0) := by decide +kernel
theorem i32_3 : ins 32 3 = some (.iload 5, 5, 0, 0) := by decide +kernel
theorem i32_5 : ins 32 5 = some (.aload_n 1, 6, 0, 0) := by decide +kernel
theorem i32_6 : ins 32 6 = some (.getfield 91, 9, 10, 3) := by decide +kernel
theorem i32_9 : ins 32 9 = some (.if_icmp .ge (78), 12, 87, 0) := by decide +kernel
theorem i32_12 : ins 32 12 = some (.iconst (0), 13, 0, 0) := by decide +kernel
theorem i32_13 : ins 32 13 = some (.istore 6, 15, 0, 0) := by decide +kernel
theorem i32_15 : ins 32 15 = some (.iload 6, 17, 0, 0) := by decide +kernel
theorem i32_17 : ins 32 17 = some (.aload_n 1, 18, 0, 0) := by decide +kernel
theorem i32_18 : ins 32 18 = some (.getfield 49, 21, 10, 1) := by decide +kernel
theorem i32_21 : ins 32 21 = some (.if_icmp .ge (60), 24, 81, 0) := by decide +kernel
theorem i32_24 : ins 32 24 = some (.iload 6, 26, 0, 0) := by decide +kernel
theorem i32_26 : ins 32 26 = some (.iload_n 3, 27, 0, 0) := by decide +kernel
theorem i32_27 : ins 32 27 = some (.if_icmp .ne (8), 30, 35, 0) := by decide +kernel
theorem i32_30 : ins 32 30 = some (.iload 4, 32, 0, 0) := by decide +kernel
theorem i32_32 : ins 32 32 = some (.goto (12), 35, 44, 0) := by decide +kernel
theorem i32_35 : ins 32 35 = some (.aload_n 1, 36, 0, 0) := by decide +kernel
theorem i32_36 : ins 32 36 = some (.aload_n 2, 37, 0, 0) := by decide +kernel
theorem i32_37 : ins 32 37 = some (.iload 6, 39, 0, 0) := by decide +kernel
theorem i32_39 : ins 32 39 = some (.iload 5, 41, 0, 0) := by decide +kernel
theorem i32_41 : ins 32 41 = some (.invokevirtual 94, 44, 97, 0) := by decide +kernel
theorem i32_44 : ins 32 44 = some (.istore 7, 46, 0, 0) := by decide +kernel
theorem i32_46 : ins 32 46 = some (.iload 7, 48, 0, 0) := by decide +kernel
theorem i32_48 : ins 32 48 = some (.ifCond .lt (27), 51, 75, 0) := by decide +kernel
theorem i32_51 : ins 32 51 = some (.iload 7, 53, 0, 0) := by decide +kernel
theorem i32_53 : ins 32 53 = some (.aload_n 1, 54, 0, 0) := by decide +kernel
theorem i32_54 : ins 32 54 = some (.getfield 52, 57, 10, 0) := by decide +kernel
theorem i32_57 : ins 32 57 = some (.if_icmp .ge (18), 60, 75, 0) := by decide +kernel
theorem i32_60 : ins 32 60 = some (.aload_n 2, 61, 0, 0) := by decide +kernel
theorem i32_61 : ins 32 61 = some (.iload 6, 63, 0, 0) := by decide +kernel
theorem i32_63 : ins 32 63 = some (.iload 7, 65, 0, 0) := by decide +kernel
theorem i32_65 : ins 32 65 = some (.aload_n 1, 66, 0, 0) := by decide +kernel
theorem i32_66 : ins 32 66 = some (.getfield 98, 69, 10, 8) := by decide +kernel
theorem i32_69 : ins 32 69 = some (.iload 6, 71, 0, 0) := by decide +kernel
theorem i32_71 : ins 32 71 = some (.iaload, 72, 0, 0) := by decide +kernel
theorem i32_72 : ins 32 72 = some (.invokevirtual 101, 75, 94, 0) := by decide +kernel
theorem i32_75 : ins 32 75 = some (.iinc 6 (1), 78, 0, 1) := by decide +kernel
theorem i32_78 : ins 32 78 = some (.goto (-63), 81, 15, 0) := by decide +kernel
theorem i32_81 : ins 32 81 = some (.iinc 5 (1), 84, 0, 1) := by decide +kernel
theorem i32_84 : ins 32 84 = some (.goto (-81), 87, 3, 0) := by decide +kernel
theorem i32_87 : ins 32 87 = some (.return_, 88, 0, 0) := by decide +kernel
theorem i33_0 : ins 33 0 = some (.aload_n 0, 1, 0, 0) := by decide +kernel
theorem i33_1 : ins 33 1 = some (.aload_n 1, 2, 0, 0) := by decide +kernel
theorem i33_2 : ins 33 2 = some (.aload_n 2, 3, 0, 0) := by decide +kernel
theorem i33_3 : ins 33 3 = some (.aload_n 1, 4, 0, 0) := by decide +kernel
theorem i33_4 : ins 33 4 = some (.getfield 105, 7, 10, 5) := by decide +kernel
theorem i33_7 : ins 33 7 = some (.invokevirtual 84, 10, 26, 0) := by decide +kernel
theorem i33_10 : ins 33 10 = some (.aload_n 2, 11, 0, 0) := by decide +kernel
theorem i33_11 : ins 33 11 = some (.aload_n 0, 12, 0, 0) := by decide +kernel
theorem i33_12 : ins 33 12 = some (.aload_n 1, 13, 0, 0) := by decide +kernel
theorem i33_13 : ins 33 13 = some (.iconst (-1), 14, 0, -1) := by decide +kernel
theorem i33_14 : ins 33 14 = some (.iconst (-1), 15, 0, -1) := by decide +kernel
theorem i33_15 : ins 33 15 = some (.invokevirtual 88, 18, 29, 0) := by decide +kernel
theorem i33_18 : ins 33 18 = some (.putfield 108, 21, 9, 2) := by decide +kernel
theorem i33_21 : ins 33 21 = some (.aload_n 2, 22, 0, 0) := by decide +kernel
theorem i33_22 : ins 33 22 = some (.getfield 108, 25, 9, 2) := by decide +kernel
theorem i33_25 : ins 33 25 = some (.ifCond .lt (16), 28, 41, 0) := by decide +kernel
theorem i33_28 : ins 33 28 = some (.aload_n 2, 29, 0, 0) := by decide +kernel
theorem i33_29 : ins 33 29 = some (.getfield 111, 32, 9, 5) := by decide +kernel
theorem i33_32 : ins 33 32 = some (.aload_n 2, 33, 0, 0) := by decide +kernel
theorem i33_33 : ins 33 33 = some (.getfield 108, 36, 9, 2) := by decide +kernel
theorem i33_36 : ins 33 36 = some (.dup2, 37, 0, 0) := by decide +kernel
theorem i33_37 : ins 33 37 = some (.iaload, 38, 0, 0) := by decide +kernel
theorem i33_38 : ins 33 38 = some (.iconst (1), 39, 0, 1) := by decide +kernel
theorem i33_39 : ins 33 39 = some (.iadd, 40, 0, 0) := by decide +kernel
theorem i33_40 : ins 33 40 = some (.iastore, 41, 0, 0) := by decide +kernel
theorem i33_41 : ins 33 41 = some (.return_, 42, 0, 0) := by decide +kernel
theorem i34_0 : ins 34 0 = some (.aload_n 2, 1, 0, 0) := by decide +kernel
theorem i34_1 : ins 34 1 = some (.dup, 2, 0, 0) := by decide +kernel
theorem i34_2 : ins 34 2 = some (.getfield 114, 5, 9, 1) := by decide +kernel
theorem i34_5 : ins 34 5 = some (.iconst (1), 6, 0, 1) := by decide +kernel
theorem i34_6 : ins 34 6 = some (.iadd, 7, 0, 0) := by decide +kernel
theorem i34_7 : ins 34 7 = some (.putfield 114, 10, 9, 1) := by decide +kernel
theorem i34_10 : ins 34 10 = some (.aload_n 2, 11, 0, 0) := by decide +kernel
theorem i34_11 : ins 34 11 = some (.getfield 108, 14, 9, 2) := by decide +kernel
theorem i34_14 : ins 34 14 = some (.ifCond .lt (44), 17, 58, 0) := by decide +kernel
theorem i34_17 : ins 34 17 = some (.iconst (0), 18, 0, 0) := by decide +kernel
theorem i34_18 : ins 34 18 = some (.istore_n 3, 19, 0, 0) := by decide +kernel
theorem i34_19 : ins 34 19 = some (.iload_n 3, 20, 0, 0) := by decide +kernel
theorem i34_20 : ins 34 20 = some (.aload_n 1, 21, 0, 0) := by decide +kernel
theorem i34_21 : ins 34 21 = some (.getfield 52, 24, 10, 0) := by decide +kernel
theorem i34_24 : ins 34 24 = some (.if_icmp .ge (34), 27, 58, 0) := by decide +kernel
theorem i34_27 : ins 34 27 = some (.aload_n 2, 28, 0, 0) := by decide +kernel
theorem i34_28 : ins 34 28 = some (.getfield 117, 31, 9, 3) := by decide +kernel
theorem i34_31 : ins 34 31 = some (.iload_n 3, 32, 0, 0) := by decide +kernel
theorem i34_32 : ins 34 32 = some (.aload_n 2, 33, 0, 0) := by decide +kernel
theorem i34_33 : ins 34 33 = some (.getfield 117, 36, 9, 3) := by decide +kernel
theorem i34_36 : ins 34 36 = some (.iload_n 3, 37, 0, 0) := by decide +kernel
theorem i34_37 : ins 34 37 = some (.iaload, 38, 0, 0) := by decide +kernel
theorem i34_38 : ins 34 38 = some (.aload_n 1, 39, 0, 0) := by decide +kernel
theorem i34_39 : ins 34 39 = some (.aload_n 2, 40, 0, 0) := by decide +kernel
theorem i34_40 : ins 34 40 = some (.iload_n 3, 41, 0, 0) := by decide +kernel
theorem i34_41 : ins 34 41 = some (.invokevirtual 120, 44, 101, 0) := by decide +kernel
theorem i34_44 : ins 34 44 = some (.iadd, 45, 0, 0) := by decide +kernel
theorem i34_45 : ins 34 45 = some (.iconst (0), 46, 0, 0) := by decide +kernel
theorem i34_46 : ins 34 46 = some (.bipush (99), 48, 0, 99) := by decide +kernel
theorem i34_48 : ins 34 48 = some (.invokestatic 46, 51, 146, 1) := by decide +kernel
theorem i34_51 : ins 34 51 = some (.iastore, 52, 0, 0) := by decide +kernel
theorem i34_52 : ins 34 52 = some (.iinc 3 (1), 55, 0, 1) := by decide +kernel
theorem i34_55 : ins 34 55 = some (.goto (-36), 58, 19, 0) := by decide +kernel
theorem i34_58 : ins 34 58 = some (.aload_n 2, 59, 0, 0) := by decide +kernel
theorem i34_59 : ins 34 59 = some (.dup, 60, 0, 0) := by decide +kernel
theorem i34_60 : ins 34 60 = some (.getfield 33, 63, 9, 0) := by decide +kernel
theorem i34_63 : ins 34 63 = some (.iconst (1), 64, 0, 1) := by decide +kernel
theorem i34_64 : ins 34 64 = some (.iadd, 65, 0, 0) := by decide +kernel
theorem i34_65 : ins 34 65 = some (.putfield 33, 68, 9, 0) := by decide +kernel
theorem i34_68 : ins 34 68 = some (.return_, 69, 0, 0) := by decide +kernel
theorem i35_0 : ins 35 0 = some (.aload_n 0, 1, 0, 0) := by decide +kernel
theorem i35_1 : ins 35 1 = some (.aload_n 1, 2, 0, 0) := by decide +kernel
theorem i35_2 : ins 35 2 = some (.aload_n 2, 3, 0, 0) := by decide +kernel
theorem i35_3 : ins 35 3 = some (.iload_n 3, 4, 0, 0) := by decide +kernel
theorem i35_4 : ins 35 4 = some (.iload 4, 6, 0, 0) := by decide +kernel
theorem i35_6 : ins 35 6 = some (.invokevirtual 124, 9, 32, 0) := by decide +kernel
theorem i35_9 : ins 35 9 = some (.aload_n 0, 10, 0, 0) := by decide +kernel
theorem i35_10 : ins 35 10 = some (.aload_n 1, 11, 0, 0) := by decide +kernel
theorem i35_11 : ins 35 11 = some (.aload_n 2, 12, 0, 0) := by decide +kernel
theorem i35_12 : ins 35 12 = some (.invokevirtual 128, 15, 33, 0) := by decide +kernel
theorem i35_15 : ins 35 15 = some (.aload_n 0, 16, 0, 0) := by decide +kernel
theorem i35_16 : ins 35 16 = some (.aload_n 1, 17, 0, 0) := by decide +kernel
theorem i35_17 : ins 35 17 = some (.aload_n 2, 18, 0, 0) := by decide +kernel
theorem i35_18 : ins 35 18 = some (.invokevirtual 132, 21, 34, 0) := by decide +kernel
theorem i35_21 : ins 35 21 = some (.aload_n 2, 22, 0, 0) := by decide +kernel
theorem i35_22 : ins 35 22 = some (.getfield 108, 25, 9, 2) := by decide +kernel
theorem i35_25 : ins 35 25 = some (.ireturn, 26, 0, 0) := by decide +kernel
theorem i36_0 : ins 36 0 = some (.aload_n 0, 1, 0, 0) := by decide +kernel
theorem i36_1 : ins 36 1 = some (.invokespecial 1, 4, 1000, 0) := by decide +kernel
theorem i36_4 : ins 36 4 = some (.aload_n 0, 5, 0, 0) := by decide +kernel
theorem i36_5 : ins 36 5 = some (.iconst (0), 6, 0, 0) := by decide +kernel
theorem i36_6 : ins 36 6 = some (.putfield 7, 9, 2, 0) := by decide +kernel
theorem i36_9 : ins 36 9 = some (.aload_n 0, 10, 0, 0) := by decide +kernel
theorem i36_10 : ins 36 10 = some (.sipush (400), 13, 0, 400) := by decide +kernel
theorem i36_13 : ins 36 13 = some (.newarray .int, 15, 0, 0) := by decide +kernel
theorem i36_15 : ins 36 15 = some (.putfield 13, 18, 2, 1) := by decide +kernel
theorem i36_18 : ins 36 18 = some (.aload_n 0, 19, 0, 0) := by decide +kernel
theorem i36_19 : ins 36 19 = some (.sipush (400), 22, 0, 400) := by decide +kernel
theorem i36_22 : ins 36 22 = some (.newarray .int, 24, 0, 0) := by decide +kernel
theorem i36_24 : ins 36 24 = some (.putfield 17, 27, 2, 2) := by decide +kernel
theorem i36_27 : ins 36 27 = some (.aload_n 0, 28, 0, 0) := by decide +kernel
theorem i36_28 : ins 36 28 = some (.bipush (7), 30, 0, 7) := by decide +kernel
theorem i36_30 : ins 36 30 = some (.newarray .int, 32, 0, 0) := by decide +kernel
theorem i36_32 : ins 36 32 = some (.putfield 20, 35, 2, 3) := by decide +kernel
theorem i36_35 : ins 36 35 = some (.aload_n 0, 36, 0, 0) := by decide +kernel
theorem i36_36 : ins 36 36 = some (.bipush (24), 38, 0, 24) := by decide +kernel
theorem i36_38 : ins 36 38 = some (.newarray .int, 40, 0, 0) := by decide +kernel
theorem i36_40 : ins 36 40 = some (.putfield 23, 43, 2, 4) := by decide +kernel
theorem i36_43 : ins 36 43 = some (.return_, 44, 0, 0) := by decide +kernel
theorem i37_0 : ins 37 0 = some (.aload_n 0, 1, 0, 0) := by decide +kernel
theorem i37_1 : ins 37 1 = some (.getfield 7, 4, 2, 0) := by decide +kernel
theorem i37_4 : ins 37 4 = some (.sipush (400), 7, 0, 400) := by decide +kernel
theorem i37_7 : ins 37 7 = some (.if_icmp .ge (33), 10, 40, 0) := by decide +kernel
theorem i37_10 : ins 37 10 = some (.aload_n 0, 11, 0, 0) := by decide +kernel
theorem i37_11 : ins 37 11 = some (.getfield 13, 14, 2, 1) := by decide +kernel
theorem i37_14 : ins 37 14 = some (.aload_n 0, 15, 0, 0) := by decide +kernel
theorem i37_15 : ins 37 15 = some (.getfield 7, 18, 2, 0) := by decide +kernel
theorem i37_18 : ins 37 18 = some (.iload_n 1, 19, 0, 0) := by decide +kernel
theorem i37_19 : ins 37 19 = some (.iastore, 20, 0, 0) := by decide +kernel
theorem i37_20 : ins 37 20 = some (.aload_n 0, 21, 0, 0) := by decide +kernel
theorem i37_21 : ins 37 21 = some (.getfield 17, 24, 2, 2) := by decide +kernel
theorem i37_24 : ins 37 24 = some (.aload_n 0, 25, 0, 0) := by decide +kernel
theorem i37_25 : ins 37 25 = some (.getfield 7, 28, 2, 0) := by decide +kernel
theorem i37_28 : ins 37 28 = some (.iload_n 2, 29, 0, 0) := by decide +kernel
theorem i37_29 : ins 37 29 = some (.iastore, 30, 0, 0) := by decide +kernel
theorem i37_30 : ins 37 30 = some (.aload_n 0, 31, 0, 0) := by decide +kernel
theorem i37_31 : ins 37 31 = some (.dup, 32, 0, 0) := by decide +kernel
theorem i37_32 : ins 37 32 = some (.getfield 7, 35, 2, 0) := by decide +kernel
theorem i37_35 : ins 37 35 = some (.iconst (1), 36, 0, 1) := by decide +kernel
theorem i37_36 : ins 37 36 = some (.iadd, 37, 0, 0) := by decide +kernel
theorem i37_37 : ins 37 37 = some (.putfield 7, 40, 2, 0) := by decide +kernel
theorem i37_40 : ins 37 40 = some (.return_, 41, 0, 0) := by decide +kernel
theorem i38_0 : ins 38 0 = some (.iload_n 1, 1, 0, 0) := by decide +kernel
theorem i38_1 : ins 38 1 = some (.ifCond .lt (20), 4, 21, 0) := by decide +kernel
theorem i38_4 : ins 38 4 = some (.iload_n 1, 5, 0, 0) := by decide +kernel
theorem i38_5 : ins 38 5 = some (.sipush (400), 8, 0, 400) := by decide +kernel
theorem i38_8 : ins 38 8 = some (.if_icmp .ge (13), 11, 21, 0) := by decide +kernel
theorem i38_11 : ins 38 11 = some (.aload_n 0, 12, 0, 0) := by decide +kernel
theorem i38_12 : ins 38 12 = some (.getfield 17, 15, 2, 2) := by decide +kernel
theorem i38_15 : ins 38 15 = some (.iload_n 1, 16, 0, 0) := by decide +kernel
theorem i38_16 : ins 38 16 = some (.aload_n 0, 17, 0, 0) := by decide +kernel
theorem i38_17 : ins 38 17 = some (.getfield 7, 20, 2, 0) := by decide +kernel
theorem i38_20 : ins 38 20 = some (.iastore, 21, 0, 0) := by decide +kernel
theorem i38_21 : ins 38 21 = some (.return_, 22, 0, 0) := by decide +kernel
theorem i39_0 : ins 39 0 = some (.aload_n 0, 1, 0, 0) := by decide +kernel
theorem i39_1 : ins 39 1 = some (.getfield 20, 4, 2, 3) := by decide +kernel
theorem i39_4 : ins 39 4 = some (.iconst (0), 5, 0, 0) := by decide +kernel
theorem i39_5 : ins 39 5 = some (.iload_n 1, 6, 0, 0) := by decide +kernel
theorem i39_6 : ins 39 6 = some (.iastore, 7, 0, 0) := by decide +kernel
theorem i39_7 : ins 39 7 = some (.aload_n 0, 8, 0, 0) := by decide +kernel
theorem i39_8 : ins 39 8 = some (.getfield 20, 11, 2, 3) := by decide +kernel
theorem i39_11 : ins 39 11 = some (.bipush (6), 13, 0, 6) := by decide +kernel
theorem i39_13 : ins 39 13 = some (.iload_n 2, 14, 0, 0) := by decide +kernel
theorem i39_14 : ins 39 14 = some (.iastore, 15, 0, 0) := by decide +kernel
theorem i39_15 : ins 39 15 = some (.aload_n 0, 16, 0, 0) := by decide +kernel
theorem i39_16 : ins 39 16 = some (.getfield 20, 19, 2, 3) := by decide +kernel
theorem i39_19 : ins 39 19 = some (.iconst (1), 20, 0, 1) := by decide +kernel
theorem i39_20 : ins 39 20 = some (.iload_n 3, 21, 0, 0) := by decide +kernel
theorem i39_21 : ins 39 21 = some (.iastore, 22, 0, 0) := by decide +kernel
theorem i39_22 : ins 39 22 = some (.aload_n 0, 23, 0, 0) := by decide +kernel
theorem i39_23 : ins 39 23 = some (.getfield 20, 26, 2, 3) := by decide +kernel
theorem i39_26 : ins 39 26 = some (.iconst (2), 27, 0, 2) := by decide +kernel
theorem i39_27 : ins 39 27 = some (.iload 4, 29, 0, 0) := by decide +kernel
theorem i39_29 : ins 39 29 = some (.iastore, 30, 0, 0) := by decide +kernel
theorem i39_30 : ins 39 30 = some (.aload_n 0, 31, 0, 0) := by decide +kernel
theorem i39_31 : ins 39 31 = some (.getfield 20, 34, 2, 3) := by decide +kernel
theorem i39_34 : ins 39 34 = some (.iconst (3), 35, 0, 3) := by decide +kernel
theorem i39_35 : ins 39 35 = some (.iload 5, 37, 0, 0) := by decide +kernel
theorem i39_37 : ins 39 37 = some (.iastore, 38, 0, 0) := by decide +kernel
theorem i39_38 : ins 39 38 = some (.aload_n 0, 39, 0, 0) := by decide +kernel
theorem i39_39 : ins 39 39 = some (.getfield 20, 42, 2, 3) := by decide +kernel
theorem i39_42 : ins 39 42 = some (.iconst (4), 43, 0, 4) := by decide +kernel
theorem i39_43 : ins 39 43 = some (.iload 6, 45, 0, 0) := by decide +kernel
theorem i39_45 : ins 39 45 = some (.iastore, 46, 0, 0) := by decide +kernel
theorem i39_46 : ins 39 46 = some (.aload_n 0, 47, 0, 0) := by decide +kernel
theorem i39_47 : ins 39 47 = some (.getfield 20, 50, 2, 3) := by decide +kernel
theorem i39_50 : ins 39 50 = some (.iconst (5), 51, 0, 5) := by decide +kernel
theorem i39_51 : ins 39 51 = some (.iload 7, 53, 0, 0) := by decide +kernel
theorem i39_53 : ins 39 53 = some (.iastore, 54, 0, 0) := by decide +kernel
theorem i39_54 : ins 39 54 = some (.return_, 55, 0, 0) := by decide +kernel
theorem i40_0 : ins 40 0 = some (.iconst (0), 1, 0, 0) := by decide +kernel
theorem i40_1 : ins 40 1 = some (.istore_n 2, 2, 0, 0) := by decide +kernel
theorem i40_2 : ins 40 2 = some (.iconst (0), 3, 0, 0) := by decide +kernel
theorem i40_3 : ins 40 3 = some (.iload_n 1, 4, 0, 0) := by decide +kernel
theorem i40_4 : ins 40 4 = some (.invokestatic 26, 7, 1, 0) := by decide +kernel
theorem i40_7 : ins 40 7 = some (.istore_n 3, 8, 0, 0) := by decide +kernel
theorem i40_8 : ins 40 8 = some (.iload_n 3, 9, 0, 0) := by decide +kernel
theorem i40_9 : ins 40 9 = some (.aload_n 0, 10, 0, 0) := by decide +kernel
theorem i40_10 : ins 40 10 = some (.getfield 7, 13, 2, 0) := by decide +kernel
theorem i40_13 : ins 40 13 = some (.if_icmp .ge (192), 16, 205, 0) := by decide +kernel
theorem i40_16 : ins 40 16 = some (.aload_n 0, 17, 0, 0) := by decide +kernel
theorem i40_17 : ins 40 17 = some (.getfield 13, 20, 2, 1) := by decide +kernel
theorem i40_20 : ins 40 20 = some (.iload_n 3, 21, 0, 0) := by decide +kernel
theorem i40_21 : ins 40 21 = some (.iaload, 22, 0, 0) := by decide +kernel
theorem i40_22 : ins 40 22 = some (.istore 4, 24, 0, 0) := by decide +kernel
theorem i40_24 : ins 40 24 = some (.iload 4, 26, 0, 0) := by decide +kernel
theorem i40_26 : ins 40 26 = some (.iconst (4), 27, 0, 4) := by decide +kernel
theorem i40_27 : ins 40 27 = some (.if_icmp .ne (20), 30, 47, 0) := by decide +kernel
theorem i40_30 : ins 40 30 = some (.iload_n 2, 31, 0, 0) := by decide +kernel
theorem i40_31 : ins 40 31 = some (.ifCond .le (14), 34, 45, 0) := by decide +kernel
theorem i40_34 : ins 40 34 = some (.aload_n 0, 35, 0, 0) := by decide +kernel
theorem i40_35 : ins 40 35 = some (.getfield 23, 38, 2, 4) := by decide +kernel
theorem i40_38 : ins 40 38 = some (.iload_n 2, 39, 0, 0) := by decide +kernel
theorem i40_39 : ins 40 39 = some (.iconst (1), 40, 0, 1) := by decide +kernel
theorem i40_40 : ins 40 40 = some (.isub, 41, 0, 0) := by decide +kernel
theorem i40_41 : ins 40 41 = some (.iaload, 42, 0, 0) := by decide +kernel
theorem i40_42 : ins 40 42 = some (.goto (4), 45, 46, 0) := by decide +kernel
theorem i40_45 : ins 40 45 = some (.iconst (0), 46, 0, 0) := by decide +kernel
theorem i40_46 : ins 40 46 = some (.ireturn, 47, 0, 0) := by decide +kernel
theorem i40_47 : ins 40 47 = some (.iload 4, 49, 0, 0) := by decide +kernel
theorem i40_49 : ins 40 49 = some (.iconst (1), 50, 0, 1) := by decide +kernel
theorem i40_50 : ins 40 50 = some (.if_icmp .eq (9), 53, 59, 0) := by decide +kernel
theorem i40_53 : ins 40 53 = some (.iload 4, 55, 0, 0) := by decide +kernel
theorem i40_55 : ins 40 55 = some (.iconst (2), 56, 0, 2) := by decide +kernel
theorem i40_56 : ins 40 56 = some (.if_icmp .ne (48), 59, 104, 0) := by decide +kernel
theorem i40_59 : ins 40 59 = some (.iload_n 2, 60, 0, 0) := by decide +kernel
theorem i40_60 : ins 40 60 = some (.bipush (24), 62, 0, 24) := by decide +kernel
theorem i40_62 : ins 40 62 = some (.if_icmp .lt (5), 65, 67, 0) := by decide +kernel
theorem i40_65 : ins 40 65 = some (.iconst (0), 66, 0, 0) := by decide +kernel
theorem i40_66 : ins 40 66 = some (.ireturn, 67, 0, 0) := by decide +kernel
theorem i40_67 : ins 40 67 = some (.aload_n 0, 68, 0, 0) := by decide +kernel
theorem i40_68 : ins 40 68 = some (.getfield 23, 71, 2, 4) := by decide +kernel
theorem i40_71 : ins 40 71 = some (.iload_n 2, 72, 0, 0) := by decide +kernel
theorem i40_72 : ins 40 72 = some (.iload 4, 74, 0, 0) := by decide +kernel
theorem i40_74 : ins 40 74 = some (.iconst (1), 75, 0, 1) := by decide +kernel
theorem i40_75 : ins 40 75 = some (.if_icmp .ne (12), 78, 87, 0) := by decide +kernel
theorem i40_78 : ins 40 78 = some (.aload_n 0, 79, 0, 0) := by decide +kernel
theorem i40_79 : ins 40 79 = some (.getfield 17, 82, 2, 2) := by decide +kernel
theorem i40_82 : ins 40 82 = some (.iload_n 3, 83, 0, 0) := by decide +kernel
theorem i40_83 : ins 40 83 = some (.iaload, 84, 0, 0) := by decide +kernel
theorem i40_84 : ins 40 84 = some (.goto (13), 87, 97, 0) := by decide +kernel
theorem i40_87 : ins 40 87 = some (.aload_n 0, 88, 0, 0) := by decide +kernel
theorem i40_88 : ins 40 88 = some (.aload_n 0, 89, 0, 0) := by decide +kernel
theorem i40_89 : ins 40 89 = some (.getfield 17, 92, 2, 2) := by decide +kernel
theorem i40_92 : ins 40 92 = some (.iload_n 3, 93, 0, 0) := by decide +kernel
theorem i40_93 : ins 40 93 = some (.iaload, 94, 0, 0) := by decide +kernel
theorem i40_94 : ins 40 94 = some (.invokevirtual 32, 97, 41, 0) := by decide +kernel
theorem i40_97 : ins 40 97 = some (.iastore, 98, 0, 0) := by decide +kernel
theorem i40_98 : ins 40 98 = some (.iinc 2 (1), 101, 0, 1) := by decide +kernel
theorem i40_101 : ins 40 101 = some (.goto (98), 104, 199, 0) := by decide +kernel
theorem i40_104 : ins 40 104 = some (.iload_n 2, 105, 0, 0) := by decide +kernel
theorem i40_105 : ins 40 105 = some (.iconst (2), 106, 0, 2) := by decide +kernel
theorem i40_106 : ins 40 106 = some (.if_icmp .ge (5), 109, 111, 0) := by decide +kernel
theorem i40_109 : ins 40 109 = some (.iconst (0), 110, 0, 0) := by decide +kernel
theorem i40_110 : ins 40 110 = some (.ireturn, 111, 0, 0) := by decide +kernel
theorem i40_111 : ins 40 111 = some (.aload_n 0, 112, 0, 0) := by decide +kernel
theorem i40_112 : ins 40 112 = some (.getfield 23, 115, 2, 4) := by decide +kernel
theorem i40_115 : ins 40 115 = some (.iload_n 2, 116, 0, 0) := by decide +kernel
theorem i40_116 : ins 40 116 = some (.iconst (1), 117, 0, 1) := by decide +kernel
theorem i40_117 : ins 40 117 = some (.isub, 118, 0, 0) := by decide +kernel
theorem i40_118 : ins 40 118 = some (.iaload, 119, 0, 0) := by decide +kernel
theorem i40_119 : ins 40 119 = some (.istore 5, 121, 0, 0) := by decide +kernel
theorem i40_121 : ins 40 121 = some (.aload_n 0, 122, 0, 0) := by decide +kernel
theorem i40_122 : ins 40 122 = some (.getfield 23, 125, 2, 4) := by decide +kernel
theorem i40_125 : ins 40 125 = some (.iload_n 2, 126, 0, 0) := by decide +kernel
theorem i40_126 : ins 40 126 = some (.iconst (2), 127, 0, 2) := by decide +kernel
theorem i40_127 : ins 40 127 = some (.isub, 128, 0, 0) := by decide +kernel
theorem i40_128 : ins 40 128 = some (.iaload, 129, 0, 0) := by decide +kernel
theorem i40_129 : ins 40 129 = some (.istore 6, 131, 0, 0) := by decide +kernel
theorem i40_131 : ins 40 131 = some (.iinc 2 (-2), 134, 0, -2) := by decide +kernel
theorem i40_134 : ins 40 134 = some (.iload 4, 136, 0, 0) := by decide +kernel
theorem i40_136 : ins 40 136 = some (.iconst (3), 137, 0, 3) := by decide +kernel
theorem i40_137 : ins 40 137 = some (.if_icmp .ne (30), 140, 167, 0) := by decide +kernel
theorem i40_140 : ins 40 140 = some (.iload 6, 142, 0, 0) := by decide +kernel
theorem i40_142 : ins 40 142 = some (.iload 5, 144, 0, 0) := by decide +kernel
theorem i40_144 : ins 40 144 = some (.if_icmp .ge (7), 147, 151, 0) := by decide +kernel
theorem i40_147 : ins 40 147 = some (.iload_n 3, 148, 0, 0) := by decide +kernel
theorem i40_148 : ins 40 148 = some (.goto (15), 151, 163, 0) := by decide +kernel
theorem i40_151 : ins 40 151 = some (.iload_n 3, 152, 0, 0) := by decide +kernel
theorem i40_152 : ins 40 152 = some (.aload_n 0, 153, 0, 0) := by decide +kernel
theorem i40_153 : ins 40 153 = some (.getfield 17, 156, 2, 2) := by decide +kernel
theorem i40_156 : ins 40 156 = some (.iload_n 3, 157, 0, 0) := by decide +kernel
theorem i40_157 : ins 40 157 = some (.iaload, 158, 0, 0) := by decide +kernel
theorem i40_158 : ins 40 158 = some (.iconst (1), 159, 0, 1) := by decide +kernel
theorem i40_159 : ins 40 159 = some (.isub, 160, 0, 0) := by decide +kernel
theorem i40_160 : ins 40 160 = some (.invokestatic 26, 163, 1, 0) := by decide +kernel
theorem i40_163 : ins 40 163 = some (.istore_n 3, 164, 0, 0) := by decide +kernel
theorem i40_164 : ins 40 164 = some (.goto (35), 167, 199, 0) := by decide +kernel
theorem i40_167 : ins 40 167 = some (.iload 4, 169, 0, 0) := by decide +kernel
theorem i40_169 : ins 40 169 = some (.bipush (47), 171, 0, 47) := by decide +kernel
theorem i40_171 : ins 40 171 = some (.if_icmp .ne (10), 174, 181, 0) := by decide +kernel
theorem i40_174 : ins 40 174 = some (.iload 5, 176, 0, 0) := by decide +kernel
theorem i40_176 : ins 40 176 = some (.ifCond .ne (5), 179, 181, 0) := by decide +kernel
theorem i40_179 : ins 40 179 = some (.iconst (0), 180, 0, 0) := by decide +kernel
theorem i40_180 : ins 40 180 = some (.ireturn, 181, 0, 0) := by decide +kernel
theorem i40_181 : ins 40 181 = some (.aload_n 0, 182, 0, 0) := by decide +kernel
theorem i40_182 : ins 40 182 = some (.getfield 23, 185, 2, 4) := by decide +kernel
theorem i40_185 : ins 40 185 = some (.iload_n 2, 186, 0, 0) := by decide +kernel
theorem i40_186 : ins 40 186 = some (.iload 4, 188, 0, 0) := by decide +kernel
theorem i40_188 : ins 40 188 = some (.iload 6, 190, 0, 0) := by decide +kernel
theorem i40_190 : ins 40 190 = some (.iload 5, 192, 0, 0) := by decide +kernel
theorem i40_192 : ins 40 192 = some (.invokestatic 36, 195, 42, 0) := by decide +kernel
theorem i40_195 : ins 40 195 = some (.iastore, 196, 0, 0) := by decide +kernel
theorem i40_196 : ins 40 196 = some (.iinc 2 (1), 199, 0, 1) := by decide +kernel
theorem i40_199 : ins 40 199 = some (.iinc 3 (1), 202, 0, 1) := by decide +kernel
theorem i40_202 : ins 40 202 = some (.goto (-194), 205, 8, 0) := by decide +kernel
theorem i40_205 : ins 40 205 = some (.iconst (0), 206, 0, 0) := by decide +kernel
theorem i40_206 : ins 40 206 = some (.ireturn, 207, 0, 0) := by decide +kernel
theorem i41_0 : ins 41 0 = some (.iload_n 1, 1, 0, 0) := by decide +kernel
theorem i41_1 : ins 41 1 = some (.ifCond .lt (18), 4, 19, 0) := by decide +kernel
theorem i41_4 : ins 41 4 = some (.iload_n 1, 5, 0, 0) := by decide +kernel
theorem i41_5 : ins 41 5 = some (.bipush (7), 7, 0, 7) := by decide +kernel
theorem i41_7 : ins 41 7 = some (.if_icmp .ge (12), 10, 19, 0) := by decide +kernel
theorem i41_10 : ins 41 10 = some (.aload_n 0, 11, 0, 0) := by decide +kernel
theorem i41_11 : ins 41 11 = some (.getfield 20, 14, 2, 3) := by decide +kernel
theorem i41_14 : ins 41 14 = some (.iload_n 1, 15, 0, 0) := by decide +kernel
theorem i41_15 : ins 41 15 = some (.iaload, 16, 0, 0) := by decide +kernel
theorem i41_16 : ins 41 16 = some (.goto (4), 19, 20, 0) := by decide +kernel
theorem i41_19 : ins 41 19 = some (.iconst (0), 20, 0, 0) := by decide +kernel
theorem i41_20 : ins 41 20 = some (.ireturn, 21, 0, 0) := by decide +kernel
theorem i42_0 : ins 42 0 = some (.iload_n 0, 1, 0, 0) := by decide +kernel
theorem i42_1 : ins 42 1 = some (.tableswitch (43) (42) (45) #[39, 31, 43, 35], 32, 0, 0) := by decide +kernel
theorem i42_32 : ins 42 32 = some (.iload_n 1, 33, 0, 0) := by decide +kernel
theorem i42_33 : ins 42 33 = some (.iload_n 2, 34, 0, 0) := by decide +kernel
theorem i42_34 : ins 42 34 = some (.iadd, 35, 0, 0) := by decide +kernel
theorem i42_35 : ins 42 35 = some (.ireturn, 36, 0, 0) := by decide +kernel
theorem i42_36 : ins 42 36 = some (.iload_n 1, 37, 0, 0) := by decide +kernel
theorem i42_37 : ins 42 37 = some (.iload_n 2, 38, 0, 0) := by decide +kernel
theorem i42_38 : ins 42 38 = some (.isub, 39, 0, 0) := by decide +kernel
theorem i42_39 : ins 42 39 = some (.ireturn, 40, 0, 0) := by decide +kernel
theorem i42_40 : ins 42 40 = some (.iload_n 1, 41, 0, 0) := by decide +kernel
theorem i42_41 : ins 42 41 = some (.iload_n 2, 42, 0, 0) := by decide +kernel
theorem i42_42 : ins 42 42 = some (.imul, 43, 0, 0) := by decide +kernel
theorem i42_43 : ins 42 43 = some (.ireturn, 44, 0, 0) := by decide +kernel
theorem i42_44 : ins 42 44 = some (.iload_n 2, 45, 0, 0) := by decide +kernel
theorem i42_45 : ins 42 45 = some (.ifCond .ne (7), 48, 52, 0) := by decide +kernel
theorem i42_48 : ins 42 48 = some (.iconst (0), 49, 0, 0) := by decide +kernel
theorem i42_49 : ins 42 49 = some (.goto (6), 52, 55, 0) := by decide +kernel
theorem i42_52 : ins 42 52 = some (.iload_n 1, 53, 0, 0) := by decide +kernel
theorem i42_53 : ins 42 53 = some (.iload_n 2, 54, 0, 0) := by decide +kernel
theorem i42_54 : ins 42 54 = some (.idiv, 55, 0, 0) := by decide +kernel
theorem i42_55 : ins 42 55 = some (.ireturn, 56, 0, 0) := by decide +kernel
theorem i43_0 : ins 43 0 = some (.aload_n 0, 1, 0, 0) := by decide +kernel
theorem i43_1 : ins 43 1 = some (.invokespecial 3, 4, 1000, 0) := by decide +kernel
theorem i43_4 : ins 43 4 = some (.aload_n 0, 5, 0, 0) := by decide +kernel
theorem i43_5 : ins 43 5 = some (.iconst (0), 6, 0, 0) := by decide +kernel
theorem i43_6 : ins 43 6 = some (.putfield 9, 9, 3, 0) := by decide +kernel
theorem i43_9 : ins 43 9 = some (.aload_n 0, 10, 0, 0) := by decide +kernel
theorem i43_10 : ins 43 10 = some (.bipush (20), 12, 0, 20) := by decide +kernel
theorem i43_12 : ins 43 12 = some (.newarray .int, 14, 0, 0) := by decide +kernel
theorem i43_14 : ins 43 14 = some (.putfield 15, 17, 3, 1) := by decide +kernel
theorem i43_17 : ins 43 17 = some (.aload_n 0, 18, 0, 0) := by decide +kernel
theorem i43_18 : ins 43 18 = some (.bipush (20), 20, 0, 20) := by decide +kernel
theorem i43_20 : ins 43 20 = some (.newarray .int, 22, 0, 0) := by decide +kernel
theorem i43_22 : ins 43 22 = some (.putfield 19, 25, 3, 2) := by decide +kernel
theorem i43_25 : ins 43 25 = some (.return_, 26, 0, 0) := by decide +kernel
theorem i44_0 : ins 44 0 = some (.aload_n 0, 1, 0, 0) := by decide +kernel
theorem i44_1 : ins 44 1 = some (.getfield 9, 4, 3, 0) := by decide +kernel
theorem i44_4 : ins 44 4 = some (.bipush (20), 6, 0, 20) := by decide +kernel
theorem i44_6 : ins 44 6 = some (.if_icmp .lt (5), 9, 11, 0) := by decide +kernel
theorem i44_9 : ins 44 9 = some (.iconst (-1), 10, 0, -1) := by decide +kernel
theorem i44_10 : ins 44 10 = some (.ireturn, 11, 0, 0) := by decide +kernel
theorem i44_11 : ins 44 11 = some (.aload_n 0, 12, 0, 0) := by decide +kernel
theorem i44_12 : ins 44 12 = some (.getfield 15, 15, 3, 1) := by decide +kernel
theorem i44_15 : ins 44 15 = some (.aload_n 0, 16, 0, 0) := by decide +kernel
theorem i44_16 : ins 44 16 = some (.getfield 9, 19, 3, 0) := by decide +kernel
theorem i44_19 : ins 44 19 = some (.iload_n 1, 20, 0, 0) := by decide +kernel
theorem i44_20 : ins 44 20 = some (.iastore, 21, 0, 0) := by decide +kernel
theorem i44_21 : ins 44 21 = some (.aload_n 0, 22, 0, 0) := by decide +kernel
theorem i44_22 : ins 44 22 = some (.getfield 19, 25, 3, 2) := by decide +kernel
theorem i44_25 : ins 44 25 = some (.aload_n 0, 26, 0, 0) := by decide +kernel
theorem i44_26 : ins 44 26 = some (.getfield 9, 29, 3, 0) := by decide +kernel
theorem i44_29 : ins 44 29 = some (.iload_n 2, 30, 0, 0) := by decide +kernel
theorem i44_30 : ins 44 30 = some (.iastore, 31, 0, 0) := by decide +kernel
theorem i44_31 : ins 44 31 = some (.aload_n 0, 32, 0, 0) := by decide +kernel
theorem i44_32 : ins 44 32 = some (.dup, 33, 0, 0) := by decide +kernel
theorem i44_33 : ins 44 33 = some (.getfield 9, 36, 3, 0) := by decide +kernel
theorem i44_36 : ins 44 36 = some (.iconst (1), 37, 0, 1) := by decide +kernel
theorem i44_37 : ins 44 37 = some (.iadd, 38, 0, 0) := by decide +kernel
theorem i44_38 : ins 44 38 = some (.putfield 9, 41, 3, 0) := by decide +kernel
theorem i44_41 : ins 44 41 = some (.aload_n 0, 42, 0, 0) := by decide +kernel
theorem i44_42 : ins 44 42 = some (.getfield 9, 45, 3, 0) := by decide +kernel
theorem i44_45 : ins 44 45 = some (.iconst (1), 46, 0, 1) := by decide +kernel
theorem i44_46 : ins 44 46 = some (.isub, 47, 0, 0) := by decide +kernel
theorem i44_47 : ins 44 47 = some (.ireturn, 48, 0, 0) := by decide +kernel
theorem i45_0 : ins 45 0 = some (.aload_n 0, 1, 0, 0) := by decide +kernel
theorem i45_1 : ins 45 1 = some (.invokespecial 3, 4, 1000, 0) := by decide +kernel
theorem i45_4 : ins 45 4 = some (.aload_n 0, 5, 0, 0) := by decide +kernel
theorem i45_5 : ins 45 5 = some (.iconst (0), 6, 0, 0) := by decide +kernel
theorem i45_6 : ins 45 6 = some (.putfield 9, 9, 4, 0) := by decide +kernel
theorem i45_9 : ins 45 9 = some (.aload_n 0, 10, 0, 0) := by decide +kernel
theorem i45_10 : ins 45 10 = some (.iconst (0), 11, 0, 0) := by decide +kernel
theorem i45_11 : ins 45 11 = some (.putfield 15, 14, 4, 1) := by decide +kernel
theorem i45_14 : ins 45 14 = some (.aload_n 0, 15, 0, 0) := by decide +kernel
theorem i45_15 : ins 45 15 = some (.bipush (30), 17, 0, 30) := by decide +kernel
theorem i45_17 : ins 45 17 = some (.anewarray 18, 20, 24, 0) := by decide +kernel
theorem i45_20 : ins 45 20 = some (.putfield 20, 23, 4, 2) := by decide +kernel
theorem i45_23 : ins 45 23 = some (.iconst (0), 24, 0, 0) := by decide +kernel
theorem i45_24 : ins 45 24 = some (.istore_n 1, 25, 0, 0) := by decide +kernel
theorem i45_25 : ins 45 25 = some (.iload_n 1, 26, 0, 0) := by decide +kernel
theorem i45_26 : ins 45 26 = some (.bipush (30), 28, 0, 30) := by decide +kernel
theorem i45_28 : ins 45 28 = some (.if_icmp .ge (22), 31, 50, 0) := by decide +kernel
theorem i45_31 : ins 45 31 = some (.aload_n 0, 32, 0, 0) := by decide +kernel
theorem i45_32 : ins 45 32 = some (.getfield 20, 35, 4, 2) := by decide +kernel
theorem i45_35 : ins 45 35 = some (.iload_n 1, 36, 0, 0) := by decide +kernel
theorem i45_36 : ins 45 36 = some (.new 18, 39, 9, 0) := by decide +kernel
theorem i45_39 : ins 45 39 = some (.dup, 40, 0, 0) := by decide +kernel
theorem i45_40 : ins 45 40 = some (.invokespecial 24, 43, 87, 1) := by decide +kernel
theorem i45_43 : ins 45 43 = some (.aastore, 44, 0, 0) := by decide +kernel
theorem i45_44 : ins 45 44 = some (.iinc 1 (1), 47, 0, 1) := by decide +kernel
theorem i45_47 : ins 45 47 = some (.goto (-22), 50, 25, 0) := by decide +kernel
theorem i45_50 : ins 45 50 = some (.return_, 51, 0, 0) := by decide +kernel
theorem i46_0 : ins 46 0 = some (.aload_n 0, 1, 0, 0) := by decide +kernel
theorem i46_1 : ins 46 1 = some (.iconst (0), 2, 0, 0) := by decide +kernel
theorem i46_2 : ins 46 2 = some (.putfield 9, 5, 4, 0) := by decide +kernel
theorem i46_5 : ins 46 5 = some (.aload_n 0, 6, 0, 0) := by decide +kernel
theorem i46_6 : ins 46 6 = some (.iconst (0), 7, 0, 0) := by decide +kernel
theorem i46_7 : ins 46 7 = some (.putfield 15, 10, 4, 1) := by decide +kernel
theorem i46_10 : ins 46 10 = some (.return_, 11, 0, 0) := by decide +kernel
theorem i87_0 : ins 87 0 = some (.aload_n 0, 1, 0, 0) := by decide +kernel
theorem i87_1 : ins 87 1 = some (.invokespecial 3, 4, 1000, 0) := by decide +kernel
theorem i87_4 : ins 87 4 = some (.aload_n 0, 5, 0, 0) := by decide +kernel
theorem i87_5 : ins 87 5 = some (.iconst (0), 6, 0, 0) := by decide +kernel
theorem i87_6 : ins 87 6 = some (.putfield 9, 9, 9, 0) := by decide +kernel
theorem i87_9 : ins 87 9 = some (.aload_n 0, 10, 0, 0) := by decide +kernel
theorem i87_10 : ins 87 10 = some (.iconst (0), 11, 0, 0) := by decide +kernel
theorem i87_11 : ins 87 11 = some (.putfield 15, 14, 9, 1) := by decide +kernel
theorem i87_14 : ins 87 14 = some (.aload_n 0, 15, 0, 0) := by decide +kernel
theorem i87_15 : ins 87 15 = some (.bipush (-2), 17, 0, -2) := by decide +kernel
theorem i87_17 : ins 87 17 = some (.putfield 18, 20, 9, 2) := by decide +kernel
theorem i87_20 : ins 87 20 = some (.aload_n 0, 21, 0, 0) := by decide +kernel
theorem i87_21 : ins 87 21 = some (.bipush (6), 23, 0, 6) := by decide +kernel
theorem i87_23 : ins 87 23 = some (.newarray .int, 25, 0, 0) := by decide +kernel
theorem i87_25 : ins 87 25 = some (.putfield 21, 28, 9, 3) := by decide +kernel
theorem i87_28 : ins 87 28 = some (.aload_n 0, 29, 0, 0) := by decide +kernel
theorem i87_29 : ins 87 29 = some (.bipush (36), 31, 0, 36) := by decide +kernel
theorem i87_31 : ins 87 31 = some (.newarray .int, 33, 0, 0) := by decide +kernel
theorem i87_33 : ins 87 33 = some (.putfield 25, 36, 9, 4) := by decide +kernel
theorem i87_36 : ins 87 36 = some (.aload_n 0, 37, 0, 0) := by decide +kernel
theorem i87_37 : ins 87 37 = some (.bipush (6), 39, 0, 6) := by decide +kernel
theorem i87_39 : ins 87 39 = some (.newarray .int, 41, 0, 0) := by decide +kernel
theorem i87_41 : ins 87 41 = some (.putfield 28, 44, 9, 5) := by decide +kernel
theorem i87_44 : ins 87 44 = some (.return_, 45, 0, 0) := by decide +kernel
theorem i89_0 : ins 89 0 = some (.aload_n 0, 1, 0, 0) := by decide +kernel
theorem i89_1 : ins 89 1 = some (.aload_n 1, 2, 0, 0) := by decide +kernel
theorem i89_2 : ins 89 2 = some (.getfield 9, 5, 9, 0) := by decide +kernel
theorem i89_5 : ins 89 5 = some (.putfield 9, 8, 9, 0) := by decide +kernel
theorem i89_8 : ins 89 8 = some (.aload_n 0, 9, 0, 0) := by decide +kernel
theorem i89_9 : ins 89 9 = some (.aload_n 1, 10, 0, 0) := by decide +kernel
theorem i89_10 : ins 89 10 = some (.getfield 15, 13, 9, 1) := by decide +kernel
theorem i89_13 : ins 89 13 = some (.putfield 15, 16, 9, 1) := by decide +kernel
theorem i89_16 : ins 89 16 = some (.aload_n 0, 17, 0, 0) := by decide +kernel
theorem i89_17 : ins 89 17 = some (.aload_n 1, 18, 0, 0) := by decide +kernel
theorem i89_18 : ins 89 18 = some (.getfield 18, 21, 9, 2) := by decide +kernel
theorem i89_21 : ins 89 21 = some (.putfield 18, 24, 9, 2) := by decide +kernel
theorem i89_24 : ins 89 24 = some (.aload_n 1, 25, 0, 0) := by decide +kernel
theorem i89_25 : ins 89 25 = some (.getfield 21, 28, 9, 3) := by decide +kernel
theorem i89_28 : ins 89 28 = some (.iconst (0), 29, 0, 0) := by decide +kernel
theorem i89_29 : ins 89 29 = some (.aload_n 0, 30, 0, 0) := by decide +kernel
theorem i89_30 : ins 89 30 = some (.getfield 21, 33, 9, 3) := by decide +kernel
theorem i89_33 : ins 89 33 = some (.iconst (0), 34, 0, 0) := by decide +kernel
theorem i89_34 : ins 89 34 = some (.bipush (6), 36, 0, 6) := by decide +kernel
theorem i89_36 : ins 89 36 = some (.invokestatic 34, 39, 1001, 0) := by decide +kernel
theorem i89_39 : ins 89 39 = some (.aload_n 1, 40, 0, 0) := by decide +kernel
theorem i89_40 : ins 89 40 = some (.getfield 25, 43, 9, 4) := by decide +kernel
theorem i89_43 : ins 89 43 = some (.iconst (0), 44, 0, 0) := by decide +kernel
theorem i89_44 : ins 89 44 = some (.aload_n 0, 45, 0, 0) := by decide +kernel
theorem i89_45 : ins 89 45 = some (.getfield 25, 48, 9, 4) := by decide +kernel
theorem i89_48 : ins 89 48 = some (.iconst (0), 49, 0, 0) := by decide +kernel
theorem i89_49 : ins 89 49 = some (.bipush (36), 51, 0, 36) := by decide +kernel
theorem i89_51 : ins 89 51 = some (.invokestatic 34, 54, 1001, 0) := by decide +kernel
theorem i89_54 : ins 89 54 = some (.aload_n 1, 55, 0, 0) := by decide +kernel
theorem i89_55 : ins 89 55 = some (.getfield 28, 58, 9, 5) := by decide +kernel
theorem i89_58 : ins 89 58 = some (.iconst (0), 59, 0, 0) := by decide +kernel
theorem i89_59 : ins 89 59 = some (.aload_n 0, 60, 0, 0) := by decide +kernel
theorem i89_60 : ins 89 60 = some (.getfield 28, 63, 9, 5) := by decide +kernel
theorem i89_63 : ins 89 63 = some (.iconst (0), 64, 0, 0) := by decide +kernel
theorem i89_64 : ins 89 64 = some (.bipush (6), 66, 0, 6) := by decide +kernel
theorem i89_66 : ins 89 66 = some (.invokestatic 34, 69, 1001, 0) := by decide +kernel
theorem i89_69 : ins 89 69 = some (.return_, 70, 0, 0) := by decide +kernel
theorem i91_0 : ins 91 0 = some (.aload_n 0, 1, 0, 0) := by decide +kernel
theorem i91_1 : ins 91 1 = some (.getfield 25, 4, 9, 4) := by decide +kernel
theorem i91_4 : ins 91 4 = some (.iload_n 1, 5, 0, 0) := by decide +kernel
theorem i91_5 : ins 91 5 = some (.bipush (6), 7, 0, 6) := by decide +kernel
theorem i91_7 : ins 91 7 = some (.imul, 8, 0, 0) := by decide +kernel
theorem i91_8 : ins 91 8 = some (.iload_n 2, 9, 0, 0) := by decide +kernel
theorem i91_9 : ins 91 9 = some (.iadd, 10, 0, 0) := by decide +kernel
theorem i91_10 : ins 91 10 = some (.iaload, 11, 0, 0) := by decide +kernel
theorem i91_11 : ins 91 11 = some (.ireturn, 12, 0, 0) := by decide +kernel
theorem i92_0 : ins 92 0 = some (.aload_n 0, 1, 0, 0) := by decide +kernel
theorem i92_1 : ins 92 1 = some (.iload_n 1, 2, 0, 0) := by decide +kernel
theorem i92_2 : ins 92 2 = some (.iload_n 2, 3, 0, 0) := by decide +kernel
theorem i92_3 : ins 92 3 = some (.invokevirtual 47, 6, 91, 0) := by decide +kernel
theorem i92_6 : ins 92 6 = some (.aload_n 0, 7, 0, 0) := by decide +kernel
theorem i92_7 : ins 92 7 = some (.getfield 21, 10, 9, 3) := by decide +kernel
theorem i92_10 : ins 92 10 = some (.iload_n 2, 11, 0, 0) := by decide +kernel
theorem i92_11 : ins 92 11 = some (.iaload, 12, 0, 0) := by decide +kernel
theorem i92_12 : ins 92 12 = some (.isub, 13, 0, 0) := by decide +kernel
theorem i92_13 : ins 92 13 = some (.invokestatic 50, 16, 0, 0) := by decide +kernel
theorem i92_16 : ins 92 16 = some (.ireturn, 17, 0, 0) := by decide +kernel
theorem i93_0 : ins 93 0 = some (.aload_n 0, 1, 0, 0) := by decide +kernel
theorem i93_1 : ins 93 1 = some (.iload_n 1, 2, 0, 0) := by decide +kernel
theorem i93_2 : ins 93 2 = some (.iload_n 2, 3, 0, 0) := by decide +kernel
theorem i93_3 : ins 93 3 = some (.invokevirtual 47, 6, 91, 0) := by decide +kernel
theorem i93_6 : ins 93 6 = some (.istore 4, 8, 0, 0) := by decide +kernel
theorem i93_8 : ins 93 8 = some (.iload_n 3, 9, 0, 0) := by decide +kernel
theorem i93_9 : ins 93 9 = some (.aload_n 0, 10, 0, 0) := by decide +kernel
theorem i93_10 : ins 93 10 = some (.iload_n 1, 11, 0, 0) := by decide +kernel
theorem i93_11 : ins 93 11 = some (.iload_n 2, 12, 0, 0) := by decide +kernel
theorem i93_12 : ins 93 12 = some (.invokevirtual 54, 15, 92, 0) := by decide +kernel
theorem i93_15 : ins 93 15 = some (.invokestatic 41, 18, 2, 0) := by decide +kernel
theorem i93_18 : ins 93 18 = some (.istore 5, 20, 0, 0) := by decide +kernel
theorem i93_20 : ins 93 20 = some (.iload 4, 22, 0, 0) := by decide +kernel
theorem i93_22 : ins 93 22 = some (.aload_n 0, 23, 0, 0) := by decide +kernel
theorem i93_23 : ins 93 23 = some (.getfield 21, 26, 9, 3) := by decide +kernel
theorem i93_26 : ins 93 26 = some (.iload_n 2, 27, 0, 0) := by decide +kernel
theorem i93_27 : ins 93 27 = some (.iaload, 28, 0, 0) := by decide +kernel
theorem i93_28 : ins 93 28 = some (.if_icmp .ge (11), 31, 39, 0) := by decide +kernel
theorem i93_31 : ins 93 31 = some (.iload 4, 33, 0, 0) := by decide +kernel
theorem i93_33 : ins 93 33 = some (.iload 5, 35, 0, 0) := by decide +kernel
theorem i93_35 : ins 93 35 = some (.iadd, 36, 0, 0) := by decide +kernel
theorem i93_36 : ins 93 36 = some (.goto (8), 39, 44, 0) := by decide +kernel
theorem i93_39 : ins 93 39 = some (.iload 4, 41, 0, 0) := by decide +kernel
theorem i93_41 : ins 93 41 = some (.iload 5, 43, 0, 0) := by decide +kernel
theorem i93_43 : ins 93 43 = some (.isub, 44, 0, 0) := by decide +kernel
theorem i93_44 : ins 93 44 = some (.ireturn, 45, 0, 0) := by decide +kernel
theorem i94_0 : ins 94 0 = some (.aload_n 0, 1, 0, 0) := by decide +kernel
theorem i94_1 : ins 94 1 = some (.getfield 25, 4, 9, 4) := by decide +kernel
theorem i94_4 : ins 94 4 = some (.iload_n 1, 5, 0, 0) := by decide +kernel
theorem i94_5 : ins 94 5 = some (.bipush (6), 7, 0, 6) := by decide +kernel
theorem i94_7 : ins 94 7 = some (.imul, 8, 0, 0) := by decide +kernel
theorem i94_8 : ins 94 8 = some (.iload_n 2, 9, 0, 0) := by decide +kernel
theorem i94_9 : ins 94 9 = some (.iadd, 10, 0, 0) := by decide +kernel
theorem i94_10 : ins 94 10 = some (.aload_n 0, 11, 0, 0) := by decide +kernel
theorem i94_11 : ins 94 11 = some (.iload_n 1, 12, 0, 0) := by decide +kernel
theorem i94_12 : ins 94 12 = some (.iload_n 2, 13, 0, 0) := by decide +kernel
theorem i94_13 : ins 94 13 = some (.iload_n 3, 14, 0, 0) := by decide +kernel
theorem i94_14 : ins 94 14 = some (.invokevirtual 57, 17, 93, 0) := by decide +kernel
theorem i94_17 : ins 94 17 = some (.iastore, 18, 0, 0) := by decide +kernel
theorem i94_18 : ins 94 18 = some (.return_, 19, 0, 0) := by decide +kernel
theorem i97_0 : ins 97 0 = some (.aload_n 0, 1, 0, 0) := by decide +kernel
theorem i97_1 : ins 97 1 = some (.getfield 9, 4, 10, 0) := by decide +kernel
theorem i97_4 : ins 97 4 = some (.ifCond .gt (6), 7, 10, 0) := by decide +kernel
theorem i97_7 : ins 97 7 = some (.bipush (-2), 9, 0, -2) := by decide +kernel
theorem i97_9 : ins 97 9 = some (.ireturn, 10, 0, 0) := by decide +kernel
theorem i97_10 : ins 97 10 = some (.aload_n 0, 11, 0, 0) := by decide +kernel
theorem i97_11 : ins 97 11 = some (.getfield 49, 14, 10, 12) := by decide +kernel
theorem i97_14 : ins 97 14 = some (.iload_n 2, 15, 0, 0) := by decide +kernel
theorem i97_15 : ins 97 15 = some (.iaload, 16, 0, 0) := by decide +kernel
theorem i97_16 : ins 97 16 = some (.iconst (-1), 17, 0, -1) := by decide +kernel
theorem i97_17 : ins 97 17 = some (.if_icmp .ne (10), 20, 27, 0) := by decide +kernel
theorem i97_20 : ins 97 20 = some (.aload_n 0, 21, 0, 0) := by decide +kernel
theorem i97_21 : ins 97 21 = some (.aload_n 1, 22, 0, 0) := by decide +kernel
theorem i97_22 : ins 97 22 = some (.iload_n 2, 23, 0, 0) := by decide +kernel
theorem i97_23 : ins 97 23 = some (.invokevirtual 65, 26, 98, 0) := by decide +kernel
theorem i97_26 : ins 97 26 = some (.ireturn, 27, 0, 0) := by decide +kernel
theorem i97_27 : ins 97 27 = some (.aload_n 0, 28, 0, 0) := by decide +kernel
theorem i97_28 : ins 97 28 = some (.getfield 55, 31, 10, 13) := by decide +kernel
theorem i97_31 : ins 97 31 = some (.iconst (0), 32, 0, 0) := by decide +kernel
theorem i97_32 : ins 97 32 = some (.iconst (0), 33, 0, 0) := by decide +kernel
theorem i97_33 : ins 97 33 = some (.aload_n 1, 34, 0, 0) := by decide +kernel
theorem i97_34 : ins 97 34 = some (.getfield 69, 37, 9, 0) := by decide +kernel
theorem i97_37 : ins 97 37 = some (.iconst (0), 38, 0, 0) := by decide +kernel
theorem i97_38 : ins 97 38 = some (.iconst (0), 39, 0, 0) := by decide +kernel
theorem i97_39 : ins 97 39 = some (.iconst (0), 40, 0, 0) := by decide +kernel
theorem i97_40 : ins 97 40 = some (.iload_n 3, 41, 0, 0) := by decide +kernel
theorem i97_41 : ins 97 41 = some (.invokevirtual 74, 44, 39, 0) := by decide +kernel
theorem i97_44 : ins 97 44 = some (.aload_n 0, 45, 0, 0) := by decide +kernel
theorem i97_45 : ins 97 45 = some (.getfield 55, 48, 10, 13) := by decide +kernel
theorem i97_48 : ins 97 48 = some (.aload_n 0, 49, 0, 0) := by decide +kernel
theorem i97_49 : ins 97 49 = some (.getfield 49, 52, 10, 12) := by decide +kernel
theorem i97_52 : ins 97 52 = some (.iload_n 2, 53, 0, 0) := by decide +kernel
theorem i97_53 : ins 97 53 = some (.iaload, 54, 0, 0) := by decide +kernel
theorem i97_54 : ins 97 54 = some (.invokevirtual 78, 57, 40, 0) := by decide +kernel
theorem i97_57 : ins 97 57 = some (.istore 4, 59, 0, 0) := by decide +kernel
theorem i97_59 : ins 97 59 = some (.iload 4, 61, 0, 0) := by decide +kernel
theorem i97_61 : ins 97 61 = some (.ifCond .ge (8), 64, 69, 0) := by decide +kernel
theorem i97_64 : ins 97 64 = some (.bipush (-2), 66, 0, -2) := by decide +kernel
theorem i97_66 : ins 97 66 = some (.goto (10), 69, 76, 0) := by decide +kernel
theorem i97_69 : ins 97 69 = some (.iload 4, 71, 0, 0) := by decide +kernel
theorem i97_71 : ins 97 71 = some (.aload_n 0, 72, 0, 0) := by decide +kernel
theorem i97_72 : ins 97 72 = some (.getfield 9, 75, 10, 0) := by decide +kernel
theorem i97_75 : ins 97 75 = some (.irem, 76, 0, 0) := by decide +kernel
theorem i97_76 : ins 97 76 = some (.ireturn, 77, 0, 0) := by decide +kernel
theorem i98_0 : ins 98 0 = some (.iconst (0), 1, 0, 0) := by decide +kernel
theorem i98_1 : ins 98 1 = some (.istore_n 3, 2, 0, 0) := by decide +kernel
theorem i98_2 : ins 98 2 = some (.aload_n 1, 3, 0, 0) := by decide +kernel
theorem i98_3 : ins 98 3 = some (.iload_n 2, 4, 0, 0) := by decide +kernel
theorem i98_4 : ins 98 4 = some (.iconst (0), 5, 0, 0) := by decide +kernel
theorem i98_5 : ins 98 5 = some (.invokevirtual 82, 8, 92, 0) := by decide +kernel
theorem i98_8 : ins 98 8 = some (.istore 4, 10, 0, 0) := by decide +kernel
theorem i98_10 : ins 98 10 = some (.iconst (1), 11, 0, 1) := by decide +kernel
theorem i98_11 : ins 98 11 = some (.istore 5, 13, 0, 0) := by decide +kernel
theorem i98_13 : ins 98 13 = some (.iload 5, 15, 0, 0) := by decide +kernel
theorem i98_15 : ins 98 15 = some (.aload_n 0, 16, 0, 0) := by decide +kernel
theorem i98_16 : ins 98 16 = some (.getfield 9, 19, 10, 0) := by decide +kernel
theorem i98_19 : ins 98 19 = some (.if_icmp .ge (32), 22, 51, 0) := by decide +kernel
theorem i98_22 : ins 98 22 = some (.aload_n 1, 23, 0, 0) := by decide +kernel
theorem i98_23 : ins 98 23 = some (.iload_n 2, 24, 0, 0) := by decide +kernel
theorem i98_24 : ins 98 24 = some (.iload 5, 26, 0, 0) := by decide +kernel
theorem i98_26 : ins 98 26 = some (.invokevirtual 82, 29, 92, 0) := by decide +kernel
theorem i98_29 : ins 98 29 = some (.istore 6, 31, 0, 0) := by decide +kernel
theorem i98_31 : ins 98 31 = some (.iload 6, 33, 0, 0) := by decide +kernel
theorem i98_33 : ins 98 33 = some (.iload 4, 35, 0, 0) := by decide +kernel
theorem i98_35 : ins 98 35 = some (.if_icmp .le (10), 38, 45, 0) := by decide +kernel
theorem i98_38 : ins 98 38 = some (.iload 5, 40, 0, 0) := by decide +kernel
theorem i98_40 : ins 98 40 = some (.istore_n 3, 41, 0, 0) := by decide +kernel
theorem i98_41 : ins 98 41 = some (.iload 6, 43, 0, 0) := by decide +kernel
theorem i98_43 : ins 98 43 = some (.istore 4, 45, 0, 0) := by decide +kernel
theorem i98_45 : ins 98 45 = some (.iinc 5 (1), 48, 0, 1) := by decide +kernel
theorem i98_48 : ins 98 48 = some (.goto (-35), 51, 13, 0) := by decide +kernel
theorem i98_51 : ins 98 51 = some (.iload_n 3, 52, 0, 0) := by decide +kernel
theorem i98_52 : ins 98 52 = some (.ireturn, 53, 0, 0) := by decide +kernel
theorem i99_0 : ins 99 0 = some (.aload_n 1, 1, 0, 0) := by decide +kernel
theorem i99_1 : ins 99 1 = some (.getfield 86, 4, 9, 3) := by decide +kernel
theorem i99_4 : ins 99 4 = some (.iload_n 2, 5, 0, 0) := by decide +kernel
theorem i99_5 : ins 99 5 = some (.iaload, 6, 0, 0) := by decide +kernel
theorem i99_6 : ins 99 6 = some (.istore 4, 8, 0, 0) := by decide +kernel
theorem i99_8 : ins 99 8 = some (.aload_n 0, 9, 0, 0) := by decide +kernel
theorem i99_9 : ins 99 9 = some (.getfield 55, 12, 10, 13) := by decide +kernel
theorem i99_12 : ins 99 12 = some (.iload_n 3, 13, 0, 0) := by decide +kernel
theorem i99_13 : ins 99 13 = some (.iload 4, 15, 0, 0) := by decide +kernel
theorem i99_15 : ins 99 15 = some (.isub, 16, 0, 0) := by decide +kernel
theorem i99_16 : ins 99 16 = some (.invokestatic 87, 19, 0, 0) := by decide +kernel
theorem i99_19 : ins 99 19 = some (.iload_n 2, 20, 0, 0) := by decide +kernel
theorem i99_20 : ins 99 20 = some (.aload_n 1, 21, 0, 0) := by decide +kernel
theorem i99_21 : ins 99 21 = some (.getfield 69, 24, 9, 0) := by decide +kernel
theorem i99_24 : ins 99 24 = some (.aload_n 1, 25, 0, 0) := by decide +kernel
theorem i99_25 : ins 99 25 = some (.getfield 92, 28, 9, 1) := by decide +kernel
theorem i99_28 : ins 99 28 = some (.iload_n 3, 29, 0, 0) := by decide +kernel
theorem i99_29 : ins 99 29 = some (.iload 4, 31, 0, 0) := by decide +kernel
theorem i99_31 : ins 99 31 = some (.iconst (0), 32, 0, 0) := by decide +kernel
theorem i99_32 : ins 99 32 = some (.invokevirtual 74, 35, 39, 0) := by decide +kernel
theorem i99_35 : ins 99 35 = some (.return_, 36, 0, 0) := by decide +kernel
theorem i100_0 : ins 100 0 = some (.aload_n 0, 1, 0, 0) := by decide +kernel
theorem i100_1 : ins 100 1 = some (.getfield 55, 4, 10, 13) := by decide +kernel
theorem i100_4 : ins 100 4 = some (.aload_n 0, 5, 0, 0) := by decide +kernel
theorem i100_5 : ins 100 5 = some (.getfield 46, 8, 10, 11) := by decide +kernel
theorem i100_8 : ins 100 8 = some (.iload_n 1, 9, 0, 0) := by decide +kernel
theorem i100_9 : ins 100 9 = some (.iaload, 10, 0, 0) := by decide +kernel
theorem i100_10 : ins 100 10 = some (.invokevirtual 78, 13, 40, 0) := by decide +kernel
theorem i100_13 : ins 100 13 = some (.iconst (0), 14, 0, 0) := by decide +kernel
theorem i100_14 : ins 100 14 = some (.sipush (999), 17, 0, 999) := by decide +kernel
theorem i100_17 : ins 100 17 = some (.invokestatic 95, 20, 146, 1) := by decide +kernel
theorem i100_20 : ins 100 20 = some (.ireturn, 21, 0, 0) := by decide +kernel
theorem i101_0 : ins 101 0 = some (.aload_n 0, 1, 0, 0) := by decide +kernel
theorem i101_1 : ins 101 1 = some (.getfield 30, 4, 10, 6) := by decide +kernel
theorem i101_4 : ins 101 4 = some (.iconst (-1), 5, 0, -1) := by decide +kernel
theorem i101_5 : ins 101 5 = some (.if_icmp .ne (5), 8, 10, 0) := by decide +kernel
theorem i101_8 : ins 101 8 = some (.iconst (0), 9, 0, 0) := by decide +kernel
theorem i101_9 : ins 101 9 = some (.ireturn, 10, 0, 0) := by decide +kernel
theorem i101_10 : ins 101 10 = some (.aload_n 1, 11, 0, 0) := by decide +kernel
theorem i101_11 : ins 101 11 = some (.getfield 99, 14, 9, 2) := by decide +kernel
theorem i101_14 : ins 101 14 = some (.istore_n 3, 15, 0, 0) := by decide +kernel
theorem i101_15 : ins 101 15 = some (.aload_n 0, 16, 0, 0) := by decide +kernel
theorem i101_16 : ins 101 16 = some (.getfield 55, 19, 10, 13) := by decide +kernel
theorem i101_19 : ins 101 19 = some (.aload_n 1, 20, 0, 0) := by decide +kernel
theorem i101_20 : ins 101 20 = some (.iload_n 3, 21, 0, 0) := by decide +kernel
theorem i101_21 : ins 101 21 = some (.iload_n 2, 22, 0, 0) := by decide +kernel
theorem i101_22 : ins 101 22 = some (.invokevirtual 82, 25, 92, 0) := by decide +kernel
theorem i101_25 : ins 101 25 = some (.iload_n 2, 26, 0, 0) := by decide +kernel
theorem i101_26 : ins 101 26 = some (.aload_n 1, 27, 0, 0) := by decide +kernel
theorem i101_27 : ins 101 27 = some (.getfield 69, 30, 9, 0) := by decide +kernel
theorem i101_30 : ins 101 30 = some (.iconst (0), 31, 0, 0) := by decide +kernel
theorem i101_31 : ins 101 31 = some (.aload_n 1, 32, 0, 0) := by decide +kernel
theorem i101_32 : ins 101 32 = some (.iload_n 3, 33, 0, 0) := by decide +kernel
theorem i101_33 : ins 101 33 = some (.iload_n 2, 34, 0, 0) := by decide +kernel
theorem i101_34 : ins 101 34 = some (.invokevirtual 102, 37, 91, 0) := by decide +kernel
theorem i101_37 : ins 101 37 = some (.aload_n 1, 38, 0, 0) := by decide +kernel
theorem i101_38 : ins 101 38 = some (.getfield 86, 41, 9, 3) := by decide +kernel
theorem i101_41 : ins 101 41 = some (.iload_n 2, 42, 0, 0) := by decide +kernel
theorem i101_42 : ins 101 42 = some (.iaload, 43, 0, 0) := by decide +kernel
theorem i101_43 : ins 101 43 = some (.iconst (0), 44, 0, 0) := by decide +kernel
theorem i101_44 : ins 101 44 = some (.invokevirtual 74, 47, 39, 0) := by decide +kernel
theorem i101_47 : ins 101 47 = some (.aload_n 0, 48, 0, 0) := by decide +kernel
theorem i101_48 : ins 101 48 = some (.getfield 55, 51, 10, 13) := by decide +kernel
theorem i101_51 : ins 101 51 = some (.aload_n 0, 52, 0, 0) := by decide +kernel
theorem i101_52 : ins 101 52 = some (.getfield 30, 55, 10, 6) := by decide +kernel
theorem i101_55 : ins 101 55 = some (.invokevirtual 78, 58, 40, 0) := by decide +kernel
theorem i101_58 : ins 101 58 = some (.bipush (-9), 60, 0, -9) := by decide +kernel
theorem i101_60 : ins 101 60 = some (.bipush (9), 62, 0, 9) := by decide +kernel
theorem i101_62 : ins 101 62 = some (.invokestatic 95, 65, 146, 1) := by decide +kernel
theorem i101_65 : ins 101 65 = some (.ireturn, 66, 0, 0) := by decide +kernel
theorem i146_0 : ins 146 0 = some (.iload_n 1, 1, 0, 0) := by decide +kernel
theorem i146_1 : ins 146 1 = some (.iload_n 2, 2, 0, 0) := by decide +kernel
theorem i146_2 : ins 146 2 = some (.iload_n 0, 3, 0, 0) := by decide +kernel
theorem i146_3 : ins 146 3 = some (.invokestatic 302, 6, 2, 0) := by decide +kernel
theorem i146_6 : ins 146 6 = some (.invokestatic 305, 9, 1, 0) := by decide +kernel
theorem i146_9 : ins 146 9 = some (.ireturn, 10, 0, 0) := by decide +kernel
def Js_isLatin1_18 (s0 : Int) (w : Wd) : Option (Int × Wd) :=
  rZ s0 w
theorem s_Js_isLatin1_18 {g : Gp} {l : Launch} {D : Nat} (hD : 0 ≤ D) (s0 : Int) (w : Wd) (r : Int × Wd) (h : Js_isLatin1_18 s0 w = some r) : Rn g l D 8 18 [] [.inl s0] w (some (.inl r.1)) r.2 := by
  unfold Js_isLatin1_18 at h
  exact fr_retZ i8_18 mr8 h
def Js_isLatin1_17 (w : Wd) : Option (Int × Wd) :=
  Js_isLatin1_18 0 w
theorem s_Js_isLatin1_17 {g : Gp} {l : Launch} {D : Nat} (hD : 0 ≤ D) (w : Wd) (r : Int × Wd) (h : Js_isLatin1_17 w = some r) : Rn g l D 8 17 [] [] w (some (.inl r.1)) r.2 := by
  unfold Js_isLatin1_17 at h
  refine rn_iconst i8_17 ?_
  exact rn_sub [] rfl (s_Js_isLatin1_18 hD 0 w r h)
def Js_isLatin1_0 (a0 : Nat) (w : Wd) : Option (Int × Wd) :=
  if (1 : Int) = 0 then
    Js_isLatin1_17 w
  else
    (fgI w a0 13 1).bind fun v7 =>
    if (v7 : Int) = 0 then
      Js_isLatin1_18 1 w
    else
      Js_isLatin1_17 w
theorem s_Js_isLatin1_0 {g : Gp} {l : Launch} {D : Nat} (hD : 0 ≤ D) (a0 : Nat) (w : Wd) (r : Int × Wd) (h : Js_isLatin1_0 a0 w = some r) : Rn g l D 8 0 [(0, .inr (.inr a0))] [] w (some (.inl r.1)) r.2 := by
  unfold Js_isLatin1_0 at h
  refine rn_gets1 i8_0 lw8_0 ?_
  by_cases c3 : (1 : Int) = 0
  · rw [if_pos c3] at h
    refine rn_if_eq_t i8_3 c3 ?_
    exact rn_sub [] rfl (s_Js_isLatin1_17 hD w r h)
  · rw [if_neg c3] at h
    refine rn_if_eq_f i8_3 c3 ?_
    refine fr_aload_n i8_6 rfl ?_
    obtain ⟨v7, h7, h⟩ := Option.bind_eq_some_iff.mp h
    refine fr_gI (k := 1) i8_7 tf13_1 h7 ?_
    by_cases c10 : (v7 : Int) = 0
    · rw [if_pos c10] at h
      refine rn_if_ne_f i8_10 c10 ?_
      refine rn_iconst i8_13 ?_
      refine rn_goto i8_14 ?_
      exact rn_sub [] rfl (s_Js_isLatin1_18 hD 1 w r h)
    · rw [if_neg c10] at h
      refine rn_if_ne_t i8_10 c10 ?_
      exact rn_sub [] rfl (s_Js_isLatin1_17 hD w r h)
/-- java/lang/String.isLatin1()Z -/
def Js_isLatin1 (a0 : Nat) (w : Wd) : Option (Int × Wd) := gd 13 w a0 (Js_isLatin1_0 a0 w)
theorem S_Js_isLatin1 {g : Gp} {l : Launch} (a0 : Nat) (w : Wd) (r : Int × Wd) (h : Js_isLatin1 a0 w = some r) : (wsh w a0).1 = 13 ∧ ∀ D, 0 ≤ D → Rn g l D 8 0 [(0, .inr (.inr a0))] [] w (some (.inl r.1)) r.2 := by
  obtain ⟨hg, h⟩ := gd_some h
  exact ⟨hg, fun D hD => rn_sub [0] rfl (s_Js_isLatin1_0 hD a0 w r h)⟩
def Jp_checkIndex_9 (x0 : Int) (x1 : Int) (a2 : Nat) (w : Wd) : Option (Int × Wd) :=
  none
theorem s_Jp_checkIndex_9 {g : Gp} {l : Launch} {D : Nat} (hD : 0 ≤ D) (x0 : Int) (x1 : Int) (a2 : Nat) (w : Wd) (r : Int × Wd) (h : Jp_checkIndex_9 x0 x1 a2 w = some r) : Rn g l D 14 9 [(0, .inl x0), (1, .inl x1), (2, .inr (.inr a2))] [] w (some (.inl r.1)) r.2 := by
  unfold Jp_checkIndex_9 at h
  refine fr_aload_n i14_9 rfl ?_
  refine rn_iload_n i14_10 rfl ?_
  refine rn_iload_n i14_11 rfl ?_
  cases h
def Jp_checkIndex_0 (x0 : Int) (x1 : Int) (a2 : Nat) (w : Wd) : Option (Int × Wd) :=
  if (x0 : Int) < 0 then
    Jp_checkIndex_9 x0 x1 a2 w
  else
    if (x0 : Int) < x1 then
      some (x0, w)
    else
      Jp_checkIndex_9 x0 x1 a2 w
theorem s_Jp_checkIndex_0 {g : Gp} {l : Launch} {D : Nat} (hD : 0 ≤ D) (x0 : Int) (x1 : Int) (a2 : Nat) (w : Wd) (r : Int × Wd) (h : Jp_checkIndex_0 x0 x1 a2 w = some r) : Rn g l D 14 0 [(0, .inl x0), (1, .inl x1), (2, .inr (.inr a2))] [] w (some (.inl r.1)) r.2 := by
  unfold Jp_checkIndex_0 at h
  refine rn_iload_n i14_0 rfl ?_
  by_cases c1 : (x0 : Int) < 0
  · rw [if_pos c1] at h
    refine rn_if_lt_t i14_1 c1 ?_
    exact rn_sub [0, 1, 2] rfl (s_Jp_checkIndex_9 hD x0 x1 a2 w r h)
  · rw [if_neg c1] at h
    refine rn_if_lt_f i14_1 c1 ?_
    refine rn_iload_n i14_4 rfl ?_
    refine rn_iload_n i14_5 rfl ?_
    by_cases c6 : (x0 : Int) < x1
    · rw [if_pos c6] at h
      refine rn_icmp_lt_t i14_6 c6 ?_
      refine rn_iload_n i14_16 rfl ?_
      obtain rfl := Option.some.inj h
      exact rn_retI i14_17 mr14
    · rw [if_neg c6] at h
      refine rn_icmp_lt_f i14_6 c6 ?_
      exact rn_sub [0, 1, 2] rfl (s_Jp_checkIndex_9 hD x0 x1 a2 w r h)
/-- jdk/internal/util/Preconditions.checkIndex(IILjava/util/function/BiFunction;)I -/
def Jp_checkIndex (x0 : Int) (x1 : Int) (a2 : Nat) (w : Wd) : Option (Int × Wd) := Jp_checkIndex_0 x0 x1 a2 w
theorem S_Jp_checkIndex {g : Gp} {l : Launch} (x0 : Int) (x1 : Int) (a2 : Nat) (w : Wd) (r : Int × Wd) (h : Jp_checkIndex x0 x1 a2 w = some r) : ∀ D, 0 ≤ D → Rn g l D 14 0 [(0, .inl x0), (1, .inl x1), (2, .inr (.inr a2))] [] w (some (.inl r.1)) r.2 := fun D hD => rn_sub [0, 1, 2] rfl (s_Jp_checkIndex_0 hD x0 x1 a2 w r h)
def Js_checkIndex_0 (x0 : Int) (x1 : Int) (w : Wd) : Option (Wd) :=
  (Jp_checkIndex x0 x1 0 w).bind fun r5 =>
  some r5.2
theorem s_Js_checkIndex_0 {g : Gp} {l : Launch} {D : Nat} (hD : 1 ≤ D) (x0 : Int) (x1 : Int) (w : Wd) (r : Wd) (h : Js_checkIndex_0 x0 x1 w = some r) : Rn g l D 4 0 [(0, .inl x0), (1, .inl x1)] [] w none r := by
  obtain ⟨D, rfl⟩ : ∃ D1, D = D1 + 1 := ⟨D - 1, by omega⟩
  unfold Js_checkIndex_0 at h
  refine rn_iload_n i4_0 rfl ?_
  refine rn_iload_n i4_1 rfl ?_
  refine rn_gets2 i4_2 lw4_2 ?_
  obtain ⟨r5, h5, h⟩ := Option.bind_eq_some_iff.mp h
  refine fr_callS (nst := 0) (As := [.inl x0, .inl x1, .inr (.inr 0)]) (st := []) i4_5 (cq14 x0 x1 0) rfl (Nat.le_of_ble_eq_true rfl) (S_Jp_checkIndex x0 x1 0 w r5 h5 _ (by omega)) ?_
  show Rn _ _ _ _ _ _ [.inl r5.1] _ _ _
  refine rn_pop i4_8 rfl ?_
  obtain rfl := Option.some.inj h
  exact rn_ret i4_9 mr4
/-- java/lang/String.checkIndex(II)V -/
def Js_checkIndex (x0 : Int) (x1 : Int) (w : Wd) : Option (Wd) := Js_checkIndex_0 x0 x1 w
theorem S_Js_checkIndex {g : Gp} {l : Launch} (x0 : Int) (x1 : Int) (w : Wd) (r : Wd) (h : Js_checkIndex x0 x1 w = some r) : ∀ D, 1 ≤ D → Rn g l D 4 0 [(0, .inl x0), (1, .inl x1)] [] w none r := fun D hD => rn_sub [0, 1] rfl (s_Js_checkIndex_0 hD x0 x1 w r h)
def Jl_charAt_0 (a0 : Nat) (x1 : Int) (w : Wd) : Option (Int × Wd) :=
  (aln w a0).bind fun v2 =>
  (Js_checkIndex x1 v2 w).bind fun r3 =>
  (rdB r3 a0 x1).bind fun v8 =>
  rC (o2c (oand v8 255)) r3
theorem s_Jl_charAt_0 {g : Gp} {l : Launch} {D : Nat} (hD : 2 ≤ D) (a0 : Nat) (x1 : Int) (w : Wd) (r : Int × Wd) (h : Jl_charAt_0 a0 x1 w = some r) : Rn g l D 11 0 [(0, .inr (.inr a0)), (1, .inl x1)] [] w (some (.inl r.1)) r.2 := by
  obtain ⟨D, rfl⟩ : ∃ D1, D = D1 + 1 := ⟨D - 1, by omega⟩
  unfold Jl_charAt_0 at h
  refine rn_iload_n i11_0 rfl ?_
  refine fr_aload_n i11_1 rfl ?_
  obtain ⟨v2, h2, h⟩ := Option.bind_eq_some_iff.mp h
  refine rn_alen i11_2 h2 ?_
  obtain ⟨r3, h3, h⟩ := Option.bind_eq_some_iff.mp h
  refine fr_callS (nst := 0) (As := [.inl x1, .inl v2]) (st := []) i11_3 (cq4 x1 v2) rfl (Nat.le_of_ble_eq_true rfl) (S_Js_checkIndex x1 v2 w r3 h3 _ (by omega)) ?_
  refine fr_aload_n i11_6 rfl ?_
  refine rn_iload_n i11_7 rfl ?_
  obtain ⟨v8, h8, h⟩ := Option.bind_eq_some_iff.mp h
  refine rn_bald i11_8 h8 ?_
  refine rn_sipush i11_9 ?_
  refine rn_iand i11_12 ?_
  refine rn_i2c i11_13 ?_
  exact fr_retC i11_14 mr11 h
/-- java/lang/StringLatin1.charAt([BI)C -/
def Jl_charAt (a0 : Nat) (x1 : Int) (w : Wd) : Option (Int × Wd) := Jl_charAt_0 a0 x1 w
theorem S_Jl_charAt {g : Gp} {l : Launch} (a0 : Nat) (x1 : Int) (w : Wd) (r : Int × Wd) (h : Jl_charAt a0 x1 w = some r) : ∀ D, 2 ≤ D → Rn g l D 11 0 [(0, .inr (.inr a0)), (1, .inl x1)] [] w (some (.inl r.1)) r.2 := fun D hD => rn_sub [0, 1] rfl (s_Jl_charAt_0 hD a0 x1 w r h)
def Js_charAt_0 (a0 : Nat) (x1 : Int) (w : Wd) : Option (Int × Wd) :=
  (Js_isLatin1 a0 w).bind fun r1 =>
  if (r1.1 : Int) = 0 then
    (fgR r1.2 a0 13 0).bind fun v17 =>
    none
  else
    (fgR r1.2 a0 13 0).bind fun v8 =>
    (Jl_charAt v8 x1 r1.2).bind fun r12 =>
    rC r12.1 r12.2
theorem s_Js_charAt_0 {g : Gp} {l : Launch} {D : Nat} (hD : 3 ≤ D) (a0 : Nat) (x1 : Int) (w : Wd) (r : Int × Wd) (h : Js_charAt_0 a0 x1 w = some r) : Rn g l D 3 0 [(0, .inr (.inr a0)), (1, .inl x1)] [] w (some (.inl r.1)) r.2 := by
  obtain ⟨D, rfl⟩ : ∃ D1, D = D1 + 1 := ⟨D - 1, by omega⟩
  unfold Js_charAt_0 at h
  refine fr_aload_n i3_0 rfl ?_
  obtain ⟨r1, h1, h⟩ := Option.bind_eq_some_iff.mp h
  obtain ⟨g1, c1⟩ := S_Js_isLatin1 a0 w r1 h1
  refine fr_callV (a := a0) (As := []) (st := []) i3_1 (cq8 a0) rfl (Nat.le_of_ble_eq_true rfl) g1 (c1 _ (by omega)) ?_
  show Rn _ _ _ _ _ _ [.inl r1.1] _ _ _
  by_cases c4 : (r1.1 : Int) = 0
  · rw [if_pos c4] at h
    refine rn_if_eq_t i3_4 c4 ?_
    refine fr_aload_n i3_16 rfl ?_
    obtain ⟨v17, h17, h⟩ := Option.bind_eq_some_iff.mp h
    refine fr_gR (k := 0) i3_17 tf13_0 h17 ?_
    refine rn_iload_n i3_20 rfl ?_
    cases h
  · rw [if_neg c4] at h
    refine rn_if_eq_f i3_4 c4 ?_
    refine fr_aload_n i3_7 rfl ?_
    obtain ⟨v8, h8, h⟩ := Option.bind_eq_some_iff.mp h
    refine fr_gR (k := 0) i3_8 tf13_0 h8 ?_
    refine rn_iload_n i3_11 rfl ?_
    obtain ⟨r12, h12, h⟩ := Option.bind_eq_some_iff.mp h
    refine fr_callS (nst := 0) (As := [.inr (.inr v8), .inl x1]) (st := []) i3_12 (cq11 v8 x1) rfl (Nat.le_of_ble_eq_true rfl) (S_Jl_charAt v8 x1 r1.2 r12 h12 _ (by omega)) ?_
    show Rn _ _ _ _ _ _ [.inl r12.1] _ _ _
    exact fr_retC i3_15 mr3 h
/-- java/lang/String.charAt(I)C -/
def Js_charAt (a0 : Nat) (x1 : Int) (w : Wd) : Option (Int × Wd) := gd 13 w a0 (Js_charAt_0 a0 x1 w)
theorem S_Js_charAt {g : Gp} {l : Launch} (a0 : Nat) (x1 : Int) (w : Wd) (r : Int × Wd) (h : Js_charAt a0 x1 w = some r) : (wsh w a0).1 = 13 ∧ ∀ D, 3 ≤ D → Rn g l D 3 0 [(0, .inr (.inr a0)), (1, .inl x1)] [] w (some (.inl r.1)) r.2 := by
  obtain ⟨hg, h⟩ := gd_some h
  exact ⟨hg, fun D hD => rn_sub [0, 1] rfl (s_Js_charAt_0 hD a0 x1 w r h)⟩
def Js_coder_14 (s0 : Int) (w : Wd) : Option (Int × Wd) :=
  rB s0 w
theorem s_Js_coder_14 {g : Gp} {l : Launch} {D : Nat} (hD : 0 ≤ D) (s0 : Int) (w : Wd) (r : Int × Wd) (h : Js_coder_14 s0 w = some r) : Rn g l D 5 14 [] [.inl s0] w (some (.inl r.1)) r.2 := by
  unfold Js_coder_14 at h
  exact fr_retB i5_14 mr5 h
def Js_coder_0 (a0 : Nat) (w : Wd) : Option (Int × Wd) :=
  if (1 : Int) = 0 then
    Js_coder_14 1 w
  else
    (fgI w a0 13 1).bind fun v7 =>
    Js_coder_14 v7 w
theorem s_Js_coder_0 {g : Gp} {l : Launch} {D : Nat} (hD : 0 ≤ D) (a0 : Nat) (w : Wd) (r : Int × Wd) (h : Js_coder_0 a0 w = some r) : Rn g l D 5 0 [(0, .inr (.inr a0))] [] w (some (.inl r.1)) r.2 := by
  unfold Js_coder_0 at h
  refine rn_gets1 i5_0 lw5_0 ?_
  by_cases c3 : (1 : Int) = 0
  · rw [if_pos c3] at h
    refine rn_if_eq_t i5_3 c3 ?_
    refine rn_iconst i5_13 ?_
    exact rn_sub [] rfl (s_Js_coder_14 hD 1 w r h)
  · rw [if_neg c3] at h
    refine rn_if_eq_f i5_3 c3 ?_
    refine fr_aload_n i5_6 rfl ?_
    obtain ⟨v7, h7, h⟩ := Option.bind_eq_some_iff.mp h
    refine fr_gI (k := 1) i5_7 tf13_1 h7 ?_
    refine rn_goto i5_10 ?_
    exact rn_sub [] rfl (s_Js_coder_14 hD v7 w r h)
/-- java/lang/String.coder()B -/
def Js_coder (a0 : Nat) (w : Wd) : Option (Int × Wd) := gd 13 w a0 (Js_coder_0 a0 w)
theorem S_Js_coder {g : Gp} {l : Launch} (a0 : Nat) (w : Wd) (r : Int × Wd) (h : Js_coder a0 w = some r) : (wsh w a0).1 = 13 ∧ ∀ D, 0 ≤ D → Rn g l D 5 0 [(0, .inr (.inr a0))] [] w (some (.inl r.1)) r.2 := by
  obtain ⟨hg, h⟩ := gd_some h
  exact ⟨hg, fun D hD => rn_sub [0] rfl (s_Js_coder_0 hD a0 w r h)⟩
def Js_length_0 (a0 : Nat) (w : Wd) : Option (Int × Wd) :=
  (fgR w a0 13 0).bind fun v1 =>
  (aln w v1).bind fun v4 =>
  (Js_coder a0 w).bind fun r6 =>
  some ((oshr v4 r6.1), r6.2)
theorem s_Js_length_0 {g : Gp} {l : Launch} {D : Nat} (hD : 1 ≤ D) (a0 : Nat) (w : Wd) (r : Int × Wd) (h : Js_length_0 a0 w = some r) : Rn g l D 9 0 [(0, .inr (.inr a0))] [] w (some (.inl r.1)) r.2 := by
  obtain ⟨D, rfl⟩ : ∃ D1, D = D1 + 1 := ⟨D - 1, by omega⟩
  unfold Js_length_0 at h
  refine fr_aload_n i9_0 rfl ?_
  obtain ⟨v1, h1, h⟩ := Option.bind_eq_some_iff.mp h
  refine fr_gR (k := 0) i9_1 tf13_0 h1 ?_
  obtain ⟨v4, h4, h⟩ := Option.bind_eq_some_iff.mp h
  refine rn_alen i9_4 h4 ?_
  refine fr_aload_n i9_5 rfl ?_
  obtain ⟨r6, h6, h⟩ := Option.bind_eq_some_iff.mp h
  obtain ⟨g6, c6⟩ := S_Js_coder a0 w r6 h6
  refine fr_callV (a := a0) (As := []) (st := [.inl v4]) i9_6 (cq5 a0) rfl (Nat.le_of_ble_eq_true rfl) g6 (c6 _ (by omega)) ?_
  show Rn _ _ _ _ _ _ [.inl r6.1, .inl v4] _ _ _
  refine rn_ishr i9_9 ?_
  obtain rfl := Option.some.inj h
  exact rn_retI i9_10 mr9
/-- java/lang/String.length()I -/
def Js_length (a0 : Nat) (w : Wd) : Option (Int × Wd) := gd 13 w a0 (Js_length_0 a0 w)
theorem S_Js_length {g : Gp} {l : Launch} (a0 : Nat) (w : Wd) (r : Int × Wd) (h : Js_length a0 w = some r) : (wsh w a0).1 = 13 ∧ ∀ D, 1 ≤ D → Rn g l D 9 0 [(0, .inr (.inr a0))] [] w (some (.inl r.1)) r.2 := by
  obtain ⟨hg, h⟩ := gd_some h
  exact ⟨hg, fun D hD => rn_sub [0] rfl (s_Js_length_0 hD a0 w r h)⟩
def Jl_canEncode_16 (s0 : Int) (w : Wd) : Option (Int × Wd) :=
  rZ s0 w
theorem s_Jl_canEncode_16 {g : Gp} {l : Launch} {D : Nat} (hD : 0 ≤ D) (s0 : Int) (w : Wd) (r : Int × Wd) (h : Jl_canEncode_16 s0 w = some r) : Rn g l D 10 16 [] [.inl s0] w (some (.inl r.1)) r.2 := by
  unfold Jl_canEncode_16 at h
  exact fr_retZ i10_16 mr10 h
def Jl_canEncode_15 (w : Wd) : Option (Int × Wd) :=
  Jl_canEncode_16 0 w
theorem s_Jl_canEncode_15 {g : Gp} {l : Launch} {D : Nat} (hD : 0 ≤ D) (w : Wd) (r : Int × Wd) (h : Jl_canEncode_15 w = some r) : Rn g l D 10 15 [] [] w (some (.inl r.1)) r.2 := by
  unfold Jl_canEncode_15 at h
  refine rn_iconst i10_15 ?_
  exact rn_sub [] rfl (s_Jl_canEncode_16 hD 0 w r h)
def Jl_canEncode_0 (x0 : Int) (w : Wd) : Option (Int × Wd) :=
  if (x0 : Int) < 0 then
    Jl_canEncode_15 w
  else
    if (255 : Int) < x0 then
      Jl_canEncode_15 w
    else
      Jl_canEncode_16 1 w
theorem s_Jl_canEncode_0 {g : Gp} {l : Launch} {D : Nat} (hD : 0 ≤ D) (x0 : Int) (w : Wd) (r : Int × Wd) (h : Jl_canEncode_0 x0 w = some r) : Rn g l D 10 0 [(0, .inl x0)] [] w (some (.inl r.1)) r.2 := by
  unfold Jl_canEncode_0 at h
  refine rn_iload_n i10_0 rfl ?_
  by_cases c1 : (x0 : Int) < 0
  · rw [if_pos c1] at h
    refine rn_if_lt_t i10_1 c1 ?_
    exact rn_sub [] rfl (s_Jl_canEncode_15 hD w r h)
  · rw [if_neg c1] at h
    refine rn_if_lt_f i10_1 c1 ?_
    refine rn_iload_n i10_4 rfl ?_
    refine rn_sipush i10_5 ?_
    by_cases c8 : (255 : Int) < x0
    · rw [if_pos c8] at h
      refine rn_icmp_gt_t i10_8 c8 ?_
      exact rn_sub [] rfl (s_Jl_canEncode_15 hD w r h)
    · rw [if_neg c8] at h
      refine rn_icmp_gt_f i10_8 c8 ?_
      refine rn_iconst i10_11 ?_
      refine rn_goto i10_12 ?_
      exact rn_sub [] rfl (s_Jl_canEncode_16 hD 1 w r h)
/-- java/lang/StringLatin1.canEncode(I)Z -/
def Jl_canEncode (x0 : Int) (w : Wd) : Option (Int × Wd) := Jl_canEncode_0 x0 w
theorem S_Jl_canEncode {g : Gp} {l : Launch} (x0 : Int) (w : Wd) (r : Int × Wd) (h : Jl_canEncode x0 w = some r) : ∀ D, 0 ≤ D → Rn g l D 10 0 [(0, .inl x0)] [] w (some (.inl r.1)) r.2 := fun D hD => rn_sub [0] rfl (s_Jl_canEncode_0 hD x0 w r h)
def Jl_indexOfChar_7 : Nat → Nat → Int → Int → Int → Wd → Option (Int × Wd)
  | 0, _, _, _, _, _ => none
  | n + 1, a0, x3, x4, x5, w =>
    if (x3 : Int) ≤ x5 then
      some ((-1), w)
    else
      (rdB w a0 x5).bind fun v16 =>
      if (v16 : Int) = x4 then
        some (x5, w)
      else
        Jl_indexOfChar_7 n a0 x3 x4 (w32 (x5 + 1)) w
theorem s_Jl_indexOfChar_7 {g : Gp} {l : Launch} {D : Nat} (hD : 0 ≤ D) : ∀ (n : Nat) (a0 : Nat) (x3 : Int) (x4 : Int) (x5 : Int) (w : Wd) (r : Int × Wd), Jl_indexOfChar_7 n a0 x3 x4 x5 w = some r → Rn g l D 13 7 [(0, .inr (.inr a0)), (3, .inl x3), (4, .inl x4), (5, .inl x5)] [] w (some (.inl r.1)) r.2 := by
  intro n
  induction n with
  | zero => intro a0 x3 x4 x5 w r h; cases (show (none : Option (Int × Wd)) = some r from h)
  | succ n ih =>
    intro a0 x3 x4 x5 w r h
    unfold Jl_indexOfChar_7 at h
    refine rn_iload i13_7 rfl ?_
    refine rn_iload_n i13_9 rfl ?_
    by_cases c10 : (x3 : Int) ≤ x5
    · rw [if_pos c10] at h
      refine rn_icmp_ge_t i13_10 c10 ?_
      refine rn_iconst i13_31 ?_
      obtain rfl := Option.some.inj h
      exact rn_retI i13_32 mr13
    · rw [if_neg c10] at h
      refine rn_icmp_ge_f i13_10 c10 ?_
      refine fr_aload_n i13_13 rfl ?_
      refine rn_iload i13_14 rfl ?_
      obtain ⟨v16, h16, h⟩ := Option.bind_eq_some_iff.mp h
      refine rn_bald i13_16 h16 ?_
      refine rn_iload i13_17 rfl ?_
      by_cases c19 : (v16 : Int) = x4
      · rw [if_pos c19] at h
        refine rn_icmp_ne_f i13_19 c19 ?_
        refine rn_iload i13_22 rfl ?_
        obtain rfl := Option.some.inj h
        exact rn_retI i13_24 mr13
      · rw [if_neg c19] at h
        refine rn_icmp_ne_t i13_19 c19 ?_
        refine rn_iinc (ls1 := [(5, .inl (w32 (x5 + 1))), (0, .inr (.inr a0)), (3, .inl x3), (4, .inl x4)]) i13_25 rfl rfl ?_
        refine rn_goto i13_28 ?_
        exact rn_sub [1, 2, 3, 0] rfl (ih a0 x3 x4 (w32 (x5 + 1)) w r h)
def Jl_indexOfChar_0 (a0 : Nat) (x1 : Int) (x2 : Int) (x3 : Int) (w : Wd) : Option (Int × Wd) :=
  Jl_indexOfChar_7 FU a0 x3 (n8 x1) x2 w
theorem s_Jl_indexOfChar_0 {g : Gp} {l : Launch} {D : Nat} (hD : 0 ≤ D) (a0 : Nat) (x1 : Int) (x2 : Int) (x3 : Int) (w : Wd) (r : Int × Wd) (h : Jl_indexOfChar_0 a0 x1 x2 x3 w = some r) : Rn g l D 13 0 [(0, .inr (.inr a0)), (1, .inl x1), (2, .inl x2), (3, .inl x3)] [] w (some (.inl r.1)) r.2 := by
  unfold Jl_indexOfChar_0 at h
  refine rn_iload_n i13_0 rfl ?_
  refine rn_i2b i13_1 ?_
  refine rn_istore (ls1 := [(4, .inl (n8 x1)), (0, .inr (.inr a0)), (1, .inl x1), (2, .inl x2), (3, .inl x3)]) i13_2 rfl ?_
  refine rn_iload_n i13_4 rfl ?_
  refine rn_istore (ls1 := [(5, .inl x2), (4, .inl (n8 x1)), (0, .inr (.inr a0)), (1, .inl x1), (2, .inl x2), (3, .inl x3)]) i13_5 rfl ?_
  exact rn_sub [2, 5, 1, 0] rfl (s_Jl_indexOfChar_7 hD FU a0 x3 (n8 x1) x2 w r h)
/-- java/lang/StringLatin1.indexOfChar([BIII)I -/
def Jl_indexOfChar (a0 : Nat) (x1 : Int) (x2 : Int) (x3 : Int) (w : Wd) : Option (Int × Wd) := Jl_indexOfChar_0 a0 x1 x2 x3 w
theorem S_Jl_indexOfChar {g : Gp} {l : Launch} (a0 : Nat) (x1 : Int) (x2 : Int) (x3 : Int) (w : Wd) (r : Int × Wd) (h : Jl_indexOfChar a0 x1 x2 x3 w = some r) : ∀ D, 0 ≤ D → Rn g l D 13 0 [(0, .inr (.inr a0)), (1, .inl x1), (2, .inl x2), (3, .inl x3)] [] w (some (.inl r.1)) r.2 := fun D hD => rn_sub [0, 1, 2, 3] rfl (s_Jl_indexOfChar_0 hD a0 x1 x2 x3 w r h)
def Jl_indexOf_0 (a0 : Nat) (x1 : Int) (x2 : Int) (x3 : Int) (w : Wd) : Option (Int × Wd) :=
  (Jl_canEncode x1 w).bind fun r1 =>
  if (r1.1 : Int) = 0 then
    some ((-1), r1.2)
  else
    (aln r1.2 a0).bind fun v17 =>
    if ((max x2 0) : Int) < (min x3 v17) then
      (Jl_indexOfChar a0 x1 (max x2 0) (min x3 v17) r1.2).bind fun r33 =>
      some (r33.1, r33.2)
    else
      some ((-1), r1.2)
theorem s_Jl_indexOf_0 {g : Gp} {l : Launch} {D : Nat} (hD : 1 ≤ D) (a0 : Nat) (x1 : Int) (x2 : Int) (x3 : Int) (w : Wd) (r : Int × Wd) (h : Jl_indexOf_0 a0 x1 x2 x3 w = some r) : Rn g l D 12 0 [(0, .inr (.inr a0)), (1, .inl x1), (2, .inl x2), (3, .inl x3)] [] w (some (.inl r.1)) r.2 := by
  obtain ⟨D, rfl⟩ : ∃ D1, D = D1 + 1 := ⟨D - 1, by omega⟩
  unfold Jl_indexOf_0 at h
  refine rn_iload_n i12_0 rfl ?_
  obtain ⟨r1, h1, h⟩ := Option.bind_eq_some_iff.mp h
  refine fr_callS (nst := 0) (As := [.inl x1]) (st := []) i12_1 (cq10 x1) rfl (Nat.le_of_ble_eq_true rfl) (S_Jl_canEncode x1 w r1 h1 _ (by omega)) ?_
  show Rn _ _ _ _ _ _ [.inl r1.1] _ _ _
  by_cases c4 : (r1.1 : Int) = 0
  · rw [if_pos c4] at h
    refine rn_if_ne_f i12_4 c4 ?_
    refine rn_iconst i12_7 ?_
    obtain rfl := Option.some.inj h
    exact rn_retI i12_8 mr12
  · rw [if_neg c4] at h
    refine rn_if_ne_t i12_4 c4 ?_
    refine rn_iload_n i12_9 rfl ?_
    refine rn_iconst i12_10 ?_
    refine rn_max i12_11 (Nat.le_of_ble_eq_true rfl) ?_
    refine rn_istore_n (ls1 := [(2, .inl (max x2 0)), (0, .inr (.inr a0)), (1, .inl x1), (3, .inl x3)]) i12_14 rfl ?_
    refine rn_iload_n i12_15 rfl ?_
    refine fr_aload_n i12_16 rfl ?_
    obtain ⟨v17, h17, h⟩ := Option.bind_eq_some_iff.mp h
    refine rn_alen i12_17 h17 ?_
    refine rn_min i12_18 (Nat.le_of_ble_eq_true rfl) ?_
    refine rn_istore_n (ls1 := [(3, .inl (min x3 v17)), (2, .inl (max x2 0)), (0, .inr (.inr a0)), (1, .inl x1)]) i12_21 rfl ?_
    refine rn_iload_n i12_22 rfl ?_
    refine rn_iload_n i12_23 rfl ?_
    by_cases c24 : ((max x2 0) : Int) < (min x3 v17)
    · rw [if_pos c24] at h
      refine rn_icmp_lt_t i12_24 c24 ?_
      refine fr_aload_n i12_29 rfl ?_
      refine rn_iload_n i12_30 rfl ?_
      refine rn_iload_n i12_31 rfl ?_
      refine rn_iload_n i12_32 rfl ?_
      obtain ⟨r33, h33, h⟩ := Option.bind_eq_some_iff.mp h
      refine fr_callS (nst := 0) (As := [.inr (.inr a0), .inl x1, .inl (max x2 0), .inl (min x3 v17)]) (st := []) i12_33 (cq13 a0 x1 (max x2 0) (min x3 v17)) rfl (Nat.le_of_ble_eq_true rfl) (S_Jl_indexOfChar a0 x1 (max x2 0) (min x3 v17) r1.2 r33 h33 _ (by omega)) ?_
      show Rn _ _ _ _ _ _ [.inl r33.1] _ _ _
      obtain rfl := Option.some.inj h
      exact rn_retI i12_36 mr12
    · rw [if_neg c24] at h
      refine rn_icmp_lt_f i12_24 c24 ?_
      refine rn_iconst i12_27 ?_
      obtain rfl := Option.some.inj h
      exact rn_retI i12_28 mr12
/-- java/lang/StringLatin1.indexOf([BIII)I -/
def Jl_indexOf (a0 : Nat) (x1 : Int) (x2 : Int) (x3 : Int) (w : Wd) : Option (Int × Wd) := Jl_indexOf_0 a0 x1 x2 x3 w
theorem S_Jl_indexOf {g : Gp} {l : Launch} (a0 : Nat) (x1 : Int) (x2 : Int) (x3 : Int) (w : Wd) (r : Int × Wd) (h : Jl_indexOf a0 x1 x2 x3 w = some r) : ∀ D, 1 ≤ D → Rn g l D 12 0 [(0, .inr (.inr a0)), (1, .inl x1), (2, .inl x2), (3, .inl x3)] [] w (some (.inl r.1)) r.2 := fun D hD => rn_sub [0, 1, 2, 3] rfl (s_Jl_indexOf_0 hD a0 x1 x2 x3 w r h)
def Js_indexOf2_0 (a0 : Nat) (x1 : Int) (x2 : Int) (w : Wd) : Option (Int × Wd) :=
  (Js_isLatin1 a0 w).bind fun r1 =>
  if (r1.1 : Int) = 0 then
    (fgR r1.2 a0 13 0).bind fun v24 =>
    (Js_length a0 r1.2).bind fun r30 =>
    none
  else
    (fgR r1.2 a0 13 0).bind fun v8 =>
    (Js_length a0 r1.2).bind fun r14 =>
    (Jl_indexOf v8 x1 x2 (r14.1) r14.2).bind fun r17 =>
    some (r17.1, r17.2)
theorem s_Js_indexOf2_0 {g : Gp} {l : Launch} {D : Nat} (hD : 2 ≤ D) (a0 : Nat) (x1 : Int) (x2 : Int) (w : Wd) (r : Int × Wd) (h : Js_indexOf2_0 a0 x1 x2 w = some r) : Rn g l D 7 0 [(0, .inr (.inr a0)), (1, .inl x1), (2, .inl x2)] [] w (some (.inl r.1)) r.2 := by
  obtain ⟨D, rfl⟩ : ∃ D1, D = D1 + 1 := ⟨D - 1, by omega⟩
  unfold Js_indexOf2_0 at h
  refine fr_aload_n i7_0 rfl ?_
  obtain ⟨r1, h1, h⟩ := Option.bind_eq_some_iff.mp h
  obtain ⟨g1, c1⟩ := S_Js_isLatin1 a0 w r1 h1
  refine fr_callV (a := a0) (As := []) (st := []) i7_1 (cq8 a0) rfl (Nat.le_of_ble_eq_true rfl) g1 (c1 _ (by omega)) ?_
  show Rn _ _ _ _ _ _ [.inl r1.1] _ _ _
  by_cases c4 : (r1.1 : Int) = 0
  · rw [if_pos c4] at h
    refine rn_if_eq_t i7_4 c4 ?_
    refine fr_aload_n i7_23 rfl ?_
    obtain ⟨v24, h24, h⟩ := Option.bind_eq_some_iff.mp h
    refine fr_gR (k := 0) i7_24 tf13_0 h24 ?_
    refine rn_iload_n i7_27 rfl ?_
    refine rn_iload_n i7_28 rfl ?_
    refine fr_aload_n i7_29 rfl ?_
    obtain ⟨r30, h30, h⟩ := Option.bind_eq_some_iff.mp h
    obtain ⟨g30, c30⟩ := S_Js_length a0 r1.2 r30 h30
    refine fr_callV (a := a0) (As := []) (st := [.inl x2, .inl x1, .inr (.inr v24)]) i7_30 (cq9 a0) rfl (Nat.le_of_ble_eq_true rfl) g30 (c30 _ (by omega)) ?_
    show Rn _ _ _ _ _ _ [.inl r30.1, .inl x2, .inl x1, .inr (.inr v24)] _ _ _
    cases h
  · rw [if_neg c4] at h
    refine rn_if_eq_f i7_4 c4 ?_
    refine fr_aload_n i7_7 rfl ?_
    obtain ⟨v8, h8, h⟩ := Option.bind_eq_some_iff.mp h
    refine fr_gR (k := 0) i7_8 tf13_0 h8 ?_
    refine rn_iload_n i7_11 rfl ?_
    refine rn_iload_n i7_12 rfl ?_
    refine fr_aload_n i7_13 rfl ?_
    obtain ⟨r14, h14, h⟩ := Option.bind_eq_some_iff.mp h
    obtain ⟨g14, c14⟩ := S_Js_length a0 r1.2 r14 h14
    refine fr_callV (a := a0) (As := []) (st := [.inl x2, .inl x1, .inr (.inr v8)]) i7_14 (cq9 a0) rfl (Nat.le_of_ble_eq_true rfl) g14 (c14 _ (by omega)) ?_
    show Rn _ _ _ _ _ _ [.inl r14.1, .inl x2, .inl x1, .inr (.inr v8)] _ _ _
    obtain ⟨r17, h17, h⟩ := Option.bind_eq_some_iff.mp h
    refine fr_callS (nst := 0) (As := [.inr (.inr v8), .inl x1, .inl x2, .inl r14.1]) (st := []) i7_17 (cq12 v8 x1 x2 (r14.1)) rfl (Nat.le_of_ble_eq_true rfl) (S_Jl_indexOf v8 x1 x2 (r14.1) r14.2 r17 h17 _ (by omega)) ?_
    show Rn _ _ _ _ _ _ [.inl r17.1] _ _ _
    refine rn_goto i7_20 ?_
    obtain rfl := Option.some.inj h
    exact rn_retI i7_36 mr7
/-- java/lang/String.indexOf(II)I -/
def Js_indexOf2 (a0 : Nat) (x1 : Int) (x2 : Int) (w : Wd) : Option (Int × Wd) := gd 13 w a0 (Js_indexOf2_0 a0 x1 x2 w)
theorem S_Js_indexOf2 {g : Gp} {l : Launch} (a0 : Nat) (x1 : Int) (x2 : Int) (w : Wd) (r : Int × Wd) (h : Js_indexOf2 a0 x1 x2 w = some r) : (wsh w a0).1 = 13 ∧ ∀ D, 2 ≤ D → Rn g l D 7 0 [(0, .inr (.inr a0)), (1, .inl x1), (2, .inl x2)] [] w (some (.inl r.1)) r.2 := by
  obtain ⟨hg, h⟩ := gd_some h
  exact ⟨hg, fun D hD => rn_sub [0, 1, 2] rfl (s_Js_indexOf2_0 hD a0 x1 x2 w r h)⟩
def Js_indexOf_0 (a0 : Nat) (x1 : Int) (w : Wd) : Option (Int × Wd) :=
  (Js_indexOf2 a0 x1 0 w).bind fun r3 =>
  some (r3.1, r3.2)
theorem s_Js_indexOf_0 {g : Gp} {l : Launch} {D : Nat} (hD : 3 ≤ D) (a0 : Nat) (x1 : Int) (w : Wd) (r : Int × Wd) (h : Js_indexOf_0 a0 x1 w = some r) : Rn g l D 6 0 [(0, .inr (.inr a0)), (1, .inl x1)] [] w (some (.inl r.1)) r.2 := by
  obtain ⟨D, rfl⟩ : ∃ D1, D = D1 + 1 := ⟨D - 1, by omega⟩
  unfold Js_indexOf_0 at h
  refine fr_aload_n i6_0 rfl ?_
  refine rn_iload_n i6_1 rfl ?_
  refine rn_iconst i6_2 ?_
  obtain ⟨r3, h3, h⟩ := Option.bind_eq_some_iff.mp h
  obtain ⟨g3, c3⟩ := S_Js_indexOf2 a0 x1 0 w r3 h3
  refine fr_callV (a := a0) (As := [.inl x1, .inl 0]) (st := []) i6_3 (cq7 a0 x1 0) rfl (Nat.le_of_ble_eq_true rfl) g3 (c3 _ (by omega)) ?_
  show Rn _ _ _ _ _ _ [.inl r3.1] _ _ _
  obtain rfl := Option.some.inj h
  exact rn_retI i6_6 mr6
/-- java/lang/String.indexOf(I)I -/
def Js_indexOf (a0 : Nat) (x1 : Int) (w : Wd) : Option (Int × Wd) := gd 13 w a0 (Js_indexOf_0 a0 x1 w)
theorem S_Js_indexOf {g : Gp} {l : Launch} (a0 : Nat) (x1 : Int) (w : Wd) (r : Int × Wd) (h : Js_indexOf a0 x1 w = some r) : (wsh w a0).1 = 13 ∧ ∀ D, 3 ≤ D → Rn g l D 6 0 [(0, .inr (.inr a0)), (1, .inl x1)] [] w (some (.inl r.1)) r.2 := by
  obtain ⟨hg, h⟩ := gd_some h
  exact ⟨hg, fun D hD => rn_sub [0, 1] rfl (s_Js_indexOf_0 hD a0 x1 w r h)⟩
def Bk_init_0 (a0 : Nat) (w : Wd) : Option (Wd) :=
  (tgd w a0 0).bind fun _ =>
  (nwA w 22 400).bind fun w8 =>
  (fpR w8 a0 0 0 (wn w)).bind fun w10 =>
  some w10
theorem s_Bk_init_0 {g : Gp} {l : Launch} {D : Nat} (hD : 1 ≤ D) (a0 : Nat) (w : Wd) (r : Wd) (h : Bk_init_0 a0 w = some r) : Rn g l D 15 0 [(0, .inr (.inr a0))] [] w none r := by
  obtain ⟨D, rfl⟩ : ∃ D1, D = D1 + 1 := ⟨D - 1, by omega⟩
  unfold Bk_init_0 at h
  refine fr_aload_n i15_0 rfl ?_
  obtain ⟨_, h1, h⟩ := Option.bind_eq_some_iff.mp h
  refine fr_objI i15_1 h1 (by decide) (Nat.le_of_ble_eq_true rfl) ?_
  refine fr_aload_n i15_4 rfl ?_
  refine rn_sipush i15_5 ?_
  obtain ⟨w8, h8, h⟩ := Option.bind_eq_some_iff.mp h
  refine rn_newa (t := 22) i15_8 (by decide) rfl h8 ?_
  obtain ⟨w10, h10, h⟩ := Option.bind_eq_some_iff.mp h
  refine fr_pR (k := 0) i15_10 pf15_0_0 h10 ?_
  obtain rfl := Option.some.inj h
  exact rn_ret i15_13 mr15
/-- HandHeirs$Book.<init>()V -/
def Bk_init (a0 : Nat) (w : Wd) : Option (Wd) := gd 0 w a0 (Bk_init_0 a0 w)
theorem S_Bk_init {g : Gp} {l : Launch} (a0 : Nat) (w : Wd) (r : Wd) (h : Bk_init a0 w = some r) : (wsh w a0).1 = 0 ∧ ∀ D, 1 ≤ D → Rn g l D 15 0 [(0, .inr (.inr a0))] [] w none r := by
  obtain ⟨hg, h⟩ := gd_some h
  exact ⟨hg, fun D hD => rn_sub [0] rfl (s_Bk_init_0 hD a0 w r h)⟩
def Bk_lead_64 (w : Wd) : Option (Wd) :=
  some w
theorem s_Bk_lead_64 {g : Gp} {l : Launch} {D : Nat} (hD : 0 ≤ D) (w : Wd) (r : Wd) (h : Bk_lead_64 w = some r) : Rn g l D 16 64 [] [] w none r := by
  unfold Bk_lead_64 at h
  obtain rfl := Option.some.inj h
  exact rn_ret i16_64 mr16
def Bk_lead_54 (a0 : Nat) (a1 : Nat) (x2 : Int) (w : Wd) : Option (Wd) :=
  (fgR w a0 0 0).bind fun v55 =>
  (fgI w a1 9 0).bind fun v59 =>
  (wrL w v55 v59 x2).bind fun w63 =>
  Bk_lead_64 w63
theorem s_Bk_lead_54 {g : Gp} {l : Launch} {D : Nat} (hD : 0 ≤ D) (a0 : Nat) (a1 : Nat) (x2 : Int) (w : Wd) (r : Wd) (h : Bk_lead_54 a0 a1 x2 w = some r) : Rn g l D 16 54 [(0, .inr (.inr a0)), (1, .inr (.inr a1)), (2, .inr (.inl x2))] [] w none r := by
  unfold Bk_lead_54 at h
  refine fr_aload_n i16_54 rfl ?_
  obtain ⟨v55, h55, h⟩ := Option.bind_eq_some_iff.mp h
  refine fr_gR (k := 0) i16_55 tf0_0 h55 ?_
  refine fr_aload_n i16_58 rfl ?_
  obtain ⟨v59, h59, h⟩ := Option.bind_eq_some_iff.mp h
  refine fr_gI (k := 0) i16_59 tf9_0 h59 ?_
  refine rn_lload_n i16_62 rfl ?_
  obtain ⟨w63, h63, h⟩ := Option.bind_eq_some_iff.mp h
  refine rn_last i16_63 h63 ?_
  exact rn_sub [] rfl (s_Bk_lead_64 hD w63 r h)
def Bk_lead_29 : Nat → Nat → Nat → Int → Int → Wd → Option (Wd)
  | 0, _, _, _, _, _ => none
  | n + 1, a0, a1, x2, x4, w =>
    if (x4 : Int) < 0 then
      Bk_lead_54 a0 a1 x2 w
    else
      (fgR w a1 9 3).bind fun v39 =>
      (rdI w v39 x4).bind fun v44 =>
      Bk_lead_29 n a0 a1 (olor (oshl x2 7) v44) (w32 (x4 + (-1))) w
theorem s_Bk_lead_29 {g : Gp} {l : Launch} {D : Nat} (hD : 0 ≤ D) : ∀ (n : Nat) (a0 : Nat) (a1 : Nat) (x2 : Int) (x4 : Int) (w : Wd) (r : Wd), Bk_lead_29 n a0 a1 x2 x4 w = some r → Rn g l D 16 29 [(0, .inr (.inr a0)), (1, .inr (.inr a1)), (2, .inr (.inl x2)), (4, .inl x4)] [] w none r := by
  intro n
  induction n with
  | zero => intro a0 a1 x2 x4 w r h; cases (show (none : Option (Wd)) = some r from h)
  | succ n ih =>
    intro a0 a1 x2 x4 w r h
    unfold Bk_lead_29 at h
    refine rn_iload i16_29 rfl ?_
    by_cases c31 : (x4 : Int) < 0
    · rw [if_pos c31] at h
      refine rn_if_lt_t i16_31 c31 ?_
      exact rn_sub [0, 1, 2] rfl (s_Bk_lead_54 hD a0 a1 x2 w r h)
    · rw [if_neg c31] at h
      refine rn_if_lt_f i16_31 c31 ?_
      refine rn_lload_n i16_34 rfl ?_
      refine rn_bipush i16_35 ?_
      refine rn_lshl i16_37 ?_
      refine fr_aload_n i16_38 rfl ?_
      obtain ⟨v39, h39, h⟩ := Option.bind_eq_some_iff.mp h
      refine fr_gR (k := 3) i16_39 tf9_3 h39 ?_
      refine rn_iload i16_42 rfl ?_
      obtain ⟨v44, h44, h⟩ := Option.bind_eq_some_iff.mp h
      refine rn_iald i16_44 h44 ?_
      refine rn_i2l i16_45 ?_
      refine rn_lor i16_46 ?_
      refine rn_lstore_n (ls1 := [(2, .inr (.inl (olor (oshl x2 7) v44))), (0, .inr (.inr a0)), (1, .inr (.inr a1)), (4, .inl x4)]) i16_47 rfl ?_
      refine rn_iinc (ls1 := [(4, .inl (w32 (x4 + (-1)))), (2, .inr (.inl (olor (oshl x2 7) v44))), (0, .inr (.inr a0)), (1, .inr (.inr a1))]) i16_48 rfl rfl ?_
      refine rn_goto i16_51 ?_
      exact rn_sub [2, 3, 1, 0] rfl (ih a0 a1 (olor (oshl x2 7) v44) (w32 (x4 + (-1))) w r h)
def Bk_lead_0 (a0 : Nat) (a1 : Nat) (w : Wd) : Option (Wd) :=
  (fgI w a1 9 0).bind fun v1 =>
  if (v1 : Int) < 0 then
    Bk_lead_64 w
  else
    (fgI w a1 9 0).bind fun v8 =>
    if (400 : Int) ≤ v8 then
      Bk_lead_64 w
    else
      (fgI w a1 9 2).bind fun v18 =>
      Bk_lead_29 FU a0 a1 (w32 (v18 - (-2))) 5 w
theorem s_Bk_lead_0 {g : Gp} {l : Launch} {D : Nat} (hD : 0 ≤ D) (a0 : Nat) (a1 : Nat) (w : Wd) (r : Wd) (h : Bk_lead_0 a0 a1 w = some r) : Rn g l D 16 0 [(0, .inr (.inr a0)), (1, .inr (.inr a1))] [] w none r := by
  unfold Bk_lead_0 at h
  refine fr_aload_n i16_0 rfl ?_
  obtain ⟨v1, h1, h⟩ := Option.bind_eq_some_iff.mp h
  refine fr_gI (k := 0) i16_1 tf9_0 h1 ?_
  by_cases c4 : (v1 : Int) < 0
  · rw [if_pos c4] at h
    refine rn_if_lt_t i16_4 c4 ?_
    exact rn_sub [] rfl (s_Bk_lead_64 hD w r h)
  · rw [if_neg c4] at h
    refine rn_if_lt_f i16_4 c4 ?_
    refine fr_aload_n i16_7 rfl ?_
    obtain ⟨v8, h8, h⟩ := Option.bind_eq_some_iff.mp h
    refine fr_gI (k := 0) i16_8 tf9_0 h8 ?_
    refine rn_sipush i16_11 ?_
    by_cases c14 : (400 : Int) ≤ v8
    · rw [if_pos c14] at h
      refine rn_icmp_ge_t i16_14 c14 ?_
      exact rn_sub [] rfl (s_Bk_lead_64 hD w r h)
    · rw [if_neg c14] at h
      refine rn_icmp_ge_f i16_14 c14 ?_
      refine fr_aload_n i16_17 rfl ?_
      obtain ⟨v18, h18, h⟩ := Option.bind_eq_some_iff.mp h
      refine fr_gI (k := 2) i16_18 tf9_2 h18 ?_
      refine rn_bipush i16_21 ?_
      refine rn_isub i16_23 ?_
      refine rn_i2l i16_24 ?_
      refine rn_lstore_n (ls1 := [(2, .inr (.inl (w32 (v18 - (-2))))), (0, .inr (.inr a0)), (1, .inr (.inr a1))]) i16_25 rfl ?_
      refine rn_iconst i16_26 ?_
      refine rn_istore (ls1 := [(4, .inl 5), (2, .inr (.inl (w32 (v18 - (-2))))), (0, .inr (.inr a0)), (1, .inr (.inr a1))]) i16_27 rfl ?_
      exact rn_sub [2, 3, 1, 0] rfl (s_Bk_lead_29 hD FU a0 a1 (w32 (v18 - (-2))) 5 w r h)
/-- HandHeirs$Book.lead(LHandHeirs$State;)V -/
def Bk_lead (a0 : Nat) (a1 : Nat) (w : Wd) : Option (Wd) := gd 0 w a0 (Bk_lead_0 a0 a1 w)
theorem S_Bk_lead {g : Gp} {l : Launch} (a0 : Nat) (a1 : Nat) (w : Wd) (r : Wd) (h : Bk_lead a0 a1 w = some r) : (wsh w a0).1 = 0 ∧ ∀ D, 0 ≤ D → Rn g l D 16 0 [(0, .inr (.inr a0)), (1, .inr (.inr a1))] [] w none r := by
  obtain ⟨hg, h⟩ := gd_some h
  exact ⟨hg, fun D hD => rn_sub [0, 1] rfl (s_Bk_lead_0 hD a0 a1 w r h)⟩
def Bk_copy_0 (a0 : Nat) (a1 : Nat) (x2 : Int) (w : Wd) : Option (Wd) :=
  (fgR w a1 0 0).bind fun v1 =>
  (fgR w a0 0 0).bind fun v6 =>
  (cpyL w v1 0 v6 0 x2).bind fun w11 =>
  some w11
theorem s_Bk_copy_0 {g : Gp} {l : Launch} {D : Nat} (hD : 1 ≤ D) (a0 : Nat) (a1 : Nat) (x2 : Int) (w : Wd) (r : Wd) (h : Bk_copy_0 a0 a1 x2 w = some r) : Rn g l D 17 0 [(0, .inr (.inr a0)), (1, .inr (.inr a1)), (2, .inl x2)] [] w none r := by
  obtain ⟨D, rfl⟩ : ∃ D1, D = D1 + 1 := ⟨D - 1, by omega⟩
  unfold Bk_copy_0 at h
  refine fr_aload_n i17_0 rfl ?_
  obtain ⟨v1, h1, h⟩ := Option.bind_eq_some_iff.mp h
  refine fr_gR (k := 0) i17_1 tf0_0 h1 ?_
  refine rn_iconst i17_4 ?_
  refine fr_aload_n i17_5 rfl ?_
  obtain ⟨v6, h6, h⟩ := Option.bind_eq_some_iff.mp h
  refine fr_gR (k := 0) i17_6 tf0_0 h6 ?_
  refine rn_iconst i17_9 ?_
  refine rn_iload_n i17_10 rfl ?_
  obtain ⟨w11, h11, h⟩ := Option.bind_eq_some_iff.mp h
  refine rn_copyL i17_11 (Nat.le_of_ble_eq_true rfl) h11 ?_
  obtain rfl := Option.some.inj h
  exact rn_ret i17_14 mr17
/-- HandHeirs$Book.copy(LHandHeirs$Book;I)V -/
def Bk_copy (a0 : Nat) (a1 : Nat) (x2 : Int) (w : Wd) : Option (Wd) := gd 0 w a0 (Bk_copy_0 a0 a1 x2 w)
theorem S_Bk_copy {g : Gp} {l : Launch} (a0 : Nat) (a1 : Nat) (x2 : Int) (w : Wd) (r : Wd) (h : Bk_copy a0 a1 x2 w = some r) : (wsh w a0).1 = 0 ∧ ∀ D, 1 ≤ D → Rn g l D 17 0 [(0, .inr (.inr a0)), (1, .inr (.inr a1)), (2, .inl x2)] [] w none r := by
  obtain ⟨hg, h⟩ := gd_some h
  exact ⟨hg, fun D hD => rn_sub [0, 1, 2] rfl (s_Bk_copy_0 hD a0 a1 x2 w r h)⟩
def Bk_handOf_0 (a0 : Nat) (x1 : Int) (x2 : Int) (w : Wd) : Option (Int × Wd) :=
  (fgR w a0 0 0).bind fun v1 =>
  (rdL w v1 x1).bind fun v5 =>
  some ((oand (w32 (olushr v5 (w32 (7 * x2)))) 127), w)
theorem s_Bk_handOf_0 {g : Gp} {l : Launch} {D : Nat} (hD : 0 ≤ D) (a0 : Nat) (x1 : Int) (x2 : Int) (w : Wd) (r : Int × Wd) (h : Bk_handOf_0 a0 x1 x2 w = some r) : Rn g l D 18 0 [(0, .inr (.inr a0)), (1, .inl x1), (2, .inl x2)] [] w (some (.inl r.1)) r.2 := by
  unfold Bk_handOf_0 at h
  refine fr_aload_n i18_0 rfl ?_
  obtain ⟨v1, h1, h⟩ := Option.bind_eq_some_iff.mp h
  refine fr_gR (k := 0) i18_1 tf0_0 h1 ?_
  refine rn_iload_n i18_4 rfl ?_
  obtain ⟨v5, h5, h⟩ := Option.bind_eq_some_iff.mp h
  refine rn_lald i18_5 h5 ?_
  refine rn_bipush i18_6 ?_
  refine rn_iload_n i18_8 rfl ?_
  refine rn_imul i18_9 ?_
  refine rn_lushr i18_10 ?_
  refine rn_l2i i18_11 ?_
  refine rn_bipush i18_12 ?_
  refine rn_iand i18_14 ?_
  obtain rfl := Option.some.inj h
  exact rn_retI i18_15 mr18
/-- HandHeirs$Book.handOf(II)I -/
def Bk_handOf (a0 : Nat) (x1 : Int) (x2 : Int) (w : Wd) : Option (Int × Wd) := gd 0 w a0 (Bk_handOf_0 a0 x1 x2 w)
theorem S_Bk_handOf {g : Gp} {l : Launch} (a0 : Nat) (x1 : Int) (x2 : Int) (w : Wd) (r : Int × Wd) (h : Bk_handOf a0 x1 x2 w = some r) : (wsh w a0).1 = 0 ∧ ∀ D, 0 ≤ D → Rn g l D 18 0 [(0, .inr (.inr a0)), (1, .inl x1), (2, .inl x2)] [] w (some (.inl r.1)) r.2 := by
  obtain ⟨hg, h⟩ := gd_some h
  exact ⟨hg, fun D hD => rn_sub [0, 1, 2] rfl (s_Bk_handOf_0 hD a0 x1 x2 w r h)⟩
def Bk_givenIn_0 (a0 : Nat) (x1 : Int) (w : Wd) : Option (Int × Wd) :=
  (fgR w a0 0 0).bind fun v1 =>
  (rdL w v1 x1).bind fun v5 =>
  some ((w32 ((w32 (olushr v5 42)) + (-2))), w)
theorem s_Bk_givenIn_0 {g : Gp} {l : Launch} {D : Nat} (hD : 0 ≤ D) (a0 : Nat) (x1 : Int) (w : Wd) (r : Int × Wd) (h : Bk_givenIn_0 a0 x1 w = some r) : Rn g l D 19 0 [(0, .inr (.inr a0)), (1, .inl x1)] [] w (some (.inl r.1)) r.2 := by
  unfold Bk_givenIn_0 at h
  refine fr_aload_n i19_0 rfl ?_
  obtain ⟨v1, h1, h⟩ := Option.bind_eq_some_iff.mp h
  refine fr_gR (k := 0) i19_1 tf0_0 h1 ?_
  refine rn_iload_n i19_4 rfl ?_
  obtain ⟨v5, h5, h⟩ := Option.bind_eq_some_iff.mp h
  refine rn_lald i19_5 h5 ?_
  refine rn_bipush i19_6 ?_
  refine rn_lushr i19_8 ?_
  refine rn_l2i i19_9 ?_
  refine rn_bipush i19_10 ?_
  refine rn_iadd i19_12 ?_
  obtain rfl := Option.some.inj h
  exact rn_retI i19_13 mr19
/-- HandHeirs$Book.givenIn(I)I -/
def Bk_givenIn (a0 : Nat) (x1 : Int) (w : Wd) : Option (Int × Wd) := gd 0 w a0 (Bk_givenIn_0 a0 x1 w)
theorem S_Bk_givenIn {g : Gp} {l : Launch} (a0 : Nat) (x1 : Int) (w : Wd) (r : Int × Wd) (h : Bk_givenIn a0 x1 w = some r) : (wsh w a0).1 = 0 ∧ ∀ D, 0 ≤ D → Rn g l D 19 0 [(0, .inr (.inr a0)), (1, .inl x1)] [] w (some (.inl r.1)) r.2 := by
  obtain ⟨hg, h⟩ := gd_some h
  exact ⟨hg, fun D hD => rn_sub [0, 1] rfl (s_Bk_givenIn_0 hD a0 x1 w r h)⟩
def Bk_reignFrom_26 (x1 : Int) (x3 : Int) (w : Wd) : Option (Int × Wd) :=
  some ((w32 (x3 - x1)), w)
theorem s_Bk_reignFrom_26 {g : Gp} {l : Launch} {D : Nat} (hD : 1 ≤ D) (x1 : Int) (x3 : Int) (w : Wd) (r : Int × Wd) (h : Bk_reignFrom_26 x1 x3 w = some r) : Rn g l D 20 26 [(1, .inl x1), (3, .inl x3)] [] w (some (.inl r.1)) r.2 := by
  unfold Bk_reignFrom_26 at h
  refine rn_iload_n i20_26 rfl ?_
  refine rn_iload_n i20_27 rfl ?_
  refine rn_isub i20_28 ?_
  obtain rfl := Option.some.inj h
  exact rn_retI i20_29 mr20
def Bk_reignFrom_2 : Nat → Nat → Int → Int → Int → Wd → Option (Int × Wd)
  | 0, _, _, _, _, _ => none
  | n + 1, a0, x1, x2, x3, w =>
    if (x2 : Int) ≤ x3 then
      Bk_reignFrom_26 x1 x3 w
    else
      (Bk_givenIn a0 x3 w).bind fun r9 =>
      (Bk_givenIn a0 x1 r9.2).bind fun r14 =>
      if (r9.1 : Int) = r14.1 then
        Bk_reignFrom_2 n a0 x1 x2 (w32 (x3 + 1)) r14.2
      else
        Bk_reignFrom_26 x1 x3 r14.2
theorem s_Bk_reignFrom_2 {g : Gp} {l : Launch} {D : Nat} (hD : 1 ≤ D) : ∀ (n : Nat) (a0 : Nat) (x1 : Int) (x2 : Int) (x3 : Int) (w : Wd) (r : Int × Wd), Bk_reignFrom_2 n a0 x1 x2 x3 w = some r → Rn g l D 20 2 [(0, .inr (.inr a0)), (1, .inl x1), (2, .inl x2), (3, .inl x3)] [] w (some (.inl r.1)) r.2 := by
  obtain ⟨D, rfl⟩ : ∃ D1, D = D1 + 1 := ⟨D - 1, by omega⟩
  intro n
  induction n with
  | zero => intro a0 x1 x2 x3 w r h; cases (show (none : Option (Int × Wd)) = some r from h)
  | succ n ih =>
    intro a0 x1 x2 x3 w r h
    unfold Bk_reignFrom_2 at h
    refine rn_iload_n i20_2 rfl ?_
    refine rn_iload_n i20_3 rfl ?_
    by_cases c4 : (x2 : Int) ≤ x3
    · rw [if_pos c4] at h
      refine rn_icmp_ge_t i20_4 c4 ?_
      exact rn_sub [1, 3] rfl (s_Bk_reignFrom_26 hD x1 x3 w r h)
    · rw [if_neg c4] at h
      refine rn_icmp_ge_f i20_4 c4 ?_
      refine fr_aload_n i20_7 rfl ?_
      refine rn_iload_n i20_8 rfl ?_
      obtain ⟨r9, h9, h⟩ := Option.bind_eq_some_iff.mp h
      obtain ⟨g9, c9⟩ := S_Bk_givenIn a0 x3 w r9 h9
      refine fr_callV (a := a0) (As := [.inl x3]) (st := []) i20_9 (cq19 a0 x3) rfl (Nat.le_of_ble_eq_true rfl) g9 (c9 _ (by omega)) ?_
      show Rn _ _ _ _ _ _ [.inl r9.1] _ _ _
      refine fr_aload_n i20_12 rfl ?_
      refine rn_iload_n i20_13 rfl ?_
      obtain ⟨r14, h14, h⟩ := Option.bind_eq_some_iff.mp h
      obtain ⟨g14, c14⟩ := S_Bk_givenIn a0 x1 r9.2 r14 h14
      refine fr_callV (a := a0) (As := [.inl x1]) (st := [.inl r9.1]) i20_14 (cq19 a0 x1) rfl (Nat.le_of_ble_eq_true rfl) g14 (c14 _ (by omega)) ?_
      show Rn _ _ _ _ _ _ [.inl r14.1, .inl r9.1] _ _ _
      by_cases c17 : (r9.1 : Int) = r14.1
      · rw [if_pos c17] at h
        refine rn_icmp_ne_f i20_17 c17 ?_
        refine rn_iinc (ls1 := [(3, .inl (w32 (x3 + 1))), (0, .inr (.inr a0)), (1, .inl x1), (2, .inl x2)]) i20_20 rfl rfl ?_
        refine rn_goto i20_23 ?_
        exact rn_sub [1, 2, 3, 0] rfl (ih a0 x1 x2 (w32 (x3 + 1)) r14.2 r h)
      · rw [if_neg c17] at h
        refine rn_icmp_ne_t i20_17 c17 ?_
        exact rn_sub [1, 3] rfl (s_Bk_reignFrom_26 hD x1 x3 r14.2 r h)
def Bk_reignFrom_0 (a0 : Nat) (x1 : Int) (x2 : Int) (w : Wd) : Option (Int × Wd) :=
  Bk_reignFrom_2 FU a0 x1 x2 x1 w
theorem s_Bk_reignFrom_0 {g : Gp} {l : Launch} {D : Nat} (hD : 1 ≤ D) (a0 : Nat) (x1 : Int) (x2 : Int) (w : Wd) (r : Int × Wd) (h : Bk_reignFrom_0 a0 x1 x2 w = some r) : Rn g l D 20 0 [(0, .inr (.inr a0)), (1, .inl x1), (2, .inl x2)] [] w (some (.inl r.1)) r.2 := by
  unfold Bk_reignFrom_0 at h
  refine rn_iload_n i20_0 rfl ?_
  refine rn_istore_n (ls1 := [(3, .inl x1), (0, .inr (.inr a0)), (1, .inl x1), (2, .inl x2)]) i20_1 rfl ?_
  exact rn_sub [1, 2, 3, 0] rfl (s_Bk_reignFrom_2 hD FU a0 x1 x2 x1 w r h)
/-- HandHeirs$Book.reignFrom(II)I -/
def Bk_reignFrom (a0 : Nat) (x1 : Int) (x2 : Int) (w : Wd) : Option (Int × Wd) := gd 0 w a0 (Bk_reignFrom_0 a0 x1 x2 w)
theorem S_Bk_reignFrom {g : Gp} {l : Launch} (a0 : Nat) (x1 : Int) (x2 : Int) (w : Wd) (r : Int × Wd) (h : Bk_reignFrom a0 x1 x2 w = some r) : (wsh w a0).1 = 0 ∧ ∀ D, 1 ≤ D → Rn g l D 20 0 [(0, .inr (.inr a0)), (1, .inl x1), (2, .inl x2)] [] w (some (.inl r.1)) r.2 := by
  obtain ⟨hg, h⟩ := gd_some h
  exact ⟨hg, fun D hD => rn_sub [0, 1, 2] rfl (s_Bk_reignFrom_0 hD a0 x1 x2 w r h)⟩
def Bk_longestReign_47 (k7 : Nat → Int → Int → Int → Int → Wd → Option (Int × Wd)) (a0 : Nat) (x1 : Int) (x2 : Int) (x3 : Int) (x4 : Int) (x5 : Int) (w : Wd) : Option (Int × Wd) :=
  k7 a0 x1 x2 x3 (w32 (x4 + x5)) w
theorem s_Bk_longestReign_47 {g : Gp} {l : Launch} {D : Nat} (hD : 2 ≤ D) (k7 : Nat → Int → Int → Int → Int → Wd → Option (Int × Wd)) (hk7 : ∀ (a0 : Nat) (x1 : Int) (x2 : Int) (x3 : Int) (x4 : Int) (w : Wd) (r : Int × Wd), k7 a0 x1 x2 x3 x4 w = some r → Rn g l D 21 7 [(0, .inr (.inr a0)), (1, .inl x1), (2, .inl x2), (3, .inl x3), (4, .inl x4)] [] w (some (.inl r.1)) r.2) (a0 : Nat) (x1 : Int) (x2 : Int) (x3 : Int) (x4 : Int) (x5 : Int) (w : Wd) (r : Int × Wd) (h : Bk_longestReign_47 k7 a0 x1 x2 x3 x4 x5 w = some r) : Rn g l D 21 47 [(0, .inr (.inr a0)), (1, .inl x1), (2, .inl x2), (3, .inl x3), (4, .inl x4), (5, .inl x5)] [] w (some (.inl r.1)) r.2 := by
  unfold Bk_longestReign_47 at h
  refine rn_iload i21_47 rfl ?_
  refine rn_iload i21_49 rfl ?_
  refine rn_iadd i21_51 ?_
  refine rn_istore (ls1 := [(4, .inl (w32 (x4 + x5))), (0, .inr (.inr a0)), (1, .inl x1), (2, .inl x2), (3, .inl x3), (5, .inl x5)]) i21_52 rfl ?_
  refine rn_goto i21_54 ?_
  exact rn_sub [1, 2, 3, 4, 0] rfl (hk7 a0 x1 x2 x3 (w32 (x4 + x5)) w r h)
def Bk_longestReign_7 : Nat → Nat → Int → Int → Int → Int → Wd → Option (Int × Wd)
  | 0, _, _, _, _, _, _ => none
  | n + 1, a0, x1, x2, x3, x4, w =>
    if (x1 : Int) ≤ x4 then
      some (x2, w)
    else
      (Bk_reignFrom a0 x4 x1 w).bind fun r18 =>
      (Bk_givenIn a0 x4 r18.2).bind fun r29 =>
      if (r29.1 : Int) < 0 then
        Bk_longestReign_47 (Bk_longestReign_7 n) a0 x1 x2 x3 x4 (max 1 r18.1) r29.2
      else
        if ((max 1 r18.1) : Int) ≤ x3 then
          Bk_longestReign_47 (Bk_longestReign_7 n) a0 x1 x2 x3 x4 (max 1 r18.1) r29.2
        else
          Bk_longestReign_47 (Bk_longestReign_7 n) a0 x1 x4 (max 1 r18.1) x4 (max 1 r18.1) r29.2
theorem s_Bk_longestReign_7 {g : Gp} {l : Launch} {D : Nat} (hD : 2 ≤ D) : ∀ (n : Nat) (a0 : Nat) (x1 : Int) (x2 : Int) (x3 : Int) (x4 : Int) (w : Wd) (r : Int × Wd), Bk_longestReign_7 n a0 x1 x2 x3 x4 w = some r → Rn g l D 21 7 [(0, .inr (.inr a0)), (1, .inl x1), (2, .inl x2), (3, .inl x3), (4, .inl x4)] [] w (some (.inl r.1)) r.2 := by
  obtain ⟨D, rfl⟩ : ∃ D1, D = D1 + 1 := ⟨D - 1, by omega⟩
  intro n
  induction n with
  | zero => intro a0 x1 x2 x3 x4 w r h; cases (show (none : Option (Int × Wd)) = some r from h)
  | succ n ih =>
    intro a0 x1 x2 x3 x4 w r h
    unfold Bk_longestReign_7 at h
    refine rn_iload i21_7 rfl ?_
    refine rn_iload_n i21_9 rfl ?_
    by_cases c10 : (x1 : Int) ≤ x4
    · rw [if_pos c10] at h
      refine rn_icmp_ge_t i21_10 c10 ?_
      refine rn_iload_n i21_57 rfl ?_
      obtain rfl := Option.some.inj h
      exact rn_retI i21_58 mr21
    · rw [if_neg c10] at h
      refine rn_icmp_ge_f i21_10 c10 ?_
      refine rn_iconst i21_13 ?_
      refine fr_aload_n i21_14 rfl ?_
      refine rn_iload i21_15 rfl ?_
      refine rn_iload_n i21_17 rfl ?_
      obtain ⟨r18, h18, h⟩ := Option.bind_eq_some_iff.mp h
      obtain ⟨g18, c18⟩ := S_Bk_reignFrom a0 x4 x1 w r18 h18
      refine fr_callV (a := a0) (As := [.inl x4, .inl x1]) (st := [.inl 1]) i21_18 (cq20 a0 x4 x1) rfl (Nat.le_of_ble_eq_true rfl) g18 (c18 _ (by omega)) ?_
      show Rn _ _ _ _ _ _ [.inl r18.1, .inl 1] _ _ _
      refine rn_max i21_21 (Nat.le_of_ble_eq_true rfl) ?_
      refine rn_istore (ls1 := [(5, .inl (max 1 r18.1)), (0, .inr (.inr a0)), (1, .inl x1), (2, .inl x2), (3, .inl x3), (4, .inl x4)]) i21_24 rfl ?_
      refine fr_aload_n i21_26 rfl ?_
      refine rn_iload i21_27 rfl ?_
      obtain ⟨r29, h29, h⟩ := Option.bind_eq_some_iff.mp h
      obtain ⟨g29, c29⟩ := S_Bk_givenIn a0 x4 r18.2 r29 h29
      refine fr_callV (a := a0) (As := [.inl x4]) (st := []) i21_29 (cq19 a0 x4) rfl (Nat.le_of_ble_eq_true rfl) g29 (c29 _ (by omega)) ?_
      show Rn _ _ _ _ _ _ [.inl r29.1] _ _ _
      by_cases c32 : (r29.1 : Int) < 0
      · rw [if_pos c32] at h
        refine rn_if_lt_t i21_32 c32 ?_
        exact rn_sub [1, 2, 3, 4, 5, 0] rfl (s_Bk_longestReign_47 hD (Bk_longestReign_7 n) ih a0 x1 x2 x3 x4 (max 1 r18.1) r29.2 r h)
      · rw [if_neg c32] at h
        refine rn_if_lt_f i21_32 c32 ?_
        refine rn_iload i21_35 rfl ?_
        refine rn_iload_n i21_37 rfl ?_
        by_cases c38 : ((max 1 r18.1) : Int) ≤ x3
        · rw [if_pos c38] at h
          refine rn_icmp_le_t i21_38 c38 ?_
          exact rn_sub [1, 2, 3, 4, 5, 0] rfl (s_Bk_longestReign_47 hD (Bk_longestReign_7 n) ih a0 x1 x2 x3 x4 (max 1 r18.1) r29.2 r h)
        · rw [if_neg c38] at h
          refine rn_icmp_le_f i21_38 c38 ?_
          refine rn_iload i21_41 rfl ?_
          refine rn_istore_n (ls1 := [(2, .inl x4), (5, .inl (max 1 r18.1)), (0, .inr (.inr a0)), (1, .inl x1), (3, .inl x3), (4, .inl x4)]) i21_43 rfl ?_
          refine rn_iload i21_44 rfl ?_
          refine rn_istore_n (ls1 := [(3, .inl (max 1 r18.1)), (2, .inl x4), (5, .inl (max 1 r18.1)), (0, .inr (.inr a0)), (1, .inl x1), (4, .inl x4)]) i21_46 rfl ?_
          exact rn_sub [3, 4, 1, 0, 5, 2] rfl (s_Bk_longestReign_47 hD (Bk_longestReign_7 n) ih a0 x1 x4 (max 1 r18.1) x4 (max 1 r18.1) r29.2 r h)
def Bk_longestReign_0 (a0 : Nat) (x1 : Int) (w : Wd) : Option (Int × Wd) :=
  Bk_longestReign_7 FU a0 x1 (-1) 0 0 w
theorem s_Bk_longestReign_0 {g : Gp} {l : Launch} {D : Nat} (hD : 2 ≤ D) (a0 : Nat) (x1 : Int) (w : Wd) (r : Int × Wd) (h : Bk_longestReign_0 a0 x1 w = some r) : Rn g l D 21 0 [(0, .inr (.inr a0)), (1, .inl x1)] [] w (some (.inl r.1)) r.2 := by
  unfold Bk_longestReign_0 at h
  refine rn_iconst i21_0 ?_
  refine rn_istore_n (ls1 := [(2, .inl (-1)), (0, .inr (.inr a0)), (1, .inl x1)]) i21_1 rfl ?_
  refine rn_iconst i21_2 ?_
  refine rn_istore_n (ls1 := [(3, .inl 0), (2, .inl (-1)), (0, .inr (.inr a0)), (1, .inl x1)]) i21_3 rfl ?_
  refine rn_iconst i21_4 ?_
  refine rn_istore (ls1 := [(4, .inl 0), (3, .inl 0), (2, .inl (-1)), (0, .inr (.inr a0)), (1, .inl x1)]) i21_5 rfl ?_
  exact rn_sub [3, 4, 2, 1, 0] rfl (s_Bk_longestReign_7 hD FU a0 x1 (-1) 0 0 w r h)
/-- HandHeirs$Book.longestReign(I)I -/
def Bk_longestReign (a0 : Nat) (x1 : Int) (w : Wd) : Option (Int × Wd) := gd 0 w a0 (Bk_longestReign_0 a0 x1 w)
theorem S_Bk_longestReign {g : Gp} {l : Launch} (a0 : Nat) (x1 : Int) (w : Wd) (r : Int × Wd) (h : Bk_longestReign a0 x1 w = some r) : (wsh w a0).1 = 0 ∧ ∀ D, 2 ≤ D → Rn g l D 21 0 [(0, .inr (.inr a0)), (1, .inl x1)] [] w (some (.inl r.1)) r.2 := by
  obtain ⟨hg, h⟩ := gd_some h
  exact ⟨hg, fun D hD => rn_sub [0, 1] rfl (s_Bk_longestReign_0 hD a0 x1 w r h)⟩
def Ct_init_0 (a0 : Nat) (w : Wd) : Option (Wd) :=
  (tgd w a0 1).bind fun _ =>
  (nwM w 6 3).bind fun w8 =>
  (fpR w8 a0 1 0 (wn w)).bind fun w12 =>
  (nwA w12 20 3).bind fun w17 =>
  (fpR w17 a0 1 1 (wn w12)).bind fun w19 =>
  (nwA w19 20 6).bind fun w25 =>
  (fpR w25 a0 1 2 (wn w19)).bind fun w27 =>
  some w27
theorem s_Ct_init_0 {g : Gp} {l : Launch} {D : Nat} (hD : 1 ≤ D) (a0 : Nat) (w : Wd) (r : Wd) (h : Ct_init_0 a0 w = some r) : Rn g l D 22 0 [(0, .inr (.inr a0))] [] w none r := by
  obtain ⟨D, rfl⟩ : ∃ D1, D = D1 + 1 := ⟨D - 1, by omega⟩
  unfold Ct_init_0 at h
  refine fr_aload_n i22_0 rfl ?_
  obtain ⟨_, h1, h⟩ := Option.bind_eq_some_iff.mp h
  refine fr_objI i22_1 h1 (by decide) (Nat.le_of_ble_eq_true rfl) ?_
  refine fr_aload_n i22_4 rfl ?_
  refine rn_bipush i22_5 ?_
  refine rn_iconst i22_7 ?_
  obtain ⟨w8, h8, h⟩ := Option.bind_eq_some_iff.mp h
  refine rn_multi i22_8 h8 ?_
  obtain ⟨w12, h12, h⟩ := Option.bind_eq_some_iff.mp h
  refine fr_pR (k := 0) i22_12 pf22_1_0 h12 ?_
  refine fr_aload_n i22_15 rfl ?_
  refine rn_iconst i22_16 ?_
  obtain ⟨w17, h17, h⟩ := Option.bind_eq_some_iff.mp h
  refine rn_newa (t := 20) i22_17 (by decide) rfl h17 ?_
  obtain ⟨w19, h19, h⟩ := Option.bind_eq_some_iff.mp h
  refine fr_pR (k := 1) i22_19 pf22_1_1 h19 ?_
  refine fr_aload_n i22_22 rfl ?_
  refine rn_bipush i22_23 ?_
  obtain ⟨w25, h25, h⟩ := Option.bind_eq_some_iff.mp h
  refine rn_newa (t := 20) i22_25 (by decide) rfl h25 ?_
  obtain ⟨w27, h27, h⟩ := Option.bind_eq_some_iff.mp h
  refine fr_pR (k := 2) i22_27 pf22_1_2 h27 ?_
  obtain rfl := Option.some.inj h
  exact rn_ret i22_30 mr22
/-- HandHeirs$Court.<init>()V -/
def Ct_init (a0 : Nat) (w : Wd) : Option (Wd) := gd 1 w a0 (Ct_init_0 a0 w)
theorem S_Ct_init {g : Gp} {l : Launch} (a0 : Nat) (w : Wd) (r : Wd) (h : Ct_init a0 w = some r) : (wsh w a0).1 = 1 ∧ ∀ D, 1 ≤ D → Rn g l D 22 0 [(0, .inr (.inr a0))] [] w none r := by
  obtain ⟨hg, h⟩ := gd_some h
  exact ⟨hg, fun D hD => rn_sub [0] rfl (s_Ct_init_0 hD a0 w r h)⟩
def Ct_stirred_0 (x0 : Int) (x1 : Int) (w : Wd) : Option (Int × Wd) :=
  some ((oxor (w32 ((w32 ((oxor x0 x1) * 1103515245)) + 12345)) (oushr (w32 ((w32 ((oxor x0 x1) * 1103515245)) + 12345)) 15)), w)
theorem s_Ct_stirred_0 {g : Gp} {l : Launch} {D : Nat} (hD : 0 ≤ D) (x0 : Int) (x1 : Int) (w : Wd) (r : Int × Wd) (h : Ct_stirred_0 x0 x1 w = some r) : Rn g l D 23 0 [(0, .inl x0), (1, .inl x1)] [] w (some (.inl r.1)) r.2 := by
  unfold Ct_stirred_0 at h
  refine rn_iload_n i23_0 rfl ?_
  refine rn_iload_n i23_1 rfl ?_
  refine rn_ixor i23_2 ?_
  refine rn_ldc i23_3 lw23_3 ⟨by decide, by decide⟩ ?_
  refine rn_imul i23_5 ?_
  refine rn_sipush i23_6 ?_
  refine rn_iadd i23_9 ?_
  refine rn_istore_n (ls1 := [(2, .inl (w32 ((w32 ((oxor x0 x1) * 1103515245)) + 12345))), (0, .inl x0), (1, .inl x1)]) i23_10 rfl ?_
  refine rn_iload_n i23_11 rfl ?_
  refine rn_iload_n i23_12 rfl ?_
  refine rn_bipush i23_13 ?_
  refine rn_iushr i23_15 ?_
  refine rn_ixor i23_16 ?_
  obtain rfl := Option.some.inj h
  exact rn_retI i23_17 mr23
/-- HandHeirs$Court.stirred(II)I -/
def Ct_stirred (x0 : Int) (x1 : Int) (w : Wd) : Option (Int × Wd) := Ct_stirred_0 x0 x1 w
theorem S_Ct_stirred {g : Gp} {l : Launch} (x0 : Int) (x1 : Int) (w : Wd) (r : Int × Wd) (h : Ct_stirred x0 x1 w = some r) : ∀ D, 0 ≤ D → Rn g l D 23 0 [(0, .inl x0), (1, .inl x1)] [] w (some (.inl r.1)) r.2 := fun D hD => rn_sub [0, 1] rfl (s_Ct_stirred_0 hD x0 x1 w r h)
def Ct_lot_24 (s0 : Int) (w : Wd) : Option (Int × Wd) :=
  some (s0, w)
theorem s_Ct_lot_24 {g : Gp} {l : Launch} {D : Nat} (hD : 1 ≤ D) (s0 : Int) (w : Wd) (r : Int × Wd) (h : Ct_lot_24 s0 w = some r) : Rn g l D 24 24 [] [.inl s0] w (some (.inl r.1)) r.2 := by
  unfold Ct_lot_24 at h
  obtain rfl := Option.some.inj h
  exact rn_retI i24_24 mr24
def Ct_lot_0 (x0 : Int) (x1 : Int) (x2 : Int) (w : Wd) : Option (Int × Wd) :=
  (Ct_stirred x1 27 w).bind fun r3 =>
  (Ct_stirred (r3.1) x2 r3.2).bind fun r7 =>
  if (x0 : Int) ≤ 0 then
    Ct_lot_24 0 r7.2
  else
    (irm (oushr r7.1 1) x0).bind fun v19 =>
    Ct_lot_24 v19 r7.2
theorem s_Ct_lot_0 {g : Gp} {l : Launch} {D : Nat} (hD : 1 ≤ D) (x0 : Int) (x1 : Int) (x2 : Int) (w : Wd) (r : Int × Wd) (h : Ct_lot_0 x0 x1 x2 w = some r) : Rn g l D 24 0 [(0, .inl x0), (1, .inl x1), (2, .inl x2)] [] w (some (.inl r.1)) r.2 := by
  obtain ⟨D, rfl⟩ : ∃ D1, D = D1 + 1 := ⟨D - 1, by omega⟩
  unfold Ct_lot_0 at h
  refine rn_iload_n i24_0 rfl ?_
  refine rn_bipush i24_1 ?_
  obtain ⟨r3, h3, h⟩ := Option.bind_eq_some_iff.mp h
  refine fr_callS (nst := 0) (As := [.inl x1, .inl 27]) (st := []) i24_3 (cq23 x1 27) rfl (Nat.le_of_ble_eq_true rfl) (S_Ct_stirred x1 27 w r3 h3 _ (by omega)) ?_
  show Rn _ _ _ _ _ _ [.inl r3.1] _ _ _
  refine rn_iload_n i24_6 rfl ?_
  obtain ⟨r7, h7, h⟩ := Option.bind_eq_some_iff.mp h
  refine fr_callS (nst := 0) (As := [.inl r3.1, .inl x2]) (st := []) i24_7 (cq23 (r3.1) x2) rfl (Nat.le_of_ble_eq_true rfl) (S_Ct_stirred (r3.1) x2 r3.2 r7 h7 _ (by omega)) ?_
  show Rn _ _ _ _ _ _ [.inl r7.1] _ _ _
  refine rn_istore_n (ls1 := [(3, .inl r7.1), (0, .inl x0), (1, .inl x1), (2, .inl x2)]) i24_10 rfl ?_
  refine rn_iload_n i24_11 rfl ?_
  by_cases c12 : (x0 : Int) ≤ 0
  · rw [if_pos c12] at h
    refine rn_if_le_t i24_12 c12 ?_
    refine rn_iconst i24_23 ?_
    exact rn_sub [] rfl (s_Ct_lot_24 hD 0 r7.2 r h)
  · rw [if_neg c12] at h
    refine rn_if_le_f i24_12 c12 ?_
    refine rn_iload_n i24_15 rfl ?_
    refine rn_iconst i24_16 ?_
    refine rn_iushr i24_17 ?_
    refine rn_iload_n i24_18 rfl ?_
    obtain ⟨v19, h19, h⟩ := Option.bind_eq_some_iff.mp h
    refine fr_irm i24_19 h19 ?_
    refine rn_goto i24_20 ?_
    exact rn_sub [] rfl (s_Ct_lot_24 hD v19 r7.2 r h)
/-- HandHeirs$Court.lot(III)I -/
def Ct_lot (x0 : Int) (x1 : Int) (x2 : Int) (w : Wd) : Option (Int × Wd) := Ct_lot_0 x0 x1 x2 w
theorem S_Ct_lot {g : Gp} {l : Launch} (x0 : Int) (x1 : Int) (x2 : Int) (w : Wd) (r : Int × Wd) (h : Ct_lot x0 x1 x2 w = some r) : ∀ D, 1 ≤ D → Rn g l D 24 0 [(0, .inl x0), (1, .inl x1), (2, .inl x2)] [] w (some (.inl r.1)) r.2 := fun D hD => rn_sub [0, 1, 2] rfl (s_Ct_lot_0 hD x0 x1 x2 w r h)
def St_own_0 (a0 : Nat) (x1 : Int) (x2 : Int) (w : Wd) : Option (Int × Wd) :=
  (fgR w a0 9 4).bind fun v1 =>
  (rdI w v1 (w32 ((w32 (x1 * 6)) + x2))).bind fun v10 =>
  some (v10, w)
theorem s_St_own_0 {g : Gp} {l : Launch} {D : Nat} (hD : 0 ≤ D) (a0 : Nat) (x1 : Int) (x2 : Int) (w : Wd) (r : Int × Wd) (h : St_own_0 a0 x1 x2 w = some r) : Rn g l D 91 0 [(0, .inr (.inr a0)), (1, .inl x1), (2, .inl x2)] [] w (some (.inl r.1)) r.2 := by
  unfold St_own_0 at h
  refine fr_aload_n i91_0 rfl ?_
  obtain ⟨v1, h1, h⟩ := Option.bind_eq_some_iff.mp h
  refine fr_gR (k := 4) i91_1 tf9_4 h1 ?_
  refine rn_iload_n i91_4 rfl ?_
  refine rn_bipush i91_5 ?_
  refine rn_imul i91_7 ?_
  refine rn_iload_n i91_8 rfl ?_
  refine rn_iadd i91_9 ?_
  obtain ⟨v10, h10, h⟩ := Option.bind_eq_some_iff.mp h
  refine rn_iald i91_10 h10 ?_
  obtain rfl := Option.some.inj h
  exact rn_retI i91_11 mr91
/-- HandHeirs$State.own(II)I -/
def St_own (a0 : Nat) (x1 : Int) (x2 : Int) (w : Wd) : Option (Int × Wd) := gd 9 w a0 (St_own_0 a0 x1 x2 w)
theorem S_St_own {g : Gp} {l : Launch} (a0 : Nat) (x1 : Int) (x2 : Int) (w : Wd) (r : Int × Wd) (h : St_own a0 x1 x2 w = some r) : (wsh w a0).1 = 9 ∧ ∀ D, 0 ≤ D → Rn g l D 91 0 [(0, .inr (.inr a0)), (1, .inl x1), (2, .inl x2)] [] w (some (.inl r.1)) r.2 := by
  obtain ⟨hg, h⟩ := gd_some h
  exact ⟨hg, fun D hD => rn_sub [0, 1, 2] rfl (s_St_own_0 hD a0 x1 x2 w r h)⟩
def Hh_held_0 (x0 : Int) (x1 : Int) (x2 : Int) (w : Wd) : Option (Int × Wd) :=
  some ((max x1 (min x2 x0)), w)
theorem s_Hh_held_0 {g : Gp} {l : Launch} {D : Nat} (hD : 1 ≤ D) (x0 : Int) (x1 : Int) (x2 : Int) (w : Wd) (r : Int × Wd) (h : Hh_held_0 x0 x1 x2 w = some r) : Rn g l D 146 0 [(0, .inl x0), (1, .inl x1), (2, .inl x2)] [] w (some (.inl r.1)) r.2 := by
  obtain ⟨D, rfl⟩ : ∃ D1, D = D1 + 1 := ⟨D - 1, by omega⟩
  unfold Hh_held_0 at h
  refine rn_iload_n i146_0 rfl ?_
  refine rn_iload_n i146_1 rfl ?_
  refine rn_iload_n i146_2 rfl ?_
  refine rn_min i146_3 (Nat.le_of_ble_eq_true rfl) ?_
  refine rn_max i146_6 (Nat.le_of_ble_eq_true rfl) ?_
  obtain rfl := Option.some.inj h
  exact rn_retI i146_9 mr146
/-- HandHeirs.held(III)I -/
def Hh_held (x0 : Int) (x1 : Int) (x2 : Int) (w : Wd) : Option (Int × Wd) := Hh_held_0 x0 x1 x2 w
theorem S_Hh_held {g : Gp} {l : Launch} (x0 : Int) (x1 : Int) (x2 : Int) (w : Wd) (r : Int × Wd) (h : Hh_held x0 x1 x2 w = some r) : ∀ D, 1 ≤ D → Rn g l D 146 0 [(0, .inl x0), (1, .inl x1), (2, .inl x2)] [] w (some (.inl r.1)) r.2 := fun D hD => rn_sub [0, 1, 2] rfl (s_Hh_held_0 hD x0 x1 x2 w r h)
def Ct_written_0 (a0 : Nat) (a1 : Nat) (x2 : Int) (x3 : Int) (x4 : Int) (w : Wd) : Option (Int × Wd) :=
  (fgR w a0 10 9).bind fun v1 =>
  (rdI w v1 x3).bind fun v5 =>
  (fgI w a1 9 0).bind fun v11 =>
  (St_own a1 x3 x4 w).bind fun r29 =>
  (Ct_lot (w32 ((w32 (2 * v5)) + 1)) x2 (w32 ((w32 ((w32 (36 * v11)) + (w32 (6 * x3)))) + x4)) r29.2).bind fun r41 =>
  (Hh_held (w32 ((w32 (r29.1 + r41.1)) - v5)) 0 99 r41.2).bind fun r51 =>
  some (r51.1, r51.2)
theorem s_Ct_written_0 {g : Gp} {l : Launch} {D : Nat} (hD : 2 ≤ D) (a0 : Nat) (a1 : Nat) (x2 : Int) (x3 : Int) (x4 : Int) (w : Wd) (r : Int × Wd) (h : Ct_written_0 a0 a1 x2 x3 x4 w = some r) : Rn g l D 25 0 [(0, .inr (.inr a0)), (1, .inr (.inr a1)), (2, .inl x2), (3, .inl x3), (4, .inl x4)] [] w (some (.inl r.1)) r.2 := by
  obtain ⟨D, rfl⟩ : ∃ D1, D = D1 + 1 := ⟨D - 1, by omega⟩
  unfold Ct_written_0 at h
  refine fr_aload_n i25_0 rfl ?_
  obtain ⟨v1, h1, h⟩ := Option.bind_eq_some_iff.mp h
  refine fr_gR (k := 9) i25_1 tf10_9 h1 ?_
  refine rn_iload_n i25_4 rfl ?_
  obtain ⟨v5, h5, h⟩ := Option.bind_eq_some_iff.mp h
  refine rn_iald i25_5 h5 ?_
  refine rn_istore (ls1 := [(5, .inl v5), (0, .inr (.inr a0)), (1, .inr (.inr a1)), (2, .inl x2), (3, .inl x3), (4, .inl x4)]) i25_6 rfl ?_
  refine rn_bipush i25_8 ?_
  refine fr_aload_n i25_10 rfl ?_
  obtain ⟨v11, h11, h⟩ := Option.bind_eq_some_iff.mp h
  refine fr_gI (k := 0) i25_11 tf9_0 h11 ?_
  refine rn_imul i25_14 ?_
  refine rn_bipush i25_15 ?_
  refine rn_iload_n i25_17 rfl ?_
  refine rn_imul i25_18 ?_
  refine rn_iadd i25_19 ?_
  refine rn_iload i25_20 rfl ?_
  refine rn_iadd i25_22 ?_
  refine rn_istore (ls1 := [(6, .inl (w32 ((w32 ((w32 (36 * v11)) + (w32 (6 * x3)))) + x4))), (5, .inl v5), (0, .inr (.inr a0)), (1, .inr (.inr a1)), (2, .inl x2), (3, .inl x3), (4, .inl x4)]) i25_23 rfl ?_
  refine fr_aload_n i25_25 rfl ?_
  refine rn_iload_n i25_26 rfl ?_
  refine rn_iload i25_27 rfl ?_
  obtain ⟨r29, h29, h⟩ := Option.bind_eq_some_iff.mp h
  obtain ⟨g29, c29⟩ := S_St_own a1 x3 x4 w r29 h29
  refine fr_callV (a := a1) (As := [.inl x3, .inl x4]) (st := []) i25_29 (cq91 a1 x3 x4) rfl (Nat.le_of_ble_eq_true rfl) g29 (c29 _ (by omega)) ?_
  show Rn _ _ _ _ _ _ [.inl r29.1] _ _ _
  refine rn_iconst i25_32 ?_
  refine rn_iload i25_33 rfl ?_
  refine rn_imul i25_35 ?_
  refine rn_iconst i25_36 ?_
  refine rn_iadd i25_37 ?_
  refine rn_iload_n i25_38 rfl ?_
  refine rn_iload i25_39 rfl ?_
  obtain ⟨r41, h41, h⟩ := Option.bind_eq_some_iff.mp h
  refine fr_callS (nst := 0) (As := [.inl (w32 ((w32 (2 * v5)) + 1)), .inl x2, .inl (w32 ((w32 ((w32 (36 * v11)) + (w32 (6 * x3)))) + x4))]) (st := [.inl r29.1]) i25_41 (cq24 (w32 ((w32 (2 * v5)) + 1)) x2 (w32 ((w32 ((w32 (36 * v11)) + (w32 (6 * x3)))) + x4))) rfl (Nat.le_of_ble_eq_true rfl) (S_Ct_lot (w32 ((w32 (2 * v5)) + 1)) x2 (w32 ((w32 ((w32 (36 * v11)) + (w32 (6 * x3)))) + x4)) r29.2 r41 h41 _ (by omega)) ?_
  show Rn _ _ _ _ _ _ [.inl r41.1, .inl r29.1] _ _ _
  refine rn_iadd i25_44 ?_
  refine rn_iload i25_45 rfl ?_
  refine rn_isub i25_47 ?_
  refine rn_iconst i25_48 ?_
  refine rn_bipush i25_49 ?_
  obtain ⟨r51, h51, h⟩ := Option.bind_eq_some_iff.mp h
  refine fr_callS (nst := 1) (As := [.inl (w32 ((w32 (r29.1 + r41.1)) - v5)), .inl 0, .inl 99]) (st := []) i25_51 (cq146 (w32 ((w32 (r29.1 + r41.1)) - v5)) 0 99) rfl (Nat.le_of_ble_eq_true rfl) (S_Hh_held (w32 ((w32 (r29.1 + r41.1)) - v5)) 0 99 r41.2 r51 h51 _ (by omega)) ?_
  show Rn _ _ _ _ _ _ [.inl r51.1] _ _ _
  obtain rfl := Option.some.inj h
  exact rn_retI i25_54 mr25
/-- HandHeirs$Court.written(LHandHeirs$Will;LHandHeirs$State;III)I -/
def Ct_written (a0 : Nat) (a1 : Nat) (x2 : Int) (x3 : Int) (x4 : Int) (w : Wd) : Option (Int × Wd) := Ct_written_0 a0 a1 x2 x3 x4 w
theorem S_Ct_written {g : Gp} {l : Launch} (a0 : Nat) (a1 : Nat) (x2 : Int) (x3 : Int) (x4 : Int) (w : Wd) (r : Int × Wd) (h : Ct_written a0 a1 x2 x3 x4 w = some r) : ∀ D, 2 ≤ D → Rn g l D 25 0 [(0, .inr (.inr a0)), (1, .inr (.inr a1)), (2, .inl x2), (3, .inl x3), (4, .inl x4)] [] w (some (.inl r.1)) r.2 := fun D hD => rn_sub [0, 1, 2, 3, 4] rfl (s_Ct_written_0 hD a0 a1 x2 x3 x4 w r h)
def Lw_lookAt_0 (a0 : Nat) (x1 : Int) (x2 : Int) (x3 : Int) (x4 : Int) (x5 : Int) (x6 : Int) (x7 : Int) (w : Wd) : Option (Wd) :=
  (fgR w a0 2 3).bind fun v1 =>
  (wrI w v1 0 x1).bind fun w6 =>
  (fgR w6 a0 2 3).bind fun v8 =>
  (wrI w6 v8 6 x2).bind fun w14 =>
  (fgR w14 a0 2 3).bind fun v16 =>
  (wrI w14 v16 1 x3).bind fun w21 =>
  (fgR w21 a0 2 3).bind fun v23 =>
  (wrI w21 v23 2 x4).bind fun w29 =>
  (fgR w29 a0 2 3).bind fun v31 =>
  (wrI w29 v31 3 x5).bind fun w37 =>
  (fgR w37 a0 2 3).bind fun v39 =>
  (wrI w37 v39 4 x6).bind fun w45 =>
  (fgR w45 a0 2 3).bind fun v47 =>
  (wrI w45 v47 5 x7).bind fun w53 =>
  some w53
theorem s_Lw_lookAt_0 {g : Gp} {l : Launch} {D : Nat} (hD : 0 ≤ D) (a0 : Nat) (x1 : Int) (x2 : Int) (x3 : Int) (x4 : Int) (x5 : Int) (x6 : Int) (x7 : Int) (w : Wd) (r : Wd) (h : Lw_lookAt_0 a0 x1 x2 x3 x4 x5 x6 x7 w = some r) : Rn g l D 39 0 [(0, .inr (.inr a0)), (1, .inl x1), (2, .inl x2), (3, .inl x3), (4, .inl x4), (5, .inl x5), (6, .inl x6), (7, .inl x7)] [] w none r := by
  unfold Lw_lookAt_0 at h
  refine fr_aload_n i39_0 rfl ?_
  obtain ⟨v1, h1, h⟩ := Option.bind_eq_some_iff.mp h
  refine fr_gR (k := 3) i39_1 tf2_3 h1 ?_
  refine rn_iconst i39_4 ?_
  refine rn_iload_n i39_5 rfl ?_
  obtain ⟨w6, h6, h⟩ := Option.bind_eq_some_iff.mp h
  refine rn_iast i39_6 h6 ?_
  refine fr_aload_n i39_7 rfl ?_
  obtain ⟨v8, h8, h⟩ := Option.bind_eq_some_iff.mp h
  refine fr_gR (k := 3) i39_8 tf2_3 h8 ?_
  refine rn_bipush i39_11 ?_
  refine rn_iload_n i39_13 rfl ?_
  obtain ⟨w14, h14, h⟩ := Option.bind_eq_some_iff.mp h
  refine rn_iast i39_14 h14 ?_
  refine fr_aload_n i39_15 rfl ?_
  obtain ⟨v16, h16, h⟩ := Option.bind_eq_some_iff.mp h
  refine fr_gR (k := 3) i39_16 tf2_3 h16 ?_
  refine rn_iconst i39_19 ?_
  refine rn_iload_n i39_20 rfl ?_
  obtain ⟨w21, h21, h⟩ := Option.bind_eq_some_iff.mp h
  refine rn_iast i39_21 h21 ?_
  refine fr_aload_n i39_22 rfl ?_
  obtain ⟨v23, h23, h⟩ := Option.bind_eq_some_iff.mp h
  refine fr_gR (k := 3) i39_23 tf2_3 h23 ?_
  refine rn_iconst i39_26 ?_
  refine rn_iload i39_27 rfl ?_
  obtain ⟨w29, h29, h⟩ := Option.bind_eq_some_iff.mp h
  refine rn_iast i39_29 h29 ?_
  refine fr_aload_n i39_30 rfl ?_
  obtain ⟨v31, h31, h⟩ := Option.bind_eq_some_iff.mp h
  refine fr_gR (k := 3) i39_31 tf2_3 h31 ?_
  refine rn_iconst i39_34 ?_
  refine rn_iload i39_35 rfl ?_
  obtain ⟨w37, h37, h⟩ := Option.bind_eq_some_iff.mp h
  refine rn_iast i39_37 h37 ?_
  refine fr_aload_n i39_38 rfl ?_
  obtain ⟨v39, h39, h⟩ := Option.bind_eq_some_iff.mp h
  refine fr_gR (k := 3) i39_39 tf2_3 h39 ?_
  refine rn_iconst i39_42 ?_
  refine rn_iload i39_43 rfl ?_
  obtain ⟨w45, h45, h⟩ := Option.bind_eq_some_iff.mp h
  refine rn_iast i39_45 h45 ?_
  refine fr_aload_n i39_46 rfl ?_
  obtain ⟨v47, h47, h⟩ := Option.bind_eq_some_iff.mp h
  refine fr_gR (k := 3) i39_47 tf2_3 h47 ?_
  refine rn_iconst i39_50 ?_
  refine rn_iload i39_51 rfl ?_
  obtain ⟨w53, h53, h⟩ := Option.bind_eq_some_iff.mp h
  refine rn_iast i39_53 h53 ?_
  obtain rfl := Option.some.inj h
  exact rn_ret i39_54 mr39
/-- HandHeirs$Laws.lookAt(IIIIIII)V -/
def Lw_lookAt (a0 : Nat) (x1 : Int) (x2 : Int) (x3 : Int) (x4 : Int) (x5 : Int) (x6 : Int) (x7 : Int) (w : Wd) : Option (Wd) := gd 2 w a0 (Lw_lookAt_0 a0 x1 x2 x3 x4 x5 x6 x7 w)
theorem S_Lw_lookAt {g : Gp} {l : Launch} (a0 : Nat) (x1 : Int) (x2 : Int) (x3 : Int) (x4 : Int) (x5 : Int) (x6 : Int) (x7 : Int) (w : Wd) (r : Wd) (h : Lw_lookAt a0 x1 x2 x3 x4 x5 x6 x7 w = some r) : (wsh w a0).1 = 2 ∧ ∀ D, 0 ≤ D → Rn g l D 39 0 [(0, .inr (.inr a0)), (1, .inl x1), (2, .inl x2), (3, .inl x3), (4, .inl x4), (5, .inl x5), (6, .inl x6), (7, .inl x7)] [] w none r := by
  obtain ⟨hg, h⟩ := gd_some h
  exact ⟨hg, fun D hD => rn_sub [0, 1, 2, 3, 4, 5, 6, 7] rfl (s_Lw_lookAt_0 hD a0 x1 x2 x3 x4 x5 x6 x7 w r h)⟩
def Wi_showMasters_0 (a0 : Nat) (a1 : Nat) (x2 : Int) (x3 : Int) (w : Wd) : Option (Wd) :=
  (fgR w a1 9 3).bind fun v1 =>
  (rdI w v1 x2).bind fun v5 =>
  (fgR w a0 10 13).bind fun v9 =>
  (fgI w a1 9 0).bind fun v21 =>
  (fgI w a1 9 1).bind fun v25 =>
  (Lw_lookAt v9 (iabs (w32 (x3 - v5))) x2 v21 v25 x3 v5 0 w).bind fun r32 =>
  some r32
theorem s_Wi_showMasters_0 {g : Gp} {l : Launch} {D : Nat} (hD : 1 ≤ D) (a0 : Nat) (a1 : Nat) (x2 : Int) (x3 : Int) (w : Wd) (r : Wd) (h : Wi_showMasters_0 a0 a1 x2 x3 w = some r) : Rn g l D 99 0 [(0, .inr (.inr a0)), (1, .inr (.inr a1)), (2, .inl x2), (3, .inl x3)] [] w none r := by
  obtain ⟨D, rfl⟩ : ∃ D1, D = D1 + 1 := ⟨D - 1, by omega⟩
  unfold Wi_showMasters_0 at h
  refine fr_aload_n i99_0 rfl ?_
  obtain ⟨v1, h1, h⟩ := Option.bind_eq_some_iff.mp h
  refine fr_gR (k := 3) i99_1 tf9_3 h1 ?_
  refine rn_iload_n i99_4 rfl ?_
  obtain ⟨v5, h5, h⟩ := Option.bind_eq_some_iff.mp h
  refine rn_iald i99_5 h5 ?_
  refine rn_istore (ls1 := [(4, .inl v5), (0, .inr (.inr a0)), (1, .inr (.inr a1)), (2, .inl x2), (3, .inl x3)]) i99_6 rfl ?_
  refine fr_aload_n i99_8 rfl ?_
  obtain ⟨v9, h9, h⟩ := Option.bind_eq_some_iff.mp h
  refine fr_gR (k := 13) i99_9 tf10_13 h9 ?_
  refine rn_iload_n i99_12 rfl ?_
  refine rn_iload i99_13 rfl ?_
  refine rn_isub i99_15 ?_
  refine rn_abs i99_16 (Nat.le_of_ble_eq_true rfl) ?_
  refine rn_iload_n i99_19 rfl ?_
  refine fr_aload_n i99_20 rfl ?_
  obtain ⟨v21, h21, h⟩ := Option.bind_eq_some_iff.mp h
  refine fr_gI (k := 0) i99_21 tf9_0 h21 ?_
  refine fr_aload_n i99_24 rfl ?_
  obtain ⟨v25, h25, h⟩ := Option.bind_eq_some_iff.mp h
  refine fr_gI (k := 1) i99_25 tf9_1 h25 ?_
  refine rn_iload_n i99_28 rfl ?_
  refine rn_iload i99_29 rfl ?_
  refine rn_iconst i99_31 ?_
  obtain ⟨r32, h32, h⟩ := Option.bind_eq_some_iff.mp h
  obtain ⟨g32, c32⟩ := S_Lw_lookAt v9 (iabs (w32 (x3 - v5))) x2 v21 v25 x3 v5 0 w r32 h32
  refine fr_callV (a := v9) (As := [.inl (iabs (w32 (x3 - v5))), .inl x2, .inl v21, .inl v25, .inl x3, .inl v5, .inl 0]) (st := []) i99_32 (cq39 v9 (iabs (w32 (x3 - v5))) x2 v21 v25 x3 v5 0) rfl (Nat.le_of_ble_eq_true rfl) g32 (c32 _ (by omega)) ?_
  obtain rfl := Option.some.inj h
  exact rn_ret i99_35 mr99
/-- HandHeirs$Will.showMasters(LHandHeirs$State;II)V -/
def Wi_showMasters (a0 : Nat) (a1 : Nat) (x2 : Int) (x3 : Int) (w : Wd) : Option (Wd) := gd 10 w a0 (Wi_showMasters_0 a0 a1 x2 x3 w)
theorem S_Wi_showMasters {g : Gp} {l : Launch} (a0 : Nat) (a1 : Nat) (x2 : Int) (x3 : Int) (w : Wd) (r : Wd) (h : Wi_showMasters a0 a1 x2 x3 w = some r) : (wsh w a0).1 = 10 ∧ ∀ D, 1 ≤ D → Rn g l D 99 0 [(0, .inr (.inr a0)), (1, .inr (.inr a1)), (2, .inl x2), (3, .inl x3)] [] w none r := by
  obtain ⟨hg, h⟩ := gd_some h
  exact ⟨hg, fun D hD => rn_sub [0, 1, 2, 3] rfl (s_Wi_showMasters_0 hD a0 a1 x2 x3 w r h)⟩
def Lw_variable_20 (s0 : Int) (w : Wd) : Option (Int × Wd) :=
  some (s0, w)
theorem s_Lw_variable_20 {g : Gp} {l : Launch} {D : Nat} (hD : 0 ≤ D) (s0 : Int) (w : Wd) (r : Int × Wd) (h : Lw_variable_20 s0 w = some r) : Rn g l D 41 20 [] [.inl s0] w (some (.inl r.1)) r.2 := by
  unfold Lw_variable_20 at h
  obtain rfl := Option.some.inj h
  exact rn_retI i41_20 mr41
def Lw_variable_19 (w : Wd) : Option (Int × Wd) :=
  Lw_variable_20 0 w
theorem s_Lw_variable_19 {g : Gp} {l : Launch} {D : Nat} (hD : 0 ≤ D) (w : Wd) (r : Int × Wd) (h : Lw_variable_19 w = some r) : Rn g l D 41 19 [] [] w (some (.inl r.1)) r.2 := by
  unfold Lw_variable_19 at h
  refine rn_iconst i41_19 ?_
  exact rn_sub [] rfl (s_Lw_variable_20 hD 0 w r h)
def Lw_variable_0 (a0 : Nat) (x1 : Int) (w : Wd) : Option (Int × Wd) :=
  if (x1 : Int) < 0 then
    Lw_variable_19 w
  else
    if (7 : Int) ≤ x1 then
      Lw_variable_19 w
    else
      (fgR w a0 2 3).bind fun v11 =>
      (rdI w v11 x1).bind fun v15 =>
      Lw_variable_20 v15 w
theorem s_Lw_variable_0 {g : Gp} {l : Launch} {D : Nat} (hD : 0 ≤ D) (a0 : Nat) (x1 : Int) (w : Wd) (r : Int × Wd) (h : Lw_variable_0 a0 x1 w = some r) : Rn g l D 41 0 [(0, .inr (.inr a0)), (1, .inl x1)] [] w (some (.inl r.1)) r.2 := by
  unfold Lw_variable_0 at h
  refine rn_iload_n i41_0 rfl ?_
  by_cases c1 : (x1 : Int) < 0
  · rw [if_pos c1] at h
    refine rn_if_lt_t i41_1 c1 ?_
    exact rn_sub [] rfl (s_Lw_variable_19 hD w r h)
  · rw [if_neg c1] at h
    refine rn_if_lt_f i41_1 c1 ?_
    refine rn_iload_n i41_4 rfl ?_
    refine rn_bipush i41_5 ?_
    by_cases c7 : (7 : Int) ≤ x1
    · rw [if_pos c7] at h
      refine rn_icmp_ge_t i41_7 c7 ?_
      exact rn_sub [] rfl (s_Lw_variable_19 hD w r h)
    · rw [if_neg c7] at h
      refine rn_icmp_ge_f i41_7 c7 ?_
      refine fr_aload_n i41_10 rfl ?_
      obtain ⟨v11, h11, h⟩ := Option.bind_eq_some_iff.mp h
      refine fr_gR (k := 3) i41_11 tf2_3 h11 ?_
      refine rn_iload_n i41_14 rfl ?_
      obtain ⟨v15, h15, h⟩ := Option.bind_eq_some_iff.mp h
      refine rn_iald i41_15 h15 ?_
      refine rn_goto i41_16 ?_
      exact rn_sub [] rfl (s_Lw_variable_20 hD v15 w r h)
/-- HandHeirs$Laws.variable(I)I -/
def Lw_variable (a0 : Nat) (x1 : Int) (w : Wd) : Option (Int × Wd) := gd 2 w a0 (Lw_variable_0 a0 x1 w)
theorem S_Lw_variable {g : Gp} {l : Launch} (a0 : Nat) (x1 : Int) (w : Wd) (r : Int × Wd) (h : Lw_variable a0 x1 w = some r) : (wsh w a0).1 = 2 ∧ ∀ D, 0 ≤ D → Rn g l D 41 0 [(0, .inr (.inr a0)), (1, .inl x1)] [] w (some (.inl r.1)) r.2 := by
  obtain ⟨hg, h⟩ := gd_some h
  exact ⟨hg, fun D hD => rn_sub [0, 1] rfl (s_Lw_variable_0 hD a0 x1 w r h)⟩
def Lw_reckoned_55 (s0 : Int) (w : Wd) : Option (Int × Wd) :=
  some (s0, w)
theorem s_Lw_reckoned_55 {g : Gp} {l : Launch} {D : Nat} (hD : 0 ≤ D) (s0 : Int) (w : Wd) (r : Int × Wd) (h : Lw_reckoned_55 s0 w = some r) : Rn g l D 42 55 [] [.inl s0] w (some (.inl r.1)) r.2 := by
  unfold Lw_reckoned_55 at h
  obtain rfl := Option.some.inj h
  exact rn_retI i42_55 mr42
def Lw_reckoned_44 (x1 : Int) (x2 : Int) (w : Wd) : Option (Int × Wd) :=
  if (x2 : Int) = 0 then
    Lw_reckoned_55 0 w
  else
    (idv x1 x2).bind fun v54 =>
    Lw_reckoned_55 v54 w
theorem s_Lw_reckoned_44 {g : Gp} {l : Launch} {D : Nat} (hD : 0 ≤ D) (x1 : Int) (x2 : Int) (w : Wd) (r : Int × Wd) (h : Lw_reckoned_44 x1 x2 w = some r) : Rn g l D 42 44 [(1, .inl x1), (2, .inl x2)] [] w (some (.inl r.1)) r.2 := by
  unfold Lw_reckoned_44 at h
  refine rn_iload_n i42_44 rfl ?_
  by_cases c45 : (x2 : Int) = 0
  · rw [if_pos c45] at h
    refine rn_if_ne_f i42_45 c45 ?_
    refine rn_iconst i42_48 ?_
    refine rn_goto i42_49 ?_
    exact rn_sub [] rfl (s_Lw_reckoned_55 hD 0 w r h)
  · rw [if_neg c45] at h
    refine rn_if_ne_t i42_45 c45 ?_
    refine rn_iload_n i42_52 rfl ?_
    refine rn_iload_n i42_53 rfl ?_
    obtain ⟨v54, h54, h⟩ := Option.bind_eq_some_iff.mp h
    refine fr_idv i42_54 h54 ?_
    exact rn_sub [] rfl (s_Lw_reckoned_55 hD v54 w r h)
def Lw_reckoned_0 (x0 : Int) (x1 : Int) (x2 : Int) (w : Wd) : Option (Int × Wd) :=
  if (x0 : Int) = 42 then
    some ((w32 (x1 * x2)), w)
  else
    if (x0 : Int) = 43 then
      some ((w32 (x1 + x2)), w)
    else
      if (x0 : Int) = 44 then
        Lw_reckoned_44 x1 x2 w
      else
        if (x0 : Int) = 45 then
          some ((w32 (x1 - x2)), w)
        else
          Lw_reckoned_44 x1 x2 w
theorem s_Lw_reckoned_0 {g : Gp} {l : Launch} {D : Nat} (hD : 0 ≤ D) (x0 : Int) (x1 : Int) (x2 : Int) (w : Wd) (r : Int × Wd) (h : Lw_reckoned_0 x0 x1 x2 w = some r) : Rn g l D 42 0 [(0, .inl x0), (1, .inl x1), (2, .inl x2)] [] w (some (.inl r.1)) r.2 := by
  unfold Lw_reckoned_0 at h
  refine rn_iload_n i42_0 rfl ?_
  by_cases c1_0 : (x0 : Int) = 42
  · rw [if_pos c1_0] at h
    refine rn_tsw_in (tgt := 40) i42_1 0 (by omega) (by omega) rfl rfl ?_
    refine rn_iload_n i42_40 rfl ?_
    refine rn_iload_n i42_41 rfl ?_
    refine rn_imul i42_42 ?_
    obtain rfl := Option.some.inj h
    exact rn_retI i42_43 mr42
  · rw [if_neg c1_0] at h
    by_cases c1_1 : (x0 : Int) = 43
    · rw [if_pos c1_1] at h
      refine rn_tsw_in (tgt := 32) i42_1 1 (by omega) (by omega) rfl rfl ?_
      refine rn_iload_n i42_32 rfl ?_
      refine rn_iload_n i42_33 rfl ?_
      refine rn_iadd i42_34 ?_
      obtain rfl := Option.some.inj h
      exact rn_retI i42_35 mr42
    · rw [if_neg c1_1] at h
      by_cases c1_2 : (x0 : Int) = 44
      · rw [if_pos c1_2] at h
        refine rn_tsw_in (tgt := 44) i42_1 2 (by omega) (by omega) rfl rfl ?_
        exact rn_sub [1, 2] rfl (s_Lw_reckoned_44 hD x1 x2 w r h)
      · rw [if_neg c1_2] at h
        by_cases c1_3 : (x0 : Int) = 45
        · rw [if_pos c1_3] at h
          refine rn_tsw_in (tgt := 36) i42_1 3 (by omega) (by omega) rfl rfl ?_
          refine rn_iload_n i42_36 rfl ?_
          refine rn_iload_n i42_37 rfl ?_
          refine rn_isub i42_38 ?_
          obtain rfl := Option.some.inj h
          exact rn_retI i42_39 mr42
        · rw [if_neg c1_3] at h
          refine rn_tsw_out (tgt := 44) i42_1 (by omega) rfl ?_
          exact rn_sub [1, 2] rfl (s_Lw_reckoned_44 hD x1 x2 w r h)
/-- HandHeirs$Laws.reckoned(III)I -/
def Lw_reckoned (x0 : Int) (x1 : Int) (x2 : Int) (w : Wd) : Option (Int × Wd) := Lw_reckoned_0 x0 x1 x2 w
theorem S_Lw_reckoned {g : Gp} {l : Launch} (x0 : Int) (x1 : Int) (x2 : Int) (w : Wd) (r : Int × Wd) (h : Lw_reckoned x0 x1 x2 w = some r) : ∀ D, 0 ≤ D → Rn g l D 42 0 [(0, .inl x0), (1, .inl x1), (2, .inl x2)] [] w (some (.inl r.1)) r.2 := fun D hD => rn_sub [0, 1, 2] rfl (s_Lw_reckoned_0 hD x0 x1 x2 w r h)
def Lw_answer_46 (s0 : Int) (w : Wd) : Option (Int × Wd) :=
  some (s0, w)
theorem s_Lw_answer_46 {g : Gp} {l : Launch} {D : Nat} (hD : 1 ≤ D) (s0 : Int) (w : Wd) (r : Int × Wd) (h : Lw_answer_46 s0 w = some r) : Rn g l D 40 46 [] [.inl s0] w (some (.inl r.1)) r.2 := by
  unfold Lw_answer_46 at h
  obtain rfl := Option.some.inj h
  exact rn_retI i40_46 mr40
def Lw_answer_30 (a0 : Nat) (x2 : Int) (w : Wd) : Option (Int × Wd) :=
  if (x2 : Int) ≤ 0 then
    Lw_answer_46 0 w
  else
    (fgR w a0 2 4).bind fun v35 =>
    (rdI w v35 (w32 (x2 - 1))).bind fun v41 =>
    Lw_answer_46 v41 w
theorem s_Lw_answer_30 {g : Gp} {l : Launch} {D : Nat} (hD : 1 ≤ D) (a0 : Nat) (x2 : Int) (w : Wd) (r : Int × Wd) (h : Lw_answer_30 a0 x2 w = some r) : Rn g l D 40 30 [(0, .inr (.inr a0)), (2, .inl x2)] [] w (some (.inl r.1)) r.2 := by
  unfold Lw_answer_30 at h
  refine rn_iload_n i40_30 rfl ?_
  by_cases c31 : (x2 : Int) ≤ 0
  · rw [if_pos c31] at h
    refine rn_if_le_t i40_31 c31 ?_
    refine rn_iconst i40_45 ?_
    exact rn_sub [] rfl (s_Lw_answer_46 hD 0 w r h)
  · rw [if_neg c31] at h
    refine rn_if_le_f i40_31 c31 ?_
    refine fr_aload_n i40_34 rfl ?_
    obtain ⟨v35, h35, h⟩ := Option.bind_eq_some_iff.mp h
    refine fr_gR (k := 4) i40_35 tf2_4 h35 ?_
    refine rn_iload_n i40_38 rfl ?_
    refine rn_iconst i40_39 ?_
    refine rn_isub i40_40 ?_
    obtain ⟨v41, h41, h⟩ := Option.bind_eq_some_iff.mp h
    refine rn_iald i40_41 h41 ?_
    refine rn_goto i40_42 ?_
    exact rn_sub [] rfl (s_Lw_answer_46 hD v41 w r h)
def Lw_answer_199 (k8 : Nat → Int → Int → Wd → Option (Int × Wd)) (a0 : Nat) (x2 : Int) (x3 : Int) (w : Wd) : Option (Int × Wd) :=
  k8 a0 x2 (w32 (x3 + 1)) w
theorem s_Lw_answer_199 {g : Gp} {l : Launch} {D : Nat} (hD : 1 ≤ D) (k8 : Nat → Int → Int → Wd → Option (Int × Wd)) (hk8 : ∀ (a0 : Nat) (x2 : Int) (x3 : Int) (w : Wd) (r : Int × Wd), k8 a0 x2 x3 w = some r → Rn g l D 40 8 [(0, .inr (.inr a0)), (2, .inl x2), (3, .inl x3)] [] w (some (.inl r.1)) r.2) (a0 : Nat) (x2 : Int) (x3 : Int) (w : Wd) (r : Int × Wd) (h : Lw_answer_199 k8 a0 x2 x3 w = some r) : Rn g l D 40 199 [(0, .inr (.inr a0)), (2, .inl x2), (3, .inl x3)] [] w (some (.inl r.1)) r.2 := by
  unfold Lw_answer_199 at h
  refine rn_iinc (ls1 := [(3, .inl (w32 (x3 + 1))), (0, .inr (.inr a0)), (2, .inl x2)]) i40_199 rfl rfl ?_
  refine rn_goto i40_202 ?_
  exact rn_sub [1, 2, 0] rfl (hk8 a0 x2 (w32 (x3 + 1)) w r h)
def Lw_answer_97 (k8 : Nat → Int → Int → Wd → Option (Int × Wd)) (a0 : Nat) (x2 : Int) (x3 : Int) (s0 : Int) (s1 : Int) (s2 : Nat) (w : Wd) : Option (Int × Wd) :=
  (wrI w s2 s1 s0).bind fun w97 =>
  Lw_answer_199 k8 a0 (w32 (x2 + 1)) x3 w97
theorem s_Lw_answer_97 {g : Gp} {l : Launch} {D : Nat} (hD : 1 ≤ D) (k8 : Nat → Int → Int → Wd → Option (Int × Wd)) (hk8 : ∀ (a0 : Nat) (x2 : Int) (x3 : Int) (w : Wd) (r : Int × Wd), k8 a0 x2 x3 w = some r → Rn g l D 40 8 [(0, .inr (.inr a0)), (2, .inl x2), (3, .inl x3)] [] w (some (.inl r.1)) r.2) (a0 : Nat) (x2 : Int) (x3 : Int) (s0 : Int) (s1 : Int) (s2 : Nat) (w : Wd) (r : Int × Wd) (h : Lw_answer_97 k8 a0 x2 x3 s0 s1 s2 w = some r) : Rn g l D 40 97 [(0, .inr (.inr a0)), (2, .inl x2), (3, .inl x3)] [.inl s0, .inl s1, .inr (.inr s2)] w (some (.inl r.1)) r.2 := by
  unfold Lw_answer_97 at h
  obtain ⟨w97, h97, h⟩ := Option.bind_eq_some_iff.mp h
  refine rn_iast i40_97 h97 ?_
  refine rn_iinc (ls1 := [(2, .inl (w32 (x2 + 1))), (0, .inr (.inr a0)), (3, .inl x3)]) i40_98 rfl rfl ?_
  refine rn_goto i40_101 ?_
  exact rn_sub [1, 0, 2] rfl (s_Lw_answer_199 hD k8 hk8 a0 (w32 (x2 + 1)) x3 w97 r h)
def Lw_answer_59 (k8 : Nat → Int → Int → Wd → Option (Int × Wd)) (a0 : Nat) (x2 : Int) (x3 : Int) (x4 : Int) (w : Wd) : Option (Int × Wd) :=
  if (x2 : Int) < 24 then
    (fgR w a0 2 4).bind fun v68 =>
    if (x4 : Int) = 1 then
      (fgR w a0 2 2).bind fun v79 =>
      (rdI w v79 x3).bind fun v83 =>
      Lw_answer_97 k8 a0 x2 x3 v83 x2 v68 w
    else
      (fgR w a0 2 2).bind fun v89 =>
      (rdI w v89 x3).bind fun v93 =>
      (Lw_variable a0 v93 w).bind fun r94 =>
      Lw_answer_97 k8 a0 x2 x3 r94.1 x2 v68 r94.2
  else
    some (0, w)
theorem s_Lw_answer_59 {g : Gp} {l : Launch} {D : Nat} (hD : 1 ≤ D) (k8 : Nat → Int → Int → Wd → Option (Int × Wd)) (hk8 : ∀ (a0 : Nat) (x2 : Int) (x3 : Int) (w : Wd) (r : Int × Wd), k8 a0 x2 x3 w = some r → Rn g l D 40 8 [(0, .inr (.inr a0)), (2, .inl x2), (3, .inl x3)] [] w (some (.inl r.1)) r.2) (a0 : Nat) (x2 : Int) (x3 : Int) (x4 : Int) (w : Wd) (r : Int × Wd) (h : Lw_answer_59 k8 a0 x2 x3 x4 w = some r) : Rn g l D 40 59 [(0, .inr (.inr a0)), (2, .inl x2), (3, .inl x3), (4, .inl x4)] [] w (some (.inl r.1)) r.2 := by
  obtain ⟨D, rfl⟩ : ∃ D1, D = D1 + 1 := ⟨D - 1, by omega⟩
  unfold Lw_answer_59 at h
  refine rn_iload_n i40_59 rfl ?_
  refine rn_bipush i40_60 ?_
  by_cases c62 : (x2 : Int) < 24
  · rw [if_pos c62] at h
    refine rn_icmp_lt_t i40_62 c62 ?_
    refine fr_aload_n i40_67 rfl ?_
    obtain ⟨v68, h68, h⟩ := Option.bind_eq_some_iff.mp h
    refine fr_gR (k := 4) i40_68 tf2_4 h68 ?_
    refine rn_iload_n i40_71 rfl ?_
    refine rn_iload i40_72 rfl ?_
    refine rn_iconst i40_74 ?_
    by_cases c75 : (x4 : Int) = 1
    · rw [if_pos c75] at h
      refine rn_icmp_ne_f i40_75 c75 ?_
      refine fr_aload_n i40_78 rfl ?_
      obtain ⟨v79, h79, h⟩ := Option.bind_eq_some_iff.mp h
      refine fr_gR (k := 2) i40_79 tf2_2 h79 ?_
      refine rn_iload_n i40_82 rfl ?_
      obtain ⟨v83, h83, h⟩ := Option.bind_eq_some_iff.mp h
      refine rn_iald i40_83 h83 ?_
      refine rn_goto i40_84 ?_
      exact rn_sub [0, 1, 2] rfl (s_Lw_answer_97 hD k8 hk8 a0 x2 x3 v83 x2 v68 w r h)
    · rw [if_neg c75] at h
      refine rn_icmp_ne_t i40_75 c75 ?_
      refine fr_aload_n i40_87 rfl ?_
      refine fr_aload_n i40_88 rfl ?_
      obtain ⟨v89, h89, h⟩ := Option.bind_eq_some_iff.mp h
      refine fr_gR (k := 2) i40_89 tf2_2 h89 ?_
      refine rn_iload_n i40_92 rfl ?_
      obtain ⟨v93, h93, h⟩ := Option.bind_eq_some_iff.mp h
      refine rn_iald i40_93 h93 ?_
      obtain ⟨r94, h94, h⟩ := Option.bind_eq_some_iff.mp h
      obtain ⟨g94, c94⟩ := S_Lw_variable a0 v93 w r94 h94
      refine fr_callV (a := a0) (As := [.inl v93]) (st := [.inl x2, .inr (.inr v68)]) i40_94 (cq41 a0 v93) rfl (Nat.le_of_ble_eq_true rfl) g94 (c94 _ (by omega)) ?_
      show Rn _ _ _ _ _ _ [.inl r94.1, .inl x2, .inr (.inr v68)] _ _ _
      exact rn_sub [0, 1, 2] rfl (s_Lw_answer_97 hD k8 hk8 a0 x2 x3 r94.1 x2 v68 r94.2 r h)
  · rw [if_neg c62] at h
    refine rn_icmp_lt_f i40_62 c62 ?_
    refine rn_iconst i40_65 ?_
    obtain rfl := Option.some.inj h
    exact rn_retI i40_66 mr40
def Lw_answer_163 (k8 : Nat → Int → Int → Wd → Option (Int × Wd)) (a0 : Nat) (x2 : Int) (s0 : Int) (w : Wd) : Option (Int × Wd) :=
  Lw_answer_199 k8 a0 x2 s0 w
theorem s_Lw_answer_163 {g : Gp} {l : Launch} {D : Nat} (hD : 1 ≤ D) (k8 : Nat → Int → Int → Wd → Option (Int × Wd)) (hk8 : ∀ (a0 : Nat) (x2 : Int) (x3 : Int) (w : Wd) (r : Int × Wd), k8 a0 x2 x3 w = some r → Rn g l D 40 8 [(0, .inr (.inr a0)), (2, .inl x2), (3, .inl x3)] [] w (some (.inl r.1)) r.2) (a0 : Nat) (x2 : Int) (s0 : Int) (w : Wd) (r : Int × Wd) (h : Lw_answer_163 k8 a0 x2 s0 w = some r) : Rn g l D 40 163 [(0, .inr (.inr a0)), (2, .inl x2)] [.inl s0] w (some (.inl r.1)) r.2 := by
  unfold Lw_answer_163 at h
  refine rn_istore_n (ls1 := [(3, .inl s0), (0, .inr (.inr a0)), (2, .inl x2)]) i40_163 rfl ?_
  refine rn_goto i40_164 ?_
  exact rn_sub [1, 2, 0] rfl (s_Lw_answer_199 hD k8 hk8 a0 x2 s0 w r h)
def Lw_answer_181 (k8 : Nat → Int → Int → Wd → Option (Int × Wd)) (a0 : Nat) (x2 : Int) (x3 : Int) (x4 : Int) (x5 : Int) (x6 : Int) (w : Wd) : Option (Int × Wd) :=
  (fgR w a0 2 4).bind fun v182 =>
  (Lw_reckoned x4 x6 x5 w).bind fun r192 =>
  (wrI r192.2 v182 x2 r192.1).bind fun w195 =>
  Lw_answer_199 k8 a0 (w32 (x2 + 1)) x3 w195
theorem s_Lw_answer_181 {g : Gp} {l : Launch} {D : Nat} (hD : 1 ≤ D) (k8 : Nat → Int → Int → Wd → Option (Int × Wd)) (hk8 : ∀ (a0 : Nat) (x2 : Int) (x3 : Int) (w : Wd) (r : Int × Wd), k8 a0 x2 x3 w = some r → Rn g l D 40 8 [(0, .inr (.inr a0)), (2, .inl x2), (3, .inl x3)] [] w (some (.inl r.1)) r.2) (a0 : Nat) (x2 : Int) (x3 : Int) (x4 : Int) (x5 : Int) (x6 : Int) (w : Wd) (r : Int × Wd) (h : Lw_answer_181 k8 a0 x2 x3 x4 x5 x6 w = some r) : Rn g l D 40 181 [(0, .inr (.inr a0)), (2, .inl x2), (3, .inl x3), (4, .inl x4), (5, .inl x5), (6, .inl x6)] [] w (some (.inl r.1)) r.2 := by
  obtain ⟨D, rfl⟩ : ∃ D1, D = D1 + 1 := ⟨D - 1, by omega⟩
  unfold Lw_answer_181 at h
  refine fr_aload_n i40_181 rfl ?_
  obtain ⟨v182, h182, h⟩ := Option.bind_eq_some_iff.mp h
  refine fr_gR (k := 4) i40_182 tf2_4 h182 ?_
  refine rn_iload_n i40_185 rfl ?_
  refine rn_iload i40_186 rfl ?_
  refine rn_iload i40_188 rfl ?_
  refine rn_iload i40_190 rfl ?_
  obtain ⟨r192, h192, h⟩ := Option.bind_eq_some_iff.mp h
  refine fr_callS (nst := 0) (As := [.inl x4, .inl x6, .inl x5]) (st := [.inl x2, .inr (.inr v182)]) i40_192 (cq42 x4 x6 x5) rfl (Nat.le_of_ble_eq_true rfl) (S_Lw_reckoned x4 x6 x5 w r192 h192 _ (by omega)) ?_
  show Rn _ _ _ _ _ _ [.inl r192.1, .inl x2, .inr (.inr v182)] _ _ _
  obtain ⟨w195, h195, h⟩ := Option.bind_eq_some_iff.mp h
  refine rn_iast i40_195 h195 ?_
  refine rn_iinc (ls1 := [(2, .inl (w32 (x2 + 1))), (0, .inr (.inr a0)), (3, .inl x3), (4, .inl x4), (5, .inl x5), (6, .inl x6)]) i40_196 rfl rfl ?_
  exact rn_sub [1, 0, 2] rfl (s_Lw_answer_199 hD k8 hk8 a0 (w32 (x2 + 1)) x3 w195 r h)
def Lw_answer_8 : Nat → Nat → Int → Int → Wd → Option (Int × Wd)
  | 0, _, _, _, _ => none
  | n + 1, a0, x2, x3, w =>
    (fgI w a0 2 0).bind fun v10 =>
    if (v10 : Int) ≤ x3 then
      some (0, w)
    else
      (fgR w a0 2 1).bind fun v17 =>
      (rdI w v17 x3).bind fun v21 =>
      if (v21 : Int) = 4 then
        Lw_answer_30 a0 x2 w
      else
        if (v21 : Int) = 1 then
          Lw_answer_59 (Lw_answer_8 n) a0 x2 x3 v21 w
        else
          if (v21 : Int) = 2 then
            Lw_answer_59 (Lw_answer_8 n) a0 x2 x3 v21 w
          else
            if (2 : Int) ≤ x2 then
              (fgR w a0 2 4).bind fun v112 =>
              (rdI w v112 (w32 (x2 - 1))).bind fun v118 =>
              (fgR w a0 2 4).bind fun v122 =>
              (rdI w v122 (w32 (x2 - 2))).bind fun v128 =>
              if (v21 : Int) = 3 then
                if (v118 : Int) ≤ v128 then
                  (fgR w a0 2 2).bind fun v153 =>
                  (rdI w v153 x3).bind fun v157 =>
                  Lw_answer_163 (Lw_answer_8 n) a0 (w32 (x2 + (-2))) (max x3 (w32 (v157 - 1))) w
                else
                  Lw_answer_163 (Lw_answer_8 n) a0 (w32 (x2 + (-2))) x3 w
              else
                if (v21 : Int) = 47 then
                  if (v118 : Int) = 0 then
                    some (0, w)
                  else
                    Lw_answer_181 (Lw_answer_8 n) a0 (w32 (x2 + (-2))) x3 v21 v118 v128 w
                else
                  Lw_answer_181 (Lw_answer_8 n) a0 (w32 (x2 + (-2))) x3 v21 v118 v128 w
            else
              some (0, w)
theorem s_Lw_answer_8 {g : Gp} {l : Launch} {D : Nat} (hD : 1 ≤ D) : ∀ (n : Nat) (a0 : Nat) (x2 : Int) (x3 : Int) (w : Wd) (r : Int × Wd), Lw_answer_8 n a0 x2 x3 w = some r → Rn g l D 40 8 [(0, .inr (.inr a0)), (2, .inl x2), (3, .inl x3)] [] w (some (.inl r.1)) r.2 := by
  obtain ⟨D, rfl⟩ : ∃ D1, D = D1 + 1 := ⟨D - 1, by omega⟩
  intro n
  induction n with
  | zero => intro a0 x2 x3 w r h; cases (show (none : Option (Int × Wd)) = some r from h)
  | succ n ih =>
    intro a0 x2 x3 w r h
    unfold Lw_answer_8 at h
    refine rn_iload_n i40_8 rfl ?_
    refine fr_aload_n i40_9 rfl ?_
    obtain ⟨v10, h10, h⟩ := Option.bind_eq_some_iff.mp h
    refine fr_gI (k := 0) i40_10 tf2_0 h10 ?_
    by_cases c13 : (v10 : Int) ≤ x3
    · rw [if_pos c13] at h
      refine rn_icmp_ge_t i40_13 c13 ?_
      refine rn_iconst i40_205 ?_
      obtain rfl := Option.some.inj h
      exact rn_retI i40_206 mr40
    · rw [if_neg c13] at h
      refine rn_icmp_ge_f i40_13 c13 ?_
      refine fr_aload_n i40_16 rfl ?_
      obtain ⟨v17, h17, h⟩ := Option.bind_eq_some_iff.mp h
      refine fr_gR (k := 1) i40_17 tf2_1 h17 ?_
      refine rn_iload_n i40_20 rfl ?_
      obtain ⟨v21, h21, h⟩ := Option.bind_eq_some_iff.mp h
      refine rn_iald i40_21 h21 ?_
      refine rn_istore (ls1 := [(4, .inl v21), (0, .inr (.inr a0)), (2, .inl x2), (3, .inl x3)]) i40_22 rfl ?_
      refine rn_iload i40_24 rfl ?_
      refine rn_iconst i40_26 ?_
      by_cases c27 : (v21 : Int) = 4
      · rw [if_pos c27] at h
        refine rn_icmp_ne_f i40_27 c27 ?_
        exact rn_sub [1, 2] rfl (s_Lw_answer_30 hD a0 x2 w r h)
      · rw [if_neg c27] at h
        refine rn_icmp_ne_t i40_27 c27 ?_
        refine rn_iload i40_47 rfl ?_
        refine rn_iconst i40_49 ?_
        by_cases c50 : (v21 : Int) = 1
        · rw [if_pos c50] at h
          refine rn_icmp_eq_t i40_50 c50 ?_
          exact rn_sub [1, 2, 3, 0] rfl (s_Lw_answer_59 hD (Lw_answer_8 n) ih a0 x2 x3 v21 w r h)
        · rw [if_neg c50] at h
          refine rn_icmp_eq_f i40_50 c50 ?_
          refine rn_iload i40_53 rfl ?_
          refine rn_iconst i40_55 ?_
          by_cases c56 : (v21 : Int) = 2
          · rw [if_pos c56] at h
            refine rn_icmp_ne_f i40_56 c56 ?_
            exact rn_sub [1, 2, 3, 0] rfl (s_Lw_answer_59 hD (Lw_answer_8 n) ih a0 x2 x3 v21 w r h)
          · rw [if_neg c56] at h
            refine rn_icmp_ne_t i40_56 c56 ?_
            refine rn_iload_n i40_104 rfl ?_
            refine rn_iconst i40_105 ?_
            by_cases c106 : (2 : Int) ≤ x2
            · rw [if_pos c106] at h
              refine rn_icmp_ge_t i40_106 c106 ?_
              refine fr_aload_n i40_111 rfl ?_
              obtain ⟨v112, h112, h⟩ := Option.bind_eq_some_iff.mp h
              refine fr_gR (k := 4) i40_112 tf2_4 h112 ?_
              refine rn_iload_n i40_115 rfl ?_
              refine rn_iconst i40_116 ?_
              refine rn_isub i40_117 ?_
              obtain ⟨v118, h118, h⟩ := Option.bind_eq_some_iff.mp h
              refine rn_iald i40_118 h118 ?_
              refine rn_istore (ls1 := [(5, .inl v118), (4, .inl v21), (0, .inr (.inr a0)), (2, .inl x2), (3, .inl x3)]) i40_119 rfl ?_
              refine fr_aload_n i40_121 rfl ?_
              obtain ⟨v122, h122, h⟩ := Option.bind_eq_some_iff.mp h
              refine fr_gR (k := 4) i40_122 tf2_4 h122 ?_
              refine rn_iload_n i40_125 rfl ?_
              refine rn_iconst i40_126 ?_
              refine rn_isub i40_127 ?_
              obtain ⟨v128, h128, h⟩ := Option.bind_eq_some_iff.mp h
              refine rn_iald i40_128 h128 ?_
              refine rn_istore (ls1 := [(6, .inl v128), (5, .inl v118), (4, .inl v21), (0, .inr (.inr a0)), (2, .inl x2), (3, .inl x3)]) i40_129 rfl ?_
              refine rn_iinc (ls1 := [(2, .inl (w32 (x2 + (-2)))), (6, .inl v128), (5, .inl v118), (4, .inl v21), (0, .inr (.inr a0)), (3, .inl x3)]) i40_131 rfl rfl ?_
              refine rn_iload i40_134 rfl ?_
              refine rn_iconst i40_136 ?_
              by_cases c137 : (v21 : Int) = 3
              · rw [if_pos c137] at h
                refine rn_icmp_ne_f i40_137 c137 ?_
                refine rn_iload i40_140 rfl ?_
                refine rn_iload i40_142 rfl ?_
                by_cases c144 : (v118 : Int) ≤ v128
                · rw [if_pos c144] at h
                  refine rn_icmp_ge_t i40_144 c144 ?_
                  refine rn_iload_n i40_151 rfl ?_
                  refine fr_aload_n i40_152 rfl ?_
                  obtain ⟨v153, h153, h⟩ := Option.bind_eq_some_iff.mp h
                  refine fr_gR (k := 2) i40_153 tf2_2 h153 ?_
                  refine rn_iload_n i40_156 rfl ?_
                  obtain ⟨v157, h157, h⟩ := Option.bind_eq_some_iff.mp h
                  refine rn_iald i40_157 h157 ?_
                  refine rn_iconst i40_158 ?_
                  refine rn_isub i40_159 ?_
                  refine rn_max i40_160 (Nat.le_of_ble_eq_true rfl) ?_
                  exact rn_sub [4, 0] rfl (s_Lw_answer_163 hD (Lw_answer_8 n) ih a0 (w32 (x2 + (-2))) (max x3 (w32 (v157 - 1))) w r h)
                · rw [if_neg c144] at h
                  refine rn_icmp_ge_f i40_144 c144 ?_
                  refine rn_iload_n i40_147 rfl ?_
                  refine rn_goto i40_148 ?_
                  exact rn_sub [4, 0] rfl (s_Lw_answer_163 hD (Lw_answer_8 n) ih a0 (w32 (x2 + (-2))) x3 w r h)
              · rw [if_neg c137] at h
                refine rn_icmp_ne_t i40_137 c137 ?_
                refine rn_iload i40_167 rfl ?_
                refine rn_bipush i40_169 ?_
                by_cases c171 : (v21 : Int) = 47
                · rw [if_pos c171] at h
                  refine rn_icmp_ne_f i40_171 c171 ?_
                  refine rn_iload i40_174 rfl ?_
                  by_cases c176 : (v118 : Int) = 0
                  · rw [if_pos c176] at h
                    refine rn_if_ne_f i40_176 c176 ?_
                    refine rn_iconst i40_179 ?_
                    obtain rfl := Option.some.inj h
                    exact rn_retI i40_180 mr40
                  · rw [if_neg c176] at h
                    refine rn_if_ne_t i40_176 c176 ?_
                    exact rn_sub [4, 0, 5, 3, 2, 1] rfl (s_Lw_answer_181 hD (Lw_answer_8 n) ih a0 (w32 (x2 + (-2))) x3 v21 v118 v128 w r h)
                · rw [if_neg c171] at h
                  refine rn_icmp_ne_t i40_171 c171 ?_
                  exact rn_sub [4, 0, 5, 3, 2, 1] rfl (s_Lw_answer_181 hD (Lw_answer_8 n) ih a0 (w32 (x2 + (-2))) x3 v21 v118 v128 w r h)
            · rw [if_neg c106] at h
              refine rn_icmp_ge_f i40_106 c106 ?_
              refine rn_iconst i40_109 ?_
              obtain rfl := Option.some.inj h
              exact rn_retI i40_110 mr40
def Lw_answer_0 (a0 : Nat) (x1 : Int) (w : Wd) : Option (Int × Wd) :=
  Lw_answer_8 FU a0 0 (max 0 x1) w
theorem s_Lw_answer_0 {g : Gp} {l : Launch} {D : Nat} (hD : 1 ≤ D) (a0 : Nat) (x1 : Int) (w : Wd) (r : Int × Wd) (h : Lw_answer_0 a0 x1 w = some r) : Rn g l D 40 0 [(0, .inr (.inr a0)), (1, .inl x1)] [] w (some (.inl r.1)) r.2 := by
  obtain ⟨D, rfl⟩ : ∃ D1, D = D1 + 1 := ⟨D - 1, by omega⟩
  unfold Lw_answer_0 at h
  refine rn_iconst i40_0 ?_
  refine rn_istore_n (ls1 := [(2, .inl 0), (0, .inr (.inr a0)), (1, .inl x1)]) i40_1 rfl ?_
  refine rn_iconst i40_2 ?_
  refine rn_iload_n i40_3 rfl ?_
  refine rn_max i40_4 (Nat.le_of_ble_eq_true rfl) ?_
  refine rn_istore_n (ls1 := [(3, .inl (max 0 x1)), (2, .inl 0), (0, .inr (.inr a0)), (1, .inl x1)]) i40_7 rfl ?_
  exact rn_sub [2, 1, 0] rfl (s_Lw_answer_8 hD FU a0 0 (max 0 x1) w r h)
/-- HandHeirs$Laws.answer(I)I -/
def Lw_answer (a0 : Nat) (x1 : Int) (w : Wd) : Option (Int × Wd) := gd 2 w a0 (Lw_answer_0 a0 x1 w)
theorem S_Lw_answer {g : Gp} {l : Launch} (a0 : Nat) (x1 : Int) (w : Wd) (r : Int × Wd) (h : Lw_answer a0 x1 w = some r) : (wsh w a0).1 = 2 ∧ ∀ D, 1 ≤ D → Rn g l D 40 0 [(0, .inr (.inr a0)), (1, .inl x1)] [] w (some (.inl r.1)) r.2 := by
  obtain ⟨hg, h⟩ := gd_some h
  exact ⟨hg, fun D hD => rn_sub [0, 1] rfl (s_Lw_answer_0 hD a0 x1 w r h)⟩
def Wi_toldBy_0 (a0 : Nat) (x1 : Int) (w : Wd) : Option (Int × Wd) :=
  (fgR w a0 10 13).bind fun v1 =>
  (fgR w a0 10 11).bind fun v5 =>
  (rdI w v5 x1).bind fun v9 =>
  (Lw_answer v1 v9 w).bind fun r10 =>
  (Hh_held (r10.1) 0 999 r10.2).bind fun r17 =>
  some (r17.1, r17.2)
theorem s_Wi_toldBy_0 {g : Gp} {l : Launch} {D : Nat} (hD : 2 ≤ D) (a0 : Nat) (x1 : Int) (w : Wd) (r : Int × Wd) (h : Wi_toldBy_0 a0 x1 w = some r) : Rn g l D 100 0 [(0, .inr (.inr a0)), (1, .inl x1)] [] w (some (.inl r.1)) r.2 := by
  obtain ⟨D, rfl⟩ : ∃ D1, D = D1 + 1 := ⟨D - 1, by omega⟩
  unfold Wi_toldBy_0 at h
  refine fr_aload_n i100_0 rfl ?_
  obtain ⟨v1, h1, h⟩ := Option.bind_eq_some_iff.mp h
  refine fr_gR (k := 13) i100_1 tf10_13 h1 ?_
  refine fr_aload_n i100_4 rfl ?_
  obtain ⟨v5, h5, h⟩ := Option.bind_eq_some_iff.mp h
  refine fr_gR (k := 11) i100_5 tf10_11 h5 ?_
  refine rn_iload_n i100_8 rfl ?_
  obtain ⟨v9, h9, h⟩ := Option.bind_eq_some_iff.mp h
  refine rn_iald i100_9 h9 ?_
  obtain ⟨r10, h10, h⟩ := Option.bind_eq_some_iff.mp h
  obtain ⟨g10, c10⟩ := S_Lw_answer v1 v9 w r10 h10
  refine fr_callV (a := v1) (As := [.inl v9]) (st := []) i100_10 (cq40 v1 v9) rfl (Nat.le_of_ble_eq_true rfl) g10 (c10 _ (by omega)) ?_
  show Rn _ _ _ _ _ _ [.inl r10.1] _ _ _
  refine rn_iconst i100_13 ?_
  refine rn_sipush i100_14 ?_
  obtain ⟨r17, h17, h⟩ := Option.bind_eq_some_iff.mp h
  refine fr_callS (nst := 1) (As := [.inl r10.1, .inl 0, .inl 999]) (st := []) i100_17 (cq146 (r10.1) 0 999) rfl (Nat.le_of_ble_eq_true rfl) (S_Hh_held (r10.1) 0 999 r10.2 r17 h17 _ (by omega)) ?_
  show Rn _ _ _ _ _ _ [.inl r17.1] _ _ _
  obtain rfl := Option.some.inj h
  exact rn_retI i100_20 mr100
/-- HandHeirs$Will.toldBy(I)I -/
def Wi_toldBy (a0 : Nat) (x1 : Int) (w : Wd) : Option (Int × Wd) := gd 10 w a0 (Wi_toldBy_0 a0 x1 w)
theorem S_Wi_toldBy {g : Gp} {l : Launch} (a0 : Nat) (x1 : Int) (w : Wd) (r : Int × Wd) (h : Wi_toldBy a0 x1 w = some r) : (wsh w a0).1 = 10 ∧ ∀ D, 2 ≤ D → Rn g l D 100 0 [(0, .inr (.inr a0)), (1, .inl x1)] [] w (some (.inl r.1)) r.2 := by
  obtain ⟨hg, h⟩ := gd_some h
  exact ⟨hg, fun D hD => rn_sub [0, 1] rfl (s_Wi_toldBy_0 hD a0 x1 w r h)⟩
def Ct_compare_104 (k3 : Nat → Nat → Nat → Int → Int → Wd → Option (Wd)) (k41 : Nat → Nat → Nat → Int → Int → Int → Wd → Option (Wd)) (a0 : Nat) (a1 : Nat) (a2 : Nat) (x3 : Int) (x4 : Int) (x5 : Int) (w : Wd) : Option (Wd) :=
  k41 a0 a1 a2 x3 x4 (w32 (x5 + 1)) w
theorem s_Ct_compare_104 {g : Gp} {l : Launch} {D : Nat} (hD : 3 ≤ D) (k3 : Nat → Nat → Nat → Int → Int → Wd → Option (Wd)) (hk3 : ∀ (a0 : Nat) (a1 : Nat) (a2 : Nat) (x3 : Int) (x4 : Int) (w : Wd) (r : Wd), k3 a0 a1 a2 x3 x4 w = some r → Rn g l D 26 3 [(0, .inr (.inr a0)), (1, .inr (.inr a1)), (2, .inr (.inr a2)), (3, .inl x3), (4, .inl x4)] [] w none r) (k41 : Nat → Nat → Nat → Int → Int → Int → Wd → Option (Wd)) (hk41 : ∀ (a0 : Nat) (a1 : Nat) (a2 : Nat) (x3 : Int) (x4 : Int) (x5 : Int) (w : Wd) (r : Wd), k41 a0 a1 a2 x3 x4 x5 w = some r → Rn g l D 26 41 [(0, .inr (.inr a0)), (1, .inr (.inr a1)), (2, .inr (.inr a2)), (3, .inl x3), (4, .inl x4), (5, .inl x5)] [] w none r) (a0 : Nat) (a1 : Nat) (a2 : Nat) (x3 : Int) (x4 : Int) (x5 : Int) (w : Wd) (r : Wd) (h : Ct_compare_104 k3 k41 a0 a1 a2 x3 x4 x5 w = some r) : Rn g l D 26 104 [(0, .inr (.inr a0)), (1, .inr (.inr a1)), (2, .inr (.inr a2)), (3, .inl x3), (4, .inl x4), (5, .inl x5)] [] w none r := by
  unfold Ct_compare_104 at h
  refine rn_iinc (ls1 := [(5, .inl (w32 (x5 + 1))), (0, .inr (.inr a0)), (1, .inr (.inr a1)), (2, .inr (.inr a2)), (3, .inl x3), (4, .inl x4)]) i26_104 rfl rfl ?_
  refine rn_goto i26_107 ?_
  exact rn_sub [1, 2, 3, 4, 5, 0] rfl (hk41 a0 a1 a2 x3 x4 (w32 (x5 + 1)) w r h)
def Ct_compare_70 (k3 : Nat → Nat → Nat → Int → Int → Wd → Option (Wd)) (k41 : Nat → Nat → Nat → Int → Int → Int → Wd → Option (Wd)) : Nat → Nat → Nat → Nat → Int → Int → Int → Int → Wd → Option (Wd)
  | 0, _, _, _, _, _, _, _, _ => none
  | n + 1, a0, a1, a2, x3, x4, x5, x6, w =>
    (fgI w a1 10 2).bind fun v73 =>
    if (v73 : Int) ≤ x6 then
      Ct_compare_104 k3 k41 a0 a1 a2 x3 x4 x5 w
    else
      (fgR w a0 1 0).bind fun v80 =>
      (rdR w v80 x4).bind fun v85 =>
      (rdI w v85 x6).bind fun v89 =>
      (Wi_toldBy a1 x6 w).bind fun r93 =>
      (wrI r93.2 v85 x6 (w32 (v89 + r93.1))).bind fun w97 =>
      Ct_compare_70 k3 k41 n a0 a1 a2 x3 x4 x5 (w32 (x6 + 1)) w97
theorem s_Ct_compare_70 {g : Gp} {l : Launch} {D : Nat} (hD : 3 ≤ D) (k3 : Nat → Nat → Nat → Int → Int → Wd → Option (Wd)) (hk3 : ∀ (a0 : Nat) (a1 : Nat) (a2 : Nat) (x3 : Int) (x4 : Int) (w : Wd) (r : Wd), k3 a0 a1 a2 x3 x4 w = some r → Rn g l D 26 3 [(0, .inr (.inr a0)), (1, .inr (.inr a1)), (2, .inr (.inr a2)), (3, .inl x3), (4, .inl x4)] [] w none r) (k41 : Nat → Nat → Nat → Int → Int → Int → Wd → Option (Wd)) (hk41 : ∀ (a0 : Nat) (a1 : Nat) (a2 : Nat) (x3 : Int) (x4 : Int) (x5 : Int) (w : Wd) (r : Wd), k41 a0 a1 a2 x3 x4 x5 w = some r → Rn g l D 26 41 [(0, .inr (.inr a0)), (1, .inr (.inr a1)), (2, .inr (.inr a2)), (3, .inl x3), (4, .inl x4), (5, .inl x5)] [] w none r) : ∀ (n : Nat) (a0 : Nat) (a1 : Nat) (a2 : Nat) (x3 : Int) (x4 : Int) (x5 : Int) (x6 : Int) (w : Wd) (r : Wd), Ct_compare_70 k3 k41 n a0 a1 a2 x3 x4 x5 x6 w = some r → Rn g l D 26 70 [(0, .inr (.inr a0)), (1, .inr (.inr a1)), (2, .inr (.inr a2)), (3, .inl x3), (4, .inl x4), (5, .inl x5), (6, .inl x6)] [] w none r := by
  obtain ⟨D, rfl⟩ : ∃ D1, D = D1 + 1 := ⟨D - 1, by omega⟩
  intro n
  induction n with
  | zero => intro a0 a1 a2 x3 x4 x5 x6 w r h; cases (show (none : Option (Wd)) = some r from h)
  | succ n ih =>
    intro a0 a1 a2 x3 x4 x5 x6 w r h
    unfold Ct_compare_70 at h
    refine rn_iload i26_70 rfl ?_
    refine fr_aload_n i26_72 rfl ?_
    obtain ⟨v73, h73, h⟩ := Option.bind_eq_some_iff.mp h
    refine fr_gI (k := 2) i26_73 tf10_2 h73 ?_
    by_cases c76 : (v73 : Int) ≤ x6
    · rw [if_pos c76] at h
      refine rn_icmp_ge_t i26_76 c76 ?_
      exact rn_sub [0, 1, 2, 3, 4, 5] rfl (s_Ct_compare_104 hD k3 hk3 k41 hk41 a0 a1 a2 x3 x4 x5 w r h)
    · rw [if_neg c76] at h
      refine rn_icmp_ge_f i26_76 c76 ?_
      refine fr_aload_n i26_79 rfl ?_
      obtain ⟨v80, h80, h⟩ := Option.bind_eq_some_iff.mp h
      refine fr_gR (k := 0) i26_80 tf1_0 h80 ?_
      refine rn_iload i26_83 rfl ?_
      obtain ⟨v85, h85, h⟩ := Option.bind_eq_some_iff.mp h
      refine rn_aald i26_85 h85 ?_
      refine rn_iload i26_86 rfl ?_
      refine rn_dup2 i26_88 rfl rfl ?_
      obtain ⟨v89, h89, h⟩ := Option.bind_eq_some_iff.mp h
      refine rn_iald i26_89 h89 ?_
      refine fr_aload_n i26_90 rfl ?_
      refine rn_iload i26_91 rfl ?_
      obtain ⟨r93, h93, h⟩ := Option.bind_eq_some_iff.mp h
      obtain ⟨g93, c93⟩ := S_Wi_toldBy a1 x6 w r93 h93
      refine fr_callV (a := a1) (As := [.inl x6]) (st := [.inl v89, .inl x6, .inr (.inr v85)]) i26_93 (cq100 a1 x6) rfl (Nat.le_of_ble_eq_true rfl) g93 (c93 _ (by omega)) ?_
      show Rn _ _ _ _ _ _ [.inl r93.1, .inl v89, .inl x6, .inr (.inr v85)] _ _ _
      refine rn_iadd i26_96 ?_
      obtain ⟨w97, h97, h⟩ := Option.bind_eq_some_iff.mp h
      refine rn_iast i26_97 h97 ?_
      refine rn_iinc (ls1 := [(6, .inl (w32 (x6 + 1))), (0, .inr (.inr a0)), (1, .inr (.inr a1)), (2, .inr (.inr a2)), (3, .inl x3), (4, .inl x4), (5, .inl x5)]) i26_98 rfl rfl ?_
      refine rn_goto i26_101 ?_
      exact rn_sub [1, 2, 3, 4, 5, 6, 0] rfl (ih a0 a1 a2 x3 x4 x5 (w32 (x6 + 1)) w97 r h)
def Ct_compare_110 (k3 : Nat → Nat → Nat → Int → Int → Wd → Option (Wd)) (a0 : Nat) (a1 : Nat) (a2 : Nat) (x3 : Int) (x4 : Int) (w : Wd) : Option (Wd) :=
  k3 a0 a1 a2 x3 (w32 (x4 + 1)) w
theorem s_Ct_compare_110 {g : Gp} {l : Launch} {D : Nat} (hD : 3 ≤ D) (k3 : Nat → Nat → Nat → Int → Int → Wd → Option (Wd)) (hk3 : ∀ (a0 : Nat) (a1 : Nat) (a2 : Nat) (x3 : Int) (x4 : Int) (w : Wd) (r : Wd), k3 a0 a1 a2 x3 x4 w = some r → Rn g l D 26 3 [(0, .inr (.inr a0)), (1, .inr (.inr a1)), (2, .inr (.inr a2)), (3, .inl x3), (4, .inl x4)] [] w none r) (a0 : Nat) (a1 : Nat) (a2 : Nat) (x3 : Int) (x4 : Int) (w : Wd) (r : Wd) (h : Ct_compare_110 k3 a0 a1 a2 x3 x4 w = some r) : Rn g l D 26 110 [(0, .inr (.inr a0)), (1, .inr (.inr a1)), (2, .inr (.inr a2)), (3, .inl x3), (4, .inl x4)] [] w none r := by
  unfold Ct_compare_110 at h
  refine rn_iinc (ls1 := [(4, .inl (w32 (x4 + 1))), (0, .inr (.inr a0)), (1, .inr (.inr a1)), (2, .inr (.inr a2)), (3, .inl x3)]) i26_110 rfl rfl ?_
  refine rn_goto i26_113 ?_
  exact rn_sub [1, 2, 3, 4, 0] rfl (hk3 a0 a1 a2 x3 (w32 (x4 + 1)) w r h)
def Ct_compare_41 (k3 : Nat → Nat → Nat → Int → Int → Wd → Option (Wd)) : Nat → Nat → Nat → Nat → Int → Int → Int → Wd → Option (Wd)
  | 0, _, _, _, _, _, _, _ => none
  | n + 1, a0, a1, a2, x3, x4, x5, w =>
    (fgI w a1 10 0).bind fun v44 =>
    if (v44 : Int) ≤ x5 then
      Ct_compare_110 k3 a0 a1 a2 x3 x4 w
    else
      (Ct_written a1 a2 x3 x4 x5 w).bind fun r61 =>
      (Wi_showMasters a1 a2 x5 (r61.1) r61.2).bind fun r64 =>
      Ct_compare_70 k3 (Ct_compare_41 k3 n) FU a0 a1 a2 x3 x4 x5 0 r64
theorem s_Ct_compare_41 {g : Gp} {l : Launch} {D : Nat} (hD : 3 ≤ D) (k3 : Nat → Nat → Nat → Int → Int → Wd → Option (Wd)) (hk3 : ∀ (a0 : Nat) (a1 : Nat) (a2 : Nat) (x3 : Int) (x4 : Int) (w : Wd) (r : Wd), k3 a0 a1 a2 x3 x4 w = some r → Rn g l D 26 3 [(0, .inr (.inr a0)), (1, .inr (.inr a1)), (2, .inr (.inr a2)), (3, .inl x3), (4, .inl x4)] [] w none r) : ∀ (n : Nat) (a0 : Nat) (a1 : Nat) (a2 : Nat) (x3 : Int) (x4 : Int) (x5 : Int) (w : Wd) (r : Wd), Ct_compare_41 k3 n a0 a1 a2 x3 x4 x5 w = some r → Rn g l D 26 41 [(0, .inr (.inr a0)), (1, .inr (.inr a1)), (2, .inr (.inr a2)), (3, .inl x3), (4, .inl x4), (5, .inl x5)] [] w none r := by
  obtain ⟨D, rfl⟩ : ∃ D1, D = D1 + 1 := ⟨D - 1, by omega⟩
  intro n
  induction n with
  | zero => intro a0 a1 a2 x3 x4 x5 w r h; cases (show (none : Option (Wd)) = some r from h)
  | succ n ih =>
    intro a0 a1 a2 x3 x4 x5 w r h
    unfold Ct_compare_41 at h
    refine rn_iload i26_41 rfl ?_
    refine fr_aload_n i26_43 rfl ?_
    obtain ⟨v44, h44, h⟩ := Option.bind_eq_some_iff.mp h
    refine fr_gI (k := 0) i26_44 tf10_0 h44 ?_
    by_cases c47 : (v44 : Int) ≤ x5
    · rw [if_pos c47] at h
      refine rn_icmp_ge_t i26_47 c47 ?_
      exact rn_sub [0, 1, 2, 3, 4] rfl (s_Ct_compare_110 hD k3 hk3 a0 a1 a2 x3 x4 w r h)
    · rw [if_neg c47] at h
      refine rn_icmp_ge_f i26_47 c47 ?_
      refine fr_aload_n i26_50 rfl ?_
      refine fr_aload_n i26_51 rfl ?_
      refine rn_iload i26_52 rfl ?_
      refine fr_aload_n i26_54 rfl ?_
      refine fr_aload_n i26_55 rfl ?_
      refine rn_iload_n i26_56 rfl ?_
      refine rn_iload i26_57 rfl ?_
      refine rn_iload i26_59 rfl ?_
      obtain ⟨r61, h61, h⟩ := Option.bind_eq_some_iff.mp h
      refine fr_callS (nst := 0) (As := [.inr (.inr a1), .inr (.inr a2), .inl x3, .inl x4, .inl x5]) (st := [.inl x5, .inr (.inr a2), .inr (.inr a1)]) i26_61 (cq25 a1 a2 x3 x4 x5) rfl (Nat.le_of_ble_eq_true rfl) (S_Ct_written a1 a2 x3 x4 x5 w r61 h61 _ (by omega)) ?_
      show Rn _ _ _ _ _ _ [.inl r61.1, .inl x5, .inr (.inr a2), .inr (.inr a1)] _ _ _
      obtain ⟨r64, h64, h⟩ := Option.bind_eq_some_iff.mp h
      obtain ⟨g64, c64⟩ := S_Wi_showMasters a1 a2 x5 (r61.1) r61.2 r64 h64
      refine fr_callV (a := a1) (As := [.inr (.inr a2), .inl x5, .inl r61.1]) (st := []) i26_64 (cq99 a1 a2 x5 (r61.1)) rfl (Nat.le_of_ble_eq_true rfl) g64 (c64 _ (by omega)) ?_
      refine rn_iconst i26_67 ?_
      refine rn_istore (ls1 := [(6, .inl 0), (0, .inr (.inr a0)), (1, .inr (.inr a1)), (2, .inr (.inr a2)), (3, .inl x3), (4, .inl x4), (5, .inl x5)]) i26_68 rfl ?_
      exact rn_sub [1, 2, 3, 4, 5, 6, 0] rfl (s_Ct_compare_70 hD k3 hk3 (Ct_compare_41 k3 n) ih FU a0 a1 a2 x3 x4 x5 0 r64 r h)
def Ct_compare_38 (k3 : Nat → Nat → Nat → Int → Int → Wd → Option (Wd)) (a0 : Nat) (a1 : Nat) (a2 : Nat) (x3 : Int) (x4 : Int) (w : Wd) : Option (Wd) :=
  Ct_compare_41 k3 FU a0 a1 a2 x3 x4 0 w
theorem s_Ct_compare_38 {g : Gp} {l : Launch} {D : Nat} (hD : 3 ≤ D) (k3 : Nat → Nat → Nat → Int → Int → Wd → Option (Wd)) (hk3 : ∀ (a0 : Nat) (a1 : Nat) (a2 : Nat) (x3 : Int) (x4 : Int) (w : Wd) (r : Wd), k3 a0 a1 a2 x3 x4 w = some r → Rn g l D 26 3 [(0, .inr (.inr a0)), (1, .inr (.inr a1)), (2, .inr (.inr a2)), (3, .inl x3), (4, .inl x4)] [] w none r) (a0 : Nat) (a1 : Nat) (a2 : Nat) (x3 : Int) (x4 : Int) (w : Wd) (r : Wd) (h : Ct_compare_38 k3 a0 a1 a2 x3 x4 w = some r) : Rn g l D 26 38 [(0, .inr (.inr a0)), (1, .inr (.inr a1)), (2, .inr (.inr a2)), (3, .inl x3), (4, .inl x4)] [] w none r := by
  unfold Ct_compare_38 at h
  refine rn_iconst i26_38 ?_
  refine rn_istore (ls1 := [(5, .inl 0), (0, .inr (.inr a0)), (1, .inr (.inr a1)), (2, .inr (.inr a2)), (3, .inl x3), (4, .inl x4)]) i26_39 rfl ?_
  exact rn_sub [1, 2, 3, 4, 5, 0] rfl (s_Ct_compare_41 hD k3 hk3 FU a0 a1 a2 x3 x4 0 w r h)
def Ct_compare_15 (k3 : Nat → Nat → Nat → Int → Int → Wd → Option (Wd)) : Nat → Nat → Nat → Nat → Int → Int → Int → Wd → Option (Wd)
  | 0, _, _, _, _, _, _, _ => none
  | n + 1, a0, a1, a2, x3, x4, x5, w =>
    if (3 : Int) ≤ x5 then
      Ct_compare_38 k3 a0 a1 a2 x3 x4 w
    else
      (fgR w a0 1 0).bind fun v22 =>
      (rdR w v22 x4).bind fun v27 =>
      (wrI w v27 x5 0).bind fun w31 =>
      Ct_compare_15 k3 n a0 a1 a2 x3 x4 (w32 (x5 + 1)) w31
theorem s_Ct_compare_15 {g : Gp} {l : Launch} {D : Nat} (hD : 3 ≤ D) (k3 : Nat → Nat → Nat → Int → Int → Wd → Option (Wd)) (hk3 : ∀ (a0 : Nat) (a1 : Nat) (a2 : Nat) (x3 : Int) (x4 : Int) (w : Wd) (r : Wd), k3 a0 a1 a2 x3 x4 w = some r → Rn g l D 26 3 [(0, .inr (.inr a0)), (1, .inr (.inr a1)), (2, .inr (.inr a2)), (3, .inl x3), (4, .inl x4)] [] w none r) : ∀ (n : Nat) (a0 : Nat) (a1 : Nat) (a2 : Nat) (x3 : Int) (x4 : Int) (x5 : Int) (w : Wd) (r : Wd), Ct_compare_15 k3 n a0 a1 a2 x3 x4 x5 w = some r → Rn g l D 26 15 [(0, .inr (.inr a0)), (1, .inr (.inr a1)), (2, .inr (.inr a2)), (3, .inl x3), (4, .inl x4), (5, .inl x5)] [] w none r := by
  intro n
  induction n with
  | zero => intro a0 a1 a2 x3 x4 x5 w r h; cases (show (none : Option (Wd)) = some r from h)
  | succ n ih =>
    intro a0 a1 a2 x3 x4 x5 w r h
    unfold Ct_compare_15 at h
    refine rn_iload i26_15 rfl ?_
    refine rn_iconst i26_17 ?_
    by_cases c18 : (3 : Int) ≤ x5
    · rw [if_pos c18] at h
      refine rn_icmp_ge_t i26_18 c18 ?_
      exact rn_sub [0, 1, 2, 3, 4] rfl (s_Ct_compare_38 hD k3 hk3 a0 a1 a2 x3 x4 w r h)
    · rw [if_neg c18] at h
      refine rn_icmp_ge_f i26_18 c18 ?_
      refine fr_aload_n i26_21 rfl ?_
      obtain ⟨v22, h22, h⟩ := Option.bind_eq_some_iff.mp h
      refine fr_gR (k := 0) i26_22 tf1_0 h22 ?_
      refine rn_iload i26_25 rfl ?_
      obtain ⟨v27, h27, h⟩ := Option.bind_eq_some_iff.mp h
      refine rn_aald i26_27 h27 ?_
      refine rn_iload i26_28 rfl ?_
      refine rn_iconst i26_30 ?_
      obtain ⟨w31, h31, h⟩ := Option.bind_eq_some_iff.mp h
      refine rn_iast i26_31 h31 ?_
      refine rn_iinc (ls1 := [(5, .inl (w32 (x5 + 1))), (0, .inr (.inr a0)), (1, .inr (.inr a1)), (2, .inr (.inr a2)), (3, .inl x3), (4, .inl x4)]) i26_32 rfl rfl ?_
      refine rn_goto i26_35 ?_
      exact rn_sub [1, 2, 3, 4, 5, 0] rfl (ih a0 a1 a2 x3 x4 (w32 (x5 + 1)) w31 r h)
def Ct_compare_3 : Nat → Nat → Nat → Nat → Int → Int → Wd → Option (Wd)
  | 0, _, _, _, _, _, _ => none
  | n + 1, a0, a1, a2, x3, x4, w =>
    (fgI w a1 10 1).bind fun v6 =>
    if (v6 : Int) ≤ x4 then
      some w
    else
      Ct_compare_15 (Ct_compare_3 n) FU a0 a1 a2 x3 x4 0 w
theorem s_Ct_compare_3 {g : Gp} {l : Launch} {D : Nat} (hD : 3 ≤ D) : ∀ (n : Nat) (a0 : Nat) (a1 : Nat) (a2 : Nat) (x3 : Int) (x4 : Int) (w : Wd) (r : Wd), Ct_compare_3 n a0 a1 a2 x3 x4 w = some r → Rn g l D 26 3 [(0, .inr (.inr a0)), (1, .inr (.inr a1)), (2, .inr (.inr a2)), (3, .inl x3), (4, .inl x4)] [] w none r := by
  intro n
  induction n with
  | zero => intro a0 a1 a2 x3 x4 w r h; cases (show (none : Option (Wd)) = some r from h)
  | succ n ih =>
    intro a0 a1 a2 x3 x4 w r h
    unfold Ct_compare_3 at h
    refine rn_iload i26_3 rfl ?_
    refine fr_aload_n i26_5 rfl ?_
    obtain ⟨v6, h6, h⟩ := Option.bind_eq_some_iff.mp h
    refine fr_gI (k := 1) i26_6 tf10_1 h6 ?_
    by_cases c9 : (v6 : Int) ≤ x4
    · rw [if_pos c9] at h
      refine rn_icmp_ge_t i26_9 c9 ?_
      obtain rfl := Option.some.inj h
      exact rn_ret i26_116 mr26
    · rw [if_neg c9] at h
      refine rn_icmp_ge_f i26_9 c9 ?_
      refine rn_iconst i26_12 ?_
      refine rn_istore (ls1 := [(5, .inl 0), (0, .inr (.inr a0)), (1, .inr (.inr a1)), (2, .inr (.inr a2)), (3, .inl x3), (4, .inl x4)]) i26_13 rfl ?_
      exact rn_sub [1, 2, 3, 4, 5, 0] rfl (s_Ct_compare_15 hD (Ct_compare_3 n) ih FU a0 a1 a2 x3 x4 0 w r h)
def Ct_compare_0 (a0 : Nat) (a1 : Nat) (a2 : Nat) (x3 : Int) (w : Wd) : Option (Wd) :=
  Ct_compare_3 FU a0 a1 a2 x3 0 w
theorem s_Ct_compare_0 {g : Gp} {l : Launch} {D : Nat} (hD : 3 ≤ D) (a0 : Nat) (a1 : Nat) (a2 : Nat) (x3 : Int) (w : Wd) (r : Wd) (h : Ct_compare_0 a0 a1 a2 x3 w = some r) : Rn g l D 26 0 [(0, .inr (.inr a0)), (1, .inr (.inr a1)), (2, .inr (.inr a2)), (3, .inl x3)] [] w none r := by
  unfold Ct_compare_0 at h
  refine rn_iconst i26_0 ?_
  refine rn_istore (ls1 := [(4, .inl 0), (0, .inr (.inr a0)), (1, .inr (.inr a1)), (2, .inr (.inr a2)), (3, .inl x3)]) i26_1 rfl ?_
  exact rn_sub [1, 2, 3, 4, 0] rfl (s_Ct_compare_3 hD FU a0 a1 a2 x3 0 w r h)
/-- HandHeirs$Court.compare(LHandHeirs$Will;LHandHeirs$State;I)V -/
def Ct_compare (a0 : Nat) (a1 : Nat) (a2 : Nat) (x3 : Int) (w : Wd) : Option (Wd) := gd 1 w a0 (Ct_compare_0 a0 a1 a2 x3 w)
theorem S_Ct_compare {g : Gp} {l : Launch} (a0 : Nat) (a1 : Nat) (a2 : Nat) (x3 : Int) (w : Wd) (r : Wd) (h : Ct_compare a0 a1 a2 x3 w = some r) : (wsh w a0).1 = 1 ∧ ∀ D, 3 ≤ D → Rn g l D 26 0 [(0, .inr (.inr a0)), (1, .inr (.inr a1)), (2, .inr (.inr a2)), (3, .inl x3)] [] w none r := by
  obtain ⟨hg, h⟩ := gd_some h
  exact ⟨hg, fun D hD => rn_sub [0, 1, 2, 3] rfl (s_Ct_compare_0 hD a0 a1 a2 x3 w r h)⟩
def Ct_sum_35 (k6 : Nat → Nat → Int → Int → Int → Int → Wd → Option (Int × Wd)) (a0 : Nat) (a1 : Nat) (x2 : Int) (x3 : Int) (x4 : Int) (x5 : Int) (w : Wd) : Option (Int × Wd) :=
  k6 a0 a1 x2 x3 x4 (w32 (x5 + 1)) w
theorem s_Ct_sum_35 {g : Gp} {l : Launch} {D : Nat} (hD : 0 ≤ D) (k6 : Nat → Nat → Int → Int → Int → Int → Wd → Option (Int × Wd)) (hk6 : ∀ (a0 : Nat) (a1 : Nat) (x2 : Int) (x3 : Int) (x4 : Int) (x5 : Int) (w : Wd) (r : Int × Wd), k6 a0 a1 x2 x3 x4 x5 w = some r → Rn g l D 27 6 [(0, .inr (.inr a0)), (1, .inr (.inr a1)), (2, .inl x2), (3, .inl x3), (4, .inl x4), (5, .inl x5)] [] w (some (.inl r.1)) r.2) (a0 : Nat) (a1 : Nat) (x2 : Int) (x3 : Int) (x4 : Int) (x5 : Int) (w : Wd) (r : Int × Wd) (h : Ct_sum_35 k6 a0 a1 x2 x3 x4 x5 w = some r) : Rn g l D 27 35 [(0, .inr (.inr a0)), (1, .inr (.inr a1)), (2, .inl x2), (3, .inl x3), (4, .inl x4), (5, .inl x5)] [] w (some (.inl r.1)) r.2 := by
  unfold Ct_sum_35 at h
  refine rn_iinc (ls1 := [(5, .inl (w32 (x5 + 1))), (0, .inr (.inr a0)), (1, .inr (.inr a1)), (2, .inl x2), (3, .inl x3), (4, .inl x4)]) i27_35 rfl rfl ?_
  refine rn_goto i27_38 ?_
  exact rn_sub [1, 2, 3, 4, 5, 0] rfl (hk6 a0 a1 x2 x3 x4 (w32 (x5 + 1)) w r h)
def Ct_sum_6 : Nat → Nat → Nat → Int → Int → Int → Int → Wd → Option (Int × Wd)
  | 0, _, _, _, _, _, _, _ => none
  | n + 1, a0, a1, x2, x3, x4, x5, w =>
    (fgI w a1 10 2).bind fun v9 =>
    if (v9 : Int) ≤ x5 then
      some (x4, w)
    else
      if (x5 : Int) = x3 then
        Ct_sum_35 (Ct_sum_6 n) a0 a1 x2 x3 x4 x5 w
      else
        (fgR w a0 1 0).bind fun v24 =>
        (rdR w v24 x2).bind fun v28 =>
        (rdI w v28 x5).bind fun v31 =>
        Ct_sum_35 (Ct_sum_6 n) a0 a1 x2 x3 (w32 (x4 + v31)) x5 w
theorem s_Ct_sum_6 {g : Gp} {l : Launch} {D : Nat} (hD : 0 ≤ D) : ∀ (n : Nat) (a0 : Nat) (a1 : Nat) (x2 : Int) (x3 : Int) (x4 : Int) (x5 : Int) (w : Wd) (r : Int × Wd), Ct_sum_6 n a0 a1 x2 x3 x4 x5 w = some r → Rn g l D 27 6 [(0, .inr (.inr a0)), (1, .inr (.inr a1)), (2, .inl x2), (3, .inl x3), (4, .inl x4), (5, .inl x5)] [] w (some (.inl r.1)) r.2 := by
  intro n
  induction n with
  | zero => intro a0 a1 x2 x3 x4 x5 w r h; cases (show (none : Option (Int × Wd)) = some r from h)
  | succ n ih =>
    intro a0 a1 x2 x3 x4 x5 w r h
    unfold Ct_sum_6 at h
    refine rn_iload i27_6 rfl ?_
    refine fr_aload_n i27_8 rfl ?_
    obtain ⟨v9, h9, h⟩ := Option.bind_eq_some_iff.mp h
    refine fr_gI (k := 2) i27_9 tf10_2 h9 ?_
    by_cases c12 : (v9 : Int) ≤ x5
    · rw [if_pos c12] at h
      refine rn_icmp_ge_t i27_12 c12 ?_
      refine rn_iload i27_41 rfl ?_
      obtain rfl := Option.some.inj h
      exact rn_retI i27_43 mr27
    · rw [if_neg c12] at h
      refine rn_icmp_ge_f i27_12 c12 ?_
      refine rn_iload i27_15 rfl ?_
      refine rn_iload_n i27_17 rfl ?_
      by_cases c18 : (x5 : Int) = x3
      · rw [if_pos c18] at h
        refine rn_icmp_eq_t i27_18 c18 ?_
        exact rn_sub [0, 1, 2, 3, 4, 5] rfl (s_Ct_sum_35 hD (Ct_sum_6 n) ih a0 a1 x2 x3 x4 x5 w r h)
      · rw [if_neg c18] at h
        refine rn_icmp_eq_f i27_18 c18 ?_
        refine rn_iload i27_21 rfl ?_
        refine fr_aload_n i27_23 rfl ?_
        obtain ⟨v24, h24, h⟩ := Option.bind_eq_some_iff.mp h
        refine fr_gR (k := 0) i27_24 tf1_0 h24 ?_
        refine rn_iload_n i27_27 rfl ?_
        obtain ⟨v28, h28, h⟩ := Option.bind_eq_some_iff.mp h
        refine rn_aald i27_28 h28 ?_
        refine rn_iload i27_29 rfl ?_
        obtain ⟨v31, h31, h⟩ := Option.bind_eq_some_iff.mp h
        refine rn_iald i27_31 h31 ?_
        refine rn_iadd i27_32 ?_
        refine rn_istore (ls1 := [(4, .inl (w32 (x4 + v31))), (0, .inr (.inr a0)), (1, .inr (.inr a1)), (2, .inl x2), (3, .inl x3), (5, .inl x5)]) i27_33 rfl ?_
        exact rn_sub [1, 2, 3, 4, 0, 5] rfl (s_Ct_sum_35 hD (Ct_sum_6 n) ih a0 a1 x2 x3 (w32 (x4 + v31)) x5 w r h)
def Ct_sum_0 (a0 : Nat) (a1 : Nat) (x2 : Int) (x3 : Int) (w : Wd) : Option (Int × Wd) :=
  Ct_sum_6 FU a0 a1 x2 x3 0 0 w
theorem s_Ct_sum_0 {g : Gp} {l : Launch} {D : Nat} (hD : 0 ≤ D) (a0 : Nat) (a1 : Nat) (x2 : Int) (x3 : Int) (w : Wd) (r : Int × Wd) (h : Ct_sum_0 a0 a1 x2 x3 w = some r) : Rn g l D 27 0 [(0, .inr (.inr a0)), (1, .inr (.inr a1)), (2, .inl x2), (3, .inl x3)] [] w (some (.inl r.1)) r.2 := by
  unfold Ct_sum_0 at h
  refine rn_iconst i27_0 ?_
  refine rn_istore (ls1 := [(4, .inl 0), (0, .inr (.inr a0)), (1, .inr (.inr a1)), (2, .inl x2), (3, .inl x3)]) i27_1 rfl ?_
  refine rn_iconst i27_3 ?_
  refine rn_istore (ls1 := [(5, .inl 0), (4, .inl 0), (0, .inr (.inr a0)), (1, .inr (.inr a1)), (2, .inl x2), (3, .inl x3)]) i27_4 rfl ?_
  exact rn_sub [2, 3, 4, 5, 1, 0] rfl (s_Ct_sum_6 hD FU a0 a1 x2 x3 0 0 w r h)
/-- HandHeirs$Court.sum(LHandHeirs$Will;II)I -/
def Ct_sum (a0 : Nat) (a1 : Nat) (x2 : Int) (x3 : Int) (w : Wd) : Option (Int × Wd) := gd 1 w a0 (Ct_sum_0 a0 a1 x2 x3 w)
theorem S_Ct_sum {g : Gp} {l : Launch} (a0 : Nat) (a1 : Nat) (x2 : Int) (x3 : Int) (w : Wd) (r : Int × Wd) (h : Ct_sum a0 a1 x2 x3 w = some r) : (wsh w a0).1 = 1 ∧ ∀ D, 0 ≤ D → Rn g l D 27 0 [(0, .inr (.inr a0)), (1, .inr (.inr a1)), (2, .inl x2), (3, .inl x3)] [] w (some (.inl r.1)) r.2 := by
  obtain ⟨hg, h⟩ := gd_some h
  exact ⟨hg, fun D hD => rn_sub [0, 1, 2, 3] rfl (s_Ct_sum_0 hD a0 a1 x2 x3 w r h)⟩
def Ct_choice_52 (k7 : Nat → Nat → Int → Int → Int → Int → Wd → Option (Int × Wd)) (a0 : Nat) (a1 : Nat) (x2 : Int) (x3 : Int) (x4 : Int) (x5 : Int) (w : Wd) : Option (Int × Wd) :=
  k7 a0 a1 x2 x3 x4 (w32 (x5 + 1)) w
theorem s_Ct_choice_52 {g : Gp} {l : Launch} {D : Nat} (hD : 0 ≤ D) (k7 : Nat → Nat → Int → Int → Int → Int → Wd → Option (Int × Wd)) (hk7 : ∀ (a0 : Nat) (a1 : Nat) (x2 : Int) (x3 : Int) (x4 : Int) (x5 : Int) (w : Wd) (r : Int × Wd), k7 a0 a1 x2 x3 x4 x5 w = some r → Rn g l D 28 7 [(0, .inr (.inr a0)), (1, .inr (.inr a1)), (2, .inl x2), (3, .inl x3), (4, .inl x4), (5, .inl x5)] [] w (some (.inl r.1)) r.2) (a0 : Nat) (a1 : Nat) (x2 : Int) (x3 : Int) (x4 : Int) (x5 : Int) (w : Wd) (r : Int × Wd) (h : Ct_choice_52 k7 a0 a1 x2 x3 x4 x5 w = some r) : Rn g l D 28 52 [(0, .inr (.inr a0)), (1, .inr (.inr a1)), (2, .inl x2), (3, .inl x3), (4, .inl x4), (5, .inl x5)] [] w (some (.inl r.1)) r.2 := by
  unfold Ct_choice_52 at h
  refine rn_iinc (ls1 := [(5, .inl (w32 (x5 + 1))), (0, .inr (.inr a0)), (1, .inr (.inr a1)), (2, .inl x2), (3, .inl x3), (4, .inl x4)]) i28_52 rfl rfl ?_
  refine rn_goto i28_55 ?_
  exact rn_sub [1, 2, 3, 4, 5, 0] rfl (hk7 a0 a1 x2 x3 x4 (w32 (x5 + 1)) w r h)
def Ct_choice_48 (k7 : Nat → Nat → Int → Int → Int → Int → Wd → Option (Int × Wd)) (a0 : Nat) (a1 : Nat) (x2 : Int) (x3 : Int) (x5 : Int) (w : Wd) : Option (Int × Wd) :=
  Ct_choice_52 k7 a0 a1 x2 x3 x5 x5 w
theorem s_Ct_choice_48 {g : Gp} {l : Launch} {D : Nat} (hD : 0 ≤ D) (k7 : Nat → Nat → Int → Int → Int → Int → Wd → Option (Int × Wd)) (hk7 : ∀ (a0 : Nat) (a1 : Nat) (x2 : Int) (x3 : Int) (x4 : Int) (x5 : Int) (w : Wd) (r : Int × Wd), k7 a0 a1 x2 x3 x4 x5 w = some r → Rn g l D 28 7 [(0, .inr (.inr a0)), (1, .inr (.inr a1)), (2, .inl x2), (3, .inl x3), (4, .inl x4), (5, .inl x5)] [] w (some (.inl r.1)) r.2) (a0 : Nat) (a1 : Nat) (x2 : Int) (x3 : Int) (x5 : Int) (w : Wd) (r : Int × Wd) (h : Ct_choice_48 k7 a0 a1 x2 x3 x5 w = some r) : Rn g l D 28 48 [(0, .inr (.inr a0)), (1, .inr (.inr a1)), (2, .inl x2), (3, .inl x3), (5, .inl x5)] [] w (some (.inl r.1)) r.2 := by
  unfold Ct_choice_48 at h
  refine rn_iload i28_48 rfl ?_
  refine rn_istore (ls1 := [(4, .inl x5), (0, .inr (.inr a0)), (1, .inr (.inr a1)), (2, .inl x2), (3, .inl x3), (5, .inl x5)]) i28_50 rfl ?_
  exact rn_sub [1, 2, 3, 4, 0, 5] rfl (s_Ct_choice_52 hD k7 hk7 a0 a1 x2 x3 x5 x5 w r h)
def Ct_choice_7 : Nat → Nat → Nat → Int → Int → Int → Int → Wd → Option (Int × Wd)
  | 0, _, _, _, _, _, _, _ => none
  | n + 1, a0, a1, x2, x3, x4, x5, w =>
    (fgI w a1 10 1).bind fun v10 =>
    if (v10 : Int) ≤ x5 then
      some (x4, w)
    else
      if (x5 : Int) = x3 then
        Ct_choice_52 (Ct_choice_7 n) a0 a1 x2 x3 x4 x5 w
      else
        if (x4 : Int) < 0 then
          Ct_choice_48 (Ct_choice_7 n) a0 a1 x2 x3 x5 w
        else
          (fgR w a0 1 0).bind fun v28 =>
          (rdR w v28 x5).bind fun v33 =>
          (rdI w v33 x2).bind fun v35 =>
          (fgR w a0 1 0).bind fun v37 =>
          (rdR w v37 x4).bind fun v42 =>
          (rdI w v42 x2).bind fun v44 =>
          if (v44 : Int) ≤ v35 then
            Ct_choice_52 (Ct_choice_7 n) a0 a1 x2 x3 x4 x5 w
          else
            Ct_choice_48 (Ct_choice_7 n) a0 a1 x2 x3 x5 w
theorem s_Ct_choice_7 {g : Gp} {l : Launch} {D : Nat} (hD : 0 ≤ D) : ∀ (n : Nat) (a0 : Nat) (a1 : Nat) (x2 : Int) (x3 : Int) (x4 : Int) (x5 : Int) (w : Wd) (r : Int × Wd), Ct_choice_7 n a0 a1 x2 x3 x4 x5 w = some r → Rn g l D 28 7 [(0, .inr (.inr a0)), (1, .inr (.inr a1)), (2, .inl x2), (3, .inl x3), (4, .inl x4), (5, .inl x5)] [] w (some (.inl r.1)) r.2 := by
  intro n
  induction n with
  | zero => intro a0 a1 x2 x3 x4 x5 w r h; cases (show (none : Option (Int × Wd)) = some r from h)
  | succ n ih =>
    intro a0 a1 x2 x3 x4 x5 w r h
    unfold Ct_choice_7 at h
    refine rn_iload i28_7 rfl ?_
    refine fr_aload_n i28_9 rfl ?_
    obtain ⟨v10, h10, h⟩ := Option.bind_eq_some_iff.mp h
    refine fr_gI (k := 1) i28_10 tf10_1 h10 ?_
    by_cases c13 : (v10 : Int) ≤ x5
    · rw [if_pos c13] at h
      refine rn_icmp_ge_t i28_13 c13 ?_
      refine rn_iload i28_58 rfl ?_
      obtain rfl := Option.some.inj h
      exact rn_retI i28_60 mr28
    · rw [if_neg c13] at h
      refine rn_icmp_ge_f i28_13 c13 ?_
      refine rn_iload i28_16 rfl ?_
      refine rn_iload_n i28_18 rfl ?_
      by_cases c19 : (x5 : Int) = x3
      · rw [if_pos c19] at h
        refine rn_icmp_eq_t i28_19 c19 ?_
        exact rn_sub [0, 1, 2, 3, 4, 5] rfl (s_Ct_choice_52 hD (Ct_choice_7 n) ih a0 a1 x2 x3 x4 x5 w r h)
      · rw [if_neg c19] at h
        refine rn_icmp_eq_f i28_19 c19 ?_
        refine rn_iload i28_22 rfl ?_
        by_cases c24 : (x4 : Int) < 0
        · rw [if_pos c24] at h
          refine rn_if_lt_t i28_24 c24 ?_
          exact rn_sub [0, 1, 2, 3, 5] rfl (s_Ct_choice_48 hD (Ct_choice_7 n) ih a0 a1 x2 x3 x5 w r h)
        · rw [if_neg c24] at h
          refine rn_if_lt_f i28_24 c24 ?_
          refine fr_aload_n i28_27 rfl ?_
          obtain ⟨v28, h28, h⟩ := Option.bind_eq_some_iff.mp h
          refine fr_gR (k := 0) i28_28 tf1_0 h28 ?_
          refine rn_iload i28_31 rfl ?_
          obtain ⟨v33, h33, h⟩ := Option.bind_eq_some_iff.mp h
          refine rn_aald i28_33 h33 ?_
          refine rn_iload_n i28_34 rfl ?_
          obtain ⟨v35, h35, h⟩ := Option.bind_eq_some_iff.mp h
          refine rn_iald i28_35 h35 ?_
          refine fr_aload_n i28_36 rfl ?_
          obtain ⟨v37, h37, h⟩ := Option.bind_eq_some_iff.mp h
          refine fr_gR (k := 0) i28_37 tf1_0 h37 ?_
          refine rn_iload i28_40 rfl ?_
          obtain ⟨v42, h42, h⟩ := Option.bind_eq_some_iff.mp h
          refine rn_aald i28_42 h42 ?_
          refine rn_iload_n i28_43 rfl ?_
          obtain ⟨v44, h44, h⟩ := Option.bind_eq_some_iff.mp h
          refine rn_iald i28_44 h44 ?_
          by_cases c45 : (v44 : Int) ≤ v35
          · rw [if_pos c45] at h
            refine rn_icmp_ge_t i28_45 c45 ?_
            exact rn_sub [0, 1, 2, 3, 4, 5] rfl (s_Ct_choice_52 hD (Ct_choice_7 n) ih a0 a1 x2 x3 x4 x5 w r h)
          · rw [if_neg c45] at h
            refine rn_icmp_ge_f i28_45 c45 ?_
            exact rn_sub [0, 1, 2, 3, 5] rfl (s_Ct_choice_48 hD (Ct_choice_7 n) ih a0 a1 x2 x3 x5 w r h)
def Ct_choice_0 (a0 : Nat) (a1 : Nat) (x2 : Int) (x3 : Int) (w : Wd) : Option (Int × Wd) :=
  Ct_choice_7 FU a0 a1 x2 x3 (-2) 0 w
theorem s_Ct_choice_0 {g : Gp} {l : Launch} {D : Nat} (hD : 0 ≤ D) (a0 : Nat) (a1 : Nat) (x2 : Int) (x3 : Int) (w : Wd) (r : Int × Wd) (h : Ct_choice_0 a0 a1 x2 x3 w = some r) : Rn g l D 28 0 [(0, .inr (.inr a0)), (1, .inr (.inr a1)), (2, .inl x2), (3, .inl x3)] [] w (some (.inl r.1)) r.2 := by
  unfold Ct_choice_0 at h
  refine rn_bipush i28_0 ?_
  refine rn_istore (ls1 := [(4, .inl (-2)), (0, .inr (.inr a0)), (1, .inr (.inr a1)), (2, .inl x2), (3, .inl x3)]) i28_2 rfl ?_
  refine rn_iconst i28_4 ?_
  refine rn_istore (ls1 := [(5, .inl 0), (4, .inl (-2)), (0, .inr (.inr a0)), (1, .inr (.inr a1)), (2, .inl x2), (3, .inl x3)]) i28_5 rfl ?_
  exact rn_sub [2, 3, 4, 5, 1, 0] rfl (s_Ct_choice_7 hD FU a0 a1 x2 x3 (-2) 0 w r h)
/-- HandHeirs$Court.choice(LHandHeirs$Will;II)I -/
def Ct_choice (a0 : Nat) (a1 : Nat) (x2 : Int) (x3 : Int) (w : Wd) : Option (Int × Wd) := gd 1 w a0 (Ct_choice_0 a0 a1 x2 x3 w)
theorem S_Ct_choice {g : Gp} {l : Launch} (a0 : Nat) (a1 : Nat) (x2 : Int) (x3 : Int) (w : Wd) (r : Int × Wd) (h : Ct_choice a0 a1 x2 x3 w = some r) : (wsh w a0).1 = 1 ∧ ∀ D, 0 ≤ D → Rn g l D 28 0 [(0, .inr (.inr a0)), (1, .inr (.inr a1)), (2, .inl x2), (3, .inl x3)] [] w (some (.inl r.1)) r.2 := by
  obtain ⟨hg, h⟩ := gd_some h
  exact ⟨hg, fun D hD => rn_sub [0, 1, 2, 3] rfl (s_Ct_choice_0 hD a0 a1 x2 x3 w r h)⟩
def Ct_isAhead_35 (s0 : Int) (w : Wd) : Option (Int × Wd) :=
  rZ s0 w
theorem s_Ct_isAhead_35 {g : Gp} {l : Launch} {D : Nat} (hD : 1 ≤ D) (s0 : Int) (w : Wd) (r : Int × Wd) (h : Ct_isAhead_35 s0 w = some r) : Rn g l D 30 35 [] [.inl s0] w (some (.inl r.1)) r.2 := by
  unfold Ct_isAhead_35 at h
  exact fr_retZ i30_35 mr30 h
def Ct_isAhead_60 (s0 : Int) (w : Wd) : Option (Int × Wd) :=
  rZ s0 w
theorem s_Ct_isAhead_60 {g : Gp} {l : Launch} {D : Nat} (hD : 1 ≤ D) (s0 : Int) (w : Wd) (r : Int × Wd) (h : Ct_isAhead_60 s0 w = some r) : Rn g l D 30 60 [] [.inl s0] w (some (.inl r.1)) r.2 := by
  unfold Ct_isAhead_60 at h
  exact fr_retZ i30_60 mr30 h
def Ct_isAhead_0 (a0 : Nat) (a1 : Nat) (x2 : Int) (x3 : Int) (x4 : Int) (w : Wd) : Option (Int × Wd) :=
  (fgR w a0 1 2).bind fun v1 =>
  (rdI w v1 x2).bind fun v5 =>
  (fgR w a0 1 2).bind fun v7 =>
  (rdI w v7 x3).bind fun v11 =>
  if (v5 : Int) = v11 then
    (Ct_sum a0 a1 x2 x4 w).bind fun r41 =>
    (Ct_sum a0 a1 x3 x4 r41.2).bind fun r49 =>
    if (r49.1 : Int) ≤ r41.1 then
      Ct_isAhead_60 0 r49.2
    else
      Ct_isAhead_60 1 r49.2
  else
    (fgR w a0 1 2).bind fun v16 =>
    (rdI w v16 x2).bind fun v20 =>
    (fgR w a0 1 2).bind fun v22 =>
    (rdI w v22 x3).bind fun v26 =>
    if (v20 : Int) ≤ v26 then
      Ct_isAhead_35 0 w
    else
      Ct_isAhead_35 1 w
theorem s_Ct_isAhead_0 {g : Gp} {l : Launch} {D : Nat} (hD : 1 ≤ D) (a0 : Nat) (a1 : Nat) (x2 : Int) (x3 : Int) (x4 : Int) (w : Wd) (r : Int × Wd) (h : Ct_isAhead_0 a0 a1 x2 x3 x4 w = some r) : Rn g l D 30 0 [(0, .inr (.inr a0)), (1, .inr (.inr a1)), (2, .inl x2), (3, .inl x3), (4, .inl x4)] [] w (some (.inl r.1)) r.2 := by
  obtain ⟨D, rfl⟩ : ∃ D1, D = D1 + 1 := ⟨D - 1, by omega⟩
  unfold Ct_isAhead_0 at h
  refine fr_aload_n i30_0 rfl ?_
  obtain ⟨v1, h1, h⟩ := Option.bind_eq_some_iff.mp h
  refine fr_gR (k := 2) i30_1 tf1_2 h1 ?_
  refine rn_iload_n i30_4 rfl ?_
  obtain ⟨v5, h5, h⟩ := Option.bind_eq_some_iff.mp h
  refine rn_iald i30_5 h5 ?_
  refine fr_aload_n i30_6 rfl ?_
  obtain ⟨v7, h7, h⟩ := Option.bind_eq_some_iff.mp h
  refine fr_gR (k := 2) i30_7 tf1_2 h7 ?_
  refine rn_iload_n i30_10 rfl ?_
  obtain ⟨v11, h11, h⟩ := Option.bind_eq_some_iff.mp h
  refine rn_iald i30_11 h11 ?_
  by_cases c12 : (v5 : Int) = v11
  · rw [if_pos c12] at h
    refine rn_icmp_eq_t i30_12 c12 ?_
    refine fr_aload_n i30_36 rfl ?_
    refine fr_aload_n i30_37 rfl ?_
    refine rn_iload_n i30_38 rfl ?_
    refine rn_iload i30_39 rfl ?_
    obtain ⟨r41, h41, h⟩ := Option.bind_eq_some_iff.mp h
    obtain ⟨g41, c41⟩ := S_Ct_sum a0 a1 x2 x4 w r41 h41
    refine fr_callV (a := a0) (As := [.inr (.inr a1), .inl x2, .inl x4]) (st := []) i30_41 (cq27 a0 a1 x2 x4) rfl (Nat.le_of_ble_eq_true rfl) g41 (c41 _ (by omega)) ?_
    show Rn _ _ _ _ _ _ [.inl r41.1] _ _ _
    refine fr_aload_n i30_44 rfl ?_
    refine fr_aload_n i30_45 rfl ?_
    refine rn_iload_n i30_46 rfl ?_
    refine rn_iload i30_47 rfl ?_
    obtain ⟨r49, h49, h⟩ := Option.bind_eq_some_iff.mp h
    obtain ⟨g49, c49⟩ := S_Ct_sum a0 a1 x3 x4 r41.2 r49 h49
    refine fr_callV (a := a0) (As := [.inr (.inr a1), .inl x3, .inl x4]) (st := [.inl r41.1]) i30_49 (cq27 a0 a1 x3 x4) rfl (Nat.le_of_ble_eq_true rfl) g49 (c49 _ (by omega)) ?_
    show Rn _ _ _ _ _ _ [.inl r49.1, .inl r41.1] _ _ _
    by_cases c52 : (r49.1 : Int) ≤ r41.1
    · rw [if_pos c52] at h
      refine rn_icmp_ge_t i30_52 c52 ?_
      refine rn_iconst i30_59 ?_
      exact rn_sub [] rfl (s_Ct_isAhead_60 hD 0 r49.2 r h)
    · rw [if_neg c52] at h
      refine rn_icmp_ge_f i30_52 c52 ?_
      refine rn_iconst i30_55 ?_
      refine rn_goto i30_56 ?_
      exact rn_sub [] rfl (s_Ct_isAhead_60 hD 1 r49.2 r h)
  · rw [if_neg c12] at h
    refine rn_icmp_eq_f i30_12 c12 ?_
    refine fr_aload_n i30_15 rfl ?_
    obtain ⟨v16, h16, h⟩ := Option.bind_eq_some_iff.mp h
    refine fr_gR (k := 2) i30_16 tf1_2 h16 ?_
    refine rn_iload_n i30_19 rfl ?_
    obtain ⟨v20, h20, h⟩ := Option.bind_eq_some_iff.mp h
    refine rn_iald i30_20 h20 ?_
    refine fr_aload_n i30_21 rfl ?_
    obtain ⟨v22, h22, h⟩ := Option.bind_eq_some_iff.mp h
    refine fr_gR (k := 2) i30_22 tf1_2 h22 ?_
    refine rn_iload_n i30_25 rfl ?_
    obtain ⟨v26, h26, h⟩ := Option.bind_eq_some_iff.mp h
    refine rn_iald i30_26 h26 ?_
    by_cases c27 : (v20 : Int) ≤ v26
    · rw [if_pos c27] at h
      refine rn_icmp_le_t i30_27 c27 ?_
      refine rn_iconst i30_34 ?_
      exact rn_sub [] rfl (s_Ct_isAhead_35 hD 0 w r h)
    · rw [if_neg c27] at h
      refine rn_icmp_le_f i30_27 c27 ?_
      refine rn_iconst i30_30 ?_
      refine rn_goto i30_31 ?_
      exact rn_sub [] rfl (s_Ct_isAhead_35 hD 1 w r h)
/-- HandHeirs$Court.isAhead(LHandHeirs$Will;III)Z -/
def Ct_isAhead (a0 : Nat) (a1 : Nat) (x2 : Int) (x3 : Int) (x4 : Int) (w : Wd) : Option (Int × Wd) := gd 1 w a0 (Ct_isAhead_0 a0 a1 x2 x3 x4 w)
theorem S_Ct_isAhead {g : Gp} {l : Launch} (a0 : Nat) (a1 : Nat) (x2 : Int) (x3 : Int) (x4 : Int) (w : Wd) (r : Int × Wd) (h : Ct_isAhead a0 a1 x2 x3 x4 w = some r) : (wsh w a0).1 = 1 ∧ ∀ D, 1 ≤ D → Rn g l D 30 0 [(0, .inr (.inr a0)), (1, .inr (.inr a1)), (2, .inl x2), (3, .inl x3), (4, .inl x4)] [] w (some (.inl r.1)) r.2 := by
  obtain ⟨hg, h⟩ := gd_some h
  exact ⟨hg, fun D hD => rn_sub [0, 1, 2, 3, 4] rfl (s_Ct_isAhead_0 hD a0 a1 x2 x3 x4 w r h)⟩
def Ct_award_83 (k27 : Nat → Nat → Int → Int → Int → Wd → Option (Int × Wd)) (a0 : Nat) (a1 : Nat) (x2 : Int) (x3 : Int) (x4 : Int) (w : Wd) : Option (Int × Wd) :=
  k27 a0 a1 x2 x3 (w32 (x4 + 1)) w
theorem s_Ct_award_83 {g : Gp} {l : Launch} {D : Nat} (hD : 2 ≤ D) (k27 : Nat → Nat → Int → Int → Int → Wd → Option (Int × Wd)) (hk27 : ∀ (a0 : Nat) (a1 : Nat) (x2 : Int) (x3 : Int) (x4 : Int) (w : Wd) (r : Int × Wd), k27 a0 a1 x2 x3 x4 w = some r → Rn g l D 29 27 [(0, .inr (.inr a0)), (1, .inr (.inr a1)), (2, .inl x2), (3, .inl x3), (4, .inl x4)] [] w (some (.inl r.1)) r.2) (a0 : Nat) (a1 : Nat) (x2 : Int) (x3 : Int) (x4 : Int) (w : Wd) (r : Int × Wd) (h : Ct_award_83 k27 a0 a1 x2 x3 x4 w = some r) : Rn g l D 29 83 [(0, .inr (.inr a0)), (1, .inr (.inr a1)), (2, .inl x2), (3, .inl x3), (4, .inl x4)] [] w (some (.inl r.1)) r.2 := by
  unfold Ct_award_83 at h
  refine rn_iinc (ls1 := [(4, .inl (w32 (x4 + 1))), (0, .inr (.inr a0)), (1, .inr (.inr a1)), (2, .inl x2), (3, .inl x3)]) i29_83 rfl rfl ?_
  refine rn_goto i29_86 ?_
  exact rn_sub [1, 2, 3, 4, 0] rfl (hk27 a0 a1 x2 x3 (w32 (x4 + 1)) w r h)
def Ct_award_137 (k96 : Nat → Nat → Int → Int → Int → Wd → Option (Int × Wd)) (a0 : Nat) (a1 : Nat) (x3 : Int) (x4 : Int) (x5 : Int) (w : Wd) : Option (Int × Wd) :=
  k96 a0 a1 x3 x4 (w32 (x5 + 1)) w
theorem s_Ct_award_137 {g : Gp} {l : Launch} {D : Nat} (hD : 2 ≤ D) (k96 : Nat → Nat → Int → Int → Int → Wd → Option (Int × Wd)) (hk96 : ∀ (a0 : Nat) (a1 : Nat) (x3 : Int) (x4 : Int) (x5 : Int) (w : Wd) (r : Int × Wd), k96 a0 a1 x3 x4 x5 w = some r → Rn g l D 29 96 [(0, .inr (.inr a0)), (1, .inr (.inr a1)), (3, .inl x3), (4, .inl x4), (5, .inl x5)] [] w (some (.inl r.1)) r.2) (a0 : Nat) (a1 : Nat) (x3 : Int) (x4 : Int) (x5 : Int) (w : Wd) (r : Int × Wd) (h : Ct_award_137 k96 a0 a1 x3 x4 x5 w = some r) : Rn g l D 29 137 [(0, .inr (.inr a0)), (1, .inr (.inr a1)), (3, .inl x3), (4, .inl x4), (5, .inl x5)] [] w (some (.inl r.1)) r.2 := by
  unfold Ct_award_137 at h
  refine rn_iinc (ls1 := [(5, .inl (w32 (x5 + 1))), (0, .inr (.inr a0)), (1, .inr (.inr a1)), (3, .inl x3), (4, .inl x4)]) i29_137 rfl rfl ?_
  refine rn_goto i29_140 ?_
  exact rn_sub [1, 2, 3, 4, 0] rfl (hk96 a0 a1 x3 x4 (w32 (x5 + 1)) w r h)
def Ct_award_133 (k96 : Nat → Nat → Int → Int → Int → Wd → Option (Int × Wd)) (a0 : Nat) (a1 : Nat) (x3 : Int) (x5 : Int) (w : Wd) : Option (Int × Wd) :=
  Ct_award_137 k96 a0 a1 x3 x5 x5 w
theorem s_Ct_award_133 {g : Gp} {l : Launch} {D : Nat} (hD : 2 ≤ D) (k96 : Nat → Nat → Int → Int → Int → Wd → Option (Int × Wd)) (hk96 : ∀ (a0 : Nat) (a1 : Nat) (x3 : Int) (x4 : Int) (x5 : Int) (w : Wd) (r : Int × Wd), k96 a0 a1 x3 x4 x5 w = some r → Rn g l D 29 96 [(0, .inr (.inr a0)), (1, .inr (.inr a1)), (3, .inl x3), (4, .inl x4), (5, .inl x5)] [] w (some (.inl r.1)) r.2) (a0 : Nat) (a1 : Nat) (x3 : Int) (x5 : Int) (w : Wd) (r : Int × Wd) (h : Ct_award_133 k96 a0 a1 x3 x5 w = some r) : Rn g l D 29 133 [(0, .inr (.inr a0)), (1, .inr (.inr a1)), (3, .inl x3), (5, .inl x5)] [] w (some (.inl r.1)) r.2 := by
  unfold Ct_award_133 at h
  refine rn_iload i29_133 rfl ?_
  refine rn_istore (ls1 := [(4, .inl x5), (0, .inr (.inr a0)), (1, .inr (.inr a1)), (3, .inl x3), (5, .inl x5)]) i29_135 rfl ?_
  exact rn_sub [1, 2, 3, 0, 4] rfl (s_Ct_award_137 hD k96 hk96 a0 a1 x3 x5 x5 w r h)
def Ct_award_170 (s0 : Int) (w : Wd) : Option (Int × Wd) :=
  some (s0, w)
theorem s_Ct_award_170 {g : Gp} {l : Launch} {D : Nat} (hD : 2 ≤ D) (s0 : Int) (w : Wd) (r : Int × Wd) (h : Ct_award_170 s0 w = some r) : Rn g l D 29 170 [] [.inl s0] w (some (.inl r.1)) r.2 := by
  unfold Ct_award_170 at h
  obtain rfl := Option.some.inj h
  exact rn_retI i29_170 mr29
def Ct_award_168 (x4 : Int) (w : Wd) : Option (Int × Wd) :=
  Ct_award_170 x4 w
theorem s_Ct_award_168 {g : Gp} {l : Launch} {D : Nat} (hD : 2 ≤ D) (x4 : Int) (w : Wd) (r : Int × Wd) (h : Ct_award_168 x4 w = some r) : Rn g l D 29 168 [(4, .inl x4)] [] w (some (.inl r.1)) r.2 := by
  unfold Ct_award_168 at h
  refine rn_iload i29_168 rfl ?_
  exact rn_sub [] rfl (s_Ct_award_170 hD x4 w r h)
def Ct_award_143 (a0 : Nat) (a1 : Nat) (x3 : Int) (x4 : Int) (w : Wd) : Option (Int × Wd) :=
  if (x4 : Int) < 0 then
    Ct_award_168 x4 w
  else
    (Ct_sum a0 a1 x4 x3 w).bind fun r153 =>
    (fgI r153.2 a1 10 4).bind fun v157 =>
    if (r153.1 : Int) ≤ v157 then
      Ct_award_168 x4 r153.2
    else
      Ct_award_170 (-2) r153.2
theorem s_Ct_award_143 {g : Gp} {l : Launch} {D : Nat} (hD : 2 ≤ D) (a0 : Nat) (a1 : Nat) (x3 : Int) (x4 : Int) (w : Wd) (r : Int × Wd) (h : Ct_award_143 a0 a1 x3 x4 w = some r) : Rn g l D 29 143 [(0, .inr (.inr a0)), (1, .inr (.inr a1)), (3, .inl x3), (4, .inl x4)] [] w (some (.inl r.1)) r.2 := by
  obtain ⟨D, rfl⟩ : ∃ D1, D = D1 + 1 := ⟨D - 1, by omega⟩
  unfold Ct_award_143 at h
  refine rn_iload i29_143 rfl ?_
  by_cases c145 : (x4 : Int) < 0
  · rw [if_pos c145] at h
    refine rn_if_lt_t i29_145 c145 ?_
    exact rn_sub [3] rfl (s_Ct_award_168 hD x4 w r h)
  · rw [if_neg c145] at h
    refine rn_if_lt_f i29_145 c145 ?_
    refine fr_aload_n i29_148 rfl ?_
    refine fr_aload_n i29_149 rfl ?_
    refine rn_iload i29_150 rfl ?_
    refine rn_iload_n i29_152 rfl ?_
    obtain ⟨r153, h153, h⟩ := Option.bind_eq_some_iff.mp h
    obtain ⟨g153, c153⟩ := S_Ct_sum a0 a1 x4 x3 w r153 h153
    refine fr_callV (a := a0) (As := [.inr (.inr a1), .inl x4, .inl x3]) (st := []) i29_153 (cq27 a0 a1 x4 x3) rfl (Nat.le_of_ble_eq_true rfl) g153 (c153 _ (by omega)) ?_
    show Rn _ _ _ _ _ _ [.inl r153.1] _ _ _
    refine fr_aload_n i29_156 rfl ?_
    obtain ⟨v157, h157, h⟩ := Option.bind_eq_some_iff.mp h
    refine fr_gI (k := 4) i29_157 tf10_4 h157 ?_
    by_cases c160 : (r153.1 : Int) ≤ v157
    · rw [if_pos c160] at h
      refine rn_icmp_le_t i29_160 c160 ?_
      exact rn_sub [3] rfl (s_Ct_award_168 hD x4 r153.2 r h)
    · rw [if_neg c160] at h
      refine rn_icmp_le_f i29_160 c160 ?_
      refine rn_bipush i29_163 ?_
      refine rn_goto i29_165 ?_
      exact rn_sub [] rfl (s_Ct_award_170 hD (-2) r153.2 r h)
def Ct_award_96 : Nat → Nat → Nat → Int → Int → Int → Wd → Option (Int × Wd)
  | 0, _, _, _, _, _, _ => none
  | n + 1, a0, a1, x3, x4, x5, w =>
    (fgI w a1 10 1).bind fun v99 =>
    if (v99 : Int) ≤ x5 then
      Ct_award_143 a0 a1 x3 x4 w
    else
      (fgR w a0 1 2).bind fun v106 =>
      (rdI w v106 x5).bind fun v111 =>
      if (v111 : Int) ≤ 0 then
        Ct_award_137 (Ct_award_96 n) a0 a1 x3 x4 x5 w
      else
        if (x4 : Int) < 0 then
          Ct_award_133 (Ct_award_96 n) a0 a1 x3 x5 w
        else
          (Ct_isAhead a0 a1 x5 x4 x3 w).bind fun r127 =>
          if (r127.1 : Int) = 0 then
            Ct_award_137 (Ct_award_96 n) a0 a1 x3 x4 x5 r127.2
          else
            Ct_award_133 (Ct_award_96 n) a0 a1 x3 x5 r127.2
theorem s_Ct_award_96 {g : Gp} {l : Launch} {D : Nat} (hD : 2 ≤ D) : ∀ (n : Nat) (a0 : Nat) (a1 : Nat) (x3 : Int) (x4 : Int) (x5 : Int) (w : Wd) (r : Int × Wd), Ct_award_96 n a0 a1 x3 x4 x5 w = some r → Rn g l D 29 96 [(0, .inr (.inr a0)), (1, .inr (.inr a1)), (3, .inl x3), (4, .inl x4), (5, .inl x5)] [] w (some (.inl r.1)) r.2 := by
  obtain ⟨D, rfl⟩ : ∃ D1, D = D1 + 1 := ⟨D - 1, by omega⟩
  intro n
  induction n with
  | zero => intro a0 a1 x3 x4 x5 w r h; cases (show (none : Option (Int × Wd)) = some r from h)
  | succ n ih =>
    intro a0 a1 x3 x4 x5 w r h
    unfold Ct_award_96 at h
    refine rn_iload i29_96 rfl ?_
    refine fr_aload_n i29_98 rfl ?_
    obtain ⟨v99, h99, h⟩ := Option.bind_eq_some_iff.mp h
    refine fr_gI (k := 1) i29_99 tf10_1 h99 ?_
    by_cases c102 : (v99 : Int) ≤ x5
    · rw [if_pos c102] at h
      refine rn_icmp_ge_t i29_102 c102 ?_
      exact rn_sub [0, 1, 2, 3] rfl (s_Ct_award_143 hD a0 a1 x3 x4 w r h)
    · rw [if_neg c102] at h
      refine rn_icmp_ge_f i29_102 c102 ?_
      refine fr_aload_n i29_105 rfl ?_
      obtain ⟨v106, h106, h⟩ := Option.bind_eq_some_iff.mp h
      refine fr_gR (k := 2) i29_106 tf1_2 h106 ?_
      refine rn_iload i29_109 rfl ?_
      obtain ⟨v111, h111, h⟩ := Option.bind_eq_some_iff.mp h
      refine rn_iald i29_111 h111 ?_
      by_cases c112 : (v111 : Int) ≤ 0
      · rw [if_pos c112] at h
        refine rn_if_le_t i29_112 c112 ?_
        exact rn_sub [0, 1, 2, 3, 4] rfl (s_Ct_award_137 hD (Ct_award_96 n) ih a0 a1 x3 x4 x5 w r h)
      · rw [if_neg c112] at h
        refine rn_if_le_f i29_112 c112 ?_
        refine rn_iload i29_115 rfl ?_
        by_cases c117 : (x4 : Int) < 0
        · rw [if_pos c117] at h
          refine rn_if_lt_t i29_117 c117 ?_
          exact rn_sub [0, 1, 2, 4] rfl (s_Ct_award_133 hD (Ct_award_96 n) ih a0 a1 x3 x5 w r h)
        · rw [if_neg c117] at h
          refine rn_if_lt_f i29_117 c117 ?_
          refine fr_aload_n i29_120 rfl ?_
          refine fr_aload_n i29_121 rfl ?_
          refine rn_iload i29_122 rfl ?_
          refine rn_iload i29_124 rfl ?_
          refine rn_iload_n i29_126 rfl ?_
          obtain ⟨r127, h127, h⟩ := Option.bind_eq_some_iff.mp h
          obtain ⟨g127, c127⟩ := S_Ct_isAhead a0 a1 x5 x4 x3 w r127 h127
          refine fr_callV (a := a0) (As := [.inr (.inr a1), .inl x5, .inl x4, .inl x3]) (st := []) i29_127 (cq30 a0 a1 x5 x4 x3) rfl (Nat.le_of_ble_eq_true rfl) g127 (c127 _ (by omega)) ?_
          show Rn _ _ _ _ _ _ [.inl r127.1] _ _ _
          by_cases c130 : (r127.1 : Int) = 0
          · rw [if_pos c130] at h
            refine rn_if_eq_t i29_130 c130 ?_
            exact rn_sub [0, 1, 2, 3, 4] rfl (s_Ct_award_137 hD (Ct_award_96 n) ih a0 a1 x3 x4 x5 r127.2 r h)
          · rw [if_neg c130] at h
            refine rn_if_eq_f i29_130 c130 ?_
            exact rn_sub [0, 1, 2, 4] rfl (s_Ct_award_133 hD (Ct_award_96 n) ih a0 a1 x3 x5 r127.2 r h)
def Ct_award_89 (a0 : Nat) (a1 : Nat) (x3 : Int) (w : Wd) : Option (Int × Wd) :=
  Ct_award_96 FU a0 a1 x3 (-2) 0 w
theorem s_Ct_award_89 {g : Gp} {l : Launch} {D : Nat} (hD : 2 ≤ D) (a0 : Nat) (a1 : Nat) (x3 : Int) (w : Wd) (r : Int × Wd) (h : Ct_award_89 a0 a1 x3 w = some r) : Rn g l D 29 89 [(0, .inr (.inr a0)), (1, .inr (.inr a1)), (3, .inl x3)] [] w (some (.inl r.1)) r.2 := by
  unfold Ct_award_89 at h
  refine rn_bipush i29_89 ?_
  refine rn_istore (ls1 := [(4, .inl (-2)), (0, .inr (.inr a0)), (1, .inr (.inr a1)), (3, .inl x3)]) i29_91 rfl ?_
  refine rn_iconst i29_93 ?_
  refine rn_istore (ls1 := [(5, .inl 0), (4, .inl (-2)), (0, .inr (.inr a0)), (1, .inr (.inr a1)), (3, .inl x3)]) i29_94 rfl ?_
  exact rn_sub [2, 3, 4, 1, 0] rfl (s_Ct_award_96 hD FU a0 a1 x3 (-2) 0 w r h)
def Ct_award_27 : Nat → Nat → Nat → Int → Int → Int → Wd → Option (Int × Wd)
  | 0, _, _, _, _, _, _ => none
  | n + 1, a0, a1, x2, x3, x4, w =>
    (fgI w a1 10 2).bind fun v30 =>
    if (v30 : Int) ≤ x4 then
      Ct_award_89 a0 a1 x3 w
    else
      (fgR w a0 1 1).bind fun v37 =>
      (Ct_choice a0 a1 x4 x2 w).bind fun r47 =>
      (wrI r47.2 v37 x4 r47.1).bind fun w50 =>
      if (x4 : Int) = x3 then
        Ct_award_83 (Ct_award_27 n) a0 a1 x2 x3 x4 w50
      else
        (fgR w50 a0 1 1).bind fun v58 =>
        (rdI w50 v58 x4).bind fun v63 =>
        if (v63 : Int) < 0 then
          Ct_award_83 (Ct_award_27 n) a0 a1 x2 x3 x4 w50
        else
          (fgR w50 a0 1 2).bind fun v68 =>
          (fgR w50 a0 1 1).bind fun v72 =>
          (rdI w50 v72 x4).bind fun v77 =>
          (rdI w50 v68 v77).bind fun v79 =>
          (wrI w50 v68 v77 (w32 (v79 + 1))).bind fun w82 =>
          Ct_award_83 (Ct_award_27 n) a0 a1 x2 x3 x4 w82
theorem s_Ct_award_27 {g : Gp} {l : Launch} {D : Nat} (hD : 2 ≤ D) : ∀ (n : Nat) (a0 : Nat) (a1 : Nat) (x2 : Int) (x3 : Int) (x4 : Int) (w : Wd) (r : Int × Wd), Ct_award_27 n a0 a1 x2 x3 x4 w = some r → Rn g l D 29 27 [(0, .inr (.inr a0)), (1, .inr (.inr a1)), (2, .inl x2), (3, .inl x3), (4, .inl x4)] [] w (some (.inl r.1)) r.2 := by
  obtain ⟨D, rfl⟩ : ∃ D1, D = D1 + 1 := ⟨D - 1, by omega⟩
  intro n
  induction n with
  | zero => intro a0 a1 x2 x3 x4 w r h; cases (show (none : Option (Int × Wd)) = some r from h)
  | succ n ih =>
    intro a0 a1 x2 x3 x4 w r h
    unfold Ct_award_27 at h
    refine rn_iload i29_27 rfl ?_
    refine fr_aload_n i29_29 rfl ?_
    obtain ⟨v30, h30, h⟩ := Option.bind_eq_some_iff.mp h
    refine fr_gI (k := 2) i29_30 tf10_2 h30 ?_
    by_cases c33 : (v30 : Int) ≤ x4
    · rw [if_pos c33] at h
      refine rn_icmp_ge_t i29_33 c33 ?_
      exact rn_sub [0, 1, 3] rfl (s_Ct_award_89 hD a0 a1 x3 w r h)
    · rw [if_neg c33] at h
      refine rn_icmp_ge_f i29_33 c33 ?_
      refine fr_aload_n i29_36 rfl ?_
      obtain ⟨v37, h37, h⟩ := Option.bind_eq_some_iff.mp h
      refine fr_gR (k := 1) i29_37 tf1_1 h37 ?_
      refine rn_iload i29_40 rfl ?_
      refine fr_aload_n i29_42 rfl ?_
      refine fr_aload_n i29_43 rfl ?_
      refine rn_iload i29_44 rfl ?_
      refine rn_iload_n i29_46 rfl ?_
      obtain ⟨r47, h47, h⟩ := Option.bind_eq_some_iff.mp h
      obtain ⟨g47, c47⟩ := S_Ct_choice a0 a1 x4 x2 w r47 h47
      refine fr_callV (a := a0) (As := [.inr (.inr a1), .inl x4, .inl x2]) (st := [.inl x4, .inr (.inr v37)]) i29_47 (cq28 a0 a1 x4 x2) rfl (Nat.le_of_ble_eq_true rfl) g47 (c47 _ (by omega)) ?_
      show Rn _ _ _ _ _ _ [.inl r47.1, .inl x4, .inr (.inr v37)] _ _ _
      obtain ⟨w50, h50, h⟩ := Option.bind_eq_some_iff.mp h
      refine rn_iast i29_50 h50 ?_
      refine rn_iload i29_51 rfl ?_
      refine rn_iload_n i29_53 rfl ?_
      by_cases c54 : (x4 : Int) = x3
      · rw [if_pos c54] at h
        refine rn_icmp_eq_t i29_54 c54 ?_
        exact rn_sub [0, 1, 2, 3, 4] rfl (s_Ct_award_83 hD (Ct_award_27 n) ih a0 a1 x2 x3 x4 w50 r h)
      · rw [if_neg c54] at h
        refine rn_icmp_eq_f i29_54 c54 ?_
        refine fr_aload_n i29_57 rfl ?_
        obtain ⟨v58, h58, h⟩ := Option.bind_eq_some_iff.mp h
        refine fr_gR (k := 1) i29_58 tf1_1 h58 ?_
        refine rn_iload i29_61 rfl ?_
        obtain ⟨v63, h63, h⟩ := Option.bind_eq_some_iff.mp h
        refine rn_iald i29_63 h63 ?_
        by_cases c64 : (v63 : Int) < 0
        · rw [if_pos c64] at h
          refine rn_if_lt_t i29_64 c64 ?_
          exact rn_sub [0, 1, 2, 3, 4] rfl (s_Ct_award_83 hD (Ct_award_27 n) ih a0 a1 x2 x3 x4 w50 r h)
        · rw [if_neg c64] at h
          refine rn_if_lt_f i29_64 c64 ?_
          refine fr_aload_n i29_67 rfl ?_
          obtain ⟨v68, h68, h⟩ := Option.bind_eq_some_iff.mp h
          refine fr_gR (k := 2) i29_68 tf1_2 h68 ?_
          refine fr_aload_n i29_71 rfl ?_
          obtain ⟨v72, h72, h⟩ := Option.bind_eq_some_iff.mp h
          refine fr_gR (k := 1) i29_72 tf1_1 h72 ?_
          refine rn_iload i29_75 rfl ?_
          obtain ⟨v77, h77, h⟩ := Option.bind_eq_some_iff.mp h
          refine rn_iald i29_77 h77 ?_
          refine rn_dup2 i29_78 rfl rfl ?_
          obtain ⟨v79, h79, h⟩ := Option.bind_eq_some_iff.mp h
          refine rn_iald i29_79 h79 ?_
          refine rn_iconst i29_80 ?_
          refine rn_iadd i29_81 ?_
          obtain ⟨w82, h82, h⟩ := Option.bind_eq_some_iff.mp h
          refine rn_iast i29_82 h82 ?_
          exact rn_sub [0, 1, 2, 3, 4] rfl (s_Ct_award_83 hD (Ct_award_27 n) ih a0 a1 x2 x3 x4 w82 r h)
def Ct_award_24 (a0 : Nat) (a1 : Nat) (x2 : Int) (x3 : Int) (w : Wd) : Option (Int × Wd) :=
  Ct_award_27 FU a0 a1 x2 x3 0 w
theorem s_Ct_award_24 {g : Gp} {l : Launch} {D : Nat} (hD : 2 ≤ D) (a0 : Nat) (a1 : Nat) (x2 : Int) (x3 : Int) (w : Wd) (r : Int × Wd) (h : Ct_award_24 a0 a1 x2 x3 w = some r) : Rn g l D 29 24 [(0, .inr (.inr a0)), (1, .inr (.inr a1)), (2, .inl x2), (3, .inl x3)] [] w (some (.inl r.1)) r.2 := by
  unfold Ct_award_24 at h
  refine rn_iconst i29_24 ?_
  refine rn_istore (ls1 := [(4, .inl 0), (0, .inr (.inr a0)), (1, .inr (.inr a1)), (2, .inl x2), (3, .inl x3)]) i29_25 rfl ?_
  exact rn_sub [1, 2, 3, 4, 0] rfl (s_Ct_award_27 hD FU a0 a1 x2 x3 0 w r h)
def Ct_award_3 : Nat → Nat → Nat → Int → Int → Int → Wd → Option (Int × Wd)
  | 0, _, _, _, _, _, _ => none
  | n + 1, a0, a1, x2, x3, x4, w =>
    if (6 : Int) ≤ x4 then
      Ct_award_24 a0 a1 x2 x3 w
    else
      (fgR w a0 1 2).bind fun v11 =>
      (wrI w v11 x4 0).bind fun w17 =>
      Ct_award_3 n a0 a1 x2 x3 (w32 (x4 + 1)) w17
theorem s_Ct_award_3 {g : Gp} {l : Launch} {D : Nat} (hD : 2 ≤ D) : ∀ (n : Nat) (a0 : Nat) (a1 : Nat) (x2 : Int) (x3 : Int) (x4 : Int) (w : Wd) (r : Int × Wd), Ct_award_3 n a0 a1 x2 x3 x4 w = some r → Rn g l D 29 3 [(0, .inr (.inr a0)), (1, .inr (.inr a1)), (2, .inl x2), (3, .inl x3), (4, .inl x4)] [] w (some (.inl r.1)) r.2 := by
  intro n
  induction n with
  | zero => intro a0 a1 x2 x3 x4 w r h; cases (show (none : Option (Int × Wd)) = some r from h)
  | succ n ih =>
    intro a0 a1 x2 x3 x4 w r h
    unfold Ct_award_3 at h
    refine rn_iload i29_3 rfl ?_
    refine rn_bipush i29_5 ?_
    by_cases c7 : (6 : Int) ≤ x4
    · rw [if_pos c7] at h
      refine rn_icmp_ge_t i29_7 c7 ?_
      exact rn_sub [0, 1, 2, 3] rfl (s_Ct_award_24 hD a0 a1 x2 x3 w r h)
    · rw [if_neg c7] at h
      refine rn_icmp_ge_f i29_7 c7 ?_
      refine fr_aload_n i29_10 rfl ?_
      obtain ⟨v11, h11, h⟩ := Option.bind_eq_some_iff.mp h
      refine fr_gR (k := 2) i29_11 tf1_2 h11 ?_
      refine rn_iload i29_14 rfl ?_
      refine rn_iconst i29_16 ?_
      obtain ⟨w17, h17, h⟩ := Option.bind_eq_some_iff.mp h
      refine rn_iast i29_17 h17 ?_
      refine rn_iinc (ls1 := [(4, .inl (w32 (x4 + 1))), (0, .inr (.inr a0)), (1, .inr (.inr a1)), (2, .inl x2), (3, .inl x3)]) i29_18 rfl rfl ?_
      refine rn_goto i29_21 ?_
      exact rn_sub [1, 2, 3, 4, 0] rfl (ih a0 a1 x2 x3 (w32 (x4 + 1)) w17 r h)
def Ct_award_0 (a0 : Nat) (a1 : Nat) (x2 : Int) (x3 : Int) (w : Wd) : Option (Int × Wd) :=
  Ct_award_3 FU a0 a1 x2 x3 0 w
theorem s_Ct_award_0 {g : Gp} {l : Launch} {D : Nat} (hD : 2 ≤ D) (a0 : Nat) (a1 : Nat) (x2 : Int) (x3 : Int) (w : Wd) (r : Int × Wd) (h : Ct_award_0 a0 a1 x2 x3 w = some r) : Rn g l D 29 0 [(0, .inr (.inr a0)), (1, .inr (.inr a1)), (2, .inl x2), (3, .inl x3)] [] w (some (.inl r.1)) r.2 := by
  unfold Ct_award_0 at h
  refine rn_iconst i29_0 ?_
  refine rn_istore (ls1 := [(4, .inl 0), (0, .inr (.inr a0)), (1, .inr (.inr a1)), (2, .inl x2), (3, .inl x3)]) i29_1 rfl ?_
  exact rn_sub [1, 2, 3, 4, 0] rfl (s_Ct_award_3 hD FU a0 a1 x2 x3 0 w r h)
/-- HandHeirs$Court.award(LHandHeirs$Will;II)I -/
def Ct_award (a0 : Nat) (a1 : Nat) (x2 : Int) (x3 : Int) (w : Wd) : Option (Int × Wd) := gd 1 w a0 (Ct_award_0 a0 a1 x2 x3 w)
theorem S_Ct_award {g : Gp} {l : Launch} (a0 : Nat) (a1 : Nat) (x2 : Int) (x3 : Int) (w : Wd) (r : Int × Wd) (h : Ct_award a0 a1 x2 x3 w = some r) : (wsh w a0).1 = 1 ∧ ∀ D, 2 ≤ D → Rn g l D 29 0 [(0, .inr (.inr a0)), (1, .inr (.inr a1)), (2, .inl x2), (3, .inl x3)] [] w (some (.inl r.1)) r.2 := by
  obtain ⟨hg, h⟩ := gd_some h
  exact ⟨hg, fun D hD => rn_sub [0, 1, 2, 3] rfl (s_Ct_award_0 hD a0 a1 x2 x3 w r h)⟩
def Ct_given_0 (a0 : Nat) (a1 : Nat) (a2 : Nat) (x3 : Int) (w : Wd) : Option (Int × Wd) :=
  (Ct_compare a0 a1 a2 x3 w).bind fun r4 =>
  (Ct_award a0 a1 (-1) (-1) r4).bind fun r11 =>
  some (r11.1, r11.2)
theorem s_Ct_given_0 {g : Gp} {l : Launch} {D : Nat} (hD : 4 ≤ D) (a0 : Nat) (a1 : Nat) (a2 : Nat) (x3 : Int) (w : Wd) (r : Int × Wd) (h : Ct_given_0 a0 a1 a2 x3 w = some r) : Rn g l D 31 0 [(0, .inr (.inr a0)), (1, .inr (.inr a1)), (2, .inr (.inr a2)), (3, .inl x3)] [] w (some (.inl r.1)) r.2 := by
  obtain ⟨D, rfl⟩ : ∃ D1, D = D1 + 1 := ⟨D - 1, by omega⟩
  unfold Ct_given_0 at h
  refine fr_aload_n i31_0 rfl ?_
  refine fr_aload_n i31_1 rfl ?_
  refine fr_aload_n i31_2 rfl ?_
  refine rn_iload_n i31_3 rfl ?_
  obtain ⟨r4, h4, h⟩ := Option.bind_eq_some_iff.mp h
  obtain ⟨g4, c4⟩ := S_Ct_compare a0 a1 a2 x3 w r4 h4
  refine fr_callV (a := a0) (As := [.inr (.inr a1), .inr (.inr a2), .inl x3]) (st := []) i31_4 (cq26 a0 a1 a2 x3) rfl (Nat.le_of_ble_eq_true rfl) g4 (c4 _ (by omega)) ?_
  refine fr_aload_n i31_7 rfl ?_
  refine fr_aload_n i31_8 rfl ?_
  refine rn_iconst i31_9 ?_
  refine rn_iconst i31_10 ?_
  obtain ⟨r11, h11, h⟩ := Option.bind_eq_some_iff.mp h
  obtain ⟨g11, c11⟩ := S_Ct_award a0 a1 (-1) (-1) r4 r11 h11
  refine fr_callV (a := a0) (As := [.inr (.inr a1), .inl (-1), .inl (-1)]) (st := []) i31_11 (cq29 a0 a1 (-1) (-1)) rfl (Nat.le_of_ble_eq_true rfl) g11 (c11 _ (by omega)) ?_
  show Rn _ _ _ _ _ _ [.inl r11.1] _ _ _
  obtain rfl := Option.some.inj h
  exact rn_retI i31_14 mr31
/-- HandHeirs$Court.given(LHandHeirs$Will;LHandHeirs$State;I)I -/
def Ct_given (a0 : Nat) (a1 : Nat) (a2 : Nat) (x3 : Int) (w : Wd) : Option (Int × Wd) := gd 1 w a0 (Ct_given_0 a0 a1 a2 x3 w)
theorem S_Ct_given {g : Gp} {l : Launch} (a0 : Nat) (a1 : Nat) (a2 : Nat) (x3 : Int) (w : Wd) (r : Int × Wd) (h : Ct_given a0 a1 a2 x3 w = some r) : (wsh w a0).1 = 1 ∧ ∀ D, 4 ≤ D → Rn g l D 31 0 [(0, .inr (.inr a0)), (1, .inr (.inr a1)), (2, .inr (.inr a2)), (3, .inl x3)] [] w (some (.inl r.1)) r.2 := by
  obtain ⟨hg, h⟩ := gd_some h
  exact ⟨hg, fun D hD => rn_sub [0, 1, 2, 3] rfl (s_Ct_given_0 hD a0 a1 a2 x3 w r h)⟩
def St_off_0 (a0 : Nat) (x1 : Int) (x2 : Int) (w : Wd) : Option (Int × Wd) :=
  (St_own a0 x1 x2 w).bind fun r3 =>
  (fgR r3.2 a0 9 3).bind fun v7 =>
  (rdI r3.2 v7 x2).bind fun v11 =>
  some ((iabs (w32 (r3.1 - v11))), r3.2)
theorem s_St_off_0 {g : Gp} {l : Launch} {D : Nat} (hD : 1 ≤ D) (a0 : Nat) (x1 : Int) (x2 : Int) (w : Wd) (r : Int × Wd) (h : St_off_0 a0 x1 x2 w = some r) : Rn g l D 92 0 [(0, .inr (.inr a0)), (1, .inl x1), (2, .inl x2)] [] w (some (.inl r.1)) r.2 := by
  obtain ⟨D, rfl⟩ : ∃ D1, D = D1 + 1 := ⟨D - 1, by omega⟩
  unfold St_off_0 at h
  refine fr_aload_n i92_0 rfl ?_
  refine rn_iload_n i92_1 rfl ?_
  refine rn_iload_n i92_2 rfl ?_
  obtain ⟨r3, h3, h⟩ := Option.bind_eq_some_iff.mp h
  obtain ⟨g3, c3⟩ := S_St_own a0 x1 x2 w r3 h3
  refine fr_callV (a := a0) (As := [.inl x1, .inl x2]) (st := []) i92_3 (cq91 a0 x1 x2) rfl (Nat.le_of_ble_eq_true rfl) g3 (c3 _ (by omega)) ?_
  show Rn _ _ _ _ _ _ [.inl r3.1] _ _ _
  refine fr_aload_n i92_6 rfl ?_
  obtain ⟨v7, h7, h⟩ := Option.bind_eq_some_iff.mp h
  refine fr_gR (k := 3) i92_7 tf9_3 h7 ?_
  refine rn_iload_n i92_10 rfl ?_
  obtain ⟨v11, h11, h⟩ := Option.bind_eq_some_iff.mp h
  refine rn_iald i92_11 h11 ?_
  refine rn_isub i92_12 ?_
  refine rn_abs i92_13 (Nat.le_of_ble_eq_true rfl) ?_
  obtain rfl := Option.some.inj h
  exact rn_retI i92_16 mr92
/-- HandHeirs$State.off(II)I -/
def St_off (a0 : Nat) (x1 : Int) (x2 : Int) (w : Wd) : Option (Int × Wd) := gd 9 w a0 (St_off_0 a0 x1 x2 w)
theorem S_St_off {g : Gp} {l : Launch} (a0 : Nat) (x1 : Int) (x2 : Int) (w : Wd) (r : Int × Wd) (h : St_off a0 x1 x2 w = some r) : (wsh w a0).1 = 9 ∧ ∀ D, 1 ≤ D → Rn g l D 92 0 [(0, .inr (.inr a0)), (1, .inl x1), (2, .inl x2)] [] w (some (.inl r.1)) r.2 := by
  obtain ⟨hg, h⟩ := gd_some h
  exact ⟨hg, fun D hD => rn_sub [0, 1, 2] rfl (s_St_off_0 hD a0 x1 x2 w r h)⟩
def St_nearer_44 (s0 : Int) (w : Wd) : Option (Int × Wd) :=
  some (s0, w)
theorem s_St_nearer_44 {g : Gp} {l : Launch} {D : Nat} (hD : 2 ≤ D) (s0 : Int) (w : Wd) (r : Int × Wd) (h : St_nearer_44 s0 w = some r) : Rn g l D 93 44 [] [.inl s0] w (some (.inl r.1)) r.2 := by
  unfold St_nearer_44 at h
  obtain rfl := Option.some.inj h
  exact rn_retI i93_44 mr93
def St_nearer_0 (a0 : Nat) (x1 : Int) (x2 : Int) (x3 : Int) (w : Wd) : Option (Int × Wd) :=
  (St_own a0 x1 x2 w).bind fun r3 =>
  (St_off a0 x1 x2 r3.2).bind fun r12 =>
  (fgR r12.2 a0 9 3).bind fun v23 =>
  (rdI r12.2 v23 x2).bind fun v27 =>
  if (v27 : Int) ≤ r3.1 then
    St_nearer_44 (w32 (r3.1 - (min x3 r12.1))) r12.2
  else
    St_nearer_44 (w32 (r3.1 + (min x3 r12.1))) r12.2
theorem s_St_nearer_0 {g : Gp} {l : Launch} {D : Nat} (hD : 2 ≤ D) (a0 : Nat) (x1 : Int) (x2 : Int) (x3 : Int) (w : Wd) (r : Int × Wd) (h : St_nearer_0 a0 x1 x2 x3 w = some r) : Rn g l D 93 0 [(0, .inr (.inr a0)), (1, .inl x1), (2, .inl x2), (3, .inl x3)] [] w (some (.inl r.1)) r.2 := by
  obtain ⟨D, rfl⟩ : ∃ D1, D = D1 + 1 := ⟨D - 1, by omega⟩
  unfold St_nearer_0 at h
  refine fr_aload_n i93_0 rfl ?_
  refine rn_iload_n i93_1 rfl ?_
  refine rn_iload_n i93_2 rfl ?_
  obtain ⟨r3, h3, h⟩ := Option.bind_eq_some_iff.mp h
  obtain ⟨g3, c3⟩ := S_St_own a0 x1 x2 w r3 h3
  refine fr_callV (a := a0) (As := [.inl x1, .inl x2]) (st := []) i93_3 (cq91 a0 x1 x2) rfl (Nat.le_of_ble_eq_true rfl) g3 (c3 _ (by omega)) ?_
  show Rn _ _ _ _ _ _ [.inl r3.1] _ _ _
  refine rn_istore (ls1 := [(4, .inl r3.1), (0, .inr (.inr a0)), (1, .inl x1), (2, .inl x2), (3, .inl x3)]) i93_6 rfl ?_
  refine rn_iload_n i93_8 rfl ?_
  refine fr_aload_n i93_9 rfl ?_
  refine rn_iload_n i93_10 rfl ?_
  refine rn_iload_n i93_11 rfl ?_
  obtain ⟨r12, h12, h⟩ := Option.bind_eq_some_iff.mp h
  obtain ⟨g12, c12⟩ := S_St_off a0 x1 x2 r3.2 r12 h12
  refine fr_callV (a := a0) (As := [.inl x1, .inl x2]) (st := [.inl x3]) i93_12 (cq92 a0 x1 x2) rfl (Nat.le_of_ble_eq_true rfl) g12 (c12 _ (by omega)) ?_
  show Rn _ _ _ _ _ _ [.inl r12.1, .inl x3] _ _ _
  refine rn_min i93_15 (Nat.le_of_ble_eq_true rfl) ?_
  refine rn_istore (ls1 := [(5, .inl (min x3 r12.1)), (4, .inl r3.1), (0, .inr (.inr a0)), (1, .inl x1), (2, .inl x2), (3, .inl x3)]) i93_18 rfl ?_
  refine rn_iload i93_20 rfl ?_
  refine fr_aload_n i93_22 rfl ?_
  obtain ⟨v23, h23, h⟩ := Option.bind_eq_some_iff.mp h
  refine fr_gR (k := 3) i93_23 tf9_3 h23 ?_
  refine rn_iload_n i93_26 rfl ?_
  obtain ⟨v27, h27, h⟩ := Option.bind_eq_some_iff.mp h
  refine rn_iald i93_27 h27 ?_
  by_cases c28 : (v27 : Int) ≤ r3.1
  · rw [if_pos c28] at h
    refine rn_icmp_ge_t i93_28 c28 ?_
    refine rn_iload i93_39 rfl ?_
    refine rn_iload i93_41 rfl ?_
    refine rn_isub i93_43 ?_
    exact rn_sub [] rfl (s_St_nearer_44 hD (w32 (r3.1 - (min x3 r12.1))) r12.2 r h)
  · rw [if_neg c28] at h
    refine rn_icmp_ge_f i93_28 c28 ?_
    refine rn_iload i93_31 rfl ?_
    refine rn_iload i93_33 rfl ?_
    refine rn_iadd i93_35 ?_
    refine rn_goto i93_36 ?_
    exact rn_sub [] rfl (s_St_nearer_44 hD (w32 (r3.1 + (min x3 r12.1))) r12.2 r h)
/-- HandHeirs$State.nearer(III)I -/
def St_nearer (a0 : Nat) (x1 : Int) (x2 : Int) (x3 : Int) (w : Wd) : Option (Int × Wd) := gd 9 w a0 (St_nearer_0 a0 x1 x2 x3 w)
theorem S_St_nearer {g : Gp} {l : Launch} (a0 : Nat) (x1 : Int) (x2 : Int) (x3 : Int) (w : Wd) (r : Int × Wd) (h : St_nearer a0 x1 x2 x3 w = some r) : (wsh w a0).1 = 9 ∧ ∀ D, 2 ≤ D → Rn g l D 93 0 [(0, .inr (.inr a0)), (1, .inl x1), (2, .inl x2), (3, .inl x3)] [] w (some (.inl r.1)) r.2 := by
  obtain ⟨hg, h⟩ := gd_some h
  exact ⟨hg, fun D hD => rn_sub [0, 1, 2, 3] rfl (s_St_nearer_0 hD a0 x1 x2 x3 w r h)⟩
def St_teach_0 (a0 : Nat) (x1 : Int) (x2 : Int) (x3 : Int) (w : Wd) : Option (Wd) :=
  (fgR w a0 9 4).bind fun v1 =>
  (St_nearer a0 x1 x2 x3 w).bind fun r14 =>
  (wrI r14.2 v1 (w32 ((w32 (x1 * 6)) + x2)) r14.1).bind fun w17 =>
  some w17
theorem s_St_teach_0 {g : Gp} {l : Launch} {D : Nat} (hD : 3 ≤ D) (a0 : Nat) (x1 : Int) (x2 : Int) (x3 : Int) (w : Wd) (r : Wd) (h : St_teach_0 a0 x1 x2 x3 w = some r) : Rn g l D 94 0 [(0, .inr (.inr a0)), (1, .inl x1), (2, .inl x2), (3, .inl x3)] [] w none r := by
  obtain ⟨D, rfl⟩ : ∃ D1, D = D1 + 1 := ⟨D - 1, by omega⟩
  unfold St_teach_0 at h
  refine fr_aload_n i94_0 rfl ?_
  obtain ⟨v1, h1, h⟩ := Option.bind_eq_some_iff.mp h
  refine fr_gR (k := 4) i94_1 tf9_4 h1 ?_
  refine rn_iload_n i94_4 rfl ?_
  refine rn_bipush i94_5 ?_
  refine rn_imul i94_7 ?_
  refine rn_iload_n i94_8 rfl ?_
  refine rn_iadd i94_9 ?_
  refine fr_aload_n i94_10 rfl ?_
  refine rn_iload_n i94_11 rfl ?_
  refine rn_iload_n i94_12 rfl ?_
  refine rn_iload_n i94_13 rfl ?_
  obtain ⟨r14, h14, h⟩ := Option.bind_eq_some_iff.mp h
  obtain ⟨g14, c14⟩ := S_St_nearer a0 x1 x2 x3 w r14 h14
  refine fr_callV (a := a0) (As := [.inl x1, .inl x2, .inl x3]) (st := [.inl (w32 ((w32 (x1 * 6)) + x2)), .inr (.inr v1)]) i94_14 (cq93 a0 x1 x2 x3) rfl (Nat.le_of_ble_eq_true rfl) g14 (c14 _ (by omega)) ?_
  show Rn _ _ _ _ _ _ [.inl r14.1, .inl (w32 ((w32 (x1 * 6)) + x2)), .inr (.inr v1)] _ _ _
  obtain ⟨w17, h17, h⟩ := Option.bind_eq_some_iff.mp h
  refine rn_iast i94_17 h17 ?_
  obtain rfl := Option.some.inj h
  exact rn_ret i94_18 mr94
/-- HandHeirs$State.teach(III)V -/
def St_teach (a0 : Nat) (x1 : Int) (x2 : Int) (x3 : Int) (w : Wd) : Option (Wd) := gd 9 w a0 (St_teach_0 a0 x1 x2 x3 w)
theorem S_St_teach {g : Gp} {l : Launch} (a0 : Nat) (x1 : Int) (x2 : Int) (x3 : Int) (w : Wd) (r : Wd) (h : St_teach a0 x1 x2 x3 w = some r) : (wsh w a0).1 = 9 ∧ ∀ D, 3 ≤ D → Rn g l D 94 0 [(0, .inr (.inr a0)), (1, .inl x1), (2, .inl x2), (3, .inl x3)] [] w none r := by
  obtain ⟨hg, h⟩ := gd_some h
  exact ⟨hg, fun D hD => rn_sub [0, 1, 2, 3] rfl (s_St_teach_0 hD a0 x1 x2 x3 w r h)⟩
def Wi_mostOff_45 (k13 : Nat → Nat → Int → Int → Int → Int → Wd → Option (Int × Wd)) (a0 : Nat) (a1 : Nat) (x2 : Int) (x3 : Int) (x4 : Int) (x5 : Int) (w : Wd) : Option (Int × Wd) :=
  k13 a0 a1 x2 x3 x4 (w32 (x5 + 1)) w
theorem s_Wi_mostOff_45 {g : Gp} {l : Launch} {D : Nat} (hD : 2 ≤ D) (k13 : Nat → Nat → Int → Int → Int → Int → Wd → Option (Int × Wd)) (hk13 : ∀ (a0 : Nat) (a1 : Nat) (x2 : Int) (x3 : Int) (x4 : Int) (x5 : Int) (w : Wd) (r : Int × Wd), k13 a0 a1 x2 x3 x4 x5 w = some r → Rn g l D 98 13 [(0, .inr (.inr a0)), (1, .inr (.inr a1)), (2, .inl x2), (3, .inl x3), (4, .inl x4), (5, .inl x5)] [] w (some (.inl r.1)) r.2) (a0 : Nat) (a1 : Nat) (x2 : Int) (x3 : Int) (x4 : Int) (x5 : Int) (w : Wd) (r : Int × Wd) (h : Wi_mostOff_45 k13 a0 a1 x2 x3 x4 x5 w = some r) : Rn g l D 98 45 [(0, .inr (.inr a0)), (1, .inr (.inr a1)), (2, .inl x2), (3, .inl x3), (4, .inl x4), (5, .inl x5)] [] w (some (.inl r.1)) r.2 := by
  unfold Wi_mostOff_45 at h
  refine rn_iinc (ls1 := [(5, .inl (w32 (x5 + 1))), (0, .inr (.inr a0)), (1, .inr (.inr a1)), (2, .inl x2), (3, .inl x3), (4, .inl x4)]) i98_45 rfl rfl ?_
  refine rn_goto i98_48 ?_
  exact rn_sub [1, 2, 3, 4, 5, 0] rfl (hk13 a0 a1 x2 x3 x4 (w32 (x5 + 1)) w r h)
def Wi_mostOff_13 : Nat → Nat → Nat → Int → Int → Int → Int → Wd → Option (Int × Wd)
  | 0, _, _, _, _, _, _, _ => none
  | n + 1, a0, a1, x2, x3, x4, x5, w =>
    (fgI w a0 10 0).bind fun v16 =>
    if (v16 : Int) ≤ x5 then
      some (x3, w)
    else
      (St_off a1 x2 x5 w).bind fun r26 =>
      if (r26.1 : Int) ≤ x4 then
        Wi_mostOff_45 (Wi_mostOff_13 n) a0 a1 x2 x3 x4 x5 r26.2
      else
        Wi_mostOff_45 (Wi_mostOff_13 n) a0 a1 x2 x5 r26.1 x5 r26.2
theorem s_Wi_mostOff_13 {g : Gp} {l : Launch} {D : Nat} (hD : 2 ≤ D) : ∀ (n : Nat) (a0 : Nat) (a1 : Nat) (x2 : Int) (x3 : Int) (x4 : Int) (x5 : Int) (w : Wd) (r : Int × Wd), Wi_mostOff_13 n a0 a1 x2 x3 x4 x5 w = some r → Rn g l D 98 13 [(0, .inr (.inr a0)), (1, .inr (.inr a1)), (2, .inl x2), (3, .inl x3), (4, .inl x4), (5, .inl x5)] [] w (some (.inl r.1)) r.2 := by
  obtain ⟨D, rfl⟩ : ∃ D1, D = D1 + 1 := ⟨D - 1, by omega⟩
  intro n
  induction n with
  | zero => intro a0 a1 x2 x3 x4 x5 w r h; cases (show (none : Option (Int × Wd)) = some r from h)
  | succ n ih =>
    intro a0 a1 x2 x3 x4 x5 w r h
    unfold Wi_mostOff_13 at h
    refine rn_iload i98_13 rfl ?_
    refine fr_aload_n i98_15 rfl ?_
    obtain ⟨v16, h16, h⟩ := Option.bind_eq_some_iff.mp h
    refine fr_gI (k := 0) i98_16 tf10_0 h16 ?_
    by_cases c19 : (v16 : Int) ≤ x5
    · rw [if_pos c19] at h
      refine rn_icmp_ge_t i98_19 c19 ?_
      refine rn_iload_n i98_51 rfl ?_
      obtain rfl := Option.some.inj h
      exact rn_retI i98_52 mr98
    · rw [if_neg c19] at h
      refine rn_icmp_ge_f i98_19 c19 ?_
      refine fr_aload_n i98_22 rfl ?_
      refine rn_iload_n i98_23 rfl ?_
      refine rn_iload i98_24 rfl ?_
      obtain ⟨r26, h26, h⟩ := Option.bind_eq_some_iff.mp h
      obtain ⟨g26, c26⟩ := S_St_off a1 x2 x5 w r26 h26
      refine fr_callV (a := a1) (As := [.inl x2, .inl x5]) (st := []) i98_26 (cq92 a1 x2 x5) rfl (Nat.le_of_ble_eq_true rfl) g26 (c26 _ (by omega)) ?_
      show Rn _ _ _ _ _ _ [.inl r26.1] _ _ _
      refine rn_istore (ls1 := [(6, .inl r26.1), (0, .inr (.inr a0)), (1, .inr (.inr a1)), (2, .inl x2), (3, .inl x3), (4, .inl x4), (5, .inl x5)]) i98_29 rfl ?_
      refine rn_iload i98_31 rfl ?_
      refine rn_iload i98_33 rfl ?_
      by_cases c35 : (r26.1 : Int) ≤ x4
      · rw [if_pos c35] at h
        refine rn_icmp_le_t i98_35 c35 ?_
        exact rn_sub [1, 2, 3, 4, 5, 6] rfl (s_Wi_mostOff_45 hD (Wi_mostOff_13 n) ih a0 a1 x2 x3 x4 x5 r26.2 r h)
      · rw [if_neg c35] at h
        refine rn_icmp_le_f i98_35 c35 ?_
        refine rn_iload i98_38 rfl ?_
        refine rn_istore_n (ls1 := [(3, .inl x5), (6, .inl r26.1), (0, .inr (.inr a0)), (1, .inr (.inr a1)), (2, .inl x2), (4, .inl x4), (5, .inl x5)]) i98_40 rfl ?_
        refine rn_iload i98_41 rfl ?_
        refine rn_istore (ls1 := [(4, .inl r26.1), (3, .inl x5), (6, .inl r26.1), (0, .inr (.inr a0)), (1, .inr (.inr a1)), (2, .inl x2), (5, .inl x5)]) i98_43 rfl ?_
        exact rn_sub [3, 4, 5, 1, 0, 6] rfl (s_Wi_mostOff_45 hD (Wi_mostOff_13 n) ih a0 a1 x2 x5 r26.1 x5 r26.2 r h)
def Wi_mostOff_0 (a0 : Nat) (a1 : Nat) (x2 : Int) (w : Wd) : Option (Int × Wd) :=
  (St_off a1 x2 0 w).bind fun r5 =>
  Wi_mostOff_13 FU a0 a1 x2 0 r5.1 1 r5.2
theorem s_Wi_mostOff_0 {g : Gp} {l : Launch} {D : Nat} (hD : 2 ≤ D) (a0 : Nat) (a1 : Nat) (x2 : Int) (w : Wd) (r : Int × Wd) (h : Wi_mostOff_0 a0 a1 x2 w = some r) : Rn g l D 98 0 [(0, .inr (.inr a0)), (1, .inr (.inr a1)), (2, .inl x2)] [] w (some (.inl r.1)) r.2 := by
  obtain ⟨D, rfl⟩ : ∃ D1, D = D1 + 1 := ⟨D - 1, by omega⟩
  unfold Wi_mostOff_0 at h
  refine rn_iconst i98_0 ?_
  refine rn_istore_n (ls1 := [(3, .inl 0), (0, .inr (.inr a0)), (1, .inr (.inr a1)), (2, .inl x2)]) i98_1 rfl ?_
  refine fr_aload_n i98_2 rfl ?_
  refine rn_iload_n i98_3 rfl ?_
  refine rn_iconst i98_4 ?_
  obtain ⟨r5, h5, h⟩ := Option.bind_eq_some_iff.mp h
  obtain ⟨g5, c5⟩ := S_St_off a1 x2 0 w r5 h5
  refine fr_callV (a := a1) (As := [.inl x2, .inl 0]) (st := []) i98_5 (cq92 a1 x2 0) rfl (Nat.le_of_ble_eq_true rfl) g5 (c5 _ (by omega)) ?_
  show Rn _ _ _ _ _ _ [.inl r5.1] _ _ _
  refine rn_istore (ls1 := [(4, .inl r5.1), (3, .inl 0), (0, .inr (.inr a0)), (1, .inr (.inr a1)), (2, .inl x2)]) i98_8 rfl ?_
  refine rn_iconst i98_10 ?_
  refine rn_istore (ls1 := [(5, .inl 1), (4, .inl r5.1), (3, .inl 0), (0, .inr (.inr a0)), (1, .inr (.inr a1)), (2, .inl x2)]) i98_11 rfl ?_
  exact rn_sub [3, 4, 5, 2, 1, 0] rfl (s_Wi_mostOff_13 hD FU a0 a1 x2 0 r5.1 1 r5.2 r h)
/-- HandHeirs$Will.mostOff(LHandHeirs$State;I)I -/
def Wi_mostOff (a0 : Nat) (a1 : Nat) (x2 : Int) (w : Wd) : Option (Int × Wd) := gd 10 w a0 (Wi_mostOff_0 a0 a1 x2 w)
theorem S_Wi_mostOff {g : Gp} {l : Launch} (a0 : Nat) (a1 : Nat) (x2 : Int) (w : Wd) (r : Int × Wd) (h : Wi_mostOff a0 a1 x2 w = some r) : (wsh w a0).1 = 10 ∧ ∀ D, 2 ≤ D → Rn g l D 98 0 [(0, .inr (.inr a0)), (1, .inr (.inr a1)), (2, .inl x2)] [] w (some (.inl r.1)) r.2 := by
  obtain ⟨hg, h⟩ := gd_some h
  exact ⟨hg, fun D hD => rn_sub [0, 1, 2] rfl (s_Wi_mostOff_0 hD a0 a1 x2 w r h)⟩
def Wi_learned_76 (s0 : Int) (w : Wd) : Option (Int × Wd) :=
  some (s0, w)
theorem s_Wi_learned_76 {g : Gp} {l : Launch} {D : Nat} (hD : 3 ≤ D) (s0 : Int) (w : Wd) (r : Int × Wd) (h : Wi_learned_76 s0 w = some r) : Rn g l D 97 76 [] [.inl s0] w (some (.inl r.1)) r.2 := by
  unfold Wi_learned_76 at h
  obtain rfl := Option.some.inj h
  exact rn_retI i97_76 mr97
def Wi_learned_0 (a0 : Nat) (a1 : Nat) (x2 : Int) (x3 : Int) (w : Wd) : Option (Int × Wd) :=
  (fgI w a0 10 0).bind fun v1 =>
  if (0 : Int) < v1 then
    (fgR w a0 10 12).bind fun v11 =>
    (rdI w v11 x2).bind fun v15 =>
    if (v15 : Int) = (-1) then
      (Wi_mostOff a0 a1 x2 w).bind fun r23 =>
      some (r23.1, r23.2)
    else
      (fgR w a0 10 13).bind fun v28 =>
      (fgI w a1 9 0).bind fun v34 =>
      (Lw_lookAt v28 0 0 v34 0 0 0 x3 w).bind fun r41 =>
      (fgR r41 a0 10 13).bind fun v45 =>
      (fgR r41 a0 10 12).bind fun v49 =>
      (rdI r41 v49 x2).bind fun v53 =>
      (Lw_answer v45 v53 r41).bind fun r54 =>
      if (0 : Int) ≤ r54.1 then
        (fgI r54.2 a0 10 0).bind fun v72 =>
        (irm r54.1 v72).bind fun v75 =>
        Wi_learned_76 v75 r54.2
      else
        Wi_learned_76 (-2) r54.2
  else
    some ((-2), w)
theorem s_Wi_learned_0 {g : Gp} {l : Launch} {D : Nat} (hD : 3 ≤ D) (a0 : Nat) (a1 : Nat) (x2 : Int) (x3 : Int) (w : Wd) (r : Int × Wd) (h : Wi_learned_0 a0 a1 x2 x3 w = some r) : Rn g l D 97 0 [(0, .inr (.inr a0)), (1, .inr (.inr a1)), (2, .inl x2), (3, .inl x3)] [] w (some (.inl r.1)) r.2 := by
  obtain ⟨D, rfl⟩ : ∃ D1, D = D1 + 1 := ⟨D - 1, by omega⟩
  unfold Wi_learned_0 at h
  refine fr_aload_n i97_0 rfl ?_
  obtain ⟨v1, h1, h⟩ := Option.bind_eq_some_iff.mp h
  refine fr_gI (k := 0) i97_1 tf10_0 h1 ?_
  by_cases c4 : (0 : Int) < v1
  · rw [if_pos c4] at h
    refine rn_if_gt_t i97_4 c4 ?_
    refine fr_aload_n i97_10 rfl ?_
    obtain ⟨v11, h11, h⟩ := Option.bind_eq_some_iff.mp h
    refine fr_gR (k := 12) i97_11 tf10_12 h11 ?_
    refine rn_iload_n i97_14 rfl ?_
    obtain ⟨v15, h15, h⟩ := Option.bind_eq_some_iff.mp h
    refine rn_iald i97_15 h15 ?_
    refine rn_iconst i97_16 ?_
    by_cases c17 : (v15 : Int) = (-1)
    · rw [if_pos c17] at h
      refine rn_icmp_ne_f i97_17 c17 ?_
      refine fr_aload_n i97_20 rfl ?_
      refine fr_aload_n i97_21 rfl ?_
      refine rn_iload_n i97_22 rfl ?_
      obtain ⟨r23, h23, h⟩ := Option.bind_eq_some_iff.mp h
      obtain ⟨g23, c23⟩ := S_Wi_mostOff a0 a1 x2 w r23 h23
      refine fr_callV (a := a0) (As := [.inr (.inr a1), .inl x2]) (st := []) i97_23 (cq98 a0 a1 x2) rfl (Nat.le_of_ble_eq_true rfl) g23 (c23 _ (by omega)) ?_
      show Rn _ _ _ _ _ _ [.inl r23.1] _ _ _
      obtain rfl := Option.some.inj h
      exact rn_retI i97_26 mr97
    · rw [if_neg c17] at h
      refine rn_icmp_ne_t i97_17 c17 ?_
      refine fr_aload_n i97_27 rfl ?_
      obtain ⟨v28, h28, h⟩ := Option.bind_eq_some_iff.mp h
      refine fr_gR (k := 13) i97_28 tf10_13 h28 ?_
      refine rn_iconst i97_31 ?_
      refine rn_iconst i97_32 ?_
      refine fr_aload_n i97_33 rfl ?_
      obtain ⟨v34, h34, h⟩ := Option.bind_eq_some_iff.mp h
      refine fr_gI (k := 0) i97_34 tf9_0 h34 ?_
      refine rn_iconst i97_37 ?_
      refine rn_iconst i97_38 ?_
      refine rn_iconst i97_39 ?_
      refine rn_iload_n i97_40 rfl ?_
      obtain ⟨r41, h41, h⟩ := Option.bind_eq_some_iff.mp h
      obtain ⟨g41, c41⟩ := S_Lw_lookAt v28 0 0 v34 0 0 0 x3 w r41 h41
      refine fr_callV (a := v28) (As := [.inl 0, .inl 0, .inl v34, .inl 0, .inl 0, .inl 0, .inl x3]) (st := []) i97_41 (cq39 v28 0 0 v34 0 0 0 x3) rfl (Nat.le_of_ble_eq_true rfl) g41 (c41 _ (by omega)) ?_
      refine fr_aload_n i97_44 rfl ?_
      obtain ⟨v45, h45, h⟩ := Option.bind_eq_some_iff.mp h
      refine fr_gR (k := 13) i97_45 tf10_13 h45 ?_
      refine fr_aload_n i97_48 rfl ?_
      obtain ⟨v49, h49, h⟩ := Option.bind_eq_some_iff.mp h
      refine fr_gR (k := 12) i97_49 tf10_12 h49 ?_
      refine rn_iload_n i97_52 rfl ?_
      obtain ⟨v53, h53, h⟩ := Option.bind_eq_some_iff.mp h
      refine rn_iald i97_53 h53 ?_
      obtain ⟨r54, h54, h⟩ := Option.bind_eq_some_iff.mp h
      obtain ⟨g54, c54⟩ := S_Lw_answer v45 v53 r41 r54 h54
      refine fr_callV (a := v45) (As := [.inl v53]) (st := []) i97_54 (cq40 v45 v53) rfl (Nat.le_of_ble_eq_true rfl) g54 (c54 _ (by omega)) ?_
      show Rn _ _ _ _ _ _ [.inl r54.1] _ _ _
      refine rn_istore (ls1 := [(4, .inl r54.1), (0, .inr (.inr a0)), (1, .inr (.inr a1)), (2, .inl x2), (3, .inl x3)]) i97_57 rfl ?_
      refine rn_iload i97_59 rfl ?_
      by_cases c61 : (0 : Int) ≤ r54.1
      · rw [if_pos c61] at h
        refine rn_if_ge_t i97_61 c61 ?_
        refine rn_iload i97_69 rfl ?_
        refine fr_aload_n i97_71 rfl ?_
        obtain ⟨v72, h72, h⟩ := Option.bind_eq_some_iff.mp h
        refine fr_gI (k := 0) i97_72 tf10_0 h72 ?_
        obtain ⟨v75, h75, h⟩ := Option.bind_eq_some_iff.mp h
        refine fr_irm i97_75 h75 ?_
        exact rn_sub [] rfl (s_Wi_learned_76 hD v75 r54.2 r h)
      · rw [if_neg c61] at h
        refine rn_if_ge_f i97_61 c61 ?_
        refine rn_bipush i97_64 ?_
        refine rn_goto i97_66 ?_
        exact rn_sub [] rfl (s_Wi_learned_76 hD (-2) r54.2 r h)
  · rw [if_neg c4] at h
    refine rn_if_gt_f i97_4 c4 ?_
    refine rn_bipush i97_7 ?_
    obtain rfl := Option.some.inj h
    exact rn_retI i97_9 mr97
/-- HandHeirs$Will.learned(LHandHeirs$State;II)I -/
def Wi_learned (a0 : Nat) (a1 : Nat) (x2 : Int) (x3 : Int) (w : Wd) : Option (Int × Wd) := gd 10 w a0 (Wi_learned_0 a0 a1 x2 x3 w)
theorem S_Wi_learned {g : Gp} {l : Launch} (a0 : Nat) (a1 : Nat) (x2 : Int) (x3 : Int) (w : Wd) (r : Int × Wd) (h : Wi_learned a0 a1 x2 x3 w = some r) : (wsh w a0).1 = 10 ∧ ∀ D, 3 ≤ D → Rn g l D 97 0 [(0, .inr (.inr a0)), (1, .inr (.inr a1)), (2, .inl x2), (3, .inl x3)] [] w (some (.inl r.1)) r.2 := by
  obtain ⟨hg, h⟩ := gd_some h
  exact ⟨hg, fun D hD => rn_sub [0, 1, 2, 3] rfl (s_Wi_learned_0 hD a0 a1 x2 x3 w r h)⟩
def Ct_spendDays_75 (k3 : Nat → Nat → Int → Int → Int → Wd → Option (Wd)) (k15 : Nat → Nat → Int → Int → Int → Int → Wd → Option (Wd)) (a1 : Nat) (a2 : Nat) (x3 : Int) (x4 : Int) (x5 : Int) (x6 : Int) (w : Wd) : Option (Wd) :=
  k15 a1 a2 x3 x4 x5 (w32 (x6 + 1)) w
theorem s_Ct_spendDays_75 {g : Gp} {l : Launch} {D : Nat} (hD : 4 ≤ D) (k3 : Nat → Nat → Int → Int → Int → Wd → Option (Wd)) (hk3 : ∀ (a1 : Nat) (a2 : Nat) (x3 : Int) (x4 : Int) (x5 : Int) (w : Wd) (r : Wd), k3 a1 a2 x3 x4 x5 w = some r → Rn g l D 32 3 [(1, .inr (.inr a1)), (2, .inr (.inr a2)), (3, .inl x3), (4, .inl x4), (5, .inl x5)] [] w none r) (k15 : Nat → Nat → Int → Int → Int → Int → Wd → Option (Wd)) (hk15 : ∀ (a1 : Nat) (a2 : Nat) (x3 : Int) (x4 : Int) (x5 : Int) (x6 : Int) (w : Wd) (r : Wd), k15 a1 a2 x3 x4 x5 x6 w = some r → Rn g l D 32 15 [(1, .inr (.inr a1)), (2, .inr (.inr a2)), (3, .inl x3), (4, .inl x4), (5, .inl x5), (6, .inl x6)] [] w none r) (a1 : Nat) (a2 : Nat) (x3 : Int) (x4 : Int) (x5 : Int) (x6 : Int) (w : Wd) (r : Wd) (h : Ct_spendDays_75 k3 k15 a1 a2 x3 x4 x5 x6 w = some r) : Rn g l D 32 75 [(1, .inr (.inr a1)), (2, .inr (.inr a2)), (3, .inl x3), (4, .inl x4), (5, .inl x5), (6, .inl x6)] [] w none r := by
  unfold Ct_spendDays_75 at h
  refine rn_iinc (ls1 := [(6, .inl (w32 (x6 + 1))), (1, .inr (.inr a1)), (2, .inr (.inr a2)), (3, .inl x3), (4, .inl x4), (5, .inl x5)]) i32_75 rfl rfl ?_
  refine rn_goto i32_78 ?_
  exact rn_sub [1, 2, 3, 4, 5, 0] rfl (hk15 a1 a2 x3 x4 x5 (w32 (x6 + 1)) w r h)
def Ct_spendDays_44 (k3 : Nat → Nat → Int → Int → Int → Wd → Option (Wd)) (k15 : Nat → Nat → Int → Int → Int → Int → Wd → Option (Wd)) (a1 : Nat) (a2 : Nat) (x3 : Int) (x4 : Int) (x5 : Int) (x6 : Int) (s0 : Int) (w : Wd) : Option (Wd) :=
  if (s0 : Int) < 0 then
    Ct_spendDays_75 k3 k15 a1 a2 x3 x4 x5 x6 w
  else
    (fgI w a1 10 0).bind fun v54 =>
    if (v54 : Int) ≤ s0 then
      Ct_spendDays_75 k3 k15 a1 a2 x3 x4 x5 x6 w
    else
      (fgR w a1 10 8).bind fun v66 =>
      (rdI w v66 x6).bind fun v71 =>
      (St_teach a2 x6 s0 v71 w).bind fun r72 =>
      Ct_spendDays_75 k3 k15 a1 a2 x3 x4 x5 x6 r72
theorem s_Ct_spendDays_44 {g : Gp} {l : Launch} {D : Nat} (hD : 4 ≤ D) (k3 : Nat → Nat → Int → Int → Int → Wd → Option (Wd)) (hk3 : ∀ (a1 : Nat) (a2 : Nat) (x3 : Int) (x4 : Int) (x5 : Int) (w : Wd) (r : Wd), k3 a1 a2 x3 x4 x5 w = some r → Rn g l D 32 3 [(1, .inr (.inr a1)), (2, .inr (.inr a2)), (3, .inl x3), (4, .inl x4), (5, .inl x5)] [] w none r) (k15 : Nat → Nat → Int → Int → Int → Int → Wd → Option (Wd)) (hk15 : ∀ (a1 : Nat) (a2 : Nat) (x3 : Int) (x4 : Int) (x5 : Int) (x6 : Int) (w : Wd) (r : Wd), k15 a1 a2 x3 x4 x5 x6 w = some r → Rn g l D 32 15 [(1, .inr (.inr a1)), (2, .inr (.inr a2)), (3, .inl x3), (4, .inl x4), (5, .inl x5), (6, .inl x6)] [] w none r) (a1 : Nat) (a2 : Nat) (x3 : Int) (x4 : Int) (x5 : Int) (x6 : Int) (s0 : Int) (w : Wd) (r : Wd) (h : Ct_spendDays_44 k3 k15 a1 a2 x3 x4 x5 x6 s0 w = some r) : Rn g l D 32 44 [(1, .inr (.inr a1)), (2, .inr (.inr a2)), (3, .inl x3), (4, .inl x4), (5, .inl x5), (6, .inl x6)] [.inl s0] w none r := by
  obtain ⟨D, rfl⟩ : ∃ D1, D = D1 + 1 := ⟨D - 1, by omega⟩
  unfold Ct_spendDays_44 at h
  refine rn_istore (ls1 := [(7, .inl s0), (1, .inr (.inr a1)), (2, .inr (.inr a2)), (3, .inl x3), (4, .inl x4), (5, .inl x5), (6, .inl x6)]) i32_44 rfl ?_
  refine rn_iload i32_46 rfl ?_
  by_cases c48 : (s0 : Int) < 0
  · rw [if_pos c48] at h
    refine rn_if_lt_t i32_48 c48 ?_
    exact rn_sub [1, 2, 3, 4, 5, 6] rfl (s_Ct_spendDays_75 hD k3 hk3 k15 hk15 a1 a2 x3 x4 x5 x6 w r h)
  · rw [if_neg c48] at h
    refine rn_if_lt_f i32_48 c48 ?_
    refine rn_iload i32_51 rfl ?_
    refine fr_aload_n i32_53 rfl ?_
    obtain ⟨v54, h54, h⟩ := Option.bind_eq_some_iff.mp h
    refine fr_gI (k := 0) i32_54 tf10_0 h54 ?_
    by_cases c57 : (v54 : Int) ≤ s0
    · rw [if_pos c57] at h
      refine rn_icmp_ge_t i32_57 c57 ?_
      exact rn_sub [1, 2, 3, 4, 5, 6] rfl (s_Ct_spendDays_75 hD k3 hk3 k15 hk15 a1 a2 x3 x4 x5 x6 w r h)
    · rw [if_neg c57] at h
      refine rn_icmp_ge_f i32_57 c57 ?_
      refine fr_aload_n i32_60 rfl ?_
      refine rn_iload i32_61 rfl ?_
      refine rn_iload i32_63 rfl ?_
      refine fr_aload_n i32_65 rfl ?_
      obtain ⟨v66, h66, h⟩ := Option.bind_eq_some_iff.mp h
      refine fr_gR (k := 8) i32_66 tf10_8 h66 ?_
      refine rn_iload i32_69 rfl ?_
      obtain ⟨v71, h71, h⟩ := Option.bind_eq_some_iff.mp h
      refine rn_iald i32_71 h71 ?_
      obtain ⟨r72, h72, h⟩ := Option.bind_eq_some_iff.mp h
      obtain ⟨g72, c72⟩ := S_St_teach a2 x6 s0 v71 w r72 h72
      refine fr_callV (a := a2) (As := [.inl x6, .inl s0, .inl v71]) (st := []) i32_72 (cq94 a2 x6 s0 v71) rfl (Nat.le_of_ble_eq_true rfl) g72 (c72 _ (by omega)) ?_
      exact rn_sub [1, 2, 3, 4, 5, 6] rfl (s_Ct_spendDays_75 hD k3 hk3 k15 hk15 a1 a2 x3 x4 x5 x6 r72 r h)
def Ct_spendDays_81 (k3 : Nat → Nat → Int → Int → Int → Wd → Option (Wd)) (a1 : Nat) (a2 : Nat) (x3 : Int) (x4 : Int) (x5 : Int) (w : Wd) : Option (Wd) :=
  k3 a1 a2 x3 x4 (w32 (x5 + 1)) w
theorem s_Ct_spendDays_81 {g : Gp} {l : Launch} {D : Nat} (hD : 4 ≤ D) (k3 : Nat → Nat → Int → Int → Int → Wd → Option (Wd)) (hk3 : ∀ (a1 : Nat) (a2 : Nat) (x3 : Int) (x4 : Int) (x5 : Int) (w : Wd) (r : Wd), k3 a1 a2 x3 x4 x5 w = some r → Rn g l D 32 3 [(1, .inr (.inr a1)), (2, .inr (.inr a2)), (3, .inl x3), (4, .inl x4), (5, .inl x5)] [] w none r) (a1 : Nat) (a2 : Nat) (x3 : Int) (x4 : Int) (x5 : Int) (w : Wd) (r : Wd) (h : Ct_spendDays_81 k3 a1 a2 x3 x4 x5 w = some r) : Rn g l D 32 81 [(1, .inr (.inr a1)), (2, .inr (.inr a2)), (3, .inl x3), (4, .inl x4), (5, .inl x5)] [] w none r := by
  unfold Ct_spendDays_81 at h
  refine rn_iinc (ls1 := [(5, .inl (w32 (x5 + 1))), (1, .inr (.inr a1)), (2, .inr (.inr a2)), (3, .inl x3), (4, .inl x4)]) i32_81 rfl rfl ?_
  refine rn_goto i32_84 ?_
  exact rn_sub [1, 2, 3, 4, 0] rfl (hk3 a1 a2 x3 x4 (w32 (x5 + 1)) w r h)
def Ct_spendDays_15 (k3 : Nat → Nat → Int → Int → Int → Wd → Option (Wd)) : Nat → Nat → Nat → Int → Int → Int → Int → Wd → Option (Wd)
  | 0, _, _, _, _, _, _, _ => none
  | n + 1, a1, a2, x3, x4, x5, x6, w =>
    (fgI w a1 10 1).bind fun v18 =>
    if (v18 : Int) ≤ x6 then
      Ct_spendDays_81 k3 a1 a2 x3 x4 x5 w
    else
      if (x6 : Int) = x3 then
        Ct_spendDays_44 k3 (Ct_spendDays_15 k3 n) a1 a2 x3 x4 x5 x6 x4 w
      else
        (Wi_learned a1 a2 x6 x5 w).bind fun r41 =>
        Ct_spendDays_44 k3 (Ct_spendDays_15 k3 n) a1 a2 x3 x4 x5 x6 r41.1 r41.2
theorem s_Ct_spendDays_15 {g : Gp} {l : Launch} {D : Nat} (hD : 4 ≤ D) (k3 : Nat → Nat → Int → Int → Int → Wd → Option (Wd)) (hk3 : ∀ (a1 : Nat) (a2 : Nat) (x3 : Int) (x4 : Int) (x5 : Int) (w : Wd) (r : Wd), k3 a1 a2 x3 x4 x5 w = some r → Rn g l D 32 3 [(1, .inr (.inr a1)), (2, .inr (.inr a2)), (3, .inl x3), (4, .inl x4), (5, .inl x5)] [] w none r) : ∀ (n : Nat) (a1 : Nat) (a2 : Nat) (x3 : Int) (x4 : Int) (x5 : Int) (x6 : Int) (w : Wd) (r : Wd), Ct_spendDays_15 k3 n a1 a2 x3 x4 x5 x6 w = some r → Rn g l D 32 15 [(1, .inr (.inr a1)), (2, .inr (.inr a2)), (3, .inl x3), (4, .inl x4), (5, .inl x5), (6, .inl x6)] [] w none r := by
  obtain ⟨D, rfl⟩ : ∃ D1, D = D1 + 1 := ⟨D - 1, by omega⟩
  intro n
  induction n with
  | zero => intro a1 a2 x3 x4 x5 x6 w r h; cases (show (none : Option (Wd)) = some r from h)
  | succ n ih =>
    intro a1 a2 x3 x4 x5 x6 w r h
    unfold Ct_spendDays_15 at h
    refine rn_iload i32_15 rfl ?_
    refine fr_aload_n i32_17 rfl ?_
    obtain ⟨v18, h18, h⟩ := Option.bind_eq_some_iff.mp h
    refine fr_gI (k := 1) i32_18 tf10_1 h18 ?_
    by_cases c21 : (v18 : Int) ≤ x6
    · rw [if_pos c21] at h
      refine rn_icmp_ge_t i32_21 c21 ?_
      exact rn_sub [0, 1, 2, 3, 4] rfl (s_Ct_spendDays_81 hD k3 hk3 a1 a2 x3 x4 x5 w r h)
    · rw [if_neg c21] at h
      refine rn_icmp_ge_f i32_21 c21 ?_
      refine rn_iload i32_24 rfl ?_
      refine rn_iload_n i32_26 rfl ?_
      by_cases c27 : (x6 : Int) = x3
      · rw [if_pos c27] at h
        refine rn_icmp_ne_f i32_27 c27 ?_
        refine rn_iload i32_30 rfl ?_
        refine rn_goto i32_32 ?_
        exact rn_sub [0, 1, 2, 3, 4, 5] rfl (s_Ct_spendDays_44 hD k3 hk3 (Ct_spendDays_15 k3 n) ih a1 a2 x3 x4 x5 x6 x4 w r h)
      · rw [if_neg c27] at h
        refine rn_icmp_ne_t i32_27 c27 ?_
        refine fr_aload_n i32_35 rfl ?_
        refine fr_aload_n i32_36 rfl ?_
        refine rn_iload i32_37 rfl ?_
        refine rn_iload i32_39 rfl ?_
        obtain ⟨r41, h41, h⟩ := Option.bind_eq_some_iff.mp h
        obtain ⟨g41, c41⟩ := S_Wi_learned a1 a2 x6 x5 w r41 h41
        refine fr_callV (a := a1) (As := [.inr (.inr a2), .inl x6, .inl x5]) (st := []) i32_41 (cq97 a1 a2 x6 x5) rfl (Nat.le_of_ble_eq_true rfl) g41 (c41 _ (by omega)) ?_
        show Rn _ _ _ _ _ _ [.inl r41.1] _ _ _
        exact rn_sub [0, 1, 2, 3, 4, 5] rfl (s_Ct_spendDays_44 hD k3 hk3 (Ct_spendDays_15 k3 n) ih a1 a2 x3 x4 x5 x6 r41.1 r41.2 r h)
def Ct_spendDays_3 : Nat → Nat → Nat → Int → Int → Int → Wd → Option (Wd)
  | 0, _, _, _, _, _, _ => none
  | n + 1, a1, a2, x3, x4, x5, w =>
    (fgI w a1 10 3).bind fun v6 =>
    if (v6 : Int) ≤ x5 then
      some w
    else
      Ct_spendDays_15 (Ct_spendDays_3 n) FU a1 a2 x3 x4 x5 0 w
theorem s_Ct_spendDays_3 {g : Gp} {l : Launch} {D : Nat} (hD : 4 ≤ D) : ∀ (n : Nat) (a1 : Nat) (a2 : Nat) (x3 : Int) (x4 : Int) (x5 : Int) (w : Wd) (r : Wd), Ct_spendDays_3 n a1 a2 x3 x4 x5 w = some r → Rn g l D 32 3 [(1, .inr (.inr a1)), (2, .inr (.inr a2)), (3, .inl x3), (4, .inl x4), (5, .inl x5)] [] w none r := by
  intro n
  induction n with
  | zero => intro a1 a2 x3 x4 x5 w r h; cases (show (none : Option (Wd)) = some r from h)
  | succ n ih =>
    intro a1 a2 x3 x4 x5 w r h
    unfold Ct_spendDays_3 at h
    refine rn_iload i32_3 rfl ?_
    refine fr_aload_n i32_5 rfl ?_
    obtain ⟨v6, h6, h⟩ := Option.bind_eq_some_iff.mp h
    refine fr_gI (k := 3) i32_6 tf10_3 h6 ?_
    by_cases c9 : (v6 : Int) ≤ x5
    · rw [if_pos c9] at h
      refine rn_icmp_ge_t i32_9 c9 ?_
      obtain rfl := Option.some.inj h
      exact rn_ret i32_87 mr32
    · rw [if_neg c9] at h
      refine rn_icmp_ge_f i32_9 c9 ?_
      refine rn_iconst i32_12 ?_
      refine rn_istore (ls1 := [(6, .inl 0), (1, .inr (.inr a1)), (2, .inr (.inr a2)), (3, .inl x3), (4, .inl x4), (5, .inl x5)]) i32_13 rfl ?_
      exact rn_sub [1, 2, 3, 4, 5, 0] rfl (s_Ct_spendDays_15 hD (Ct_spendDays_3 n) ih FU a1 a2 x3 x4 x5 0 w r h)
def Ct_spendDays_0 (a1 : Nat) (a2 : Nat) (x3 : Int) (x4 : Int) (w : Wd) : Option (Wd) :=
  Ct_spendDays_3 FU a1 a2 x3 x4 0 w
theorem s_Ct_spendDays_0 {g : Gp} {l : Launch} {D : Nat} (hD : 4 ≤ D) (a1 : Nat) (a2 : Nat) (x3 : Int) (x4 : Int) (w : Wd) (r : Wd) (h : Ct_spendDays_0 a1 a2 x3 x4 w = some r) : Rn g l D 32 0 [(1, .inr (.inr a1)), (2, .inr (.inr a2)), (3, .inl x3), (4, .inl x4)] [] w none r := by
  unfold Ct_spendDays_0 at h
  refine rn_iconst i32_0 ?_
  refine rn_istore (ls1 := [(5, .inl 0), (1, .inr (.inr a1)), (2, .inr (.inr a2)), (3, .inl x3), (4, .inl x4)]) i32_1 rfl ?_
  exact rn_sub [1, 2, 3, 4, 0] rfl (s_Ct_spendDays_3 hD FU a1 a2 x3 x4 0 w r h)
/-- HandHeirs$Court.spendDays(LHandHeirs$Will;LHandHeirs$State;II)V -/
def Ct_spendDays (a0 : Nat) (a1 : Nat) (a2 : Nat) (x3 : Int) (x4 : Int) (w : Wd) : Option (Wd) := gd 1 w a0 (Ct_spendDays_0 a1 a2 x3 x4 w)
theorem S_Ct_spendDays {g : Gp} {l : Launch} (a0 : Nat) (a1 : Nat) (a2 : Nat) (x3 : Int) (x4 : Int) (w : Wd) (r : Wd) (h : Ct_spendDays a0 a1 a2 x3 x4 w = some r) : (wsh w a0).1 = 1 ∧ ∀ D, 4 ≤ D → Rn g l D 32 0 [(0, .inr (.inr a0)), (1, .inr (.inr a1)), (2, .inr (.inr a2)), (3, .inl x3), (4, .inl x4)] [] w none r := by
  obtain ⟨hg, h⟩ := gd_some h
  exact ⟨hg, fun D hD => rn_sub [1, 2, 3, 4] rfl (s_Ct_spendDays_0 hD a1 a2 x3 x4 w r h)⟩
def Ct_settle_41 (w : Wd) : Option (Wd) :=
  some w
theorem s_Ct_settle_41 {g : Gp} {l : Launch} {D : Nat} (hD : 4 ≤ D) (w : Wd) (r : Wd) (h : Ct_settle_41 w = some r) : Rn g l D 33 41 [] [] w none r := by
  unfold Ct_settle_41 at h
  obtain rfl := Option.some.inj h
  exact rn_ret i33_41 mr33
def Ct_settle_0 (a0 : Nat) (a1 : Nat) (a2 : Nat) (w : Wd) : Option (Wd) :=
  (fgI w a1 10 5).bind fun v4 =>
  (Ct_compare a0 a1 a2 v4 w).bind fun r7 =>
  (Ct_award a0 a1 (-1) (-1) r7).bind fun r15 =>
  (fpI r15.2 a2 9 2 r15.1).bind fun w18 =>
  (fgI w18 a2 9 2).bind fun v22 =>
  if (v22 : Int) < 0 then
    Ct_settle_41 w18
  else
    (fgR w18 a2 9 5).bind fun v29 =>
    (fgI w18 a2 9 2).bind fun v33 =>
    (rdI w18 v29 v33).bind fun v37 =>
    (wrI w18 v29 v33 (w32 (v37 + 1))).bind fun w40 =>
    Ct_settle_41 w40
theorem s_Ct_settle_0 {g : Gp} {l : Launch} {D : Nat} (hD : 4 ≤ D) (a0 : Nat) (a1 : Nat) (a2 : Nat) (w : Wd) (r : Wd) (h : Ct_settle_0 a0 a1 a2 w = some r) : Rn g l D 33 0 [(0, .inr (.inr a0)), (1, .inr (.inr a1)), (2, .inr (.inr a2))] [] w none r := by
  obtain ⟨D, rfl⟩ : ∃ D1, D = D1 + 1 := ⟨D - 1, by omega⟩
  unfold Ct_settle_0 at h
  refine fr_aload_n i33_0 rfl ?_
  refine fr_aload_n i33_1 rfl ?_
  refine fr_aload_n i33_2 rfl ?_
  refine fr_aload_n i33_3 rfl ?_
  obtain ⟨v4, h4, h⟩ := Option.bind_eq_some_iff.mp h
  refine fr_gI (k := 5) i33_4 tf10_5 h4 ?_
  obtain ⟨r7, h7, h⟩ := Option.bind_eq_some_iff.mp h
  obtain ⟨g7, c7⟩ := S_Ct_compare a0 a1 a2 v4 w r7 h7
  refine fr_callV (a := a0) (As := [.inr (.inr a1), .inr (.inr a2), .inl v4]) (st := []) i33_7 (cq26 a0 a1 a2 v4) rfl (Nat.le_of_ble_eq_true rfl) g7 (c7 _ (by omega)) ?_
  refine fr_aload_n i33_10 rfl ?_
  refine fr_aload_n i33_11 rfl ?_
  refine fr_aload_n i33_12 rfl ?_
  refine rn_iconst i33_13 ?_
  refine rn_iconst i33_14 ?_
  obtain ⟨r15, h15, h⟩ := Option.bind_eq_some_iff.mp h
  obtain ⟨g15, c15⟩ := S_Ct_award a0 a1 (-1) (-1) r7 r15 h15
  refine fr_callV (a := a0) (As := [.inr (.inr a1), .inl (-1), .inl (-1)]) (st := [.inr (.inr a2)]) i33_15 (cq29 a0 a1 (-1) (-1)) rfl (Nat.le_of_ble_eq_true rfl) g15 (c15 _ (by omega)) ?_
  show Rn _ _ _ _ _ _ [.inl r15.1, .inr (.inr a2)] _ _ _
  obtain ⟨w18, h18, h⟩ := Option.bind_eq_some_iff.mp h
  refine fr_pI (k := 2) i33_18 (pf9_2 33) h18 ?_
  refine fr_aload_n i33_21 rfl ?_
  obtain ⟨v22, h22, h⟩ := Option.bind_eq_some_iff.mp h
  refine fr_gI (k := 2) i33_22 tf9_2 h22 ?_
  by_cases c25 : (v22 : Int) < 0
  · rw [if_pos c25] at h
    refine rn_if_lt_t i33_25 c25 ?_
    exact rn_sub [] rfl (s_Ct_settle_41 hD w18 r h)
  · rw [if_neg c25] at h
    refine rn_if_lt_f i33_25 c25 ?_
    refine fr_aload_n i33_28 rfl ?_
    obtain ⟨v29, h29, h⟩ := Option.bind_eq_some_iff.mp h
    refine fr_gR (k := 5) i33_29 tf9_5 h29 ?_
    refine fr_aload_n i33_32 rfl ?_
    obtain ⟨v33, h33, h⟩ := Option.bind_eq_some_iff.mp h
    refine fr_gI (k := 2) i33_33 tf9_2 h33 ?_
    refine rn_dup2 i33_36 rfl rfl ?_
    obtain ⟨v37, h37, h⟩ := Option.bind_eq_some_iff.mp h
    refine rn_iald i33_37 h37 ?_
    refine rn_iconst i33_38 ?_
    refine rn_iadd i33_39 ?_
    obtain ⟨w40, h40, h⟩ := Option.bind_eq_some_iff.mp h
    refine rn_iast i33_40 h40 ?_
    exact rn_sub [] rfl (s_Ct_settle_41 hD w40 r h)
/-- HandHeirs$Court.settle(LHandHeirs$Will;LHandHeirs$State;)V -/
def Ct_settle (a0 : Nat) (a1 : Nat) (a2 : Nat) (w : Wd) : Option (Wd) := gd 1 w a0 (Ct_settle_0 a0 a1 a2 w)
theorem S_Ct_settle {g : Gp} {l : Launch} (a0 : Nat) (a1 : Nat) (a2 : Nat) (w : Wd) (r : Wd) (h : Ct_settle a0 a1 a2 w = some r) : (wsh w a0).1 = 1 ∧ ∀ D, 4 ≤ D → Rn g l D 33 0 [(0, .inr (.inr a0)), (1, .inr (.inr a1)), (2, .inr (.inr a2))] [] w none r := by
  obtain ⟨hg, h⟩ := gd_some h
  exact ⟨hg, fun D hD => rn_sub [0, 1, 2] rfl (s_Ct_settle_0 hD a0 a1 a2 w r h)⟩
def Wi_drift_0 (a0 : Nat) (a1 : Nat) (x2 : Int) (w : Wd) : Option (Int × Wd) :=
  (fgI w a0 10 6).bind fun v1 =>
  if (v1 : Int) = (-1) then
    some (0, w)
  else
    (fgI w a1 9 2).bind fun v11 =>
    (fgR w a0 10 13).bind fun v16 =>
    (St_off a1 v11 x2 w).bind fun r22 =>
    (fgI r22.2 a1 9 0).bind fun v27 =>
    (St_own a1 v11 x2 r22.2).bind fun r34 =>
    (fgR r34.2 a1 9 3).bind fun v38 =>
    (rdI r34.2 v38 x2).bind fun v42 =>
    (Lw_lookAt v16 (r22.1) x2 v27 0 (r34.1) v42 0 r34.2).bind fun r44 =>
    (fgR r44 a0 10 13).bind fun v48 =>
    (fgI r44 a0 10 6).bind fun v52 =>
    (Lw_answer v48 v52 r44).bind fun r55 =>
    (Hh_held (r55.1) (-9) 9 r55.2).bind fun r62 =>
    some (r62.1, r62.2)
theorem s_Wi_drift_0 {g : Gp} {l : Launch} {D : Nat} (hD : 2 ≤ D) (a0 : Nat) (a1 : Nat) (x2 : Int) (w : Wd) (r : Int × Wd) (h : Wi_drift_0 a0 a1 x2 w = some r) : Rn g l D 101 0 [(0, .inr (.inr a0)), (1, .inr (.inr a1)), (2, .inl x2)] [] w (some (.inl r.1)) r.2 := by
  obtain ⟨D, rfl⟩ : ∃ D1, D = D1 + 1 := ⟨D - 1, by omega⟩
  unfold Wi_drift_0 at h
  refine fr_aload_n i101_0 rfl ?_
  obtain ⟨v1, h1, h⟩ := Option.bind_eq_some_iff.mp h
  refine fr_gI (k := 6) i101_1 tf10_6 h1 ?_
  refine rn_iconst i101_4 ?_
  by_cases c5 : (v1 : Int) = (-1)
  · rw [if_pos c5] at h
    refine rn_icmp_ne_f i101_5 c5 ?_
    refine rn_iconst i101_8 ?_
    obtain rfl := Option.some.inj h
    exact rn_retI i101_9 mr101
  · rw [if_neg c5] at h
    refine rn_icmp_ne_t i101_5 c5 ?_
    refine fr_aload_n i101_10 rfl ?_
    obtain ⟨v11, h11, h⟩ := Option.bind_eq_some_iff.mp h
    refine fr_gI (k := 2) i101_11 tf9_2 h11 ?_
    refine rn_istore_n (ls1 := [(3, .inl v11), (0, .inr (.inr a0)), (1, .inr (.inr a1)), (2, .inl x2)]) i101_14 rfl ?_
    refine fr_aload_n i101_15 rfl ?_
    obtain ⟨v16, h16, h⟩ := Option.bind_eq_some_iff.mp h
    refine fr_gR (k := 13) i101_16 tf10_13 h16 ?_
    refine fr_aload_n i101_19 rfl ?_
    refine rn_iload_n i101_20 rfl ?_
    refine rn_iload_n i101_21 rfl ?_
    obtain ⟨r22, h22, h⟩ := Option.bind_eq_some_iff.mp h
    obtain ⟨g22, c22⟩ := S_St_off a1 v11 x2 w r22 h22
    refine fr_callV (a := a1) (As := [.inl v11, .inl x2]) (st := [.inr (.inr v16)]) i101_22 (cq92 a1 v11 x2) rfl (Nat.le_of_ble_eq_true rfl) g22 (c22 _ (by omega)) ?_
    show Rn _ _ _ _ _ _ [.inl r22.1, .inr (.inr v16)] _ _ _
    refine rn_iload_n i101_25 rfl ?_
    refine fr_aload_n i101_26 rfl ?_
    obtain ⟨v27, h27, h⟩ := Option.bind_eq_some_iff.mp h
    refine fr_gI (k := 0) i101_27 tf9_0 h27 ?_
    refine rn_iconst i101_30 ?_
    refine fr_aload_n i101_31 rfl ?_
    refine rn_iload_n i101_32 rfl ?_
    refine rn_iload_n i101_33 rfl ?_
    obtain ⟨r34, h34, h⟩ := Option.bind_eq_some_iff.mp h
    obtain ⟨g34, c34⟩ := S_St_own a1 v11 x2 r22.2 r34 h34
    refine fr_callV (a := a1) (As := [.inl v11, .inl x2]) (st := [.inl 0, .inl v27, .inl x2, .inl r22.1, .inr (.inr v16)]) i101_34 (cq91 a1 v11 x2) rfl (Nat.le_of_ble_eq_true rfl) g34 (c34 _ (by omega)) ?_
    show Rn _ _ _ _ _ _ [.inl r34.1, .inl 0, .inl v27, .inl x2, .inl r22.1, .inr (.inr v16)] _ _ _
    refine fr_aload_n i101_37 rfl ?_
    obtain ⟨v38, h38, h⟩ := Option.bind_eq_some_iff.mp h
    refine fr_gR (k := 3) i101_38 tf9_3 h38 ?_
    refine rn_iload_n i101_41 rfl ?_
    obtain ⟨v42, h42, h⟩ := Option.bind_eq_some_iff.mp h
    refine rn_iald i101_42 h42 ?_
    refine rn_iconst i101_43 ?_
    obtain ⟨r44, h44, h⟩ := Option.bind_eq_some_iff.mp h
    obtain ⟨g44, c44⟩ := S_Lw_lookAt v16 (r22.1) x2 v27 0 (r34.1) v42 0 r34.2 r44 h44
    refine fr_callV (a := v16) (As := [.inl r22.1, .inl x2, .inl v27, .inl 0, .inl r34.1, .inl v42, .inl 0]) (st := []) i101_44 (cq39 v16 (r22.1) x2 v27 0 (r34.1) v42 0) rfl (Nat.le_of_ble_eq_true rfl) g44 (c44 _ (by omega)) ?_
    refine fr_aload_n i101_47 rfl ?_
    obtain ⟨v48, h48, h⟩ := Option.bind_eq_some_iff.mp h
    refine fr_gR (k := 13) i101_48 tf10_13 h48 ?_
    refine fr_aload_n i101_51 rfl ?_
    obtain ⟨v52, h52, h⟩ := Option.bind_eq_some_iff.mp h
    refine fr_gI (k := 6) i101_52 tf10_6 h52 ?_
    obtain ⟨r55, h55, h⟩ := Option.bind_eq_some_iff.mp h
    obtain ⟨g55, c55⟩ := S_Lw_answer v48 v52 r44 r55 h55
    refine fr_callV (a := v48) (As := [.inl v52]) (st := []) i101_55 (cq40 v48 v52) rfl (Nat.le_of_ble_eq_true rfl) g55 (c55 _ (by omega)) ?_
    show Rn _ _ _ _ _ _ [.inl r55.1] _ _ _
    refine rn_bipush i101_58 ?_
    refine rn_bipush i101_60 ?_
    obtain ⟨r62, h62, h⟩ := Option.bind_eq_some_iff.mp h
    refine fr_callS (nst := 1) (As := [.inl r55.1, .inl (-9), .inl 9]) (st := []) i101_62 (cq146 (r55.1) (-9) 9) rfl (Nat.le_of_ble_eq_true rfl) (S_Hh_held (r55.1) (-9) 9 r55.2 r62 h62 _ (by omega)) ?_
    show Rn _ _ _ _ _ _ [.inl r62.1] _ _ _
    obtain rfl := Option.some.inj h
    exact rn_retI i101_65 mr101
/-- HandHeirs$Will.drift(LHandHeirs$State;I)I -/
def Wi_drift (a0 : Nat) (a1 : Nat) (x2 : Int) (w : Wd) : Option (Int × Wd) := gd 10 w a0 (Wi_drift_0 a0 a1 x2 w)
theorem S_Wi_drift {g : Gp} {l : Launch} (a0 : Nat) (a1 : Nat) (x2 : Int) (w : Wd) (r : Int × Wd) (h : Wi_drift a0 a1 x2 w = some r) : (wsh w a0).1 = 10 ∧ ∀ D, 2 ≤ D → Rn g l D 101 0 [(0, .inr (.inr a0)), (1, .inr (.inr a1)), (2, .inl x2)] [] w (some (.inl r.1)) r.2 := by
  obtain ⟨hg, h⟩ := gd_some h
  exact ⟨hg, fun D hD => rn_sub [0, 1, 2] rfl (s_Wi_drift_0 hD a0 a1 x2 w r h)⟩
def Ct_endYear_58 (a2 : Nat) (w : Wd) : Option (Wd) :=
  (fgI w a2 9 0).bind fun v60 =>
  (fpI w a2 9 0 (w32 (v60 + 1))).bind fun w65 =>
  some w65
theorem s_Ct_endYear_58 {g : Gp} {l : Launch} {D : Nat} (hD : 3 ≤ D) (a2 : Nat) (w : Wd) (r : Wd) (h : Ct_endYear_58 a2 w = some r) : Rn g l D 34 58 [(2, .inr (.inr a2))] [] w none r := by
  unfold Ct_endYear_58 at h
  refine fr_aload_n i34_58 rfl ?_
  refine rn_dup i34_59 rfl ?_
  obtain ⟨v60, h60, h⟩ := Option.bind_eq_some_iff.mp h
  refine fr_gI (k := 0) i34_60 tf9_0 h60 ?_
  refine rn_iconst i34_63 ?_
  refine rn_iadd i34_64 ?_
  obtain ⟨w65, h65, h⟩ := Option.bind_eq_some_iff.mp h
  refine fr_pI (k := 0) i34_65 (pf9_0 34) h65 ?_
  obtain rfl := Option.some.inj h
  exact rn_ret i34_68 mr34
def Ct_endYear_19 : Nat → Nat → Nat → Int → Wd → Option (Wd)
  | 0, _, _, _, _ => none
  | n + 1, a1, a2, x3, w =>
    (fgI w a1 10 0).bind fun v21 =>
    if (v21 : Int) ≤ x3 then
      Ct_endYear_58 a2 w
    else
      (fgR w a2 9 3).bind fun v28 =>
      (fgR w a2 9 3).bind fun v33 =>
      (rdI w v33 x3).bind fun v37 =>
      (Wi_drift a1 a2 x3 w).bind fun r41 =>
      (Hh_held (w32 (v37 + r41.1)) 0 99 r41.2).bind fun r48 =>
      (wrI r48.2 v28 x3 r48.1).bind fun w51 =>
      Ct_endYear_19 n a1 a2 (w32 (x3 + 1)) w51
theorem s_Ct_endYear_19 {g : Gp} {l : Launch} {D : Nat} (hD : 3 ≤ D) : ∀ (n : Nat) (a1 : Nat) (a2 : Nat) (x3 : Int) (w : Wd) (r : Wd), Ct_endYear_19 n a1 a2 x3 w = some r → Rn g l D 34 19 [(1, .inr (.inr a1)), (2, .inr (.inr a2)), (3, .inl x3)] [] w none r := by
  obtain ⟨D, rfl⟩ : ∃ D1, D = D1 + 1 := ⟨D - 1, by omega⟩
  intro n
  induction n with
  | zero => intro a1 a2 x3 w r h; cases (show (none : Option (Wd)) = some r from h)
  | succ n ih =>
    intro a1 a2 x3 w r h
    unfold Ct_endYear_19 at h
    refine rn_iload_n i34_19 rfl ?_
    refine fr_aload_n i34_20 rfl ?_
    obtain ⟨v21, h21, h⟩ := Option.bind_eq_some_iff.mp h
    refine fr_gI (k := 0) i34_21 tf10_0 h21 ?_
    by_cases c24 : (v21 : Int) ≤ x3
    · rw [if_pos c24] at h
      refine rn_icmp_ge_t i34_24 c24 ?_
      exact rn_sub [1] rfl (s_Ct_endYear_58 hD a2 w r h)
    · rw [if_neg c24] at h
      refine rn_icmp_ge_f i34_24 c24 ?_
      refine fr_aload_n i34_27 rfl ?_
      obtain ⟨v28, h28, h⟩ := Option.bind_eq_some_iff.mp h
      refine fr_gR (k := 3) i34_28 tf9_3 h28 ?_
      refine rn_iload_n i34_31 rfl ?_
      refine fr_aload_n i34_32 rfl ?_
      obtain ⟨v33, h33, h⟩ := Option.bind_eq_some_iff.mp h
      refine fr_gR (k := 3) i34_33 tf9_3 h33 ?_
      refine rn_iload_n i34_36 rfl ?_
      obtain ⟨v37, h37, h⟩ := Option.bind_eq_some_iff.mp h
      refine rn_iald i34_37 h37 ?_
      refine fr_aload_n i34_38 rfl ?_
      refine fr_aload_n i34_39 rfl ?_
      refine rn_iload_n i34_40 rfl ?_
      obtain ⟨r41, h41, h⟩ := Option.bind_eq_some_iff.mp h
      obtain ⟨g41, c41⟩ := S_Wi_drift a1 a2 x3 w r41 h41
      refine fr_callV (a := a1) (As := [.inr (.inr a2), .inl x3]) (st := [.inl v37, .inl x3, .inr (.inr v28)]) i34_41 (cq101 a1 a2 x3) rfl (Nat.le_of_ble_eq_true rfl) g41 (c41 _ (by omega)) ?_
      show Rn _ _ _ _ _ _ [.inl r41.1, .inl v37, .inl x3, .inr (.inr v28)] _ _ _
      refine rn_iadd i34_44 ?_
      refine rn_iconst i34_45 ?_
      refine rn_bipush i34_46 ?_
      obtain ⟨r48, h48, h⟩ := Option.bind_eq_some_iff.mp h
      refine fr_callS (nst := 1) (As := [.inl (w32 (v37 + r41.1)), .inl 0, .inl 99]) (st := [.inl x3, .inr (.inr v28)]) i34_48 (cq146 (w32 (v37 + r41.1)) 0 99) rfl (Nat.le_of_ble_eq_true rfl) (S_Hh_held (w32 (v37 + r41.1)) 0 99 r41.2 r48 h48 _ (by omega)) ?_
      show Rn _ _ _ _ _ _ [.inl r48.1, .inl x3, .inr (.inr v28)] _ _ _
      obtain ⟨w51, h51, h⟩ := Option.bind_eq_some_iff.mp h
      refine rn_iast i34_51 h51 ?_
      refine rn_iinc (ls1 := [(3, .inl (w32 (x3 + 1))), (1, .inr (.inr a1)), (2, .inr (.inr a2))]) i34_52 rfl rfl ?_
      refine rn_goto i34_55 ?_
      exact rn_sub [1, 2, 0] rfl (ih a1 a2 (w32 (x3 + 1)) w51 r h)
def Ct_endYear_0 (a1 : Nat) (a2 : Nat) (w : Wd) : Option (Wd) :=
  (fgI w a2 9 1).bind fun v2 =>
  (fpI w a2 9 1 (w32 (v2 + 1))).bind fun w7 =>
  (fgI w7 a2 9 2).bind fun v11 =>
  if (v11 : Int) < 0 then
    Ct_endYear_58 a2 w7
  else
    Ct_endYear_19 FU a1 a2 0 w7
theorem s_Ct_endYear_0 {g : Gp} {l : Launch} {D : Nat} (hD : 3 ≤ D) (a1 : Nat) (a2 : Nat) (w : Wd) (r : Wd) (h : Ct_endYear_0 a1 a2 w = some r) : Rn g l D 34 0 [(1, .inr (.inr a1)), (2, .inr (.inr a2))] [] w none r := by
  unfold Ct_endYear_0 at h
  refine fr_aload_n i34_0 rfl ?_
  refine rn_dup i34_1 rfl ?_
  obtain ⟨v2, h2, h⟩ := Option.bind_eq_some_iff.mp h
  refine fr_gI (k := 1) i34_2 tf9_1 h2 ?_
  refine rn_iconst i34_5 ?_
  refine rn_iadd i34_6 ?_
  obtain ⟨w7, h7, h⟩ := Option.bind_eq_some_iff.mp h
  refine fr_pI (k := 1) i34_7 (pf9_1 34) h7 ?_
  refine fr_aload_n i34_10 rfl ?_
  obtain ⟨v11, h11, h⟩ := Option.bind_eq_some_iff.mp h
  refine fr_gI (k := 2) i34_11 tf9_2 h11 ?_
  by_cases c14 : (v11 : Int) < 0
  · rw [if_pos c14] at h
    refine rn_if_lt_t i34_14 c14 ?_
    exact rn_sub [1] rfl (s_Ct_endYear_58 hD a2 w7 r h)
  · rw [if_neg c14] at h
    refine rn_if_lt_f i34_14 c14 ?_
    refine rn_iconst i34_17 ?_
    refine rn_istore_n (ls1 := [(3, .inl 0), (1, .inr (.inr a1)), (2, .inr (.inr a2))]) i34_18 rfl ?_
    exact rn_sub [1, 2, 0] rfl (s_Ct_endYear_19 hD FU a1 a2 0 w7 r h)
/-- HandHeirs$Court.endYear(LHandHeirs$Will;LHandHeirs$State;)V -/
def Ct_endYear (a0 : Nat) (a1 : Nat) (a2 : Nat) (w : Wd) : Option (Wd) := gd 1 w a0 (Ct_endYear_0 a1 a2 w)
theorem S_Ct_endYear {g : Gp} {l : Launch} (a0 : Nat) (a1 : Nat) (a2 : Nat) (w : Wd) (r : Wd) (h : Ct_endYear a0 a1 a2 w = some r) : (wsh w a0).1 = 1 ∧ ∀ D, 3 ≤ D → Rn g l D 34 0 [(0, .inr (.inr a0)), (1, .inr (.inr a1)), (2, .inr (.inr a2))] [] w none r := by
  obtain ⟨hg, h⟩ := gd_some h
  exact ⟨hg, fun D hD => rn_sub [1, 2] rfl (s_Ct_endYear_0 hD a1 a2 w r h)⟩
def Ct_goThroughYear_0 (a0 : Nat) (a1 : Nat) (a2 : Nat) (x3 : Int) (x4 : Int) (w : Wd) : Option (Int × Wd) :=
  (Ct_spendDays a0 a1 a2 x3 x4 w).bind fun r6 =>
  (Ct_settle a0 a1 a2 r6).bind fun r12 =>
  (Ct_endYear a0 a1 a2 r12).bind fun r18 =>
  (fgI r18 a2 9 2).bind fun v22 =>
  some (v22, r18)
theorem s_Ct_goThroughYear_0 {g : Gp} {l : Launch} {D : Nat} (hD : 5 ≤ D) (a0 : Nat) (a1 : Nat) (a2 : Nat) (x3 : Int) (x4 : Int) (w : Wd) (r : Int × Wd) (h : Ct_goThroughYear_0 a0 a1 a2 x3 x4 w = some r) : Rn g l D 35 0 [(0, .inr (.inr a0)), (1, .inr (.inr a1)), (2, .inr (.inr a2)), (3, .inl x3), (4, .inl x4)] [] w (some (.inl r.1)) r.2 := by
  obtain ⟨D, rfl⟩ : ∃ D1, D = D1 + 1 := ⟨D - 1, by omega⟩
  unfold Ct_goThroughYear_0 at h
  refine fr_aload_n i35_0 rfl ?_
  refine fr_aload_n i35_1 rfl ?_
  refine fr_aload_n i35_2 rfl ?_
  refine rn_iload_n i35_3 rfl ?_
  refine rn_iload i35_4 rfl ?_
  obtain ⟨r6, h6, h⟩ := Option.bind_eq_some_iff.mp h
  obtain ⟨g6, c6⟩ := S_Ct_spendDays a0 a1 a2 x3 x4 w r6 h6
  refine fr_callV (a := a0) (As := [.inr (.inr a1), .inr (.inr a2), .inl x3, .inl x4]) (st := []) i35_6 (cq32 a0 a1 a2 x3 x4) rfl (Nat.le_of_ble_eq_true rfl) g6 (c6 _ (by omega)) ?_
  refine fr_aload_n i35_9 rfl ?_
  refine fr_aload_n i35_10 rfl ?_
  refine fr_aload_n i35_11 rfl ?_
  obtain ⟨r12, h12, h⟩ := Option.bind_eq_some_iff.mp h
  obtain ⟨g12, c12⟩ := S_Ct_settle a0 a1 a2 r6 r12 h12
  refine fr_callV (a := a0) (As := [.inr (.inr a1), .inr (.inr a2)]) (st := []) i35_12 (cq33 a0 a1 a2) rfl (Nat.le_of_ble_eq_true rfl) g12 (c12 _ (by omega)) ?_
  refine fr_aload_n i35_15 rfl ?_
  refine fr_aload_n i35_16 rfl ?_
  refine fr_aload_n i35_17 rfl ?_
  obtain ⟨r18, h18, h⟩ := Option.bind_eq_some_iff.mp h
  obtain ⟨g18, c18⟩ := S_Ct_endYear a0 a1 a2 r12 r18 h18
  refine fr_callV (a := a0) (As := [.inr (.inr a1), .inr (.inr a2)]) (st := []) i35_18 (cq34 a0 a1 a2) rfl (Nat.le_of_ble_eq_true rfl) g18 (c18 _ (by omega)) ?_
  refine fr_aload_n i35_21 rfl ?_
  obtain ⟨v22, h22, h⟩ := Option.bind_eq_some_iff.mp h
  refine fr_gI (k := 2) i35_22 tf9_2 h22 ?_
  obtain rfl := Option.some.inj h
  exact rn_retI i35_25 mr35
/-- HandHeirs$Court.goThroughYear(LHandHeirs$Will;LHandHeirs$State;II)I -/
def Ct_goThroughYear (a0 : Nat) (a1 : Nat) (a2 : Nat) (x3 : Int) (x4 : Int) (w : Wd) : Option (Int × Wd) := gd 1 w a0 (Ct_goThroughYear_0 a0 a1 a2 x3 x4 w)
theorem S_Ct_goThroughYear {g : Gp} {l : Launch} (a0 : Nat) (a1 : Nat) (a2 : Nat) (x3 : Int) (x4 : Int) (w : Wd) (r : Int × Wd) (h : Ct_goThroughYear a0 a1 a2 x3 x4 w = some r) : (wsh w a0).1 = 1 ∧ ∀ D, 5 ≤ D → Rn g l D 35 0 [(0, .inr (.inr a0)), (1, .inr (.inr a1)), (2, .inr (.inr a2)), (3, .inl x3), (4, .inl x4)] [] w (some (.inl r.1)) r.2 := by
  obtain ⟨hg, h⟩ := gd_some h
  exact ⟨hg, fun D hD => rn_sub [0, 1, 2, 3, 4] rfl (s_Ct_goThroughYear_0 hD a0 a1 a2 x3 x4 w r h)⟩
def Lw_init_0 (a0 : Nat) (w : Wd) : Option (Wd) :=
  (tgd w a0 2).bind fun _ =>
  (fpI w a0 2 0 0).bind fun w6 =>
  (nwA w6 20 400).bind fun w13 =>
  (fpR w13 a0 2 1 (wn w6)).bind fun w15 =>
  (nwA w15 20 400).bind fun w22 =>
  (fpR w22 a0 2 2 (wn w15)).bind fun w24 =>
  (nwA w24 20 7).bind fun w30 =>
  (fpR w30 a0 2 3 (wn w24)).bind fun w32 =>
  (nwA w32 20 24).bind fun w38 =>
  (fpR w38 a0 2 4 (wn w32)).bind fun w40 =>
  some w40
theorem s_Lw_init_0 {g : Gp} {l : Launch} {D : Nat} (hD : 1 ≤ D) (a0 : Nat) (w : Wd) (r : Wd) (h : Lw_init_0 a0 w = some r) : Rn g l D 36 0 [(0, .inr (.inr a0))] [] w none r := by
  obtain ⟨D, rfl⟩ : ∃ D1, D = D1 + 1 := ⟨D - 1, by omega⟩
  unfold Lw_init_0 at h
  refine fr_aload_n i36_0 rfl ?_
  obtain ⟨_, h1, h⟩ := Option.bind_eq_some_iff.mp h
  refine fr_objI i36_1 h1 (by decide) (Nat.le_of_ble_eq_true rfl) ?_
  refine fr_aload_n i36_4 rfl ?_
  refine rn_iconst i36_5 ?_
  obtain ⟨w6, h6, h⟩ := Option.bind_eq_some_iff.mp h
  refine fr_pI (k := 0) i36_6 (pf2_0 36) h6 ?_
  refine fr_aload_n i36_9 rfl ?_
  refine rn_sipush i36_10 ?_
  obtain ⟨w13, h13, h⟩ := Option.bind_eq_some_iff.mp h
  refine rn_newa (t := 20) i36_13 (by decide) rfl h13 ?_
  obtain ⟨w15, h15, h⟩ := Option.bind_eq_some_iff.mp h
  refine fr_pR (k := 1) i36_15 pf36_2_1 h15 ?_
  refine fr_aload_n i36_18 rfl ?_
  refine rn_sipush i36_19 ?_
  obtain ⟨w22, h22, h⟩ := Option.bind_eq_some_iff.mp h
  refine rn_newa (t := 20) i36_22 (by decide) rfl h22 ?_
  obtain ⟨w24, h24, h⟩ := Option.bind_eq_some_iff.mp h
  refine fr_pR (k := 2) i36_24 pf36_2_2 h24 ?_
  refine fr_aload_n i36_27 rfl ?_
  refine rn_bipush i36_28 ?_
  obtain ⟨w30, h30, h⟩ := Option.bind_eq_some_iff.mp h
  refine rn_newa (t := 20) i36_30 (by decide) rfl h30 ?_
  obtain ⟨w32, h32, h⟩ := Option.bind_eq_some_iff.mp h
  refine fr_pR (k := 3) i36_32 pf36_2_3 h32 ?_
  refine fr_aload_n i36_35 rfl ?_
  refine rn_bipush i36_36 ?_
  obtain ⟨w38, h38, h⟩ := Option.bind_eq_some_iff.mp h
  refine rn_newa (t := 20) i36_38 (by decide) rfl h38 ?_
  obtain ⟨w40, h40, h⟩ := Option.bind_eq_some_iff.mp h
  refine fr_pR (k := 4) i36_40 pf36_2_4 h40 ?_
  obtain rfl := Option.some.inj h
  exact rn_ret i36_43 mr36
/-- HandHeirs$Laws.<init>()V -/
def Lw_init (a0 : Nat) (w : Wd) : Option (Wd) := gd 2 w a0 (Lw_init_0 a0 w)
theorem S_Lw_init {g : Gp} {l : Launch} (a0 : Nat) (w : Wd) (r : Wd) (h : Lw_init a0 w = some r) : (wsh w a0).1 = 2 ∧ ∀ D, 1 ≤ D → Rn g l D 36 0 [(0, .inr (.inr a0))] [] w none r := by
  obtain ⟨hg, h⟩ := gd_some h
  exact ⟨hg, fun D hD => rn_sub [0] rfl (s_Lw_init_0 hD a0 w r h)⟩
def Lw_put_40 (w : Wd) : Option (Wd) :=
  some w
theorem s_Lw_put_40 {g : Gp} {l : Launch} {D : Nat} (hD : 0 ≤ D) (w : Wd) (r : Wd) (h : Lw_put_40 w = some r) : Rn g l D 37 40 [] [] w none r := by
  unfold Lw_put_40 at h
  obtain rfl := Option.some.inj h
  exact rn_ret i37_40 mr37
def Lw_put_0 (a0 : Nat) (x1 : Int) (x2 : Int) (w : Wd) : Option (Wd) :=
  (fgI w a0 2 0).bind fun v1 =>
  if (400 : Int) ≤ v1 then
    Lw_put_40 w
  else
    (fgR w a0 2 1).bind fun v11 =>
    (fgI w a0 2 0).bind fun v15 =>
    (wrI w v11 v15 x1).bind fun w19 =>
    (fgR w19 a0 2 2).bind fun v21 =>
    (fgI w19 a0 2 0).bind fun v25 =>
    (wrI w19 v21 v25 x2).bind fun w29 =>
    (fgI w29 a0 2 0).bind fun v32 =>
    (fpI w29 a0 2 0 (w32 (v32 + 1))).bind fun w37 =>
    Lw_put_40 w37
theorem s_Lw_put_0 {g : Gp} {l : Launch} {D : Nat} (hD : 0 ≤ D) (a0 : Nat) (x1 : Int) (x2 : Int) (w : Wd) (r : Wd) (h : Lw_put_0 a0 x1 x2 w = some r) : Rn g l D 37 0 [(0, .inr (.inr a0)), (1, .inl x1), (2, .inl x2)] [] w none r := by
  unfold Lw_put_0 at h
  refine fr_aload_n i37_0 rfl ?_
  obtain ⟨v1, h1, h⟩ := Option.bind_eq_some_iff.mp h
  refine fr_gI (k := 0) i37_1 tf2_0 h1 ?_
  refine rn_sipush i37_4 ?_
  by_cases c7 : (400 : Int) ≤ v1
  · rw [if_pos c7] at h
    refine rn_icmp_ge_t i37_7 c7 ?_
    exact rn_sub [] rfl (s_Lw_put_40 hD w r h)
  · rw [if_neg c7] at h
    refine rn_icmp_ge_f i37_7 c7 ?_
    refine fr_aload_n i37_10 rfl ?_
    obtain ⟨v11, h11, h⟩ := Option.bind_eq_some_iff.mp h
    refine fr_gR (k := 1) i37_11 tf2_1 h11 ?_
    refine fr_aload_n i37_14 rfl ?_
    obtain ⟨v15, h15, h⟩ := Option.bind_eq_some_iff.mp h
    refine fr_gI (k := 0) i37_15 tf2_0 h15 ?_
    refine rn_iload_n i37_18 rfl ?_
    obtain ⟨w19, h19, h⟩ := Option.bind_eq_some_iff.mp h
    refine rn_iast i37_19 h19 ?_
    refine fr_aload_n i37_20 rfl ?_
    obtain ⟨v21, h21, h⟩ := Option.bind_eq_some_iff.mp h
    refine fr_gR (k := 2) i37_21 tf2_2 h21 ?_
    refine fr_aload_n i37_24 rfl ?_
    obtain ⟨v25, h25, h⟩ := Option.bind_eq_some_iff.mp h
    refine fr_gI (k := 0) i37_25 tf2_0 h25 ?_
    refine rn_iload_n i37_28 rfl ?_
    obtain ⟨w29, h29, h⟩ := Option.bind_eq_some_iff.mp h
    refine rn_iast i37_29 h29 ?_
    refine fr_aload_n i37_30 rfl ?_
    refine rn_dup i37_31 rfl ?_
    obtain ⟨v32, h32, h⟩ := Option.bind_eq_some_iff.mp h
    refine fr_gI (k := 0) i37_32 tf2_0 h32 ?_
    refine rn_iconst i37_35 ?_
    refine rn_iadd i37_36 ?_
    obtain ⟨w37, h37, h⟩ := Option.bind_eq_some_iff.mp h
    refine fr_pI (k := 0) i37_37 (pf2_0 37) h37 ?_
    exact rn_sub [] rfl (s_Lw_put_40 hD w37 r h)
/-- HandHeirs$Laws.put(II)V -/
def Lw_put (a0 : Nat) (x1 : Int) (x2 : Int) (w : Wd) : Option (Wd) := gd 2 w a0 (Lw_put_0 a0 x1 x2 w)
theorem S_Lw_put {g : Gp} {l : Launch} (a0 : Nat) (x1 : Int) (x2 : Int) (w : Wd) (r : Wd) (h : Lw_put a0 x1 x2 w = some r) : (wsh w a0).1 = 2 ∧ ∀ D, 0 ≤ D → Rn g l D 37 0 [(0, .inr (.inr a0)), (1, .inl x1), (2, .inl x2)] [] w none r := by
  obtain ⟨hg, h⟩ := gd_some h
  exact ⟨hg, fun D hD => rn_sub [0, 1, 2] rfl (s_Lw_put_0 hD a0 x1 x2 w r h)⟩
def Lw_leadHere_21 (w : Wd) : Option (Wd) :=
  some w
theorem s_Lw_leadHere_21 {g : Gp} {l : Launch} {D : Nat} (hD : 0 ≤ D) (w : Wd) (r : Wd) (h : Lw_leadHere_21 w = some r) : Rn g l D 38 21 [] [] w none r := by
  unfold Lw_leadHere_21 at h
  obtain rfl := Option.some.inj h
  exact rn_ret i38_21 mr38
def Lw_leadHere_0 (a0 : Nat) (x1 : Int) (w : Wd) : Option (Wd) :=
  if (x1 : Int) < 0 then
    Lw_leadHere_21 w
  else
    if (400 : Int) ≤ x1 then
      Lw_leadHere_21 w
    else
      (fgR w a0 2 2).bind fun v12 =>
      (fgI w a0 2 0).bind fun v17 =>
      (wrI w v12 x1 v17).bind fun w20 =>
      Lw_leadHere_21 w20
theorem s_Lw_leadHere_0 {g : Gp} {l : Launch} {D : Nat} (hD : 0 ≤ D) (a0 : Nat) (x1 : Int) (w : Wd) (r : Wd) (h : Lw_leadHere_0 a0 x1 w = some r) : Rn g l D 38 0 [(0, .inr (.inr a0)), (1, .inl x1)] [] w none r := by
  unfold Lw_leadHere_0 at h
  refine rn_iload_n i38_0 rfl ?_
  by_cases c1 : (x1 : Int) < 0
  · rw [if_pos c1] at h
    refine rn_if_lt_t i38_1 c1 ?_
    exact rn_sub [] rfl (s_Lw_leadHere_21 hD w r h)
  · rw [if_neg c1] at h
    refine rn_if_lt_f i38_1 c1 ?_
    refine rn_iload_n i38_4 rfl ?_
    refine rn_sipush i38_5 ?_
    by_cases c8 : (400 : Int) ≤ x1
    · rw [if_pos c8] at h
      refine rn_icmp_ge_t i38_8 c8 ?_
      exact rn_sub [] rfl (s_Lw_leadHere_21 hD w r h)
    · rw [if_neg c8] at h
      refine rn_icmp_ge_f i38_8 c8 ?_
      refine fr_aload_n i38_11 rfl ?_
      obtain ⟨v12, h12, h⟩ := Option.bind_eq_some_iff.mp h
      refine fr_gR (k := 2) i38_12 tf2_2 h12 ?_
      refine rn_iload_n i38_15 rfl ?_
      refine fr_aload_n i38_16 rfl ?_
      obtain ⟨v17, h17, h⟩ := Option.bind_eq_some_iff.mp h
      refine fr_gI (k := 0) i38_17 tf2_0 h17 ?_
      obtain ⟨w20, h20, h⟩ := Option.bind_eq_some_iff.mp h
      refine rn_iast i38_20 h20 ?_
      exact rn_sub [] rfl (s_Lw_leadHere_21 hD w20 r h)
/-- HandHeirs$Laws.leadHere(I)V -/
def Lw_leadHere (a0 : Nat) (x1 : Int) (w : Wd) : Option (Wd) := gd 2 w a0 (Lw_leadHere_0 a0 x1 w)
theorem S_Lw_leadHere {g : Gp} {l : Launch} (a0 : Nat) (x1 : Int) (w : Wd) (r : Wd) (h : Lw_leadHere a0 x1 w = some r) : (wsh w a0).1 = 2 ∧ ∀ D, 0 ≤ D → Rn g l D 38 0 [(0, .inr (.inr a0)), (1, .inl x1)] [] w none r := by
  obtain ⟨hg, h⟩ := gd_some h
  exact ⟨hg, fun D hD => rn_sub [0, 1] rfl (s_Lw_leadHere_0 hD a0 x1 w r h)⟩
def Pa_init_0 (a0 : Nat) (w : Wd) : Option (Wd) :=
  (tgd w a0 3).bind fun _ =>
  (fpI w a0 3 0 0).bind fun w6 =>
  (nwA w6 20 20).bind fun w12 =>
  (fpR w12 a0 3 1 (wn w6)).bind fun w14 =>
  (nwA w14 20 20).bind fun w20 =>
  (fpR w20 a0 3 2 (wn w14)).bind fun w22 =>
  some w22
theorem s_Pa_init_0 {g : Gp} {l : Launch} {D : Nat} (hD : 1 ≤ D) (a0 : Nat) (w : Wd) (r : Wd) (h : Pa_init_0 a0 w = some r) : Rn g l D 43 0 [(0, .inr (.inr a0))] [] w none r := by
  obtain ⟨D, rfl⟩ : ∃ D1, D = D1 + 1 := ⟨D - 1, by omega⟩
  unfold Pa_init_0 at h
  refine fr_aload_n i43_0 rfl ?_
  obtain ⟨_, h1, h⟩ := Option.bind_eq_some_iff.mp h
  refine fr_objI i43_1 h1 (by decide) (Nat.le_of_ble_eq_true rfl) ?_
  refine fr_aload_n i43_4 rfl ?_
  refine rn_iconst i43_5 ?_
  obtain ⟨w6, h6, h⟩ := Option.bind_eq_some_iff.mp h
  refine fr_pI (k := 0) i43_6 (pf3_0 43) h6 ?_
  refine fr_aload_n i43_9 rfl ?_
  refine rn_bipush i43_10 ?_
  obtain ⟨w12, h12, h⟩ := Option.bind_eq_some_iff.mp h
  refine rn_newa (t := 20) i43_12 (by decide) rfl h12 ?_
  obtain ⟨w14, h14, h⟩ := Option.bind_eq_some_iff.mp h
  refine fr_pR (k := 1) i43_14 pf43_3_1 h14 ?_
  refine fr_aload_n i43_17 rfl ?_
  refine rn_bipush i43_18 ?_
  obtain ⟨w20, h20, h⟩ := Option.bind_eq_some_iff.mp h
  refine rn_newa (t := 20) i43_20 (by decide) rfl h20 ?_
  obtain ⟨w22, h22, h⟩ := Option.bind_eq_some_iff.mp h
  refine fr_pR (k := 2) i43_22 pf43_3_2 h22 ?_
  obtain rfl := Option.some.inj h
  exact rn_ret i43_25 mr43
/-- HandHeirs$Paper.<init>()V -/
def Pa_init (a0 : Nat) (w : Wd) : Option (Wd) := gd 3 w a0 (Pa_init_0 a0 w)
theorem S_Pa_init {g : Gp} {l : Launch} (a0 : Nat) (w : Wd) (r : Wd) (h : Pa_init a0 w = some r) : (wsh w a0).1 = 3 ∧ ∀ D, 1 ≤ D → Rn g l D 43 0 [(0, .inr (.inr a0))] [] w none r := by
  obtain ⟨hg, h⟩ := gd_some h
  exact ⟨hg, fun D hD => rn_sub [0] rfl (s_Pa_init_0 hD a0 w r h)⟩
def Pa_add_0 (a0 : Nat) (x1 : Int) (x2 : Int) (w : Wd) : Option (Int × Wd) :=
  (fgI w a0 3 0).bind fun v1 =>
  if (v1 : Int) < 20 then
    (fgR w a0 3 1).bind fun v12 =>
    (fgI w a0 3 0).bind fun v16 =>
    (wrI w v12 v16 x1).bind fun w20 =>
    (fgR w20 a0 3 2).bind fun v22 =>
    (fgI w20 a0 3 0).bind fun v26 =>
    (wrI w20 v22 v26 x2).bind fun w30 =>
    (fgI w30 a0 3 0).bind fun v33 =>
    (fpI w30 a0 3 0 (w32 (v33 + 1))).bind fun w38 =>
    (fgI w38 a0 3 0).bind fun v42 =>
    some ((w32 (v42 - 1)), w38)
  else
    some ((-1), w)
theorem s_Pa_add_0 {g : Gp} {l : Launch} {D : Nat} (hD : 0 ≤ D) (a0 : Nat) (x1 : Int) (x2 : Int) (w : Wd) (r : Int × Wd) (h : Pa_add_0 a0 x1 x2 w = some r) : Rn g l D 44 0 [(0, .inr (.inr a0)), (1, .inl x1), (2, .inl x2)] [] w (some (.inl r.1)) r.2 := by
  unfold Pa_add_0 at h
  refine fr_aload_n i44_0 rfl ?_
  obtain ⟨v1, h1, h⟩ := Option.bind_eq_some_iff.mp h
  refine fr_gI (k := 0) i44_1 tf3_0 h1 ?_
  refine rn_bipush i44_4 ?_
  by_cases c6 : (v1 : Int) < 20
  · rw [if_pos c6] at h
    refine rn_icmp_lt_t i44_6 c6 ?_
    refine fr_aload_n i44_11 rfl ?_
    obtain ⟨v12, h12, h⟩ := Option.bind_eq_some_iff.mp h
    refine fr_gR (k := 1) i44_12 tf3_1 h12 ?_
    refine fr_aload_n i44_15 rfl ?_
    obtain ⟨v16, h16, h⟩ := Option.bind_eq_some_iff.mp h
    refine fr_gI (k := 0) i44_16 tf3_0 h16 ?_
    refine rn_iload_n i44_19 rfl ?_
    obtain ⟨w20, h20, h⟩ := Option.bind_eq_some_iff.mp h
    refine rn_iast i44_20 h20 ?_
    refine fr_aload_n i44_21 rfl ?_
    obtain ⟨v22, h22, h⟩ := Option.bind_eq_some_iff.mp h
    refine fr_gR (k := 2) i44_22 tf3_2 h22 ?_
    refine fr_aload_n i44_25 rfl ?_
    obtain ⟨v26, h26, h⟩ := Option.bind_eq_some_iff.mp h
    refine fr_gI (k := 0) i44_26 tf3_0 h26 ?_
    refine rn_iload_n i44_29 rfl ?_
    obtain ⟨w30, h30, h⟩ := Option.bind_eq_some_iff.mp h
    refine rn_iast i44_30 h30 ?_
    refine fr_aload_n i44_31 rfl ?_
    refine rn_dup i44_32 rfl ?_
    obtain ⟨v33, h33, h⟩ := Option.bind_eq_some_iff.mp h
    refine fr_gI (k := 0) i44_33 tf3_0 h33 ?_
    refine rn_iconst i44_36 ?_
    refine rn_iadd i44_37 ?_
    obtain ⟨w38, h38, h⟩ := Option.bind_eq_some_iff.mp h
    refine fr_pI (k := 0) i44_38 (pf3_0 44) h38 ?_
    refine fr_aload_n i44_41 rfl ?_
    obtain ⟨v42, h42, h⟩ := Option.bind_eq_some_iff.mp h
    refine fr_gI (k := 0) i44_42 tf3_0 h42 ?_
    refine rn_iconst i44_45 ?_
    refine rn_isub i44_46 ?_
    obtain rfl := Option.some.inj h
    exact rn_retI i44_47 mr44
  · rw [if_neg c6] at h
    refine rn_icmp_lt_f i44_6 c6 ?_
    refine rn_iconst i44_9 ?_
    obtain rfl := Option.some.inj h
    exact rn_retI i44_10 mr44
/-- HandHeirs$Paper.add(II)I -/
def Pa_add (a0 : Nat) (x1 : Int) (x2 : Int) (w : Wd) : Option (Int × Wd) := gd 3 w a0 (Pa_add_0 a0 x1 x2 w)
theorem S_Pa_add {g : Gp} {l : Launch} (a0 : Nat) (x1 : Int) (x2 : Int) (w : Wd) (r : Int × Wd) (h : Pa_add a0 x1 x2 w = some r) : (wsh w a0).1 = 3 ∧ ∀ D, 0 ≤ D → Rn g l D 44 0 [(0, .inr (.inr a0)), (1, .inl x1), (2, .inl x2)] [] w (some (.inl r.1)) r.2 := by
  obtain ⟨hg, h⟩ := gd_some h
  exact ⟨hg, fun D hD => rn_sub [0, 1, 2] rfl (s_Pa_add_0 hD a0 x1 x2 w r h)⟩
def St_init_0 (a0 : Nat) (w : Wd) : Option (Wd) :=
  (tgd w a0 9).bind fun _ =>
  (fpI w a0 9 0 0).bind fun w6 =>
  (fpI w6 a0 9 1 0).bind fun w11 =>
  (fpI w11 a0 9 2 (-2)).bind fun w17 =>
  (nwA w17 20 6).bind fun w23 =>
  (fpR w23 a0 9 3 (wn w17)).bind fun w25 =>
  (nwA w25 20 36).bind fun w31 =>
  (fpR w31 a0 9 4 (wn w25)).bind fun w33 =>
  (nwA w33 20 6).bind fun w39 =>
  (fpR w39 a0 9 5 (wn w33)).bind fun w41 =>
  some w41
theorem s_St_init_0 {g : Gp} {l : Launch} {D : Nat} (hD : 1 ≤ D) (a0 : Nat) (w : Wd) (r : Wd) (h : St_init_0 a0 w = some r) : Rn g l D 87 0 [(0, .inr (.inr a0))] [] w none r := by
  obtain ⟨D, rfl⟩ : ∃ D1, D = D1 + 1 := ⟨D - 1, by omega⟩
  unfold St_init_0 at h
  refine fr_aload_n i87_0 rfl ?_
  obtain ⟨_, h1, h⟩ := Option.bind_eq_some_iff.mp h
  refine fr_objI i87_1 h1 (by decide) (Nat.le_of_ble_eq_true rfl) ?_
  refine fr_aload_n i87_4 rfl ?_
  refine rn_iconst i87_5 ?_
  obtain ⟨w6, h6, h⟩ := Option.bind_eq_some_iff.mp h
  refine fr_pI (k := 0) i87_6 (pf9_0 87) h6 ?_
  refine fr_aload_n i87_9 rfl ?_
  refine rn_iconst i87_10 ?_
  obtain ⟨w11, h11, h⟩ := Option.bind_eq_some_iff.mp h
  refine fr_pI (k := 1) i87_11 (pf9_1 87) h11 ?_
  refine fr_aload_n i87_14 rfl ?_
  refine rn_bipush i87_15 ?_
  obtain ⟨w17, h17, h⟩ := Option.bind_eq_some_iff.mp h
  refine fr_pI (k := 2) i87_17 (pf9_2 87) h17 ?_
  refine fr_aload_n i87_20 rfl ?_
  refine rn_bipush i87_21 ?_
  obtain ⟨w23, h23, h⟩ := Option.bind_eq_some_iff.mp h
  refine rn_newa (t := 20) i87_23 (by decide) rfl h23 ?_
  obtain ⟨w25, h25, h⟩ := Option.bind_eq_some_iff.mp h
  refine fr_pR (k := 3) i87_25 pf87_9_3 h25 ?_
  refine fr_aload_n i87_28 rfl ?_
  refine rn_bipush i87_29 ?_
  obtain ⟨w31, h31, h⟩ := Option.bind_eq_some_iff.mp h
  refine rn_newa (t := 20) i87_31 (by decide) rfl h31 ?_
  obtain ⟨w33, h33, h⟩ := Option.bind_eq_some_iff.mp h
  refine fr_pR (k := 4) i87_33 pf87_9_4 h33 ?_
  refine fr_aload_n i87_36 rfl ?_
  refine rn_bipush i87_37 ?_
  obtain ⟨w39, h39, h⟩ := Option.bind_eq_some_iff.mp h
  refine rn_newa (t := 20) i87_39 (by decide) rfl h39 ?_
  obtain ⟨w41, h41, h⟩ := Option.bind_eq_some_iff.mp h
  refine fr_pR (k := 5) i87_41 pf87_9_5 h41 ?_
  obtain rfl := Option.some.inj h
  exact rn_ret i87_44 mr87
/-- HandHeirs$State.<init>()V -/
def St_init (a0 : Nat) (w : Wd) : Option (Wd) := gd 9 w a0 (St_init_0 a0 w)
theorem S_St_init {g : Gp} {l : Launch} (a0 : Nat) (w : Wd) (r : Wd) (h : St_init a0 w = some r) : (wsh w a0).1 = 9 ∧ ∀ D, 1 ≤ D → Rn g l D 87 0 [(0, .inr (.inr a0))] [] w none r := by
  obtain ⟨hg, h⟩ := gd_some h
  exact ⟨hg, fun D hD => rn_sub [0] rfl (s_St_init_0 hD a0 w r h)⟩
def Ps_init_25 : Nat → Nat → Int → Wd → Option (Wd)
  | 0, _, _, _ => none
  | n + 1, a0, x1, w =>
    if (30 : Int) ≤ x1 then
      some w
    else
      (fgR w a0 4 2).bind fun v32 =>
      (St_init (wn w) (nw w 9 6)).bind fun r40 =>
      (wrR r40 v32 x1 (wn w)).bind fun w43 =>
      Ps_init_25 n a0 (w32 (x1 + 1)) w43
theorem s_Ps_init_25 {g : Gp} {l : Launch} {D : Nat} (hD : 2 ≤ D) : ∀ (n : Nat) (a0 : Nat) (x1 : Int) (w : Wd) (r : Wd), Ps_init_25 n a0 x1 w = some r → Rn g l D 45 25 [(0, .inr (.inr a0)), (1, .inl x1)] [] w none r := by
  obtain ⟨D, rfl⟩ : ∃ D1, D = D1 + 1 := ⟨D - 1, by omega⟩
  intro n
  induction n with
  | zero => intro a0 x1 w r h; cases (show (none : Option (Wd)) = some r from h)
  | succ n ih =>
    intro a0 x1 w r h
    unfold Ps_init_25 at h
    refine rn_iload_n i45_25 rfl ?_
    refine rn_bipush i45_26 ?_
    by_cases c28 : (30 : Int) ≤ x1
    · rw [if_pos c28] at h
      refine rn_icmp_ge_t i45_28 c28 ?_
      obtain rfl := Option.some.inj h
      exact rn_ret i45_50 mr45
    · rw [if_neg c28] at h
      refine rn_icmp_ge_f i45_28 c28 ?_
      refine fr_aload_n i45_31 rfl ?_
      obtain ⟨v32, h32, h⟩ := Option.bind_eq_some_iff.mp h
      refine fr_gR (k := 2) i45_32 tf4_2 h32 ?_
      refine rn_iload_n i45_35 rfl ?_
      refine rn_new i45_36 (by decide) ?_
      refine rn_dup i45_39 rfl ?_
      obtain ⟨r40, h40, h⟩ := Option.bind_eq_some_iff.mp h
      obtain ⟨g40, c40⟩ := S_St_init (wn w) (nw w 9 6) r40 h40
      refine fr_callI (nst := 1) (a := (wn w)) (As := []) (st := [.inr (.inr (wn w)), .inl x1, .inr (.inr v32)]) i45_40 (cq87 (wn w)) rfl (Nat.le_of_ble_eq_true rfl) g40 (c40 _ (by omega)) ?_
      obtain ⟨w43, h43, h⟩ := Option.bind_eq_some_iff.mp h
      refine rn_aast i45_43 h43 ?_
      refine rn_iinc (ls1 := [(1, .inl (w32 (x1 + 1))), (0, .inr (.inr a0))]) i45_44 rfl rfl ?_
      refine rn_goto i45_47 ?_
      exact rn_sub [1, 0] rfl (ih a0 (w32 (x1 + 1)) w43 r h)
def Ps_init_0 (a0 : Nat) (w : Wd) : Option (Wd) :=
  (tgd w a0 4).bind fun _ =>
  (fpI w a0 4 0 0).bind fun w6 =>
  (fpI w6 a0 4 1 0).bind fun w11 =>
  (nwA w11 24 30).bind fun w17 =>
  (fpR w17 a0 4 2 (wn w11)).bind fun w20 =>
  Ps_init_25 FU a0 0 w20
theorem s_Ps_init_0 {g : Gp} {l : Launch} {D : Nat} (hD : 2 ≤ D) (a0 : Nat) (w : Wd) (r : Wd) (h : Ps_init_0 a0 w = some r) : Rn g l D 45 0 [(0, .inr (.inr a0))] [] w none r := by
  obtain ⟨D, rfl⟩ : ∃ D1, D = D1 + 1 := ⟨D - 1, by omega⟩
  unfold Ps_init_0 at h
  refine fr_aload_n i45_0 rfl ?_
  obtain ⟨_, h1, h⟩ := Option.bind_eq_some_iff.mp h
  refine fr_objI i45_1 h1 (by decide) (Nat.le_of_ble_eq_true rfl) ?_
  refine fr_aload_n i45_4 rfl ?_
  refine rn_iconst i45_5 ?_
  obtain ⟨w6, h6, h⟩ := Option.bind_eq_some_iff.mp h
  refine fr_pI (k := 0) i45_6 (pf4_0 45) h6 ?_
  refine fr_aload_n i45_9 rfl ?_
  refine rn_iconst i45_10 ?_
  obtain ⟨w11, h11, h⟩ := Option.bind_eq_some_iff.mp h
  refine fr_pI (k := 1) i45_11 (pf4_1 45) h11 ?_
  refine fr_aload_n i45_14 rfl ?_
  refine rn_bipush i45_15 ?_
  obtain ⟨w17, h17, h⟩ := Option.bind_eq_some_iff.mp h
  refine rn_anew i45_17 (by decide) h17 ?_
  obtain ⟨w20, h20, h⟩ := Option.bind_eq_some_iff.mp h
  refine fr_pR (k := 2) i45_20 pf45_4_2 h20 ?_
  refine rn_iconst i45_23 ?_
  refine rn_istore_n (ls1 := [(1, .inl 0), (0, .inr (.inr a0))]) i45_24 rfl ?_
  exact rn_sub [1, 0] rfl (s_Ps_init_25 hD FU a0 0 w20 r h)
/-- HandHeirs$Past.<init>()V -/
def Ps_init (a0 : Nat) (w : Wd) : Option (Wd) := gd 4 w a0 (Ps_init_0 a0 w)
theorem S_Ps_init {g : Gp} {l : Launch} (a0 : Nat) (w : Wd) (r : Wd) (h : Ps_init a0 w = some r) : (wsh w a0).1 = 4 ∧ ∀ D, 2 ≤ D → Rn g l D 45 0 [(0, .inr (.inr a0))] [] w none r := by
  obtain ⟨hg, h⟩ := gd_some h
  exact ⟨hg, fun D hD => rn_sub [0] rfl (s_Ps_init_0 hD a0 w r h)⟩
def Ps_clear_0 (a0 : Nat) (w : Wd) : Option (Wd) :=
  (fpI w a0 4 0 0).bind fun w2 =>
  (fpI w2 a0 4 1 0).bind fun w7 =>
  some w7
theorem s_Ps_clear_0 {g : Gp} {l : Launch} {D : Nat} (hD : 0 ≤ D) (a0 : Nat) (w : Wd) (r : Wd) (h : Ps_clear_0 a0 w = some r) : Rn g l D 46 0 [(0, .inr (.inr a0))] [] w none r := by
  unfold Ps_clear_0 at h
  refine fr_aload_n i46_0 rfl ?_
  refine rn_iconst i46_1 ?_
  obtain ⟨w2, h2, h⟩ := Option.bind_eq_some_iff.mp h
  refine fr_pI (k := 0) i46_2 (pf4_0 46) h2 ?_
  refine fr_aload_n i46_5 rfl ?_
  refine rn_iconst i46_6 ?_
  obtain ⟨w7, h7, h⟩ := Option.bind_eq_some_iff.mp h
  refine fr_pI (k := 1) i46_7 (pf4_1 46) h7 ?_
  obtain rfl := Option.some.inj h
  exact rn_ret i46_10 mr46
/-- HandHeirs$Past.clear()V -/
def Ps_clear (a0 : Nat) (w : Wd) : Option (Wd) := gd 4 w a0 (Ps_clear_0 a0 w)
theorem S_Ps_clear {g : Gp} {l : Launch} (a0 : Nat) (w : Wd) (r : Wd) (h : Ps_clear a0 w = some r) : (wsh w a0).1 = 4 ∧ ∀ D, 0 ≤ D → Rn g l D 46 0 [(0, .inr (.inr a0))] [] w none r := by
  obtain ⟨hg, h⟩ := gd_some h
  exact ⟨hg, fun D hD => rn_sub [0] rfl (s_Ps_clear_0 hD a0 w r h)⟩
def St_copy_0 (a0 : Nat) (a1 : Nat) (w : Wd) : Option (Wd) :=
  (fgI w a1 9 0).bind fun v2 =>
  (fpI w a0 9 0 v2).bind fun w5 =>
  (fgI w5 a1 9 1).bind fun v10 =>
  (fpI w5 a0 9 1 v10).bind fun w13 =>
  (fgI w13 a1 9 2).bind fun v18 =>
  (fpI w13 a0 9 2 v18).bind fun w21 =>
  (fgR w21 a1 9 3).bind fun v25 =>
  (fgR w21 a0 9 3).bind fun v30 =>
  (cpyI w21 v25 0 v30 0 6).bind fun w36 =>
  (fgR w36 a1 9 4).bind fun v40 =>
  (fgR w36 a0 9 4).bind fun v45 =>
  (cpyI w36 v40 0 v45 0 36).bind fun w51 =>
  (fgR w51 a1 9 5).bind fun v55 =>
  (fgR w51 a0 9 5).bind fun v60 =>
  (cpyI w51 v55 0 v60 0 6).bind fun w66 =>
  some w66
theorem s_St_copy_0 {g : Gp} {l : Launch} {D : Nat} (hD : 1 ≤ D) (a0 : Nat) (a1 : Nat) (w : Wd) (r : Wd) (h : St_copy_0 a0 a1 w = some r) : Rn g l D 89 0 [(0, .inr (.inr a0)), (1, .inr (.inr a1))] [] w none r := by
  obtain ⟨D, rfl⟩ : ∃ D1, D = D1 + 1 := ⟨D - 1, by omega⟩
  unfold St_copy_0 at h
  refine fr_aload_n i89_0 rfl ?_
  refine fr_aload_n i89_1 rfl ?_
  obtain ⟨v2, h2, h⟩ := Option.bind_eq_some_iff.mp h
  refine fr_gI (k := 0) i89_2 tf9_0 h2 ?_
  obtain ⟨w5, h5, h⟩ := Option.bind_eq_some_iff.mp h
  refine fr_pI (k := 0) i89_5 (pf9_0 89) h5 ?_
  refine fr_aload_n i89_8 rfl ?_
  refine fr_aload_n i89_9 rfl ?_
  obtain ⟨v10, h10, h⟩ := Option.bind_eq_some_iff.mp h
  refine fr_gI (k := 1) i89_10 tf9_1 h10 ?_
  obtain ⟨w13, h13, h⟩ := Option.bind_eq_some_iff.mp h
  refine fr_pI (k := 1) i89_13 (pf9_1 89) h13 ?_
  refine fr_aload_n i89_16 rfl ?_
  refine fr_aload_n i89_17 rfl ?_
  obtain ⟨v18, h18, h⟩ := Option.bind_eq_some_iff.mp h
  refine fr_gI (k := 2) i89_18 tf9_2 h18 ?_
  obtain ⟨w21, h21, h⟩ := Option.bind_eq_some_iff.mp h
  refine fr_pI (k := 2) i89_21 (pf9_2 89) h21 ?_
  refine fr_aload_n i89_24 rfl ?_
  obtain ⟨v25, h25, h⟩ := Option.bind_eq_some_iff.mp h
  refine fr_gR (k := 3) i89_25 tf9_3 h25 ?_
  refine rn_iconst i89_28 ?_
  refine fr_aload_n i89_29 rfl ?_
  obtain ⟨v30, h30, h⟩ := Option.bind_eq_some_iff.mp h
  refine fr_gR (k := 3) i89_30 tf9_3 h30 ?_
  refine rn_iconst i89_33 ?_
  refine rn_bipush i89_34 ?_
  obtain ⟨w36, h36, h⟩ := Option.bind_eq_some_iff.mp h
  refine rn_copy i89_36 (Nat.le_of_ble_eq_true rfl) h36 ?_
  refine fr_aload_n i89_39 rfl ?_
  obtain ⟨v40, h40, h⟩ := Option.bind_eq_some_iff.mp h
  refine fr_gR (k := 4) i89_40 tf9_4 h40 ?_
  refine rn_iconst i89_43 ?_
  refine fr_aload_n i89_44 rfl ?_
  obtain ⟨v45, h45, h⟩ := Option.bind_eq_some_iff.mp h
  refine fr_gR (k := 4) i89_45 tf9_4 h45 ?_
  refine rn_iconst i89_48 ?_
  refine rn_bipush i89_49 ?_
  obtain ⟨w51, h51, h⟩ := Option.bind_eq_some_iff.mp h
  refine rn_copy i89_51 (Nat.le_of_ble_eq_true rfl) h51 ?_
  refine fr_aload_n i89_54 rfl ?_
  obtain ⟨v55, h55, h⟩ := Option.bind_eq_some_iff.mp h
  refine fr_gR (k := 5) i89_55 tf9_5 h55 ?_
  refine rn_iconst i89_58 ?_
  refine fr_aload_n i89_59 rfl ?_
  obtain ⟨v60, h60, h⟩ := Option.bind_eq_some_iff.mp h
  refine fr_gR (k := 5) i89_60 tf9_5 h60 ?_
  refine rn_iconst i89_63 ?_
  refine rn_bipush i89_64 ?_
  obtain ⟨w66, h66, h⟩ := Option.bind_eq_some_iff.mp h
  refine rn_copy i89_66 (Nat.le_of_ble_eq_true rfl) h66 ?_
  obtain rfl := Option.some.inj h
  exact rn_ret i89_69 mr89
/-- HandHeirs$State.copy(LHandHeirs$State;)V -/
def St_copy (a0 : Nat) (a1 : Nat) (w : Wd) : Option (Wd) := gd 9 w a0 (St_copy_0 a0 a1 w)
theorem S_St_copy {g : Gp} {l : Launch} (a0 : Nat) (a1 : Nat) (w : Wd) (r : Wd) (h : St_copy a0 a1 w = some r) : (wsh w a0).1 = 9 ∧ ∀ D, 1 ≤ D → Rn g l D 89 0 [(0, .inr (.inr a0)), (1, .inr (.inr a1))] [] w none r := by
  obtain ⟨hg, h⟩ := gd_some h
  exact ⟨hg, fun D hD => rn_sub [0, 1] rfl (s_St_copy_0 hD a0 a1 w r h)⟩
