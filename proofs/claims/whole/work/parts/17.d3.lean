theorem dX9_init_0 : decode cX9_init 0 = .ok (.aload_n 0, 1) := by decide +kernel
theorem dX9_init_1 : decode cX9_init 1 = .ok (.invokespecial 1, 3) := by decide +kernel
theorem dX9_init_4 : decode cX9_init 4 = .ok (.aload_n 0, 1) := by decide +kernel
theorem dX9_init_5 : decode cX9_init 5 = .ok (.sipush 12800, 3) := by decide +kernel
theorem dX9_init_8 : decode cX9_init 8 = .ok (.newarray .byte, 2) := by decide +kernel
theorem dX9_init_10 : decode cX9_init 10 = .ok (.putfield 7, 3) := by decide +kernel
theorem dX9_init_13 : decode cX9_init 13 = .ok (.aload_n 0, 1) := by decide +kernel
theorem dX9_init_14 : decode cX9_init 14 = .ok (.iconst (-1), 1) := by decide +kernel
theorem dX9_init_15 : decode cX9_init 15 = .ok (.putfield 13, 3) := by decide +kernel
theorem dX9_init_18 : decode cX9_init 18 = .ok (.aload_n 0, 1) := by decide +kernel
theorem dX9_init_19 : decode cX9_init 19 = .ok (.iconst 1, 1) := by decide +kernel
theorem dX9_init_20 : decode cX9_init 20 = .ok (.putfield 17, 3) := by decide +kernel
theorem dX9_init_23 : decode cX9_init 23 = .ok (.aload_n 0, 1) := by decide +kernel
theorem dX9_init_24 : decode cX9_init 24 = .ok (.iconst (-1), 1) := by decide +kernel
theorem dX9_init_25 : decode cX9_init 25 = .ok (.putfield 21, 3) := by decide +kernel
theorem dX9_init_28 : decode cX9_init 28 = .ok (.aload_n 0, 1) := by decide +kernel
theorem dX9_init_29 : decode cX9_init 29 = .ok (.bipush 40, 2) := by decide +kernel
theorem dX9_init_31 : decode cX9_init 31 = .ok (.newarray .long, 2) := by decide +kernel
theorem dX9_init_33 : decode cX9_init 33 = .ok (.putfield 24, 3) := by decide +kernel
theorem dX9_init_36 : decode cX9_init 36 = .ok (.aload_n 0, 1) := by decide +kernel
theorem dX9_init_37 : decode cX9_init 37 = .ok (.sipush 3000, 3) := by decide +kernel
theorem dX9_init_40 : decode cX9_init 40 = .ok (.newarray .long, 2) := by decide +kernel
theorem dX9_init_42 : decode cX9_init 42 = .ok (.putfield 28, 3) := by decide +kernel
theorem dX9_init_45 : decode cX9_init 45 = .ok (.aload_n 0, 1) := by decide +kernel
theorem dX9_init_46 : decode cX9_init 46 = .ok (.bipush 96, 2) := by decide +kernel
theorem dX9_init_48 : decode cX9_init 48 = .ok (.newarray .byte, 2) := by decide +kernel
theorem dX9_init_50 : decode cX9_init 50 = .ok (.putfield 31, 3) := by decide +kernel
theorem dX9_init_53 : decode cX9_init 53 = .ok (.aload_n 0, 1) := by decide +kernel
theorem dX9_init_54 : decode cX9_init 54 = .ok (.iconst (-1), 1) := by decide +kernel
theorem dX9_init_55 : decode cX9_init 55 = .ok (.putfield 34, 3) := by decide +kernel
theorem dX9_init_58 : decode cX9_init 58 = .ok (.aload_n 0, 1) := by decide +kernel
theorem dX9_init_59 : decode cX9_init 59 = .ok (.sipush 200, 3) := by decide +kernel
theorem dX9_init_62 : decode cX9_init 62 = .ok (.newarray .boolean, 2) := by decide +kernel
theorem dX9_init_64 : decode cX9_init 64 = .ok (.putfield 37, 3) := by decide +kernel
theorem dX9_init_67 : decode cX9_init 67 = .ok (.aload_n 0, 1) := by decide +kernel
theorem dX9_init_68 : decode cX9_init 68 = .ok (.bipush 51, 2) := by decide +kernel
theorem dX9_init_70 : decode cX9_init 70 = .ok (.newarray .byte, 2) := by decide +kernel
theorem dX9_init_72 : decode cX9_init 72 = .ok (.putfield 41, 3) := by decide +kernel
theorem dX9_init_75 : decode cX9_init 75 = .ok (.aload_n 0, 1) := by decide +kernel
theorem dX9_init_76 : decode cX9_init 76 = .ok (.bipush 64, 2) := by decide +kernel
theorem dX9_init_78 : decode cX9_init 78 = .ok (.newarray .byte, 2) := by decide +kernel
theorem dX9_init_80 : decode cX9_init 80 = .ok (.putfield 44, 3) := by decide +kernel
theorem dX9_init_83 : decode cX9_init 83 = .ok (.aload_n 0, 1) := by decide +kernel
theorem dX9_init_84 : decode cX9_init 84 = .ok (.iconst 4, 1) := by decide +kernel
theorem dX9_init_85 : decode cX9_init 85 = .ok (.newarray .long, 2) := by decide +kernel
theorem dX9_init_87 : decode cX9_init 87 = .ok (.putfield 47, 3) := by decide +kernel
theorem dX9_init_90 : decode cX9_init 90 = .ok (.aload_n 0, 1) := by decide +kernel
theorem dX9_init_91 : decode cX9_init 91 = .ok (.iconst 4, 1) := by decide +kernel
theorem dX9_init_92 : decode cX9_init 92 = .ok (.newarray .int, 2) := by decide +kernel
theorem dX9_init_94 : decode cX9_init 94 = .ok (.putfield 50, 3) := by decide +kernel
theorem dX9_init_97 : decode cX9_init 97 = .ok (.aload_n 0, 1) := by decide +kernel
theorem dX9_init_98 : decode cX9_init 98 = .ok (.sipush 900, 3) := by decide +kernel
theorem dX9_init_101 : decode cX9_init 101 = .ok (.newarray .long, 2) := by decide +kernel
theorem dX9_init_103 : decode cX9_init 103 = .ok (.putfield 54, 3) := by decide +kernel
theorem dX9_init_106 : decode cX9_init 106 = .ok (.aload_n 0, 1) := by decide +kernel
theorem dX9_init_107 : decode cX9_init 107 = .ok (.iconst 4, 1) := by decide +kernel
theorem dX9_init_108 : decode cX9_init 108 = .ok (.newarray .long, 2) := by decide +kernel
theorem dX9_init_110 : decode cX9_init 110 = .ok (.putfield 57, 3) := by decide +kernel
theorem dX9_init_113 : decode cX9_init 113 = .ok (.aload_n 0, 1) := by decide +kernel
theorem dX9_init_114 : decode cX9_init 114 = .ok (.iconst 4, 1) := by decide +kernel
theorem dX9_init_115 : decode cX9_init 115 = .ok (.newarray .int, 2) := by decide +kernel
theorem dX9_init_117 : decode cX9_init 117 = .ok (.putfield 60, 3) := by decide +kernel
theorem dX9_init_120 : decode cX9_init 120 = .ok (.aload_n 0, 1) := by decide +kernel
theorem dX9_init_121 : decode cX9_init 121 = .ok (.iconst 0, 1) := by decide +kernel
theorem dX9_init_122 : decode cX9_init 122 = .ok (.putfield 63, 3) := by decide +kernel
theorem dX9_init_125 : decode cX9_init 125 = .ok (.return_, 1) := by decide +kernel
theorem dX9_pad_0 : decode cX9_pad 0 = .ok (.lload_n 0, 1) := by decide +kernel
theorem dX9_pad_1 : decode cX9_pad 1 = .ok (.ldc2_w 66, 3) := by decide +kernel
theorem dX9_pad_4 : decode cX9_pad 4 = .ok (.lload_n 2, 1) := by decide +kernel
theorem dX9_pad_5 : decode cX9_pad 5 = .ok (.lmul, 1) := by decide +kernel
theorem dX9_pad_6 : decode cX9_pad 6 = .ok (.ladd, 1) := by decide +kernel
theorem dX9_pad_7 : decode cX9_pad 7 = .ok (.ldc2_w 68, 3) := by decide +kernel
theorem dX9_pad_10 : decode cX9_pad 10 = .ok (.lload 4, 2) := by decide +kernel
theorem dX9_pad_12 : decode cX9_pad 12 = .ok (.lmul, 1) := by decide +kernel
theorem dX9_pad_13 : decode cX9_pad 13 = .ok (.ladd, 1) := by decide +kernel
theorem dX9_pad_14 : decode cX9_pad 14 = .ok (.lstore 6, 2) := by decide +kernel
theorem dX9_pad_16 : decode cX9_pad 16 = .ok (.lload 6, 2) := by decide +kernel
theorem dX9_pad_18 : decode cX9_pad 18 = .ok (.lload 6, 2) := by decide +kernel
theorem dX9_pad_20 : decode cX9_pad 20 = .ok (.bipush 29, 2) := by decide +kernel
theorem dX9_pad_22 : decode cX9_pad 22 = .ok (.lushr, 1) := by decide +kernel
theorem dX9_pad_23 : decode cX9_pad 23 = .ok (.lxor, 1) := by decide +kernel
theorem dX9_pad_24 : decode cX9_pad 24 = .ok (.ldc2_w 70, 3) := by decide +kernel
theorem dX9_pad_27 : decode cX9_pad 27 = .ok (.lmul, 1) := by decide +kernel
theorem dX9_pad_28 : decode cX9_pad 28 = .ok (.lstore 6, 2) := by decide +kernel
theorem dX9_pad_30 : decode cX9_pad 30 = .ok (.lload 6, 2) := by decide +kernel
theorem dX9_pad_32 : decode cX9_pad 32 = .ok (.lload 6, 2) := by decide +kernel
theorem dX9_pad_34 : decode cX9_pad 34 = .ok (.bipush 32, 2) := by decide +kernel
theorem dX9_pad_36 : decode cX9_pad 36 = .ok (.lushr, 1) := by decide +kernel
theorem dX9_pad_37 : decode cX9_pad 37 = .ok (.lxor, 1) := by decide +kernel
theorem dX9_pad_38 : decode cX9_pad 38 = .ok (.lreturn, 1) := by decide +kernel
theorem dX9_byteAt_0 : decode cX9_byteAt 0 = .ok (.aload_n 0, 1) := by decide +kernel
theorem dX9_byteAt_1 : decode cX9_byteAt 1 = .ok (.getfield 7, 3) := by decide +kernel
theorem dX9_byteAt_4 : decode cX9_byteAt 4 = .ok (.bipush 64, 2) := by decide +kernel
theorem dX9_byteAt_6 : decode cX9_byteAt 6 = .ok (.iload_n 1, 1) := by decide +kernel
theorem dX9_byteAt_7 : decode cX9_byteAt 7 = .ok (.imul, 1) := by decide +kernel
theorem dX9_byteAt_8 : decode cX9_byteAt 8 = .ok (.iload_n 2, 1) := by decide +kernel
theorem dX9_byteAt_9 : decode cX9_byteAt 9 = .ok (.iadd, 1) := by decide +kernel
theorem dX9_byteAt_10 : decode cX9_byteAt 10 = .ok (.baload, 1) := by decide +kernel
theorem dX9_byteAt_11 : decode cX9_byteAt 11 = .ok (.sipush 255, 3) := by decide +kernel
theorem dX9_byteAt_14 : decode cX9_byteAt 14 = .ok (.iand, 1) := by decide +kernel
theorem dX9_byteAt_15 : decode cX9_byteAt 15 = .ok (.ireturn, 1) := by decide +kernel
set_option maxRecDepth 20000 in
theorem ggX9_writingOf_X9_byteAt : GoodIn wsX9_writingOf wsX9_byteAt := goodIn_r _ [5, 6, 7, 8, 9, 10, 11, 12, 13, 14, 15, 16, 17, 18, 19, 20, 21, 22, 23, 24, 25, 26, 27, 28, 29] (by decide +kernel) (by decide +kernel)
set_option maxRecDepth 20000 in
theorem gX9_writingOf_X9_byteAt : GoodIn wsX9_writingOf (wsV RX9 72 RX9 yX9_byteAt wsX9_byteAt) := goodIn_app (goodIn_of _ (by decide +kernel)) ggX9_writingOf_X9_byteAt
theorem dX9_writingOf_0 : decode cX9_writingOf 0 = .ok (.iconst 0, 1) := by decide +kernel
theorem dX9_writingOf_1 : decode cX9_writingOf 1 = .ok (.istore_n 2, 1) := by decide +kernel
theorem dX9_writingOf_2 : decode cX9_writingOf 2 = .ok (.iconst 1, 1) := by decide +kernel
theorem dX9_writingOf_3 : decode cX9_writingOf 3 = .ok (.istore_n 3, 1) := by decide +kernel
theorem dX9_writingOf_4 : decode cX9_writingOf 4 = .ok (.iload_n 3, 1) := by decide +kernel
theorem dX9_writingOf_5 : decode cX9_writingOf 5 = .ok (.iconst 4, 1) := by decide +kernel
theorem dX9_writingOf_6 : decode cX9_writingOf 6 = .ok (.if_icmp .gt 21, 3) := by decide +kernel
theorem dX9_writingOf_9 : decode cX9_writingOf 9 = .ok (.iload_n 2, 1) := by decide +kernel
theorem dX9_writingOf_10 : decode cX9_writingOf 10 = .ok (.bipush 8, 2) := by decide +kernel
theorem dX9_writingOf_12 : decode cX9_writingOf 12 = .ok (.ishl, 1) := by decide +kernel
theorem dX9_writingOf_13 : decode cX9_writingOf 13 = .ok (.aload_n 0, 1) := by decide +kernel
theorem dX9_writingOf_14 : decode cX9_writingOf 14 = .ok (.iload_n 1, 1) := by decide +kernel
theorem dX9_writingOf_15 : decode cX9_writingOf 15 = .ok (.iload_n 3, 1) := by decide +kernel
theorem dX9_writingOf_16 : decode cX9_writingOf 16 = .ok (.invokevirtual 72, 3) := by decide +kernel
theorem dX9_writingOf_19 : decode cX9_writingOf 19 = .ok (.ior, 1) := by decide +kernel
theorem dX9_writingOf_20 : decode cX9_writingOf 20 = .ok (.istore_n 2, 1) := by decide +kernel
theorem dX9_writingOf_21 : decode cX9_writingOf 21 = .ok (.iinc 3 1, 3) := by decide +kernel
theorem dX9_writingOf_24 : decode cX9_writingOf 24 = .ok (.goto (-20), 3) := by decide +kernel
theorem dX9_writingOf_27 : decode cX9_writingOf 27 = .ok (.iload_n 2, 1) := by decide +kernel
theorem dX9_writingOf_28 : decode cX9_writingOf 28 = .ok (.ireturn, 1) := by decide +kernel
set_option maxRecDepth 20000 in
theorem ggX9_tagOf_X9_byteAt : GoodIn wsX9_tagOf wsX9_byteAt := goodIn_r _ [5, 6, 7, 8, 9, 10, 11, 12, 13, 14, 15, 16, 17, 18, 19, 20, 21, 22, 23, 24, 25, 26, 27, 28, 29] (by decide +kernel) (by decide +kernel)
set_option maxRecDepth 20000 in
theorem gX9_tagOf_X9_byteAt : GoodIn wsX9_tagOf (wsV RX9 72 RX9 yX9_byteAt wsX9_byteAt) := goodIn_app (goodIn_of _ (by decide +kernel)) ggX9_tagOf_X9_byteAt
theorem dX9_tagOf_0 : decode cX9_tagOf 0 = .ok (.lconst 0, 1) := by decide +kernel
theorem dX9_tagOf_1 : decode cX9_tagOf 1 = .ok (.lstore_n 2, 1) := by decide +kernel
theorem dX9_tagOf_2 : decode cX9_tagOf 2 = .ok (.iconst 5, 1) := by decide +kernel
theorem dX9_tagOf_3 : decode cX9_tagOf 3 = .ok (.istore 4, 2) := by decide +kernel
theorem dX9_tagOf_5 : decode cX9_tagOf 5 = .ok (.iload 4, 2) := by decide +kernel
theorem dX9_tagOf_7 : decode cX9_tagOf 7 = .ok (.bipush 12, 2) := by decide +kernel
theorem dX9_tagOf_9 : decode cX9_tagOf 9 = .ok (.if_icmp .gt 23, 3) := by decide +kernel
theorem dX9_tagOf_12 : decode cX9_tagOf 12 = .ok (.lload_n 2, 1) := by decide +kernel
theorem dX9_tagOf_13 : decode cX9_tagOf 13 = .ok (.bipush 8, 2) := by decide +kernel
theorem dX9_tagOf_15 : decode cX9_tagOf 15 = .ok (.lshl, 1) := by decide +kernel
theorem dX9_tagOf_16 : decode cX9_tagOf 16 = .ok (.aload_n 0, 1) := by decide +kernel
theorem dX9_tagOf_17 : decode cX9_tagOf 17 = .ok (.iload_n 1, 1) := by decide +kernel
theorem dX9_tagOf_18 : decode cX9_tagOf 18 = .ok (.iload 4, 2) := by decide +kernel
theorem dX9_tagOf_20 : decode cX9_tagOf 20 = .ok (.invokevirtual 72, 3) := by decide +kernel
theorem dX9_tagOf_23 : decode cX9_tagOf 23 = .ok (.i2l, 1) := by decide +kernel
theorem dX9_tagOf_24 : decode cX9_tagOf 24 = .ok (.lor, 1) := by decide +kernel
theorem dX9_tagOf_25 : decode cX9_tagOf 25 = .ok (.lstore_n 2, 1) := by decide +kernel
theorem dX9_tagOf_26 : decode cX9_tagOf 26 = .ok (.iinc 4 1, 3) := by decide +kernel
theorem dX9_tagOf_29 : decode cX9_tagOf 29 = .ok (.goto (-24), 3) := by decide +kernel
theorem dX9_tagOf_32 : decode cX9_tagOf 32 = .ok (.lload_n 2, 1) := by decide +kernel
theorem dX9_tagOf_33 : decode cX9_tagOf 33 = .ok (.lreturn, 1) := by decide +kernel
set_option maxRecDepth 20000 in
theorem ggX9_fits_X9_byteAt : GoodIn wsX9_fits wsX9_byteAt := goodIn_r _ [6, 7, 22, 23, 24, 25, 26, 27, 28, 29, 30, 31, 32, 33, 34, 35, 36, 37, 38, 39, 40, 41, 42, 43, 44] (by decide +kernel) (by decide +kernel)
set_option maxRecDepth 20000 in
theorem gX9_fits_X9_byteAt : GoodIn wsX9_fits (wsV RX9 72 RX9 yX9_byteAt wsX9_byteAt) := goodIn_app (goodIn_of _ (by decide +kernel)) ggX9_fits_X9_byteAt
set_option maxRecDepth 20000 in
theorem ggX9_fits_X9_tagOf : GoodIn wsX9_fits wsX9_tagOf := goodIn_r _ [11, 2, 3, 4, 5, 6, 7, 22, 23, 24, 25, 26, 27, 28, 29, 30, 31, 32, 33, 34, 35, 36, 37, 38, 39, 40, 41, 42, 43, 44] (by decide +kernel) (by decide +kernel)
set_option maxRecDepth 20000 in
theorem gX9_fits_X9_tagOf : GoodIn wsX9_fits (wsV RX9 76 RX9 yX9_tagOf wsX9_tagOf) := goodIn_app (goodIn_of _ (by decide +kernel)) ggX9_fits_X9_tagOf
set_option maxRecDepth 20000 in
theorem ggX9_fits_X9_writingOf : GoodIn wsX9_fits wsX9_writingOf := goodIn_r _ [15, 2, 3, 4, 5, 6, 7, 22, 23, 24, 25, 26, 27, 28, 29, 30, 31, 32, 33, 34, 35, 36, 37, 38, 39, 40, 41, 42, 43, 44] (by decide +kernel) (by decide +kernel)
set_option maxRecDepth 20000 in
theorem gX9_fits_X9_writingOf : GoodIn wsX9_fits (wsV RX9 80 RX9 yX9_writingOf wsX9_writingOf) := goodIn_app (goodIn_of _ (by decide +kernel)) ggX9_fits_X9_writingOf
set_option maxRecDepth 20000 in
theorem ggX9_fits_X9_pad : GoodIn wsX9_fits wsX9_pad := goodIn_r _ [18, 19, 20, 21] (by decide +kernel) (by decide +kernel)
set_option maxRecDepth 20000 in
theorem gX9_fits_X9_pad : GoodIn wsX9_fits (va_wsS RX9 86 yX9_pad wsX9_pad) := goodIn_app (goodIn_of _ (by decide +kernel)) ggX9_fits_X9_pad
theorem dX9_fits_0 : decode cX9_fits 0 = .ok (.aload_n 0, 1) := by decide +kernel
theorem dX9_fits_1 : decode cX9_fits 1 = .ok (.iload_n 3, 1) := by decide +kernel
theorem dX9_fits_2 : decode cX9_fits 2 = .ok (.iconst 0, 1) := by decide +kernel
theorem dX9_fits_3 : decode cX9_fits 3 = .ok (.invokevirtual 72, 3) := by decide +kernel
theorem dX9_fits_6 : decode cX9_fits 6 = .ok (.iconst 1, 1) := by decide +kernel
theorem dX9_fits_7 : decode cX9_fits 7 = .ok (.if_icmp .eq 13, 3) := by decide +kernel
theorem dX9_fits_10 : decode cX9_fits 10 = .ok (.aload_n 0, 1) := by decide +kernel
theorem dX9_fits_11 : decode cX9_fits 11 = .ok (.iload_n 3, 1) := by decide +kernel
theorem dX9_fits_12 : decode cX9_fits 12 = .ok (.iconst 0, 1) := by decide +kernel
theorem dX9_fits_13 : decode cX9_fits 13 = .ok (.invokevirtual 72, 3) := by decide +kernel
theorem dX9_fits_16 : decode cX9_fits 16 = .ok (.iconst 2, 1) := by decide +kernel
theorem dX9_fits_17 : decode cX9_fits 17 = .ok (.if_icmp .ne 29, 3) := by decide +kernel
theorem dX9_fits_20 : decode cX9_fits 20 = .ok (.aload_n 0, 1) := by decide +kernel
theorem dX9_fits_21 : decode cX9_fits 21 = .ok (.iload_n 3, 1) := by decide +kernel
theorem dX9_fits_22 : decode cX9_fits 22 = .ok (.invokevirtual 76, 3) := by decide +kernel
theorem dX9_fits_25 : decode cX9_fits 25 = .ok (.lload_n 1, 1) := by decide +kernel
theorem dX9_fits_26 : decode cX9_fits 26 = .ok (.aload_n 0, 1) := by decide +kernel
theorem dX9_fits_27 : decode cX9_fits 27 = .ok (.iload_n 3, 1) := by decide +kernel
theorem dX9_fits_28 : decode cX9_fits 28 = .ok (.invokevirtual 80, 3) := by decide +kernel
theorem dX9_fits_31 : decode cX9_fits 31 = .ok (.i2l, 1) := by decide +kernel
theorem dX9_fits_32 : decode cX9_fits 32 = .ok (.ldc2_w 84, 3) := by decide +kernel
theorem dX9_fits_35 : decode cX9_fits 35 = .ok (.invokestatic 86, 3) := by decide +kernel
theorem dX9_fits_38 : decode cX9_fits 38 = .ok (.lcmp, 1) := by decide +kernel
theorem dX9_fits_39 : decode cX9_fits 39 = .ok (.ifCond .ne 7, 3) := by decide +kernel
theorem dX9_fits_42 : decode cX9_fits 42 = .ok (.iconst 1, 1) := by decide +kernel
theorem dX9_fits_43 : decode cX9_fits 43 = .ok (.goto 4, 3) := by decide +kernel
theorem dX9_fits_46 : decode cX9_fits 46 = .ok (.iconst 0, 1) := by decide +kernel
theorem dX9_fits_47 : decode cX9_fits 47 = .ok (.ireturn, 1) := by decide +kernel
set_option maxRecDepth 20000 in
theorem ggX9_open_X9_writingOf : GoodIn wsX9_open wsX9_writingOf := goodIn_r _ [6, 7, 8, 9, 5, 10, 11, 18, 19, 20, 21, 22, 23, 24, 25, 26, 27, 28, 29, 30, 31, 32, 33, 34, 35, 36, 37, 38, 39, 40] (by decide +kernel) (by decide +kernel)
set_option maxRecDepth 20000 in
theorem gX9_open_X9_writingOf : GoodIn wsX9_open (wsV RX9 80 RX9 yX9_writingOf wsX9_writingOf) := goodIn_app (goodIn_of _ (by decide +kernel)) ggX9_open_X9_writingOf
set_option maxRecDepth 20000 in
theorem ggX9_open_X9_byteAt : GoodIn wsX9_open wsX9_byteAt := goodIn_r _ [10, 11, 18, 19, 20, 21, 22, 23, 24, 25, 26, 27, 28, 29, 30, 31, 32, 33, 34, 35, 36, 37, 38, 39, 40] (by decide +kernel) (by decide +kernel)
set_option maxRecDepth 20000 in
theorem gX9_open_X9_byteAt : GoodIn wsX9_open (wsV RX9 72 RX9 yX9_byteAt wsX9_byteAt) := goodIn_app (goodIn_of _ (by decide +kernel)) ggX9_open_X9_byteAt
set_option maxRecDepth 20000 in
theorem ggX9_open_X9_pad : GoodIn wsX9_open wsX9_pad := goodIn_r _ [14, 15, 16, 17] (by decide +kernel) (by decide +kernel)
set_option maxRecDepth 20000 in
theorem gX9_open_X9_pad : GoodIn wsX9_open (va_wsS RX9 86 yX9_pad wsX9_pad) := goodIn_app (goodIn_of _ (by decide +kernel)) ggX9_open_X9_pad
theorem dX9_open_0 : decode cX9_open 0 = .ok (.aload_n 0, 1) := by decide +kernel
theorem dX9_open_1 : decode cX9_open 1 = .ok (.iload_n 3, 1) := by decide +kernel
theorem dX9_open_2 : decode cX9_open 2 = .ok (.invokevirtual 80, 3) := by decide +kernel
theorem dX9_open_5 : decode cX9_open 5 = .ok (.i2l, 1) := by decide +kernel
theorem dX9_open_6 : decode cX9_open 6 = .ok (.lstore 4, 2) := by decide +kernel
theorem dX9_open_8 : decode cX9_open 8 = .ok (.iconst 0, 1) := by decide +kernel
theorem dX9_open_9 : decode cX9_open 9 = .ok (.istore 6, 2) := by decide +kernel
theorem dX9_open_11 : decode cX9_open 11 = .ok (.iload 6, 2) := by decide +kernel
theorem dX9_open_13 : decode cX9_open 13 = .ok (.bipush 51, 2) := by decide +kernel
theorem dX9_open_15 : decode cX9_open 15 = .ok (.if_icmp .ge 53, 3) := by decide +kernel
theorem dX9_open_18 : decode cX9_open 18 = .ok (.aload_n 0, 1) := by decide +kernel
theorem dX9_open_19 : decode cX9_open 19 = .ok (.getfield 41, 3) := by decide +kernel
theorem dX9_open_22 : decode cX9_open 22 = .ok (.iload 6, 2) := by decide +kernel
theorem dX9_open_24 : decode cX9_open 24 = .ok (.aload_n 0, 1) := by decide +kernel
theorem dX9_open_25 : decode cX9_open 25 = .ok (.iload_n 3, 1) := by decide +kernel
theorem dX9_open_26 : decode cX9_open 26 = .ok (.bipush 13, 2) := by decide +kernel
theorem dX9_open_28 : decode cX9_open 28 = .ok (.iload 6, 2) := by decide +kernel
theorem dX9_open_30 : decode cX9_open 30 = .ok (.iadd, 1) := by decide +kernel
theorem dX9_open_31 : decode cX9_open 31 = .ok (.invokevirtual 72, 3) := by decide +kernel
theorem dX9_open_34 : decode cX9_open 34 = .ok (.lload_n 1, 1) := by decide +kernel
theorem dX9_open_35 : decode cX9_open 35 = .ok (.lload 4, 2) := by decide +kernel
theorem dX9_open_37 : decode cX9_open 37 = .ok (.iload 6, 2) := by decide +kernel
theorem dX9_open_39 : decode cX9_open 39 = .ok (.bipush 8, 2) := by decide +kernel
theorem dX9_open_41 : decode cX9_open 41 = .ok (.idiv, 1) := by decide +kernel
theorem dX9_open_42 : decode cX9_open 42 = .ok (.i2l, 1) := by decide +kernel
theorem dX9_open_43 : decode cX9_open 43 = .ok (.invokestatic 86, 3) := by decide +kernel
theorem dX9_open_46 : decode cX9_open 46 = .ok (.bipush 56, 2) := by decide +kernel
theorem dX9_open_48 : decode cX9_open 48 = .ok (.bipush 8, 2) := by decide +kernel
theorem dX9_open_50 : decode cX9_open 50 = .ok (.iload 6, 2) := by decide +kernel
theorem dX9_open_52 : decode cX9_open 52 = .ok (.bipush 8, 2) := by decide +kernel
theorem dX9_open_54 : decode cX9_open 54 = .ok (.irem, 1) := by decide +kernel
theorem dX9_open_55 : decode cX9_open 55 = .ok (.imul, 1) := by decide +kernel
theorem dX9_open_56 : decode cX9_open 56 = .ok (.isub, 1) := by decide +kernel
theorem dX9_open_57 : decode cX9_open 57 = .ok (.lushr, 1) := by decide +kernel
theorem dX9_open_58 : decode cX9_open 58 = .ok (.l2i, 1) := by decide +kernel
theorem dX9_open_59 : decode cX9_open 59 = .ok (.ixor, 1) := by decide +kernel
theorem dX9_open_60 : decode cX9_open 60 = .ok (.i2b, 1) := by decide +kernel
theorem dX9_open_61 : decode cX9_open 61 = .ok (.bastore, 1) := by decide +kernel
theorem dX9_open_62 : decode cX9_open 62 = .ok (.iinc 6 1, 3) := by decide +kernel
theorem dX9_open_65 : decode cX9_open 65 = .ok (.goto (-54), 3) := by decide +kernel
theorem dX9_open_68 : decode cX9_open 68 = .ok (.return_, 1) := by decide +kernel
set_option maxRecDepth 20000 in
theorem ggX9_openNode_X9_open : GoodIn wsX9_openNode wsX9_open := goodIn_r _ [8, 1, 9, 10, 11, 7, 12, 13, 14, 15, 16, 17, 18, 19, 20, 21, 22, 23, 24, 25, 26, 27, 28, 29, 30, 31, 32, 33, 34, 35, 36, 37, 38, 39, 40, 41, 42, 43, 44, 45, 46] (by decide +kernel) (by decide +kernel)
set_option maxRecDepth 20000 in
theorem gX9_openNode_X9_open : GoodIn wsX9_openNode (wsV RX9 90 RX9 yX9_open wsX9_open) := goodIn_app (goodIn_of _ (by decide +kernel)) ggX9_openNode_X9_open
theorem dX9_openNode_0 : decode cX9_openNode 0 = .ok (.iload_n 3, 1) := by decide +kernel
theorem dX9_openNode_1 : decode cX9_openNode 1 = .ok (.iconst (-1), 1) := by decide +kernel
theorem dX9_openNode_2 : decode cX9_openNode 2 = .ok (.if_icmp .eq 9, 3) := by decide +kernel
theorem dX9_openNode_5 : decode cX9_openNode 5 = .ok (.aload_n 0, 1) := by decide +kernel
theorem dX9_openNode_6 : decode cX9_openNode 6 = .ok (.lload_n 1, 1) := by decide +kernel
theorem dX9_openNode_7 : decode cX9_openNode 7 = .ok (.iload_n 3, 1) := by decide +kernel
theorem dX9_openNode_8 : decode cX9_openNode 8 = .ok (.invokevirtual 90, 3) := by decide +kernel
theorem dX9_openNode_11 : decode cX9_openNode 11 = .ok (.iconst 0, 1) := by decide +kernel
theorem dX9_openNode_12 : decode cX9_openNode 12 = .ok (.istore 4, 2) := by decide +kernel
theorem dX9_openNode_14 : decode cX9_openNode 14 = .ok (.iload 4, 2) := by decide +kernel
theorem dX9_openNode_16 : decode cX9_openNode 16 = .ok (.iconst 4, 1) := by decide +kernel
theorem dX9_openNode_17 : decode cX9_openNode 17 = .ok (.if_icmp .ge 122, 3) := by decide +kernel
theorem dX9_openNode_20 : decode cX9_openNode 20 = .ok (.lconst 0, 1) := by decide +kernel
theorem dX9_openNode_21 : decode cX9_openNode 21 = .ok (.lstore 5, 2) := by decide +kernel
theorem dX9_openNode_23 : decode cX9_openNode 23 = .ok (.iconst 0, 1) := by decide +kernel
theorem dX9_openNode_24 : decode cX9_openNode 24 = .ok (.istore 7, 2) := by decide +kernel
theorem dX9_openNode_26 : decode cX9_openNode 26 = .ok (.iload 7, 2) := by decide +kernel
theorem dX9_openNode_28 : decode cX9_openNode 28 = .ok (.bipush 8, 2) := by decide +kernel
theorem dX9_openNode_30 : decode cX9_openNode 30 = .ok (.if_icmp .ge 40, 3) := by decide +kernel
theorem dX9_openNode_33 : decode cX9_openNode 33 = .ok (.iload_n 3, 1) := by decide +kernel
theorem dX9_openNode_34 : decode cX9_openNode 34 = .ok (.iconst (-1), 1) := by decide +kernel
theorem dX9_openNode_35 : decode cX9_openNode 35 = .ok (.if_icmp .eq 35, 3) := by decide +kernel
theorem dX9_openNode_38 : decode cX9_openNode 38 = .ok (.lload 5, 2) := by decide +kernel
theorem dX9_openNode_40 : decode cX9_openNode 40 = .ok (.bipush 8, 2) := by decide +kernel
theorem dX9_openNode_42 : decode cX9_openNode 42 = .ok (.lshl, 1) := by decide +kernel
theorem dX9_openNode_43 : decode cX9_openNode 43 = .ok (.aload_n 0, 1) := by decide +kernel
theorem dX9_openNode_44 : decode cX9_openNode 44 = .ok (.getfield 41, 3) := by decide +kernel
theorem dX9_openNode_47 : decode cX9_openNode 47 = .ok (.bipush 10, 2) := by decide +kernel
theorem dX9_openNode_49 : decode cX9_openNode 49 = .ok (.iload 4, 2) := by decide +kernel
theorem dX9_openNode_51 : decode cX9_openNode 51 = .ok (.imul, 1) := by decide +kernel
theorem dX9_openNode_52 : decode cX9_openNode 52 = .ok (.iload 7, 2) := by decide +kernel
theorem dX9_openNode_54 : decode cX9_openNode 54 = .ok (.iadd, 1) := by decide +kernel
theorem dX9_openNode_55 : decode cX9_openNode 55 = .ok (.baload, 1) := by decide +kernel
theorem dX9_openNode_56 : decode cX9_openNode 56 = .ok (.sipush 255, 3) := by decide +kernel
theorem dX9_openNode_59 : decode cX9_openNode 59 = .ok (.iand, 1) := by decide +kernel
theorem dX9_openNode_60 : decode cX9_openNode 60 = .ok (.i2l, 1) := by decide +kernel
theorem dX9_openNode_61 : decode cX9_openNode 61 = .ok (.lor, 1) := by decide +kernel
theorem dX9_openNode_62 : decode cX9_openNode 62 = .ok (.lstore 5, 2) := by decide +kernel
theorem dX9_openNode_64 : decode cX9_openNode 64 = .ok (.iinc 7 1, 3) := by decide +kernel
theorem dX9_openNode_67 : decode cX9_openNode 67 = .ok (.goto (-41), 3) := by decide +kernel
theorem dX9_openNode_70 : decode cX9_openNode 70 = .ok (.aload_n 0, 1) := by decide +kernel
theorem dX9_openNode_71 : decode cX9_openNode 71 = .ok (.getfield 47, 3) := by decide +kernel
theorem dX9_openNode_74 : decode cX9_openNode 74 = .ok (.iload 4, 2) := by decide +kernel
theorem dX9_openNode_76 : decode cX9_openNode 76 = .ok (.lload 5, 2) := by decide +kernel
theorem dX9_openNode_78 : decode cX9_openNode 78 = .ok (.lastore, 1) := by decide +kernel
theorem dX9_openNode_79 : decode cX9_openNode 79 = .ok (.aload_n 0, 1) := by decide +kernel
theorem dX9_openNode_80 : decode cX9_openNode 80 = .ok (.getfield 50, 3) := by decide +kernel
theorem dX9_openNode_83 : decode cX9_openNode 83 = .ok (.iload 4, 2) := by decide +kernel
theorem dX9_openNode_85 : decode cX9_openNode 85 = .ok (.iload_n 3, 1) := by decide +kernel
theorem dX9_openNode_86 : decode cX9_openNode 86 = .ok (.iconst (-1), 1) := by decide +kernel
theorem dX9_openNode_87 : decode cX9_openNode 87 = .ok (.if_icmp .ne 7, 3) := by decide +kernel
theorem dX9_openNode_90 : decode cX9_openNode 90 = .ok (.iconst 0, 1) := by decide +kernel
theorem dX9_openNode_91 : decode cX9_openNode 91 = .ok (.goto 41, 3) := by decide +kernel
theorem dX9_openNode_94 : decode cX9_openNode 94 = .ok (.aload_n 0, 1) := by decide +kernel
theorem dX9_openNode_95 : decode cX9_openNode 95 = .ok (.getfield 41, 3) := by decide +kernel
theorem dX9_openNode_98 : decode cX9_openNode 98 = .ok (.bipush 10, 2) := by decide +kernel
theorem dX9_openNode_100 : decode cX9_openNode 100 = .ok (.iload 4, 2) := by decide +kernel
theorem dX9_openNode_102 : decode cX9_openNode 102 = .ok (.imul, 1) := by decide +kernel
theorem dX9_openNode_103 : decode cX9_openNode 103 = .ok (.bipush 8, 2) := by decide +kernel
theorem dX9_openNode_105 : decode cX9_openNode 105 = .ok (.iadd, 1) := by decide +kernel
theorem dX9_openNode_106 : decode cX9_openNode 106 = .ok (.baload, 1) := by decide +kernel
theorem dX9_openNode_107 : decode cX9_openNode 107 = .ok (.sipush 255, 3) := by decide +kernel
theorem dX9_openNode_110 : decode cX9_openNode 110 = .ok (.iand, 1) := by decide +kernel
theorem dX9_openNode_111 : decode cX9_openNode 111 = .ok (.bipush 8, 2) := by decide +kernel
theorem dX9_openNode_113 : decode cX9_openNode 113 = .ok (.ishl, 1) := by decide +kernel
theorem dX9_openNode_114 : decode cX9_openNode 114 = .ok (.aload_n 0, 1) := by decide +kernel
theorem dX9_openNode_115 : decode cX9_openNode 115 = .ok (.getfield 41, 3) := by decide +kernel
theorem dX9_openNode_118 : decode cX9_openNode 118 = .ok (.bipush 10, 2) := by decide +kernel
theorem dX9_openNode_120 : decode cX9_openNode 120 = .ok (.iload 4, 2) := by decide +kernel
theorem dX9_openNode_122 : decode cX9_openNode 122 = .ok (.imul, 1) := by decide +kernel
theorem dX9_openNode_123 : decode cX9_openNode 123 = .ok (.bipush 9, 2) := by decide +kernel
theorem dX9_openNode_125 : decode cX9_openNode 125 = .ok (.iadd, 1) := by decide +kernel
theorem dX9_openNode_126 : decode cX9_openNode 126 = .ok (.baload, 1) := by decide +kernel
theorem dX9_openNode_127 : decode cX9_openNode 127 = .ok (.sipush 255, 3) := by decide +kernel
theorem dX9_openNode_130 : decode cX9_openNode 130 = .ok (.iand, 1) := by decide +kernel
theorem dX9_openNode_131 : decode cX9_openNode 131 = .ok (.ior, 1) := by decide +kernel
theorem dX9_openNode_132 : decode cX9_openNode 132 = .ok (.iastore, 1) := by decide +kernel
theorem dX9_openNode_133 : decode cX9_openNode 133 = .ok (.iinc 4 1, 3) := by decide +kernel
theorem dX9_openNode_136 : decode cX9_openNode 136 = .ok (.goto (-122), 3) := by decide +kernel
theorem dX9_openNode_139 : decode cX9_openNode 139 = .ok (.return_, 1) := by decide +kernel
theorem dX9_putEntries_0 : decode cX9_putEntries 0 = .ok (.iconst 0, 1) := by decide +kernel
theorem dX9_putEntries_1 : decode cX9_putEntries 1 = .ok (.istore_n 1, 1) := by decide +kernel
theorem dX9_putEntries_2 : decode cX9_putEntries 2 = .ok (.iload_n 1, 1) := by decide +kernel
theorem dX9_putEntries_3 : decode cX9_putEntries 3 = .ok (.bipush 51, 2) := by decide +kernel
theorem dX9_putEntries_5 : decode cX9_putEntries 5 = .ok (.if_icmp .ge 16, 3) := by decide +kernel
theorem dX9_putEntries_8 : decode cX9_putEntries 8 = .ok (.aload_n 0, 1) := by decide +kernel
theorem dX9_putEntries_9 : decode cX9_putEntries 9 = .ok (.getfield 41, 3) := by decide +kernel
theorem dX9_putEntries_12 : decode cX9_putEntries 12 = .ok (.iload_n 1, 1) := by decide +kernel
theorem dX9_putEntries_13 : decode cX9_putEntries 13 = .ok (.iconst 0, 1) := by decide +kernel
theorem dX9_putEntries_14 : decode cX9_putEntries 14 = .ok (.bastore, 1) := by decide +kernel
theorem dX9_putEntries_15 : decode cX9_putEntries 15 = .ok (.iinc 1 1, 3) := by decide +kernel
theorem dX9_putEntries_18 : decode cX9_putEntries 18 = .ok (.goto (-16), 3) := by decide +kernel
theorem dX9_putEntries_21 : decode cX9_putEntries 21 = .ok (.iconst 0, 1) := by decide +kernel
theorem dX9_putEntries_22 : decode cX9_putEntries 22 = .ok (.istore_n 1, 1) := by decide +kernel
theorem dX9_putEntries_23 : decode cX9_putEntries 23 = .ok (.iload_n 1, 1) := by decide +kernel
theorem dX9_putEntries_24 : decode cX9_putEntries 24 = .ok (.iconst 4, 1) := by decide +kernel
theorem dX9_putEntries_25 : decode cX9_putEntries 25 = .ok (.if_icmp .ge 102, 3) := by decide +kernel
theorem dX9_putEntries_28 : decode cX9_putEntries 28 = .ok (.aload_n 0, 1) := by decide +kernel
theorem dX9_putEntries_29 : decode cX9_putEntries 29 = .ok (.getfield 47, 3) := by decide +kernel
theorem dX9_putEntries_32 : decode cX9_putEntries 32 = .ok (.iload_n 1, 1) := by decide +kernel
theorem dX9_putEntries_33 : decode cX9_putEntries 33 = .ok (.laload, 1) := by decide +kernel
theorem dX9_putEntries_34 : decode cX9_putEntries 34 = .ok (.lconst 0, 1) := by decide +kernel
theorem dX9_putEntries_35 : decode cX9_putEntries 35 = .ok (.lcmp, 1) := by decide +kernel
theorem dX9_putEntries_36 : decode cX9_putEntries 36 = .ok (.ifCond .eq 85, 3) := by decide +kernel
theorem dX9_putEntries_39 : decode cX9_putEntries 39 = .ok (.iconst 0, 1) := by decide +kernel
theorem dX9_putEntries_40 : decode cX9_putEntries 40 = .ok (.istore_n 2, 1) := by decide +kernel
theorem dX9_putEntries_41 : decode cX9_putEntries 41 = .ok (.iload_n 2, 1) := by decide +kernel
theorem dX9_putEntries_42 : decode cX9_putEntries 42 = .ok (.bipush 8, 2) := by decide +kernel
theorem dX9_putEntries_44 : decode cX9_putEntries 44 = .ok (.if_icmp .ge 36, 3) := by decide +kernel
theorem dX9_putEntries_47 : decode cX9_putEntries 47 = .ok (.aload_n 0, 1) := by decide +kernel
theorem dX9_putEntries_48 : decode cX9_putEntries 48 = .ok (.getfield 41, 3) := by decide +kernel
theorem dX9_putEntries_51 : decode cX9_putEntries 51 = .ok (.bipush 10, 2) := by decide +kernel
theorem dX9_putEntries_53 : decode cX9_putEntries 53 = .ok (.iload_n 1, 1) := by decide +kernel
theorem dX9_putEntries_54 : decode cX9_putEntries 54 = .ok (.imul, 1) := by decide +kernel
theorem dX9_putEntries_55 : decode cX9_putEntries 55 = .ok (.iload_n 2, 1) := by decide +kernel
theorem dX9_putEntries_56 : decode cX9_putEntries 56 = .ok (.iadd, 1) := by decide +kernel
theorem dX9_putEntries_57 : decode cX9_putEntries 57 = .ok (.aload_n 0, 1) := by decide +kernel
theorem dX9_putEntries_58 : decode cX9_putEntries 58 = .ok (.getfield 47, 3) := by decide +kernel
theorem dX9_putEntries_61 : decode cX9_putEntries 61 = .ok (.iload_n 1, 1) := by decide +kernel
theorem dX9_putEntries_62 : decode cX9_putEntries 62 = .ok (.laload, 1) := by decide +kernel
theorem dX9_putEntries_63 : decode cX9_putEntries 63 = .ok (.bipush 56, 2) := by decide +kernel
theorem dX9_putEntries_65 : decode cX9_putEntries 65 = .ok (.bipush 8, 2) := by decide +kernel
theorem dX9_putEntries_67 : decode cX9_putEntries 67 = .ok (.iload_n 2, 1) := by decide +kernel
theorem dX9_putEntries_68 : decode cX9_putEntries 68 = .ok (.imul, 1) := by decide +kernel
theorem dX9_putEntries_69 : decode cX9_putEntries 69 = .ok (.isub, 1) := by decide +kernel
theorem dX9_putEntries_70 : decode cX9_putEntries 70 = .ok (.lushr, 1) := by decide +kernel
theorem dX9_putEntries_71 : decode cX9_putEntries 71 = .ok (.l2i, 1) := by decide +kernel
theorem dX9_putEntries_72 : decode cX9_putEntries 72 = .ok (.i2b, 1) := by decide +kernel
theorem dX9_putEntries_73 : decode cX9_putEntries 73 = .ok (.bastore, 1) := by decide +kernel
theorem dX9_putEntries_74 : decode cX9_putEntries 74 = .ok (.iinc 2 1, 3) := by decide +kernel
theorem dX9_putEntries_77 : decode cX9_putEntries 77 = .ok (.goto (-36), 3) := by decide +kernel
theorem dX9_putEntries_80 : decode cX9_putEntries 80 = .ok (.aload_n 0, 1) := by decide +kernel
theorem dX9_putEntries_81 : decode cX9_putEntries 81 = .ok (.getfield 41, 3) := by decide +kernel
theorem dX9_putEntries_84 : decode cX9_putEntries 84 = .ok (.bipush 10, 2) := by decide +kernel
theorem dX9_putEntries_86 : decode cX9_putEntries 86 = .ok (.iload_n 1, 1) := by decide +kernel
theorem dX9_putEntries_87 : decode cX9_putEntries 87 = .ok (.imul, 1) := by decide +kernel
theorem dX9_putEntries_88 : decode cX9_putEntries 88 = .ok (.bipush 8, 2) := by decide +kernel
theorem dX9_putEntries_90 : decode cX9_putEntries 90 = .ok (.iadd, 1) := by decide +kernel
theorem dX9_putEntries_91 : decode cX9_putEntries 91 = .ok (.aload_n 0, 1) := by decide +kernel
theorem dX9_putEntries_92 : decode cX9_putEntries 92 = .ok (.getfield 50, 3) := by decide +kernel
theorem dX9_putEntries_95 : decode cX9_putEntries 95 = .ok (.iload_n 1, 1) := by decide +kernel
theorem dX9_putEntries_96 : decode cX9_putEntries 96 = .ok (.iaload, 1) := by decide +kernel
theorem dX9_putEntries_97 : decode cX9_putEntries 97 = .ok (.bipush 8, 2) := by decide +kernel
theorem dX9_putEntries_99 : decode cX9_putEntries 99 = .ok (.ishr, 1) := by decide +kernel
theorem dX9_putEntries_100 : decode cX9_putEntries 100 = .ok (.i2b, 1) := by decide +kernel
theorem dX9_putEntries_101 : decode cX9_putEntries 101 = .ok (.bastore, 1) := by decide +kernel
theorem dX9_putEntries_102 : decode cX9_putEntries 102 = .ok (.aload_n 0, 1) := by decide +kernel
theorem dX9_putEntries_103 : decode cX9_putEntries 103 = .ok (.getfield 41, 3) := by decide +kernel
theorem dX9_putEntries_106 : decode cX9_putEntries 106 = .ok (.bipush 10, 2) := by decide +kernel
theorem dX9_putEntries_108 : decode cX9_putEntries 108 = .ok (.iload_n 1, 1) := by decide +kernel
theorem dX9_putEntries_109 : decode cX9_putEntries 109 = .ok (.imul, 1) := by decide +kernel
theorem dX9_putEntries_110 : decode cX9_putEntries 110 = .ok (.bipush 9, 2) := by decide +kernel
theorem dX9_putEntries_112 : decode cX9_putEntries 112 = .ok (.iadd, 1) := by decide +kernel
theorem dX9_putEntries_113 : decode cX9_putEntries 113 = .ok (.aload_n 0, 1) := by decide +kernel
theorem dX9_putEntries_114 : decode cX9_putEntries 114 = .ok (.getfield 50, 3) := by decide +kernel
theorem dX9_putEntries_117 : decode cX9_putEntries 117 = .ok (.iload_n 1, 1) := by decide +kernel
theorem dX9_putEntries_118 : decode cX9_putEntries 118 = .ok (.iaload, 1) := by decide +kernel
theorem dX9_putEntries_119 : decode cX9_putEntries 119 = .ok (.i2b, 1) := by decide +kernel
theorem dX9_putEntries_120 : decode cX9_putEntries 120 = .ok (.bastore, 1) := by decide +kernel
theorem dX9_putEntries_121 : decode cX9_putEntries 121 = .ok (.iinc 1 1, 3) := by decide +kernel
theorem dX9_putEntries_124 : decode cX9_putEntries 124 = .ok (.goto (-101), 3) := by decide +kernel
theorem dX9_putEntries_127 : decode cX9_putEntries 127 = .ok (.return_, 1) := by decide +kernel
theorem dX9_entryOf_0 : decode cX9_entryOf 0 = .ok (.iload_n 1, 1) := by decide +kernel
theorem dX9_entryOf_1 : decode cX9_entryOf 1 = .ok (.ifCond .ne 10, 3) := by decide +kernel
theorem dX9_entryOf_4 : decode cX9_entryOf 4 = .ok (.iload_n 0, 1) := by decide +kernel
theorem dX9_entryOf_5 : decode cX9_entryOf 5 = .ok (.bipush 16, 2) := by decide +kernel
theorem dX9_entryOf_7 : decode cX9_entryOf 7 = .ok (.idiv, 1) := by decide +kernel
theorem dX9_entryOf_8 : decode cX9_entryOf 8 = .ok (.goto 19, 3) := by decide +kernel
theorem dX9_entryOf_11 : decode cX9_entryOf 11 = .ok (.iload_n 1, 1) := by decide +kernel
theorem dX9_entryOf_12 : decode cX9_entryOf 12 = .ok (.iconst 1, 1) := by decide +kernel
theorem dX9_entryOf_13 : decode cX9_entryOf 13 = .ok (.if_icmp .ne 11, 3) := by decide +kernel
theorem dX9_entryOf_16 : decode cX9_entryOf 16 = .ok (.iload_n 0, 1) := by decide +kernel
theorem dX9_entryOf_17 : decode cX9_entryOf 17 = .ok (.iconst 4, 1) := by decide +kernel
theorem dX9_entryOf_18 : decode cX9_entryOf 18 = .ok (.idiv, 1) := by decide +kernel
theorem dX9_entryOf_19 : decode cX9_entryOf 19 = .ok (.iconst 4, 1) := by decide +kernel
theorem dX9_entryOf_20 : decode cX9_entryOf 20 = .ok (.irem, 1) := by decide +kernel
theorem dX9_entryOf_21 : decode cX9_entryOf 21 = .ok (.goto 6, 3) := by decide +kernel
theorem dX9_entryOf_24 : decode cX9_entryOf 24 = .ok (.iload_n 0, 1) := by decide +kernel
theorem dX9_entryOf_25 : decode cX9_entryOf 25 = .ok (.iconst 4, 1) := by decide +kernel
theorem dX9_entryOf_26 : decode cX9_entryOf 26 = .ok (.irem, 1) := by decide +kernel
theorem dX9_entryOf_27 : decode cX9_entryOf 27 = .ok (.ireturn, 1) := by decide +kernel
set_option maxRecDepth 20000 in
theorem ggX9_findWay_X9_openNode : GoodIn wsX9_findWay wsX9_openNode := goodIn_r _ [11, 12, 5, 6, 13, 14, 15, 10, 16, 17, 18, 19, 20, 21, 22, 23, 24, 25, 26, 27, 28, 29, 30, 31, 35, 36, 37, 38, 39, 40, 41, 42, 43, 44, 45, 46, 47, 48, 49, 50, 51, 52, 53, 54, 55, 56, 57] (by decide +kernel) (by decide +kernel)
set_option maxRecDepth 20000 in
theorem gX9_findWay_X9_openNode : GoodIn wsX9_findWay (wsV RX9 98 RX9 yX9_openNode wsX9_openNode) := goodIn_app (goodIn_of _ (by decide +kernel)) ggX9_findWay_X9_openNode
set_option maxRecDepth 20000 in
theorem ggX9_findWay_X9_entryOf : GoodIn wsX9_findWay wsX9_entryOf := goodIn_r _ [34] (by decide +kernel) (by decide +kernel)
set_option maxRecDepth 20000 in
theorem gX9_findWay_X9_entryOf : GoodIn wsX9_findWay (va_wsS RX9 101 yX9_entryOf wsX9_entryOf) := goodIn_app (goodIn_of _ (by decide +kernel)) ggX9_findWay_X9_entryOf
theorem dX9_findWay_0 : decode cX9_findWay 0 = .ok (.aload_n 0, 1) := by decide +kernel
theorem dX9_findWay_1 : decode cX9_findWay 1 = .ok (.getfield 57, 3) := by decide +kernel
theorem dX9_findWay_4 : decode cX9_findWay 4 = .ok (.iconst 0, 1) := by decide +kernel
theorem dX9_findWay_5 : decode cX9_findWay 5 = .ok (.aload_n 0, 1) := by decide +kernel
theorem dX9_findWay_6 : decode cX9_findWay 6 = .ok (.getfield 94, 3) := by decide +kernel
theorem dX9_findWay_9 : decode cX9_findWay 9 = .ok (.lastore, 1) := by decide +kernel
theorem dX9_findWay_10 : decode cX9_findWay 10 = .ok (.aload_n 0, 1) := by decide +kernel
theorem dX9_findWay_11 : decode cX9_findWay 11 = .ok (.getfield 60, 3) := by decide +kernel
theorem dX9_findWay_14 : decode cX9_findWay 14 = .ok (.iconst 0, 1) := by decide +kernel
theorem dX9_findWay_15 : decode cX9_findWay 15 = .ok (.aload_n 0, 1) := by decide +kernel
theorem dX9_findWay_16 : decode cX9_findWay 16 = .ok (.getfield 94, 3) := by decide +kernel
theorem dX9_findWay_19 : decode cX9_findWay 19 = .ok (.lconst 0, 1) := by decide +kernel
theorem dX9_findWay_20 : decode cX9_findWay 20 = .ok (.lcmp, 1) := by decide +kernel
theorem dX9_findWay_21 : decode cX9_findWay 21 = .ok (.ifCond .ne 7, 3) := by decide +kernel
theorem dX9_findWay_24 : decode cX9_findWay 24 = .ok (.iconst (-1), 1) := by decide +kernel
theorem dX9_findWay_25 : decode cX9_findWay 25 = .ok (.goto 7, 3) := by decide +kernel
theorem dX9_findWay_28 : decode cX9_findWay 28 = .ok (.aload_n 0, 1) := by decide +kernel
theorem dX9_findWay_29 : decode cX9_findWay 29 = .ok (.getfield 13, 3) := by decide +kernel
theorem dX9_findWay_32 : decode cX9_findWay 32 = .ok (.iastore, 1) := by decide +kernel
theorem dX9_findWay_33 : decode cX9_findWay 33 = .ok (.iconst 0, 1) := by decide +kernel
theorem dX9_findWay_34 : decode cX9_findWay 34 = .ok (.istore_n 2, 1) := by decide +kernel
theorem dX9_findWay_35 : decode cX9_findWay 35 = .ok (.iload_n 2, 1) := by decide +kernel
theorem dX9_findWay_36 : decode cX9_findWay 36 = .ok (.iconst 3, 1) := by decide +kernel
theorem dX9_findWay_37 : decode cX9_findWay 37 = .ok (.if_icmp .ge 74, 3) := by decide +kernel
theorem dX9_findWay_40 : decode cX9_findWay 40 = .ok (.aload_n 0, 1) := by decide +kernel
theorem dX9_findWay_41 : decode cX9_findWay 41 = .ok (.aload_n 0, 1) := by decide +kernel
theorem dX9_findWay_42 : decode cX9_findWay 42 = .ok (.getfield 57, 3) := by decide +kernel
theorem dX9_findWay_45 : decode cX9_findWay 45 = .ok (.iload_n 2, 1) := by decide +kernel
theorem dX9_findWay_46 : decode cX9_findWay 46 = .ok (.laload, 1) := by decide +kernel
theorem dX9_findWay_47 : decode cX9_findWay 47 = .ok (.aload_n 0, 1) := by decide +kernel
theorem dX9_findWay_48 : decode cX9_findWay 48 = .ok (.getfield 60, 3) := by decide +kernel
theorem dX9_findWay_51 : decode cX9_findWay 51 = .ok (.iload_n 2, 1) := by decide +kernel
theorem dX9_findWay_52 : decode cX9_findWay 52 = .ok (.iaload, 1) := by decide +kernel
theorem dX9_findWay_53 : decode cX9_findWay 53 = .ok (.invokevirtual 98, 3) := by decide +kernel
theorem dX9_findWay_56 : decode cX9_findWay 56 = .ok (.iload_n 1, 1) := by decide +kernel
theorem dX9_findWay_57 : decode cX9_findWay 57 = .ok (.iload_n 2, 1) := by decide +kernel
theorem dX9_findWay_58 : decode cX9_findWay 58 = .ok (.invokestatic 101, 3) := by decide +kernel
theorem dX9_findWay_61 : decode cX9_findWay 61 = .ok (.istore_n 3, 1) := by decide +kernel
theorem dX9_findWay_62 : decode cX9_findWay 62 = .ok (.aload_n 0, 1) := by decide +kernel
theorem dX9_findWay_63 : decode cX9_findWay 63 = .ok (.getfield 57, 3) := by decide +kernel
theorem dX9_findWay_66 : decode cX9_findWay 66 = .ok (.iload_n 2, 1) := by decide +kernel
theorem dX9_findWay_67 : decode cX9_findWay 67 = .ok (.iconst 1, 1) := by decide +kernel
theorem dX9_findWay_68 : decode cX9_findWay 68 = .ok (.iadd, 1) := by decide +kernel
theorem dX9_findWay_69 : decode cX9_findWay 69 = .ok (.aload_n 0, 1) := by decide +kernel
theorem dX9_findWay_70 : decode cX9_findWay 70 = .ok (.getfield 47, 3) := by decide +kernel
theorem dX9_findWay_73 : decode cX9_findWay 73 = .ok (.iload_n 3, 1) := by decide +kernel
theorem dX9_findWay_74 : decode cX9_findWay 74 = .ok (.laload, 1) := by decide +kernel
theorem dX9_findWay_75 : decode cX9_findWay 75 = .ok (.lastore, 1) := by decide +kernel
theorem dX9_findWay_76 : decode cX9_findWay 76 = .ok (.aload_n 0, 1) := by decide +kernel
theorem dX9_findWay_77 : decode cX9_findWay 77 = .ok (.getfield 60, 3) := by decide +kernel
theorem dX9_findWay_80 : decode cX9_findWay 80 = .ok (.iload_n 2, 1) := by decide +kernel
theorem dX9_findWay_81 : decode cX9_findWay 81 = .ok (.iconst 1, 1) := by decide +kernel
theorem dX9_findWay_82 : decode cX9_findWay 82 = .ok (.iadd, 1) := by decide +kernel
theorem dX9_findWay_83 : decode cX9_findWay 83 = .ok (.aload_n 0, 1) := by decide +kernel
theorem dX9_findWay_84 : decode cX9_findWay 84 = .ok (.getfield 47, 3) := by decide +kernel
theorem dX9_findWay_87 : decode cX9_findWay 87 = .ok (.iload_n 3, 1) := by decide +kernel
theorem dX9_findWay_88 : decode cX9_findWay 88 = .ok (.laload, 1) := by decide +kernel
theorem dX9_findWay_89 : decode cX9_findWay 89 = .ok (.lconst 0, 1) := by decide +kernel
theorem dX9_findWay_90 : decode cX9_findWay 90 = .ok (.lcmp, 1) := by decide +kernel
theorem dX9_findWay_91 : decode cX9_findWay 91 = .ok (.ifCond .ne 7, 3) := by decide +kernel
theorem dX9_findWay_94 : decode cX9_findWay 94 = .ok (.iconst (-1), 1) := by decide +kernel
theorem dX9_findWay_95 : decode cX9_findWay 95 = .ok (.goto 9, 3) := by decide +kernel
theorem dX9_findWay_98 : decode cX9_findWay 98 = .ok (.aload_n 0, 1) := by decide +kernel
theorem dX9_findWay_99 : decode cX9_findWay 99 = .ok (.getfield 50, 3) := by decide +kernel
theorem dX9_findWay_102 : decode cX9_findWay 102 = .ok (.iload_n 3, 1) := by decide +kernel
theorem dX9_findWay_103 : decode cX9_findWay 103 = .ok (.iaload, 1) := by decide +kernel
theorem dX9_findWay_104 : decode cX9_findWay 104 = .ok (.iastore, 1) := by decide +kernel
theorem dX9_findWay_105 : decode cX9_findWay 105 = .ok (.iinc 2 1, 3) := by decide +kernel
theorem dX9_findWay_108 : decode cX9_findWay 108 = .ok (.goto (-73), 3) := by decide +kernel
theorem dX9_findWay_111 : decode cX9_findWay 111 = .ok (.return_, 1) := by decide +kernel
theorem dX9_nextOf_0 : decode cX9_nextOf 0 = .ok (.aload_n 0, 1) := by decide +kernel
theorem dX9_nextOf_1 : decode cX9_nextOf 1 = .ok (.getfield 41, 3) := by decide +kernel
theorem dX9_nextOf_4 : decode cX9_nextOf 4 = .ok (.iconst 0, 1) := by decide +kernel
theorem dX9_nextOf_5 : decode cX9_nextOf 5 = .ok (.baload, 1) := by decide +kernel
theorem dX9_nextOf_6 : decode cX9_nextOf 6 = .ok (.sipush 255, 3) := by decide +kernel
theorem dX9_nextOf_9 : decode cX9_nextOf 9 = .ok (.iand, 1) := by decide +kernel
theorem dX9_nextOf_10 : decode cX9_nextOf 10 = .ok (.bipush 8, 2) := by decide +kernel
theorem dX9_nextOf_12 : decode cX9_nextOf 12 = .ok (.ishl, 1) := by decide +kernel
theorem dX9_nextOf_13 : decode cX9_nextOf 13 = .ok (.aload_n 0, 1) := by decide +kernel
theorem dX9_nextOf_14 : decode cX9_nextOf 14 = .ok (.getfield 41, 3) := by decide +kernel
theorem dX9_nextOf_17 : decode cX9_nextOf 17 = .ok (.iconst 1, 1) := by decide +kernel
theorem dX9_nextOf_18 : decode cX9_nextOf 18 = .ok (.baload, 1) := by decide +kernel
theorem dX9_nextOf_19 : decode cX9_nextOf 19 = .ok (.sipush 255, 3) := by decide +kernel
theorem dX9_nextOf_22 : decode cX9_nextOf 22 = .ok (.iand, 1) := by decide +kernel
theorem dX9_nextOf_23 : decode cX9_nextOf 23 = .ok (.ior, 1) := by decide +kernel
theorem dX9_nextOf_24 : decode cX9_nextOf 24 = .ok (.istore_n 1, 1) := by decide +kernel
theorem dX9_nextOf_25 : decode cX9_nextOf 25 = .ok (.iload_n 1, 1) := by decide +kernel
theorem dX9_nextOf_26 : decode cX9_nextOf 26 = .ok (.ldc 104, 2) := by decide +kernel
theorem dX9_nextOf_28 : decode cX9_nextOf 28 = .ok (.if_icmp .ne 7, 3) := by decide +kernel
theorem dX9_nextOf_31 : decode cX9_nextOf 31 = .ok (.iconst (-1), 1) := by decide +kernel
theorem dX9_nextOf_32 : decode cX9_nextOf 32 = .ok (.goto 4, 3) := by decide +kernel
theorem dX9_nextOf_35 : decode cX9_nextOf 35 = .ok (.iload_n 1, 1) := by decide +kernel
theorem dX9_nextOf_36 : decode cX9_nextOf 36 = .ok (.ireturn, 1) := by decide +kernel
set_option maxRecDepth 20000 in
theorem ggX9_markLive_X9_findWay : GoodIn wsX9_markLive wsX9_findWay := goodIn_r _ [8, 3, 9, 2, 10, 11, 12, 13, 14, 15, 7, 16, 17, 18, 19, 20, 21, 22, 23, 24, 25, 26, 27, 28, 29, 30, 31, 32, 33, 34, 35, 36, 37, 38, 39, 49, 50, 51, 52, 53, 54, 55, 56, 57, 58, 59, 60, 61, 62, 63, 64, 65, 66, 67, 68, 69, 70, 71] (by decide +kernel) (by decide +kernel)
set_option maxRecDepth 20000 in
theorem gX9_markLive_X9_findWay : GoodIn wsX9_markLive (wsV RX9 105 RX9 yX9_findWay wsX9_findWay) := goodIn_app (goodIn_of _ (by decide +kernel)) ggX9_markLive_X9_findWay
set_option maxRecDepth 20000 in
theorem ggX9_markLive_X9_mark : GoodIn wsX9_markLive wsX9_mark := goodIn_r _ [43, 1, 49, 50, 51, 52, 53, 54, 55, 56, 57, 58, 59, 60, 61, 62, 63, 64, 65, 66, 67, 68, 69, 70, 71] (by decide +kernel) (by decide +kernel)
set_option maxRecDepth 20000 in
theorem gX9_markLive_X9_mark : GoodIn wsX9_markLive (wsV RX9 109 RX9 yX9_mark wsX9_mark) := goodIn_app (goodIn_of _ (by decide +kernel)) ggX9_markLive_X9_mark
set_option maxRecDepth 20000 in
theorem ggX9_markLive_X9_open : GoodIn wsX9_markLive wsX9_open := goodIn_r _ [21, 17, 22, 23, 24, 7, 25, 26, 27, 28, 29, 30, 31, 32, 33, 34, 35, 36, 49, 50, 51, 52, 53, 54, 55, 56, 57, 58, 59, 60, 61, 62, 63, 64, 65, 66, 67, 68, 69, 70, 71] (by decide +kernel) (by decide +kernel)
set_option maxRecDepth 20000 in
theorem gX9_markLive_X9_open : GoodIn wsX9_markLive (wsV RX9 90 RX9 yX9_open wsX9_open) := goodIn_app (goodIn_of _ (by decide +kernel)) ggX9_markLive_X9_open
set_option maxRecDepth 20000 in
theorem ggX9_markLive_X9_nextOf : GoodIn wsX9_markLive wsX9_nextOf := goodIn_r _ [47, 17, 48, 49, 50, 51, 52, 53, 54, 55, 56, 57, 58, 59, 60, 61, 62, 63, 64, 65, 66, 67, 68, 69, 70, 71] (by decide +kernel) (by decide +kernel)
set_option maxRecDepth 20000 in
theorem gX9_markLive_X9_nextOf : GoodIn wsX9_markLive (wsV RX9 112 RX9 yX9_nextOf wsX9_nextOf) := goodIn_app (goodIn_of _ (by decide +kernel)) ggX9_markLive_X9_nextOf
theorem dX9_markLive_0 : decode cX9_markLive 0 = .ok (.iconst 0, 1) := by decide +kernel
theorem dX9_markLive_1 : decode cX9_markLive 1 = .ok (.istore_n 1, 1) := by decide +kernel
theorem dX9_markLive_2 : decode cX9_markLive 2 = .ok (.iload_n 1, 1) := by decide +kernel
theorem dX9_markLive_3 : decode cX9_markLive 3 = .ok (.sipush 200, 3) := by decide +kernel
theorem dX9_markLive_6 : decode cX9_markLive 6 = .ok (.if_icmp .ge 16, 3) := by decide +kernel
theorem dX9_markLive_9 : decode cX9_markLive 9 = .ok (.aload_n 0, 1) := by decide +kernel
theorem dX9_markLive_10 : decode cX9_markLive 10 = .ok (.getfield 37, 3) := by decide +kernel
theorem dX9_markLive_13 : decode cX9_markLive 13 = .ok (.iload_n 1, 1) := by decide +kernel
theorem dX9_markLive_14 : decode cX9_markLive 14 = .ok (.iconst 0, 1) := by decide +kernel
theorem dX9_markLive_15 : decode cX9_markLive 15 = .ok (.bastore, 1) := by decide +kernel
theorem dX9_markLive_16 : decode cX9_markLive 16 = .ok (.iinc 1 1, 3) := by decide +kernel
theorem dX9_markLive_19 : decode cX9_markLive 19 = .ok (.goto (-17), 3) := by decide +kernel
theorem dX9_markLive_22 : decode cX9_markLive 22 = .ok (.iconst 0, 1) := by decide +kernel
theorem dX9_markLive_23 : decode cX9_markLive 23 = .ok (.istore_n 1, 1) := by decide +kernel
theorem dX9_markLive_24 : decode cX9_markLive 24 = .ok (.iconst 0, 1) := by decide +kernel
theorem dX9_markLive_25 : decode cX9_markLive 25 = .ok (.istore_n 2, 1) := by decide +kernel
theorem dX9_markLive_26 : decode cX9_markLive 26 = .ok (.iload_n 2, 1) := by decide +kernel
theorem dX9_markLive_27 : decode cX9_markLive 27 = .ok (.bipush 64, 2) := by decide +kernel
theorem dX9_markLive_29 : decode cX9_markLive 29 = .ok (.if_icmp .ge 118, 3) := by decide +kernel
theorem dX9_markLive_32 : decode cX9_markLive 32 = .ok (.aload_n 0, 1) := by decide +kernel
theorem dX9_markLive_33 : decode cX9_markLive 33 = .ok (.iload_n 2, 1) := by decide +kernel
theorem dX9_markLive_34 : decode cX9_markLive 34 = .ok (.invokevirtual 105, 3) := by decide +kernel
theorem dX9_markLive_37 : decode cX9_markLive 37 = .ok (.iconst 0, 1) := by decide +kernel
theorem dX9_markLive_38 : decode cX9_markLive 38 = .ok (.istore_n 3, 1) := by decide +kernel
theorem dX9_markLive_39 : decode cX9_markLive 39 = .ok (.iload_n 3, 1) := by decide +kernel
theorem dX9_markLive_40 : decode cX9_markLive 40 = .ok (.iconst 3, 1) := by decide +kernel
theorem dX9_markLive_41 : decode cX9_markLive 41 = .ok (.if_icmp .ge 19, 3) := by decide +kernel
theorem dX9_markLive_44 : decode cX9_markLive 44 = .ok (.aload_n 0, 1) := by decide +kernel
theorem dX9_markLive_45 : decode cX9_markLive 45 = .ok (.aload_n 0, 1) := by decide +kernel
theorem dX9_markLive_46 : decode cX9_markLive 46 = .ok (.getfield 60, 3) := by decide +kernel
theorem dX9_markLive_49 : decode cX9_markLive 49 = .ok (.iload_n 3, 1) := by decide +kernel
theorem dX9_markLive_50 : decode cX9_markLive 50 = .ok (.iaload, 1) := by decide +kernel
theorem dX9_markLive_51 : decode cX9_markLive 51 = .ok (.invokevirtual 109, 3) := by decide +kernel
theorem dX9_markLive_54 : decode cX9_markLive 54 = .ok (.iinc 3 1, 3) := by decide +kernel
theorem dX9_markLive_57 : decode cX9_markLive 57 = .ok (.goto (-18), 3) := by decide +kernel
theorem dX9_markLive_60 : decode cX9_markLive 60 = .ok (.iload_n 1, 1) := by decide +kernel
theorem dX9_markLive_61 : decode cX9_markLive 61 = .ok (.aload_n 0, 1) := by decide +kernel
theorem dX9_markLive_62 : decode cX9_markLive 62 = .ok (.getfield 60, 3) := by decide +kernel
theorem dX9_markLive_65 : decode cX9_markLive 65 = .ok (.iconst 3, 1) := by decide +kernel
theorem dX9_markLive_66 : decode cX9_markLive 66 = .ok (.iaload, 1) := by decide +kernel
theorem dX9_markLive_67 : decode cX9_markLive 67 = .ok (.iconst (-1), 1) := by decide +kernel
theorem dX9_markLive_68 : decode cX9_markLive 68 = .ok (.if_icmp .eq 7, 3) := by decide +kernel
theorem dX9_markLive_71 : decode cX9_markLive 71 = .ok (.iconst 1, 1) := by decide +kernel
theorem dX9_markLive_72 : decode cX9_markLive 72 = .ok (.goto 4, 3) := by decide +kernel
theorem dX9_markLive_75 : decode cX9_markLive 75 = .ok (.iconst 0, 1) := by decide +kernel
theorem dX9_markLive_76 : decode cX9_markLive 76 = .ok (.iadd, 1) := by decide +kernel
theorem dX9_markLive_77 : decode cX9_markLive 77 = .ok (.istore_n 1, 1) := by decide +kernel
theorem dX9_markLive_78 : decode cX9_markLive 78 = .ok (.aload_n 0, 1) := by decide +kernel
theorem dX9_markLive_79 : decode cX9_markLive 79 = .ok (.getfield 60, 3) := by decide +kernel
theorem dX9_markLive_82 : decode cX9_markLive 82 = .ok (.iconst 3, 1) := by decide +kernel
theorem dX9_markLive_83 : decode cX9_markLive 83 = .ok (.iaload, 1) := by decide +kernel
theorem dX9_markLive_84 : decode cX9_markLive 84 = .ok (.istore_n 3, 1) := by decide +kernel
theorem dX9_markLive_85 : decode cX9_markLive 85 = .ok (.iconst 0, 1) := by decide +kernel
theorem dX9_markLive_86 : decode cX9_markLive 86 = .ok (.istore 4, 2) := by decide +kernel
theorem dX9_markLive_88 : decode cX9_markLive 88 = .ok (.iload 4, 2) := by decide +kernel
theorem dX9_markLive_90 : decode cX9_markLive 90 = .ok (.sipush 200, 3) := by decide +kernel
theorem dX9_markLive_93 : decode cX9_markLive 93 = .ok (.if_icmp .ge 48, 3) := by decide +kernel
theorem dX9_markLive_96 : decode cX9_markLive 96 = .ok (.iload_n 3, 1) := by decide +kernel
theorem dX9_markLive_97 : decode cX9_markLive 97 = .ok (.iconst (-1), 1) := by decide +kernel
theorem dX9_markLive_98 : decode cX9_markLive 98 = .ok (.if_icmp .eq 43, 3) := by decide +kernel
theorem dX9_markLive_101 : decode cX9_markLive 101 = .ok (.aload_n 0, 1) := by decide +kernel
theorem dX9_markLive_102 : decode cX9_markLive 102 = .ok (.iload_n 3, 1) := by decide +kernel
theorem dX9_markLive_103 : decode cX9_markLive 103 = .ok (.invokevirtual 109, 3) := by decide +kernel
theorem dX9_markLive_106 : decode cX9_markLive 106 = .ok (.aload_n 0, 1) := by decide +kernel
theorem dX9_markLive_107 : decode cX9_markLive 107 = .ok (.aload_n 0, 1) := by decide +kernel
theorem dX9_markLive_108 : decode cX9_markLive 108 = .ok (.getfield 57, 3) := by decide +kernel
theorem dX9_markLive_111 : decode cX9_markLive 111 = .ok (.iconst 3, 1) := by decide +kernel
theorem dX9_markLive_112 : decode cX9_markLive 112 = .ok (.laload, 1) := by decide +kernel
theorem dX9_markLive_113 : decode cX9_markLive 113 = .ok (.iload_n 3, 1) := by decide +kernel
theorem dX9_markLive_114 : decode cX9_markLive 114 = .ok (.invokevirtual 90, 3) := by decide +kernel
theorem dX9_markLive_117 : decode cX9_markLive 117 = .ok (.aload_n 0, 1) := by decide +kernel
theorem dX9_markLive_118 : decode cX9_markLive 118 = .ok (.invokevirtual 112, 3) := by decide +kernel
theorem dX9_markLive_121 : decode cX9_markLive 121 = .ok (.istore_n 3, 1) := by decide +kernel
theorem dX9_markLive_122 : decode cX9_markLive 122 = .ok (.iload_n 3, 1) := by decide +kernel
theorem dX9_markLive_123 : decode cX9_markLive 123 = .ok (.sipush 200, 3) := by decide +kernel
theorem dX9_markLive_126 : decode cX9_markLive 126 = .ok (.if_icmp .lt 7, 3) := by decide +kernel
theorem dX9_markLive_129 : decode cX9_markLive 129 = .ok (.iconst (-1), 1) := by decide +kernel
theorem dX9_markLive_130 : decode cX9_markLive 130 = .ok (.goto 4, 3) := by decide +kernel
theorem dX9_markLive_133 : decode cX9_markLive 133 = .ok (.iload_n 3, 1) := by decide +kernel
theorem dX9_markLive_134 : decode cX9_markLive 134 = .ok (.istore_n 3, 1) := by decide +kernel
theorem dX9_markLive_135 : decode cX9_markLive 135 = .ok (.iinc 4 1, 3) := by decide +kernel
theorem dX9_markLive_138 : decode cX9_markLive 138 = .ok (.goto (-50), 3) := by decide +kernel
theorem dX9_markLive_141 : decode cX9_markLive 141 = .ok (.iinc 2 1, 3) := by decide +kernel
theorem dX9_markLive_144 : decode cX9_markLive 144 = .ok (.goto (-118), 3) := by decide +kernel
theorem dX9_markLive_147 : decode cX9_markLive 147 = .ok (.iload_n 1, 1) := by decide +kernel
theorem dX9_markLive_148 : decode cX9_markLive 148 = .ok (.ireturn, 1) := by decide +kernel
theorem dX9_mark_0 : decode cX9_mark 0 = .ok (.iload_n 1, 1) := by decide +kernel
theorem dX9_mark_1 : decode cX9_mark 1 = .ok (.ifCond .lt 17, 3) := by decide +kernel
theorem dX9_mark_4 : decode cX9_mark 4 = .ok (.iload_n 1, 1) := by decide +kernel
theorem dX9_mark_5 : decode cX9_mark 5 = .ok (.sipush 200, 3) := by decide +kernel
theorem dX9_mark_8 : decode cX9_mark 8 = .ok (.if_icmp .ge 10, 3) := by decide +kernel
theorem dX9_mark_11 : decode cX9_mark 11 = .ok (.aload_n 0, 1) := by decide +kernel
theorem dX9_mark_12 : decode cX9_mark 12 = .ok (.getfield 37, 3) := by decide +kernel
theorem dX9_mark_15 : decode cX9_mark 15 = .ok (.iload_n 1, 1) := by decide +kernel
theorem dX9_mark_16 : decode cX9_mark 16 = .ok (.iconst 1, 1) := by decide +kernel
theorem dX9_mark_17 : decode cX9_mark 17 = .ok (.bastore, 1) := by decide +kernel
theorem dX9_mark_18 : decode cX9_mark 18 = .ok (.return_, 1) := by decide +kernel
theorem dX9_used_0 : decode cX9_used 0 = .ok (.iconst 0, 1) := by decide +kernel
theorem dX9_used_1 : decode cX9_used 1 = .ok (.istore_n 1, 1) := by decide +kernel
theorem dX9_used_2 : decode cX9_used 2 = .ok (.iconst 0, 1) := by decide +kernel
theorem dX9_used_3 : decode cX9_used 3 = .ok (.istore_n 2, 1) := by decide +kernel
theorem dX9_used_4 : decode cX9_used 4 = .ok (.iload_n 2, 1) := by decide +kernel
theorem dX9_used_5 : decode cX9_used 5 = .ok (.sipush 200, 3) := by decide +kernel
theorem dX9_used_8 : decode cX9_used 8 = .ok (.if_icmp .ge 26, 3) := by decide +kernel
theorem dX9_used_11 : decode cX9_used 11 = .ok (.iload_n 1, 1) := by decide +kernel
theorem dX9_used_12 : decode cX9_used 12 = .ok (.aload_n 0, 1) := by decide +kernel
theorem dX9_used_13 : decode cX9_used 13 = .ok (.getfield 37, 3) := by decide +kernel
theorem dX9_used_16 : decode cX9_used 16 = .ok (.iload_n 2, 1) := by decide +kernel
theorem dX9_used_17 : decode cX9_used 17 = .ok (.baload, 1) := by decide +kernel
theorem dX9_used_18 : decode cX9_used 18 = .ok (.ifCond .eq 7, 3) := by decide +kernel
theorem dX9_used_21 : decode cX9_used 21 = .ok (.iconst 1, 1) := by decide +kernel
theorem dX9_used_22 : decode cX9_used 22 = .ok (.goto 4, 3) := by decide +kernel
theorem dX9_used_25 : decode cX9_used 25 = .ok (.iconst 0, 1) := by decide +kernel
theorem dX9_used_26 : decode cX9_used 26 = .ok (.iadd, 1) := by decide +kernel
theorem dX9_used_27 : decode cX9_used 27 = .ok (.istore_n 1, 1) := by decide +kernel
theorem dX9_used_28 : decode cX9_used 28 = .ok (.iinc 2 1, 3) := by decide +kernel
theorem dX9_used_31 : decode cX9_used 31 = .ok (.goto (-27), 3) := by decide +kernel
theorem dX9_used_34 : decode cX9_used 34 = .ok (.iload_n 1, 1) := by decide +kernel
theorem dX9_used_35 : decode cX9_used 35 = .ok (.ireturn, 1) := by decide +kernel
set_option maxRecDepth 20000 in
theorem ggX9_step_X9_goOff : GoodIn wsX9_step wsX9_goOff := goodIn_r _ [8, 1, 2, 9, 10, 11, 12, 13, 14, 15, 16, 17, 18, 19, 20, 21, 22, 23, 24, 25, 26, 27, 28, 29, 30, 31, 32, 33] (by decide +kernel) (by decide +kernel)
set_option maxRecDepth 20000 in
theorem gX9_step_X9_goOff : GoodIn wsX9_step (wsV RX9 116 RX9 yX9_goOff wsX9_goOff) := goodIn_app (goodIn_of _ (by decide +kernel)) ggX9_step_X9_goOff
theorem dX9_step_0 : decode cX9_step 0 = .ok (.aload_n 0, 1) := by decide +kernel
theorem dX9_step_1 : decode cX9_step 1 = .ok (.getfield 17, 3) := by decide +kernel
theorem dX9_step_4 : decode cX9_step 4 = .ok (.ifCond .ne 5, 3) := by decide +kernel
theorem dX9_step_7 : decode cX9_step 7 = .ok (.iconst 0, 1) := by decide +kernel
theorem dX9_step_8 : decode cX9_step 8 = .ok (.ireturn, 1) := by decide +kernel
theorem dX9_step_9 : decode cX9_step 9 = .ok (.aload_n 0, 1) := by decide +kernel
theorem dX9_step_10 : decode cX9_step 10 = .ok (.getfield 21, 3) := by decide +kernel
theorem dX9_step_13 : decode cX9_step 13 = .ok (.ifCond .ne 9, 3) := by decide +kernel
theorem dX9_step_16 : decode cX9_step 16 = .ok (.aload_n 0, 1) := by decide +kernel
theorem dX9_step_17 : decode cX9_step 17 = .ok (.invokevirtual 116, 3) := by decide +kernel
theorem dX9_step_20 : decode cX9_step 20 = .ok (.iconst 0, 1) := by decide +kernel
theorem dX9_step_21 : decode cX9_step 21 = .ok (.ireturn, 1) := by decide +kernel
theorem dX9_step_22 : decode cX9_step 22 = .ok (.aload_n 0, 1) := by decide +kernel
theorem dX9_step_23 : decode cX9_step 23 = .ok (.dup, 1) := by decide +kernel
theorem dX9_step_24 : decode cX9_step 24 = .ok (.getfield 21, 3) := by decide +kernel
theorem dX9_step_27 : decode cX9_step 27 = .ok (.aload_n 0, 1) := by decide +kernel
theorem dX9_step_28 : decode cX9_step 28 = .ok (.getfield 21, 3) := by decide +kernel
theorem dX9_step_31 : decode cX9_step 31 = .ok (.ifCond .le 7, 3) := by decide +kernel
theorem dX9_step_34 : decode cX9_step 34 = .ok (.iconst 1, 1) := by decide +kernel
theorem dX9_step_35 : decode cX9_step 35 = .ok (.goto 4, 3) := by decide +kernel
theorem dX9_step_38 : decode cX9_step 38 = .ok (.iconst 0, 1) := by decide +kernel
theorem dX9_step_39 : decode cX9_step 39 = .ok (.isub, 1) := by decide +kernel
theorem dX9_step_40 : decode cX9_step 40 = .ok (.putfield 21, 3) := by decide +kernel
theorem dX9_step_43 : decode cX9_step 43 = .ok (.aload_n 0, 1) := by decide +kernel
theorem dX9_step_44 : decode cX9_step 44 = .ok (.dup, 1) := by decide +kernel
theorem dX9_step_45 : decode cX9_step 45 = .ok (.getfield 63, 3) := by decide +kernel
theorem dX9_step_48 : decode cX9_step 48 = .ok (.iconst 1, 1) := by decide +kernel
theorem dX9_step_49 : decode cX9_step 49 = .ok (.iadd, 1) := by decide +kernel
theorem dX9_step_50 : decode cX9_step 50 = .ok (.putfield 63, 3) := by decide +kernel
theorem dX9_step_53 : decode cX9_step 53 = .ok (.iconst 1, 1) := by decide +kernel
theorem dX9_step_54 : decode cX9_step 54 = .ok (.ireturn, 1) := by decide +kernel
theorem dX9_goOff_0 : decode cX9_goOff 0 = .ok (.aload_n 0, 1) := by decide +kernel
theorem dX9_goOff_1 : decode cX9_goOff 1 = .ok (.iconst 0, 1) := by decide +kernel
theorem dX9_goOff_2 : decode cX9_goOff 2 = .ok (.putfield 17, 3) := by decide +kernel
theorem dX9_goOff_5 : decode cX9_goOff 5 = .ok (.aload_n 0, 1) := by decide +kernel
theorem dX9_goOff_6 : decode cX9_goOff 6 = .ok (.iconst (-1), 1) := by decide +kernel
theorem dX9_goOff_7 : decode cX9_goOff 7 = .ok (.putfield 21, 3) := by decide +kernel
theorem dX9_goOff_10 : decode cX9_goOff 10 = .ok (.aload_n 0, 1) := by decide +kernel
theorem dX9_goOff_11 : decode cX9_goOff 11 = .ok (.iconst 0, 1) := by decide +kernel
theorem dX9_goOff_12 : decode cX9_goOff 12 = .ok (.putfield 119, 3) := by decide +kernel
theorem dX9_goOff_15 : decode cX9_goOff 15 = .ok (.aload_n 0, 1) := by decide +kernel
theorem dX9_goOff_16 : decode cX9_goOff 16 = .ok (.iconst 0, 1) := by decide +kernel
theorem dX9_goOff_17 : decode cX9_goOff 17 = .ok (.putfield 122, 3) := by decide +kernel
theorem dX9_goOff_20 : decode cX9_goOff 20 = .ok (.return_, 1) := by decide +kernel
theorem dX9_takeKey_0 : decode cX9_takeKey 0 = .ok (.aload_n 0, 1) := by decide +kernel
theorem dX9_takeKey_1 : decode cX9_takeKey 1 = .ok (.getfield 24, 3) := by decide +kernel
theorem dX9_takeKey_4 : decode cX9_takeKey 4 = .ok (.iconst 0, 1) := by decide +kernel
theorem dX9_takeKey_5 : decode cX9_takeKey 5 = .ok (.laload, 1) := by decide +kernel
theorem dX9_takeKey_6 : decode cX9_takeKey 6 = .ok (.lstore_n 1, 1) := by decide +kernel
theorem dX9_takeKey_7 : decode cX9_takeKey 7 = .ok (.aload_n 0, 1) := by decide +kernel
theorem dX9_takeKey_8 : decode cX9_takeKey 8 = .ok (.dup, 1) := by decide +kernel
theorem dX9_takeKey_9 : decode cX9_takeKey 9 = .ok (.getfield 119, 3) := by decide +kernel
theorem dX9_takeKey_12 : decode cX9_takeKey 12 = .ok (.iconst 1, 1) := by decide +kernel
theorem dX9_takeKey_13 : decode cX9_takeKey 13 = .ok (.isub, 1) := by decide +kernel
theorem dX9_takeKey_14 : decode cX9_takeKey 14 = .ok (.putfield 119, 3) := by decide +kernel
theorem dX9_takeKey_17 : decode cX9_takeKey 17 = .ok (.iconst 0, 1) := by decide +kernel
theorem dX9_takeKey_18 : decode cX9_takeKey 18 = .ok (.istore_n 3, 1) := by decide +kernel
theorem dX9_takeKey_19 : decode cX9_takeKey 19 = .ok (.iload_n 3, 1) := by decide +kernel
theorem dX9_takeKey_20 : decode cX9_takeKey 20 = .ok (.aload_n 0, 1) := by decide +kernel
theorem dX9_takeKey_21 : decode cX9_takeKey 21 = .ok (.getfield 119, 3) := by decide +kernel
theorem dX9_takeKey_24 : decode cX9_takeKey 24 = .ok (.if_icmp .ge 23, 3) := by decide +kernel
theorem dX9_takeKey_27 : decode cX9_takeKey 27 = .ok (.aload_n 0, 1) := by decide +kernel
theorem dX9_takeKey_28 : decode cX9_takeKey 28 = .ok (.getfield 24, 3) := by decide +kernel
theorem dX9_takeKey_31 : decode cX9_takeKey 31 = .ok (.iload_n 3, 1) := by decide +kernel
theorem dX9_takeKey_32 : decode cX9_takeKey 32 = .ok (.aload_n 0, 1) := by decide +kernel
theorem dX9_takeKey_33 : decode cX9_takeKey 33 = .ok (.getfield 24, 3) := by decide +kernel
theorem dX9_takeKey_36 : decode cX9_takeKey 36 = .ok (.iload_n 3, 1) := by decide +kernel
theorem dX9_takeKey_37 : decode cX9_takeKey 37 = .ok (.iconst 1, 1) := by decide +kernel
theorem dX9_takeKey_38 : decode cX9_takeKey 38 = .ok (.iadd, 1) := by decide +kernel
theorem dX9_takeKey_39 : decode cX9_takeKey 39 = .ok (.laload, 1) := by decide +kernel
theorem dX9_takeKey_40 : decode cX9_takeKey 40 = .ok (.lastore, 1) := by decide +kernel
theorem dX9_takeKey_41 : decode cX9_takeKey 41 = .ok (.iinc 3 1, 3) := by decide +kernel
theorem dX9_takeKey_44 : decode cX9_takeKey 44 = .ok (.goto (-25), 3) := by decide +kernel
theorem dX9_takeKey_47 : decode cX9_takeKey 47 = .ok (.lload_n 1, 1) := by decide +kernel
theorem dX9_takeKey_48 : decode cX9_takeKey 48 = .ok (.lreturn, 1) := by decide +kernel
set_option maxRecDepth 20000 in
theorem ggX9_write_X9_writingOf : GoodIn wsX9_write wsX9_writingOf := goodIn_r _ [12, 13, 14, 15, 11, 16, 6, 36, 37, 38, 39, 40, 41, 42, 43, 44, 45, 46, 47, 48, 49, 50, 51, 52, 53, 54, 55, 56, 57, 58] (by decide +kernel) (by decide +kernel)
set_option maxRecDepth 20000 in
theorem gX9_write_X9_writingOf : GoodIn wsX9_write (wsV RX9 80 RX9 yX9_writingOf wsX9_writingOf) := goodIn_app (goodIn_of _ (by decide +kernel)) ggX9_write_X9_writingOf
set_option maxRecDepth 20000 in
theorem ggX9_write_X9_pad : GoodIn wsX9_write wsX9_pad := goodIn_r _ [19, 20, 21, 22] (by decide +kernel) (by decide +kernel)
set_option maxRecDepth 20000 in
theorem gX9_write_X9_pad : GoodIn wsX9_write (va_wsS RX9 86 yX9_pad wsX9_pad) := goodIn_app (goodIn_of _ (by decide +kernel)) ggX9_write_X9_pad
set_option maxRecDepth 20000 in
theorem ggX9_write_X9_step : GoodIn wsX9_write wsX9_step := goodIn_r _ [26, 27, 28, 29, 30, 31, 32, 11, 33, 34, 35, 36, 37, 38, 39, 40, 41, 42, 43, 44, 45, 46, 47, 48, 49, 50, 51, 52, 53, 54, 55, 56, 57, 58] (by decide +kernel) (by decide +kernel)
set_option maxRecDepth 20000 in
theorem gX9_write_X9_step : GoodIn wsX9_write (wsV RX9 125 RX9 yX9_step wsX9_step) := goodIn_app (goodIn_of _ (by decide +kernel)) ggX9_write_X9_step
theorem dX9_write_0 : decode cX9_write 0 = .ok (.aload_n 0, 1) := by decide +kernel
theorem dX9_write_1 : decode cX9_write 1 = .ok (.getfield 34, 3) := by decide +kernel
theorem dX9_write_4 : decode cX9_write 4 = .ok (.iconst (-1), 1) := by decide +kernel
theorem dX9_write_5 : decode cX9_write 5 = .ok (.if_icmp .ne 7, 3) := by decide +kernel
theorem dX9_write_8 : decode cX9_write 8 = .ok (.iconst 0, 1) := by decide +kernel
theorem dX9_write_9 : decode cX9_write 9 = .ok (.goto 13, 3) := by decide +kernel
theorem dX9_write_12 : decode cX9_write 12 = .ok (.aload_n 0, 1) := by decide +kernel
theorem dX9_write_13 : decode cX9_write 13 = .ok (.getfield 34, 3) := by decide +kernel
theorem dX9_write_16 : decode cX9_write 16 = .ok (.iconst 1, 1) := by decide +kernel
theorem dX9_write_17 : decode cX9_write 17 = .ok (.iadd, 1) := by decide +kernel
theorem dX9_write_18 : decode cX9_write 18 = .ok (.sipush 200, 3) := by decide +kernel
theorem dX9_write_21 : decode cX9_write 21 = .ok (.irem, 1) := by decide +kernel
theorem dX9_write_22 : decode cX9_write 22 = .ok (.istore 4, 2) := by decide +kernel
theorem dX9_write_24 : decode cX9_write 24 = .ok (.aload_n 0, 1) := by decide +kernel
theorem dX9_write_25 : decode cX9_write 25 = .ok (.getfield 37, 3) := by decide +kernel
theorem dX9_write_28 : decode cX9_write 28 = .ok (.iload 4, 2) := by decide +kernel
theorem dX9_write_30 : decode cX9_write 30 = .ok (.baload, 1) := by decide +kernel
theorem dX9_write_31 : decode cX9_write 31 = .ok (.ifCond .eq 16, 3) := by decide +kernel
theorem dX9_write_34 : decode cX9_write 34 = .ok (.iload 4, 2) := by decide +kernel
theorem dX9_write_36 : decode cX9_write 36 = .ok (.iconst 1, 1) := by decide +kernel
theorem dX9_write_37 : decode cX9_write 37 = .ok (.iadd, 1) := by decide +kernel
theorem dX9_write_38 : decode cX9_write 38 = .ok (.sipush 200, 3) := by decide +kernel
theorem dX9_write_41 : decode cX9_write 41 = .ok (.irem, 1) := by decide +kernel
theorem dX9_write_42 : decode cX9_write 42 = .ok (.istore 4, 2) := by decide +kernel
theorem dX9_write_44 : decode cX9_write 44 = .ok (.goto (-20), 3) := by decide +kernel
theorem dX9_write_47 : decode cX9_write 47 = .ok (.iconst 0, 1) := by decide +kernel
theorem dX9_write_48 : decode cX9_write 48 = .ok (.istore 5, 2) := by decide +kernel
theorem dX9_write_50 : decode cX9_write 50 = .ok (.iconst 0, 1) := by decide +kernel
theorem dX9_write_51 : decode cX9_write 51 = .ok (.istore 6, 2) := by decide +kernel
theorem dX9_write_53 : decode cX9_write 53 = .ok (.iload 6, 2) := by decide +kernel
theorem dX9_write_55 : decode cX9_write 55 = .ok (.sipush 200, 3) := by decide +kernel
theorem dX9_write_58 : decode cX9_write 58 = .ok (.if_icmp .ge 33, 3) := by decide +kernel
theorem dX9_write_61 : decode cX9_write 61 = .ok (.aload_n 0, 1) := by decide +kernel
theorem dX9_write_62 : decode cX9_write 62 = .ok (.iload 6, 2) := by decide +kernel
theorem dX9_write_64 : decode cX9_write 64 = .ok (.invokevirtual 80, 3) := by decide +kernel
theorem dX9_write_67 : decode cX9_write 67 = .ok (.iload 5, 2) := by decide +kernel
theorem dX9_write_69 : decode cX9_write 69 = .ok (.if_icmp .le 12, 3) := by decide +kernel
theorem dX9_write_72 : decode cX9_write 72 = .ok (.aload_n 0, 1) := by decide +kernel
theorem dX9_write_73 : decode cX9_write 73 = .ok (.iload 6, 2) := by decide +kernel
theorem dX9_write_75 : decode cX9_write 75 = .ok (.invokevirtual 80, 3) := by decide +kernel
theorem dX9_write_78 : decode cX9_write 78 = .ok (.goto 5, 3) := by decide +kernel
theorem dX9_write_81 : decode cX9_write 81 = .ok (.iload 5, 2) := by decide +kernel
theorem dX9_write_83 : decode cX9_write 83 = .ok (.istore 5, 2) := by decide +kernel
theorem dX9_write_85 : decode cX9_write 85 = .ok (.iinc 6 1, 3) := by decide +kernel
theorem dX9_write_88 : decode cX9_write 88 = .ok (.goto (-35), 3) := by decide +kernel
theorem dX9_write_91 : decode cX9_write 91 = .ok (.iinc 5 1, 3) := by decide +kernel
theorem dX9_write_94 : decode cX9_write 94 = .ok (.aload_n 0, 1) := by decide +kernel
theorem dX9_write_95 : decode cX9_write 95 = .ok (.getfield 44, 3) := by decide +kernel
theorem dX9_write_98 : decode cX9_write 98 = .ok (.iconst 0, 1) := by decide +kernel
theorem dX9_write_99 : decode cX9_write 99 = .ok (.iload_n 1, 1) := by decide +kernel
theorem dX9_write_100 : decode cX9_write 100 = .ok (.i2b, 1) := by decide +kernel
theorem dX9_write_101 : decode cX9_write 101 = .ok (.bastore, 1) := by decide +kernel
theorem dX9_write_102 : decode cX9_write 102 = .ok (.lload_n 2, 1) := by decide +kernel
theorem dX9_write_103 : decode cX9_write 103 = .ok (.iload 5, 2) := by decide +kernel
theorem dX9_write_105 : decode cX9_write 105 = .ok (.i2l, 1) := by decide +kernel
theorem dX9_write_106 : decode cX9_write 106 = .ok (.ldc2_w 84, 3) := by decide +kernel
theorem dX9_write_109 : decode cX9_write 109 = .ok (.invokestatic 86, 3) := by decide +kernel
theorem dX9_write_112 : decode cX9_write 112 = .ok (.lstore 6, 2) := by decide +kernel
theorem dX9_write_114 : decode cX9_write 114 = .ok (.iconst 0, 1) := by decide +kernel
theorem dX9_write_115 : decode cX9_write 115 = .ok (.istore 8, 2) := by decide +kernel
theorem dX9_write_117 : decode cX9_write 117 = .ok (.iload 8, 2) := by decide +kernel
theorem dX9_write_119 : decode cX9_write 119 = .ok (.iconst 4, 1) := by decide +kernel
theorem dX9_write_120 : decode cX9_write 120 = .ok (.if_icmp .ge 30, 3) := by decide +kernel
theorem dX9_write_123 : decode cX9_write 123 = .ok (.aload_n 0, 1) := by decide +kernel
theorem dX9_write_124 : decode cX9_write 124 = .ok (.getfield 44, 3) := by decide +kernel
theorem dX9_write_127 : decode cX9_write 127 = .ok (.iconst 1, 1) := by decide +kernel
theorem dX9_write_128 : decode cX9_write 128 = .ok (.iload 8, 2) := by decide +kernel
theorem dX9_write_130 : decode cX9_write 130 = .ok (.iadd, 1) := by decide +kernel
theorem dX9_write_131 : decode cX9_write 131 = .ok (.iload 5, 2) := by decide +kernel
theorem dX9_write_133 : decode cX9_write 133 = .ok (.bipush 24, 2) := by decide +kernel
theorem dX9_write_135 : decode cX9_write 135 = .ok (.bipush 8, 2) := by decide +kernel
theorem dX9_write_137 : decode cX9_write 137 = .ok (.iload 8, 2) := by decide +kernel
theorem dX9_write_139 : decode cX9_write 139 = .ok (.imul, 1) := by decide +kernel
theorem dX9_write_140 : decode cX9_write 140 = .ok (.isub, 1) := by decide +kernel
theorem dX9_write_141 : decode cX9_write 141 = .ok (.ishr, 1) := by decide +kernel
theorem dX9_write_142 : decode cX9_write 142 = .ok (.i2b, 1) := by decide +kernel
theorem dX9_write_143 : decode cX9_write 143 = .ok (.bastore, 1) := by decide +kernel
theorem dX9_write_144 : decode cX9_write 144 = .ok (.iinc 8 1, 3) := by decide +kernel
theorem dX9_write_147 : decode cX9_write 147 = .ok (.goto (-30), 3) := by decide +kernel
theorem dX9_write_150 : decode cX9_write 150 = .ok (.iconst 0, 1) := by decide +kernel
theorem dX9_write_151 : decode cX9_write 151 = .ok (.istore 8, 2) := by decide +kernel
theorem dX9_write_153 : decode cX9_write 153 = .ok (.iload 8, 2) := by decide +kernel
theorem dX9_write_155 : decode cX9_write 155 = .ok (.bipush 8, 2) := by decide +kernel
theorem dX9_write_157 : decode cX9_write 157 = .ok (.if_icmp .ge 31, 3) := by decide +kernel
theorem dX9_write_160 : decode cX9_write 160 = .ok (.aload_n 0, 1) := by decide +kernel
theorem dX9_write_161 : decode cX9_write 161 = .ok (.getfield 44, 3) := by decide +kernel
theorem dX9_write_164 : decode cX9_write 164 = .ok (.iconst 5, 1) := by decide +kernel
theorem dX9_write_165 : decode cX9_write 165 = .ok (.iload 8, 2) := by decide +kernel
theorem dX9_write_167 : decode cX9_write 167 = .ok (.iadd, 1) := by decide +kernel
theorem dX9_write_168 : decode cX9_write 168 = .ok (.lload 6, 2) := by decide +kernel
theorem dX9_write_170 : decode cX9_write 170 = .ok (.bipush 56, 2) := by decide +kernel
theorem dX9_write_172 : decode cX9_write 172 = .ok (.bipush 8, 2) := by decide +kernel
theorem dX9_write_174 : decode cX9_write 174 = .ok (.iload 8, 2) := by decide +kernel
theorem dX9_write_176 : decode cX9_write 176 = .ok (.imul, 1) := by decide +kernel
theorem dX9_write_177 : decode cX9_write 177 = .ok (.isub, 1) := by decide +kernel
theorem dX9_write_178 : decode cX9_write 178 = .ok (.lushr, 1) := by decide +kernel
theorem dX9_write_179 : decode cX9_write 179 = .ok (.l2i, 1) := by decide +kernel
theorem dX9_write_180 : decode cX9_write 180 = .ok (.i2b, 1) := by decide +kernel
theorem dX9_write_181 : decode cX9_write 181 = .ok (.bastore, 1) := by decide +kernel
theorem dX9_write_182 : decode cX9_write 182 = .ok (.iinc 8 1, 3) := by decide +kernel
theorem dX9_write_185 : decode cX9_write 185 = .ok (.goto (-32), 3) := by decide +kernel
theorem dX9_write_188 : decode cX9_write 188 = .ok (.iconst 0, 1) := by decide +kernel
theorem dX9_write_189 : decode cX9_write 189 = .ok (.istore 8, 2) := by decide +kernel
theorem dX9_write_191 : decode cX9_write 191 = .ok (.iload 8, 2) := by decide +kernel
theorem dX9_write_193 : decode cX9_write 193 = .ok (.bipush 51, 2) := by decide +kernel
theorem dX9_write_195 : decode cX9_write 195 = .ok (.if_icmp .ge 54, 3) := by decide +kernel
theorem dX9_write_198 : decode cX9_write 198 = .ok (.aload_n 0, 1) := by decide +kernel
theorem dX9_write_199 : decode cX9_write 199 = .ok (.getfield 44, 3) := by decide +kernel
theorem dX9_write_202 : decode cX9_write 202 = .ok (.bipush 13, 2) := by decide +kernel
theorem dX9_write_204 : decode cX9_write 204 = .ok (.iload 8, 2) := by decide +kernel
theorem dX9_write_206 : decode cX9_write 206 = .ok (.iadd, 1) := by decide +kernel
theorem dX9_write_207 : decode cX9_write 207 = .ok (.aload_n 0, 1) := by decide +kernel
theorem dX9_write_208 : decode cX9_write 208 = .ok (.getfield 41, 3) := by decide +kernel
theorem dX9_write_211 : decode cX9_write 211 = .ok (.iload 8, 2) := by decide +kernel
theorem dX9_write_213 : decode cX9_write 213 = .ok (.baload, 1) := by decide +kernel
theorem dX9_write_214 : decode cX9_write 214 = .ok (.lload_n 2, 1) := by decide +kernel
theorem dX9_write_215 : decode cX9_write 215 = .ok (.iload 5, 2) := by decide +kernel
theorem dX9_write_217 : decode cX9_write 217 = .ok (.i2l, 1) := by decide +kernel
theorem dX9_write_218 : decode cX9_write 218 = .ok (.iload 8, 2) := by decide +kernel
theorem dX9_write_220 : decode cX9_write 220 = .ok (.bipush 8, 2) := by decide +kernel
theorem dX9_write_222 : decode cX9_write 222 = .ok (.idiv, 1) := by decide +kernel
theorem dX9_write_223 : decode cX9_write 223 = .ok (.i2l, 1) := by decide +kernel
theorem dX9_write_224 : decode cX9_write 224 = .ok (.invokestatic 86, 3) := by decide +kernel
theorem dX9_write_227 : decode cX9_write 227 = .ok (.bipush 56, 2) := by decide +kernel
theorem dX9_write_229 : decode cX9_write 229 = .ok (.bipush 8, 2) := by decide +kernel
theorem dX9_write_231 : decode cX9_write 231 = .ok (.iload 8, 2) := by decide +kernel
theorem dX9_write_233 : decode cX9_write 233 = .ok (.bipush 8, 2) := by decide +kernel
theorem dX9_write_235 : decode cX9_write 235 = .ok (.irem, 1) := by decide +kernel
theorem dX9_write_236 : decode cX9_write 236 = .ok (.imul, 1) := by decide +kernel
theorem dX9_write_237 : decode cX9_write 237 = .ok (.isub, 1) := by decide +kernel
theorem dX9_write_238 : decode cX9_write 238 = .ok (.lushr, 1) := by decide +kernel
theorem dX9_write_239 : decode cX9_write 239 = .ok (.l2i, 1) := by decide +kernel
theorem dX9_write_240 : decode cX9_write 240 = .ok (.ixor, 1) := by decide +kernel
theorem dX9_write_241 : decode cX9_write 241 = .ok (.i2b, 1) := by decide +kernel
theorem dX9_write_242 : decode cX9_write 242 = .ok (.bastore, 1) := by decide +kernel
theorem dX9_write_243 : decode cX9_write 243 = .ok (.iinc 8 1, 3) := by decide +kernel
theorem dX9_write_246 : decode cX9_write 246 = .ok (.goto (-55), 3) := by decide +kernel
theorem dX9_write_249 : decode cX9_write 249 = .ok (.aload_n 0, 1) := by decide +kernel
theorem dX9_write_250 : decode cX9_write 250 = .ok (.getfield 37, 3) := by decide +kernel
theorem dX9_write_253 : decode cX9_write 253 = .ok (.iload 4, 2) := by decide +kernel
theorem dX9_write_255 : decode cX9_write 255 = .ok (.iconst 1, 1) := by decide +kernel
theorem dX9_write_256 : decode cX9_write 256 = .ok (.bastore, 1) := by decide +kernel
theorem dX9_write_257 : decode cX9_write 257 = .ok (.aload_n 0, 1) := by decide +kernel
theorem dX9_write_258 : decode cX9_write 258 = .ok (.iload 4, 2) := by decide +kernel
theorem dX9_write_260 : decode cX9_write 260 = .ok (.putfield 34, 3) := by decide +kernel
theorem dX9_write_263 : decode cX9_write 263 = .ok (.iconst 3, 1) := by decide +kernel
theorem dX9_write_264 : decode cX9_write 264 = .ok (.istore 8, 2) := by decide +kernel
theorem dX9_write_266 : decode cX9_write 266 = .ok (.iload 8, 2) := by decide +kernel
theorem dX9_write_268 : decode cX9_write 268 = .ok (.ifCond .lt 64, 3) := by decide +kernel
theorem dX9_write_271 : decode cX9_write 271 = .ok (.aload_n 0, 1) := by decide +kernel
theorem dX9_write_272 : decode cX9_write 272 = .ok (.invokevirtual 125, 3) := by decide +kernel
theorem dX9_write_275 : decode cX9_write 275 = .ok (.ifCond .ne 5, 3) := by decide +kernel
theorem dX9_write_278 : decode cX9_write 278 = .ok (.iconst (-1), 1) := by decide +kernel
theorem dX9_write_279 : decode cX9_write 279 = .ok (.ireturn, 1) := by decide +kernel
theorem dX9_write_280 : decode cX9_write 280 = .ok (.bipush 16, 2) := by decide +kernel
theorem dX9_write_282 : decode cX9_write 282 = .ok (.iload 8, 2) := by decide +kernel
theorem dX9_write_284 : decode cX9_write 284 = .ok (.imul, 1) := by decide +kernel
theorem dX9_write_285 : decode cX9_write 285 = .ok (.istore 9, 2) := by decide +kernel
theorem dX9_write_287 : decode cX9_write 287 = .ok (.iload 9, 2) := by decide +kernel
theorem dX9_write_289 : decode cX9_write 289 = .ok (.bipush 16, 2) := by decide +kernel
theorem dX9_write_291 : decode cX9_write 291 = .ok (.iload 8, 2) := by decide +kernel
theorem dX9_write_293 : decode cX9_write 293 = .ok (.imul, 1) := by decide +kernel
theorem dX9_write_294 : decode cX9_write 294 = .ok (.bipush 16, 2) := by decide +kernel
theorem dX9_write_296 : decode cX9_write 296 = .ok (.iadd, 1) := by decide +kernel
theorem dX9_write_297 : decode cX9_write 297 = .ok (.if_icmp .ge 29, 3) := by decide +kernel
theorem dX9_write_300 : decode cX9_write 300 = .ok (.aload_n 0, 1) := by decide +kernel
theorem dX9_write_301 : decode cX9_write 301 = .ok (.getfield 7, 3) := by decide +kernel
theorem dX9_write_304 : decode cX9_write 304 = .ok (.bipush 64, 2) := by decide +kernel
theorem dX9_write_306 : decode cX9_write 306 = .ok (.iload 4, 2) := by decide +kernel
theorem dX9_write_308 : decode cX9_write 308 = .ok (.imul, 1) := by decide +kernel
theorem dX9_write_309 : decode cX9_write 309 = .ok (.iload 9, 2) := by decide +kernel
theorem dX9_write_311 : decode cX9_write 311 = .ok (.iadd, 1) := by decide +kernel
theorem dX9_write_312 : decode cX9_write 312 = .ok (.aload_n 0, 1) := by decide +kernel
theorem dX9_write_313 : decode cX9_write 313 = .ok (.getfield 44, 3) := by decide +kernel
theorem dX9_write_316 : decode cX9_write 316 = .ok (.iload 9, 2) := by decide +kernel
theorem dX9_write_318 : decode cX9_write 318 = .ok (.baload, 1) := by decide +kernel
theorem dX9_write_319 : decode cX9_write 319 = .ok (.bastore, 1) := by decide +kernel
theorem dX9_write_320 : decode cX9_write 320 = .ok (.iinc 9 1, 3) := by decide +kernel
theorem dX9_write_323 : decode cX9_write 323 = .ok (.goto (-36), 3) := by decide +kernel
theorem dX9_write_326 : decode cX9_write 326 = .ok (.iinc 8 (-1), 3) := by decide +kernel
theorem dX9_write_329 : decode cX9_write 329 = .ok (.goto (-63), 3) := by decide +kernel
theorem dX9_write_332 : decode cX9_write 332 = .ok (.aload_n 0, 1) := by decide +kernel
theorem dX9_write_333 : decode cX9_write 333 = .ok (.dup, 1) := by decide +kernel
theorem dX9_write_334 : decode cX9_write 334 = .ok (.getfield 129, 3) := by decide +kernel
theorem dX9_write_337 : decode cX9_write 337 = .ok (.iconst 1, 1) := by decide +kernel
theorem dX9_write_338 : decode cX9_write 338 = .ok (.iadd, 1) := by decide +kernel
theorem dX9_write_339 : decode cX9_write 339 = .ok (.putfield 129, 3) := by decide +kernel
theorem dX9_write_342 : decode cX9_write 342 = .ok (.iload 4, 2) := by decide +kernel
theorem dX9_write_344 : decode cX9_write 344 = .ok (.ireturn, 1) := by decide +kernel
set_option maxRecDepth 20000 in
theorem ggX9_branch_X9_openNode : GoodIn wsX9_branch wsX9_openNode := goodIn_r _ [11, 12, 3, 4, 13, 14, 15, 10, 16, 17, 18, 19, 20, 21, 22, 23, 24, 25, 26, 27, 28, 29, 30, 31, 66, 67, 68, 69, 70, 71, 72, 73, 74, 75, 76, 77, 78, 79, 80, 81, 82, 83, 84, 85, 86, 87, 88] (by decide +kernel) (by decide +kernel)
set_option maxRecDepth 20000 in
theorem gX9_branch_X9_openNode : GoodIn wsX9_branch (wsV RX9 98 RX9 yX9_openNode wsX9_openNode) := goodIn_app (goodIn_of _ (by decide +kernel)) ggX9_branch_X9_openNode
set_option maxRecDepth 20000 in
theorem ggX9_branch_X9_entryOf : GoodIn wsX9_branch wsX9_entryOf := goodIn_r _ [34] (by decide +kernel) (by decide +kernel)
set_option maxRecDepth 20000 in
theorem gX9_branch_X9_entryOf : GoodIn wsX9_branch (va_wsS RX9 101 yX9_entryOf wsX9_entryOf) := goodIn_app (goodIn_of _ (by decide +kernel)) ggX9_branch_X9_entryOf
set_option maxRecDepth 20000 in
theorem ggX9_branch_X9_putEntries : GoodIn wsX9_branch wsX9_putEntries := goodIn_r _ [38, 12, 3, 4, 66, 67, 68, 69, 70, 71, 72, 73, 74, 75, 76, 77, 78, 79, 80, 81, 82, 83, 84, 85, 86, 87, 88] (by decide +kernel) (by decide +kernel)
set_option maxRecDepth 20000 in
theorem gX9_branch_X9_putEntries : GoodIn wsX9_branch (wsV RX9 132 RX9 yX9_putEntries wsX9_putEntries) := goodIn_app (goodIn_of _ (by decide +kernel)) ggX9_branch_X9_putEntries
set_option maxRecDepth 20000 in
theorem ggX9_branch_X9_takeKey : GoodIn wsX9_branch wsX9_takeKey := goodIn_r _ [42, 43, 44, 66, 67, 68, 69, 70, 71, 72, 73, 74, 75, 76, 77, 78, 79, 80, 81, 82, 83, 84, 85, 86, 87, 88] (by decide +kernel) (by decide +kernel)
set_option maxRecDepth 20000 in
theorem gX9_branch_X9_takeKey : GoodIn wsX9_branch (wsV RX9 135 RX9 yX9_takeKey wsX9_takeKey) := goodIn_app (goodIn_of _ (by decide +kernel)) ggX9_branch_X9_takeKey
set_option maxRecDepth 20000 in
theorem ggX9_branch_X9_write : GoodIn wsX9_branch wsX9_write := goodIn_r _ [48, 49, 50, 51, 52, 12, 25, 53, 17, 18, 19, 10, 20, 21, 22, 23, 24, 26, 27, 28, 29, 30, 31, 54, 55, 56, 57, 58, 59, 60, 61, 62, 63, 64, 44, 65, 66, 67, 68, 69, 70, 71, 72, 73, 74, 75, 76, 77, 78, 79, 80, 81, 82, 83, 84, 85, 86, 87, 88] (by decide +kernel) (by decide +kernel)
set_option maxRecDepth 20000 in
theorem gX9_branch_X9_write : GoodIn wsX9_branch (wsV RX9 139 RX9 yX9_write wsX9_write) := goodIn_app (goodIn_of _ (by decide +kernel)) ggX9_branch_X9_write
set_option maxRecDepth 20000 in
theorem ggX9_branch_X9_step : GoodIn wsX9_branch wsX9_step := goodIn_r _ [57, 58, 59, 60, 61, 62, 63, 10, 64, 44, 65, 66, 67, 68, 69, 70, 71, 72, 73, 74, 75, 76, 77, 78, 79, 80, 81, 82, 83, 84, 85, 86, 87, 88] (by decide +kernel) (by decide +kernel)
set_option maxRecDepth 20000 in
theorem gX9_branch_X9_step : GoodIn wsX9_branch (wsV RX9 125 RX9 yX9_step wsX9_step) := goodIn_app (goodIn_of _ (by decide +kernel)) ggX9_branch_X9_step
theorem dX9_branch_0 : decode cX9_branch 0 = .ok (.lload_n 2, 1) := by decide +kernel
theorem dX9_branch_1 : decode cX9_branch 1 = .ok (.lstore 5, 2) := by decide +kernel
theorem dX9_branch_3 : decode cX9_branch 3 = .ok (.iload 4, 2) := by decide +kernel
theorem dX9_branch_5 : decode cX9_branch 5 = .ok (.istore 7, 2) := by decide +kernel
theorem dX9_branch_7 : decode cX9_branch 7 = .ok (.iconst 2, 1) := by decide +kernel
theorem dX9_branch_8 : decode cX9_branch 8 = .ok (.istore 8, 2) := by decide +kernel
theorem dX9_branch_10 : decode cX9_branch 10 = .ok (.iload 8, 2) := by decide +kernel
theorem dX9_branch_12 : decode cX9_branch 12 = .ok (.ifCond .lt 150, 3) := by decide +kernel
theorem dX9_branch_15 : decode cX9_branch 15 = .ok (.aload_n 0, 1) := by decide +kernel
theorem dX9_branch_16 : decode cX9_branch 16 = .ok (.aload_n 0, 1) := by decide +kernel
theorem dX9_branch_17 : decode cX9_branch 17 = .ok (.getfield 57, 3) := by decide +kernel
theorem dX9_branch_20 : decode cX9_branch 20 = .ok (.iload 8, 2) := by decide +kernel
theorem dX9_branch_22 : decode cX9_branch 22 = .ok (.laload, 1) := by decide +kernel
theorem dX9_branch_23 : decode cX9_branch 23 = .ok (.aload_n 0, 1) := by decide +kernel
theorem dX9_branch_24 : decode cX9_branch 24 = .ok (.getfield 60, 3) := by decide +kernel
theorem dX9_branch_27 : decode cX9_branch 27 = .ok (.iload 8, 2) := by decide +kernel
theorem dX9_branch_29 : decode cX9_branch 29 = .ok (.iaload, 1) := by decide +kernel
theorem dX9_branch_30 : decode cX9_branch 30 = .ok (.invokevirtual 98, 3) := by decide +kernel
theorem dX9_branch_33 : decode cX9_branch 33 = .ok (.iload_n 1, 1) := by decide +kernel
theorem dX9_branch_34 : decode cX9_branch 34 = .ok (.iload 8, 2) := by decide +kernel
theorem dX9_branch_36 : decode cX9_branch 36 = .ok (.invokestatic 101, 3) := by decide +kernel
theorem dX9_branch_39 : decode cX9_branch 39 = .ok (.istore 9, 2) := by decide +kernel
theorem dX9_branch_41 : decode cX9_branch 41 = .ok (.aload_n 0, 1) := by decide +kernel
theorem dX9_branch_42 : decode cX9_branch 42 = .ok (.getfield 47, 3) := by decide +kernel
theorem dX9_branch_45 : decode cX9_branch 45 = .ok (.iload 9, 2) := by decide +kernel
theorem dX9_branch_47 : decode cX9_branch 47 = .ok (.lload 5, 2) := by decide +kernel
theorem dX9_branch_49 : decode cX9_branch 49 = .ok (.lastore, 1) := by decide +kernel
theorem dX9_branch_50 : decode cX9_branch 50 = .ok (.aload_n 0, 1) := by decide +kernel
theorem dX9_branch_51 : decode cX9_branch 51 = .ok (.getfield 50, 3) := by decide +kernel
theorem dX9_branch_54 : decode cX9_branch 54 = .ok (.iload 9, 2) := by decide +kernel
theorem dX9_branch_56 : decode cX9_branch 56 = .ok (.iload 7, 2) := by decide +kernel
theorem dX9_branch_58 : decode cX9_branch 58 = .ok (.iastore, 1) := by decide +kernel
theorem dX9_branch_59 : decode cX9_branch 59 = .ok (.aload_n 0, 1) := by decide +kernel
theorem dX9_branch_60 : decode cX9_branch 60 = .ok (.getfield 47, 3) := by decide +kernel
theorem dX9_branch_63 : decode cX9_branch 63 = .ok (.iconst 0, 1) := by decide +kernel
theorem dX9_branch_64 : decode cX9_branch 64 = .ok (.laload, 1) := by decide +kernel
theorem dX9_branch_65 : decode cX9_branch 65 = .ok (.lconst 0, 1) := by decide +kernel
theorem dX9_branch_66 : decode cX9_branch 66 = .ok (.lcmp, 1) := by decide +kernel
theorem dX9_branch_67 : decode cX9_branch 67 = .ok (.ifCond .ne 40, 3) := by decide +kernel
theorem dX9_branch_70 : decode cX9_branch 70 = .ok (.aload_n 0, 1) := by decide +kernel
theorem dX9_branch_71 : decode cX9_branch 71 = .ok (.getfield 47, 3) := by decide +kernel
theorem dX9_branch_74 : decode cX9_branch 74 = .ok (.iconst 1, 1) := by decide +kernel
theorem dX9_branch_75 : decode cX9_branch 75 = .ok (.laload, 1) := by decide +kernel
theorem dX9_branch_76 : decode cX9_branch 76 = .ok (.lconst 0, 1) := by decide +kernel
theorem dX9_branch_77 : decode cX9_branch 77 = .ok (.lcmp, 1) := by decide +kernel
theorem dX9_branch_78 : decode cX9_branch 78 = .ok (.ifCond .ne 29, 3) := by decide +kernel
theorem dX9_branch_81 : decode cX9_branch 81 = .ok (.aload_n 0, 1) := by decide +kernel
theorem dX9_branch_82 : decode cX9_branch 82 = .ok (.getfield 47, 3) := by decide +kernel
theorem dX9_branch_85 : decode cX9_branch 85 = .ok (.iconst 2, 1) := by decide +kernel
theorem dX9_branch_86 : decode cX9_branch 86 = .ok (.laload, 1) := by decide +kernel
theorem dX9_branch_87 : decode cX9_branch 87 = .ok (.lconst 0, 1) := by decide +kernel
theorem dX9_branch_88 : decode cX9_branch 88 = .ok (.lcmp, 1) := by decide +kernel
theorem dX9_branch_89 : decode cX9_branch 89 = .ok (.ifCond .ne 18, 3) := by decide +kernel
theorem dX9_branch_92 : decode cX9_branch 92 = .ok (.aload_n 0, 1) := by decide +kernel
theorem dX9_branch_93 : decode cX9_branch 93 = .ok (.getfield 47, 3) := by decide +kernel
theorem dX9_branch_96 : decode cX9_branch 96 = .ok (.iconst 3, 1) := by decide +kernel
theorem dX9_branch_97 : decode cX9_branch 97 = .ok (.laload, 1) := by decide +kernel
theorem dX9_branch_98 : decode cX9_branch 98 = .ok (.lconst 0, 1) := by decide +kernel
theorem dX9_branch_99 : decode cX9_branch 99 = .ok (.lcmp, 1) := by decide +kernel
theorem dX9_branch_100 : decode cX9_branch 100 = .ok (.ifCond .ne 7, 3) := by decide +kernel
theorem dX9_branch_103 : decode cX9_branch 103 = .ok (.iconst 1, 1) := by decide +kernel
theorem dX9_branch_104 : decode cX9_branch 104 = .ok (.goto 4, 3) := by decide +kernel
theorem dX9_branch_107 : decode cX9_branch 107 = .ok (.iconst 0, 1) := by decide +kernel
theorem dX9_branch_108 : decode cX9_branch 108 = .ok (.istore 10, 2) := by decide +kernel
theorem dX9_branch_110 : decode cX9_branch 110 = .ok (.iload 10, 2) := by decide +kernel
theorem dX9_branch_112 : decode cX9_branch 112 = .ok (.ifCond .eq 17, 3) := by decide +kernel
theorem dX9_branch_115 : decode cX9_branch 115 = .ok (.iload 8, 2) := by decide +kernel
theorem dX9_branch_117 : decode cX9_branch 117 = .ok (.ifCond .le 12, 3) := by decide +kernel
theorem dX9_branch_120 : decode cX9_branch 120 = .ok (.lconst 0, 1) := by decide +kernel
theorem dX9_branch_121 : decode cX9_branch 121 = .ok (.lstore 5, 2) := by decide +kernel
theorem dX9_branch_123 : decode cX9_branch 123 = .ok (.iconst 0, 1) := by decide +kernel
theorem dX9_branch_124 : decode cX9_branch 124 = .ok (.istore 7, 2) := by decide +kernel
theorem dX9_branch_126 : decode cX9_branch 126 = .ok (.goto 30, 3) := by decide +kernel
theorem dX9_branch_129 : decode cX9_branch 129 = .ok (.aload_n 0, 1) := by decide +kernel
theorem dX9_branch_130 : decode cX9_branch 130 = .ok (.invokevirtual 132, 3) := by decide +kernel
theorem dX9_branch_133 : decode cX9_branch 133 = .ok (.aload_n 0, 1) := by decide +kernel
theorem dX9_branch_134 : decode cX9_branch 134 = .ok (.invokevirtual 135, 3) := by decide +kernel
theorem dX9_branch_137 : decode cX9_branch 137 = .ok (.lstore 5, 2) := by decide +kernel
theorem dX9_branch_139 : decode cX9_branch 139 = .ok (.aload_n 0, 1) := by decide +kernel
theorem dX9_branch_140 : decode cX9_branch 140 = .ok (.iconst 1, 1) := by decide +kernel
theorem dX9_branch_141 : decode cX9_branch 141 = .ok (.lload 5, 2) := by decide +kernel
theorem dX9_branch_143 : decode cX9_branch 143 = .ok (.invokevirtual 139, 3) := by decide +kernel
theorem dX9_branch_146 : decode cX9_branch 146 = .ok (.istore 7, 2) := by decide +kernel
theorem dX9_branch_148 : decode cX9_branch 148 = .ok (.iload 7, 2) := by decide +kernel
theorem dX9_branch_150 : decode cX9_branch 150 = .ok (.iconst (-1), 1) := by decide +kernel
theorem dX9_branch_151 : decode cX9_branch 151 = .ok (.if_icmp .ne 5, 3) := by decide +kernel
theorem dX9_branch_154 : decode cX9_branch 154 = .ok (.iconst 0, 1) := by decide +kernel
theorem dX9_branch_155 : decode cX9_branch 155 = .ok (.ireturn, 1) := by decide +kernel
theorem dX9_branch_156 : decode cX9_branch 156 = .ok (.iinc 8 (-1), 3) := by decide +kernel
theorem dX9_branch_159 : decode cX9_branch 159 = .ok (.goto (-149), 3) := by decide +kernel
theorem dX9_branch_162 : decode cX9_branch 162 = .ok (.aload_n 0, 1) := by decide +kernel
theorem dX9_branch_163 : decode cX9_branch 163 = .ok (.invokevirtual 125, 3) := by decide +kernel
theorem dX9_branch_166 : decode cX9_branch 166 = .ok (.ifCond .ne 5, 3) := by decide +kernel
theorem dX9_branch_169 : decode cX9_branch 169 = .ok (.iconst 0, 1) := by decide +kernel
theorem dX9_branch_170 : decode cX9_branch 170 = .ok (.ireturn, 1) := by decide +kernel
theorem dX9_branch_171 : decode cX9_branch 171 = .ok (.aload_n 0, 1) := by decide +kernel
theorem dX9_branch_172 : decode cX9_branch 172 = .ok (.lload 5, 2) := by decide +kernel
theorem dX9_branch_174 : decode cX9_branch 174 = .ok (.putfield 94, 3) := by decide +kernel
theorem dX9_branch_177 : decode cX9_branch 177 = .ok (.aload_n 0, 1) := by decide +kernel
theorem dX9_branch_178 : decode cX9_branch 178 = .ok (.iload 7, 2) := by decide +kernel
theorem dX9_branch_180 : decode cX9_branch 180 = .ok (.putfield 13, 3) := by decide +kernel
theorem dX9_branch_183 : decode cX9_branch 183 = .ok (.iconst 1, 1) := by decide +kernel
theorem dX9_branch_184 : decode cX9_branch 184 = .ok (.ireturn, 1) := by decide +kernel
theorem dX9_supply_0 : decode cX9_supply 0 = .ok (.aload_n 0, 1) := by decide +kernel
theorem dX9_supply_1 : decode cX9_supply 1 = .ok (.getfield 17, 3) := by decide +kernel
theorem dX9_supply_4 : decode cX9_supply 4 = .ok (.ifCond .eq 18, 3) := by decide +kernel
theorem dX9_supply_7 : decode cX9_supply 7 = .ok (.lload_n 1, 1) := by decide +kernel
theorem dX9_supply_8 : decode cX9_supply 8 = .ok (.lconst 0, 1) := by decide +kernel
theorem dX9_supply_9 : decode cX9_supply 9 = .ok (.lcmp, 1) := by decide +kernel
theorem dX9_supply_10 : decode cX9_supply 10 = .ok (.ifCond .eq 12, 3) := by decide +kernel
theorem dX9_supply_13 : decode cX9_supply 13 = .ok (.aload_n 0, 1) := by decide +kernel
theorem dX9_supply_14 : decode cX9_supply 14 = .ok (.getfield 119, 3) := by decide +kernel
theorem dX9_supply_17 : decode cX9_supply 17 = .ok (.bipush 40, 2) := by decide +kernel
theorem dX9_supply_19 : decode cX9_supply 19 = .ok (.if_icmp .ne 5, 3) := by decide +kernel
theorem dX9_supply_22 : decode cX9_supply 22 = .ok (.iconst 0, 1) := by decide +kernel
theorem dX9_supply_23 : decode cX9_supply 23 = .ok (.ireturn, 1) := by decide +kernel
theorem dX9_supply_24 : decode cX9_supply 24 = .ok (.iconst 0, 1) := by decide +kernel
theorem dX9_supply_25 : decode cX9_supply 25 = .ok (.istore_n 3, 1) := by decide +kernel
theorem dX9_supply_26 : decode cX9_supply 26 = .ok (.iload_n 3, 1) := by decide +kernel
theorem dX9_supply_27 : decode cX9_supply 27 = .ok (.aload_n 0, 1) := by decide +kernel
theorem dX9_supply_28 : decode cX9_supply 28 = .ok (.getfield 143, 3) := by decide +kernel
theorem dX9_supply_31 : decode cX9_supply 31 = .ok (.if_icmp .ge 22, 3) := by decide +kernel
theorem dX9_supply_34 : decode cX9_supply 34 = .ok (.aload_n 0, 1) := by decide +kernel
theorem dX9_supply_35 : decode cX9_supply 35 = .ok (.getfield 28, 3) := by decide +kernel
theorem dX9_supply_38 : decode cX9_supply 38 = .ok (.iload_n 3, 1) := by decide +kernel
theorem dX9_supply_39 : decode cX9_supply 39 = .ok (.laload, 1) := by decide +kernel
theorem dX9_supply_40 : decode cX9_supply 40 = .ok (.lload_n 1, 1) := by decide +kernel
theorem dX9_supply_41 : decode cX9_supply 41 = .ok (.lcmp, 1) := by decide +kernel
theorem dX9_supply_42 : decode cX9_supply 42 = .ok (.ifCond .ne 5, 3) := by decide +kernel
theorem dX9_supply_45 : decode cX9_supply 45 = .ok (.iconst 0, 1) := by decide +kernel
theorem dX9_supply_46 : decode cX9_supply 46 = .ok (.ireturn, 1) := by decide +kernel
theorem dX9_supply_47 : decode cX9_supply 47 = .ok (.iinc 3 1, 3) := by decide +kernel
theorem dX9_supply_50 : decode cX9_supply 50 = .ok (.goto (-24), 3) := by decide +kernel
theorem dX9_supply_53 : decode cX9_supply 53 = .ok (.aload_n 0, 1) := by decide +kernel
theorem dX9_supply_54 : decode cX9_supply 54 = .ok (.getfield 143, 3) := by decide +kernel
theorem dX9_supply_57 : decode cX9_supply 57 = .ok (.sipush 3000, 3) := by decide +kernel
theorem dX9_supply_60 : decode cX9_supply 60 = .ok (.if_icmp .ge 23, 3) := by decide +kernel
theorem dX9_supply_63 : decode cX9_supply 63 = .ok (.aload_n 0, 1) := by decide +kernel
theorem dX9_supply_64 : decode cX9_supply 64 = .ok (.getfield 28, 3) := by decide +kernel
theorem dX9_supply_67 : decode cX9_supply 67 = .ok (.aload_n 0, 1) := by decide +kernel
theorem dX9_supply_68 : decode cX9_supply 68 = .ok (.getfield 143, 3) := by decide +kernel
theorem dX9_supply_71 : decode cX9_supply 71 = .ok (.lload_n 1, 1) := by decide +kernel
theorem dX9_supply_72 : decode cX9_supply 72 = .ok (.lastore, 1) := by decide +kernel
theorem dX9_supply_73 : decode cX9_supply 73 = .ok (.aload_n 0, 1) := by decide +kernel
theorem dX9_supply_74 : decode cX9_supply 74 = .ok (.dup, 1) := by decide +kernel
theorem dX9_supply_75 : decode cX9_supply 75 = .ok (.getfield 143, 3) := by decide +kernel
theorem dX9_supply_78 : decode cX9_supply 78 = .ok (.iconst 1, 1) := by decide +kernel
theorem dX9_supply_79 : decode cX9_supply 79 = .ok (.iadd, 1) := by decide +kernel
theorem dX9_supply_80 : decode cX9_supply 80 = .ok (.putfield 143, 3) := by decide +kernel
theorem dX9_supply_83 : decode cX9_supply 83 = .ok (.aload_n 0, 1) := by decide +kernel
theorem dX9_supply_84 : decode cX9_supply 84 = .ok (.getfield 24, 3) := by decide +kernel
theorem dX9_supply_87 : decode cX9_supply 87 = .ok (.aload_n 0, 1) := by decide +kernel
theorem dX9_supply_88 : decode cX9_supply 88 = .ok (.getfield 119, 3) := by decide +kernel
theorem dX9_supply_91 : decode cX9_supply 91 = .ok (.lload_n 1, 1) := by decide +kernel
theorem dX9_supply_92 : decode cX9_supply 92 = .ok (.lastore, 1) := by decide +kernel
theorem dX9_supply_93 : decode cX9_supply 93 = .ok (.aload_n 0, 1) := by decide +kernel
theorem dX9_supply_94 : decode cX9_supply 94 = .ok (.dup, 1) := by decide +kernel
theorem dX9_supply_95 : decode cX9_supply 95 = .ok (.getfield 119, 3) := by decide +kernel
theorem dX9_supply_98 : decode cX9_supply 98 = .ok (.iconst 1, 1) := by decide +kernel
theorem dX9_supply_99 : decode cX9_supply 99 = .ok (.iadd, 1) := by decide +kernel
theorem dX9_supply_100 : decode cX9_supply 100 = .ok (.putfield 119, 3) := by decide +kernel
theorem dX9_supply_103 : decode cX9_supply 103 = .ok (.iconst 1, 1) := by decide +kernel
theorem dX9_supply_104 : decode cX9_supply 104 = .ok (.ireturn, 1) := by decide +kernel
theorem dX9_feed_0 : decode cX9_feed 0 = .ok (.aload_n 0, 1) := by decide +kernel
theorem dX9_feed_1 : decode cX9_feed 1 = .ok (.getfield 17, 3) := by decide +kernel
theorem dX9_feed_4 : decode cX9_feed 4 = .ok (.ifCond .eq 14, 3) := by decide +kernel
theorem dX9_feed_7 : decode cX9_feed 7 = .ok (.aload_n 0, 1) := by decide +kernel
theorem dX9_feed_8 : decode cX9_feed 8 = .ok (.getfield 122, 3) := by decide +kernel
theorem dX9_feed_11 : decode cX9_feed 11 = .ok (.iconst 4, 1) := by decide +kernel
theorem dX9_feed_12 : decode cX9_feed 12 = .ok (.iadd, 1) := by decide +kernel
theorem dX9_feed_13 : decode cX9_feed 13 = .ok (.bipush 96, 2) := by decide +kernel
theorem dX9_feed_15 : decode cX9_feed 15 = .ok (.if_icmp .le 6, 3) := by decide +kernel
theorem dX9_feed_18 : decode cX9_feed 18 = .ok (.bipush (-2), 2) := by decide +kernel
theorem dX9_feed_20 : decode cX9_feed 20 = .ok (.ireturn, 1) := by decide +kernel
theorem dX9_feed_21 : decode cX9_feed 21 = .ok (.bipush 24, 2) := by decide +kernel
theorem dX9_feed_23 : decode cX9_feed 23 = .ok (.istore_n 2, 1) := by decide +kernel
theorem dX9_feed_24 : decode cX9_feed 24 = .ok (.iload_n 2, 1) := by decide +kernel
theorem dX9_feed_25 : decode cX9_feed 25 = .ok (.ifCond .lt 32, 3) := by decide +kernel
theorem dX9_feed_28 : decode cX9_feed 28 = .ok (.aload_n 0, 1) := by decide +kernel
theorem dX9_feed_29 : decode cX9_feed 29 = .ok (.getfield 31, 3) := by decide +kernel
theorem dX9_feed_32 : decode cX9_feed 32 = .ok (.aload_n 0, 1) := by decide +kernel
theorem dX9_feed_33 : decode cX9_feed 33 = .ok (.getfield 122, 3) := by decide +kernel
theorem dX9_feed_36 : decode cX9_feed 36 = .ok (.iload_n 1, 1) := by decide +kernel
theorem dX9_feed_37 : decode cX9_feed 37 = .ok (.iload_n 2, 1) := by decide +kernel
theorem dX9_feed_38 : decode cX9_feed 38 = .ok (.ishr, 1) := by decide +kernel
theorem dX9_feed_39 : decode cX9_feed 39 = .ok (.i2b, 1) := by decide +kernel
theorem dX9_feed_40 : decode cX9_feed 40 = .ok (.bastore, 1) := by decide +kernel
theorem dX9_feed_41 : decode cX9_feed 41 = .ok (.aload_n 0, 1) := by decide +kernel
theorem dX9_feed_42 : decode cX9_feed 42 = .ok (.dup, 1) := by decide +kernel
theorem dX9_feed_43 : decode cX9_feed 43 = .ok (.getfield 122, 3) := by decide +kernel
theorem dX9_feed_46 : decode cX9_feed 46 = .ok (.iconst 1, 1) := by decide +kernel
theorem dX9_feed_47 : decode cX9_feed 47 = .ok (.iadd, 1) := by decide +kernel
theorem dX9_feed_48 : decode cX9_feed 48 = .ok (.putfield 122, 3) := by decide +kernel
theorem dX9_feed_51 : decode cX9_feed 51 = .ok (.iinc 2 (-8), 3) := by decide +kernel
theorem dX9_feed_54 : decode cX9_feed 54 = .ok (.goto (-30), 3) := by decide +kernel
theorem dX9_feed_57 : decode cX9_feed 57 = .ok (.aload_n 0, 1) := by decide +kernel
theorem dX9_feed_58 : decode cX9_feed 58 = .ok (.getfield 122, 3) := by decide +kernel
theorem dX9_feed_61 : decode cX9_feed 61 = .ok (.ireturn, 1) := by decide +kernel
theorem dX9_isObject_0 : decode cX9_isObject 0 = .ok (.iload_n 0, 1) := by decide +kernel
theorem dX9_isObject_1 : decode cX9_isObject 1 = .ok (.ifCond .lt 13, 3) := by decide +kernel
theorem dX9_isObject_4 : decode cX9_isObject 4 = .ok (.iload_n 0, 1) := by decide +kernel
theorem dX9_isObject_5 : decode cX9_isObject 5 = .ok (.bipush 64, 2) := by decide +kernel
theorem dX9_isObject_7 : decode cX9_isObject 7 = .ok (.if_icmp .ge 7, 3) := by decide +kernel
theorem dX9_isObject_10 : decode cX9_isObject 10 = .ok (.iconst 1, 1) := by decide +kernel
theorem dX9_isObject_11 : decode cX9_isObject 11 = .ok (.goto 4, 3) := by decide +kernel
theorem dX9_isObject_14 : decode cX9_isObject 14 = .ok (.iconst 0, 1) := by decide +kernel
theorem dX9_isObject_15 : decode cX9_isObject 15 = .ok (.ireturn, 1) := by decide +kernel
set_option maxRecDepth 20000 in
theorem ggX9_put_X9_isObject : GoodIn wsX9_put wsX9_isObject := goodIn_r _ [10] (by decide +kernel) (by decide +kernel)
set_option maxRecDepth 20000 in
theorem gX9_put_X9_isObject : GoodIn wsX9_put (va_wsS RX9 146 yX9_isObject wsX9_isObject) := goodIn_app (goodIn_of _ (by decide +kernel)) ggX9_put_X9_isObject
set_option maxRecDepth 20000 in
theorem ggX9_put_X9_markLive : GoodIn wsX9_put wsX9_markLive := goodIn_r _ [14, 15, 16, 17, 18, 19, 20, 9, 21, 22, 23, 24, 25, 26, 27, 28, 29, 5, 30, 31, 32, 33, 34, 35, 36, 37, 38, 39, 40, 41, 42, 43, 44, 45, 46, 47, 48, 49, 50, 51, 52, 53, 54, 55, 56, 57, 58, 59, 4, 95, 96, 97, 98, 99, 100, 101, 102, 103, 104, 105, 106, 107, 108, 109, 110, 111, 112, 113, 114, 115, 116, 117] (by decide +kernel) (by decide +kernel)
set_option maxRecDepth 20000 in
theorem gX9_put_X9_markLive : GoodIn wsX9_put (wsV RX9 150 RX9 yX9_markLive wsX9_markLive) := goodIn_app (goodIn_of _ (by decide +kernel)) ggX9_put_X9_markLive
set_option maxRecDepth 20000 in
theorem ggX9_put_X9_used : GoodIn wsX9_put wsX9_used := goodIn_r _ [63, 15, 95, 96, 97, 98, 99, 100, 101, 102, 103, 104, 105, 106, 107, 108, 109, 110, 111, 112, 113, 114, 115, 116, 117] (by decide +kernel) (by decide +kernel)
set_option maxRecDepth 20000 in
theorem gX9_put_X9_used : GoodIn wsX9_put (wsV RX9 153 RX9 yX9_used wsX9_used) := goodIn_app (goodIn_of _ (by decide +kernel)) ggX9_put_X9_used
set_option maxRecDepth 20000 in
theorem ggX9_put_X9_findWay : GoodIn wsX9_put wsX9_findWay := goodIn_r _ [21, 17, 22, 16, 23, 24, 25, 26, 27, 28, 9, 29, 5, 30, 31, 32, 33, 34, 35, 36, 37, 38, 39, 40, 41, 42, 43, 44, 45, 46, 47, 48, 49, 50, 51, 95, 96, 97, 98, 99, 100, 101, 102, 103, 104, 105, 106, 107, 108, 109, 110, 111, 112, 113, 114, 115, 116, 117] (by decide +kernel) (by decide +kernel)
set_option maxRecDepth 20000 in
theorem gX9_put_X9_findWay : GoodIn wsX9_put (wsV RX9 105 RX9 yX9_findWay wsX9_findWay) := goodIn_app (goodIn_of _ (by decide +kernel)) ggX9_put_X9_findWay
set_option maxRecDepth 20000 in
theorem ggX9_put_X9_takeKey : GoodIn wsX9_put wsX9_takeKey := goodIn_r _ [67, 68, 3, 95, 96, 97, 98, 99, 100, 101, 102, 103, 104, 105, 106, 107, 108, 109, 110, 111, 112, 113, 114, 115, 116, 117] (by decide +kernel) (by decide +kernel)
set_option maxRecDepth 20000 in
theorem gX9_put_X9_takeKey : GoodIn wsX9_put (wsV RX9 135 RX9 yX9_takeKey wsX9_takeKey) := goodIn_app (goodIn_of _ (by decide +kernel)) ggX9_put_X9_takeKey
set_option maxRecDepth 20000 in
theorem ggX9_put_X9_write : GoodIn wsX9_put wsX9_write := goodIn_r _ [72, 73, 15, 74, 75, 5, 42, 76, 34, 35, 36, 9, 37, 38, 39, 40, 41, 43, 44, 45, 46, 47, 48, 77, 78, 79, 80, 1, 81, 82, 83, 84, 85, 86, 3, 2, 95, 96, 97, 98, 99, 100, 101, 102, 103, 104, 105, 106, 107, 108, 109, 110, 111, 112, 113, 114, 115, 116, 117] (by decide +kernel) (by decide +kernel)
set_option maxRecDepth 20000 in
theorem gX9_put_X9_write : GoodIn wsX9_put (wsV RX9 139 RX9 yX9_write wsX9_write) := goodIn_app (goodIn_of _ (by decide +kernel)) ggX9_put_X9_write
set_option maxRecDepth 20000 in
theorem ggX9_put_X9_branch : GoodIn wsX9_put wsX9_branch := goodIn_r _ [90, 17, 16, 24, 25, 22, 23, 26, 27, 28, 9, 29, 5, 30, 31, 32, 33, 34, 35, 36, 37, 38, 39, 40, 41, 42, 43, 44, 45, 46, 47, 48, 49, 50, 51, 91, 92, 93, 94, 64, 65, 66, 67, 68, 3, 69, 70, 71, 72, 73, 15, 74, 75, 76, 77, 78, 79, 80, 1, 81, 82, 83, 84, 85, 86, 2, 95, 96, 97, 98, 99, 100, 101, 102, 103, 104, 105, 106, 107, 108, 109, 110, 111, 112, 113, 114, 115, 116, 117] (by decide +kernel) (by decide +kernel)
set_option maxRecDepth 20000 in
theorem gX9_put_X9_branch : GoodIn wsX9_put (wsV RX9 156 RX9 yX9_branch wsX9_branch) := goodIn_app (goodIn_of _ (by decide +kernel)) ggX9_put_X9_branch
theorem dX9_put_0 : decode cX9_put 0 = .ok (.aload_n 0, 1) := by decide +kernel
theorem dX9_put_1 : decode cX9_put 1 = .ok (.getfield 17, 3) := by decide +kernel
theorem dX9_put_4 : decode cX9_put 4 = .ok (.ifCond .eq 30, 3) := by decide +kernel
theorem dX9_put_7 : decode cX9_put 7 = .ok (.iload_n 1, 1) := by decide +kernel
theorem dX9_put_8 : decode cX9_put 8 = .ok (.invokestatic 146, 3) := by decide +kernel
theorem dX9_put_11 : decode cX9_put 11 = .ok (.ifCond .eq 23, 3) := by decide +kernel
theorem dX9_put_14 : decode cX9_put 14 = .ok (.iload_n 2, 1) := by decide +kernel
theorem dX9_put_15 : decode cX9_put 15 = .ok (.ifCond .lt 19, 3) := by decide +kernel
theorem dX9_put_18 : decode cX9_put 18 = .ok (.iload_n 2, 1) := by decide +kernel
theorem dX9_put_19 : decode cX9_put 19 = .ok (.aload_n 0, 1) := by decide +kernel
theorem dX9_put_20 : decode cX9_put 20 = .ok (.getfield 122, 3) := by decide +kernel
theorem dX9_put_23 : decode cX9_put 23 = .ok (.if_icmp .gt 11, 3) := by decide +kernel
theorem dX9_put_26 : decode cX9_put 26 = .ok (.aload_n 0, 1) := by decide +kernel
theorem dX9_put_27 : decode cX9_put 27 = .ok (.getfield 119, 3) := by decide +kernel
theorem dX9_put_30 : decode cX9_put 30 = .ok (.iconst 4, 1) := by decide +kernel
theorem dX9_put_31 : decode cX9_put 31 = .ok (.if_icmp .ge 6, 3) := by decide +kernel
theorem dX9_put_34 : decode cX9_put 34 = .ok (.bipush (-2), 2) := by decide +kernel
theorem dX9_put_36 : decode cX9_put 36 = .ok (.ireturn, 1) := by decide +kernel
theorem dX9_put_37 : decode cX9_put 37 = .ok (.iload_n 2, 1) := by decide +kernel
theorem dX9_put_38 : decode cX9_put 38 = .ok (.bipush 48, 2) := by decide +kernel
theorem dX9_put_40 : decode cX9_put 40 = .ok (.if_icmp .gt 7, 3) := by decide +kernel
theorem dX9_put_43 : decode cX9_put 43 = .ok (.iconst 1, 1) := by decide +kernel
theorem dX9_put_44 : decode cX9_put 44 = .ok (.goto 10, 3) := by decide +kernel
theorem dX9_put_47 : decode cX9_put 47 = .ok (.iload_n 2, 1) := by decide +kernel
theorem dX9_put_48 : decode cX9_put 48 = .ok (.bipush 47, 2) := by decide +kernel
theorem dX9_put_50 : decode cX9_put 50 = .ok (.iadd, 1) := by decide +kernel
theorem dX9_put_51 : decode cX9_put 51 = .ok (.bipush 48, 2) := by decide +kernel
theorem dX9_put_53 : decode cX9_put 53 = .ok (.idiv, 1) := by decide +kernel
theorem dX9_put_54 : decode cX9_put 54 = .ok (.istore_n 3, 1) := by decide +kernel
theorem dX9_put_55 : decode cX9_put 55 = .ok (.aload_n 0, 1) := by decide +kernel
theorem dX9_put_56 : decode cX9_put 56 = .ok (.invokevirtual 150, 3) := by decide +kernel
theorem dX9_put_59 : decode cX9_put 59 = .ok (.pop, 1) := by decide +kernel
theorem dX9_put_60 : decode cX9_put 60 = .ok (.sipush 200, 3) := by decide +kernel
theorem dX9_put_63 : decode cX9_put 63 = .ok (.aload_n 0, 1) := by decide +kernel
theorem dX9_put_64 : decode cX9_put 64 = .ok (.invokevirtual 153, 3) := by decide +kernel
theorem dX9_put_67 : decode cX9_put 67 = .ok (.isub, 1) := by decide +kernel
theorem dX9_put_68 : decode cX9_put 68 = .ok (.iload_n 3, 1) := by decide +kernel
theorem dX9_put_69 : decode cX9_put 69 = .ok (.iconst 3, 1) := by decide +kernel
theorem dX9_put_70 : decode cX9_put 70 = .ok (.iadd, 1) := by decide +kernel
theorem dX9_put_71 : decode cX9_put 71 = .ok (.if_icmp .ge 6, 3) := by decide +kernel
theorem dX9_put_74 : decode cX9_put 74 = .ok (.bipush (-2), 2) := by decide +kernel
theorem dX9_put_76 : decode cX9_put 76 = .ok (.ireturn, 1) := by decide +kernel
theorem dX9_put_77 : decode cX9_put 77 = .ok (.aload_n 0, 1) := by decide +kernel
theorem dX9_put_78 : decode cX9_put 78 = .ok (.iload_n 1, 1) := by decide +kernel
theorem dX9_put_79 : decode cX9_put 79 = .ok (.invokevirtual 105, 3) := by decide +kernel
theorem dX9_put_82 : decode cX9_put 82 = .ok (.aload_n 0, 1) := by decide +kernel
theorem dX9_put_83 : decode cX9_put 83 = .ok (.invokevirtual 135, 3) := by decide +kernel
theorem dX9_put_86 : decode cX9_put 86 = .ok (.lstore 4, 2) := by decide +kernel
theorem dX9_put_88 : decode cX9_put 88 = .ok (.ldc 104, 2) := by decide +kernel
theorem dX9_put_90 : decode cX9_put 90 = .ok (.istore 6, 2) := by decide +kernel
theorem dX9_put_92 : decode cX9_put 92 = .ok (.iload_n 3, 1) := by decide +kernel
theorem dX9_put_93 : decode cX9_put 93 = .ok (.iconst 1, 1) := by decide +kernel
theorem dX9_put_94 : decode cX9_put 94 = .ok (.isub, 1) := by decide +kernel
theorem dX9_put_95 : decode cX9_put 95 = .ok (.istore 7, 2) := by decide +kernel
theorem dX9_put_97 : decode cX9_put 97 = .ok (.iload 7, 2) := by decide +kernel
theorem dX9_put_99 : decode cX9_put 99 = .ok (.ifCond .lt 139, 3) := by decide +kernel
theorem dX9_put_102 : decode cX9_put 102 = .ok (.iload_n 2, 1) := by decide +kernel
theorem dX9_put_103 : decode cX9_put 103 = .ok (.bipush 48, 2) := by decide +kernel
theorem dX9_put_105 : decode cX9_put 105 = .ok (.iload 7, 2) := by decide +kernel
theorem dX9_put_107 : decode cX9_put 107 = .ok (.imul, 1) := by decide +kernel
theorem dX9_put_108 : decode cX9_put 108 = .ok (.isub, 1) := by decide +kernel
theorem dX9_put_109 : decode cX9_put 109 = .ok (.bipush 48, 2) := by decide +kernel
theorem dX9_put_111 : decode cX9_put 111 = .ok (.if_icmp .le 8, 3) := by decide +kernel
theorem dX9_put_114 : decode cX9_put 114 = .ok (.bipush 48, 2) := by decide +kernel
theorem dX9_put_116 : decode cX9_put 116 = .ok (.goto 10, 3) := by decide +kernel
theorem dX9_put_119 : decode cX9_put 119 = .ok (.iload_n 2, 1) := by decide +kernel
theorem dX9_put_120 : decode cX9_put 120 = .ok (.bipush 48, 2) := by decide +kernel
theorem dX9_put_122 : decode cX9_put 122 = .ok (.iload 7, 2) := by decide +kernel
theorem dX9_put_124 : decode cX9_put 124 = .ok (.imul, 1) := by decide +kernel
theorem dX9_put_125 : decode cX9_put 125 = .ok (.isub, 1) := by decide +kernel
theorem dX9_put_126 : decode cX9_put 126 = .ok (.istore 8, 2) := by decide +kernel
theorem dX9_put_128 : decode cX9_put 128 = .ok (.iconst 0, 1) := by decide +kernel
theorem dX9_put_129 : decode cX9_put 129 = .ok (.istore 9, 2) := by decide +kernel
theorem dX9_put_131 : decode cX9_put 131 = .ok (.iload 9, 2) := by decide +kernel
theorem dX9_put_133 : decode cX9_put 133 = .ok (.bipush 51, 2) := by decide +kernel
theorem dX9_put_135 : decode cX9_put 135 = .ok (.if_icmp .ge 50, 3) := by decide +kernel
theorem dX9_put_138 : decode cX9_put 138 = .ok (.aload_n 0, 1) := by decide +kernel
theorem dX9_put_139 : decode cX9_put 139 = .ok (.getfield 41, 3) := by decide +kernel
theorem dX9_put_142 : decode cX9_put 142 = .ok (.iload 9, 2) := by decide +kernel
theorem dX9_put_144 : decode cX9_put 144 = .ok (.iload 9, 2) := by decide +kernel
theorem dX9_put_146 : decode cX9_put 146 = .ok (.iconst 3, 1) := by decide +kernel
theorem dX9_put_147 : decode cX9_put 147 = .ok (.if_icmp .lt 30, 3) := by decide +kernel
theorem dX9_put_150 : decode cX9_put 150 = .ok (.iload 9, 2) := by decide +kernel
theorem dX9_put_152 : decode cX9_put 152 = .ok (.iconst 3, 1) := by decide +kernel
theorem dX9_put_153 : decode cX9_put 153 = .ok (.isub, 1) := by decide +kernel
theorem dX9_put_154 : decode cX9_put 154 = .ok (.iload 8, 2) := by decide +kernel
theorem dX9_put_156 : decode cX9_put 156 = .ok (.if_icmp .ge 21, 3) := by decide +kernel
theorem dX9_put_159 : decode cX9_put 159 = .ok (.aload_n 0, 1) := by decide +kernel
theorem dX9_put_160 : decode cX9_put 160 = .ok (.getfield 31, 3) := by decide +kernel
theorem dX9_put_163 : decode cX9_put 163 = .ok (.bipush 48, 2) := by decide +kernel
theorem dX9_put_165 : decode cX9_put 165 = .ok (.iload 7, 2) := by decide +kernel
theorem dX9_put_167 : decode cX9_put 167 = .ok (.imul, 1) := by decide +kernel
theorem dX9_put_168 : decode cX9_put 168 = .ok (.iload 9, 2) := by decide +kernel
theorem dX9_put_170 : decode cX9_put 170 = .ok (.iadd, 1) := by decide +kernel
theorem dX9_put_171 : decode cX9_put 171 = .ok (.iconst 3, 1) := by decide +kernel
theorem dX9_put_172 : decode cX9_put 172 = .ok (.isub, 1) := by decide +kernel
theorem dX9_put_173 : decode cX9_put 173 = .ok (.baload, 1) := by decide +kernel
theorem dX9_put_174 : decode cX9_put 174 = .ok (.goto 4, 3) := by decide +kernel
theorem dX9_put_177 : decode cX9_put 177 = .ok (.iconst 0, 1) := by decide +kernel
theorem dX9_put_178 : decode cX9_put 178 = .ok (.bastore, 1) := by decide +kernel
theorem dX9_put_179 : decode cX9_put 179 = .ok (.iinc 9 1, 3) := by decide +kernel
theorem dX9_put_182 : decode cX9_put 182 = .ok (.goto (-51), 3) := by decide +kernel
theorem dX9_put_185 : decode cX9_put 185 = .ok (.aload_n 0, 1) := by decide +kernel
theorem dX9_put_186 : decode cX9_put 186 = .ok (.getfield 41, 3) := by decide +kernel
theorem dX9_put_189 : decode cX9_put 189 = .ok (.iconst 0, 1) := by decide +kernel
theorem dX9_put_190 : decode cX9_put 190 = .ok (.iload 6, 2) := by decide +kernel
theorem dX9_put_192 : decode cX9_put 192 = .ok (.bipush 8, 2) := by decide +kernel
theorem dX9_put_194 : decode cX9_put 194 = .ok (.ishr, 1) := by decide +kernel
theorem dX9_put_195 : decode cX9_put 195 = .ok (.i2b, 1) := by decide +kernel
theorem dX9_put_196 : decode cX9_put 196 = .ok (.bastore, 1) := by decide +kernel
theorem dX9_put_197 : decode cX9_put 197 = .ok (.aload_n 0, 1) := by decide +kernel
theorem dX9_put_198 : decode cX9_put 198 = .ok (.getfield 41, 3) := by decide +kernel
theorem dX9_put_201 : decode cX9_put 201 = .ok (.iconst 1, 1) := by decide +kernel
theorem dX9_put_202 : decode cX9_put 202 = .ok (.iload 6, 2) := by decide +kernel
theorem dX9_put_204 : decode cX9_put 204 = .ok (.i2b, 1) := by decide +kernel
theorem dX9_put_205 : decode cX9_put 205 = .ok (.bastore, 1) := by decide +kernel
theorem dX9_put_206 : decode cX9_put 206 = .ok (.aload_n 0, 1) := by decide +kernel
theorem dX9_put_207 : decode cX9_put 207 = .ok (.getfield 41, 3) := by decide +kernel
theorem dX9_put_210 : decode cX9_put 210 = .ok (.iconst 2, 1) := by decide +kernel
theorem dX9_put_211 : decode cX9_put 211 = .ok (.iload 8, 2) := by decide +kernel
theorem dX9_put_213 : decode cX9_put 213 = .ok (.i2b, 1) := by decide +kernel
theorem dX9_put_214 : decode cX9_put 214 = .ok (.bastore, 1) := by decide +kernel
theorem dX9_put_215 : decode cX9_put 215 = .ok (.aload_n 0, 1) := by decide +kernel
theorem dX9_put_216 : decode cX9_put 216 = .ok (.iconst 2, 1) := by decide +kernel
theorem dX9_put_217 : decode cX9_put 217 = .ok (.lload 4, 2) := by decide +kernel
theorem dX9_put_219 : decode cX9_put 219 = .ok (.invokevirtual 139, 3) := by decide +kernel
theorem dX9_put_222 : decode cX9_put 222 = .ok (.istore 6, 2) := by decide +kernel
theorem dX9_put_224 : decode cX9_put 224 = .ok (.iload 6, 2) := by decide +kernel
theorem dX9_put_226 : decode cX9_put 226 = .ok (.iconst (-1), 1) := by decide +kernel
theorem dX9_put_227 : decode cX9_put 227 = .ok (.if_icmp .ne 5, 3) := by decide +kernel
theorem dX9_put_230 : decode cX9_put 230 = .ok (.iconst 0, 1) := by decide +kernel
theorem dX9_put_231 : decode cX9_put 231 = .ok (.ireturn, 1) := by decide +kernel
theorem dX9_put_232 : decode cX9_put 232 = .ok (.iinc 7 (-1), 3) := by decide +kernel
theorem dX9_put_235 : decode cX9_put 235 = .ok (.goto (-138), 3) := by decide +kernel
theorem dX9_put_238 : decode cX9_put 238 = .ok (.aload_n 0, 1) := by decide +kernel
theorem dX9_put_239 : decode cX9_put 239 = .ok (.iload_n 1, 1) := by decide +kernel
theorem dX9_put_240 : decode cX9_put 240 = .ok (.lload 4, 2) := by decide +kernel
theorem dX9_put_242 : decode cX9_put 242 = .ok (.iload 6, 2) := by decide +kernel
theorem dX9_put_244 : decode cX9_put 244 = .ok (.invokevirtual 156, 3) := by decide +kernel
theorem dX9_put_247 : decode cX9_put 247 = .ok (.ifCond .ne 5, 3) := by decide +kernel
theorem dX9_put_250 : decode cX9_put 250 = .ok (.iconst 0, 1) := by decide +kernel
theorem dX9_put_251 : decode cX9_put 251 = .ok (.ireturn, 1) := by decide +kernel
theorem dX9_put_252 : decode cX9_put 252 = .ok (.aload_n 0, 1) := by decide +kernel
theorem dX9_put_253 : decode cX9_put 253 = .ok (.iconst 0, 1) := by decide +kernel
theorem dX9_put_254 : decode cX9_put 254 = .ok (.putfield 122, 3) := by decide +kernel
theorem dX9_put_257 : decode cX9_put 257 = .ok (.iconst 1, 1) := by decide +kernel
theorem dX9_put_258 : decode cX9_put 258 = .ok (.ireturn, 1) := by decide +kernel
set_option maxRecDepth 20000 in
theorem ggX9_shred_X9_isObject : GoodIn wsX9_shred wsX9_isObject := goodIn_r _ [7] (by decide +kernel) (by decide +kernel)
set_option maxRecDepth 20000 in
theorem gX9_shred_X9_isObject : GoodIn wsX9_shred (va_wsS RX9 146 yX9_isObject wsX9_isObject) := goodIn_app (goodIn_of _ (by decide +kernel)) ggX9_shred_X9_isObject
set_option maxRecDepth 20000 in
theorem ggX9_shred_X9_markLive : GoodIn wsX9_shred wsX9_markLive := goodIn_r _ [11, 12, 3, 13, 14, 15, 16, 6, 17, 18, 19, 20, 21, 22, 23, 24, 25, 26, 27, 28, 29, 30, 31, 32, 33, 34, 35, 36, 37, 38, 39, 40, 41, 42, 43, 44, 45, 46, 47, 48, 49, 50, 51, 52, 53, 54, 55, 56, 57, 94, 95, 96, 97, 98, 99, 100, 101, 102, 103, 104, 105, 106, 107, 108, 109, 110, 111, 112, 113, 114, 115, 116] (by decide +kernel) (by decide +kernel)
set_option maxRecDepth 20000 in
theorem gX9_shred_X9_markLive : GoodIn wsX9_shred (wsV RX9 150 RX9 yX9_markLive wsX9_markLive) := goodIn_app (goodIn_of _ (by decide +kernel)) ggX9_shred_X9_markLive
set_option maxRecDepth 20000 in
theorem ggX9_shred_X9_findWay : GoodIn wsX9_shred wsX9_findWay := goodIn_r _ [17, 13, 18, 3, 19, 20, 21, 22, 23, 24, 6, 25, 26, 27, 28, 29, 30, 31, 32, 33, 34, 35, 36, 37, 38, 39, 40, 41, 42, 43, 44, 45, 46, 47, 48, 94, 95, 96, 97, 98, 99, 100, 101, 102, 103, 104, 105, 106, 107, 108, 109, 110, 111, 112, 113, 114, 115, 116] (by decide +kernel) (by decide +kernel)
set_option maxRecDepth 20000 in
theorem gX9_shred_X9_findWay : GoodIn wsX9_shred (wsV RX9 105 RX9 yX9_findWay wsX9_findWay) := goodIn_app (goodIn_of _ (by decide +kernel)) ggX9_shred_X9_findWay
set_option maxRecDepth 20000 in
theorem ggX9_shred_X9_used : GoodIn wsX9_shred wsX9_used := goodIn_r _ [61, 12, 94, 95, 96, 97, 98, 99, 100, 101, 102, 103, 104, 105, 106, 107, 108, 109, 110, 111, 112, 113, 114, 115, 116] (by decide +kernel) (by decide +kernel)
set_option maxRecDepth 20000 in
theorem gX9_shred_X9_used : GoodIn wsX9_shred (wsV RX9 153 RX9 yX9_used wsX9_used) := goodIn_app (goodIn_of _ (by decide +kernel)) ggX9_shred_X9_used
set_option maxRecDepth 20000 in
theorem ggX9_shred_X9_branch : GoodIn wsX9_shred wsX9_branch := goodIn_r _ [65, 13, 3, 20, 21, 18, 19, 22, 23, 24, 6, 25, 26, 27, 28, 29, 30, 31, 32, 33, 34, 35, 36, 37, 38, 39, 40, 41, 42, 43, 44, 45, 46, 47, 48, 66, 67, 68, 69, 70, 71, 72, 73, 74, 2, 75, 76, 77, 78, 79, 12, 80, 81, 82, 83, 84, 85, 86, 1, 87, 88, 89, 90, 91, 92, 93, 94, 95, 96, 97, 98, 99, 100, 101, 102, 103, 104, 105, 106, 107, 108, 109, 110, 111, 112, 113, 114, 115, 116] (by decide +kernel) (by decide +kernel)
set_option maxRecDepth 20000 in
theorem gX9_shred_X9_branch : GoodIn wsX9_shred (wsV RX9 156 RX9 yX9_branch wsX9_branch) := goodIn_app (goodIn_of _ (by decide +kernel)) ggX9_shred_X9_branch
theorem dX9_shred_0 : decode cX9_shred 0 = .ok (.aload_n 0, 1) := by decide +kernel
theorem dX9_shred_1 : decode cX9_shred 1 = .ok (.getfield 17, 3) := by decide +kernel
theorem dX9_shred_4 : decode cX9_shred 4 = .ok (.ifCond .eq 18, 3) := by decide +kernel
theorem dX9_shred_7 : decode cX9_shred 7 = .ok (.iload_n 1, 1) := by decide +kernel
theorem dX9_shred_8 : decode cX9_shred 8 = .ok (.invokestatic 146, 3) := by decide +kernel
theorem dX9_shred_11 : decode cX9_shred 11 = .ok (.ifCond .eq 11, 3) := by decide +kernel
theorem dX9_shred_14 : decode cX9_shred 14 = .ok (.aload_n 0, 1) := by decide +kernel
theorem dX9_shred_15 : decode cX9_shred 15 = .ok (.getfield 119, 3) := by decide +kernel
theorem dX9_shred_18 : decode cX9_shred 18 = .ok (.iconst 3, 1) := by decide +kernel
theorem dX9_shred_19 : decode cX9_shred 19 = .ok (.if_icmp .ge 6, 3) := by decide +kernel
theorem dX9_shred_22 : decode cX9_shred 22 = .ok (.bipush (-2), 2) := by decide +kernel
theorem dX9_shred_24 : decode cX9_shred 24 = .ok (.ireturn, 1) := by decide +kernel
theorem dX9_shred_25 : decode cX9_shred 25 = .ok (.aload_n 0, 1) := by decide +kernel
theorem dX9_shred_26 : decode cX9_shred 26 = .ok (.invokevirtual 150, 3) := by decide +kernel
theorem dX9_shred_29 : decode cX9_shred 29 = .ok (.pop, 1) := by decide +kernel
theorem dX9_shred_30 : decode cX9_shred 30 = .ok (.aload_n 0, 1) := by decide +kernel
theorem dX9_shred_31 : decode cX9_shred 31 = .ok (.iload_n 1, 1) := by decide +kernel
theorem dX9_shred_32 : decode cX9_shred 32 = .ok (.invokevirtual 105, 3) := by decide +kernel
theorem dX9_shred_35 : decode cX9_shred 35 = .ok (.aload_n 0, 1) := by decide +kernel
theorem dX9_shred_36 : decode cX9_shred 36 = .ok (.getfield 60, 3) := by decide +kernel
theorem dX9_shred_39 : decode cX9_shred 39 = .ok (.iconst 3, 1) := by decide +kernel
theorem dX9_shred_40 : decode cX9_shred 40 = .ok (.iaload, 1) := by decide +kernel
theorem dX9_shred_41 : decode cX9_shred 41 = .ok (.iconst (-1), 1) := by decide +kernel
theorem dX9_shred_42 : decode cX9_shred 42 = .ok (.if_icmp .eq 15, 3) := by decide +kernel
theorem dX9_shred_45 : decode cX9_shred 45 = .ok (.sipush 200, 3) := by decide +kernel
theorem dX9_shred_48 : decode cX9_shred 48 = .ok (.aload_n 0, 1) := by decide +kernel
theorem dX9_shred_49 : decode cX9_shred 49 = .ok (.invokevirtual 153, 3) := by decide +kernel
theorem dX9_shred_52 : decode cX9_shred 52 = .ok (.isub, 1) := by decide +kernel
theorem dX9_shred_53 : decode cX9_shred 53 = .ok (.iconst 3, 1) := by decide +kernel
theorem dX9_shred_54 : decode cX9_shred 54 = .ok (.if_icmp .ge 6, 3) := by decide +kernel
theorem dX9_shred_57 : decode cX9_shred 57 = .ok (.bipush (-2), 2) := by decide +kernel
theorem dX9_shred_59 : decode cX9_shred 59 = .ok (.ireturn, 1) := by decide +kernel
theorem dX9_shred_60 : decode cX9_shred 60 = .ok (.aload_n 0, 1) := by decide +kernel
theorem dX9_shred_61 : decode cX9_shred 61 = .ok (.iload_n 1, 1) := by decide +kernel
theorem dX9_shred_62 : decode cX9_shred 62 = .ok (.lconst 0, 1) := by decide +kernel
theorem dX9_shred_63 : decode cX9_shred 63 = .ok (.iconst 0, 1) := by decide +kernel
theorem dX9_shred_64 : decode cX9_shred 64 = .ok (.invokevirtual 156, 3) := by decide +kernel
theorem dX9_shred_67 : decode cX9_shred 67 = .ok (.ifCond .eq 7, 3) := by decide +kernel
theorem dX9_shred_70 : decode cX9_shred 70 = .ok (.iconst 1, 1) := by decide +kernel
theorem dX9_shred_71 : decode cX9_shred 71 = .ok (.goto 4, 3) := by decide +kernel
theorem dX9_shred_74 : decode cX9_shred 74 = .ok (.iconst 0, 1) := by decide +kernel
theorem dX9_shred_75 : decode cX9_shred 75 = .ok (.ireturn, 1) := by decide +kernel
set_option maxRecDepth 20000 in
theorem ggX9_size_X9_isObject : GoodIn wsX9_size wsX9_isObject := goodIn_r _ [8] (by decide +kernel) (by decide +kernel)
set_option maxRecDepth 20000 in
theorem gX9_size_X9_isObject : GoodIn wsX9_size (va_wsS RX9 146 yX9_isObject wsX9_isObject) := goodIn_app (goodIn_of _ (by decide +kernel)) ggX9_size_X9_isObject
set_option maxRecDepth 20000 in
theorem ggX9_size_X9_findWay : GoodIn wsX9_size wsX9_findWay := goodIn_r _ [12, 3, 13, 2, 14, 15, 16, 17, 18, 19, 7, 20, 4, 21, 22, 23, 24, 25, 26, 27, 28, 29, 30, 31, 32, 33, 34, 35, 36, 37, 38, 39, 40, 41, 42, 48, 49, 50, 51, 52, 53, 54, 55, 56, 57, 58, 59, 60, 61, 62, 63, 64, 65, 66, 67, 68, 69, 70] (by decide +kernel) (by decide +kernel)
set_option maxRecDepth 20000 in
theorem gX9_size_X9_findWay : GoodIn wsX9_size (wsV RX9 105 RX9 yX9_findWay wsX9_findWay) := goodIn_app (goodIn_of _ (by decide +kernel)) ggX9_size_X9_findWay
set_option maxRecDepth 20000 in
theorem ggX9_size_X9_open : GoodIn wsX9_size wsX9_open := goodIn_r _ [24, 4, 25, 26, 27, 7, 28, 29, 30, 31, 32, 33, 34, 35, 36, 37, 38, 39, 48, 49, 50, 51, 52, 53, 54, 55, 56, 57, 58, 59, 60, 61, 62, 63, 64, 65, 66, 67, 68, 69, 70] (by decide +kernel) (by decide +kernel)
set_option maxRecDepth 20000 in
theorem gX9_size_X9_open : GoodIn wsX9_size (wsV RX9 90 RX9 yX9_open wsX9_open) := goodIn_app (goodIn_of _ (by decide +kernel)) ggX9_size_X9_open
set_option maxRecDepth 20000 in
theorem ggX9_size_X9_nextOf : GoodIn wsX9_size wsX9_nextOf := goodIn_r _ [46, 4, 47, 48, 49, 50, 51, 52, 53, 54, 55, 56, 57, 58, 59, 60, 61, 62, 63, 64, 65, 66, 67, 68, 69, 70] (by decide +kernel) (by decide +kernel)
set_option maxRecDepth 20000 in
theorem gX9_size_X9_nextOf : GoodIn wsX9_size (wsV RX9 112 RX9 yX9_nextOf wsX9_nextOf) := goodIn_app (goodIn_of _ (by decide +kernel)) ggX9_size_X9_nextOf
theorem dX9_size_0 : decode cX9_size 0 = .ok (.aload_n 0, 1) := by decide +kernel
theorem dX9_size_1 : decode cX9_size 1 = .ok (.getfield 17, 3) := by decide +kernel
theorem dX9_size_4 : decode cX9_size 4 = .ok (.ifCond .eq 10, 3) := by decide +kernel
theorem dX9_size_7 : decode cX9_size 7 = .ok (.iload_n 1, 1) := by decide +kernel
theorem dX9_size_8 : decode cX9_size 8 = .ok (.invokestatic 146, 3) := by decide +kernel
theorem dX9_size_11 : decode cX9_size 11 = .ok (.ifCond .ne 6, 3) := by decide +kernel
theorem dX9_size_14 : decode cX9_size 14 = .ok (.bipush (-2), 2) := by decide +kernel
theorem dX9_size_16 : decode cX9_size 16 = .ok (.ireturn, 1) := by decide +kernel
theorem dX9_size_17 : decode cX9_size 17 = .ok (.aload_n 0, 1) := by decide +kernel
theorem dX9_size_18 : decode cX9_size 18 = .ok (.iload_n 1, 1) := by decide +kernel
theorem dX9_size_19 : decode cX9_size 19 = .ok (.invokevirtual 105, 3) := by decide +kernel
theorem dX9_size_22 : decode cX9_size 22 = .ok (.aload_n 0, 1) := by decide +kernel
theorem dX9_size_23 : decode cX9_size 23 = .ok (.getfield 60, 3) := by decide +kernel
theorem dX9_size_26 : decode cX9_size 26 = .ok (.iconst 3, 1) := by decide +kernel
theorem dX9_size_27 : decode cX9_size 27 = .ok (.iaload, 1) := by decide +kernel
theorem dX9_size_28 : decode cX9_size 28 = .ok (.istore_n 2, 1) := by decide +kernel
theorem dX9_size_29 : decode cX9_size 29 = .ok (.iload_n 2, 1) := by decide +kernel
theorem dX9_size_30 : decode cX9_size 30 = .ok (.iconst (-1), 1) := by decide +kernel
theorem dX9_size_31 : decode cX9_size 31 = .ok (.if_icmp .ne 7, 3) := by decide +kernel
theorem dX9_size_34 : decode cX9_size 34 = .ok (.iconst (-1), 1) := by decide +kernel
theorem dX9_size_35 : decode cX9_size 35 = .ok (.goto 4, 3) := by decide +kernel
theorem dX9_size_38 : decode cX9_size 38 = .ok (.iconst 0, 1) := by decide +kernel
theorem dX9_size_39 : decode cX9_size 39 = .ok (.istore_n 3, 1) := by decide +kernel
theorem dX9_size_40 : decode cX9_size 40 = .ok (.iload_n 2, 1) := by decide +kernel
theorem dX9_size_41 : decode cX9_size 41 = .ok (.iconst (-1), 1) := by decide +kernel
theorem dX9_size_42 : decode cX9_size 42 = .ok (.if_icmp .eq 35, 3) := by decide +kernel
theorem dX9_size_45 : decode cX9_size 45 = .ok (.aload_n 0, 1) := by decide +kernel
theorem dX9_size_46 : decode cX9_size 46 = .ok (.aload_n 0, 1) := by decide +kernel
theorem dX9_size_47 : decode cX9_size 47 = .ok (.getfield 57, 3) := by decide +kernel
theorem dX9_size_50 : decode cX9_size 50 = .ok (.iconst 3, 1) := by decide +kernel
theorem dX9_size_51 : decode cX9_size 51 = .ok (.laload, 1) := by decide +kernel
theorem dX9_size_52 : decode cX9_size 52 = .ok (.iload_n 2, 1) := by decide +kernel
theorem dX9_size_53 : decode cX9_size 53 = .ok (.invokevirtual 90, 3) := by decide +kernel
theorem dX9_size_56 : decode cX9_size 56 = .ok (.iload_n 3, 1) := by decide +kernel
theorem dX9_size_57 : decode cX9_size 57 = .ok (.aload_n 0, 1) := by decide +kernel
theorem dX9_size_58 : decode cX9_size 58 = .ok (.getfield 41, 3) := by decide +kernel
theorem dX9_size_61 : decode cX9_size 61 = .ok (.iconst 2, 1) := by decide +kernel
theorem dX9_size_62 : decode cX9_size 62 = .ok (.baload, 1) := by decide +kernel
theorem dX9_size_63 : decode cX9_size 63 = .ok (.sipush 255, 3) := by decide +kernel
theorem dX9_size_66 : decode cX9_size 66 = .ok (.iand, 1) := by decide +kernel
theorem dX9_size_67 : decode cX9_size 67 = .ok (.iadd, 1) := by decide +kernel
theorem dX9_size_68 : decode cX9_size 68 = .ok (.istore_n 3, 1) := by decide +kernel
theorem dX9_size_69 : decode cX9_size 69 = .ok (.aload_n 0, 1) := by decide +kernel
theorem dX9_size_70 : decode cX9_size 70 = .ok (.invokevirtual 112, 3) := by decide +kernel
theorem dX9_size_73 : decode cX9_size 73 = .ok (.istore_n 2, 1) := by decide +kernel
theorem dX9_size_74 : decode cX9_size 74 = .ok (.goto (-34), 3) := by decide +kernel
theorem dX9_size_77 : decode cX9_size 77 = .ok (.iload_n 3, 1) := by decide +kernel
theorem dX9_size_78 : decode cX9_size 78 = .ok (.ireturn, 1) := by decide +kernel
set_option maxRecDepth 20000 in
theorem ggX9_at_X9_isObject : GoodIn wsX9_at wsX9_isObject := goodIn_r _ [8] (by decide +kernel) (by decide +kernel)
set_option maxRecDepth 20000 in
theorem gX9_at_X9_isObject : GoodIn wsX9_at (va_wsS RX9 146 yX9_isObject wsX9_isObject) := goodIn_app (goodIn_of _ (by decide +kernel)) ggX9_at_X9_isObject
set_option maxRecDepth 20000 in
theorem ggX9_at_X9_findWay : GoodIn wsX9_at wsX9_findWay := goodIn_r _ [12, 3, 13, 2, 14, 15, 16, 17, 18, 19, 7, 20, 4, 21, 22, 23, 24, 25, 26, 27, 28, 29, 30, 31, 32, 33, 34, 35, 36, 37, 38, 39, 40, 41, 42, 48, 49, 50, 51, 52, 53, 54, 55, 56, 57, 58, 59, 60, 61, 62, 63, 64, 65, 66, 67, 68, 69, 70] (by decide +kernel) (by decide +kernel)
set_option maxRecDepth 20000 in
theorem gX9_at_X9_findWay : GoodIn wsX9_at (wsV RX9 105 RX9 yX9_findWay wsX9_findWay) := goodIn_app (goodIn_of _ (by decide +kernel)) ggX9_at_X9_findWay
set_option maxRecDepth 20000 in
theorem ggX9_at_X9_open : GoodIn wsX9_at wsX9_open := goodIn_r _ [24, 4, 25, 26, 27, 7, 28, 29, 30, 31, 32, 33, 34, 35, 36, 37, 38, 39, 48, 49, 50, 51, 52, 53, 54, 55, 56, 57, 58, 59, 60, 61, 62, 63, 64, 65, 66, 67, 68, 69, 70] (by decide +kernel) (by decide +kernel)
set_option maxRecDepth 20000 in
theorem gX9_at_X9_open : GoodIn wsX9_at (wsV RX9 90 RX9 yX9_open wsX9_open) := goodIn_app (goodIn_of _ (by decide +kernel)) ggX9_at_X9_open
set_option maxRecDepth 20000 in
theorem ggX9_at_X9_nextOf : GoodIn wsX9_at wsX9_nextOf := goodIn_r _ [46, 4, 47, 48, 49, 50, 51, 52, 53, 54, 55, 56, 57, 58, 59, 60, 61, 62, 63, 64, 65, 66, 67, 68, 69, 70] (by decide +kernel) (by decide +kernel)
set_option maxRecDepth 20000 in
theorem gX9_at_X9_nextOf : GoodIn wsX9_at (wsV RX9 112 RX9 yX9_nextOf wsX9_nextOf) := goodIn_app (goodIn_of _ (by decide +kernel)) ggX9_at_X9_nextOf
theorem dX9_at_0 : decode cX9_at 0 = .ok (.aload_n 0, 1) := by decide +kernel
theorem dX9_at_1 : decode cX9_at 1 = .ok (.getfield 17, 3) := by decide +kernel
theorem dX9_at_4 : decode cX9_at 4 = .ok (.ifCond .eq 10, 3) := by decide +kernel
theorem dX9_at_7 : decode cX9_at 7 = .ok (.iload_n 1, 1) := by decide +kernel
theorem dX9_at_8 : decode cX9_at 8 = .ok (.invokestatic 146, 3) := by decide +kernel
theorem dX9_at_11 : decode cX9_at 11 = .ok (.ifCond .ne 6, 3) := by decide +kernel
theorem dX9_at_14 : decode cX9_at 14 = .ok (.bipush (-2), 2) := by decide +kernel
theorem dX9_at_16 : decode cX9_at 16 = .ok (.ireturn, 1) := by decide +kernel
theorem dX9_at_17 : decode cX9_at 17 = .ok (.aload_n 0, 1) := by decide +kernel
theorem dX9_at_18 : decode cX9_at 18 = .ok (.iload_n 1, 1) := by decide +kernel
theorem dX9_at_19 : decode cX9_at 19 = .ok (.invokevirtual 105, 3) := by decide +kernel
theorem dX9_at_22 : decode cX9_at 22 = .ok (.aload_n 0, 1) := by decide +kernel
theorem dX9_at_23 : decode cX9_at 23 = .ok (.getfield 60, 3) := by decide +kernel
theorem dX9_at_26 : decode cX9_at 26 = .ok (.iconst 3, 1) := by decide +kernel
theorem dX9_at_27 : decode cX9_at 27 = .ok (.iaload, 1) := by decide +kernel
theorem dX9_at_28 : decode cX9_at 28 = .ok (.istore_n 3, 1) := by decide +kernel
theorem dX9_at_29 : decode cX9_at 29 = .ok (.iconst 0, 1) := by decide +kernel
theorem dX9_at_30 : decode cX9_at 30 = .ok (.istore 4, 2) := by decide +kernel
theorem dX9_at_32 : decode cX9_at 32 = .ok (.iload_n 3, 1) := by decide +kernel
theorem dX9_at_33 : decode cX9_at 33 = .ok (.iconst (-1), 1) := by decide +kernel
theorem dX9_at_34 : decode cX9_at 34 = .ok (.if_icmp .eq 70, 3) := by decide +kernel
theorem dX9_at_37 : decode cX9_at 37 = .ok (.iload_n 2, 1) := by decide +kernel
theorem dX9_at_38 : decode cX9_at 38 = .ok (.ifCond .lt 66, 3) := by decide +kernel
theorem dX9_at_41 : decode cX9_at 41 = .ok (.aload_n 0, 1) := by decide +kernel
theorem dX9_at_42 : decode cX9_at 42 = .ok (.aload_n 0, 1) := by decide +kernel
theorem dX9_at_43 : decode cX9_at 43 = .ok (.getfield 57, 3) := by decide +kernel
theorem dX9_at_46 : decode cX9_at 46 = .ok (.iconst 3, 1) := by decide +kernel
theorem dX9_at_47 : decode cX9_at 47 = .ok (.laload, 1) := by decide +kernel
theorem dX9_at_48 : decode cX9_at 48 = .ok (.iload_n 3, 1) := by decide +kernel
theorem dX9_at_49 : decode cX9_at 49 = .ok (.invokevirtual 90, 3) := by decide +kernel
theorem dX9_at_52 : decode cX9_at 52 = .ok (.aload_n 0, 1) := by decide +kernel
theorem dX9_at_53 : decode cX9_at 53 = .ok (.getfield 41, 3) := by decide +kernel
theorem dX9_at_56 : decode cX9_at 56 = .ok (.iconst 2, 1) := by decide +kernel
theorem dX9_at_57 : decode cX9_at 57 = .ok (.baload, 1) := by decide +kernel
theorem dX9_at_58 : decode cX9_at 58 = .ok (.sipush 255, 3) := by decide +kernel
theorem dX9_at_61 : decode cX9_at 61 = .ok (.iand, 1) := by decide +kernel
theorem dX9_at_62 : decode cX9_at 62 = .ok (.istore 5, 2) := by decide +kernel
theorem dX9_at_64 : decode cX9_at 64 = .ok (.iload_n 2, 1) := by decide +kernel
theorem dX9_at_65 : decode cX9_at 65 = .ok (.iload 4, 2) := by decide +kernel
theorem dX9_at_67 : decode cX9_at 67 = .ok (.iload 5, 2) := by decide +kernel
theorem dX9_at_69 : decode cX9_at 69 = .ok (.iadd, 1) := by decide +kernel
theorem dX9_at_70 : decode cX9_at 70 = .ok (.if_icmp .ge 19, 3) := by decide +kernel
theorem dX9_at_73 : decode cX9_at 73 = .ok (.aload_n 0, 1) := by decide +kernel
theorem dX9_at_74 : decode cX9_at 74 = .ok (.getfield 41, 3) := by decide +kernel
theorem dX9_at_77 : decode cX9_at 77 = .ok (.iconst 3, 1) := by decide +kernel
theorem dX9_at_78 : decode cX9_at 78 = .ok (.iload_n 2, 1) := by decide +kernel
theorem dX9_at_79 : decode cX9_at 79 = .ok (.iadd, 1) := by decide +kernel
theorem dX9_at_80 : decode cX9_at 80 = .ok (.iload 4, 2) := by decide +kernel
theorem dX9_at_82 : decode cX9_at 82 = .ok (.isub, 1) := by decide +kernel
theorem dX9_at_83 : decode cX9_at 83 = .ok (.baload, 1) := by decide +kernel
theorem dX9_at_84 : decode cX9_at 84 = .ok (.sipush 255, 3) := by decide +kernel
theorem dX9_at_87 : decode cX9_at 87 = .ok (.iand, 1) := by decide +kernel
theorem dX9_at_88 : decode cX9_at 88 = .ok (.ireturn, 1) := by decide +kernel
theorem dX9_at_89 : decode cX9_at 89 = .ok (.iload 4, 2) := by decide +kernel
theorem dX9_at_91 : decode cX9_at 91 = .ok (.iload 5, 2) := by decide +kernel
theorem dX9_at_93 : decode cX9_at 93 = .ok (.iadd, 1) := by decide +kernel
theorem dX9_at_94 : decode cX9_at 94 = .ok (.istore 4, 2) := by decide +kernel
theorem dX9_at_96 : decode cX9_at 96 = .ok (.aload_n 0, 1) := by decide +kernel
theorem dX9_at_97 : decode cX9_at 97 = .ok (.invokevirtual 112, 3) := by decide +kernel
theorem dX9_at_100 : decode cX9_at 100 = .ok (.istore_n 3, 1) := by decide +kernel
theorem dX9_at_101 : decode cX9_at 101 = .ok (.goto (-69), 3) := by decide +kernel
theorem dX9_at_104 : decode cX9_at 104 = .ok (.iconst (-1), 1) := by decide +kernel
theorem dX9_at_105 : decode cX9_at 105 = .ok (.ireturn, 1) := by decide +kernel
set_option maxRecDepth 20000 in
theorem ggX9_cut_X9_goOff : GoodIn wsX9_cut wsX9_goOff := goodIn_r _ [6, 1, 7, 8, 9, 10, 11, 12, 13, 14, 15, 16, 17, 18, 19, 20, 21, 22, 23, 24, 25, 26, 27, 28, 29, 30, 31, 32] (by decide +kernel) (by decide +kernel)
set_option maxRecDepth 20000 in
theorem gX9_cut_X9_goOff : GoodIn wsX9_cut (wsV RX9 116 RX9 yX9_goOff wsX9_goOff) := goodIn_app (goodIn_of _ (by decide +kernel)) ggX9_cut_X9_goOff
theorem dX9_cut_0 : decode cX9_cut 0 = .ok (.aload_n 0, 1) := by decide +kernel
theorem dX9_cut_1 : decode cX9_cut 1 = .ok (.getfield 17, 3) := by decide +kernel
theorem dX9_cut_4 : decode cX9_cut 4 = .ok (.ifCond .ne 5, 3) := by decide +kernel
theorem dX9_cut_7 : decode cX9_cut 7 = .ok (.iconst 0, 1) := by decide +kernel
theorem dX9_cut_8 : decode cX9_cut 8 = .ok (.ireturn, 1) := by decide +kernel
theorem dX9_cut_9 : decode cX9_cut 9 = .ok (.aload_n 0, 1) := by decide +kernel
theorem dX9_cut_10 : decode cX9_cut 10 = .ok (.invokevirtual 116, 3) := by decide +kernel
theorem dX9_cut_13 : decode cX9_cut 13 = .ok (.iconst 1, 1) := by decide +kernel
theorem dX9_cut_14 : decode cX9_cut 14 = .ok (.ireturn, 1) := by decide +kernel
theorem dX9_arm_0 : decode cX9_arm 0 = .ok (.aload_n 0, 1) := by decide +kernel
theorem dX9_arm_1 : decode cX9_arm 1 = .ok (.getfield 17, 3) := by decide +kernel
theorem dX9_arm_4 : decode cX9_arm 4 = .ok (.ifCond .eq 14, 3) := by decide +kernel
theorem dX9_arm_7 : decode cX9_arm 7 = .ok (.iload_n 1, 1) := by decide +kernel
theorem dX9_arm_8 : decode cX9_arm 8 = .ok (.ifCond .lt 10, 3) := by decide +kernel
theorem dX9_arm_11 : decode cX9_arm 11 = .ok (.iload_n 1, 1) := by decide +kernel
theorem dX9_arm_12 : decode cX9_arm 12 = .ok (.sipush 200, 3) := by decide +kernel
theorem dX9_arm_15 : decode cX9_arm 15 = .ok (.if_icmp .le 5, 3) := by decide +kernel
theorem dX9_arm_18 : decode cX9_arm 18 = .ok (.iconst 0, 1) := by decide +kernel
theorem dX9_arm_19 : decode cX9_arm 19 = .ok (.ireturn, 1) := by decide +kernel
theorem dX9_arm_20 : decode cX9_arm 20 = .ok (.aload_n 0, 1) := by decide +kernel
theorem dX9_arm_21 : decode cX9_arm 21 = .ok (.iload_n 1, 1) := by decide +kernel
theorem dX9_arm_22 : decode cX9_arm 22 = .ok (.putfield 21, 3) := by decide +kernel
theorem dX9_arm_25 : decode cX9_arm 25 = .ok (.iconst 1, 1) := by decide +kernel
theorem dX9_arm_26 : decode cX9_arm 26 = .ok (.ireturn, 1) := by decide +kernel
theorem dX9_power_0 : decode cX9_power 0 = .ok (.aload_n 0, 1) := by decide +kernel
theorem dX9_power_1 : decode cX9_power 1 = .ok (.getfield 17, 3) := by decide +kernel
theorem dX9_power_4 : decode cX9_power 4 = .ok (.ifCond .eq 5, 3) := by decide +kernel
theorem dX9_power_7 : decode cX9_power 7 = .ok (.iconst 0, 1) := by decide +kernel
theorem dX9_power_8 : decode cX9_power 8 = .ok (.ireturn, 1) := by decide +kernel
theorem dX9_power_9 : decode cX9_power 9 = .ok (.aload_n 0, 1) := by decide +kernel
theorem dX9_power_10 : decode cX9_power 10 = .ok (.iconst 1, 1) := by decide +kernel
theorem dX9_power_11 : decode cX9_power 11 = .ok (.putfield 17, 3) := by decide +kernel
theorem dX9_power_14 : decode cX9_power 14 = .ok (.aload_n 0, 1) := by decide +kernel
theorem dX9_power_15 : decode cX9_power 15 = .ok (.iconst (-1), 1) := by decide +kernel
theorem dX9_power_16 : decode cX9_power 16 = .ok (.putfield 34, 3) := by decide +kernel
theorem dX9_power_19 : decode cX9_power 19 = .ok (.iconst 1, 1) := by decide +kernel
theorem dX9_power_20 : decode cX9_power 20 = .ok (.ireturn, 1) := by decide +kernel
theorem dX9_disk_0 : decode cX9_disk 0 = .ok (.iload_n 1, 1) := by decide +kernel
theorem dX9_disk_1 : decode cX9_disk 1 = .ok (.ifCond .lt 23, 3) := by decide +kernel
theorem dX9_disk_4 : decode cX9_disk 4 = .ok (.iload_n 1, 1) := by decide +kernel
theorem dX9_disk_5 : decode cX9_disk 5 = .ok (.sipush 12800, 3) := by decide +kernel
theorem dX9_disk_8 : decode cX9_disk 8 = .ok (.if_icmp .ge 16, 3) := by decide +kernel
theorem dX9_disk_11 : decode cX9_disk 11 = .ok (.aload_n 0, 1) := by decide +kernel
theorem dX9_disk_12 : decode cX9_disk 12 = .ok (.getfield 7, 3) := by decide +kernel
theorem dX9_disk_15 : decode cX9_disk 15 = .ok (.iload_n 1, 1) := by decide +kernel
theorem dX9_disk_16 : decode cX9_disk 16 = .ok (.baload, 1) := by decide +kernel
theorem dX9_disk_17 : decode cX9_disk 17 = .ok (.sipush 255, 3) := by decide +kernel
theorem dX9_disk_20 : decode cX9_disk 20 = .ok (.iand, 1) := by decide +kernel
theorem dX9_disk_21 : decode cX9_disk 21 = .ok (.goto 4, 3) := by decide +kernel
theorem dX9_disk_24 : decode cX9_disk 24 = .ok (.iconst (-1), 1) := by decide +kernel
theorem dX9_disk_25 : decode cX9_disk 25 = .ok (.ireturn, 1) := by decide +kernel
theorem dX9_cell_0 : decode cX9_cell 0 = .ok (.iload_n 1, 1) := by decide +kernel
theorem dX9_cell_1 : decode cX9_cell 1 = .ok (.ifCond .ne 10, 3) := by decide +kernel
theorem dX9_cell_4 : decode cX9_cell 4 = .ok (.aload_n 0, 1) := by decide +kernel
theorem dX9_cell_5 : decode cX9_cell 5 = .ok (.getfield 94, 3) := by decide +kernel
theorem dX9_cell_8 : decode cX9_cell 8 = .ok (.goto 17, 3) := by decide +kernel
theorem dX9_cell_11 : decode cX9_cell 11 = .ok (.iload_n 1, 1) := by decide +kernel
theorem dX9_cell_12 : decode cX9_cell 12 = .ok (.iconst 1, 1) := by decide +kernel
theorem dX9_cell_13 : decode cX9_cell 13 = .ok (.if_icmp .ne 11, 3) := by decide +kernel
theorem dX9_cell_16 : decode cX9_cell 16 = .ok (.aload_n 0, 1) := by decide +kernel
theorem dX9_cell_17 : decode cX9_cell 17 = .ok (.getfield 13, 3) := by decide +kernel
theorem dX9_cell_20 : decode cX9_cell 20 = .ok (.i2l, 1) := by decide +kernel
theorem dX9_cell_21 : decode cX9_cell 21 = .ok (.goto 4, 3) := by decide +kernel
theorem dX9_cell_24 : decode cX9_cell 24 = .ok (.lconst 0, 1) := by decide +kernel
theorem dX9_cell_25 : decode cX9_cell 25 = .ok (.lreturn, 1) := by decide +kernel
theorem dX9_isKnown_0 : decode cX9_isKnown 0 = .ok (.iconst 0, 1) := by decide +kernel
theorem dX9_isKnown_1 : decode cX9_isKnown 1 = .ok (.istore_n 3, 1) := by decide +kernel
theorem dX9_isKnown_2 : decode cX9_isKnown 2 = .ok (.iconst 0, 1) := by decide +kernel
theorem dX9_isKnown_3 : decode cX9_isKnown 3 = .ok (.istore 4, 2) := by decide +kernel
theorem dX9_isKnown_5 : decode cX9_isKnown 5 = .ok (.iload 4, 2) := by decide +kernel
theorem dX9_isKnown_7 : decode cX9_isKnown 7 = .ok (.aload_n 0, 1) := by decide +kernel
theorem dX9_isKnown_8 : decode cX9_isKnown 8 = .ok (.getfield 160, 3) := by decide +kernel
theorem dX9_isKnown_11 : decode cX9_isKnown 11 = .ok (.if_icmp .ge 29, 3) := by decide +kernel
theorem dX9_isKnown_14 : decode cX9_isKnown 14 = .ok (.iload_n 3, 1) := by decide +kernel
theorem dX9_isKnown_15 : decode cX9_isKnown 15 = .ok (.aload_n 0, 1) := by decide +kernel
theorem dX9_isKnown_16 : decode cX9_isKnown 16 = .ok (.getfield 54, 3) := by decide +kernel
theorem dX9_isKnown_19 : decode cX9_isKnown 19 = .ok (.iload 4, 2) := by decide +kernel
theorem dX9_isKnown_21 : decode cX9_isKnown 21 = .ok (.laload, 1) := by decide +kernel
theorem dX9_isKnown_22 : decode cX9_isKnown 22 = .ok (.lload_n 1, 1) := by decide +kernel
theorem dX9_isKnown_23 : decode cX9_isKnown 23 = .ok (.lcmp, 1) := by decide +kernel
theorem dX9_isKnown_24 : decode cX9_isKnown 24 = .ok (.ifCond .ne 7, 3) := by decide +kernel
theorem dX9_isKnown_27 : decode cX9_isKnown 27 = .ok (.iconst 1, 1) := by decide +kernel
theorem dX9_isKnown_28 : decode cX9_isKnown 28 = .ok (.goto 4, 3) := by decide +kernel
theorem dX9_isKnown_31 : decode cX9_isKnown 31 = .ok (.iconst 0, 1) := by decide +kernel
theorem dX9_isKnown_32 : decode cX9_isKnown 32 = .ok (.ior, 1) := by decide +kernel
theorem dX9_isKnown_33 : decode cX9_isKnown 33 = .ok (.istore_n 3, 1) := by decide +kernel
theorem dX9_isKnown_34 : decode cX9_isKnown 34 = .ok (.iinc 4 1, 3) := by decide +kernel
theorem dX9_isKnown_37 : decode cX9_isKnown 37 = .ok (.goto (-32), 3) := by decide +kernel
theorem dX9_isKnown_40 : decode cX9_isKnown 40 = .ok (.iload_n 3, 1) := by decide +kernel
theorem dX9_isKnown_41 : decode cX9_isKnown 41 = .ok (.ireturn, 1) := by decide +kernel
set_option maxRecDepth 20000 in
theorem ggX9_know_X9_byteAt : GoodIn wsX9_know wsX9_byteAt := goodIn_r _ [9, 10, 44, 45, 46, 47, 48, 49, 50, 51, 52, 53, 54, 55, 56, 57, 58, 59, 60, 61, 62, 63, 64, 65, 66] (by decide +kernel) (by decide +kernel)
set_option maxRecDepth 20000 in
theorem gX9_know_X9_byteAt : GoodIn wsX9_know (wsV RX9 72 RX9 yX9_byteAt wsX9_byteAt) := goodIn_app (goodIn_of _ (by decide +kernel)) ggX9_know_X9_byteAt
set_option maxRecDepth 20000 in
theorem ggX9_know_X9_fits : GoodIn wsX9_know wsX9_fits := goodIn_r _ [14, 15, 5, 6, 7, 8, 9, 10, 16, 17, 18, 19, 20, 21, 22, 23, 24, 25, 26, 27, 28, 29, 44, 45, 46, 47, 48, 49, 50, 51, 52, 53, 54, 55, 56, 57, 58, 59, 60, 61, 62, 63, 64, 65, 66] (by decide +kernel) (by decide +kernel)
set_option maxRecDepth 20000 in
theorem gX9_know_X9_fits : GoodIn wsX9_know (wsV RX9 163 RX9 yX9_fits wsX9_fits) := goodIn_app (goodIn_of _ (by decide +kernel)) ggX9_know_X9_fits
set_option maxRecDepth 20000 in
theorem ggX9_know_X9_openNode : GoodIn wsX9_know wsX9_openNode := goodIn_r _ [33, 34, 4, 35, 36, 37, 38, 8, 39, 20, 21, 22, 23, 5, 6, 7, 9, 10, 24, 25, 26, 27, 28, 29, 44, 45, 46, 47, 48, 49, 50, 51, 52, 53, 54, 55, 56, 57, 58, 59, 60, 61, 62, 63, 64, 65, 66] (by decide +kernel) (by decide +kernel)
set_option maxRecDepth 20000 in
theorem gX9_know_X9_openNode : GoodIn wsX9_know (wsV RX9 98 RX9 yX9_openNode wsX9_openNode) := goodIn_app (goodIn_of _ (by decide +kernel)) ggX9_know_X9_openNode
set_option maxRecDepth 20000 in
theorem ggX9_know_X9_isKnown : GoodIn wsX9_know wsX9_isKnown := goodIn_r _ [43, 1, 3, 44, 45, 46, 47, 48, 49, 50, 51, 52, 53, 54, 55, 56, 57, 58, 59, 60, 61, 62, 63, 64, 65, 66] (by decide +kernel) (by decide +kernel)
set_option maxRecDepth 20000 in
theorem gX9_know_X9_isKnown : GoodIn wsX9_know (wsV RX9 167 RX9 yX9_isKnown wsX9_isKnown) := goodIn_app (goodIn_of _ (by decide +kernel)) ggX9_know_X9_isKnown
theorem dX9_know_0 : decode cX9_know 0 = .ok (.aload_n 0, 1) := by decide +kernel
theorem dX9_know_1 : decode cX9_know 1 = .ok (.iconst 0, 1) := by decide +kernel
theorem dX9_know_2 : decode cX9_know 2 = .ok (.putfield 160, 3) := by decide +kernel
theorem dX9_know_5 : decode cX9_know 5 = .ok (.aload_n 0, 1) := by decide +kernel
theorem dX9_know_6 : decode cX9_know 6 = .ok (.getfield 94, 3) := by decide +kernel
theorem dX9_know_9 : decode cX9_know 9 = .ok (.lconst 0, 1) := by decide +kernel
theorem dX9_know_10 : decode cX9_know 10 = .ok (.lcmp, 1) := by decide +kernel
theorem dX9_know_11 : decode cX9_know 11 = .ok (.ifCond .ne 4, 3) := by decide +kernel
theorem dX9_know_14 : decode cX9_know 14 = .ok (.return_, 1) := by decide +kernel
theorem dX9_know_15 : decode cX9_know 15 = .ok (.aload_n 0, 1) := by decide +kernel
theorem dX9_know_16 : decode cX9_know 16 = .ok (.getfield 54, 3) := by decide +kernel
theorem dX9_know_19 : decode cX9_know 19 = .ok (.iconst 0, 1) := by decide +kernel
theorem dX9_know_20 : decode cX9_know 20 = .ok (.aload_n 0, 1) := by decide +kernel
theorem dX9_know_21 : decode cX9_know 21 = .ok (.getfield 94, 3) := by decide +kernel
theorem dX9_know_24 : decode cX9_know 24 = .ok (.lastore, 1) := by decide +kernel
theorem dX9_know_25 : decode cX9_know 25 = .ok (.aload_n 0, 1) := by decide +kernel
theorem dX9_know_26 : decode cX9_know 26 = .ok (.iconst 1, 1) := by decide +kernel
theorem dX9_know_27 : decode cX9_know 27 = .ok (.putfield 160, 3) := by decide +kernel
theorem dX9_know_30 : decode cX9_know 30 = .ok (.iconst 0, 1) := by decide +kernel
theorem dX9_know_31 : decode cX9_know 31 = .ok (.istore_n 1, 1) := by decide +kernel
theorem dX9_know_32 : decode cX9_know 32 = .ok (.aload_n 0, 1) := by decide +kernel
theorem dX9_know_33 : decode cX9_know 33 = .ok (.getfield 160, 3) := by decide +kernel
theorem dX9_know_36 : decode cX9_know 36 = .ok (.iload_n 1, 1) := by decide +kernel
theorem dX9_know_37 : decode cX9_know 37 = .ok (.if_icmp .le 168, 3) := by decide +kernel
theorem dX9_know_40 : decode cX9_know 40 = .ok (.aload_n 0, 1) := by decide +kernel
theorem dX9_know_41 : decode cX9_know 41 = .ok (.getfield 160, 3) := by decide +kernel
theorem dX9_know_44 : decode cX9_know 44 = .ok (.istore_n 1, 1) := by decide +kernel
theorem dX9_know_45 : decode cX9_know 45 = .ok (.iconst 0, 1) := by decide +kernel
theorem dX9_know_46 : decode cX9_know 46 = .ok (.istore_n 2, 1) := by decide +kernel
theorem dX9_know_47 : decode cX9_know 47 = .ok (.iload_n 2, 1) := by decide +kernel
theorem dX9_know_48 : decode cX9_know 48 = .ok (.sipush 200, 3) := by decide +kernel
theorem dX9_know_51 : decode cX9_know 51 = .ok (.if_icmp .ge 151, 3) := by decide +kernel
theorem dX9_know_54 : decode cX9_know 54 = .ok (.lconst 0, 1) := by decide +kernel
theorem dX9_know_55 : decode cX9_know 55 = .ok (.lstore_n 3, 1) := by decide +kernel
theorem dX9_know_56 : decode cX9_know 56 = .ok (.iconst 0, 1) := by decide +kernel
theorem dX9_know_57 : decode cX9_know 57 = .ok (.istore 5, 2) := by decide +kernel
theorem dX9_know_59 : decode cX9_know 59 = .ok (.iload 5, 2) := by decide +kernel
theorem dX9_know_61 : decode cX9_know 61 = .ok (.aload_n 0, 1) := by decide +kernel
theorem dX9_know_62 : decode cX9_know 62 = .ok (.getfield 160, 3) := by decide +kernel
theorem dX9_know_65 : decode cX9_know 65 = .ok (.if_icmp .ge 52, 3) := by decide +kernel
theorem dX9_know_68 : decode cX9_know 68 = .ok (.lload_n 3, 1) := by decide +kernel
theorem dX9_know_69 : decode cX9_know 69 = .ok (.lconst 0, 1) := by decide +kernel
theorem dX9_know_70 : decode cX9_know 70 = .ok (.lcmp, 1) := by decide +kernel
theorem dX9_know_71 : decode cX9_know 71 = .ok (.ifCond .ne 46, 3) := by decide +kernel
theorem dX9_know_74 : decode cX9_know 74 = .ok (.aload_n 0, 1) := by decide +kernel
theorem dX9_know_75 : decode cX9_know 75 = .ok (.iload_n 2, 1) := by decide +kernel
theorem dX9_know_76 : decode cX9_know 76 = .ok (.iconst 0, 1) := by decide +kernel
theorem dX9_know_77 : decode cX9_know 77 = .ok (.invokevirtual 72, 3) := by decide +kernel
theorem dX9_know_80 : decode cX9_know 80 = .ok (.iconst 1, 1) := by decide +kernel
theorem dX9_know_81 : decode cX9_know 81 = .ok (.if_icmp .ne 36, 3) := by decide +kernel
theorem dX9_know_84 : decode cX9_know 84 = .ok (.aload_n 0, 1) := by decide +kernel
theorem dX9_know_85 : decode cX9_know 85 = .ok (.aload_n 0, 1) := by decide +kernel
theorem dX9_know_86 : decode cX9_know 86 = .ok (.getfield 54, 3) := by decide +kernel
theorem dX9_know_89 : decode cX9_know 89 = .ok (.iload 5, 2) := by decide +kernel
theorem dX9_know_91 : decode cX9_know 91 = .ok (.laload, 1) := by decide +kernel
theorem dX9_know_92 : decode cX9_know 92 = .ok (.iload_n 2, 1) := by decide +kernel
theorem dX9_know_93 : decode cX9_know 93 = .ok (.invokevirtual 163, 3) := by decide +kernel
theorem dX9_know_96 : decode cX9_know 96 = .ok (.ifCond .eq 13, 3) := by decide +kernel
theorem dX9_know_99 : decode cX9_know 99 = .ok (.aload_n 0, 1) := by decide +kernel
theorem dX9_know_100 : decode cX9_know 100 = .ok (.getfield 54, 3) := by decide +kernel
theorem dX9_know_103 : decode cX9_know 103 = .ok (.iload 5, 2) := by decide +kernel
theorem dX9_know_105 : decode cX9_know 105 = .ok (.laload, 1) := by decide +kernel
theorem dX9_know_106 : decode cX9_know 106 = .ok (.goto 4, 3) := by decide +kernel
theorem dX9_know_109 : decode cX9_know 109 = .ok (.lconst 0, 1) := by decide +kernel
theorem dX9_know_110 : decode cX9_know 110 = .ok (.lstore_n 3, 1) := by decide +kernel
theorem dX9_know_111 : decode cX9_know 111 = .ok (.iinc 5 1, 3) := by decide +kernel
theorem dX9_know_114 : decode cX9_know 114 = .ok (.goto (-55), 3) := by decide +kernel
theorem dX9_know_117 : decode cX9_know 117 = .ok (.lload_n 3, 1) := by decide +kernel
theorem dX9_know_118 : decode cX9_know 118 = .ok (.lconst 0, 1) := by decide +kernel
theorem dX9_know_119 : decode cX9_know 119 = .ok (.lcmp, 1) := by decide +kernel
theorem dX9_know_120 : decode cX9_know 120 = .ok (.ifCond .eq 76, 3) := by decide +kernel
theorem dX9_know_123 : decode cX9_know 123 = .ok (.aload_n 0, 1) := by decide +kernel
theorem dX9_know_124 : decode cX9_know 124 = .ok (.lload_n 3, 1) := by decide +kernel
theorem dX9_know_125 : decode cX9_know 125 = .ok (.iload_n 2, 1) := by decide +kernel
theorem dX9_know_126 : decode cX9_know 126 = .ok (.invokevirtual 98, 3) := by decide +kernel
theorem dX9_know_129 : decode cX9_know 129 = .ok (.iconst 0, 1) := by decide +kernel
theorem dX9_know_130 : decode cX9_know 130 = .ok (.istore 5, 2) := by decide +kernel
theorem dX9_know_132 : decode cX9_know 132 = .ok (.iload 5, 2) := by decide +kernel
theorem dX9_know_134 : decode cX9_know 134 = .ok (.iconst 4, 1) := by decide +kernel
theorem dX9_know_135 : decode cX9_know 135 = .ok (.if_icmp .ge 61, 3) := by decide +kernel
theorem dX9_know_138 : decode cX9_know 138 = .ok (.aload_n 0, 1) := by decide +kernel
theorem dX9_know_139 : decode cX9_know 139 = .ok (.getfield 47, 3) := by decide +kernel
theorem dX9_know_142 : decode cX9_know 142 = .ok (.iload 5, 2) := by decide +kernel
theorem dX9_know_144 : decode cX9_know 144 = .ok (.laload, 1) := by decide +kernel
theorem dX9_know_145 : decode cX9_know 145 = .ok (.lconst 0, 1) := by decide +kernel
theorem dX9_know_146 : decode cX9_know 146 = .ok (.lcmp, 1) := by decide +kernel
theorem dX9_know_147 : decode cX9_know 147 = .ok (.ifCond .eq 43, 3) := by decide +kernel
theorem dX9_know_150 : decode cX9_know 150 = .ok (.aload_n 0, 1) := by decide +kernel
theorem dX9_know_151 : decode cX9_know 151 = .ok (.aload_n 0, 1) := by decide +kernel
theorem dX9_know_152 : decode cX9_know 152 = .ok (.getfield 47, 3) := by decide +kernel
theorem dX9_know_155 : decode cX9_know 155 = .ok (.iload 5, 2) := by decide +kernel
theorem dX9_know_157 : decode cX9_know 157 = .ok (.laload, 1) := by decide +kernel
theorem dX9_know_158 : decode cX9_know 158 = .ok (.invokevirtual 167, 3) := by decide +kernel
theorem dX9_know_161 : decode cX9_know 161 = .ok (.ifCond .ne 29, 3) := by decide +kernel
theorem dX9_know_164 : decode cX9_know 164 = .ok (.aload_n 0, 1) := by decide +kernel
theorem dX9_know_165 : decode cX9_know 165 = .ok (.getfield 54, 3) := by decide +kernel
theorem dX9_know_168 : decode cX9_know 168 = .ok (.aload_n 0, 1) := by decide +kernel
theorem dX9_know_169 : decode cX9_know 169 = .ok (.getfield 160, 3) := by decide +kernel
theorem dX9_know_172 : decode cX9_know 172 = .ok (.aload_n 0, 1) := by decide +kernel
theorem dX9_know_173 : decode cX9_know 173 = .ok (.getfield 47, 3) := by decide +kernel
theorem dX9_know_176 : decode cX9_know 176 = .ok (.iload 5, 2) := by decide +kernel
theorem dX9_know_178 : decode cX9_know 178 = .ok (.laload, 1) := by decide +kernel
theorem dX9_know_179 : decode cX9_know 179 = .ok (.lastore, 1) := by decide +kernel
theorem dX9_know_180 : decode cX9_know 180 = .ok (.aload_n 0, 1) := by decide +kernel
theorem dX9_know_181 : decode cX9_know 181 = .ok (.dup, 1) := by decide +kernel
theorem dX9_know_182 : decode cX9_know 182 = .ok (.getfield 160, 3) := by decide +kernel
theorem dX9_know_185 : decode cX9_know 185 = .ok (.iconst 1, 1) := by decide +kernel
theorem dX9_know_186 : decode cX9_know 186 = .ok (.iadd, 1) := by decide +kernel
theorem dX9_know_187 : decode cX9_know 187 = .ok (.putfield 160, 3) := by decide +kernel
theorem dX9_know_190 : decode cX9_know 190 = .ok (.iinc 5 1, 3) := by decide +kernel
theorem dX9_know_193 : decode cX9_know 193 = .ok (.goto (-61), 3) := by decide +kernel
theorem dX9_know_196 : decode cX9_know 196 = .ok (.iinc 2 1, 3) := by decide +kernel
theorem dX9_know_199 : decode cX9_know 199 = .ok (.goto (-152), 3) := by decide +kernel
theorem dX9_know_202 : decode cX9_know 202 = .ok (.goto (-170), 3) := by decide +kernel
theorem dX9_know_205 : decode cX9_know 205 = .ok (.return_, 1) := by decide +kernel
set_option maxRecDepth 20000 in
theorem ggX9_known_X9_know : GoodIn wsX9_known wsX9_know := goodIn_r _ [5, 6, 7, 8, 9, 10, 11, 12, 4, 13, 14, 15, 16, 17, 18, 19, 20, 21, 22, 23, 24, 25, 26, 27, 28, 29, 30, 31, 32, 33, 34, 35, 36, 37, 38, 39, 40, 41, 42, 43, 44, 45, 46, 47, 48, 49, 50, 51, 52, 53, 54, 55, 56, 57, 58, 59, 60, 61, 62, 63, 64, 65, 66, 67, 68, 69, 70] (by decide +kernel) (by decide +kernel)
set_option maxRecDepth 20000 in
theorem gX9_known_X9_know : GoodIn wsX9_known (wsV RX9 171 RX9 yX9_know wsX9_know) := goodIn_app (goodIn_of _ (by decide +kernel)) ggX9_known_X9_know
set_option maxRecDepth 20000 in
theorem ggX9_known_X9_isKnown : GoodIn wsX9_known wsX9_isKnown := goodIn_r _ [47, 6, 8, 48, 49, 50, 51, 52, 53, 54, 55, 56, 57, 58, 59, 60, 61, 62, 63, 64, 65, 66, 67, 68, 69, 70] (by decide +kernel) (by decide +kernel)
set_option maxRecDepth 20000 in
theorem gX9_known_X9_isKnown : GoodIn wsX9_known (wsV RX9 167 RX9 yX9_isKnown wsX9_isKnown) := goodIn_app (goodIn_of _ (by decide +kernel)) ggX9_known_X9_isKnown
theorem dX9_known_0 : decode cX9_known 0 = .ok (.aload_n 0, 1) := by decide +kernel
theorem dX9_known_1 : decode cX9_known 1 = .ok (.invokevirtual 171, 3) := by decide +kernel
theorem dX9_known_4 : decode cX9_known 4 = .ok (.aload_n 0, 1) := by decide +kernel
theorem dX9_known_5 : decode cX9_known 5 = .ok (.lload_n 1, 1) := by decide +kernel
theorem dX9_known_6 : decode cX9_known 6 = .ok (.invokevirtual 167, 3) := by decide +kernel
theorem dX9_known_9 : decode cX9_known 9 = .ok (.ireturn, 1) := by decide +kernel
set_option maxRecDepth 20000 in
theorem ggX9_knownAt_X9_know : GoodIn wsX9_knownAt wsX9_know := goodIn_r _ [7, 1, 8, 2, 9, 10, 11, 12, 6, 13, 14, 15, 16, 17, 18, 19, 20, 21, 22, 23, 24, 25, 26, 27, 28, 29, 30, 31, 32, 33, 34, 35, 36, 37, 38, 39, 40, 41, 42, 43, 44, 45, 46, 47, 48, 49, 50, 51, 52, 53, 54, 55, 56, 57, 58, 59, 60, 61, 62, 63, 64, 65, 66, 67, 68, 69, 70] (by decide +kernel) (by decide +kernel)
set_option maxRecDepth 20000 in
theorem gX9_knownAt_X9_know : GoodIn wsX9_knownAt (wsV RX9 171 RX9 yX9_know wsX9_know) := goodIn_app (goodIn_of _ (by decide +kernel)) ggX9_knownAt_X9_know
theorem dX9_knownAt_0 : decode cX9_knownAt 0 = .ok (.aload_n 0, 1) := by decide +kernel
theorem dX9_knownAt_1 : decode cX9_knownAt 1 = .ok (.invokevirtual 171, 3) := by decide +kernel
theorem dX9_knownAt_4 : decode cX9_knownAt 4 = .ok (.iload_n 1, 1) := by decide +kernel
theorem dX9_knownAt_5 : decode cX9_knownAt 5 = .ok (.ifCond .lt 20, 3) := by decide +kernel
theorem dX9_knownAt_8 : decode cX9_knownAt 8 = .ok (.iload_n 1, 1) := by decide +kernel
theorem dX9_knownAt_9 : decode cX9_knownAt 9 = .ok (.aload_n 0, 1) := by decide +kernel
theorem dX9_knownAt_10 : decode cX9_knownAt 10 = .ok (.getfield 160, 3) := by decide +kernel
theorem dX9_knownAt_13 : decode cX9_knownAt 13 = .ok (.if_icmp .ge 12, 3) := by decide +kernel
theorem dX9_knownAt_16 : decode cX9_knownAt 16 = .ok (.aload_n 0, 1) := by decide +kernel
theorem dX9_knownAt_17 : decode cX9_knownAt 17 = .ok (.getfield 54, 3) := by decide +kernel
theorem dX9_knownAt_20 : decode cX9_knownAt 20 = .ok (.iload_n 1, 1) := by decide +kernel
theorem dX9_knownAt_21 : decode cX9_knownAt 21 = .ok (.laload, 1) := by decide +kernel
theorem dX9_knownAt_22 : decode cX9_knownAt 22 = .ok (.goto 4, 3) := by decide +kernel
theorem dX9_knownAt_25 : decode cX9_knownAt 25 = .ok (.lconst 0, 1) := by decide +kernel
theorem dX9_knownAt_26 : decode cX9_knownAt 26 = .ok (.lreturn, 1) := by decide +kernel
set_option maxRecDepth 20000 in
theorem ggX9_live_X9_markLive : GoodIn wsX9_live wsX9_markLive := goodIn_r _ [6, 1, 7, 8, 9, 10, 11, 5, 12, 13, 14, 15, 16, 17, 18, 19, 20, 21, 22, 23, 24, 25, 26, 27, 28, 29, 30, 31, 32, 33, 34, 35, 36, 37, 38, 39, 40, 41, 42, 43, 44, 45, 46, 47, 48, 49, 50, 51, 52, 53, 54, 55, 56, 57, 58, 59, 60, 61, 62, 63, 64, 65, 66, 67, 68, 69, 70, 71, 72, 73, 74, 75] (by decide +kernel) (by decide +kernel)
set_option maxRecDepth 20000 in
theorem gX9_live_X9_markLive : GoodIn wsX9_live (wsV RX9 150 RX9 yX9_markLive wsX9_markLive) := goodIn_app (goodIn_of _ (by decide +kernel)) ggX9_live_X9_markLive
theorem dX9_live_0 : decode cX9_live 0 = .ok (.aload_n 0, 1) := by decide +kernel
theorem dX9_live_1 : decode cX9_live 1 = .ok (.invokevirtual 150, 3) := by decide +kernel
theorem dX9_live_4 : decode cX9_live 4 = .ok (.pop, 1) := by decide +kernel
theorem dX9_live_5 : decode cX9_live 5 = .ok (.iload_n 1, 1) := by decide +kernel
theorem dX9_live_6 : decode cX9_live 6 = .ok (.ifCond .lt 23, 3) := by decide +kernel
theorem dX9_live_9 : decode cX9_live 9 = .ok (.iload_n 1, 1) := by decide +kernel
theorem dX9_live_10 : decode cX9_live 10 = .ok (.sipush 200, 3) := by decide +kernel
theorem dX9_live_13 : decode cX9_live 13 = .ok (.if_icmp .ge 16, 3) := by decide +kernel
theorem dX9_live_16 : decode cX9_live 16 = .ok (.aload_n 0, 1) := by decide +kernel
theorem dX9_live_17 : decode cX9_live 17 = .ok (.getfield 37, 3) := by decide +kernel
theorem dX9_live_20 : decode cX9_live 20 = .ok (.iload_n 1, 1) := by decide +kernel
theorem dX9_live_21 : decode cX9_live 21 = .ok (.baload, 1) := by decide +kernel
theorem dX9_live_22 : decode cX9_live 22 = .ok (.ifCond .eq 7, 3) := by decide +kernel
theorem dX9_live_25 : decode cX9_live 25 = .ok (.iconst 1, 1) := by decide +kernel
theorem dX9_live_26 : decode cX9_live 26 = .ok (.goto 4, 3) := by decide +kernel
theorem dX9_live_29 : decode cX9_live 29 = .ok (.iconst 0, 1) := by decide +kernel
theorem dX9_live_30 : decode cX9_live 30 = .ok (.ireturn, 1) := by decide +kernel
set_option maxRecDepth 20000 in
theorem ggX9_count_X9_markLive : GoodIn wsX9_count wsX9_markLive := goodIn_r _ [11, 12, 13, 14, 15, 16, 17, 10, 18, 19, 20, 21, 22, 23, 24, 25, 26, 27, 28, 29, 30, 31, 32, 33, 34, 35, 36, 37, 38, 39, 40, 41, 42, 43, 44, 45, 46, 47, 48, 49, 50, 51, 52, 53, 54, 55, 56, 57, 58, 81, 82, 83, 84, 85, 86, 87, 88, 89, 90, 91, 92, 93, 94, 95, 96, 97, 98, 99, 100, 101, 102, 103] (by decide +kernel) (by decide +kernel)
set_option maxRecDepth 20000 in
theorem gX9_count_X9_markLive : GoodIn wsX9_count (wsV RX9 150 RX9 yX9_markLive wsX9_markLive) := goodIn_app (goodIn_of _ (by decide +kernel)) ggX9_count_X9_markLive
set_option maxRecDepth 20000 in
theorem ggX9_count_X9_used : GoodIn wsX9_count wsX9_used := goodIn_r _ [62, 12, 81, 82, 83, 84, 85, 86, 87, 88, 89, 90, 91, 92, 93, 94, 95, 96, 97, 98, 99, 100, 101, 102, 103] (by decide +kernel) (by decide +kernel)
set_option maxRecDepth 20000 in
theorem gX9_count_X9_used : GoodIn wsX9_count (wsV RX9 153 RX9 yX9_used wsX9_used) := goodIn_app (goodIn_of _ (by decide +kernel)) ggX9_count_X9_used
set_option maxRecDepth 20000 in
theorem ggX9_count_X9_know : GoodIn wsX9_count wsX9_know := goodIn_r _ [66, 6, 19, 67, 21, 36, 37, 38, 10, 39, 40, 68, 69, 70, 71, 72, 73, 74, 75, 76, 32, 33, 34, 35, 41, 42, 43, 44, 45, 46, 23, 24, 25, 26, 27, 22, 28, 29, 30, 31, 77, 78, 79, 80, 81, 82, 83, 84, 85, 86, 87, 88, 89, 90, 91, 92, 93, 94, 95, 96, 97, 98, 99, 100, 101, 102, 103] (by decide +kernel) (by decide +kernel)
set_option maxRecDepth 20000 in
theorem gX9_count_X9_know : GoodIn wsX9_count (wsV RX9 171 RX9 yX9_know wsX9_know) := goodIn_app (goodIn_of _ (by decide +kernel)) ggX9_count_X9_know
theorem dX9_count_0 : decode cX9_count 0 = .ok (.iload_n 1, 1) := by decide +kernel
theorem dX9_count_1 : decode cX9_count 1 = .ok (.tableswitch 104 0 7 #[47, 60, 65, 70, 80, 85, 90, 95], 47) := by decide +kernel
theorem dX9_count_48 : decode cX9_count 48 = .ok (.aload_n 0, 1) := by decide +kernel
theorem dX9_count_49 : decode cX9_count 49 = .ok (.getfield 17, 3) := by decide +kernel
theorem dX9_count_52 : decode cX9_count 52 = .ok (.ifCond .eq 7, 3) := by decide +kernel
theorem dX9_count_55 : decode cX9_count 55 = .ok (.iconst 1, 1) := by decide +kernel
theorem dX9_count_56 : decode cX9_count 56 = .ok (.goto 4, 3) := by decide +kernel
theorem dX9_count_59 : decode cX9_count 59 = .ok (.iconst 0, 1) := by decide +kernel
theorem dX9_count_60 : decode cX9_count 60 = .ok (.ireturn, 1) := by decide +kernel
theorem dX9_count_61 : decode cX9_count 61 = .ok (.aload_n 0, 1) := by decide +kernel
theorem dX9_count_62 : decode cX9_count 62 = .ok (.getfield 119, 3) := by decide +kernel
theorem dX9_count_65 : decode cX9_count 65 = .ok (.ireturn, 1) := by decide +kernel
theorem dX9_count_66 : decode cX9_count 66 = .ok (.aload_n 0, 1) := by decide +kernel
theorem dX9_count_67 : decode cX9_count 67 = .ok (.getfield 122, 3) := by decide +kernel
theorem dX9_count_70 : decode cX9_count 70 = .ok (.ireturn, 1) := by decide +kernel
theorem dX9_count_71 : decode cX9_count 71 = .ok (.aload_n 0, 1) := by decide +kernel
theorem dX9_count_72 : decode cX9_count 72 = .ok (.invokevirtual 150, 3) := by decide +kernel
theorem dX9_count_75 : decode cX9_count 75 = .ok (.pop, 1) := by decide +kernel
theorem dX9_count_76 : decode cX9_count 76 = .ok (.aload_n 0, 1) := by decide +kernel
theorem dX9_count_77 : decode cX9_count 77 = .ok (.invokevirtual 153, 3) := by decide +kernel
theorem dX9_count_80 : decode cX9_count 80 = .ok (.ireturn, 1) := by decide +kernel
theorem dX9_count_81 : decode cX9_count 81 = .ok (.aload_n 0, 1) := by decide +kernel
theorem dX9_count_82 : decode cX9_count 82 = .ok (.invokevirtual 150, 3) := by decide +kernel
theorem dX9_count_85 : decode cX9_count 85 = .ok (.ireturn, 1) := by decide +kernel
theorem dX9_count_86 : decode cX9_count 86 = .ok (.aload_n 0, 1) := by decide +kernel
theorem dX9_count_87 : decode cX9_count 87 = .ok (.getfield 129, 3) := by decide +kernel
theorem dX9_count_90 : decode cX9_count 90 = .ok (.ireturn, 1) := by decide +kernel
theorem dX9_count_91 : decode cX9_count 91 = .ok (.aload_n 0, 1) := by decide +kernel
theorem dX9_count_92 : decode cX9_count 92 = .ok (.getfield 63, 3) := by decide +kernel
theorem dX9_count_95 : decode cX9_count 95 = .ok (.ireturn, 1) := by decide +kernel
theorem dX9_count_96 : decode cX9_count 96 = .ok (.aload_n 0, 1) := by decide +kernel
theorem dX9_count_97 : decode cX9_count 97 = .ok (.invokevirtual 171, 3) := by decide +kernel
theorem dX9_count_100 : decode cX9_count 100 = .ok (.aload_n 0, 1) := by decide +kernel
theorem dX9_count_101 : decode cX9_count 101 = .ok (.getfield 160, 3) := by decide +kernel
theorem dX9_count_104 : decode cX9_count 104 = .ok (.ireturn, 1) := by decide +kernel
theorem dX9_count_105 : decode cX9_count 105 = .ok (.iconst (-1), 1) := by decide +kernel
theorem dX9_count_106 : decode cX9_count 106 = .ok (.ireturn, 1) := by decide +kernel
theorem dJ9_max_7cf53_0 : decode cJ9_max_7cf53 0 = .ok (.iload_n 0, 1) := by decide +kernel
theorem dJ9_max_7cf53_1 : decode cJ9_max_7cf53 1 = .ok (.iload_n 1, 1) := by decide +kernel
theorem dJ9_max_7cf53_2 : decode cJ9_max_7cf53 2 = .ok (.if_icmp .lt 7, 3) := by decide +kernel
theorem dJ9_max_7cf53_5 : decode cJ9_max_7cf53 5 = .ok (.iload_n 0, 1) := by decide +kernel
theorem dJ9_max_7cf53_6 : decode cJ9_max_7cf53 6 = .ok (.goto 4, 3) := by decide +kernel
theorem dJ9_max_7cf53_9 : decode cJ9_max_7cf53 9 = .ok (.iload_n 1, 1) := by decide +kernel
theorem dJ9_max_7cf53_10 : decode cJ9_max_7cf53 10 = .ok (.ireturn, 1) := by decide +kernel
theorem dJ9_max_f86c9_0 : decode cJ9_max_f86c9 0 = .ok (.lload_n 0, 1) := by decide +kernel
theorem dJ9_max_f86c9_1 : decode cJ9_max_f86c9 1 = .ok (.lload_n 2, 1) := by decide +kernel
theorem dJ9_max_f86c9_2 : decode cJ9_max_f86c9 2 = .ok (.lcmp, 1) := by decide +kernel
theorem dJ9_max_f86c9_3 : decode cJ9_max_f86c9 3 = .ok (.ifCond .lt 7, 3) := by decide +kernel
theorem dJ9_max_f86c9_6 : decode cJ9_max_f86c9 6 = .ok (.lload_n 0, 1) := by decide +kernel
theorem dJ9_max_f86c9_7 : decode cJ9_max_f86c9 7 = .ok (.goto 4, 3) := by decide +kernel
theorem dJ9_max_f86c9_10 : decode cJ9_max_f86c9 10 = .ok (.lload_n 2, 1) := by decide +kernel
theorem dJ9_max_f86c9_11 : decode cJ9_max_f86c9 11 = .ok (.lreturn, 1) := by decide +kernel
theorem dJ9_min_7cf53_0 : decode cJ9_min_7cf53 0 = .ok (.iload_n 0, 1) := by decide +kernel
theorem dJ9_min_7cf53_1 : decode cJ9_min_7cf53 1 = .ok (.iload_n 1, 1) := by decide +kernel
theorem dJ9_min_7cf53_2 : decode cJ9_min_7cf53 2 = .ok (.if_icmp .gt 7, 3) := by decide +kernel
theorem dJ9_min_7cf53_5 : decode cJ9_min_7cf53 5 = .ok (.iload_n 0, 1) := by decide +kernel
theorem dJ9_min_7cf53_6 : decode cJ9_min_7cf53 6 = .ok (.goto 4, 3) := by decide +kernel
theorem dJ9_min_7cf53_9 : decode cJ9_min_7cf53 9 = .ok (.iload_n 1, 1) := by decide +kernel
theorem dJ9_min_7cf53_10 : decode cJ9_min_7cf53 10 = .ok (.ireturn, 1) := by decide +kernel
