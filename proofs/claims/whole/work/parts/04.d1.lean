set_option maxRecDepth 20000 in
theorem ggX4_init_X0_init : GoodIn wsX4_init wsX0_init := goodIn_r _ [17, 18, 2, 3, 8, 19, 20] (by decide +kernel) (by decide +kernel)
set_option maxRecDepth 20000 in
theorem gX4_init_X0_init : GoodIn wsX4_init (wsX0_init) := ggX4_init_X0_init
theorem dX4_init_0 : decode cX4_init 0 = .ok (.aload_n 0, 1) := by decide +kernel
theorem dX4_init_1 : decode cX4_init 1 = .ok (.invokespecial 3, 3) := by decide +kernel
theorem dX4_init_4 : decode cX4_init 4 = .ok (.aload_n 0, 1) := by decide +kernel
theorem dX4_init_5 : decode cX4_init 5 = .ok (.new 9, 3) := by decide +kernel
theorem dX4_init_8 : decode cX4_init 8 = .ok (.dup, 1) := by decide +kernel
theorem dX4_init_9 : decode cX4_init 9 = .ok (.invokespecial 11, 3) := by decide +kernel
theorem dX4_init_12 : decode cX4_init 12 = .ok (.putfield 12, 3) := by decide +kernel
theorem dX4_init_15 : decode cX4_init 15 = .ok (.aload_n 0, 1) := by decide +kernel
theorem dX4_init_16 : decode cX4_init 16 = .ok (.sipush 801, 3) := by decide +kernel
theorem dX4_init_19 : decode cX4_init 19 = .ok (.newarray .long, 2) := by decide +kernel
theorem dX4_init_21 : decode cX4_init 21 = .ok (.putfield 18, 3) := by decide +kernel
theorem dX4_init_24 : decode cX4_init 24 = .ok (.aload_n 0, 1) := by decide +kernel
theorem dX4_init_25 : decode cX4_init 25 = .ok (.iconst 0, 1) := by decide +kernel
theorem dX4_init_26 : decode cX4_init 26 = .ok (.putfield 22, 3) := by decide +kernel
theorem dX4_init_29 : decode cX4_init 29 = .ok (.aload_n 0, 1) := by decide +kernel
theorem dX4_init_30 : decode cX4_init 30 = .ok (.sipush 200, 3) := by decide +kernel
theorem dX4_init_33 : decode cX4_init 33 = .ok (.newarray .int, 2) := by decide +kernel
theorem dX4_init_35 : decode cX4_init 35 = .ok (.putfield 26, 3) := by decide +kernel
theorem dX4_init_38 : decode cX4_init 38 = .ok (.aload_n 0, 1) := by decide +kernel
theorem dX4_init_39 : decode cX4_init 39 = .ok (.iconst (-1), 1) := by decide +kernel
theorem dX4_init_40 : decode cX4_init 40 = .ok (.putfield 30, 3) := by decide +kernel
theorem dX4_init_43 : decode cX4_init 43 = .ok (.aload_n 0, 1) := by decide +kernel
theorem dX4_init_44 : decode cX4_init 44 = .ok (.aload_n 1, 1) := by decide +kernel
theorem dX4_init_45 : decode cX4_init 45 = .ok (.putfield 33, 3) := by decide +kernel
theorem dX4_init_48 : decode cX4_init 48 = .ok (.return_, 1) := by decide +kernel
set_option maxRecDepth 20000 in
theorem ggX4_refresh_X1_stepsDone : GoodIn wsX4_refresh wsX1_stepsDone := goodIn_r _ [9, 10, 98, 99, 100, 101] (by decide +kernel) (by decide +kernel)
set_option maxRecDepth 20000 in
theorem gX4_refresh_X1_stepsDone : GoodIn wsX4_refresh (wsV RX4 37 RX1 yX1_stepsDone wsX1_stepsDone) := goodIn_app (goodIn_of _ (by decide +kernel)) ggX4_refresh_X1_stepsDone
set_option maxRecDepth 20000 in
theorem ggX4_refresh_X1_cellKey : GoodIn wsX4_refresh wsX1_cellKey := goodIn_r _ [14, 15, 98, 99, 100, 101] (by decide +kernel) (by decide +kernel)
set_option maxRecDepth 20000 in
theorem gX4_refresh_X1_cellKey : GoodIn wsX4_refresh (wsV RX4 43 RX1 yX1_cellKey wsX1_cellKey) := goodIn_app (goodIn_of _ (by decide +kernel)) ggX4_refresh_X1_cellKey
set_option maxRecDepth 20000 in
theorem ggX4_refresh_X4_learn : GoodIn wsX4_refresh wsX4_learn := goodIn_r _ [20, 3, 21, 22, 23, 24, 19, 25, 92, 93, 94, 95, 96, 97] (by decide +kernel) (by decide +kernel)
set_option maxRecDepth 20000 in
theorem gX4_refresh_X4_learn : GoodIn wsX4_refresh (wsV RX4 47 RX4 yX4_learn wsX4_learn) := goodIn_app (goodIn_of _ (by decide +kernel)) ggX4_refresh_X4_learn
set_option maxRecDepth 20000 in
theorem ggX4_refresh_X4_askPages : GoodIn wsX4_refresh wsX4_askPages := goodIn_r _ [29, 30, 31, 32, 19, 33, 4, 3, 2, 21, 34, 35, 36, 37, 38, 39, 40, 8, 41, 42, 43, 44, 45, 46, 47, 48, 49, 50, 51, 52, 53, 54, 55, 56, 57, 58, 59, 60, 61, 62, 63, 64, 65, 66, 67, 68, 69, 70, 71, 72, 73, 74, 75, 76, 77, 78, 79, 80, 81, 82, 83, 84, 85, 86, 87, 88, 89, 90, 91, 16, 17, 18, 20, 22, 23, 24, 25, 92, 93, 94, 95, 96, 97, 98, 99, 100, 101, 102] (by decide +kernel) (by decide +kernel)
set_option maxRecDepth 20000 in
theorem gX4_refresh_X4_askPages : GoodIn wsX4_refresh (wsV RX4 51 RX4 yX4_askPages wsX4_askPages) := goodIn_app (goodIn_of _ (by decide +kernel)) ggX4_refresh_X4_askPages
theorem dX4_refresh_0 : decode cX4_refresh 0 = .ok (.aload_n 0, 1) := by decide +kernel
theorem dX4_refresh_1 : decode cX4_refresh 1 = .ok (.getfield 30, 3) := by decide +kernel
theorem dX4_refresh_4 : decode cX4_refresh 4 = .ok (.aload_n 0, 1) := by decide +kernel
theorem dX4_refresh_5 : decode cX4_refresh 5 = .ok (.getfield 33, 3) := by decide +kernel
theorem dX4_refresh_8 : decode cX4_refresh 8 = .ok (.invokevirtual 37, 3) := by decide +kernel
theorem dX4_refresh_11 : decode cX4_refresh 11 = .ok (.if_icmp .ne 4, 3) := by decide +kernel
theorem dX4_refresh_14 : decode cX4_refresh 14 = .ok (.return_, 1) := by decide +kernel
theorem dX4_refresh_15 : decode cX4_refresh 15 = .ok (.aload_n 0, 1) := by decide +kernel
theorem dX4_refresh_16 : decode cX4_refresh 16 = .ok (.aload_n 0, 1) := by decide +kernel
theorem dX4_refresh_17 : decode cX4_refresh 17 = .ok (.getfield 33, 3) := by decide +kernel
theorem dX4_refresh_20 : decode cX4_refresh 20 = .ok (.invokevirtual 37, 3) := by decide +kernel
theorem dX4_refresh_23 : decode cX4_refresh 23 = .ok (.putfield 30, 3) := by decide +kernel
theorem dX4_refresh_26 : decode cX4_refresh 26 = .ok (.aload_n 0, 1) := by decide +kernel
theorem dX4_refresh_27 : decode cX4_refresh 27 = .ok (.iconst 0, 1) := by decide +kernel
theorem dX4_refresh_28 : decode cX4_refresh 28 = .ok (.putfield 22, 3) := by decide +kernel
theorem dX4_refresh_31 : decode cX4_refresh 31 = .ok (.iconst 0, 1) := by decide +kernel
theorem dX4_refresh_32 : decode cX4_refresh 32 = .ok (.istore_n 1, 1) := by decide +kernel
theorem dX4_refresh_33 : decode cX4_refresh 33 = .ok (.iload_n 1, 1) := by decide +kernel
theorem dX4_refresh_34 : decode cX4_refresh 34 = .ok (.sipush 200, 3) := by decide +kernel
theorem dX4_refresh_37 : decode cX4_refresh 37 = .ok (.if_icmp .ge 16, 3) := by decide +kernel
theorem dX4_refresh_40 : decode cX4_refresh 40 = .ok (.aload_n 0, 1) := by decide +kernel
theorem dX4_refresh_41 : decode cX4_refresh 41 = .ok (.getfield 26, 3) := by decide +kernel
theorem dX4_refresh_44 : decode cX4_refresh 44 = .ok (.iload_n 1, 1) := by decide +kernel
theorem dX4_refresh_45 : decode cX4_refresh 45 = .ok (.iconst 0, 1) := by decide +kernel
theorem dX4_refresh_46 : decode cX4_refresh 46 = .ok (.iastore, 1) := by decide +kernel
theorem dX4_refresh_47 : decode cX4_refresh 47 = .ok (.iinc 1 1, 3) := by decide +kernel
theorem dX4_refresh_50 : decode cX4_refresh 50 = .ok (.goto (-17), 3) := by decide +kernel
theorem dX4_refresh_53 : decode cX4_refresh 53 = .ok (.aload_n 0, 1) := by decide +kernel
theorem dX4_refresh_54 : decode cX4_refresh 54 = .ok (.aload_n 0, 1) := by decide +kernel
theorem dX4_refresh_55 : decode cX4_refresh 55 = .ok (.getfield 33, 3) := by decide +kernel
theorem dX4_refresh_58 : decode cX4_refresh 58 = .ok (.invokevirtual 43, 3) := by decide +kernel
theorem dX4_refresh_61 : decode cX4_refresh 61 = .ok (.invokevirtual 47, 3) := by decide +kernel
theorem dX4_refresh_64 : decode cX4_refresh 64 = .ok (.iconst 1, 1) := by decide +kernel
theorem dX4_refresh_65 : decode cX4_refresh 65 = .ok (.istore_n 1, 1) := by decide +kernel
theorem dX4_refresh_66 : decode cX4_refresh 66 = .ok (.iconst 0, 1) := by decide +kernel
theorem dX4_refresh_67 : decode cX4_refresh 67 = .ok (.istore_n 2, 1) := by decide +kernel
theorem dX4_refresh_68 : decode cX4_refresh 68 = .ok (.iload_n 2, 1) := by decide +kernel
theorem dX4_refresh_69 : decode cX4_refresh 69 = .ok (.sipush 200, 3) := by decide +kernel
theorem dX4_refresh_72 : decode cX4_refresh 72 = .ok (.if_icmp .gt 18, 3) := by decide +kernel
theorem dX4_refresh_75 : decode cX4_refresh 75 = .ok (.iload_n 1, 1) := by decide +kernel
theorem dX4_refresh_76 : decode cX4_refresh 76 = .ok (.ifCond .eq 14, 3) := by decide +kernel
theorem dX4_refresh_79 : decode cX4_refresh 79 = .ok (.aload_n 0, 1) := by decide +kernel
theorem dX4_refresh_80 : decode cX4_refresh 80 = .ok (.invokevirtual 51, 3) := by decide +kernel
theorem dX4_refresh_83 : decode cX4_refresh 83 = .ok (.istore_n 1, 1) := by decide +kernel
theorem dX4_refresh_84 : decode cX4_refresh 84 = .ok (.iinc 2 1, 3) := by decide +kernel
theorem dX4_refresh_87 : decode cX4_refresh 87 = .ok (.goto (-19), 3) := by decide +kernel
theorem dX4_refresh_90 : decode cX4_refresh 90 = .ok (.return_, 1) := by decide +kernel
theorem dX4_length_0 : decode cX4_length 0 = .ok (.aload_n 0, 1) := by decide +kernel
theorem dX4_length_1 : decode cX4_length 1 = .ok (.getfield 22, 3) := by decide +kernel
theorem dX4_length_4 : decode cX4_length 4 = .ok (.ireturn, 1) := by decide +kernel
theorem dX4_keyAt_0 : decode cX4_keyAt 0 = .ok (.iload_n 1, 1) := by decide +kernel
theorem dX4_keyAt_1 : decode cX4_keyAt 1 = .ok (.ifCond .lt 11, 3) := by decide +kernel
theorem dX4_keyAt_4 : decode cX4_keyAt 4 = .ok (.iload_n 1, 1) := by decide +kernel
theorem dX4_keyAt_5 : decode cX4_keyAt 5 = .ok (.aload_n 0, 1) := by decide +kernel
theorem dX4_keyAt_6 : decode cX4_keyAt 6 = .ok (.getfield 22, 3) := by decide +kernel
theorem dX4_keyAt_9 : decode cX4_keyAt 9 = .ok (.if_icmp .lt 7, 3) := by decide +kernel
theorem dX4_keyAt_12 : decode cX4_keyAt 12 = .ok (.lconst 0, 1) := by decide +kernel
theorem dX4_keyAt_13 : decode cX4_keyAt 13 = .ok (.goto 9, 3) := by decide +kernel
theorem dX4_keyAt_16 : decode cX4_keyAt 16 = .ok (.aload_n 0, 1) := by decide +kernel
theorem dX4_keyAt_17 : decode cX4_keyAt 17 = .ok (.getfield 18, 3) := by decide +kernel
theorem dX4_keyAt_20 : decode cX4_keyAt 20 = .ok (.iload_n 1, 1) := by decide +kernel
theorem dX4_keyAt_21 : decode cX4_keyAt 21 = .ok (.laload, 1) := by decide +kernel
theorem dX4_keyAt_22 : decode cX4_keyAt 22 = .ok (.lreturn, 1) := by decide +kernel
theorem dX4_has_0 : decode cX4_has 0 = .ok (.iconst 0, 1) := by decide +kernel
theorem dX4_has_1 : decode cX4_has 1 = .ok (.istore_n 3, 1) := by decide +kernel
theorem dX4_has_2 : decode cX4_has 2 = .ok (.iload_n 3, 1) := by decide +kernel
theorem dX4_has_3 : decode cX4_has 3 = .ok (.aload_n 0, 1) := by decide +kernel
theorem dX4_has_4 : decode cX4_has 4 = .ok (.getfield 22, 3) := by decide +kernel
theorem dX4_has_7 : decode cX4_has 7 = .ok (.if_icmp .ge 22, 3) := by decide +kernel
theorem dX4_has_10 : decode cX4_has 10 = .ok (.aload_n 0, 1) := by decide +kernel
theorem dX4_has_11 : decode cX4_has 11 = .ok (.getfield 18, 3) := by decide +kernel
theorem dX4_has_14 : decode cX4_has 14 = .ok (.iload_n 3, 1) := by decide +kernel
theorem dX4_has_15 : decode cX4_has 15 = .ok (.laload, 1) := by decide +kernel
theorem dX4_has_16 : decode cX4_has 16 = .ok (.lload_n 1, 1) := by decide +kernel
theorem dX4_has_17 : decode cX4_has 17 = .ok (.lcmp, 1) := by decide +kernel
theorem dX4_has_18 : decode cX4_has 18 = .ok (.ifCond .ne 5, 3) := by decide +kernel
theorem dX4_has_21 : decode cX4_has 21 = .ok (.iconst 1, 1) := by decide +kernel
theorem dX4_has_22 : decode cX4_has 22 = .ok (.ireturn, 1) := by decide +kernel
theorem dX4_has_23 : decode cX4_has 23 = .ok (.iinc 3 1, 3) := by decide +kernel
theorem dX4_has_26 : decode cX4_has 26 = .ok (.goto (-24), 3) := by decide +kernel
theorem dX4_has_29 : decode cX4_has 29 = .ok (.iconst 0, 1) := by decide +kernel
theorem dX4_has_30 : decode cX4_has 30 = .ok (.ireturn, 1) := by decide +kernel
set_option maxRecDepth 20000 in
theorem ggX4_askPages_X4_fittingKey : GoodIn wsX4_askPages wsX4_fittingKey := goodIn_r _ [5, 6, 7, 8, 9, 10, 11, 12, 13, 14, 15, 16, 17, 18, 19, 20, 21, 22, 23, 24, 25, 26, 27, 28, 29, 30, 31, 32, 33, 34, 35, 36, 37, 38, 39, 40, 41, 77, 78, 79, 80, 81, 82, 83, 84, 85, 86] (by decide +kernel) (by decide +kernel)
set_option maxRecDepth 20000 in
theorem gX4_askPages_X4_fittingKey : GoodIn wsX4_askPages (wsV RX4 55 RX4 yX4_fittingKey wsX4_fittingKey) := goodIn_app (goodIn_of _ (by decide +kernel)) ggX4_askPages_X4_fittingKey
set_option maxRecDepth 20000 in
theorem ggX4_askPages_X4_learnEntries : GoodIn wsX4_askPages wsX4_learnEntries := goodIn_r _ [45, 8, 46, 47, 48, 49, 17, 50, 20, 21, 22, 51, 52, 53, 54, 55, 56, 32, 33, 34, 35, 27, 36, 28, 29, 30, 31, 37, 38, 39, 40, 41, 57, 58, 59, 60, 61, 62, 63, 64, 65, 66, 67, 68, 69, 70, 71, 4, 72, 7, 9, 73, 74, 75, 76, 77, 78, 79, 80, 81, 82, 87, 83, 84, 85, 86] (by decide +kernel) (by decide +kernel)
set_option maxRecDepth 20000 in
theorem gX4_askPages_X4_learnEntries : GoodIn wsX4_askPages (wsV RX4 59 RX4 yX4_learnEntries wsX4_learnEntries) := goodIn_app (goodIn_of _ (by decide +kernel)) ggX4_askPages_X4_learnEntries
theorem dX4_askPages_0 : decode cX4_askPages 0 = .ok (.iconst 0, 1) := by decide +kernel
theorem dX4_askPages_1 : decode cX4_askPages 1 = .ok (.istore_n 1, 1) := by decide +kernel
theorem dX4_askPages_2 : decode cX4_askPages 2 = .ok (.iconst 0, 1) := by decide +kernel
theorem dX4_askPages_3 : decode cX4_askPages 3 = .ok (.istore_n 2, 1) := by decide +kernel
theorem dX4_askPages_4 : decode cX4_askPages 4 = .ok (.iload_n 2, 1) := by decide +kernel
theorem dX4_askPages_5 : decode cX4_askPages 5 = .ok (.sipush 200, 3) := by decide +kernel
theorem dX4_askPages_8 : decode cX4_askPages 8 = .ok (.if_icmp .ge 29, 3) := by decide +kernel
theorem dX4_askPages_11 : decode cX4_askPages 11 = .ok (.aload_n 0, 1) := by decide +kernel
theorem dX4_askPages_12 : decode cX4_askPages 12 = .ok (.iload_n 2, 1) := by decide +kernel
theorem dX4_askPages_13 : decode cX4_askPages 13 = .ok (.invokevirtual 55, 3) := by decide +kernel
theorem dX4_askPages_16 : decode cX4_askPages 16 = .ok (.lstore_n 3, 1) := by decide +kernel
theorem dX4_askPages_17 : decode cX4_askPages 17 = .ok (.lload_n 3, 1) := by decide +kernel
theorem dX4_askPages_18 : decode cX4_askPages 18 = .ok (.lconst 0, 1) := by decide +kernel
theorem dX4_askPages_19 : decode cX4_askPages 19 = .ok (.lcmp, 1) := by decide +kernel
theorem dX4_askPages_20 : decode cX4_askPages 20 = .ok (.ifCond .eq 11, 3) := by decide +kernel
theorem dX4_askPages_23 : decode cX4_askPages 23 = .ok (.aload_n 0, 1) := by decide +kernel
theorem dX4_askPages_24 : decode cX4_askPages 24 = .ok (.lload_n 3, 1) := by decide +kernel
theorem dX4_askPages_25 : decode cX4_askPages 25 = .ok (.iload_n 2, 1) := by decide +kernel
theorem dX4_askPages_26 : decode cX4_askPages 26 = .ok (.invokevirtual 59, 3) := by decide +kernel
theorem dX4_askPages_29 : decode cX4_askPages 29 = .ok (.iconst 1, 1) := by decide +kernel
theorem dX4_askPages_30 : decode cX4_askPages 30 = .ok (.istore_n 1, 1) := by decide +kernel
theorem dX4_askPages_31 : decode cX4_askPages 31 = .ok (.iinc 2 1, 3) := by decide +kernel
theorem dX4_askPages_34 : decode cX4_askPages 34 = .ok (.goto (-30), 3) := by decide +kernel
theorem dX4_askPages_37 : decode cX4_askPages 37 = .ok (.iload_n 1, 1) := by decide +kernel
theorem dX4_askPages_38 : decode cX4_askPages 38 = .ok (.ireturn, 1) := by decide +kernel
set_option maxRecDepth 20000 in
theorem ggX4_fittingKey_X1_fits : GoodIn wsX4_fittingKey wsX1_fits := goodIn_r _ [13, 14, 15, 16, 17, 18, 19, 20, 12, 21, 22, 23, 24, 25, 26, 27, 28, 29, 30, 31, 32, 33, 34, 35, 36, 43, 44, 45, 46] (by decide +kernel) (by decide +kernel)
set_option maxRecDepth 20000 in
theorem gX4_fittingKey_X1_fits : GoodIn wsX4_fittingKey (wsV RX4 63 RX1 yX1_fits wsX1_fits) := goodIn_app (goodIn_of _ (by decide +kernel)) ggX4_fittingKey_X1_fits
theorem dX4_fittingKey_0 : decode cX4_fittingKey 0 = .ok (.aload_n 0, 1) := by decide +kernel
theorem dX4_fittingKey_1 : decode cX4_fittingKey 1 = .ok (.getfield 26, 3) := by decide +kernel
theorem dX4_fittingKey_4 : decode cX4_fittingKey 4 = .ok (.iload_n 1, 1) := by decide +kernel
theorem dX4_fittingKey_5 : decode cX4_fittingKey 5 = .ok (.iaload, 1) := by decide +kernel
theorem dX4_fittingKey_6 : decode cX4_fittingKey 6 = .ok (.istore_n 2, 1) := by decide +kernel
theorem dX4_fittingKey_7 : decode cX4_fittingKey 7 = .ok (.iload_n 2, 1) := by decide +kernel
theorem dX4_fittingKey_8 : decode cX4_fittingKey 8 = .ok (.aload_n 0, 1) := by decide +kernel
theorem dX4_fittingKey_9 : decode cX4_fittingKey 9 = .ok (.getfield 22, 3) := by decide +kernel
theorem dX4_fittingKey_12 : decode cX4_fittingKey 12 = .ok (.if_icmp .ge 43, 3) := by decide +kernel
theorem dX4_fittingKey_15 : decode cX4_fittingKey 15 = .ok (.aload_n 0, 1) := by decide +kernel
theorem dX4_fittingKey_16 : decode cX4_fittingKey 16 = .ok (.getfield 33, 3) := by decide +kernel
theorem dX4_fittingKey_19 : decode cX4_fittingKey 19 = .ok (.aload_n 0, 1) := by decide +kernel
theorem dX4_fittingKey_20 : decode cX4_fittingKey 20 = .ok (.getfield 18, 3) := by decide +kernel
theorem dX4_fittingKey_23 : decode cX4_fittingKey 23 = .ok (.iload_n 2, 1) := by decide +kernel
theorem dX4_fittingKey_24 : decode cX4_fittingKey 24 = .ok (.laload, 1) := by decide +kernel
theorem dX4_fittingKey_25 : decode cX4_fittingKey 25 = .ok (.iload_n 1, 1) := by decide +kernel
theorem dX4_fittingKey_26 : decode cX4_fittingKey 26 = .ok (.iconst 1, 1) := by decide +kernel
theorem dX4_fittingKey_27 : decode cX4_fittingKey 27 = .ok (.invokevirtual 63, 3) := by decide +kernel
theorem dX4_fittingKey_30 : decode cX4_fittingKey 30 = .ok (.ifCond .eq 19, 3) := by decide +kernel
theorem dX4_fittingKey_33 : decode cX4_fittingKey 33 = .ok (.aload_n 0, 1) := by decide +kernel
theorem dX4_fittingKey_34 : decode cX4_fittingKey 34 = .ok (.getfield 26, 3) := by decide +kernel
theorem dX4_fittingKey_37 : decode cX4_fittingKey 37 = .ok (.iload_n 1, 1) := by decide +kernel
theorem dX4_fittingKey_38 : decode cX4_fittingKey 38 = .ok (.sipush 801, 3) := by decide +kernel
theorem dX4_fittingKey_41 : decode cX4_fittingKey 41 = .ok (.iastore, 1) := by decide +kernel
theorem dX4_fittingKey_42 : decode cX4_fittingKey 42 = .ok (.aload_n 0, 1) := by decide +kernel
theorem dX4_fittingKey_43 : decode cX4_fittingKey 43 = .ok (.getfield 18, 3) := by decide +kernel
theorem dX4_fittingKey_46 : decode cX4_fittingKey 46 = .ok (.iload_n 2, 1) := by decide +kernel
theorem dX4_fittingKey_47 : decode cX4_fittingKey 47 = .ok (.laload, 1) := by decide +kernel
theorem dX4_fittingKey_48 : decode cX4_fittingKey 48 = .ok (.lreturn, 1) := by decide +kernel
theorem dX4_fittingKey_49 : decode cX4_fittingKey 49 = .ok (.iinc 2 1, 3) := by decide +kernel
theorem dX4_fittingKey_52 : decode cX4_fittingKey 52 = .ok (.goto (-45), 3) := by decide +kernel
theorem dX4_fittingKey_55 : decode cX4_fittingKey 55 = .ok (.aload_n 0, 1) := by decide +kernel
theorem dX4_fittingKey_56 : decode cX4_fittingKey 56 = .ok (.getfield 26, 3) := by decide +kernel
theorem dX4_fittingKey_59 : decode cX4_fittingKey 59 = .ok (.iload_n 1, 1) := by decide +kernel
theorem dX4_fittingKey_60 : decode cX4_fittingKey 60 = .ok (.aload_n 0, 1) := by decide +kernel
theorem dX4_fittingKey_61 : decode cX4_fittingKey 61 = .ok (.getfield 26, 3) := by decide +kernel
theorem dX4_fittingKey_64 : decode cX4_fittingKey 64 = .ok (.iload_n 1, 1) := by decide +kernel
theorem dX4_fittingKey_65 : decode cX4_fittingKey 65 = .ok (.iaload, 1) := by decide +kernel
theorem dX4_fittingKey_66 : decode cX4_fittingKey 66 = .ok (.aload_n 0, 1) := by decide +kernel
theorem dX4_fittingKey_67 : decode cX4_fittingKey 67 = .ok (.getfield 22, 3) := by decide +kernel
theorem dX4_fittingKey_70 : decode cX4_fittingKey 70 = .ok (.invokestatic 67, 3) := by decide +kernel
theorem dX4_fittingKey_73 : decode cX4_fittingKey 73 = .ok (.iastore, 1) := by decide +kernel
theorem dX4_fittingKey_74 : decode cX4_fittingKey 74 = .ok (.lconst 0, 1) := by decide +kernel
theorem dX4_fittingKey_75 : decode cX4_fittingKey 75 = .ok (.lreturn, 1) := by decide +kernel
set_option maxRecDepth 20000 in
theorem ggX4_learnEntries_X1_readBody : GoodIn wsX4_learnEntries wsX1_readBody := goodIn_r _ [7, 8, 9, 10, 11, 12, 13, 14, 15, 16, 17, 18, 19, 6, 20, 21, 22, 23, 24, 25, 26, 27, 28, 29, 30, 31, 32, 33, 34, 35, 61, 62, 63, 64, 65] (by decide +kernel) (by decide +kernel)
set_option maxRecDepth 20000 in
theorem gX4_learnEntries_X1_readBody : GoodIn wsX4_learnEntries (wsV RX4 73 RX1 yX1_readBody wsX1_readBody) := goodIn_app (goodIn_of _ (by decide +kernel)) ggX4_learnEntries_X1_readBody
set_option maxRecDepth 20000 in
theorem ggX4_learnEntries_X0_entryKey : GoodIn wsX4_learnEntries wsX0_entryKey := goodIn_r _ [39, 40, 41, 42, 14, 43, 16, 61] (by decide +kernel) (by decide +kernel)
set_option maxRecDepth 20000 in
theorem gX4_learnEntries_X0_entryKey : GoodIn wsX4_learnEntries (wsV RX4 77 RX0 yX0_entryKey wsX0_entryKey) := goodIn_app (goodIn_of _ (by decide +kernel)) ggX4_learnEntries_X0_entryKey
set_option maxRecDepth 20000 in
theorem ggX4_learnEntries_X4_learn : GoodIn wsX4_learnEntries wsX4_learn := goodIn_r _ [48, 49, 50, 51, 52, 53, 47, 54, 55, 56, 57, 58, 59, 60] (by decide +kernel) (by decide +kernel)
set_option maxRecDepth 20000 in
theorem gX4_learnEntries_X4_learn : GoodIn wsX4_learnEntries (wsV RX4 47 RX4 yX4_learn wsX4_learn) := goodIn_app (goodIn_of _ (by decide +kernel)) ggX4_learnEntries_X4_learn
theorem dX4_learnEntries_0 : decode cX4_learnEntries 0 = .ok (.aload_n 0, 1) := by decide +kernel
theorem dX4_learnEntries_1 : decode cX4_learnEntries 1 = .ok (.getfield 33, 3) := by decide +kernel
theorem dX4_learnEntries_4 : decode cX4_learnEntries 4 = .ok (.lload_n 1, 1) := by decide +kernel
theorem dX4_learnEntries_5 : decode cX4_learnEntries 5 = .ok (.iload_n 3, 1) := by decide +kernel
theorem dX4_learnEntries_6 : decode cX4_learnEntries 6 = .ok (.aload_n 0, 1) := by decide +kernel
theorem dX4_learnEntries_7 : decode cX4_learnEntries 7 = .ok (.getfield 12, 3) := by decide +kernel
theorem dX4_learnEntries_10 : decode cX4_learnEntries 10 = .ok (.invokevirtual 73, 3) := by decide +kernel
theorem dX4_learnEntries_13 : decode cX4_learnEntries 13 = .ok (.iconst 0, 1) := by decide +kernel
theorem dX4_learnEntries_14 : decode cX4_learnEntries 14 = .ok (.istore 4, 2) := by decide +kernel
theorem dX4_learnEntries_16 : decode cX4_learnEntries 16 = .ok (.iload 4, 2) := by decide +kernel
theorem dX4_learnEntries_18 : decode cX4_learnEntries 18 = .ok (.iconst 4, 1) := by decide +kernel
theorem dX4_learnEntries_19 : decode cX4_learnEntries 19 = .ok (.if_icmp .ge 22, 3) := by decide +kernel
theorem dX4_learnEntries_22 : decode cX4_learnEntries 22 = .ok (.aload_n 0, 1) := by decide +kernel
theorem dX4_learnEntries_23 : decode cX4_learnEntries 23 = .ok (.aload_n 0, 1) := by decide +kernel
theorem dX4_learnEntries_24 : decode cX4_learnEntries 24 = .ok (.getfield 12, 3) := by decide +kernel
theorem dX4_learnEntries_27 : decode cX4_learnEntries 27 = .ok (.iload 4, 2) := by decide +kernel
theorem dX4_learnEntries_29 : decode cX4_learnEntries 29 = .ok (.invokevirtual 77, 3) := by decide +kernel
theorem dX4_learnEntries_32 : decode cX4_learnEntries 32 = .ok (.invokevirtual 47, 3) := by decide +kernel
theorem dX4_learnEntries_35 : decode cX4_learnEntries 35 = .ok (.iinc 4 1, 3) := by decide +kernel
theorem dX4_learnEntries_38 : decode cX4_learnEntries 38 = .ok (.goto (-22), 3) := by decide +kernel
theorem dX4_learnEntries_41 : decode cX4_learnEntries 41 = .ok (.return_, 1) := by decide +kernel
set_option maxRecDepth 20000 in
theorem ggX4_learn_X4_has : GoodIn wsX4_learn wsX4_has := goodIn_r _ [7, 1, 2, 8, 9, 10, 11, 12, 13] (by decide +kernel) (by decide +kernel)
set_option maxRecDepth 20000 in
theorem gX4_learn_X4_has : GoodIn wsX4_learn (wsV RX4 80 RX4 yX4_has wsX4_has) := goodIn_app (goodIn_of _ (by decide +kernel)) ggX4_learn_X4_has
theorem dX4_learn_0 : decode cX4_learn 0 = .ok (.lload_n 1, 1) := by decide +kernel
theorem dX4_learn_1 : decode cX4_learn 1 = .ok (.lconst 0, 1) := by decide +kernel
theorem dX4_learn_2 : decode cX4_learn 2 = .ok (.lcmp, 1) := by decide +kernel
theorem dX4_learn_3 : decode cX4_learn 3 = .ok (.ifCond .eq 41, 3) := by decide +kernel
theorem dX4_learn_6 : decode cX4_learn 6 = .ok (.aload_n 0, 1) := by decide +kernel
theorem dX4_learn_7 : decode cX4_learn 7 = .ok (.getfield 22, 3) := by decide +kernel
theorem dX4_learn_10 : decode cX4_learn 10 = .ok (.sipush 801, 3) := by decide +kernel
theorem dX4_learn_13 : decode cX4_learn 13 = .ok (.if_icmp .ge 31, 3) := by decide +kernel
theorem dX4_learn_16 : decode cX4_learn 16 = .ok (.aload_n 0, 1) := by decide +kernel
theorem dX4_learn_17 : decode cX4_learn 17 = .ok (.lload_n 1, 1) := by decide +kernel
theorem dX4_learn_18 : decode cX4_learn 18 = .ok (.invokevirtual 80, 3) := by decide +kernel
theorem dX4_learn_21 : decode cX4_learn 21 = .ok (.ifCond .ne 23, 3) := by decide +kernel
theorem dX4_learn_24 : decode cX4_learn 24 = .ok (.aload_n 0, 1) := by decide +kernel
theorem dX4_learn_25 : decode cX4_learn 25 = .ok (.getfield 18, 3) := by decide +kernel
theorem dX4_learn_28 : decode cX4_learn 28 = .ok (.aload_n 0, 1) := by decide +kernel
theorem dX4_learn_29 : decode cX4_learn 29 = .ok (.getfield 22, 3) := by decide +kernel
theorem dX4_learn_32 : decode cX4_learn 32 = .ok (.lload_n 1, 1) := by decide +kernel
theorem dX4_learn_33 : decode cX4_learn 33 = .ok (.lastore, 1) := by decide +kernel
theorem dX4_learn_34 : decode cX4_learn 34 = .ok (.aload_n 0, 1) := by decide +kernel
theorem dX4_learn_35 : decode cX4_learn 35 = .ok (.dup, 1) := by decide +kernel
theorem dX4_learn_36 : decode cX4_learn 36 = .ok (.getfield 22, 3) := by decide +kernel
theorem dX4_learn_39 : decode cX4_learn 39 = .ok (.iconst 1, 1) := by decide +kernel
theorem dX4_learn_40 : decode cX4_learn 40 = .ok (.iadd, 1) := by decide +kernel
theorem dX4_learn_41 : decode cX4_learn 41 = .ok (.putfield 22, 3) := by decide +kernel
theorem dX4_learn_44 : decode cX4_learn 44 = .ok (.return_, 1) := by decide +kernel
set_option maxRecDepth 20000 in
theorem ggX6_init_X0_init : GoodIn wsX6_init wsX0_init := goodIn_r _ [20, 21, 2, 3, 8, 22, 23] (by decide +kernel) (by decide +kernel)
set_option maxRecDepth 20000 in
theorem gX6_init_X0_init : GoodIn wsX6_init (wsX0_init) := ggX6_init_X0_init
theorem dX6_init_0 : decode cX6_init 0 = .ok (.aload_n 0, 1) := by decide +kernel
theorem dX6_init_1 : decode cX6_init 1 = .ok (.invokespecial 5, 3) := by decide +kernel
theorem dX6_init_4 : decode cX6_init 4 = .ok (.aload_n 0, 1) := by decide +kernel
theorem dX6_init_5 : decode cX6_init 5 = .ok (.new 11, 3) := by decide +kernel
theorem dX6_init_8 : decode cX6_init 8 = .ok (.dup, 1) := by decide +kernel
theorem dX6_init_9 : decode cX6_init 9 = .ok (.invokespecial 13, 3) := by decide +kernel
theorem dX6_init_12 : decode cX6_init 12 = .ok (.putfield 14, 3) := by decide +kernel
theorem dX6_init_15 : decode cX6_init 15 = .ok (.aload_n 0, 1) := by decide +kernel
theorem dX6_init_16 : decode cX6_init 16 = .ok (.bipush 85, 2) := by decide +kernel
theorem dX6_init_18 : decode cX6_init 18 = .ok (.newarray .long, 2) := by decide +kernel
theorem dX6_init_20 : decode cX6_init 20 = .ok (.putfield 18, 3) := by decide +kernel
theorem dX6_init_23 : decode cX6_init 23 = .ok (.aload_n 0, 1) := by decide +kernel
theorem dX6_init_24 : decode cX6_init 24 = .ok (.bipush 85, 2) := by decide +kernel
theorem dX6_init_26 : decode cX6_init 26 = .ok (.newarray .int, 2) := by decide +kernel
theorem dX6_init_28 : decode cX6_init 28 = .ok (.putfield 22, 3) := by decide +kernel
theorem dX6_init_31 : decode cX6_init 31 = .ok (.aload_n 0, 1) := by decide +kernel
theorem dX6_init_32 : decode cX6_init 32 = .ok (.sipush 200, 3) := by decide +kernel
theorem dX6_init_35 : decode cX6_init 35 = .ok (.newarray .boolean, 2) := by decide +kernel
theorem dX6_init_37 : decode cX6_init 37 = .ok (.putfield 26, 3) := by decide +kernel
theorem dX6_init_40 : decode cX6_init 40 = .ok (.aload_n 0, 1) := by decide +kernel
theorem dX6_init_41 : decode cX6_init 41 = .ok (.iconst 0, 1) := by decide +kernel
theorem dX6_init_42 : decode cX6_init 42 = .ok (.putfield 30, 3) := by decide +kernel
theorem dX6_init_45 : decode cX6_init 45 = .ok (.aload_n 0, 1) := by decide +kernel
theorem dX6_init_46 : decode cX6_init 46 = .ok (.iconst 0, 1) := by decide +kernel
theorem dX6_init_47 : decode cX6_init 47 = .ok (.putfield 34, 3) := by decide +kernel
theorem dX6_init_50 : decode cX6_init 50 = .ok (.aload_n 0, 1) := by decide +kernel
theorem dX6_init_51 : decode cX6_init 51 = .ok (.iconst (-1), 1) := by decide +kernel
theorem dX6_init_52 : decode cX6_init 52 = .ok (.putfield 37, 3) := by decide +kernel
theorem dX6_init_55 : decode cX6_init 55 = .ok (.aload_n 0, 1) := by decide +kernel
theorem dX6_init_56 : decode cX6_init 56 = .ok (.aload_n 1, 1) := by decide +kernel
theorem dX6_init_57 : decode cX6_init 57 = .ok (.putfield 40, 3) := by decide +kernel
theorem dX6_init_60 : decode cX6_init 60 = .ok (.return_, 1) := by decide +kernel
set_option maxRecDepth 20000 in
theorem ggX6_refresh_X1_stepsDone : GoodIn wsX6_refresh wsX1_stepsDone := goodIn_r _ [10, 11, 111, 112, 113, 114] (by decide +kernel) (by decide +kernel)
set_option maxRecDepth 20000 in
theorem gX6_refresh_X1_stepsDone : GoodIn wsX6_refresh (wsV RX6 44 RX1 yX1_stepsDone wsX1_stepsDone) := goodIn_app (goodIn_of _ (by decide +kernel)) ggX6_refresh_X1_stepsDone
set_option maxRecDepth 20000 in
theorem ggX6_refresh_X6_forget : GoodIn wsX6_refresh wsX6_forget := goodIn_r _ [16, 3, 4, 17, 18, 5, 103, 104, 105, 106, 107, 108, 109, 110] (by decide +kernel) (by decide +kernel)
set_option maxRecDepth 20000 in
theorem gX6_refresh_X6_forget : GoodIn wsX6_refresh (wsV RX6 50 RX6 yX6_forget wsX6_forget) := goodIn_app (goodIn_of _ (by decide +kernel)) ggX6_refresh_X6_forget
set_option maxRecDepth 20000 in
theorem ggX6_refresh_X1_cellKey : GoodIn wsX6_refresh wsX1_cellKey := goodIn_r _ [22, 23, 111, 112, 113, 114] (by decide +kernel) (by decide +kernel)
set_option maxRecDepth 20000 in
theorem gX6_refresh_X1_cellKey : GoodIn wsX6_refresh (wsV RX6 53 RX1 yX1_cellKey wsX1_cellKey) := goodIn_app (goodIn_of _ (by decide +kernel)) ggX6_refresh_X1_cellKey
set_option maxRecDepth 20000 in
theorem ggX6_refresh_X1_cellPage : GoodIn wsX6_refresh wsX1_cellPage := goodIn_r _ [27, 28, 111, 112, 113, 114] (by decide +kernel) (by decide +kernel)
set_option maxRecDepth 20000 in
theorem gX6_refresh_X1_cellPage : GoodIn wsX6_refresh (wsV RX6 57 RX1 yX1_cellPage wsX1_cellPage) := goodIn_app (goodIn_of _ (by decide +kernel)) ggX6_refresh_X1_cellPage
set_option maxRecDepth 20000 in
theorem ggX6_refresh_X6_readNode : GoodIn wsX6_refresh wsX6_readNode := goodIn_r _ [32, 2, 3, 4, 33, 34, 35, 36, 9, 37, 38, 39, 40, 41, 42, 43, 44, 45, 46, 47, 48, 49, 50, 51, 52, 53, 54, 55, 56, 57, 58, 59, 60, 61, 62, 63, 15, 64, 17, 18, 65, 66, 67, 68, 69, 70, 71, 72, 73, 74, 75, 76, 77, 78, 79, 80, 81, 82, 83, 84, 85, 86, 87, 88, 89, 90, 103, 104, 105, 106, 107, 108, 109, 110, 111, 112, 113, 114, 115] (by decide +kernel) (by decide +kernel)
set_option maxRecDepth 20000 in
theorem gX6_refresh_X6_readNode : GoodIn wsX6_refresh (wsV RX6 60 RX6 yX6_readNode wsX6_readNode) := goodIn_app (goodIn_of _ (by decide +kernel)) ggX6_refresh_X6_readNode
set_option maxRecDepth 20000 in
theorem ggX6_refresh_X6_markData : GoodIn wsX6_refresh wsX6_markData := goodIn_r _ [94, 4, 33, 95, 96, 97, 15, 98, 2, 3, 34, 35, 36, 9, 37, 38, 39, 40, 41, 42, 43, 44, 45, 46, 47, 48, 49, 50, 51, 52, 53, 54, 55, 56, 57, 58, 59, 60, 65, 66, 67, 68, 69, 70, 71, 72, 73, 74, 75, 76, 77, 78, 61, 62, 63, 64, 17, 18, 99, 100, 101, 102, 83, 84, 85, 86, 103, 104, 105, 106, 107, 108, 109, 110, 111, 112, 113, 114, 115] (by decide +kernel) (by decide +kernel)
set_option maxRecDepth 20000 in
theorem gX6_refresh_X6_markData : GoodIn wsX6_refresh (wsV RX6 64 RX6 yX6_markData wsX6_markData) := goodIn_app (goodIn_of _ (by decide +kernel)) ggX6_refresh_X6_markData
theorem dX6_refresh_0 : decode cX6_refresh 0 = .ok (.aload_n 0, 1) := by decide +kernel
theorem dX6_refresh_1 : decode cX6_refresh 1 = .ok (.getfield 37, 3) := by decide +kernel
theorem dX6_refresh_4 : decode cX6_refresh 4 = .ok (.aload_n 0, 1) := by decide +kernel
theorem dX6_refresh_5 : decode cX6_refresh 5 = .ok (.getfield 40, 3) := by decide +kernel
theorem dX6_refresh_8 : decode cX6_refresh 8 = .ok (.invokevirtual 44, 3) := by decide +kernel
theorem dX6_refresh_11 : decode cX6_refresh 11 = .ok (.if_icmp .ne 4, 3) := by decide +kernel
theorem dX6_refresh_14 : decode cX6_refresh 14 = .ok (.return_, 1) := by decide +kernel
theorem dX6_refresh_15 : decode cX6_refresh 15 = .ok (.aload_n 0, 1) := by decide +kernel
theorem dX6_refresh_16 : decode cX6_refresh 16 = .ok (.aload_n 0, 1) := by decide +kernel
theorem dX6_refresh_17 : decode cX6_refresh 17 = .ok (.getfield 40, 3) := by decide +kernel
theorem dX6_refresh_20 : decode cX6_refresh 20 = .ok (.invokevirtual 44, 3) := by decide +kernel
theorem dX6_refresh_23 : decode cX6_refresh 23 = .ok (.putfield 37, 3) := by decide +kernel
theorem dX6_refresh_26 : decode cX6_refresh 26 = .ok (.aload_n 0, 1) := by decide +kernel
theorem dX6_refresh_27 : decode cX6_refresh 27 = .ok (.invokevirtual 50, 3) := by decide +kernel
theorem dX6_refresh_30 : decode cX6_refresh 30 = .ok (.aload_n 0, 1) := by decide +kernel
theorem dX6_refresh_31 : decode cX6_refresh 31 = .ok (.getfield 18, 3) := by decide +kernel
theorem dX6_refresh_34 : decode cX6_refresh 34 = .ok (.iconst 0, 1) := by decide +kernel
theorem dX6_refresh_35 : decode cX6_refresh 35 = .ok (.aload_n 0, 1) := by decide +kernel
theorem dX6_refresh_36 : decode cX6_refresh 36 = .ok (.getfield 40, 3) := by decide +kernel
theorem dX6_refresh_39 : decode cX6_refresh 39 = .ok (.invokevirtual 53, 3) := by decide +kernel
theorem dX6_refresh_42 : decode cX6_refresh 42 = .ok (.lastore, 1) := by decide +kernel
theorem dX6_refresh_43 : decode cX6_refresh 43 = .ok (.aload_n 0, 1) := by decide +kernel
theorem dX6_refresh_44 : decode cX6_refresh 44 = .ok (.getfield 22, 3) := by decide +kernel
theorem dX6_refresh_47 : decode cX6_refresh 47 = .ok (.iconst 0, 1) := by decide +kernel
theorem dX6_refresh_48 : decode cX6_refresh 48 = .ok (.aload_n 0, 1) := by decide +kernel
theorem dX6_refresh_49 : decode cX6_refresh 49 = .ok (.getfield 40, 3) := by decide +kernel
theorem dX6_refresh_52 : decode cX6_refresh 52 = .ok (.invokevirtual 57, 3) := by decide +kernel
theorem dX6_refresh_55 : decode cX6_refresh 55 = .ok (.iastore, 1) := by decide +kernel
theorem dX6_refresh_56 : decode cX6_refresh 56 = .ok (.iconst 0, 1) := by decide +kernel
theorem dX6_refresh_57 : decode cX6_refresh 57 = .ok (.istore_n 1, 1) := by decide +kernel
theorem dX6_refresh_58 : decode cX6_refresh 58 = .ok (.iload_n 1, 1) := by decide +kernel
theorem dX6_refresh_59 : decode cX6_refresh 59 = .ok (.bipush 21, 2) := by decide +kernel
theorem dX6_refresh_61 : decode cX6_refresh 61 = .ok (.if_icmp .ge 25, 3) := by decide +kernel
theorem dX6_refresh_64 : decode cX6_refresh 64 = .ok (.aload_n 0, 1) := by decide +kernel
theorem dX6_refresh_65 : decode cX6_refresh 65 = .ok (.getfield 18, 3) := by decide +kernel
theorem dX6_refresh_68 : decode cX6_refresh 68 = .ok (.iload_n 1, 1) := by decide +kernel
theorem dX6_refresh_69 : decode cX6_refresh 69 = .ok (.laload, 1) := by decide +kernel
theorem dX6_refresh_70 : decode cX6_refresh 70 = .ok (.lconst 0, 1) := by decide +kernel
theorem dX6_refresh_71 : decode cX6_refresh 71 = .ok (.lcmp, 1) := by decide +kernel
theorem dX6_refresh_72 : decode cX6_refresh 72 = .ok (.ifCond .eq 8, 3) := by decide +kernel
theorem dX6_refresh_75 : decode cX6_refresh 75 = .ok (.aload_n 0, 1) := by decide +kernel
theorem dX6_refresh_76 : decode cX6_refresh 76 = .ok (.iload_n 1, 1) := by decide +kernel
theorem dX6_refresh_77 : decode cX6_refresh 77 = .ok (.invokevirtual 60, 3) := by decide +kernel
theorem dX6_refresh_80 : decode cX6_refresh 80 = .ok (.iinc 1 1, 3) := by decide +kernel
theorem dX6_refresh_83 : decode cX6_refresh 83 = .ok (.goto (-25), 3) := by decide +kernel
theorem dX6_refresh_86 : decode cX6_refresh 86 = .ok (.bipush 21, 2) := by decide +kernel
theorem dX6_refresh_88 : decode cX6_refresh 88 = .ok (.istore_n 1, 1) := by decide +kernel
theorem dX6_refresh_89 : decode cX6_refresh 89 = .ok (.iload_n 1, 1) := by decide +kernel
theorem dX6_refresh_90 : decode cX6_refresh 90 = .ok (.bipush 85, 2) := by decide +kernel
theorem dX6_refresh_92 : decode cX6_refresh 92 = .ok (.if_icmp .ge 35, 3) := by decide +kernel
theorem dX6_refresh_95 : decode cX6_refresh 95 = .ok (.aload_n 0, 1) := by decide +kernel
theorem dX6_refresh_96 : decode cX6_refresh 96 = .ok (.getfield 18, 3) := by decide +kernel
theorem dX6_refresh_99 : decode cX6_refresh 99 = .ok (.iload_n 1, 1) := by decide +kernel
theorem dX6_refresh_100 : decode cX6_refresh 100 = .ok (.laload, 1) := by decide +kernel
theorem dX6_refresh_101 : decode cX6_refresh 101 = .ok (.lconst 0, 1) := by decide +kernel
theorem dX6_refresh_102 : decode cX6_refresh 102 = .ok (.lcmp, 1) := by decide +kernel
theorem dX6_refresh_103 : decode cX6_refresh 103 = .ok (.ifCond .eq 18, 3) := by decide +kernel
theorem dX6_refresh_106 : decode cX6_refresh 106 = .ok (.aload_n 0, 1) := by decide +kernel
theorem dX6_refresh_107 : decode cX6_refresh 107 = .ok (.dup, 1) := by decide +kernel
theorem dX6_refresh_108 : decode cX6_refresh 108 = .ok (.getfield 34, 3) := by decide +kernel
theorem dX6_refresh_111 : decode cX6_refresh 111 = .ok (.iconst 1, 1) := by decide +kernel
theorem dX6_refresh_112 : decode cX6_refresh 112 = .ok (.iadd, 1) := by decide +kernel
theorem dX6_refresh_113 : decode cX6_refresh 113 = .ok (.putfield 34, 3) := by decide +kernel
theorem dX6_refresh_116 : decode cX6_refresh 116 = .ok (.aload_n 0, 1) := by decide +kernel
theorem dX6_refresh_117 : decode cX6_refresh 117 = .ok (.iload_n 1, 1) := by decide +kernel
theorem dX6_refresh_118 : decode cX6_refresh 118 = .ok (.invokevirtual 64, 3) := by decide +kernel
theorem dX6_refresh_121 : decode cX6_refresh 121 = .ok (.iinc 1 1, 3) := by decide +kernel
theorem dX6_refresh_124 : decode cX6_refresh 124 = .ok (.goto (-35), 3) := by decide +kernel
theorem dX6_refresh_127 : decode cX6_refresh 127 = .ok (.return_, 1) := by decide +kernel
theorem dX6_liveCount_0 : decode cX6_liveCount 0 = .ok (.aload_n 0, 1) := by decide +kernel
theorem dX6_liveCount_1 : decode cX6_liveCount 1 = .ok (.getfield 30, 3) := by decide +kernel
theorem dX6_liveCount_4 : decode cX6_liveCount 4 = .ok (.ireturn, 1) := by decide +kernel
theorem dX6_freePages_0 : decode cX6_freePages 0 = .ok (.sipush 200, 3) := by decide +kernel
theorem dX6_freePages_3 : decode cX6_freePages 3 = .ok (.aload_n 0, 1) := by decide +kernel
theorem dX6_freePages_4 : decode cX6_freePages 4 = .ok (.getfield 30, 3) := by decide +kernel
theorem dX6_freePages_7 : decode cX6_freePages 7 = .ok (.isub, 1) := by decide +kernel
theorem dX6_freePages_8 : decode cX6_freePages 8 = .ok (.ireturn, 1) := by decide +kernel
theorem dX6_objectCount_0 : decode cX6_objectCount 0 = .ok (.aload_n 0, 1) := by decide +kernel
theorem dX6_objectCount_1 : decode cX6_objectCount 1 = .ok (.getfield 34, 3) := by decide +kernel
theorem dX6_objectCount_4 : decode cX6_objectCount 4 = .ok (.ireturn, 1) := by decide +kernel
set_option maxRecDepth 20000 in
theorem ggX6_isLive_X8_isPage : GoodIn wsX6_isLive wsX8_isPage := goodIn_r _ [4] (by decide +kernel) (by decide +kernel)
set_option maxRecDepth 20000 in
theorem gX6_isLive_X8_isPage_n67 : GoodIn wsX6_isLive (wsX8_isPage) := ggX6_isLive_X8_isPage
theorem dX6_isLive_0 : decode cX6_isLive 0 = .ok (.iload_n 1, 1) := by decide +kernel
theorem dX6_isLive_1 : decode cX6_isLive 1 = .ok (.invokestatic 67, 3) := by decide +kernel
theorem dX6_isLive_4 : decode cX6_isLive 4 = .ok (.ifCond .eq 16, 3) := by decide +kernel
theorem dX6_isLive_7 : decode cX6_isLive 7 = .ok (.aload_n 0, 1) := by decide +kernel
theorem dX6_isLive_8 : decode cX6_isLive 8 = .ok (.getfield 26, 3) := by decide +kernel
theorem dX6_isLive_11 : decode cX6_isLive 11 = .ok (.iload_n 1, 1) := by decide +kernel
theorem dX6_isLive_12 : decode cX6_isLive 12 = .ok (.baload, 1) := by decide +kernel
theorem dX6_isLive_13 : decode cX6_isLive 13 = .ok (.ifCond .eq 7, 3) := by decide +kernel
theorem dX6_isLive_16 : decode cX6_isLive 16 = .ok (.iconst 1, 1) := by decide +kernel
theorem dX6_isLive_17 : decode cX6_isLive 17 = .ok (.goto 4, 3) := by decide +kernel
theorem dX6_isLive_20 : decode cX6_isLive 20 = .ok (.iconst 0, 1) := by decide +kernel
theorem dX6_isLive_21 : decode cX6_isLive 21 = .ok (.ireturn, 1) := by decide +kernel
set_option maxRecDepth 20000 in
theorem ggX6_hasObject_X8_isObject : GoodIn wsX6_hasObject wsX8_isObject := goodIn_r _ [4] (by decide +kernel) (by decide +kernel)
set_option maxRecDepth 20000 in
theorem gX6_hasObject_X8_isObject_n71 : GoodIn wsX6_hasObject (wsX8_isObject) := ggX6_hasObject_X8_isObject
theorem dX6_hasObject_0 : decode cX6_hasObject 0 = .ok (.iload_n 1, 1) := by decide +kernel
theorem dX6_hasObject_1 : decode cX6_hasObject 1 = .ok (.invokestatic 71, 3) := by decide +kernel
theorem dX6_hasObject_4 : decode cX6_hasObject 4 = .ok (.ifCond .eq 21, 3) := by decide +kernel
theorem dX6_hasObject_7 : decode cX6_hasObject 7 = .ok (.aload_n 0, 1) := by decide +kernel
theorem dX6_hasObject_8 : decode cX6_hasObject 8 = .ok (.getfield 18, 3) := by decide +kernel
theorem dX6_hasObject_11 : decode cX6_hasObject 11 = .ok (.bipush 21, 2) := by decide +kernel
theorem dX6_hasObject_13 : decode cX6_hasObject 13 = .ok (.iload_n 1, 1) := by decide +kernel
theorem dX6_hasObject_14 : decode cX6_hasObject 14 = .ok (.iadd, 1) := by decide +kernel
theorem dX6_hasObject_15 : decode cX6_hasObject 15 = .ok (.laload, 1) := by decide +kernel
theorem dX6_hasObject_16 : decode cX6_hasObject 16 = .ok (.lconst 0, 1) := by decide +kernel
theorem dX6_hasObject_17 : decode cX6_hasObject 17 = .ok (.lcmp, 1) := by decide +kernel
theorem dX6_hasObject_18 : decode cX6_hasObject 18 = .ok (.ifCond .eq 7, 3) := by decide +kernel
theorem dX6_hasObject_21 : decode cX6_hasObject 21 = .ok (.iconst 1, 1) := by decide +kernel
theorem dX6_hasObject_22 : decode cX6_hasObject 22 = .ok (.goto 4, 3) := by decide +kernel
theorem dX6_hasObject_25 : decode cX6_hasObject 25 = .ok (.iconst 0, 1) := by decide +kernel
theorem dX6_hasObject_26 : decode cX6_hasObject 26 = .ok (.ireturn, 1) := by decide +kernel
theorem dX6_placeOf_0 : decode cX6_placeOf 0 = .ok (.bipush 21, 2) := by decide +kernel
theorem dX6_placeOf_2 : decode cX6_placeOf 2 = .ok (.iload_n 0, 1) := by decide +kernel
theorem dX6_placeOf_3 : decode cX6_placeOf 3 = .ok (.iadd, 1) := by decide +kernel
theorem dX6_placeOf_4 : decode cX6_placeOf 4 = .ok (.ireturn, 1) := by decide +kernel
theorem dX6_keyAt_0 : decode cX6_keyAt 0 = .ok (.iload_n 1, 1) := by decide +kernel
theorem dX6_keyAt_1 : decode cX6_keyAt 1 = .ok (.ifCond .lt 9, 3) := by decide +kernel
theorem dX6_keyAt_4 : decode cX6_keyAt 4 = .ok (.iload_n 1, 1) := by decide +kernel
theorem dX6_keyAt_5 : decode cX6_keyAt 5 = .ok (.bipush 85, 2) := by decide +kernel
theorem dX6_keyAt_7 : decode cX6_keyAt 7 = .ok (.if_icmp .lt 7, 3) := by decide +kernel
theorem dX6_keyAt_10 : decode cX6_keyAt 10 = .ok (.lconst 0, 1) := by decide +kernel
theorem dX6_keyAt_11 : decode cX6_keyAt 11 = .ok (.goto 9, 3) := by decide +kernel
theorem dX6_keyAt_14 : decode cX6_keyAt 14 = .ok (.aload_n 0, 1) := by decide +kernel
theorem dX6_keyAt_15 : decode cX6_keyAt 15 = .ok (.getfield 18, 3) := by decide +kernel
theorem dX6_keyAt_18 : decode cX6_keyAt 18 = .ok (.iload_n 1, 1) := by decide +kernel
theorem dX6_keyAt_19 : decode cX6_keyAt 19 = .ok (.laload, 1) := by decide +kernel
theorem dX6_keyAt_20 : decode cX6_keyAt 20 = .ok (.lreturn, 1) := by decide +kernel
theorem dX6_linkAt_0 : decode cX6_linkAt 0 = .ok (.iload_n 1, 1) := by decide +kernel
theorem dX6_linkAt_1 : decode cX6_linkAt 1 = .ok (.ifCond .lt 9, 3) := by decide +kernel
theorem dX6_linkAt_4 : decode cX6_linkAt 4 = .ok (.iload_n 1, 1) := by decide +kernel
theorem dX6_linkAt_5 : decode cX6_linkAt 5 = .ok (.bipush 85, 2) := by decide +kernel
theorem dX6_linkAt_7 : decode cX6_linkAt 7 = .ok (.if_icmp .lt 7, 3) := by decide +kernel
theorem dX6_linkAt_10 : decode cX6_linkAt 10 = .ok (.iconst 0, 1) := by decide +kernel
theorem dX6_linkAt_11 : decode cX6_linkAt 11 = .ok (.goto 9, 3) := by decide +kernel
theorem dX6_linkAt_14 : decode cX6_linkAt 14 = .ok (.aload_n 0, 1) := by decide +kernel
theorem dX6_linkAt_15 : decode cX6_linkAt 15 = .ok (.getfield 22, 3) := by decide +kernel
theorem dX6_linkAt_18 : decode cX6_linkAt 18 = .ok (.iload_n 1, 1) := by decide +kernel
theorem dX6_linkAt_19 : decode cX6_linkAt 19 = .ok (.iaload, 1) := by decide +kernel
theorem dX6_linkAt_20 : decode cX6_linkAt 20 = .ok (.ireturn, 1) := by decide +kernel
set_option maxRecDepth 20000 in
theorem ggX6_objectSize_X6_hasObject : GoodIn wsX6_objectSize wsX6_hasObject := goodIn_r _ [7, 8, 9, 10, 11, 70, 71, 72, 73, 74, 75, 76, 77] (by decide +kernel) (by decide +kernel)
set_option maxRecDepth 20000 in
theorem gX6_objectSize_X6_hasObject : GoodIn wsX6_objectSize (wsV RX6 74 RX6 yX6_hasObject wsX6_hasObject) := goodIn_app (goodIn_of _ (by decide +kernel)) ggX6_objectSize_X6_hasObject
set_option maxRecDepth 20000 in
theorem ggX6_objectSize_X6_openData : GoodIn wsX6_objectSize wsX6_openData := goodIn_r _ [15, 16, 8, 2, 17, 18, 19, 20, 21, 22, 23, 10, 24, 25, 26, 27, 28, 29, 30, 31, 32, 33, 34, 35, 36, 37, 38, 39, 40, 41, 42, 43, 44, 45, 46, 47, 48, 49, 50, 51, 52, 53, 54, 55, 56, 57, 70, 71, 72, 73, 74, 75, 76, 77, 78, 79, 80, 81, 82] (by decide +kernel) (by decide +kernel)
set_option maxRecDepth 20000 in
theorem gX6_objectSize_X6_openData : GoodIn wsX6_objectSize (wsV RX6 77 RX6 yX6_openData wsX6_openData) := goodIn_app (goodIn_of _ (by decide +kernel)) ggX6_objectSize_X6_openData
set_option maxRecDepth 20000 in
theorem ggX6_objectSize_X0_dataLength : GoodIn wsX6_objectSize wsX0_dataLength := goodIn_r _ [61, 62, 63, 64, 51, 65, 53, 82] (by decide +kernel) (by decide +kernel)
set_option maxRecDepth 20000 in
theorem gX6_objectSize_X0_dataLength : GoodIn wsX6_objectSize (wsV RX6 81 RX0 yX0_dataLength wsX0_dataLength) := goodIn_app (goodIn_of _ (by decide +kernel)) ggX6_objectSize_X0_dataLength
set_option maxRecDepth 20000 in
theorem ggX6_objectSize_X0_nextPage : GoodIn wsX6_objectSize wsX0_nextPage := goodIn_r _ [69, 62, 63, 64, 51, 65, 53, 82] (by decide +kernel) (by decide +kernel)
set_option maxRecDepth 20000 in
theorem gX6_objectSize_X0_nextPage : GoodIn wsX6_objectSize (wsV RX6 84 RX0 yX0_nextPage wsX0_nextPage) := goodIn_app (goodIn_of _ (by decide +kernel)) ggX6_objectSize_X0_nextPage
theorem dX6_objectSize_0 : decode cX6_objectSize 0 = .ok (.aload_n 0, 1) := by decide +kernel
theorem dX6_objectSize_1 : decode cX6_objectSize 1 = .ok (.iload_n 1, 1) := by decide +kernel
theorem dX6_objectSize_2 : decode cX6_objectSize 2 = .ok (.invokevirtual 74, 3) := by decide +kernel
theorem dX6_objectSize_5 : decode cX6_objectSize 5 = .ok (.ifCond .ne 5, 3) := by decide +kernel
theorem dX6_objectSize_8 : decode cX6_objectSize 8 = .ok (.iconst (-1), 1) := by decide +kernel
theorem dX6_objectSize_9 : decode cX6_objectSize 9 = .ok (.ireturn, 1) := by decide +kernel
theorem dX6_objectSize_10 : decode cX6_objectSize 10 = .ok (.iconst 0, 1) := by decide +kernel
theorem dX6_objectSize_11 : decode cX6_objectSize 11 = .ok (.istore_n 2, 1) := by decide +kernel
theorem dX6_objectSize_12 : decode cX6_objectSize 12 = .ok (.aload_n 0, 1) := by decide +kernel
theorem dX6_objectSize_13 : decode cX6_objectSize 13 = .ok (.getfield 22, 3) := by decide +kernel
theorem dX6_objectSize_16 : decode cX6_objectSize 16 = .ok (.bipush 21, 2) := by decide +kernel
theorem dX6_objectSize_18 : decode cX6_objectSize 18 = .ok (.iload_n 1, 1) := by decide +kernel
theorem dX6_objectSize_19 : decode cX6_objectSize 19 = .ok (.iadd, 1) := by decide +kernel
theorem dX6_objectSize_20 : decode cX6_objectSize 20 = .ok (.iaload, 1) := by decide +kernel
theorem dX6_objectSize_21 : decode cX6_objectSize 21 = .ok (.istore_n 3, 1) := by decide +kernel
theorem dX6_objectSize_22 : decode cX6_objectSize 22 = .ok (.iconst 0, 1) := by decide +kernel
theorem dX6_objectSize_23 : decode cX6_objectSize 23 = .ok (.istore 4, 2) := by decide +kernel
theorem dX6_objectSize_25 : decode cX6_objectSize 25 = .ok (.iload 4, 2) := by decide +kernel
theorem dX6_objectSize_27 : decode cX6_objectSize 27 = .ok (.sipush 200, 3) := by decide +kernel
theorem dX6_objectSize_30 : decode cX6_objectSize 30 = .ok (.if_icmp .ge 39, 3) := by decide +kernel
theorem dX6_objectSize_33 : decode cX6_objectSize 33 = .ok (.aload_n 0, 1) := by decide +kernel
theorem dX6_objectSize_34 : decode cX6_objectSize 34 = .ok (.bipush 21, 2) := by decide +kernel
theorem dX6_objectSize_36 : decode cX6_objectSize 36 = .ok (.iload_n 1, 1) := by decide +kernel
theorem dX6_objectSize_37 : decode cX6_objectSize 37 = .ok (.iadd, 1) := by decide +kernel
theorem dX6_objectSize_38 : decode cX6_objectSize 38 = .ok (.iload_n 3, 1) := by decide +kernel
theorem dX6_objectSize_39 : decode cX6_objectSize 39 = .ok (.invokevirtual 77, 3) := by decide +kernel
theorem dX6_objectSize_42 : decode cX6_objectSize 42 = .ok (.ifCond .eq 27, 3) := by decide +kernel
theorem dX6_objectSize_45 : decode cX6_objectSize 45 = .ok (.iload_n 2, 1) := by decide +kernel
theorem dX6_objectSize_46 : decode cX6_objectSize 46 = .ok (.aload_n 0, 1) := by decide +kernel
theorem dX6_objectSize_47 : decode cX6_objectSize 47 = .ok (.getfield 14, 3) := by decide +kernel
theorem dX6_objectSize_50 : decode cX6_objectSize 50 = .ok (.invokevirtual 81, 3) := by decide +kernel
theorem dX6_objectSize_53 : decode cX6_objectSize 53 = .ok (.iadd, 1) := by decide +kernel
theorem dX6_objectSize_54 : decode cX6_objectSize 54 = .ok (.istore_n 2, 1) := by decide +kernel
theorem dX6_objectSize_55 : decode cX6_objectSize 55 = .ok (.aload_n 0, 1) := by decide +kernel
theorem dX6_objectSize_56 : decode cX6_objectSize 56 = .ok (.getfield 14, 3) := by decide +kernel
theorem dX6_objectSize_59 : decode cX6_objectSize 59 = .ok (.invokevirtual 84, 3) := by decide +kernel
theorem dX6_objectSize_62 : decode cX6_objectSize 62 = .ok (.istore_n 3, 1) := by decide +kernel
theorem dX6_objectSize_63 : decode cX6_objectSize 63 = .ok (.iinc 4 1, 3) := by decide +kernel
theorem dX6_objectSize_66 : decode cX6_objectSize 66 = .ok (.goto (-41), 3) := by decide +kernel
theorem dX6_objectSize_69 : decode cX6_objectSize 69 = .ok (.iload_n 2, 1) := by decide +kernel
theorem dX6_objectSize_70 : decode cX6_objectSize 70 = .ok (.ireturn, 1) := by decide +kernel
set_option maxRecDepth 20000 in
theorem ggX6_objectByte_X6_hasObject : GoodIn wsX6_objectByte wsX6_hasObject := goodIn_r _ [7, 8, 9, 10, 11, 74, 75, 76, 77, 78, 79, 80, 81] (by decide +kernel) (by decide +kernel)
set_option maxRecDepth 20000 in
theorem gX6_objectByte_X6_hasObject : GoodIn wsX6_objectByte (wsV RX6 74 RX6 yX6_hasObject wsX6_hasObject) := goodIn_app (goodIn_of _ (by decide +kernel)) ggX6_objectByte_X6_hasObject
set_option maxRecDepth 20000 in
theorem ggX6_objectByte_X6_openData : GoodIn wsX6_objectByte wsX6_openData := goodIn_r _ [15, 16, 8, 2, 17, 18, 19, 20, 21, 22, 23, 10, 24, 25, 26, 27, 28, 29, 30, 31, 32, 33, 34, 35, 36, 37, 38, 39, 40, 41, 42, 43, 44, 45, 46, 47, 48, 49, 50, 51, 52, 53, 54, 55, 56, 57, 74, 75, 76, 77, 78, 79, 80, 81, 82, 83, 84, 85, 86] (by decide +kernel) (by decide +kernel)
set_option maxRecDepth 20000 in
theorem gX6_objectByte_X6_openData : GoodIn wsX6_objectByte (wsV RX6 77 RX6 yX6_openData wsX6_openData) := goodIn_app (goodIn_of _ (by decide +kernel)) ggX6_objectByte_X6_openData
set_option maxRecDepth 20000 in
theorem ggX6_objectByte_X0_dataLength : GoodIn wsX6_objectByte wsX0_dataLength := goodIn_r _ [61, 62, 63, 64, 51, 65, 53, 86] (by decide +kernel) (by decide +kernel)
set_option maxRecDepth 20000 in
theorem gX6_objectByte_X0_dataLength : GoodIn wsX6_objectByte (wsV RX6 81 RX0 yX0_dataLength wsX0_dataLength) := goodIn_app (goodIn_of _ (by decide +kernel)) ggX6_objectByte_X0_dataLength
set_option maxRecDepth 20000 in
theorem ggX6_objectByte_X0_dataByte : GoodIn wsX6_objectByte wsX0_dataByte := goodIn_r _ [69, 62, 63, 64, 51, 65, 53, 86] (by decide +kernel) (by decide +kernel)
set_option maxRecDepth 20000 in
theorem gX6_objectByte_X0_dataByte : GoodIn wsX6_objectByte (wsV RX6 87 RX0 yX0_dataByte wsX0_dataByte) := goodIn_app (goodIn_of _ (by decide +kernel)) ggX6_objectByte_X0_dataByte
set_option maxRecDepth 20000 in
theorem ggX6_objectByte_X0_nextPage : GoodIn wsX6_objectByte wsX0_nextPage := goodIn_r _ [73, 62, 63, 64, 51, 65, 53, 86] (by decide +kernel) (by decide +kernel)
set_option maxRecDepth 20000 in
theorem gX6_objectByte_X0_nextPage : GoodIn wsX6_objectByte (wsV RX6 84 RX0 yX0_nextPage wsX0_nextPage) := goodIn_app (goodIn_of _ (by decide +kernel)) ggX6_objectByte_X0_nextPage
theorem dX6_objectByte_0 : decode cX6_objectByte 0 = .ok (.aload_n 0, 1) := by decide +kernel
theorem dX6_objectByte_1 : decode cX6_objectByte 1 = .ok (.iload_n 1, 1) := by decide +kernel
theorem dX6_objectByte_2 : decode cX6_objectByte 2 = .ok (.invokevirtual 74, 3) := by decide +kernel
theorem dX6_objectByte_5 : decode cX6_objectByte 5 = .ok (.ifCond .eq 7, 3) := by decide +kernel
theorem dX6_objectByte_8 : decode cX6_objectByte 8 = .ok (.iload_n 2, 1) := by decide +kernel
theorem dX6_objectByte_9 : decode cX6_objectByte 9 = .ok (.ifCond .ge 5, 3) := by decide +kernel
theorem dX6_objectByte_12 : decode cX6_objectByte 12 = .ok (.iconst (-1), 1) := by decide +kernel
theorem dX6_objectByte_13 : decode cX6_objectByte 13 = .ok (.ireturn, 1) := by decide +kernel
theorem dX6_objectByte_14 : decode cX6_objectByte 14 = .ok (.iload_n 2, 1) := by decide +kernel
theorem dX6_objectByte_15 : decode cX6_objectByte 15 = .ok (.istore_n 3, 1) := by decide +kernel
theorem dX6_objectByte_16 : decode cX6_objectByte 16 = .ok (.aload_n 0, 1) := by decide +kernel
theorem dX6_objectByte_17 : decode cX6_objectByte 17 = .ok (.getfield 22, 3) := by decide +kernel
theorem dX6_objectByte_20 : decode cX6_objectByte 20 = .ok (.bipush 21, 2) := by decide +kernel
theorem dX6_objectByte_22 : decode cX6_objectByte 22 = .ok (.iload_n 1, 1) := by decide +kernel
theorem dX6_objectByte_23 : decode cX6_objectByte 23 = .ok (.iadd, 1) := by decide +kernel
theorem dX6_objectByte_24 : decode cX6_objectByte 24 = .ok (.iaload, 1) := by decide +kernel
theorem dX6_objectByte_25 : decode cX6_objectByte 25 = .ok (.istore 4, 2) := by decide +kernel
theorem dX6_objectByte_27 : decode cX6_objectByte 27 = .ok (.iconst 0, 1) := by decide +kernel
theorem dX6_objectByte_28 : decode cX6_objectByte 28 = .ok (.istore 5, 2) := by decide +kernel
theorem dX6_objectByte_30 : decode cX6_objectByte 30 = .ok (.iload 5, 2) := by decide +kernel
theorem dX6_objectByte_32 : decode cX6_objectByte 32 = .ok (.sipush 200, 3) := by decide +kernel
theorem dX6_objectByte_35 : decode cX6_objectByte 35 = .ok (.if_icmp .ge 61, 3) := by decide +kernel
theorem dX6_objectByte_38 : decode cX6_objectByte 38 = .ok (.aload_n 0, 1) := by decide +kernel
theorem dX6_objectByte_39 : decode cX6_objectByte 39 = .ok (.bipush 21, 2) := by decide +kernel
theorem dX6_objectByte_41 : decode cX6_objectByte 41 = .ok (.iload_n 1, 1) := by decide +kernel
theorem dX6_objectByte_42 : decode cX6_objectByte 42 = .ok (.iadd, 1) := by decide +kernel
theorem dX6_objectByte_43 : decode cX6_objectByte 43 = .ok (.iload 4, 2) := by decide +kernel
theorem dX6_objectByte_45 : decode cX6_objectByte 45 = .ok (.invokevirtual 77, 3) := by decide +kernel
theorem dX6_objectByte_48 : decode cX6_objectByte 48 = .ok (.ifCond .eq 48, 3) := by decide +kernel
theorem dX6_objectByte_51 : decode cX6_objectByte 51 = .ok (.iload_n 3, 1) := by decide +kernel
theorem dX6_objectByte_52 : decode cX6_objectByte 52 = .ok (.aload_n 0, 1) := by decide +kernel
theorem dX6_objectByte_53 : decode cX6_objectByte 53 = .ok (.getfield 14, 3) := by decide +kernel
theorem dX6_objectByte_56 : decode cX6_objectByte 56 = .ok (.invokevirtual 81, 3) := by decide +kernel
theorem dX6_objectByte_59 : decode cX6_objectByte 59 = .ok (.if_icmp .ge 12, 3) := by decide +kernel
theorem dX6_objectByte_62 : decode cX6_objectByte 62 = .ok (.aload_n 0, 1) := by decide +kernel
theorem dX6_objectByte_63 : decode cX6_objectByte 63 = .ok (.getfield 14, 3) := by decide +kernel
theorem dX6_objectByte_66 : decode cX6_objectByte 66 = .ok (.iload_n 3, 1) := by decide +kernel
theorem dX6_objectByte_67 : decode cX6_objectByte 67 = .ok (.invokevirtual 87, 3) := by decide +kernel
theorem dX6_objectByte_70 : decode cX6_objectByte 70 = .ok (.ireturn, 1) := by decide +kernel
theorem dX6_objectByte_71 : decode cX6_objectByte 71 = .ok (.iload_n 3, 1) := by decide +kernel
theorem dX6_objectByte_72 : decode cX6_objectByte 72 = .ok (.aload_n 0, 1) := by decide +kernel
theorem dX6_objectByte_73 : decode cX6_objectByte 73 = .ok (.getfield 14, 3) := by decide +kernel
theorem dX6_objectByte_76 : decode cX6_objectByte 76 = .ok (.invokevirtual 81, 3) := by decide +kernel
theorem dX6_objectByte_79 : decode cX6_objectByte 79 = .ok (.isub, 1) := by decide +kernel
theorem dX6_objectByte_80 : decode cX6_objectByte 80 = .ok (.istore_n 3, 1) := by decide +kernel
theorem dX6_objectByte_81 : decode cX6_objectByte 81 = .ok (.aload_n 0, 1) := by decide +kernel
theorem dX6_objectByte_82 : decode cX6_objectByte 82 = .ok (.getfield 14, 3) := by decide +kernel
theorem dX6_objectByte_85 : decode cX6_objectByte 85 = .ok (.invokevirtual 84, 3) := by decide +kernel
theorem dX6_objectByte_88 : decode cX6_objectByte 88 = .ok (.istore 4, 2) := by decide +kernel
theorem dX6_objectByte_90 : decode cX6_objectByte 90 = .ok (.iinc 5 1, 3) := by decide +kernel
theorem dX6_objectByte_93 : decode cX6_objectByte 93 = .ok (.goto (-63), 3) := by decide +kernel
theorem dX6_objectByte_96 : decode cX6_objectByte 96 = .ok (.iconst (-1), 1) := by decide +kernel
theorem dX6_objectByte_97 : decode cX6_objectByte 97 = .ok (.ireturn, 1) := by decide +kernel
theorem dX6_forget_0 : decode cX6_forget 0 = .ok (.iconst 0, 1) := by decide +kernel
theorem dX6_forget_1 : decode cX6_forget 1 = .ok (.istore_n 1, 1) := by decide +kernel
theorem dX6_forget_2 : decode cX6_forget 2 = .ok (.iload_n 1, 1) := by decide +kernel
theorem dX6_forget_3 : decode cX6_forget 3 = .ok (.bipush 85, 2) := by decide +kernel
theorem dX6_forget_5 : decode cX6_forget 5 = .ok (.if_icmp .ge 23, 3) := by decide +kernel
theorem dX6_forget_8 : decode cX6_forget 8 = .ok (.aload_n 0, 1) := by decide +kernel
theorem dX6_forget_9 : decode cX6_forget 9 = .ok (.getfield 18, 3) := by decide +kernel
theorem dX6_forget_12 : decode cX6_forget 12 = .ok (.iload_n 1, 1) := by decide +kernel
theorem dX6_forget_13 : decode cX6_forget 13 = .ok (.lconst 0, 1) := by decide +kernel
theorem dX6_forget_14 : decode cX6_forget 14 = .ok (.lastore, 1) := by decide +kernel
theorem dX6_forget_15 : decode cX6_forget 15 = .ok (.aload_n 0, 1) := by decide +kernel
theorem dX6_forget_16 : decode cX6_forget 16 = .ok (.getfield 22, 3) := by decide +kernel
theorem dX6_forget_19 : decode cX6_forget 19 = .ok (.iload_n 1, 1) := by decide +kernel
theorem dX6_forget_20 : decode cX6_forget 20 = .ok (.iconst 0, 1) := by decide +kernel
theorem dX6_forget_21 : decode cX6_forget 21 = .ok (.iastore, 1) := by decide +kernel
theorem dX6_forget_22 : decode cX6_forget 22 = .ok (.iinc 1 1, 3) := by decide +kernel
theorem dX6_forget_25 : decode cX6_forget 25 = .ok (.goto (-23), 3) := by decide +kernel
theorem dX6_forget_28 : decode cX6_forget 28 = .ok (.iconst 0, 1) := by decide +kernel
theorem dX6_forget_29 : decode cX6_forget 29 = .ok (.istore_n 1, 1) := by decide +kernel
theorem dX6_forget_30 : decode cX6_forget 30 = .ok (.iload_n 1, 1) := by decide +kernel
theorem dX6_forget_31 : decode cX6_forget 31 = .ok (.sipush 200, 3) := by decide +kernel
theorem dX6_forget_34 : decode cX6_forget 34 = .ok (.if_icmp .ge 16, 3) := by decide +kernel
theorem dX6_forget_37 : decode cX6_forget 37 = .ok (.aload_n 0, 1) := by decide +kernel
theorem dX6_forget_38 : decode cX6_forget 38 = .ok (.getfield 26, 3) := by decide +kernel
theorem dX6_forget_41 : decode cX6_forget 41 = .ok (.iload_n 1, 1) := by decide +kernel
theorem dX6_forget_42 : decode cX6_forget 42 = .ok (.iconst 0, 1) := by decide +kernel
theorem dX6_forget_43 : decode cX6_forget 43 = .ok (.bastore, 1) := by decide +kernel
theorem dX6_forget_44 : decode cX6_forget 44 = .ok (.iinc 1 1, 3) := by decide +kernel
theorem dX6_forget_47 : decode cX6_forget 47 = .ok (.goto (-17), 3) := by decide +kernel
theorem dX6_forget_50 : decode cX6_forget 50 = .ok (.aload_n 0, 1) := by decide +kernel
theorem dX6_forget_51 : decode cX6_forget 51 = .ok (.iconst 0, 1) := by decide +kernel
theorem dX6_forget_52 : decode cX6_forget 52 = .ok (.putfield 30, 3) := by decide +kernel
theorem dX6_forget_55 : decode cX6_forget 55 = .ok (.aload_n 0, 1) := by decide +kernel
theorem dX6_forget_56 : decode cX6_forget 56 = .ok (.iconst 0, 1) := by decide +kernel
theorem dX6_forget_57 : decode cX6_forget 57 = .ok (.putfield 34, 3) := by decide +kernel
theorem dX6_forget_60 : decode cX6_forget 60 = .ok (.return_, 1) := by decide +kernel
set_option maxRecDepth 20000 in
theorem ggX6_readNode_X1_fits : GoodIn wsX6_readNode wsX1_fits := goodIn_r _ [9, 10, 11, 12, 13, 14, 15, 16, 8, 17, 18, 19, 20, 21, 22, 23, 24, 25, 26, 27, 28, 29, 30, 31, 32, 74, 75, 76, 77] (by decide +kernel) (by decide +kernel)
set_option maxRecDepth 20000 in
theorem gX6_readNode_X1_fits : GoodIn wsX6_readNode (wsV RX6 91 RX1 yX1_fits wsX1_fits) := goodIn_app (goodIn_of _ (by decide +kernel)) ggX6_readNode_X1_fits
set_option maxRecDepth 20000 in
theorem ggX6_readNode_X6_mark : GoodIn wsX6_readNode wsX6_mark := goodIn_r _ [37, 38, 39, 11, 12, 13, 66, 67, 68, 69, 70, 71, 72, 73] (by decide +kernel) (by decide +kernel)
set_option maxRecDepth 20000 in
theorem gX6_readNode_X6_mark : GoodIn wsX6_readNode (wsV RX6 95 RX6 yX6_mark wsX6_mark) := goodIn_app (goodIn_of _ (by decide +kernel)) ggX6_readNode_X6_mark
set_option maxRecDepth 20000 in
theorem ggX6_readNode_X1_readBody : GoodIn wsX6_readNode wsX1_readBody := goodIn_r _ [43, 11, 12, 13, 44, 45, 46, 47, 48, 49, 23, 24, 25, 8, 26, 18, 27, 19, 20, 21, 22, 28, 29, 30, 31, 32, 50, 51, 52, 53, 78, 74, 75, 76, 77] (by decide +kernel) (by decide +kernel)
set_option maxRecDepth 20000 in
theorem gX6_readNode_X1_readBody : GoodIn wsX6_readNode (wsV RX6 98 RX1 yX1_readBody wsX1_readBody) := goodIn_app (goodIn_of _ (by decide +kernel)) ggX6_readNode_X1_readBody
set_option maxRecDepth 20000 in
theorem ggX6_readNode_X0_entryKey : GoodIn wsX6_readNode wsX0_entryKey := goodIn_r _ [57, 58, 59, 60, 47, 61, 49, 78] (by decide +kernel) (by decide +kernel)
set_option maxRecDepth 20000 in
theorem gX6_readNode_X0_entryKey : GoodIn wsX6_readNode (wsV RX6 102 RX0 yX0_entryKey wsX0_entryKey) := goodIn_app (goodIn_of _ (by decide +kernel)) ggX6_readNode_X0_entryKey
set_option maxRecDepth 20000 in
theorem ggX6_readNode_X0_entryPage : GoodIn wsX6_readNode wsX0_entryPage := goodIn_r _ [65, 58, 59, 60, 47, 61, 49, 78] (by decide +kernel) (by decide +kernel)
set_option maxRecDepth 20000 in
theorem gX6_readNode_X0_entryPage : GoodIn wsX6_readNode (wsV RX6 106 RX0 yX0_entryPage wsX0_entryPage) := goodIn_app (goodIn_of _ (by decide +kernel)) ggX6_readNode_X0_entryPage
theorem dX6_readNode_0 : decode cX6_readNode 0 = .ok (.aload_n 0, 1) := by decide +kernel
theorem dX6_readNode_1 : decode cX6_readNode 1 = .ok (.getfield 40, 3) := by decide +kernel
theorem dX6_readNode_4 : decode cX6_readNode 4 = .ok (.aload_n 0, 1) := by decide +kernel
theorem dX6_readNode_5 : decode cX6_readNode 5 = .ok (.getfield 18, 3) := by decide +kernel
theorem dX6_readNode_8 : decode cX6_readNode 8 = .ok (.iload_n 1, 1) := by decide +kernel
theorem dX6_readNode_9 : decode cX6_readNode 9 = .ok (.laload, 1) := by decide +kernel
theorem dX6_readNode_10 : decode cX6_readNode 10 = .ok (.aload_n 0, 1) := by decide +kernel
theorem dX6_readNode_11 : decode cX6_readNode 11 = .ok (.getfield 22, 3) := by decide +kernel
theorem dX6_readNode_14 : decode cX6_readNode 14 = .ok (.iload_n 1, 1) := by decide +kernel
theorem dX6_readNode_15 : decode cX6_readNode 15 = .ok (.iaload, 1) := by decide +kernel
theorem dX6_readNode_16 : decode cX6_readNode 16 = .ok (.iconst 1, 1) := by decide +kernel
theorem dX6_readNode_17 : decode cX6_readNode 17 = .ok (.invokevirtual 91, 3) := by decide +kernel
theorem dX6_readNode_20 : decode cX6_readNode 20 = .ok (.ifCond .ne 4, 3) := by decide +kernel
theorem dX6_readNode_23 : decode cX6_readNode 23 = .ok (.return_, 1) := by decide +kernel
theorem dX6_readNode_24 : decode cX6_readNode 24 = .ok (.aload_n 0, 1) := by decide +kernel
theorem dX6_readNode_25 : decode cX6_readNode 25 = .ok (.aload_n 0, 1) := by decide +kernel
theorem dX6_readNode_26 : decode cX6_readNode 26 = .ok (.getfield 22, 3) := by decide +kernel
theorem dX6_readNode_29 : decode cX6_readNode 29 = .ok (.iload_n 1, 1) := by decide +kernel
theorem dX6_readNode_30 : decode cX6_readNode 30 = .ok (.iaload, 1) := by decide +kernel
theorem dX6_readNode_31 : decode cX6_readNode 31 = .ok (.invokevirtual 95, 3) := by decide +kernel
theorem dX6_readNode_34 : decode cX6_readNode 34 = .ok (.aload_n 0, 1) := by decide +kernel
theorem dX6_readNode_35 : decode cX6_readNode 35 = .ok (.getfield 40, 3) := by decide +kernel
theorem dX6_readNode_38 : decode cX6_readNode 38 = .ok (.aload_n 0, 1) := by decide +kernel
theorem dX6_readNode_39 : decode cX6_readNode 39 = .ok (.getfield 18, 3) := by decide +kernel
theorem dX6_readNode_42 : decode cX6_readNode 42 = .ok (.iload_n 1, 1) := by decide +kernel
theorem dX6_readNode_43 : decode cX6_readNode 43 = .ok (.laload, 1) := by decide +kernel
theorem dX6_readNode_44 : decode cX6_readNode 44 = .ok (.aload_n 0, 1) := by decide +kernel
theorem dX6_readNode_45 : decode cX6_readNode 45 = .ok (.getfield 22, 3) := by decide +kernel
theorem dX6_readNode_48 : decode cX6_readNode 48 = .ok (.iload_n 1, 1) := by decide +kernel
theorem dX6_readNode_49 : decode cX6_readNode 49 = .ok (.iaload, 1) := by decide +kernel
theorem dX6_readNode_50 : decode cX6_readNode 50 = .ok (.aload_n 0, 1) := by decide +kernel
theorem dX6_readNode_51 : decode cX6_readNode 51 = .ok (.getfield 14, 3) := by decide +kernel
theorem dX6_readNode_54 : decode cX6_readNode 54 = .ok (.invokevirtual 98, 3) := by decide +kernel
theorem dX6_readNode_57 : decode cX6_readNode 57 = .ok (.iconst 0, 1) := by decide +kernel
theorem dX6_readNode_58 : decode cX6_readNode 58 = .ok (.istore_n 2, 1) := by decide +kernel
theorem dX6_readNode_59 : decode cX6_readNode 59 = .ok (.iload_n 2, 1) := by decide +kernel
theorem dX6_readNode_60 : decode cX6_readNode 60 = .ok (.iconst 4, 1) := by decide +kernel
theorem dX6_readNode_61 : decode cX6_readNode 61 = .ok (.if_icmp .ge 45, 3) := by decide +kernel
theorem dX6_readNode_64 : decode cX6_readNode 64 = .ok (.iload_n 1, 1) := by decide +kernel
theorem dX6_readNode_65 : decode cX6_readNode 65 = .ok (.iconst 4, 1) := by decide +kernel
theorem dX6_readNode_66 : decode cX6_readNode 66 = .ok (.imul, 1) := by decide +kernel
theorem dX6_readNode_67 : decode cX6_readNode 67 = .ok (.iconst 1, 1) := by decide +kernel
theorem dX6_readNode_68 : decode cX6_readNode 68 = .ok (.iadd, 1) := by decide +kernel
theorem dX6_readNode_69 : decode cX6_readNode 69 = .ok (.iload_n 2, 1) := by decide +kernel
theorem dX6_readNode_70 : decode cX6_readNode 70 = .ok (.iadd, 1) := by decide +kernel
theorem dX6_readNode_71 : decode cX6_readNode 71 = .ok (.istore_n 3, 1) := by decide +kernel
theorem dX6_readNode_72 : decode cX6_readNode 72 = .ok (.aload_n 0, 1) := by decide +kernel
theorem dX6_readNode_73 : decode cX6_readNode 73 = .ok (.getfield 18, 3) := by decide +kernel
theorem dX6_readNode_76 : decode cX6_readNode 76 = .ok (.iload_n 3, 1) := by decide +kernel
theorem dX6_readNode_77 : decode cX6_readNode 77 = .ok (.aload_n 0, 1) := by decide +kernel
theorem dX6_readNode_78 : decode cX6_readNode 78 = .ok (.getfield 14, 3) := by decide +kernel
theorem dX6_readNode_81 : decode cX6_readNode 81 = .ok (.iload_n 2, 1) := by decide +kernel
theorem dX6_readNode_82 : decode cX6_readNode 82 = .ok (.invokevirtual 102, 3) := by decide +kernel
theorem dX6_readNode_85 : decode cX6_readNode 85 = .ok (.lastore, 1) := by decide +kernel
theorem dX6_readNode_86 : decode cX6_readNode 86 = .ok (.aload_n 0, 1) := by decide +kernel
theorem dX6_readNode_87 : decode cX6_readNode 87 = .ok (.getfield 22, 3) := by decide +kernel
theorem dX6_readNode_90 : decode cX6_readNode 90 = .ok (.iload_n 3, 1) := by decide +kernel
theorem dX6_readNode_91 : decode cX6_readNode 91 = .ok (.aload_n 0, 1) := by decide +kernel
theorem dX6_readNode_92 : decode cX6_readNode 92 = .ok (.getfield 14, 3) := by decide +kernel
theorem dX6_readNode_95 : decode cX6_readNode 95 = .ok (.iload_n 2, 1) := by decide +kernel
theorem dX6_readNode_96 : decode cX6_readNode 96 = .ok (.invokevirtual 106, 3) := by decide +kernel
theorem dX6_readNode_99 : decode cX6_readNode 99 = .ok (.iastore, 1) := by decide +kernel
theorem dX6_readNode_100 : decode cX6_readNode 100 = .ok (.iinc 2 1, 3) := by decide +kernel
theorem dX6_readNode_103 : decode cX6_readNode 103 = .ok (.goto (-44), 3) := by decide +kernel
theorem dX6_readNode_106 : decode cX6_readNode 106 = .ok (.return_, 1) := by decide +kernel
set_option maxRecDepth 20000 in
theorem ggX6_markData_X6_openData : GoodIn wsX6_markData wsX6_openData := goodIn_r _ [7, 8, 9, 2, 10, 11, 12, 13, 14, 15, 16, 17, 18, 19, 20, 21, 22, 23, 24, 25, 26, 27, 28, 29, 30, 31, 32, 33, 34, 35, 36, 37, 38, 39, 40, 41, 42, 43, 44, 45, 46, 47, 48, 49, 50, 51, 66, 67, 68, 69, 70, 71, 72, 73, 74, 75, 76, 77, 78] (by decide +kernel) (by decide +kernel)
set_option maxRecDepth 20000 in
theorem gX6_markData_X6_openData : GoodIn wsX6_markData (wsV RX6 77 RX6 yX6_openData wsX6_openData) := goodIn_app (goodIn_of _ (by decide +kernel)) ggX6_markData_X6_openData
set_option maxRecDepth 20000 in
theorem ggX6_markData_X6_mark : GoodIn wsX6_markData wsX6_mark := goodIn_r _ [55, 56, 57, 16, 17, 18, 66, 67, 68, 69, 70, 71, 72, 73] (by decide +kernel) (by decide +kernel)
set_option maxRecDepth 20000 in
theorem gX6_markData_X6_mark : GoodIn wsX6_markData (wsV RX6 95 RX6 yX6_mark wsX6_mark) := goodIn_app (goodIn_of _ (by decide +kernel)) ggX6_markData_X6_mark
set_option maxRecDepth 20000 in
theorem ggX6_markData_X0_nextPage : GoodIn wsX6_markData wsX0_nextPage := goodIn_r _ [61, 62, 63, 64, 45, 65, 47, 78] (by decide +kernel) (by decide +kernel)
set_option maxRecDepth 20000 in
theorem gX6_markData_X0_nextPage : GoodIn wsX6_markData (wsV RX6 84 RX0 yX0_nextPage wsX0_nextPage) := goodIn_app (goodIn_of _ (by decide +kernel)) ggX6_markData_X0_nextPage
theorem dX6_markData_0 : decode cX6_markData 0 = .ok (.aload_n 0, 1) := by decide +kernel
theorem dX6_markData_1 : decode cX6_markData 1 = .ok (.getfield 22, 3) := by decide +kernel
theorem dX6_markData_4 : decode cX6_markData 4 = .ok (.iload_n 1, 1) := by decide +kernel
theorem dX6_markData_5 : decode cX6_markData 5 = .ok (.iaload, 1) := by decide +kernel
theorem dX6_markData_6 : decode cX6_markData 6 = .ok (.istore_n 2, 1) := by decide +kernel
theorem dX6_markData_7 : decode cX6_markData 7 = .ok (.iconst 0, 1) := by decide +kernel
theorem dX6_markData_8 : decode cX6_markData 8 = .ok (.istore_n 3, 1) := by decide +kernel
theorem dX6_markData_9 : decode cX6_markData 9 = .ok (.iload_n 3, 1) := by decide +kernel
theorem dX6_markData_10 : decode cX6_markData 10 = .ok (.sipush 200, 3) := by decide +kernel
theorem dX6_markData_13 : decode cX6_markData 13 = .ok (.if_icmp .ge 31, 3) := by decide +kernel
theorem dX6_markData_16 : decode cX6_markData 16 = .ok (.aload_n 0, 1) := by decide +kernel
theorem dX6_markData_17 : decode cX6_markData 17 = .ok (.iload_n 1, 1) := by decide +kernel
theorem dX6_markData_18 : decode cX6_markData 18 = .ok (.iload_n 2, 1) := by decide +kernel
theorem dX6_markData_19 : decode cX6_markData 19 = .ok (.invokevirtual 77, 3) := by decide +kernel
theorem dX6_markData_22 : decode cX6_markData 22 = .ok (.ifCond .eq 22, 3) := by decide +kernel
theorem dX6_markData_25 : decode cX6_markData 25 = .ok (.aload_n 0, 1) := by decide +kernel
theorem dX6_markData_26 : decode cX6_markData 26 = .ok (.iload_n 2, 1) := by decide +kernel
theorem dX6_markData_27 : decode cX6_markData 27 = .ok (.invokevirtual 95, 3) := by decide +kernel
theorem dX6_markData_30 : decode cX6_markData 30 = .ok (.aload_n 0, 1) := by decide +kernel
theorem dX6_markData_31 : decode cX6_markData 31 = .ok (.getfield 14, 3) := by decide +kernel
theorem dX6_markData_34 : decode cX6_markData 34 = .ok (.invokevirtual 84, 3) := by decide +kernel
theorem dX6_markData_37 : decode cX6_markData 37 = .ok (.istore_n 2, 1) := by decide +kernel
theorem dX6_markData_38 : decode cX6_markData 38 = .ok (.iinc 3 1, 3) := by decide +kernel
theorem dX6_markData_41 : decode cX6_markData 41 = .ok (.goto (-32), 3) := by decide +kernel
theorem dX6_markData_44 : decode cX6_markData 44 = .ok (.return_, 1) := by decide +kernel
set_option maxRecDepth 20000 in
theorem ggX6_openData_X1_fits : GoodIn wsX6_openData wsX1_fits := goodIn_r _ [8, 9, 10, 11, 12, 13, 14, 15, 7, 16, 17, 18, 19, 20, 21, 22, 23, 24, 25, 26, 27, 28, 29, 30, 31, 54, 55, 56, 57] (by decide +kernel) (by decide +kernel)
set_option maxRecDepth 20000 in
theorem gX6_openData_X1_fits : GoodIn wsX6_openData (wsV RX6 91 RX1 yX1_fits wsX1_fits) := goodIn_app (goodIn_of _ (by decide +kernel)) ggX6_openData_X1_fits
set_option maxRecDepth 20000 in
theorem ggX6_openData_X1_readBody : GoodIn wsX6_openData wsX1_readBody := goodIn_r _ [35, 10, 11, 12, 36, 37, 38, 39, 40, 41, 22, 23, 24, 7, 25, 17, 26, 18, 19, 20, 21, 27, 28, 29, 30, 31, 42, 43, 44, 45, 58, 54, 55, 56, 57] (by decide +kernel) (by decide +kernel)
set_option maxRecDepth 20000 in
theorem gX6_openData_X1_readBody : GoodIn wsX6_openData (wsV RX6 98 RX1 yX1_readBody wsX1_readBody) := goodIn_app (goodIn_of _ (by decide +kernel)) ggX6_openData_X1_readBody
theorem dX6_openData_0 : decode cX6_openData 0 = .ok (.aload_n 0, 1) := by decide +kernel
theorem dX6_openData_1 : decode cX6_openData 1 = .ok (.getfield 40, 3) := by decide +kernel
theorem dX6_openData_4 : decode cX6_openData 4 = .ok (.aload_n 0, 1) := by decide +kernel
theorem dX6_openData_5 : decode cX6_openData 5 = .ok (.getfield 18, 3) := by decide +kernel
theorem dX6_openData_8 : decode cX6_openData 8 = .ok (.iload_n 1, 1) := by decide +kernel
theorem dX6_openData_9 : decode cX6_openData 9 = .ok (.laload, 1) := by decide +kernel
theorem dX6_openData_10 : decode cX6_openData 10 = .ok (.iload_n 2, 1) := by decide +kernel
theorem dX6_openData_11 : decode cX6_openData 11 = .ok (.iconst 2, 1) := by decide +kernel
theorem dX6_openData_12 : decode cX6_openData 12 = .ok (.invokevirtual 91, 3) := by decide +kernel
theorem dX6_openData_15 : decode cX6_openData 15 = .ok (.ifCond .ne 5, 3) := by decide +kernel
theorem dX6_openData_18 : decode cX6_openData 18 = .ok (.iconst 0, 1) := by decide +kernel
theorem dX6_openData_19 : decode cX6_openData 19 = .ok (.ireturn, 1) := by decide +kernel
theorem dX6_openData_20 : decode cX6_openData 20 = .ok (.aload_n 0, 1) := by decide +kernel
theorem dX6_openData_21 : decode cX6_openData 21 = .ok (.getfield 40, 3) := by decide +kernel
theorem dX6_openData_24 : decode cX6_openData 24 = .ok (.aload_n 0, 1) := by decide +kernel
theorem dX6_openData_25 : decode cX6_openData 25 = .ok (.getfield 18, 3) := by decide +kernel
theorem dX6_openData_28 : decode cX6_openData 28 = .ok (.iload_n 1, 1) := by decide +kernel
theorem dX6_openData_29 : decode cX6_openData 29 = .ok (.laload, 1) := by decide +kernel
theorem dX6_openData_30 : decode cX6_openData 30 = .ok (.iload_n 2, 1) := by decide +kernel
theorem dX6_openData_31 : decode cX6_openData 31 = .ok (.aload_n 0, 1) := by decide +kernel
theorem dX6_openData_32 : decode cX6_openData 32 = .ok (.getfield 14, 3) := by decide +kernel
theorem dX6_openData_35 : decode cX6_openData 35 = .ok (.invokevirtual 98, 3) := by decide +kernel
theorem dX6_openData_38 : decode cX6_openData 38 = .ok (.iconst 1, 1) := by decide +kernel
theorem dX6_openData_39 : decode cX6_openData 39 = .ok (.ireturn, 1) := by decide +kernel
set_option maxRecDepth 20000 in
theorem ggX6_mark_X8_isPage : GoodIn wsX6_mark wsX8_isPage := goodIn_r _ [5] (by decide +kernel) (by decide +kernel)
set_option maxRecDepth 20000 in
theorem gX6_mark_X8_isPage_n67 : GoodIn wsX6_mark (wsX8_isPage) := ggX6_mark_X8_isPage
theorem dX6_mark_0 : decode cX6_mark 0 = .ok (.iload_n 1, 1) := by decide +kernel
theorem dX6_mark_1 : decode cX6_mark 1 = .ok (.invokestatic 67, 3) := by decide +kernel
theorem dX6_mark_4 : decode cX6_mark 4 = .ok (.ifCond .eq 29, 3) := by decide +kernel
theorem dX6_mark_7 : decode cX6_mark 7 = .ok (.aload_n 0, 1) := by decide +kernel
theorem dX6_mark_8 : decode cX6_mark 8 = .ok (.getfield 26, 3) := by decide +kernel
theorem dX6_mark_11 : decode cX6_mark 11 = .ok (.iload_n 1, 1) := by decide +kernel
theorem dX6_mark_12 : decode cX6_mark 12 = .ok (.baload, 1) := by decide +kernel
theorem dX6_mark_13 : decode cX6_mark 13 = .ok (.ifCond .ne 20, 3) := by decide +kernel
theorem dX6_mark_16 : decode cX6_mark 16 = .ok (.aload_n 0, 1) := by decide +kernel
theorem dX6_mark_17 : decode cX6_mark 17 = .ok (.getfield 26, 3) := by decide +kernel
theorem dX6_mark_20 : decode cX6_mark 20 = .ok (.iload_n 1, 1) := by decide +kernel
theorem dX6_mark_21 : decode cX6_mark 21 = .ok (.iconst 1, 1) := by decide +kernel
theorem dX6_mark_22 : decode cX6_mark 22 = .ok (.bastore, 1) := by decide +kernel
theorem dX6_mark_23 : decode cX6_mark 23 = .ok (.aload_n 0, 1) := by decide +kernel
theorem dX6_mark_24 : decode cX6_mark 24 = .ok (.dup, 1) := by decide +kernel
theorem dX6_mark_25 : decode cX6_mark 25 = .ok (.getfield 30, 3) := by decide +kernel
theorem dX6_mark_28 : decode cX6_mark 28 = .ok (.iconst 1, 1) := by decide +kernel
theorem dX6_mark_29 : decode cX6_mark 29 = .ok (.iadd, 1) := by decide +kernel
theorem dX6_mark_30 : decode cX6_mark 30 = .ok (.putfield 30, 3) := by decide +kernel
theorem dX6_mark_33 : decode cX6_mark 33 = .ok (.return_, 1) := by decide +kernel
set_option maxRecDepth 20000 in
theorem ggX7_init_X0_init : GoodIn wsX7_init wsX0_init := goodIn_r _ [19, 20, 2, 3, 8, 21, 22] (by decide +kernel) (by decide +kernel)
set_option maxRecDepth 20000 in
theorem gX7_init_X0_init : GoodIn wsX7_init (wsX0_init) := ggX7_init_X0_init
theorem dX7_init_0 : decode cX7_init 0 = .ok (.aload_n 0, 1) := by decide +kernel
theorem dX7_init_1 : decode cX7_init 1 = .ok (.invokespecial 3, 3) := by decide +kernel
theorem dX7_init_4 : decode cX7_init 4 = .ok (.aload_n 0, 1) := by decide +kernel
theorem dX7_init_5 : decode cX7_init 5 = .ok (.new 9, 3) := by decide +kernel
theorem dX7_init_8 : decode cX7_init 8 = .ok (.dup, 1) := by decide +kernel
theorem dX7_init_9 : decode cX7_init 9 = .ok (.invokespecial 11, 3) := by decide +kernel
theorem dX7_init_12 : decode cX7_init 12 = .ok (.putfield 12, 3) := by decide +kernel
theorem dX7_init_15 : decode cX7_init 15 = .ok (.aload_n 0, 1) := by decide +kernel
theorem dX7_init_16 : decode cX7_init 16 = .ok (.bipush 8, 2) := by decide +kernel
theorem dX7_init_18 : decode cX7_init 18 = .ok (.newarray .long, 2) := by decide +kernel
theorem dX7_init_20 : decode cX7_init 20 = .ok (.putfield 18, 3) := by decide +kernel
theorem dX7_init_23 : decode cX7_init 23 = .ok (.aload_n 0, 1) := by decide +kernel
theorem dX7_init_24 : decode cX7_init 24 = .ok (.sipush 200, 3) := by decide +kernel
theorem dX7_init_27 : decode cX7_init 27 = .ok (.newarray .boolean, 2) := by decide +kernel
theorem dX7_init_29 : decode cX7_init 29 = .ok (.putfield 22, 3) := by decide +kernel
theorem dX7_init_32 : decode cX7_init 32 = .ok (.aload_n 0, 1) := by decide +kernel
theorem dX7_init_33 : decode cX7_init 33 = .ok (.sipush 199, 3) := by decide +kernel
theorem dX7_init_36 : decode cX7_init 36 = .ok (.putfield 26, 3) := by decide +kernel
theorem dX7_init_39 : decode cX7_init 39 = .ok (.aload_n 0, 1) := by decide +kernel
theorem dX7_init_40 : decode cX7_init 40 = .ok (.iconst 0, 1) := by decide +kernel
theorem dX7_init_41 : decode cX7_init 41 = .ok (.putfield 30, 3) := by decide +kernel
theorem dX7_init_44 : decode cX7_init 44 = .ok (.aload_n 0, 1) := by decide +kernel
theorem dX7_init_45 : decode cX7_init 45 = .ok (.aload_n 1, 1) := by decide +kernel
theorem dX7_init_46 : decode cX7_init 46 = .ok (.putfield 33, 3) := by decide +kernel
theorem dX7_init_49 : decode cX7_init 49 = .ok (.aload_n 0, 1) := by decide +kernel
theorem dX7_init_50 : decode cX7_init 50 = .ok (.aload_n 2, 1) := by decide +kernel
theorem dX7_init_51 : decode cX7_init 51 = .ok (.putfield 37, 3) := by decide +kernel
theorem dX7_init_54 : decode cX7_init 54 = .ok (.aload_n 0, 1) := by decide +kernel
theorem dX7_init_55 : decode cX7_init 55 = .ok (.aload_n 3, 1) := by decide +kernel
theorem dX7_init_56 : decode cX7_init 56 = .ok (.putfield 41, 3) := by decide +kernel
theorem dX7_init_59 : decode cX7_init 59 = .ok (.return_, 1) := by decide +kernel
theorem dX7_pagesWritten_0 : decode cX7_pagesWritten 0 = .ok (.aload_n 0, 1) := by decide +kernel
theorem dX7_pagesWritten_1 : decode cX7_pagesWritten 1 = .ok (.getfield 30, 3) := by decide +kernel
theorem dX7_pagesWritten_4 : decode cX7_pagesWritten 4 = .ok (.ireturn, 1) := by decide +kernel
theorem dX7_startOver_0 : decode cX7_startOver 0 = .ok (.aload_n 0, 1) := by decide +kernel
theorem dX7_startOver_1 : decode cX7_startOver 1 = .ok (.sipush 199, 3) := by decide +kernel
theorem dX7_startOver_4 : decode cX7_startOver 4 = .ok (.putfield 26, 3) := by decide +kernel
theorem dX7_startOver_7 : decode cX7_startOver 7 = .ok (.return_, 1) := by decide +kernel
set_option maxRecDepth 20000 in
theorem ggX7_begin_X6_isLive : GoodIn wsX7_begin wsX6_isLive := goodIn_r _ [7, 8, 9, 10, 11, 20, 21, 22, 23, 24, 25, 26, 27] (by decide +kernel) (by decide +kernel)
set_option maxRecDepth 20000 in
theorem gX7_begin_X6_isLive : GoodIn wsX7_begin (wsV RX7 45 RX6 yX6_isLive wsX6_isLive) := goodIn_app (goodIn_of _ (by decide +kernel)) ggX7_begin_X6_isLive
theorem dX7_begin_0 : decode cX7_begin 0 = .ok (.iconst 0, 1) := by decide +kernel
theorem dX7_begin_1 : decode cX7_begin 1 = .ok (.istore_n 1, 1) := by decide +kernel
theorem dX7_begin_2 : decode cX7_begin 2 = .ok (.iload_n 1, 1) := by decide +kernel
theorem dX7_begin_3 : decode cX7_begin 3 = .ok (.sipush 200, 3) := by decide +kernel
theorem dX7_begin_6 : decode cX7_begin 6 = .ok (.if_icmp .ge 23, 3) := by decide +kernel
theorem dX7_begin_9 : decode cX7_begin 9 = .ok (.aload_n 0, 1) := by decide +kernel
theorem dX7_begin_10 : decode cX7_begin 10 = .ok (.getfield 22, 3) := by decide +kernel
theorem dX7_begin_13 : decode cX7_begin 13 = .ok (.iload_n 1, 1) := by decide +kernel
theorem dX7_begin_14 : decode cX7_begin 14 = .ok (.aload_n 0, 1) := by decide +kernel
theorem dX7_begin_15 : decode cX7_begin 15 = .ok (.getfield 41, 3) := by decide +kernel
theorem dX7_begin_18 : decode cX7_begin 18 = .ok (.iload_n 1, 1) := by decide +kernel
theorem dX7_begin_19 : decode cX7_begin 19 = .ok (.invokevirtual 45, 3) := by decide +kernel
theorem dX7_begin_22 : decode cX7_begin 22 = .ok (.bastore, 1) := by decide +kernel
theorem dX7_begin_23 : decode cX7_begin 23 = .ok (.iinc 1 1, 3) := by decide +kernel
theorem dX7_begin_26 : decode cX7_begin 26 = .ok (.goto (-24), 3) := by decide +kernel
theorem dX7_begin_29 : decode cX7_begin 29 = .ok (.return_, 1) := by decide +kernel
set_option maxRecDepth 20000 in
theorem ggX7_writeData_X8_dataPages : GoodIn wsX7_writeData wsX8_dataPages := goodIn_r _ [9] (by decide +kernel) (by decide +kernel)
set_option maxRecDepth 20000 in
theorem gX7_writeData_X8_dataPages_n52 : GoodIn wsX7_writeData (wsX8_dataPages) := ggX7_writeData_X8_dataPages
set_option maxRecDepth 20000 in
theorem ggX7_writeData_X0_setData : GoodIn wsX7_writeData wsX0_setData := goodIn_r _ [14, 15, 16, 17, 13, 18, 19, 20, 21, 22, 23, 24, 25, 26, 27, 28, 29, 30, 31, 32, 33, 34, 35, 36, 111, 112, 113] (by decide +kernel) (by decide +kernel)
set_option maxRecDepth 20000 in
theorem gX7_writeData_X0_setData : GoodIn wsX7_writeData (wsV RX7 62 RX0 yX0_setData wsX0_setData) := goodIn_app (goodIn_of _ (by decide +kernel)) ggX7_writeData_X0_setData
set_option maxRecDepth 20000 in
theorem ggX7_writeData_X7_writePage : GoodIn wsX7_writeData wsX7_writePage := goodIn_r _ [41, 42, 43, 44, 45, 46, 47, 48, 49, 50, 40, 51, 52, 53, 54, 55, 56, 57, 58, 5, 59, 60, 61, 62, 63, 64, 65, 66, 67, 68, 69, 70, 71, 2, 72, 8, 73, 74, 75, 76, 77, 78, 79, 13, 80, 19, 81, 82, 83, 84, 85, 86, 87, 88, 89, 90, 91, 92, 93, 94, 95, 96, 97, 98, 99, 100, 101, 102, 103, 104, 105, 106, 107, 108, 109, 110, 114, 115, 116, 117, 111, 118, 119] (by decide +kernel) (by decide +kernel)
set_option maxRecDepth 20000 in
theorem gX7_writeData_X7_writePage : GoodIn wsX7_writeData (wsV RX7 66 RX7 yX7_writePage wsX7_writePage) := goodIn_app (goodIn_of _ (by decide +kernel)) ggX7_writeData_X7_writePage
theorem dX7_writeData_0 : decode cX7_writeData 0 = .ok (.ldc 51, 2) := by decide +kernel
theorem dX7_writeData_2 : decode cX7_writeData 2 = .ok (.istore 5, 2) := by decide +kernel
theorem dX7_writeData_4 : decode cX7_writeData 4 = .ok (.iload 4, 2) := by decide +kernel
theorem dX7_writeData_6 : decode cX7_writeData 6 = .ok (.invokestatic 52, 3) := by decide +kernel
theorem dX7_writeData_9 : decode cX7_writeData 9 = .ok (.iconst 1, 1) := by decide +kernel
theorem dX7_writeData_10 : decode cX7_writeData 10 = .ok (.isub, 1) := by decide +kernel
theorem dX7_writeData_11 : decode cX7_writeData 11 = .ok (.istore 6, 2) := by decide +kernel
theorem dX7_writeData_13 : decode cX7_writeData 13 = .ok (.iload 6, 2) := by decide +kernel
theorem dX7_writeData_15 : decode cX7_writeData 15 = .ok (.ifCond .lt 54, 3) := by decide +kernel
theorem dX7_writeData_18 : decode cX7_writeData 18 = .ok (.iload 6, 2) := by decide +kernel
theorem dX7_writeData_20 : decode cX7_writeData 20 = .ok (.bipush 48, 2) := by decide +kernel
theorem dX7_writeData_22 : decode cX7_writeData 22 = .ok (.imul, 1) := by decide +kernel
theorem dX7_writeData_23 : decode cX7_writeData 23 = .ok (.istore 7, 2) := by decide +kernel
theorem dX7_writeData_25 : decode cX7_writeData 25 = .ok (.aload_n 0, 1) := by decide +kernel
theorem dX7_writeData_26 : decode cX7_writeData 26 = .ok (.getfield 12, 3) := by decide +kernel
theorem dX7_writeData_29 : decode cX7_writeData 29 = .ok (.iload 5, 2) := by decide +kernel
theorem dX7_writeData_31 : decode cX7_writeData 31 = .ok (.aload_n 3, 1) := by decide +kernel
theorem dX7_writeData_32 : decode cX7_writeData 32 = .ok (.iload 7, 2) := by decide +kernel
theorem dX7_writeData_34 : decode cX7_writeData 34 = .ok (.bipush 48, 2) := by decide +kernel
theorem dX7_writeData_36 : decode cX7_writeData 36 = .ok (.iload 4, 2) := by decide +kernel
theorem dX7_writeData_38 : decode cX7_writeData 38 = .ok (.iload 7, 2) := by decide +kernel
theorem dX7_writeData_40 : decode cX7_writeData 40 = .ok (.isub, 1) := by decide +kernel
theorem dX7_writeData_41 : decode cX7_writeData 41 = .ok (.invokestatic 56, 3) := by decide +kernel
theorem dX7_writeData_44 : decode cX7_writeData 44 = .ok (.invokevirtual 62, 3) := by decide +kernel
theorem dX7_writeData_47 : decode cX7_writeData 47 = .ok (.aload_n 0, 1) := by decide +kernel
theorem dX7_writeData_48 : decode cX7_writeData 48 = .ok (.iconst 2, 1) := by decide +kernel
theorem dX7_writeData_49 : decode cX7_writeData 49 = .ok (.lload_n 1, 1) := by decide +kernel
theorem dX7_writeData_50 : decode cX7_writeData 50 = .ok (.invokevirtual 66, 3) := by decide +kernel
theorem dX7_writeData_53 : decode cX7_writeData 53 = .ok (.istore 5, 2) := by decide +kernel
theorem dX7_writeData_55 : decode cX7_writeData 55 = .ok (.iload 5, 2) := by decide +kernel
theorem dX7_writeData_57 : decode cX7_writeData 57 = .ok (.iconst (-1), 1) := by decide +kernel
theorem dX7_writeData_58 : decode cX7_writeData 58 = .ok (.if_icmp .ne 5, 3) := by decide +kernel
theorem dX7_writeData_61 : decode cX7_writeData 61 = .ok (.iconst (-1), 1) := by decide +kernel
theorem dX7_writeData_62 : decode cX7_writeData 62 = .ok (.ireturn, 1) := by decide +kernel
theorem dX7_writeData_63 : decode cX7_writeData 63 = .ok (.iinc 6 (-1), 3) := by decide +kernel
theorem dX7_writeData_66 : decode cX7_writeData 66 = .ok (.goto (-53), 3) := by decide +kernel
theorem dX7_writeData_69 : decode cX7_writeData 69 = .ok (.iload 5, 2) := by decide +kernel
theorem dX7_writeData_71 : decode cX7_writeData 71 = .ok (.ireturn, 1) := by decide +kernel
set_option maxRecDepth 20000 in
theorem ggX7_writeBranch_X6_placeOf : GoodIn wsX7_writeBranch wsX6_placeOf := goodIn_r _ [6] (by decide +kernel) (by decide +kernel)
set_option maxRecDepth 20000 in
theorem gX7_writeBranch_X6_placeOf : GoodIn wsX7_writeBranch (va_wsS RX7 70 yX6_placeOf wsX6_placeOf) := goodIn_app (goodIn_of _ (by decide +kernel)) ggX7_writeBranch_X6_placeOf
set_option maxRecDepth 20000 in
theorem ggX7_writeBranch_X7_fillNode : GoodIn wsX7_writeBranch wsX7_fillNode := goodIn_r _ [11, 12, 13, 14, 15, 16, 17, 18, 19, 20, 21, 22, 5, 23, 24, 25, 26, 27, 28, 29, 30, 31, 32, 33, 34, 35, 36, 37, 38, 39, 40, 41, 42, 43, 123, 124, 125, 126, 127, 128, 129, 130, 131, 132, 133, 134, 135, 136, 137, 138, 139] (by decide +kernel) (by decide +kernel)
set_option maxRecDepth 20000 in
theorem gX7_writeBranch_X7_fillNode : GoodIn wsX7_writeBranch (wsV RX7 73 RX7 yX7_fillNode wsX7_fillNode) := goodIn_app (goodIn_of _ (by decide +kernel)) ggX7_writeBranch_X7_fillNode
set_option maxRecDepth 20000 in
theorem ggX7_writeBranch_X2_take : GoodIn wsX7_writeBranch wsX2_take := goodIn_r _ [48, 49, 50, 51, 52, 53, 54, 140, 141, 142, 143] (by decide +kernel) (by decide +kernel)
set_option maxRecDepth 20000 in
theorem gX7_writeBranch_X2_take : GoodIn wsX7_writeBranch (wsV RX7 77 RX2 yX2_take wsX2_take) := goodIn_app (goodIn_of _ (by decide +kernel)) ggX7_writeBranch_X2_take
set_option maxRecDepth 20000 in
theorem ggX7_writeBranch_X7_writePage : GoodIn wsX7_writeBranch wsX7_writePage := goodIn_r _ [58, 2, 1, 59, 60, 61, 62, 63, 64, 65, 10, 66, 67, 68, 69, 70, 71, 72, 73, 74, 75, 76, 77, 78, 79, 80, 81, 82, 83, 84, 85, 86, 87, 12, 88, 89, 90, 91, 92, 93, 94, 95, 96, 17, 97, 19, 98, 99, 100, 101, 102, 103, 104, 105, 106, 107, 108, 109, 110, 111, 112, 113, 52, 53, 54, 114, 115, 116, 123, 124, 125, 126, 127, 128, 129, 130, 144, 145, 146, 147, 131, 148, 149] (by decide +kernel) (by decide +kernel)
set_option maxRecDepth 20000 in
theorem gX7_writeBranch_X7_writePage : GoodIn wsX7_writeBranch (wsV RX7 66 RX7 yX7_writePage wsX7_writePage) := goodIn_app (goodIn_of _ (by decide +kernel)) ggX7_writeBranch_X7_writePage
set_option maxRecDepth 20000 in
theorem ggX7_writeBranch_X3_lastsForStep : GoodIn wsX7_writeBranch wsX3_lastsForStep := goodIn_r _ [102, 103, 104, 105, 106, 107, 101, 108, 148, 149] (by decide +kernel) (by decide +kernel)
set_option maxRecDepth 20000 in
theorem gX7_writeBranch_X3_lastsForStep : GoodIn wsX7_writeBranch (wsV RX7 83 RX3 yX3_lastsForStep wsX3_lastsForStep) := goodIn_app (goodIn_of _ (by decide +kernel)) ggX7_writeBranch_X3_lastsForStep
set_option maxRecDepth 20000 in
theorem ggX7_writeBranch_X1_writeCell : GoodIn wsX7_writeBranch wsX1_writeCell := goodIn_r _ [120, 121, 122, 114, 144, 145, 146, 147] (by decide +kernel) (by decide +kernel)
set_option maxRecDepth 20000 in
theorem gX7_writeBranch_X1_writeCell : GoodIn wsX7_writeBranch (wsV RX7 89 RX1 yX1_writeCell wsX1_writeCell) := goodIn_app (goodIn_of _ (by decide +kernel)) ggX7_writeBranch_X1_writeCell
theorem dX7_writeBranch_0 : decode cX7_writeBranch 0 = .ok (.lload_n 2, 1) := by decide +kernel
theorem dX7_writeBranch_1 : decode cX7_writeBranch 1 = .ok (.lstore 6, 2) := by decide +kernel
theorem dX7_writeBranch_3 : decode cX7_writeBranch 3 = .ok (.iload 4, 2) := by decide +kernel
theorem dX7_writeBranch_5 : decode cX7_writeBranch 5 = .ok (.istore 8, 2) := by decide +kernel
theorem dX7_writeBranch_7 : decode cX7_writeBranch 7 = .ok (.iload_n 1, 1) := by decide +kernel
theorem dX7_writeBranch_8 : decode cX7_writeBranch 8 = .ok (.invokestatic 70, 3) := by decide +kernel
theorem dX7_writeBranch_11 : decode cX7_writeBranch 11 = .ok (.istore 9, 2) := by decide +kernel
theorem dX7_writeBranch_13 : decode cX7_writeBranch 13 = .ok (.iconst 0, 1) := by decide +kernel
theorem dX7_writeBranch_14 : decode cX7_writeBranch 14 = .ok (.istore 10, 2) := by decide +kernel
theorem dX7_writeBranch_16 : decode cX7_writeBranch 16 = .ok (.iload 10, 2) := by decide +kernel
theorem dX7_writeBranch_18 : decode cX7_writeBranch 18 = .ok (.iconst 3, 1) := by decide +kernel
theorem dX7_writeBranch_19 : decode cX7_writeBranch 19 = .ok (.if_icmp .ge 86, 3) := by decide +kernel
theorem dX7_writeBranch_22 : decode cX7_writeBranch 22 = .ok (.iload 9, 2) := by decide +kernel
theorem dX7_writeBranch_24 : decode cX7_writeBranch 24 = .ok (.iconst 1, 1) := by decide +kernel
theorem dX7_writeBranch_25 : decode cX7_writeBranch 25 = .ok (.isub, 1) := by decide +kernel
theorem dX7_writeBranch_26 : decode cX7_writeBranch 26 = .ok (.iconst 4, 1) := by decide +kernel
theorem dX7_writeBranch_27 : decode cX7_writeBranch 27 = .ok (.idiv, 1) := by decide +kernel
theorem dX7_writeBranch_28 : decode cX7_writeBranch 28 = .ok (.istore 11, 2) := by decide +kernel
theorem dX7_writeBranch_30 : decode cX7_writeBranch 30 = .ok (.aload_n 0, 1) := by decide +kernel
theorem dX7_writeBranch_31 : decode cX7_writeBranch 31 = .ok (.iload 11, 2) := by decide +kernel
theorem dX7_writeBranch_33 : decode cX7_writeBranch 33 = .ok (.iload 9, 2) := by decide +kernel
theorem dX7_writeBranch_35 : decode cX7_writeBranch 35 = .ok (.lload 6, 2) := by decide +kernel
theorem dX7_writeBranch_37 : decode cX7_writeBranch 37 = .ok (.iload 8, 2) := by decide +kernel
theorem dX7_writeBranch_39 : decode cX7_writeBranch 39 = .ok (.invokevirtual 73, 3) := by decide +kernel
theorem dX7_writeBranch_42 : decode cX7_writeBranch 42 = .ok (.ifCond .ne 7, 3) := by decide +kernel
theorem dX7_writeBranch_45 : decode cX7_writeBranch 45 = .ok (.iconst 1, 1) := by decide +kernel
theorem dX7_writeBranch_46 : decode cX7_writeBranch 46 = .ok (.goto 4, 3) := by decide +kernel
theorem dX7_writeBranch_49 : decode cX7_writeBranch 49 = .ok (.iconst 0, 1) := by decide +kernel
theorem dX7_writeBranch_50 : decode cX7_writeBranch 50 = .ok (.istore 12, 2) := by decide +kernel
theorem dX7_writeBranch_52 : decode cX7_writeBranch 52 = .ok (.iload 12, 2) := by decide +kernel
theorem dX7_writeBranch_54 : decode cX7_writeBranch 54 = .ok (.ifCond .eq 17, 3) := by decide +kernel
theorem dX7_writeBranch_57 : decode cX7_writeBranch 57 = .ok (.iload 11, 2) := by decide +kernel
theorem dX7_writeBranch_59 : decode cX7_writeBranch 59 = .ok (.ifCond .eq 12, 3) := by decide +kernel
theorem dX7_writeBranch_62 : decode cX7_writeBranch 62 = .ok (.lconst 0, 1) := by decide +kernel
theorem dX7_writeBranch_63 : decode cX7_writeBranch 63 = .ok (.lstore 6, 2) := by decide +kernel
theorem dX7_writeBranch_65 : decode cX7_writeBranch 65 = .ok (.iconst 0, 1) := by decide +kernel
theorem dX7_writeBranch_66 : decode cX7_writeBranch 66 = .ok (.istore 8, 2) := by decide +kernel
theorem dX7_writeBranch_68 : decode cX7_writeBranch 68 = .ok (.goto 27, 3) := by decide +kernel
theorem dX7_writeBranch_71 : decode cX7_writeBranch 71 = .ok (.aload 5, 2) := by decide +kernel
theorem dX7_writeBranch_73 : decode cX7_writeBranch 73 = .ok (.invokevirtual 77, 3) := by decide +kernel
theorem dX7_writeBranch_76 : decode cX7_writeBranch 76 = .ok (.lstore 6, 2) := by decide +kernel
theorem dX7_writeBranch_78 : decode cX7_writeBranch 78 = .ok (.aload_n 0, 1) := by decide +kernel
theorem dX7_writeBranch_79 : decode cX7_writeBranch 79 = .ok (.iconst 1, 1) := by decide +kernel
theorem dX7_writeBranch_80 : decode cX7_writeBranch 80 = .ok (.lload 6, 2) := by decide +kernel
theorem dX7_writeBranch_82 : decode cX7_writeBranch 82 = .ok (.invokevirtual 66, 3) := by decide +kernel
theorem dX7_writeBranch_85 : decode cX7_writeBranch 85 = .ok (.istore 8, 2) := by decide +kernel
theorem dX7_writeBranch_87 : decode cX7_writeBranch 87 = .ok (.iload 8, 2) := by decide +kernel
theorem dX7_writeBranch_89 : decode cX7_writeBranch 89 = .ok (.iconst (-1), 1) := by decide +kernel
theorem dX7_writeBranch_90 : decode cX7_writeBranch 90 = .ok (.if_icmp .ne 5, 3) := by decide +kernel
theorem dX7_writeBranch_93 : decode cX7_writeBranch 93 = .ok (.iconst 0, 1) := by decide +kernel
theorem dX7_writeBranch_94 : decode cX7_writeBranch 94 = .ok (.ireturn, 1) := by decide +kernel
theorem dX7_writeBranch_95 : decode cX7_writeBranch 95 = .ok (.iload 11, 2) := by decide +kernel
theorem dX7_writeBranch_97 : decode cX7_writeBranch 97 = .ok (.istore 9, 2) := by decide +kernel
theorem dX7_writeBranch_99 : decode cX7_writeBranch 99 = .ok (.iinc 10 1, 3) := by decide +kernel
theorem dX7_writeBranch_102 : decode cX7_writeBranch 102 = .ok (.goto (-86), 3) := by decide +kernel
theorem dX7_writeBranch_105 : decode cX7_writeBranch 105 = .ok (.aload_n 0, 1) := by decide +kernel
theorem dX7_writeBranch_106 : decode cX7_writeBranch 106 = .ok (.getfield 37, 3) := by decide +kernel
theorem dX7_writeBranch_109 : decode cX7_writeBranch 109 = .ok (.invokevirtual 83, 3) := by decide +kernel
theorem dX7_writeBranch_112 : decode cX7_writeBranch 112 = .ok (.ifCond .ne 5, 3) := by decide +kernel
theorem dX7_writeBranch_115 : decode cX7_writeBranch 115 = .ok (.iconst 0, 1) := by decide +kernel
theorem dX7_writeBranch_116 : decode cX7_writeBranch 116 = .ok (.ireturn, 1) := by decide +kernel
theorem dX7_writeBranch_117 : decode cX7_writeBranch 117 = .ok (.aload_n 0, 1) := by decide +kernel
theorem dX7_writeBranch_118 : decode cX7_writeBranch 118 = .ok (.getfield 33, 3) := by decide +kernel
theorem dX7_writeBranch_121 : decode cX7_writeBranch 121 = .ok (.lload 6, 2) := by decide +kernel
theorem dX7_writeBranch_123 : decode cX7_writeBranch 123 = .ok (.iload 8, 2) := by decide +kernel
theorem dX7_writeBranch_125 : decode cX7_writeBranch 125 = .ok (.invokevirtual 89, 3) := by decide +kernel
theorem dX7_writeBranch_128 : decode cX7_writeBranch 128 = .ok (.iconst 1, 1) := by decide +kernel
theorem dX7_writeBranch_129 : decode cX7_writeBranch 129 = .ok (.ireturn, 1) := by decide +kernel
set_option maxRecDepth 20000 in
theorem ggX7_fillNode_X0_clear : GoodIn wsX7_fillNode wsX0_clear := goodIn_r _ [7, 8, 42] (by decide +kernel) (by decide +kernel)
set_option maxRecDepth 20000 in
theorem gX7_fillNode_X0_clear : GoodIn wsX7_fillNode (wsV RX7 95 RX0 yX0_clear wsX0_clear) := goodIn_app (goodIn_of _ (by decide +kernel)) ggX7_fillNode_X0_clear
set_option maxRecDepth 20000 in
theorem ggX7_fillNode_X6_keyAt : GoodIn wsX7_fillNode wsX6_keyAt := goodIn_r _ [13, 14, 43, 44, 45, 46, 47, 48, 49, 50] (by decide +kernel) (by decide +kernel)
set_option maxRecDepth 20000 in
theorem gX7_fillNode_X6_keyAt : GoodIn wsX7_fillNode (wsV RX7 98 RX6 yX6_keyAt wsX6_keyAt) := goodIn_app (goodIn_of _ (by decide +kernel)) ggX7_fillNode_X6_keyAt
set_option maxRecDepth 20000 in
theorem ggX7_fillNode_X6_linkAt : GoodIn wsX7_fillNode wsX6_linkAt := goodIn_r _ [18, 19, 43, 44, 45, 46, 47, 48, 49, 50] (by decide +kernel) (by decide +kernel)
set_option maxRecDepth 20000 in
theorem gX7_fillNode_X6_linkAt : GoodIn wsX7_fillNode (wsV RX7 102 RX6 yX6_linkAt wsX6_linkAt) := goodIn_app (goodIn_of _ (by decide +kernel)) ggX7_fillNode_X6_linkAt
set_option maxRecDepth 20000 in
theorem ggX7_fillNode_X0_setEntry : GoodIn wsX7_fillNode wsX0_setEntry := goodIn_r _ [23, 24, 25, 26, 6, 27, 28, 29, 30, 31, 8, 32, 33, 42] (by decide +kernel) (by decide +kernel)
set_option maxRecDepth 20000 in
theorem gX7_fillNode_X0_setEntry : GoodIn wsX7_fillNode (wsV RX7 105 RX0 yX0_setEntry wsX0_setEntry) := goodIn_app (goodIn_of _ (by decide +kernel)) ggX7_fillNode_X0_setEntry
theorem dX7_fillNode_0 : decode cX7_fillNode 0 = .ok (.iconst 0, 1) := by decide +kernel
theorem dX7_fillNode_1 : decode cX7_fillNode 1 = .ok (.istore 6, 2) := by decide +kernel
theorem dX7_fillNode_3 : decode cX7_fillNode 3 = .ok (.aload_n 0, 1) := by decide +kernel
theorem dX7_fillNode_4 : decode cX7_fillNode 4 = .ok (.getfield 12, 3) := by decide +kernel
theorem dX7_fillNode_7 : decode cX7_fillNode 7 = .ok (.invokevirtual 95, 3) := by decide +kernel
theorem dX7_fillNode_10 : decode cX7_fillNode 10 = .ok (.iconst 0, 1) := by decide +kernel
theorem dX7_fillNode_11 : decode cX7_fillNode 11 = .ok (.istore 7, 2) := by decide +kernel
theorem dX7_fillNode_13 : decode cX7_fillNode 13 = .ok (.iload 7, 2) := by decide +kernel
theorem dX7_fillNode_15 : decode cX7_fillNode 15 = .ok (.iconst 4, 1) := by decide +kernel
theorem dX7_fillNode_16 : decode cX7_fillNode 16 = .ok (.if_icmp .ge 81, 3) := by decide +kernel
theorem dX7_fillNode_19 : decode cX7_fillNode 19 = .ok (.iload_n 1, 1) := by decide +kernel
theorem dX7_fillNode_20 : decode cX7_fillNode 20 = .ok (.iconst 4, 1) := by decide +kernel
theorem dX7_fillNode_21 : decode cX7_fillNode 21 = .ok (.imul, 1) := by decide +kernel
theorem dX7_fillNode_22 : decode cX7_fillNode 22 = .ok (.iconst 1, 1) := by decide +kernel
theorem dX7_fillNode_23 : decode cX7_fillNode 23 = .ok (.iadd, 1) := by decide +kernel
theorem dX7_fillNode_24 : decode cX7_fillNode 24 = .ok (.iload 7, 2) := by decide +kernel
theorem dX7_fillNode_26 : decode cX7_fillNode 26 = .ok (.iadd, 1) := by decide +kernel
theorem dX7_fillNode_27 : decode cX7_fillNode 27 = .ok (.istore 8, 2) := by decide +kernel
theorem dX7_fillNode_29 : decode cX7_fillNode 29 = .ok (.iload 8, 2) := by decide +kernel
theorem dX7_fillNode_31 : decode cX7_fillNode 31 = .ok (.iload_n 2, 1) := by decide +kernel
theorem dX7_fillNode_32 : decode cX7_fillNode 32 = .ok (.if_icmp .ne 7, 3) := by decide +kernel
theorem dX7_fillNode_35 : decode cX7_fillNode 35 = .ok (.lload_n 3, 1) := by decide +kernel
theorem dX7_fillNode_36 : decode cX7_fillNode 36 = .ok (.goto 12, 3) := by decide +kernel
theorem dX7_fillNode_39 : decode cX7_fillNode 39 = .ok (.aload_n 0, 1) := by decide +kernel
theorem dX7_fillNode_40 : decode cX7_fillNode 40 = .ok (.getfield 41, 3) := by decide +kernel
theorem dX7_fillNode_43 : decode cX7_fillNode 43 = .ok (.iload 8, 2) := by decide +kernel
theorem dX7_fillNode_45 : decode cX7_fillNode 45 = .ok (.invokevirtual 98, 3) := by decide +kernel
theorem dX7_fillNode_48 : decode cX7_fillNode 48 = .ok (.lstore 9, 2) := by decide +kernel
theorem dX7_fillNode_50 : decode cX7_fillNode 50 = .ok (.lload 9, 2) := by decide +kernel
theorem dX7_fillNode_52 : decode cX7_fillNode 52 = .ok (.lconst 0, 1) := by decide +kernel
theorem dX7_fillNode_53 : decode cX7_fillNode 53 = .ok (.lcmp, 1) := by decide +kernel
theorem dX7_fillNode_54 : decode cX7_fillNode 54 = .ok (.ifCond .eq 37, 3) := by decide +kernel
theorem dX7_fillNode_57 : decode cX7_fillNode 57 = .ok (.aload_n 0, 1) := by decide +kernel
theorem dX7_fillNode_58 : decode cX7_fillNode 58 = .ok (.getfield 12, 3) := by decide +kernel
theorem dX7_fillNode_61 : decode cX7_fillNode 61 = .ok (.iload 7, 2) := by decide +kernel
theorem dX7_fillNode_63 : decode cX7_fillNode 63 = .ok (.lload 9, 2) := by decide +kernel
theorem dX7_fillNode_65 : decode cX7_fillNode 65 = .ok (.iload 8, 2) := by decide +kernel
theorem dX7_fillNode_67 : decode cX7_fillNode 67 = .ok (.iload_n 2, 1) := by decide +kernel
theorem dX7_fillNode_68 : decode cX7_fillNode 68 = .ok (.if_icmp .ne 8, 3) := by decide +kernel
theorem dX7_fillNode_71 : decode cX7_fillNode 71 = .ok (.iload 5, 2) := by decide +kernel
theorem dX7_fillNode_73 : decode cX7_fillNode 73 = .ok (.goto 12, 3) := by decide +kernel
theorem dX7_fillNode_76 : decode cX7_fillNode 76 = .ok (.aload_n 0, 1) := by decide +kernel
theorem dX7_fillNode_77 : decode cX7_fillNode 77 = .ok (.getfield 41, 3) := by decide +kernel
theorem dX7_fillNode_80 : decode cX7_fillNode 80 = .ok (.iload 8, 2) := by decide +kernel
theorem dX7_fillNode_82 : decode cX7_fillNode 82 = .ok (.invokevirtual 102, 3) := by decide +kernel
theorem dX7_fillNode_85 : decode cX7_fillNode 85 = .ok (.invokevirtual 105, 3) := by decide +kernel
theorem dX7_fillNode_88 : decode cX7_fillNode 88 = .ok (.iconst 1, 1) := by decide +kernel
theorem dX7_fillNode_89 : decode cX7_fillNode 89 = .ok (.istore 6, 2) := by decide +kernel
theorem dX7_fillNode_91 : decode cX7_fillNode 91 = .ok (.iinc 7 1, 3) := by decide +kernel
theorem dX7_fillNode_94 : decode cX7_fillNode 94 = .ok (.goto (-81), 3) := by decide +kernel
theorem dX7_fillNode_97 : decode cX7_fillNode 97 = .ok (.iload 6, 2) := by decide +kernel
theorem dX7_fillNode_99 : decode cX7_fillNode 99 = .ok (.ireturn, 1) := by decide +kernel
set_option maxRecDepth 20000 in
theorem ggX7_writePage_X7_freePage : GoodIn wsX7_writePage wsX7_freePage := goodIn_r _ [11, 5, 4, 68, 69, 70, 71, 72, 73, 74, 75] (by decide +kernel) (by decide +kernel)
set_option maxRecDepth 20000 in
theorem gX7_writePage_X7_freePage : GoodIn wsX7_writePage (wsV RX7 109 RX7 yX7_freePage wsX7_freePage) := goodIn_app (goodIn_of _ (by decide +kernel)) ggX7_writePage_X7_freePage
set_option maxRecDepth 20000 in
theorem ggX7_writePage_X1_nextWriting : GoodIn wsX7_writePage wsX1_nextWriting := goodIn_r _ [16, 17, 18, 19, 20, 21, 22, 23, 15, 24, 25, 26, 76, 77, 78, 79] (by decide +kernel) (by decide +kernel)
set_option maxRecDepth 20000 in
theorem gX7_writePage_X1_nextWriting : GoodIn wsX7_writePage (wsV RX7 113 RX1 yX1_nextWriting wsX1_nextWriting) := goodIn_app (goodIn_of _ (by decide +kernel)) ggX7_writePage_X1_nextWriting
set_option maxRecDepth 20000 in
theorem ggX7_writePage_X7_seal : GoodIn wsX7_writePage wsX7_seal := goodIn_r _ [30, 31, 3, 32, 33, 34, 35, 36, 37, 38, 39, 40, 41, 42, 43, 44, 45, 68, 69, 70, 71, 72, 73, 74, 75, 80] (by decide +kernel) (by decide +kernel)
set_option maxRecDepth 20000 in
theorem gX7_writePage_X7_seal : GoodIn wsX7_writePage (wsV RX7 116 RX7 yX7_seal wsX7_seal) := goodIn_app (goodIn_of _ (by decide +kernel)) ggX7_writePage_X7_seal
set_option maxRecDepth 20000 in
theorem ggX7_writePage_X3_lastsForStep : GoodIn wsX7_writePage wsX3_lastsForStep := goodIn_r _ [50, 51, 52, 53, 54, 55, 49, 56, 81, 82] (by decide +kernel) (by decide +kernel)
set_option maxRecDepth 20000 in
theorem gX7_writePage_X3_lastsForStep : GoodIn wsX7_writePage (wsV RX7 83 RX3 yX3_lastsForStep wsX3_lastsForStep) := goodIn_app (goodIn_of _ (by decide +kernel)) ggX7_writePage_X3_lastsForStep
set_option maxRecDepth 20000 in
theorem ggX7_writePage_X1_writePart : GoodIn wsX7_writePage wsX1_writePart := goodIn_r _ [60, 25, 61, 62, 63, 64, 65, 66, 35, 67, 76, 77, 78, 79] (by decide +kernel) (by decide +kernel)
set_option maxRecDepth 20000 in
theorem gX7_writePage_X1_writePart : GoodIn wsX7_writePage (wsV RX7 120 RX1 yX1_writePart wsX1_writePart) := goodIn_app (goodIn_of _ (by decide +kernel)) ggX7_writePage_X1_writePart
theorem dX7_writePage_0 : decode cX7_writePage 0 = .ok (.aload_n 0, 1) := by decide +kernel
theorem dX7_writePage_1 : decode cX7_writePage 1 = .ok (.invokevirtual 109, 3) := by decide +kernel
theorem dX7_writePage_4 : decode cX7_writePage 4 = .ok (.istore 4, 2) := by decide +kernel
theorem dX7_writePage_6 : decode cX7_writePage 6 = .ok (.iload 4, 2) := by decide +kernel
theorem dX7_writePage_8 : decode cX7_writePage 8 = .ok (.iconst (-1), 1) := by decide +kernel
theorem dX7_writePage_9 : decode cX7_writePage 9 = .ok (.if_icmp .ne 5, 3) := by decide +kernel
theorem dX7_writePage_12 : decode cX7_writePage 12 = .ok (.iconst (-1), 1) := by decide +kernel
theorem dX7_writePage_13 : decode cX7_writePage 13 = .ok (.ireturn, 1) := by decide +kernel
theorem dX7_writePage_14 : decode cX7_writePage 14 = .ok (.aload_n 0, 1) := by decide +kernel
theorem dX7_writePage_15 : decode cX7_writePage 15 = .ok (.iload_n 1, 1) := by decide +kernel
theorem dX7_writePage_16 : decode cX7_writePage 16 = .ok (.lload_n 2, 1) := by decide +kernel
theorem dX7_writePage_17 : decode cX7_writePage 17 = .ok (.aload_n 0, 1) := by decide +kernel
theorem dX7_writePage_18 : decode cX7_writePage 18 = .ok (.getfield 33, 3) := by decide +kernel
theorem dX7_writePage_21 : decode cX7_writePage 21 = .ok (.invokevirtual 113, 3) := by decide +kernel
theorem dX7_writePage_24 : decode cX7_writePage 24 = .ok (.invokevirtual 116, 3) := by decide +kernel
theorem dX7_writePage_27 : decode cX7_writePage 27 = .ok (.iconst 3, 1) := by decide +kernel
theorem dX7_writePage_28 : decode cX7_writePage 28 = .ok (.istore 5, 2) := by decide +kernel
theorem dX7_writePage_30 : decode cX7_writePage 30 = .ok (.iload 5, 2) := by decide +kernel
theorem dX7_writePage_32 : decode cX7_writePage 32 = .ok (.ifCond .lt 36, 3) := by decide +kernel
theorem dX7_writePage_35 : decode cX7_writePage 35 = .ok (.aload_n 0, 1) := by decide +kernel
theorem dX7_writePage_36 : decode cX7_writePage 36 = .ok (.getfield 37, 3) := by decide +kernel
theorem dX7_writePage_39 : decode cX7_writePage 39 = .ok (.invokevirtual 83, 3) := by decide +kernel
theorem dX7_writePage_42 : decode cX7_writePage 42 = .ok (.ifCond .ne 5, 3) := by decide +kernel
theorem dX7_writePage_45 : decode cX7_writePage 45 = .ok (.iconst (-1), 1) := by decide +kernel
theorem dX7_writePage_46 : decode cX7_writePage 46 = .ok (.ireturn, 1) := by decide +kernel
theorem dX7_writePage_47 : decode cX7_writePage 47 = .ok (.aload_n 0, 1) := by decide +kernel
theorem dX7_writePage_48 : decode cX7_writePage 48 = .ok (.getfield 33, 3) := by decide +kernel
theorem dX7_writePage_51 : decode cX7_writePage 51 = .ok (.iload 4, 2) := by decide +kernel
theorem dX7_writePage_53 : decode cX7_writePage 53 = .ok (.iload 5, 2) := by decide +kernel
theorem dX7_writePage_55 : decode cX7_writePage 55 = .ok (.aload_n 0, 1) := by decide +kernel
theorem dX7_writePage_56 : decode cX7_writePage 56 = .ok (.getfield 18, 3) := by decide +kernel
theorem dX7_writePage_59 : decode cX7_writePage 59 = .ok (.invokevirtual 120, 3) := by decide +kernel
theorem dX7_writePage_62 : decode cX7_writePage 62 = .ok (.iinc 5 (-1), 3) := by decide +kernel
theorem dX7_writePage_65 : decode cX7_writePage 65 = .ok (.goto (-35), 3) := by decide +kernel
theorem dX7_writePage_68 : decode cX7_writePage 68 = .ok (.aload_n 0, 1) := by decide +kernel
theorem dX7_writePage_69 : decode cX7_writePage 69 = .ok (.getfield 22, 3) := by decide +kernel
theorem dX7_writePage_72 : decode cX7_writePage 72 = .ok (.iload 4, 2) := by decide +kernel
theorem dX7_writePage_74 : decode cX7_writePage 74 = .ok (.iconst 1, 1) := by decide +kernel
theorem dX7_writePage_75 : decode cX7_writePage 75 = .ok (.bastore, 1) := by decide +kernel
theorem dX7_writePage_76 : decode cX7_writePage 76 = .ok (.aload_n 0, 1) := by decide +kernel
theorem dX7_writePage_77 : decode cX7_writePage 77 = .ok (.iload 4, 2) := by decide +kernel
theorem dX7_writePage_79 : decode cX7_writePage 79 = .ok (.putfield 26, 3) := by decide +kernel
theorem dX7_writePage_82 : decode cX7_writePage 82 = .ok (.aload_n 0, 1) := by decide +kernel
theorem dX7_writePage_83 : decode cX7_writePage 83 = .ok (.dup, 1) := by decide +kernel
theorem dX7_writePage_84 : decode cX7_writePage 84 = .ok (.getfield 30, 3) := by decide +kernel
theorem dX7_writePage_87 : decode cX7_writePage 87 = .ok (.iconst 1, 1) := by decide +kernel
theorem dX7_writePage_88 : decode cX7_writePage 88 = .ok (.iadd, 1) := by decide +kernel
theorem dX7_writePage_89 : decode cX7_writePage 89 = .ok (.putfield 30, 3) := by decide +kernel
theorem dX7_writePage_92 : decode cX7_writePage 92 = .ok (.iload 4, 2) := by decide +kernel
theorem dX7_writePage_94 : decode cX7_writePage 94 = .ok (.ireturn, 1) := by decide +kernel
theorem dX7_freePage_0 : decode cX7_freePage 0 = .ok (.iconst 1, 1) := by decide +kernel
theorem dX7_freePage_1 : decode cX7_freePage 1 = .ok (.istore_n 1, 1) := by decide +kernel
theorem dX7_freePage_2 : decode cX7_freePage 2 = .ok (.iload_n 1, 1) := by decide +kernel
theorem dX7_freePage_3 : decode cX7_freePage 3 = .ok (.sipush 200, 3) := by decide +kernel
theorem dX7_freePage_6 : decode cX7_freePage 6 = .ok (.if_icmp .gt 31, 3) := by decide +kernel
theorem dX7_freePage_9 : decode cX7_freePage 9 = .ok (.aload_n 0, 1) := by decide +kernel
theorem dX7_freePage_10 : decode cX7_freePage 10 = .ok (.getfield 26, 3) := by decide +kernel
theorem dX7_freePage_13 : decode cX7_freePage 13 = .ok (.iload_n 1, 1) := by decide +kernel
theorem dX7_freePage_14 : decode cX7_freePage 14 = .ok (.iadd, 1) := by decide +kernel
theorem dX7_freePage_15 : decode cX7_freePage 15 = .ok (.sipush 200, 3) := by decide +kernel
theorem dX7_freePage_18 : decode cX7_freePage 18 = .ok (.irem, 1) := by decide +kernel
theorem dX7_freePage_19 : decode cX7_freePage 19 = .ok (.istore_n 2, 1) := by decide +kernel
theorem dX7_freePage_20 : decode cX7_freePage 20 = .ok (.aload_n 0, 1) := by decide +kernel
theorem dX7_freePage_21 : decode cX7_freePage 21 = .ok (.getfield 22, 3) := by decide +kernel
theorem dX7_freePage_24 : decode cX7_freePage 24 = .ok (.iload_n 2, 1) := by decide +kernel
theorem dX7_freePage_25 : decode cX7_freePage 25 = .ok (.baload, 1) := by decide +kernel
theorem dX7_freePage_26 : decode cX7_freePage 26 = .ok (.ifCond .ne 5, 3) := by decide +kernel
theorem dX7_freePage_29 : decode cX7_freePage 29 = .ok (.iload_n 2, 1) := by decide +kernel
theorem dX7_freePage_30 : decode cX7_freePage 30 = .ok (.ireturn, 1) := by decide +kernel
theorem dX7_freePage_31 : decode cX7_freePage 31 = .ok (.iinc 1 1, 3) := by decide +kernel
theorem dX7_freePage_34 : decode cX7_freePage 34 = .ok (.goto (-32), 3) := by decide +kernel
theorem dX7_freePage_37 : decode cX7_freePage 37 = .ok (.iconst (-1), 1) := by decide +kernel
theorem dX7_freePage_38 : decode cX7_freePage 38 = .ok (.ireturn, 1) := by decide +kernel
set_option maxRecDepth 20000 in
theorem ggX7_seal_X8_padOf : GoodIn wsX7_seal wsX8_padOf := goodIn_r _ [7, 8, 9, 10] (by decide +kernel) (by decide +kernel)
set_option maxRecDepth 20000 in
theorem gX7_seal_X8_padOf_n126 : GoodIn wsX7_seal (wsX8_padOf) := ggX7_seal_X8_padOf
set_option maxRecDepth 20000 in
theorem ggX7_seal_X0_word : GoodIn wsX7_seal wsX0_word := goodIn_r _ [15, 16, 25] (by decide +kernel) (by decide +kernel)
set_option maxRecDepth 20000 in
theorem gX7_seal_X0_word : GoodIn wsX7_seal (wsV RX7 132 RX0 yX0_word wsX0_word) := goodIn_app (goodIn_of _ (by decide +kernel)) ggX7_seal_X0_word
theorem dX7_seal_0 : decode cX7_seal 0 = .ok (.lload_n 2, 1) := by decide +kernel
theorem dX7_seal_1 : decode cX7_seal 1 = .ok (.lload 4, 2) := by decide +kernel
theorem dX7_seal_3 : decode cX7_seal 3 = .ok (.ldc2_w 124, 3) := by decide +kernel
theorem dX7_seal_6 : decode cX7_seal 6 = .ok (.invokestatic 126, 3) := by decide +kernel
theorem dX7_seal_9 : decode cX7_seal 9 = .ok (.lstore 6, 2) := by decide +kernel
theorem dX7_seal_11 : decode cX7_seal 11 = .ok (.aload_n 0, 1) := by decide +kernel
theorem dX7_seal_12 : decode cX7_seal 12 = .ok (.getfield 18, 3) := by decide +kernel
theorem dX7_seal_15 : decode cX7_seal 15 = .ok (.iconst 0, 1) := by decide +kernel
theorem dX7_seal_16 : decode cX7_seal 16 = .ok (.iload_n 1, 1) := by decide +kernel
theorem dX7_seal_17 : decode cX7_seal 17 = .ok (.i2l, 1) := by decide +kernel
theorem dX7_seal_18 : decode cX7_seal 18 = .ok (.bipush 56, 2) := by decide +kernel
theorem dX7_seal_20 : decode cX7_seal 20 = .ok (.lshl, 1) := by decide +kernel
theorem dX7_seal_21 : decode cX7_seal 21 = .ok (.lload 4, 2) := by decide +kernel
theorem dX7_seal_23 : decode cX7_seal 23 = .ok (.ldc2_w 130, 3) := by decide +kernel
theorem dX7_seal_26 : decode cX7_seal 26 = .ok (.land, 1) := by decide +kernel
theorem dX7_seal_27 : decode cX7_seal 27 = .ok (.bipush 24, 2) := by decide +kernel
theorem dX7_seal_29 : decode cX7_seal 29 = .ok (.lshl, 1) := by decide +kernel
theorem dX7_seal_30 : decode cX7_seal 30 = .ok (.lor, 1) := by decide +kernel
theorem dX7_seal_31 : decode cX7_seal 31 = .ok (.lload 6, 2) := by decide +kernel
theorem dX7_seal_33 : decode cX7_seal 33 = .ok (.bipush 40, 2) := by decide +kernel
theorem dX7_seal_35 : decode cX7_seal 35 = .ok (.lushr, 1) := by decide +kernel
theorem dX7_seal_36 : decode cX7_seal 36 = .ok (.lor, 1) := by decide +kernel
theorem dX7_seal_37 : decode cX7_seal 37 = .ok (.lastore, 1) := by decide +kernel
theorem dX7_seal_38 : decode cX7_seal 38 = .ok (.iconst 0, 1) := by decide +kernel
theorem dX7_seal_39 : decode cX7_seal 39 = .ok (.istore 8, 2) := by decide +kernel
theorem dX7_seal_41 : decode cX7_seal 41 = .ok (.iload 8, 2) := by decide +kernel
theorem dX7_seal_43 : decode cX7_seal 43 = .ok (.bipush 7, 2) := by decide +kernel
theorem dX7_seal_45 : decode cX7_seal 45 = .ok (.if_icmp .ge 54, 3) := by decide +kernel
theorem dX7_seal_48 : decode cX7_seal 48 = .ok (.aload_n 0, 1) := by decide +kernel
theorem dX7_seal_49 : decode cX7_seal 49 = .ok (.getfield 12, 3) := by decide +kernel
theorem dX7_seal_52 : decode cX7_seal 52 = .ok (.iload 8, 2) := by decide +kernel
theorem dX7_seal_54 : decode cX7_seal 54 = .ok (.invokevirtual 132, 3) := by decide +kernel
theorem dX7_seal_57 : decode cX7_seal 57 = .ok (.lload_n 2, 1) := by decide +kernel
theorem dX7_seal_58 : decode cX7_seal 58 = .ok (.lload 4, 2) := by decide +kernel
theorem dX7_seal_60 : decode cX7_seal 60 = .ok (.iload 8, 2) := by decide +kernel
theorem dX7_seal_62 : decode cX7_seal 62 = .ok (.i2l, 1) := by decide +kernel
theorem dX7_seal_63 : decode cX7_seal 63 = .ok (.invokestatic 126, 3) := by decide +kernel
theorem dX7_seal_66 : decode cX7_seal 66 = .ok (.lxor, 1) := by decide +kernel
theorem dX7_seal_67 : decode cX7_seal 67 = .ok (.lstore 9, 2) := by decide +kernel
theorem dX7_seal_69 : decode cX7_seal 69 = .ok (.aload_n 0, 1) := by decide +kernel
theorem dX7_seal_70 : decode cX7_seal 70 = .ok (.getfield 18, 3) := by decide +kernel
theorem dX7_seal_73 : decode cX7_seal 73 = .ok (.iload 8, 2) := by decide +kernel
theorem dX7_seal_75 : decode cX7_seal 75 = .ok (.iconst 1, 1) := by decide +kernel
theorem dX7_seal_76 : decode cX7_seal 76 = .ok (.iadd, 1) := by decide +kernel
theorem dX7_seal_77 : decode cX7_seal 77 = .ok (.lload 6, 2) := by decide +kernel
theorem dX7_seal_79 : decode cX7_seal 79 = .ok (.bipush 24, 2) := by decide +kernel
theorem dX7_seal_81 : decode cX7_seal 81 = .ok (.lshl, 1) := by decide +kernel
theorem dX7_seal_82 : decode cX7_seal 82 = .ok (.lload 9, 2) := by decide +kernel
theorem dX7_seal_84 : decode cX7_seal 84 = .ok (.bipush 40, 2) := by decide +kernel
theorem dX7_seal_86 : decode cX7_seal 86 = .ok (.lushr, 1) := by decide +kernel
theorem dX7_seal_87 : decode cX7_seal 87 = .ok (.lor, 1) := by decide +kernel
theorem dX7_seal_88 : decode cX7_seal 88 = .ok (.lastore, 1) := by decide +kernel
theorem dX7_seal_89 : decode cX7_seal 89 = .ok (.lload 9, 2) := by decide +kernel
theorem dX7_seal_91 : decode cX7_seal 91 = .ok (.lstore 6, 2) := by decide +kernel
theorem dX7_seal_93 : decode cX7_seal 93 = .ok (.iinc 8 1, 3) := by decide +kernel
theorem dX7_seal_96 : decode cX7_seal 96 = .ok (.goto (-55), 3) := by decide +kernel
theorem dX7_seal_99 : decode cX7_seal 99 = .ok (.return_, 1) := by decide +kernel
