set_option maxRecDepth 20000 in
theorem ggX8_init_X1_init : GoodIn wsX8_init wsX1_init := goodIn_r _ [34, 35, 2, 3, 36, 37, 38, 39, 40, 110, 111, 112, 113] (by decide +kernel) (by decide +kernel)
set_option maxRecDepth 20000 in
theorem gX8_init_X1_init : GoodIn wsX8_init (wsX1_init) := ggX8_init_X1_init
set_option maxRecDepth 20000 in
theorem ggX8_init_X3_init : GoodIn wsX8_init wsX3_init := goodIn_r _ [43, 44, 2, 3, 45, 46, 121, 122] (by decide +kernel) (by decide +kernel)
set_option maxRecDepth 20000 in
theorem gX8_init_X3_init : GoodIn wsX8_init (wsX3_init) := ggX8_init_X3_init
set_option maxRecDepth 20000 in
theorem ggX8_init_X2_init : GoodIn wsX8_init wsX2_init := goodIn_r _ [49, 50, 2, 3, 36, 51, 52, 53, 54, 123, 124, 125, 126] (by decide +kernel) (by decide +kernel)
set_option maxRecDepth 20000 in
theorem gX8_init_X2_init : GoodIn wsX8_init (wsX2_init) := ggX8_init_X2_init
set_option maxRecDepth 20000 in
theorem ggX8_init_X5_init : GoodIn wsX8_init wsX5_init := goodIn_r _ [57, 58, 2, 3, 59, 60, 61, 127, 128] (by decide +kernel) (by decide +kernel)
set_option maxRecDepth 20000 in
theorem gX8_init_X5_init : GoodIn wsX8_init (wsX5_init) := ggX8_init_X5_init
set_option maxRecDepth 20000 in
theorem ggX8_init_X6_init : GoodIn wsX8_init wsX6_init := goodIn_r _ [64, 65, 2, 3, 66, 67, 68, 69, 36, 70, 71, 72, 73, 74, 75, 76, 77, 78, 79, 80, 81, 82, 83, 151, 129, 130, 131, 132, 133, 134, 135, 136] (by decide +kernel) (by decide +kernel)
set_option maxRecDepth 20000 in
theorem gX8_init_X6_init : GoodIn wsX8_init (wsX6_init) := ggX8_init_X6_init
set_option maxRecDepth 20000 in
theorem ggX8_init_X4_init : GoodIn wsX8_init wsX4_init := goodIn_r _ [86, 87, 2, 3, 88, 67, 68, 89, 36, 90, 91, 71, 92, 93, 94, 95, 80, 81, 82, 83, 151, 137, 138, 139, 140, 141, 142] (by decide +kernel) (by decide +kernel)
set_option maxRecDepth 20000 in
theorem gX8_init_X4_init : GoodIn wsX8_init (wsX4_init) := ggX8_init_X4_init
set_option maxRecDepth 20000 in
theorem ggX8_init_X7_init : GoodIn wsX8_init wsX7_init := goodIn_r _ [98, 99, 2, 3, 100, 67, 68, 101, 36, 102, 73, 103, 104, 105, 106, 107, 108, 109, 80, 81, 82, 83, 151, 143, 144, 145, 146, 147, 148, 149, 150] (by decide +kernel) (by decide +kernel)
set_option maxRecDepth 20000 in
theorem gX8_init_X7_init : GoodIn wsX8_init (wsX7_init) := ggX8_init_X7_init
theorem dX8_init_0 : decode cX8_init 0 = .ok (.aload_n 0, 1) := by decide +kernel
theorem dX8_init_1 : decode cX8_init 1 = .ok (.invokespecial 3, 3) := by decide +kernel
theorem dX8_init_4 : decode cX8_init 4 = .ok (.aload_n 0, 1) := by decide +kernel
theorem dX8_init_5 : decode cX8_init 5 = .ok (.new 9, 3) := by decide +kernel
theorem dX8_init_8 : decode cX8_init 8 = .ok (.dup, 1) := by decide +kernel
theorem dX8_init_9 : decode cX8_init 9 = .ok (.invokespecial 11, 3) := by decide +kernel
theorem dX8_init_12 : decode cX8_init 12 = .ok (.putfield 12, 3) := by decide +kernel
theorem dX8_init_15 : decode cX8_init 15 = .ok (.aload_n 0, 1) := by decide +kernel
theorem dX8_init_16 : decode cX8_init 16 = .ok (.new 16, 3) := by decide +kernel
theorem dX8_init_19 : decode cX8_init 19 = .ok (.dup, 1) := by decide +kernel
theorem dX8_init_20 : decode cX8_init 20 = .ok (.invokespecial 18, 3) := by decide +kernel
theorem dX8_init_23 : decode cX8_init 23 = .ok (.putfield 19, 3) := by decide +kernel
theorem dX8_init_26 : decode cX8_init 26 = .ok (.aload_n 0, 1) := by decide +kernel
theorem dX8_init_27 : decode cX8_init 27 = .ok (.new 23, 3) := by decide +kernel
theorem dX8_init_30 : decode cX8_init 30 = .ok (.dup, 1) := by decide +kernel
theorem dX8_init_31 : decode cX8_init 31 = .ok (.invokespecial 25, 3) := by decide +kernel
theorem dX8_init_34 : decode cX8_init 34 = .ok (.putfield 26, 3) := by decide +kernel
theorem dX8_init_37 : decode cX8_init 37 = .ok (.aload_n 0, 1) := by decide +kernel
theorem dX8_init_38 : decode cX8_init 38 = .ok (.new 30, 3) := by decide +kernel
theorem dX8_init_41 : decode cX8_init 41 = .ok (.dup, 1) := by decide +kernel
theorem dX8_init_42 : decode cX8_init 42 = .ok (.invokespecial 32, 3) := by decide +kernel
theorem dX8_init_45 : decode cX8_init 45 = .ok (.putfield 33, 3) := by decide +kernel
theorem dX8_init_48 : decode cX8_init 48 = .ok (.aload_n 0, 1) := by decide +kernel
theorem dX8_init_49 : decode cX8_init 49 = .ok (.new 37, 3) := by decide +kernel
theorem dX8_init_52 : decode cX8_init 52 = .ok (.dup, 1) := by decide +kernel
theorem dX8_init_53 : decode cX8_init 53 = .ok (.aload_n 0, 1) := by decide +kernel
theorem dX8_init_54 : decode cX8_init 54 = .ok (.getfield 12, 3) := by decide +kernel
theorem dX8_init_57 : decode cX8_init 57 = .ok (.invokespecial 39, 3) := by decide +kernel
theorem dX8_init_60 : decode cX8_init 60 = .ok (.putfield 42, 3) := by decide +kernel
theorem dX8_init_63 : decode cX8_init 63 = .ok (.aload_n 0, 1) := by decide +kernel
theorem dX8_init_64 : decode cX8_init 64 = .ok (.new 46, 3) := by decide +kernel
theorem dX8_init_67 : decode cX8_init 67 = .ok (.dup, 1) := by decide +kernel
theorem dX8_init_68 : decode cX8_init 68 = .ok (.aload_n 0, 1) := by decide +kernel
theorem dX8_init_69 : decode cX8_init 69 = .ok (.getfield 12, 3) := by decide +kernel
theorem dX8_init_72 : decode cX8_init 72 = .ok (.invokespecial 48, 3) := by decide +kernel
theorem dX8_init_75 : decode cX8_init 75 = .ok (.putfield 49, 3) := by decide +kernel
theorem dX8_init_78 : decode cX8_init 78 = .ok (.aload_n 0, 1) := by decide +kernel
theorem dX8_init_79 : decode cX8_init 79 = .ok (.new 53, 3) := by decide +kernel
theorem dX8_init_82 : decode cX8_init 82 = .ok (.dup, 1) := by decide +kernel
theorem dX8_init_83 : decode cX8_init 83 = .ok (.aload_n 0, 1) := by decide +kernel
theorem dX8_init_84 : decode cX8_init 84 = .ok (.getfield 12, 3) := by decide +kernel
theorem dX8_init_87 : decode cX8_init 87 = .ok (.aload_n 0, 1) := by decide +kernel
theorem dX8_init_88 : decode cX8_init 88 = .ok (.getfield 19, 3) := by decide +kernel
theorem dX8_init_91 : decode cX8_init 91 = .ok (.aload_n 0, 1) := by decide +kernel
theorem dX8_init_92 : decode cX8_init 92 = .ok (.getfield 42, 3) := by decide +kernel
theorem dX8_init_95 : decode cX8_init 95 = .ok (.invokespecial 55, 3) := by decide +kernel
theorem dX8_init_98 : decode cX8_init 98 = .ok (.putfield 58, 3) := by decide +kernel
theorem dX8_init_101 : decode cX8_init 101 = .ok (.return_, 1) := by decide +kernel
set_option maxRecDepth 20000 in
theorem ggX8_supply_X3_isOn : GoodIn wsX8_supply wsX3_isOn := goodIn_r _ [7, 8, 29, 30] (by decide +kernel) (by decide +kernel)
set_option maxRecDepth 20000 in
theorem gX8_supply_X3_isOn : GoodIn wsX8_supply (wsV RX8 62 RX3 yX3_isOn wsX3_isOn) := goodIn_app (goodIn_of _ (by decide +kernel)) ggX8_supply_X3_isOn
set_option maxRecDepth 20000 in
theorem ggX8_supply_X2_accept : GoodIn wsX8_supply wsX2_accept := goodIn_r _ [13, 14, 15, 16, 17, 18, 19, 20, 12, 21, 31, 32, 33, 34] (by decide +kernel) (by decide +kernel)
set_option maxRecDepth 20000 in
theorem gX8_supply_X2_accept : GoodIn wsX8_supply (wsV RX8 66 RX2 yX2_accept wsX2_accept) := goodIn_app (goodIn_of _ (by decide +kernel)) ggX8_supply_X2_accept
theorem dX8_supply_0 : decode cX8_supply 0 = .ok (.aload_n 0, 1) := by decide +kernel
theorem dX8_supply_1 : decode cX8_supply 1 = .ok (.getfield 19, 3) := by decide +kernel
theorem dX8_supply_4 : decode cX8_supply 4 = .ok (.invokevirtual 62, 3) := by decide +kernel
theorem dX8_supply_7 : decode cX8_supply 7 = .ok (.ifCond .eq 18, 3) := by decide +kernel
theorem dX8_supply_10 : decode cX8_supply 10 = .ok (.aload_n 0, 1) := by decide +kernel
theorem dX8_supply_11 : decode cX8_supply 11 = .ok (.getfield 26, 3) := by decide +kernel
theorem dX8_supply_14 : decode cX8_supply 14 = .ok (.lload_n 1, 1) := by decide +kernel
theorem dX8_supply_15 : decode cX8_supply 15 = .ok (.invokevirtual 66, 3) := by decide +kernel
theorem dX8_supply_18 : decode cX8_supply 18 = .ok (.ifCond .eq 7, 3) := by decide +kernel
theorem dX8_supply_21 : decode cX8_supply 21 = .ok (.iconst 1, 1) := by decide +kernel
theorem dX8_supply_22 : decode cX8_supply 22 = .ok (.goto 4, 3) := by decide +kernel
theorem dX8_supply_25 : decode cX8_supply 25 = .ok (.iconst 0, 1) := by decide +kernel
theorem dX8_supply_26 : decode cX8_supply 26 = .ok (.ireturn, 1) := by decide +kernel
set_option maxRecDepth 20000 in
theorem ggX8_feed_X3_isOn : GoodIn wsX8_feed wsX3_isOn := goodIn_r _ [7, 8, 27, 28] (by decide +kernel) (by decide +kernel)
set_option maxRecDepth 20000 in
theorem gX8_feed_X3_isOn : GoodIn wsX8_feed (wsV RX8 62 RX3 yX3_isOn wsX3_isOn) := goodIn_app (goodIn_of _ (by decide +kernel)) ggX8_feed_X3_isOn
set_option maxRecDepth 20000 in
theorem ggX8_feed_X5_append : GoodIn wsX8_feed wsX5_append := goodIn_r _ [13, 14, 15, 29, 30] (by decide +kernel) (by decide +kernel)
set_option maxRecDepth 20000 in
theorem gX8_feed_X5_append : GoodIn wsX8_feed (wsV RX8 70 RX5 yX5_append wsX5_append) := goodIn_app (goodIn_of _ (by decide +kernel)) ggX8_feed_X5_append
set_option maxRecDepth 20000 in
theorem ggX8_feed_X5_length : GoodIn wsX8_feed wsX5_length := goodIn_r _ [19, 14, 29, 30] (by decide +kernel) (by decide +kernel)
set_option maxRecDepth 20000 in
theorem gX8_feed_X5_length : GoodIn wsX8_feed (wsV RX8 74 RX5 yX5_length wsX5_length) := goodIn_app (goodIn_of _ (by decide +kernel)) ggX8_feed_X5_length
theorem dX8_feed_0 : decode cX8_feed 0 = .ok (.aload_n 0, 1) := by decide +kernel
theorem dX8_feed_1 : decode cX8_feed 1 = .ok (.getfield 19, 3) := by decide +kernel
theorem dX8_feed_4 : decode cX8_feed 4 = .ok (.invokevirtual 62, 3) := by decide +kernel
theorem dX8_feed_7 : decode cX8_feed 7 = .ok (.ifCond .eq 14, 3) := by decide +kernel
theorem dX8_feed_10 : decode cX8_feed 10 = .ok (.aload_n 0, 1) := by decide +kernel
theorem dX8_feed_11 : decode cX8_feed 11 = .ok (.getfield 33, 3) := by decide +kernel
theorem dX8_feed_14 : decode cX8_feed 14 = .ok (.iload_n 1, 1) := by decide +kernel
theorem dX8_feed_15 : decode cX8_feed 15 = .ok (.invokevirtual 70, 3) := by decide +kernel
theorem dX8_feed_18 : decode cX8_feed 18 = .ok (.ifCond .ne 6, 3) := by decide +kernel
theorem dX8_feed_21 : decode cX8_feed 21 = .ok (.bipush (-2), 2) := by decide +kernel
theorem dX8_feed_23 : decode cX8_feed 23 = .ok (.ireturn, 1) := by decide +kernel
theorem dX8_feed_24 : decode cX8_feed 24 = .ok (.aload_n 0, 1) := by decide +kernel
theorem dX8_feed_25 : decode cX8_feed 25 = .ok (.getfield 33, 3) := by decide +kernel
theorem dX8_feed_28 : decode cX8_feed 28 = .ok (.invokevirtual 74, 3) := by decide +kernel
theorem dX8_feed_31 : decode cX8_feed 31 = .ok (.ireturn, 1) := by decide +kernel
set_option maxRecDepth 20000 in
theorem ggX8_put_X3_isOn : GoodIn wsX8_put wsX3_isOn := goodIn_r _ [9, 10, 290, 291] (by decide +kernel) (by decide +kernel)
set_option maxRecDepth 20000 in
theorem gX8_put_X3_isOn : GoodIn wsX8_put (wsV RX8 62 RX3 yX3_isOn wsX3_isOn) := goodIn_app (goodIn_of _ (by decide +kernel)) ggX8_put_X3_isOn
set_option maxRecDepth 20000 in
theorem ggX8_put_X8_isObject : GoodIn wsX8_put wsX8_isObject := goodIn_r _ [14] (by decide +kernel) (by decide +kernel)
set_option maxRecDepth 20000 in
theorem gX8_put_X8_isObject : GoodIn wsX8_put (va_wsS RX8 78 yX8_isObject wsX8_isObject) := goodIn_app (goodIn_of _ (by decide +kernel)) ggX8_put_X8_isObject
set_option maxRecDepth 20000 in
theorem ggX8_put_X5_has : GoodIn wsX8_put wsX5_has := goodIn_r _ [19, 20, 292, 293] (by decide +kernel) (by decide +kernel)
set_option maxRecDepth 20000 in
theorem gX8_put_X5_has : GoodIn wsX8_put (wsV RX8 81 RX5 yX5_has wsX5_has) := goodIn_app (goodIn_of _ (by decide +kernel)) ggX8_put_X5_has
set_option maxRecDepth 20000 in
theorem ggX8_put_X2_length : GoodIn wsX8_put wsX2_length := goodIn_r _ [25, 26, 294, 295, 296, 297] (by decide +kernel) (by decide +kernel)
set_option maxRecDepth 20000 in
theorem gX8_put_X2_length : GoodIn wsX8_put (wsV RX8 84 RX2 yX2_length wsX2_length) := goodIn_app (goodIn_of _ (by decide +kernel)) ggX8_put_X2_length
set_option maxRecDepth 20000 in
theorem ggX8_put_X8_freshTree : GoodIn wsX8_put wsX8_freshTree := goodIn_r _ [30, 31, 32, 33, 34, 35, 36, 37, 38, 39, 40, 41, 42, 43, 44, 45, 46, 47, 48, 49, 50, 51, 52, 53, 54, 55, 56, 57, 58, 59, 60, 61, 62, 63, 64, 65, 66, 67, 68, 69, 70, 71, 72, 73, 74, 13, 75, 76, 77, 78, 79, 80, 81, 82, 83, 84, 85, 86, 87, 88, 89, 90, 91, 92, 93, 94, 95, 96, 97, 98, 99, 100, 101, 102, 103, 104, 105, 106, 107, 108, 109, 110, 111, 112, 113, 114, 115, 116, 117, 118, 119, 120, 121, 122, 123, 124, 125, 126, 127, 128, 129, 130, 131, 132, 133, 134, 135, 136, 283, 284, 285, 286, 287, 288, 289, 298, 299, 300, 301, 302, 303, 304, 305, 306, 307, 308, 309, 310] (by decide +kernel) (by decide +kernel)
set_option maxRecDepth 20000 in
theorem gX8_put_X8_freshTree : GoodIn wsX8_put (wsV RX8 85 RX8 yX8_freshTree wsX8_freshTree) := goodIn_app (goodIn_of _ (by decide +kernel)) ggX8_put_X8_freshTree
set_option maxRecDepth 20000 in
theorem ggX8_put_X6_freePages : GoodIn wsX8_put wsX6_freePages := goodIn_r _ [140, 53, 298, 299, 300, 301, 302, 303, 304, 305] (by decide +kernel) (by decide +kernel)
set_option maxRecDepth 20000 in
theorem gX8_put_X6_freePages : GoodIn wsX8_put (wsV RX8 89 RX6 yX6_freePages wsX6_freePages) := goodIn_app (goodIn_of _ (by decide +kernel)) ggX8_put_X6_freePages
set_option maxRecDepth 20000 in
theorem ggX8_put_X8_dataPages : GoodIn wsX8_put wsX8_dataPages := goodIn_r _ [143] (by decide +kernel) (by decide +kernel)
set_option maxRecDepth 20000 in
theorem gX8_put_X8_dataPages : GoodIn wsX8_put (va_wsS RX8 92 yX8_dataPages wsX8_dataPages) := goodIn_app (goodIn_of _ (by decide +kernel)) ggX8_put_X8_dataPages
set_option maxRecDepth 20000 in
theorem ggX8_put_X7_begin : GoodIn wsX8_put wsX7_begin := goodIn_r _ [148, 149, 150, 151, 152, 153, 35, 154, 52, 74, 13, 75, 311, 312, 313, 314, 315, 316, 317, 318, 298, 299, 300, 301, 302, 303, 304, 305] (by decide +kernel) (by decide +kernel)
set_option maxRecDepth 20000 in
theorem gX8_put_X7_begin : GoodIn wsX8_put (wsV RX8 96 RX7 yX7_begin wsX7_begin) := goodIn_app (goodIn_of _ (by decide +kernel)) ggX8_put_X7_begin
set_option maxRecDepth 20000 in
theorem ggX8_put_X2_take : GoodIn wsX8_put wsX2_take := goodIn_r _ [158, 26, 159, 160, 161, 162, 163, 294, 295, 296, 297] (by decide +kernel) (by decide +kernel)
set_option maxRecDepth 20000 in
theorem gX8_put_X2_take : GoodIn wsX8_put (wsV RX8 99 RX2 yX2_take wsX2_take) := goodIn_app (goodIn_of _ (by decide +kernel)) ggX8_put_X2_take
set_option maxRecDepth 20000 in
theorem ggX8_put_X7_writeData : GoodIn wsX8_put wsX7_writeData := goodIn_r _ [167, 168, 169, 170, 171, 172, 173, 142, 13, 143, 174, 175, 176, 106, 177, 178, 104, 105, 107, 108, 179, 180, 181, 182, 183, 184, 185, 186, 187, 188, 189, 190, 191, 18, 192, 20, 193, 194, 195, 196, 147, 197, 198, 199, 200, 149, 201, 202, 203, 204, 205, 206, 207, 208, 209, 45, 210, 211, 212, 213, 85, 86, 87, 88, 80, 89, 214, 215, 216, 217, 218, 219, 90, 91, 92, 93, 94, 220, 221, 222, 223, 224, 225, 226, 8, 227, 228, 10, 229, 230, 231, 232, 233, 234, 235, 236, 237, 161, 162, 163, 47, 74, 75, 311, 312, 313, 314, 315, 316, 317, 318, 310, 292, 293, 306, 307, 308, 309, 290, 291] (by decide +kernel) (by decide +kernel)
set_option maxRecDepth 20000 in
theorem gX8_put_X7_writeData : GoodIn wsX8_put (wsV RX8 103 RX7 yX7_writeData wsX7_writeData) := goodIn_app (goodIn_of _ (by decide +kernel)) ggX8_put_X7_writeData
set_option maxRecDepth 20000 in
theorem ggX8_put_X7_writeBranch : GoodIn wsX8_put wsX7_writeBranch := goodIn_r _ [241, 199, 198, 242, 243, 35, 244, 245, 246, 247, 147, 248, 169, 150, 249, 104, 105, 106, 107, 108, 250, 251, 252, 253, 39, 254, 255, 256, 257, 40, 258, 259, 260, 261, 179, 180, 181, 182, 183, 184, 185, 186, 187, 188, 262, 156, 157, 24, 158, 26, 159, 160, 161, 162, 163, 194, 195, 196, 197, 200, 149, 201, 202, 203, 204, 205, 206, 207, 208, 209, 45, 210, 211, 212, 172, 213, 85, 86, 87, 88, 80, 89, 214, 215, 216, 217, 218, 219, 90, 13, 91, 92, 93, 94, 220, 221, 222, 223, 224, 225, 226, 8, 227, 228, 10, 229, 230, 231, 232, 233, 234, 235, 236, 237, 47, 74, 75, 263, 264, 265, 266, 58, 63, 311, 312, 313, 314, 315, 316, 317, 318, 310, 298, 299, 300, 301, 302, 303, 304, 305, 294, 295, 296, 297, 306, 307, 308, 309, 290, 291] (by decide +kernel) (by decide +kernel)
set_option maxRecDepth 20000 in
theorem gX8_put_X7_writeBranch : GoodIn wsX8_put (wsV RX8 107 RX7 yX7_writeBranch wsX7_writeBranch) := goodIn_app (goodIn_of _ (by decide +kernel)) ggX8_put_X7_writeBranch
set_option maxRecDepth 20000 in
theorem ggX8_put_X5_clear : GoodIn wsX8_put wsX5_clear := goodIn_r _ [270, 20, 292, 293] (by decide +kernel) (by decide +kernel)
set_option maxRecDepth 20000 in
theorem gX8_put_X5_clear : GoodIn wsX8_put (wsV RX8 111 RX5 yX5_clear wsX5_clear) := goodIn_app (goodIn_of _ (by decide +kernel)) ggX8_put_X5_clear
set_option maxRecDepth 20000 in
theorem ggX8_put_X8_outcome : GoodIn wsX8_put wsX8_outcome := goodIn_r _ [274, 275, 276, 277, 13, 278, 3, 2, 279, 280, 281, 24, 282, 26, 267, 268, 269, 18, 270, 20, 283, 284, 285, 286, 287, 288, 289, 294, 295, 296, 297, 292, 293] (by decide +kernel) (by decide +kernel)
set_option maxRecDepth 20000 in
theorem gX8_put_X8_outcome : GoodIn wsX8_put (wsV RX8 114 RX8 yX8_outcome wsX8_outcome) := goodIn_app (goodIn_of _ (by decide +kernel)) ggX8_put_X8_outcome
theorem dX8_put_0 : decode cX8_put 0 = .ok (.aload_n 0, 1) := by decide +kernel
theorem dX8_put_1 : decode cX8_put 1 = .ok (.getfield 19, 3) := by decide +kernel
theorem dX8_put_4 : decode cX8_put 4 = .ok (.invokevirtual 62, 3) := by decide +kernel
theorem dX8_put_7 : decode cX8_put 7 = .ok (.ifCond .eq 32, 3) := by decide +kernel
theorem dX8_put_10 : decode cX8_put 10 = .ok (.iload_n 1, 1) := by decide +kernel
theorem dX8_put_11 : decode cX8_put 11 = .ok (.invokestatic 78, 3) := by decide +kernel
theorem dX8_put_14 : decode cX8_put 14 = .ok (.ifCond .eq 25, 3) := by decide +kernel
theorem dX8_put_17 : decode cX8_put 17 = .ok (.aload_n 0, 1) := by decide +kernel
theorem dX8_put_18 : decode cX8_put 18 = .ok (.getfield 33, 3) := by decide +kernel
theorem dX8_put_21 : decode cX8_put 21 = .ok (.iload_n 2, 1) := by decide +kernel
theorem dX8_put_22 : decode cX8_put 22 = .ok (.invokevirtual 81, 3) := by decide +kernel
theorem dX8_put_25 : decode cX8_put 25 = .ok (.ifCond .eq 14, 3) := by decide +kernel
theorem dX8_put_28 : decode cX8_put 28 = .ok (.aload_n 0, 1) := by decide +kernel
theorem dX8_put_29 : decode cX8_put 29 = .ok (.getfield 26, 3) := by decide +kernel
theorem dX8_put_32 : decode cX8_put 32 = .ok (.invokevirtual 84, 3) := by decide +kernel
theorem dX8_put_35 : decode cX8_put 35 = .ok (.iconst 4, 1) := by decide +kernel
theorem dX8_put_36 : decode cX8_put 36 = .ok (.if_icmp .ge 6, 3) := by decide +kernel
theorem dX8_put_39 : decode cX8_put 39 = .ok (.bipush (-2), 2) := by decide +kernel
theorem dX8_put_41 : decode cX8_put 41 = .ok (.ireturn, 1) := by decide +kernel
theorem dX8_put_42 : decode cX8_put 42 = .ok (.aload_n 0, 1) := by decide +kernel
theorem dX8_put_43 : decode cX8_put 43 = .ok (.invokevirtual 85, 3) := by decide +kernel
theorem dX8_put_46 : decode cX8_put 46 = .ok (.invokevirtual 89, 3) := by decide +kernel
theorem dX8_put_49 : decode cX8_put 49 = .ok (.iload_n 2, 1) := by decide +kernel
theorem dX8_put_50 : decode cX8_put 50 = .ok (.invokestatic 92, 3) := by decide +kernel
theorem dX8_put_53 : decode cX8_put 53 = .ok (.iconst 3, 1) := by decide +kernel
theorem dX8_put_54 : decode cX8_put 54 = .ok (.iadd, 1) := by decide +kernel
theorem dX8_put_55 : decode cX8_put 55 = .ok (.if_icmp .ge 6, 3) := by decide +kernel
theorem dX8_put_58 : decode cX8_put 58 = .ok (.bipush (-2), 2) := by decide +kernel
theorem dX8_put_60 : decode cX8_put 60 = .ok (.ireturn, 1) := by decide +kernel
theorem dX8_put_61 : decode cX8_put 61 = .ok (.aload_n 0, 1) := by decide +kernel
theorem dX8_put_62 : decode cX8_put 62 = .ok (.getfield 58, 3) := by decide +kernel
theorem dX8_put_65 : decode cX8_put 65 = .ok (.invokevirtual 96, 3) := by decide +kernel
theorem dX8_put_68 : decode cX8_put 68 = .ok (.aload_n 0, 1) := by decide +kernel
theorem dX8_put_69 : decode cX8_put 69 = .ok (.getfield 26, 3) := by decide +kernel
theorem dX8_put_72 : decode cX8_put 72 = .ok (.invokevirtual 99, 3) := by decide +kernel
theorem dX8_put_75 : decode cX8_put 75 = .ok (.lstore_n 3, 1) := by decide +kernel
theorem dX8_put_76 : decode cX8_put 76 = .ok (.aload_n 0, 1) := by decide +kernel
theorem dX8_put_77 : decode cX8_put 77 = .ok (.getfield 58, 3) := by decide +kernel
theorem dX8_put_80 : decode cX8_put 80 = .ok (.lload_n 3, 1) := by decide +kernel
theorem dX8_put_81 : decode cX8_put 81 = .ok (.aload_n 0, 1) := by decide +kernel
theorem dX8_put_82 : decode cX8_put 82 = .ok (.getfield 33, 3) := by decide +kernel
theorem dX8_put_85 : decode cX8_put 85 = .ok (.iload_n 2, 1) := by decide +kernel
theorem dX8_put_86 : decode cX8_put 86 = .ok (.invokevirtual 103, 3) := by decide +kernel
theorem dX8_put_89 : decode cX8_put 89 = .ok (.istore 5, 2) := by decide +kernel
theorem dX8_put_91 : decode cX8_put 91 = .ok (.iload 5, 2) := by decide +kernel
theorem dX8_put_93 : decode cX8_put 93 = .ok (.iconst (-1), 1) := by decide +kernel
theorem dX8_put_94 : decode cX8_put 94 = .ok (.if_icmp .eq 25, 3) := by decide +kernel
theorem dX8_put_97 : decode cX8_put 97 = .ok (.aload_n 0, 1) := by decide +kernel
theorem dX8_put_98 : decode cX8_put 98 = .ok (.getfield 58, 3) := by decide +kernel
theorem dX8_put_101 : decode cX8_put 101 = .ok (.iload_n 1, 1) := by decide +kernel
theorem dX8_put_102 : decode cX8_put 102 = .ok (.lload_n 3, 1) := by decide +kernel
theorem dX8_put_103 : decode cX8_put 103 = .ok (.iload 5, 2) := by decide +kernel
theorem dX8_put_105 : decode cX8_put 105 = .ok (.aload_n 0, 1) := by decide +kernel
theorem dX8_put_106 : decode cX8_put 106 = .ok (.getfield 26, 3) := by decide +kernel
theorem dX8_put_109 : decode cX8_put 109 = .ok (.invokevirtual 107, 3) := by decide +kernel
theorem dX8_put_112 : decode cX8_put 112 = .ok (.ifCond .eq 7, 3) := by decide +kernel
theorem dX8_put_115 : decode cX8_put 115 = .ok (.iconst 1, 1) := by decide +kernel
theorem dX8_put_116 : decode cX8_put 116 = .ok (.goto 4, 3) := by decide +kernel
theorem dX8_put_119 : decode cX8_put 119 = .ok (.iconst 0, 1) := by decide +kernel
theorem dX8_put_120 : decode cX8_put 120 = .ok (.istore 6, 2) := by decide +kernel
theorem dX8_put_122 : decode cX8_put 122 = .ok (.aload_n 0, 1) := by decide +kernel
theorem dX8_put_123 : decode cX8_put 123 = .ok (.getfield 33, 3) := by decide +kernel
theorem dX8_put_126 : decode cX8_put 126 = .ok (.invokevirtual 111, 3) := by decide +kernel
theorem dX8_put_129 : decode cX8_put 129 = .ok (.aload_n 0, 1) := by decide +kernel
theorem dX8_put_130 : decode cX8_put 130 = .ok (.iload 6, 2) := by decide +kernel
theorem dX8_put_132 : decode cX8_put 132 = .ok (.invokevirtual 114, 3) := by decide +kernel
theorem dX8_put_135 : decode cX8_put 135 = .ok (.ireturn, 1) := by decide +kernel
set_option maxRecDepth 20000 in
theorem ggX8_shred_X3_isOn : GoodIn wsX8_shred wsX3_isOn := goodIn_r _ [9, 10, 268, 269] (by decide +kernel) (by decide +kernel)
set_option maxRecDepth 20000 in
theorem gX8_shred_X3_isOn : GoodIn wsX8_shred (wsV RX8 62 RX3 yX3_isOn wsX3_isOn) := goodIn_app (goodIn_of _ (by decide +kernel)) ggX8_shred_X3_isOn
set_option maxRecDepth 20000 in
theorem ggX8_shred_X8_isObject : GoodIn wsX8_shred wsX8_isObject := goodIn_r _ [14] (by decide +kernel) (by decide +kernel)
set_option maxRecDepth 20000 in
theorem gX8_shred_X8_isObject : GoodIn wsX8_shred (va_wsS RX8 78 yX8_isObject wsX8_isObject) := goodIn_app (goodIn_of _ (by decide +kernel)) ggX8_shred_X8_isObject
set_option maxRecDepth 20000 in
theorem ggX8_shred_X2_length : GoodIn wsX8_shred wsX2_length := goodIn_r _ [19, 20, 270, 271, 272, 273] (by decide +kernel) (by decide +kernel)
set_option maxRecDepth 20000 in
theorem gX8_shred_X2_length : GoodIn wsX8_shred (wsV RX8 84 RX2 yX2_length wsX2_length) := goodIn_app (goodIn_of _ (by decide +kernel)) ggX8_shred_X2_length
set_option maxRecDepth 20000 in
theorem ggX8_shred_X8_freshTree : GoodIn wsX8_shred wsX8_freshTree := goodIn_r _ [24, 3, 25, 26, 27, 28, 29, 30, 31, 32, 33, 34, 35, 36, 37, 38, 39, 40, 41, 42, 43, 44, 45, 46, 47, 48, 49, 50, 51, 52, 53, 54, 55, 56, 57, 58, 59, 60, 61, 62, 63, 64, 65, 66, 67, 13, 68, 69, 70, 71, 72, 73, 74, 75, 76, 77, 78, 79, 80, 81, 82, 83, 84, 85, 86, 87, 88, 89, 90, 91, 92, 93, 94, 95, 96, 97, 98, 99, 100, 101, 102, 103, 104, 105, 106, 107, 108, 109, 110, 111, 112, 113, 114, 115, 116, 117, 118, 119, 120, 121, 122, 123, 124, 125, 126, 127, 128, 129, 261, 262, 263, 264, 265, 266, 267, 274, 275, 276, 277, 278, 279, 280, 281, 282, 283, 284, 285, 286] (by decide +kernel) (by decide +kernel)
set_option maxRecDepth 20000 in
theorem gX8_shred_X8_freshTree : GoodIn wsX8_shred (wsV RX8 85 RX8 yX8_freshTree wsX8_freshTree) := goodIn_app (goodIn_of _ (by decide +kernel)) ggX8_shred_X8_freshTree
set_option maxRecDepth 20000 in
theorem ggX8_shred_X6_hasObject : GoodIn wsX8_shred wsX6_hasObject := goodIn_r _ [133, 32, 12, 13, 14, 274, 275, 276, 277, 278, 279, 280, 281] (by decide +kernel) (by decide +kernel)
set_option maxRecDepth 20000 in
theorem gX8_shred_X6_hasObject : GoodIn wsX8_shred (wsV RX8 118 RX6 yX6_hasObject wsX6_hasObject) := goodIn_app (goodIn_of _ (by decide +kernel)) ggX8_shred_X6_hasObject
set_option maxRecDepth 20000 in
theorem ggX8_shred_X6_freePages : GoodIn wsX8_shred wsX6_freePages := goodIn_r _ [137, 46, 274, 275, 276, 277, 278, 279, 280, 281] (by decide +kernel) (by decide +kernel)
set_option maxRecDepth 20000 in
theorem gX8_shred_X6_freePages : GoodIn wsX8_shred (wsV RX8 89 RX6 yX6_freePages wsX6_freePages) := goodIn_app (goodIn_of _ (by decide +kernel)) ggX8_shred_X6_freePages
set_option maxRecDepth 20000 in
theorem ggX8_shred_X7_begin : GoodIn wsX8_shred wsX7_begin := goodIn_r _ [142, 143, 144, 145, 146, 147, 28, 148, 45, 67, 13, 68, 287, 288, 289, 290, 291, 292, 293, 294, 274, 275, 276, 277, 278, 279, 280, 281] (by decide +kernel) (by decide +kernel)
set_option maxRecDepth 20000 in
theorem gX8_shred_X7_begin : GoodIn wsX8_shred (wsV RX8 96 RX7 yX7_begin wsX7_begin) := goodIn_app (goodIn_of _ (by decide +kernel)) ggX8_shred_X7_begin
set_option maxRecDepth 20000 in
theorem ggX8_shred_X7_writeBranch : GoodIn wsX8_shred wsX7_writeBranch := goodIn_r _ [152, 153, 154, 155, 156, 28, 157, 158, 159, 160, 141, 161, 162, 144, 163, 97, 98, 99, 100, 101, 164, 165, 166, 167, 32, 168, 169, 170, 171, 33, 172, 173, 174, 175, 176, 177, 178, 179, 180, 181, 182, 183, 184, 185, 186, 187, 188, 18, 189, 20, 190, 191, 192, 193, 194, 195, 196, 197, 198, 199, 143, 200, 201, 202, 203, 204, 205, 206, 207, 208, 38, 209, 210, 211, 212, 213, 78, 79, 80, 81, 73, 82, 214, 215, 216, 217, 218, 219, 83, 13, 84, 85, 86, 87, 220, 221, 222, 223, 224, 225, 226, 8, 227, 228, 10, 229, 230, 231, 232, 233, 234, 235, 236, 237, 40, 67, 68, 238, 239, 240, 241, 51, 56, 287, 288, 289, 290, 291, 292, 293, 294, 286, 274, 275, 276, 277, 278, 279, 280, 281, 270, 271, 272, 273, 282, 283, 284, 285, 268, 269] (by decide +kernel) (by decide +kernel)
set_option maxRecDepth 20000 in
theorem gX8_shred_X7_writeBranch : GoodIn wsX8_shred (wsV RX8 107 RX7 yX7_writeBranch wsX7_writeBranch) := goodIn_app (goodIn_of _ (by decide +kernel)) ggX8_shred_X7_writeBranch
set_option maxRecDepth 20000 in
theorem ggX8_shred_X8_outcome : GoodIn wsX8_shred wsX8_outcome := goodIn_r _ [245, 246, 247, 248, 13, 249, 2, 250, 251, 252, 253, 18, 254, 20, 255, 256, 257, 258, 259, 260, 261, 262, 263, 264, 265, 266, 267, 270, 271, 272, 273, 295, 296] (by decide +kernel) (by decide +kernel)
set_option maxRecDepth 20000 in
theorem gX8_shred_X8_outcome : GoodIn wsX8_shred (wsV RX8 114 RX8 yX8_outcome wsX8_outcome) := goodIn_app (goodIn_of _ (by decide +kernel)) ggX8_shred_X8_outcome
theorem dX8_shred_0 : decode cX8_shred 0 = .ok (.aload_n 0, 1) := by decide +kernel
theorem dX8_shred_1 : decode cX8_shred 1 = .ok (.getfield 19, 3) := by decide +kernel
theorem dX8_shred_4 : decode cX8_shred 4 = .ok (.invokevirtual 62, 3) := by decide +kernel
theorem dX8_shred_7 : decode cX8_shred 7 = .ok (.ifCond .eq 21, 3) := by decide +kernel
theorem dX8_shred_10 : decode cX8_shred 10 = .ok (.iload_n 1, 1) := by decide +kernel
theorem dX8_shred_11 : decode cX8_shred 11 = .ok (.invokestatic 78, 3) := by decide +kernel
theorem dX8_shred_14 : decode cX8_shred 14 = .ok (.ifCond .eq 14, 3) := by decide +kernel
theorem dX8_shred_17 : decode cX8_shred 17 = .ok (.aload_n 0, 1) := by decide +kernel
theorem dX8_shred_18 : decode cX8_shred 18 = .ok (.getfield 26, 3) := by decide +kernel
theorem dX8_shred_21 : decode cX8_shred 21 = .ok (.invokevirtual 84, 3) := by decide +kernel
theorem dX8_shred_24 : decode cX8_shred 24 = .ok (.iconst 3, 1) := by decide +kernel
theorem dX8_shred_25 : decode cX8_shred 25 = .ok (.if_icmp .ge 6, 3) := by decide +kernel
theorem dX8_shred_28 : decode cX8_shred 28 = .ok (.bipush (-2), 2) := by decide +kernel
theorem dX8_shred_30 : decode cX8_shred 30 = .ok (.ireturn, 1) := by decide +kernel
theorem dX8_shred_31 : decode cX8_shred 31 = .ok (.aload_n 0, 1) := by decide +kernel
theorem dX8_shred_32 : decode cX8_shred 32 = .ok (.invokevirtual 85, 3) := by decide +kernel
theorem dX8_shred_35 : decode cX8_shred 35 = .ok (.iload_n 1, 1) := by decide +kernel
theorem dX8_shred_36 : decode cX8_shred 36 = .ok (.invokevirtual 118, 3) := by decide +kernel
theorem dX8_shred_39 : decode cX8_shred 39 = .ok (.ifCond .eq 14, 3) := by decide +kernel
theorem dX8_shred_42 : decode cX8_shred 42 = .ok (.aload_n 0, 1) := by decide +kernel
theorem dX8_shred_43 : decode cX8_shred 43 = .ok (.getfield 42, 3) := by decide +kernel
theorem dX8_shred_46 : decode cX8_shred 46 = .ok (.invokevirtual 89, 3) := by decide +kernel
theorem dX8_shred_49 : decode cX8_shred 49 = .ok (.iconst 3, 1) := by decide +kernel
theorem dX8_shred_50 : decode cX8_shred 50 = .ok (.if_icmp .ge 6, 3) := by decide +kernel
theorem dX8_shred_53 : decode cX8_shred 53 = .ok (.bipush (-2), 2) := by decide +kernel
theorem dX8_shred_55 : decode cX8_shred 55 = .ok (.ireturn, 1) := by decide +kernel
theorem dX8_shred_56 : decode cX8_shred 56 = .ok (.aload_n 0, 1) := by decide +kernel
theorem dX8_shred_57 : decode cX8_shred 57 = .ok (.getfield 58, 3) := by decide +kernel
theorem dX8_shred_60 : decode cX8_shred 60 = .ok (.invokevirtual 96, 3) := by decide +kernel
theorem dX8_shred_63 : decode cX8_shred 63 = .ok (.aload_n 0, 1) := by decide +kernel
theorem dX8_shred_64 : decode cX8_shred 64 = .ok (.aload_n 0, 1) := by decide +kernel
theorem dX8_shred_65 : decode cX8_shred 65 = .ok (.getfield 58, 3) := by decide +kernel
theorem dX8_shred_68 : decode cX8_shred 68 = .ok (.iload_n 1, 1) := by decide +kernel
theorem dX8_shred_69 : decode cX8_shred 69 = .ok (.lconst 0, 1) := by decide +kernel
theorem dX8_shred_70 : decode cX8_shred 70 = .ok (.iconst 0, 1) := by decide +kernel
theorem dX8_shred_71 : decode cX8_shred 71 = .ok (.aload_n 0, 1) := by decide +kernel
theorem dX8_shred_72 : decode cX8_shred 72 = .ok (.getfield 26, 3) := by decide +kernel
theorem dX8_shred_75 : decode cX8_shred 75 = .ok (.invokevirtual 107, 3) := by decide +kernel
theorem dX8_shred_78 : decode cX8_shred 78 = .ok (.invokevirtual 114, 3) := by decide +kernel
theorem dX8_shred_81 : decode cX8_shred 81 = .ok (.ireturn, 1) := by decide +kernel
set_option maxRecDepth 20000 in
theorem ggX8_size_X3_isOn : GoodIn wsX8_size wsX3_isOn := goodIn_r _ [6, 7, 141, 142] (by decide +kernel) (by decide +kernel)
set_option maxRecDepth 20000 in
theorem gX8_size_X3_isOn : GoodIn wsX8_size (wsV RX8 62 RX3 yX3_isOn wsX3_isOn) := goodIn_app (goodIn_of _ (by decide +kernel)) ggX8_size_X3_isOn
set_option maxRecDepth 20000 in
theorem ggX8_size_X8_isObject : GoodIn wsX8_size wsX8_isObject := goodIn_r _ [11] (by decide +kernel) (by decide +kernel)
set_option maxRecDepth 20000 in
theorem gX8_size_X8_isObject : GoodIn wsX8_size (va_wsS RX8 78 yX8_isObject wsX8_isObject) := goodIn_app (goodIn_of _ (by decide +kernel)) ggX8_size_X8_isObject
set_option maxRecDepth 20000 in
theorem ggX8_size_X8_freshTree : GoodIn wsX8_size wsX8_freshTree := goodIn_r _ [15, 16, 17, 18, 19, 20, 21, 22, 23, 24, 25, 26, 27, 28, 29, 30, 31, 32, 33, 34, 35, 36, 37, 38, 39, 40, 41, 42, 43, 44, 45, 46, 47, 48, 49, 50, 51, 52, 53, 54, 55, 56, 57, 58, 59, 10, 60, 61, 62, 63, 64, 65, 66, 67, 68, 69, 70, 71, 72, 73, 74, 75, 76, 77, 78, 79, 80, 81, 82, 83, 84, 85, 86, 87, 88, 89, 90, 91, 92, 93, 94, 95, 96, 97, 98, 99, 100, 101, 102, 103, 104, 105, 106, 107, 108, 109, 110, 111, 112, 113, 114, 115, 116, 117, 118, 119, 120, 121, 134, 135, 136, 137, 138, 139, 140, 143, 144, 145, 146, 147, 148, 149, 150, 151, 152, 153, 154, 155] (by decide +kernel) (by decide +kernel)
set_option maxRecDepth 20000 in
theorem gX8_size_X8_freshTree : GoodIn wsX8_size (wsV RX8 85 RX8 yX8_freshTree wsX8_freshTree) := goodIn_app (goodIn_of _ (by decide +kernel)) ggX8_size_X8_freshTree
set_option maxRecDepth 20000 in
theorem ggX8_size_X6_objectSize : GoodIn wsX8_size wsX6_objectSize := goodIn_r _ [125, 25, 53, 126, 127, 128, 20, 129, 24, 9, 10, 11, 114, 115, 116, 117, 23, 54, 55, 56, 30, 57, 58, 59, 60, 61, 62, 63, 64, 65, 66, 67, 68, 69, 70, 71, 72, 73, 74, 75, 76, 77, 78, 79, 84, 85, 86, 87, 88, 89, 90, 91, 92, 93, 94, 95, 96, 97, 130, 131, 132, 133, 102, 103, 104, 105, 118, 119, 120, 121, 143, 144, 145, 146, 147, 148, 149, 150, 151, 152, 153, 154, 155] (by decide +kernel) (by decide +kernel)
set_option maxRecDepth 20000 in
theorem gX8_size_X6_objectSize : GoodIn wsX8_size (wsV RX8 121 RX6 yX6_objectSize wsX6_objectSize) := goodIn_app (goodIn_of _ (by decide +kernel)) ggX8_size_X6_objectSize
theorem dX8_size_0 : decode cX8_size 0 = .ok (.aload_n 0, 1) := by decide +kernel
theorem dX8_size_1 : decode cX8_size 1 = .ok (.getfield 19, 3) := by decide +kernel
theorem dX8_size_4 : decode cX8_size 4 = .ok (.invokevirtual 62, 3) := by decide +kernel
theorem dX8_size_7 : decode cX8_size 7 = .ok (.ifCond .eq 10, 3) := by decide +kernel
theorem dX8_size_10 : decode cX8_size 10 = .ok (.iload_n 1, 1) := by decide +kernel
theorem dX8_size_11 : decode cX8_size 11 = .ok (.invokestatic 78, 3) := by decide +kernel
theorem dX8_size_14 : decode cX8_size 14 = .ok (.ifCond .ne 6, 3) := by decide +kernel
theorem dX8_size_17 : decode cX8_size 17 = .ok (.bipush (-2), 2) := by decide +kernel
theorem dX8_size_19 : decode cX8_size 19 = .ok (.ireturn, 1) := by decide +kernel
theorem dX8_size_20 : decode cX8_size 20 = .ok (.aload_n 0, 1) := by decide +kernel
theorem dX8_size_21 : decode cX8_size 21 = .ok (.invokevirtual 85, 3) := by decide +kernel
theorem dX8_size_24 : decode cX8_size 24 = .ok (.iload_n 1, 1) := by decide +kernel
theorem dX8_size_25 : decode cX8_size 25 = .ok (.invokevirtual 121, 3) := by decide +kernel
theorem dX8_size_28 : decode cX8_size 28 = .ok (.ireturn, 1) := by decide +kernel
set_option maxRecDepth 20000 in
theorem ggX8_at_X3_isOn : GoodIn wsX8_at wsX3_isOn := goodIn_r _ [6, 7, 145, 146] (by decide +kernel) (by decide +kernel)
set_option maxRecDepth 20000 in
theorem gX8_at_X3_isOn : GoodIn wsX8_at (wsV RX8 62 RX3 yX3_isOn wsX3_isOn) := goodIn_app (goodIn_of _ (by decide +kernel)) ggX8_at_X3_isOn
set_option maxRecDepth 20000 in
theorem ggX8_at_X8_isObject : GoodIn wsX8_at wsX8_isObject := goodIn_r _ [11] (by decide +kernel) (by decide +kernel)
set_option maxRecDepth 20000 in
theorem gX8_at_X8_isObject : GoodIn wsX8_at (va_wsS RX8 78 yX8_isObject wsX8_isObject) := goodIn_app (goodIn_of _ (by decide +kernel)) ggX8_at_X8_isObject
set_option maxRecDepth 20000 in
theorem ggX8_at_X8_freshTree : GoodIn wsX8_at wsX8_freshTree := goodIn_r _ [15, 16, 17, 18, 19, 20, 21, 22, 23, 24, 25, 26, 27, 28, 29, 30, 31, 32, 33, 34, 35, 36, 37, 38, 39, 40, 41, 42, 43, 44, 45, 46, 47, 48, 49, 50, 51, 52, 53, 54, 55, 56, 57, 58, 59, 10, 60, 61, 62, 63, 64, 65, 66, 67, 68, 69, 70, 71, 72, 73, 74, 75, 76, 77, 78, 79, 80, 81, 82, 83, 84, 85, 86, 87, 88, 89, 90, 91, 92, 93, 94, 95, 96, 97, 98, 99, 100, 101, 102, 103, 104, 105, 106, 107, 108, 109, 110, 111, 112, 113, 114, 115, 116, 117, 118, 119, 120, 121, 138, 139, 140, 141, 142, 143, 144, 147, 148, 149, 150, 151, 152, 153, 154, 155, 156, 157, 158, 159] (by decide +kernel) (by decide +kernel)
set_option maxRecDepth 20000 in
theorem gX8_at_X8_freshTree : GoodIn wsX8_at (wsV RX8 85 RX8 yX8_freshTree wsX8_freshTree) := goodIn_app (goodIn_of _ (by decide +kernel)) ggX8_at_X8_freshTree
set_option maxRecDepth 20000 in
theorem ggX8_at_X6_objectByte : GoodIn wsX8_at wsX6_objectByte := goodIn_r _ [125, 25, 53, 126, 127, 128, 20, 129, 24, 9, 10, 11, 114, 115, 116, 117, 23, 54, 55, 56, 30, 57, 58, 59, 60, 61, 62, 63, 64, 65, 66, 67, 68, 69, 70, 71, 72, 73, 74, 75, 76, 77, 78, 79, 84, 85, 86, 87, 88, 89, 90, 91, 92, 93, 94, 95, 96, 97, 130, 131, 132, 133, 102, 103, 104, 105, 134, 135, 136, 137, 118, 119, 120, 121, 147, 148, 149, 150, 151, 152, 153, 154, 155, 156, 157, 158, 159] (by decide +kernel) (by decide +kernel)
set_option maxRecDepth 20000 in
theorem gX8_at_X6_objectByte : GoodIn wsX8_at (wsV RX8 124 RX6 yX6_objectByte wsX6_objectByte) := goodIn_app (goodIn_of _ (by decide +kernel)) ggX8_at_X6_objectByte
theorem dX8_at_0 : decode cX8_at 0 = .ok (.aload_n 0, 1) := by decide +kernel
theorem dX8_at_1 : decode cX8_at 1 = .ok (.getfield 19, 3) := by decide +kernel
theorem dX8_at_4 : decode cX8_at 4 = .ok (.invokevirtual 62, 3) := by decide +kernel
theorem dX8_at_7 : decode cX8_at 7 = .ok (.ifCond .eq 10, 3) := by decide +kernel
theorem dX8_at_10 : decode cX8_at 10 = .ok (.iload_n 1, 1) := by decide +kernel
theorem dX8_at_11 : decode cX8_at 11 = .ok (.invokestatic 78, 3) := by decide +kernel
theorem dX8_at_14 : decode cX8_at 14 = .ok (.ifCond .ne 6, 3) := by decide +kernel
theorem dX8_at_17 : decode cX8_at 17 = .ok (.bipush (-2), 2) := by decide +kernel
theorem dX8_at_19 : decode cX8_at 19 = .ok (.ireturn, 1) := by decide +kernel
theorem dX8_at_20 : decode cX8_at 20 = .ok (.aload_n 0, 1) := by decide +kernel
theorem dX8_at_21 : decode cX8_at 21 = .ok (.invokevirtual 85, 3) := by decide +kernel
theorem dX8_at_24 : decode cX8_at 24 = .ok (.iload_n 1, 1) := by decide +kernel
theorem dX8_at_25 : decode cX8_at 25 = .ok (.iload_n 2, 1) := by decide +kernel
theorem dX8_at_26 : decode cX8_at 26 = .ok (.invokevirtual 124, 3) := by decide +kernel
theorem dX8_at_29 : decode cX8_at 29 = .ok (.ireturn, 1) := by decide +kernel
set_option maxRecDepth 20000 in
theorem ggX8_cut_X3_isOn : GoodIn wsX8_cut wsX3_isOn := goodIn_r _ [6, 7, 39, 40] (by decide +kernel) (by decide +kernel)
set_option maxRecDepth 20000 in
theorem gX8_cut_X3_isOn : GoodIn wsX8_cut (wsV RX8 62 RX3 yX3_isOn wsX3_isOn) := goodIn_app (goodIn_of _ (by decide +kernel)) ggX8_cut_X3_isOn
set_option maxRecDepth 20000 in
theorem ggX8_cut_X3_goOff : GoodIn wsX8_cut wsX3_goOff := goodIn_r _ [11, 7, 12, 39, 40] (by decide +kernel) (by decide +kernel)
set_option maxRecDepth 20000 in
theorem gX8_cut_X3_goOff : GoodIn wsX8_cut (wsV RX8 128 RX3 yX3_goOff wsX3_goOff) := goodIn_app (goodIn_of _ (by decide +kernel)) ggX8_cut_X3_goOff
set_option maxRecDepth 20000 in
theorem ggX8_cut_X8_loseInputs : GoodIn wsX8_cut wsX8_loseInputs := goodIn_r _ [17, 18, 19, 20, 21, 22, 23, 24, 25, 26, 27, 28, 29, 30, 31, 32, 33, 34, 35, 36, 37, 38, 41, 42, 43, 44, 45, 46] (by decide +kernel) (by decide +kernel)
set_option maxRecDepth 20000 in
theorem gX8_cut_X8_loseInputs : GoodIn wsX8_cut (wsV RX8 131 RX8 yX8_loseInputs wsX8_loseInputs) := goodIn_app (goodIn_of _ (by decide +kernel)) ggX8_cut_X8_loseInputs
theorem dX8_cut_0 : decode cX8_cut 0 = .ok (.aload_n 0, 1) := by decide +kernel
theorem dX8_cut_1 : decode cX8_cut 1 = .ok (.getfield 19, 3) := by decide +kernel
theorem dX8_cut_4 : decode cX8_cut 4 = .ok (.invokevirtual 62, 3) := by decide +kernel
theorem dX8_cut_7 : decode cX8_cut 7 = .ok (.ifCond .ne 5, 3) := by decide +kernel
theorem dX8_cut_10 : decode cX8_cut 10 = .ok (.iconst 0, 1) := by decide +kernel
theorem dX8_cut_11 : decode cX8_cut 11 = .ok (.ireturn, 1) := by decide +kernel
theorem dX8_cut_12 : decode cX8_cut 12 = .ok (.aload_n 0, 1) := by decide +kernel
theorem dX8_cut_13 : decode cX8_cut 13 = .ok (.getfield 19, 3) := by decide +kernel
theorem dX8_cut_16 : decode cX8_cut 16 = .ok (.invokevirtual 128, 3) := by decide +kernel
theorem dX8_cut_19 : decode cX8_cut 19 = .ok (.aload_n 0, 1) := by decide +kernel
theorem dX8_cut_20 : decode cX8_cut 20 = .ok (.invokevirtual 131, 3) := by decide +kernel
theorem dX8_cut_23 : decode cX8_cut 23 = .ok (.iconst 1, 1) := by decide +kernel
theorem dX8_cut_24 : decode cX8_cut 24 = .ok (.ireturn, 1) := by decide +kernel
set_option maxRecDepth 20000 in
theorem ggX8_arm_X3_isOn : GoodIn wsX8_arm wsX3_isOn := goodIn_r _ [6, 7, 20, 21] (by decide +kernel) (by decide +kernel)
set_option maxRecDepth 20000 in
theorem gX8_arm_X3_isOn : GoodIn wsX8_arm (wsV RX8 62 RX3 yX3_isOn wsX3_isOn) := goodIn_app (goodIn_of _ (by decide +kernel)) ggX8_arm_X3_isOn
set_option maxRecDepth 20000 in
theorem ggX8_arm_X3_armWith : GoodIn wsX8_arm wsX3_armWith := goodIn_r _ [11, 12, 20, 21] (by decide +kernel) (by decide +kernel)
set_option maxRecDepth 20000 in
theorem gX8_arm_X3_armWith : GoodIn wsX8_arm (wsV RX8 134 RX3 yX3_armWith wsX3_armWith) := goodIn_app (goodIn_of _ (by decide +kernel)) ggX8_arm_X3_armWith
theorem dX8_arm_0 : decode cX8_arm 0 = .ok (.aload_n 0, 1) := by decide +kernel
theorem dX8_arm_1 : decode cX8_arm 1 = .ok (.getfield 19, 3) := by decide +kernel
theorem dX8_arm_4 : decode cX8_arm 4 = .ok (.invokevirtual 62, 3) := by decide +kernel
theorem dX8_arm_7 : decode cX8_arm 7 = .ok (.ifCond .eq 14, 3) := by decide +kernel
theorem dX8_arm_10 : decode cX8_arm 10 = .ok (.iload_n 1, 1) := by decide +kernel
theorem dX8_arm_11 : decode cX8_arm 11 = .ok (.ifCond .lt 10, 3) := by decide +kernel
theorem dX8_arm_14 : decode cX8_arm 14 = .ok (.iload_n 1, 1) := by decide +kernel
theorem dX8_arm_15 : decode cX8_arm 15 = .ok (.sipush 200, 3) := by decide +kernel
theorem dX8_arm_18 : decode cX8_arm 18 = .ok (.if_icmp .le 5, 3) := by decide +kernel
theorem dX8_arm_21 : decode cX8_arm 21 = .ok (.iconst 0, 1) := by decide +kernel
theorem dX8_arm_22 : decode cX8_arm 22 = .ok (.ireturn, 1) := by decide +kernel
theorem dX8_arm_23 : decode cX8_arm 23 = .ok (.aload_n 0, 1) := by decide +kernel
theorem dX8_arm_24 : decode cX8_arm 24 = .ok (.getfield 19, 3) := by decide +kernel
theorem dX8_arm_27 : decode cX8_arm 27 = .ok (.iload_n 1, 1) := by decide +kernel
theorem dX8_arm_28 : decode cX8_arm 28 = .ok (.invokevirtual 134, 3) := by decide +kernel
theorem dX8_arm_31 : decode cX8_arm 31 = .ok (.iconst 1, 1) := by decide +kernel
theorem dX8_arm_32 : decode cX8_arm 32 = .ok (.ireturn, 1) := by decide +kernel
set_option maxRecDepth 20000 in
theorem ggX8_power_X3_isOn : GoodIn wsX8_power wsX3_isOn := goodIn_r _ [7, 8, 26, 27] (by decide +kernel) (by decide +kernel)
set_option maxRecDepth 20000 in
theorem gX8_power_X3_isOn : GoodIn wsX8_power (wsV RX8 62 RX3 yX3_isOn wsX3_isOn) := goodIn_app (goodIn_of _ (by decide +kernel)) ggX8_power_X3_isOn
set_option maxRecDepth 20000 in
theorem ggX8_power_X3_goOn : GoodIn wsX8_power wsX3_goOn := goodIn_r _ [12, 8, 26, 27] (by decide +kernel) (by decide +kernel)
set_option maxRecDepth 20000 in
theorem gX8_power_X3_goOn : GoodIn wsX8_power (wsV RX8 138 RX3 yX3_goOn wsX3_goOn) := goodIn_app (goodIn_of _ (by decide +kernel)) ggX8_power_X3_goOn
set_option maxRecDepth 20000 in
theorem ggX8_power_X7_startOver : GoodIn wsX8_power wsX7_startOver := goodIn_r _ [17, 18, 28, 29, 30, 31, 32, 33, 34, 35] (by decide +kernel) (by decide +kernel)
set_option maxRecDepth 20000 in
theorem gX8_power_X7_startOver : GoodIn wsX8_power (wsV RX8 141 RX7 yX7_startOver wsX7_startOver) := goodIn_app (goodIn_of _ (by decide +kernel)) ggX8_power_X7_startOver
theorem dX8_power_0 : decode cX8_power 0 = .ok (.aload_n 0, 1) := by decide +kernel
theorem dX8_power_1 : decode cX8_power 1 = .ok (.getfield 19, 3) := by decide +kernel
theorem dX8_power_4 : decode cX8_power 4 = .ok (.invokevirtual 62, 3) := by decide +kernel
theorem dX8_power_7 : decode cX8_power 7 = .ok (.ifCond .eq 5, 3) := by decide +kernel
theorem dX8_power_10 : decode cX8_power 10 = .ok (.iconst 0, 1) := by decide +kernel
theorem dX8_power_11 : decode cX8_power 11 = .ok (.ireturn, 1) := by decide +kernel
theorem dX8_power_12 : decode cX8_power 12 = .ok (.aload_n 0, 1) := by decide +kernel
theorem dX8_power_13 : decode cX8_power 13 = .ok (.getfield 19, 3) := by decide +kernel
theorem dX8_power_16 : decode cX8_power 16 = .ok (.invokevirtual 138, 3) := by decide +kernel
theorem dX8_power_19 : decode cX8_power 19 = .ok (.aload_n 0, 1) := by decide +kernel
theorem dX8_power_20 : decode cX8_power 20 = .ok (.getfield 58, 3) := by decide +kernel
theorem dX8_power_23 : decode cX8_power 23 = .ok (.invokevirtual 141, 3) := by decide +kernel
theorem dX8_power_26 : decode cX8_power 26 = .ok (.iconst 1, 1) := by decide +kernel
theorem dX8_power_27 : decode cX8_power 27 = .ok (.ireturn, 1) := by decide +kernel
set_option maxRecDepth 20000 in
theorem ggX8_disk_X1_byteAt : GoodIn wsX8_disk wsX1_byteAt := goodIn_r _ [6, 7, 15, 16, 17, 18] (by decide +kernel) (by decide +kernel)
set_option maxRecDepth 20000 in
theorem gX8_disk_X1_byteAt : GoodIn wsX8_disk (wsV RX8 144 RX1 yX1_byteAt wsX1_byteAt) := goodIn_app (goodIn_of _ (by decide +kernel)) ggX8_disk_X1_byteAt
theorem dX8_disk_0 : decode cX8_disk 0 = .ok (.aload_n 0, 1) := by decide +kernel
theorem dX8_disk_1 : decode cX8_disk 1 = .ok (.getfield 12, 3) := by decide +kernel
theorem dX8_disk_4 : decode cX8_disk 4 = .ok (.iload_n 1, 1) := by decide +kernel
theorem dX8_disk_5 : decode cX8_disk 5 = .ok (.invokevirtual 144, 3) := by decide +kernel
theorem dX8_disk_8 : decode cX8_disk 8 = .ok (.ireturn, 1) := by decide +kernel
set_option maxRecDepth 20000 in
theorem ggX8_cell_X1_cellKey : GoodIn wsX8_cell wsX1_cellKey := goodIn_r _ [6, 7, 20, 21, 22, 23] (by decide +kernel) (by decide +kernel)
set_option maxRecDepth 20000 in
theorem gX8_cell_X1_cellKey : GoodIn wsX8_cell (wsV RX8 147 RX1 yX1_cellKey wsX1_cellKey) := goodIn_app (goodIn_of _ (by decide +kernel)) ggX8_cell_X1_cellKey
set_option maxRecDepth 20000 in
theorem ggX8_cell_X1_cellPage : GoodIn wsX8_cell wsX1_cellPage := goodIn_r _ [11, 12, 20, 21, 22, 23] (by decide +kernel) (by decide +kernel)
set_option maxRecDepth 20000 in
theorem gX8_cell_X1_cellPage : GoodIn wsX8_cell (wsV RX8 150 RX1 yX1_cellPage wsX1_cellPage) := goodIn_app (goodIn_of _ (by decide +kernel)) ggX8_cell_X1_cellPage
theorem dX8_cell_0 : decode cX8_cell 0 = .ok (.iload_n 1, 1) := by decide +kernel
theorem dX8_cell_1 : decode cX8_cell 1 = .ok (.lookupswitch 44 #[(0, 27), (1, 35)], 27) := by decide +kernel
theorem dX8_cell_28 : decode cX8_cell 28 = .ok (.aload_n 0, 1) := by decide +kernel
theorem dX8_cell_29 : decode cX8_cell 29 = .ok (.getfield 12, 3) := by decide +kernel
theorem dX8_cell_32 : decode cX8_cell 32 = .ok (.invokevirtual 147, 3) := by decide +kernel
theorem dX8_cell_35 : decode cX8_cell 35 = .ok (.lreturn, 1) := by decide +kernel
theorem dX8_cell_36 : decode cX8_cell 36 = .ok (.aload_n 0, 1) := by decide +kernel
theorem dX8_cell_37 : decode cX8_cell 37 = .ok (.getfield 12, 3) := by decide +kernel
theorem dX8_cell_40 : decode cX8_cell 40 = .ok (.invokevirtual 150, 3) := by decide +kernel
theorem dX8_cell_43 : decode cX8_cell 43 = .ok (.i2l, 1) := by decide +kernel
theorem dX8_cell_44 : decode cX8_cell 44 = .ok (.lreturn, 1) := by decide +kernel
theorem dX8_cell_45 : decode cX8_cell 45 = .ok (.lconst 0, 1) := by decide +kernel
theorem dX8_cell_46 : decode cX8_cell 46 = .ok (.lreturn, 1) := by decide +kernel
set_option maxRecDepth 20000 in
theorem ggX8_known_X8_freshReach : GoodIn wsX8_known wsX8_freshReach := goodIn_r _ [5, 6, 7, 8, 9, 10, 11, 12, 13, 14, 15, 16, 17, 18, 19, 20, 21, 22, 23, 24, 25, 26, 27, 28, 29, 30, 31, 32, 33, 34, 35, 36, 37, 38, 39, 40, 41, 42, 43, 44, 45, 46, 47, 48, 49, 50, 51, 52, 53, 4, 54, 55, 56, 57, 58, 59, 60, 61, 62, 63, 64, 65, 66, 67, 68, 69, 70, 71, 72, 73, 74, 75, 76, 77, 78, 79, 80, 81, 82, 83, 84, 85, 86, 87, 88, 89, 90, 91, 92, 93, 94, 95, 96, 97, 98, 99, 100, 102, 103, 104, 105, 106, 107, 108, 109, 110, 111, 112, 113, 114, 115, 116, 117, 118, 119] (by decide +kernel) (by decide +kernel)
set_option maxRecDepth 20000 in
theorem gX8_known_X8_freshReach : GoodIn wsX8_known (wsV RX8 153 RX8 yX8_freshReach wsX8_freshReach) := goodIn_app (goodIn_of _ (by decide +kernel)) ggX8_known_X8_freshReach
set_option maxRecDepth 20000 in
theorem ggX8_known_X4_has : GoodIn wsX8_known wsX4_has := goodIn_r _ [35, 14, 31, 109, 110, 111, 112, 113, 114] (by decide +kernel) (by decide +kernel)
set_option maxRecDepth 20000 in
theorem gX8_known_X4_has : GoodIn wsX8_known (wsV RX8 157 RX4 yX4_has wsX4_has) := goodIn_app (goodIn_of _ (by decide +kernel)) ggX8_known_X4_has
theorem dX8_known_0 : decode cX8_known 0 = .ok (.aload_n 0, 1) := by decide +kernel
theorem dX8_known_1 : decode cX8_known 1 = .ok (.invokevirtual 153, 3) := by decide +kernel
theorem dX8_known_4 : decode cX8_known 4 = .ok (.lload_n 1, 1) := by decide +kernel
theorem dX8_known_5 : decode cX8_known 5 = .ok (.invokevirtual 157, 3) := by decide +kernel
theorem dX8_known_8 : decode cX8_known 8 = .ok (.ireturn, 1) := by decide +kernel
set_option maxRecDepth 20000 in
theorem ggX8_knownAt_X8_freshReach : GoodIn wsX8_knownAt wsX8_freshReach := goodIn_r _ [5, 6, 7, 8, 9, 10, 11, 12, 13, 14, 15, 16, 17, 18, 19, 20, 21, 22, 23, 24, 25, 26, 27, 28, 29, 30, 31, 32, 33, 34, 35, 36, 37, 38, 39, 40, 41, 42, 43, 44, 45, 46, 47, 48, 49, 50, 51, 52, 53, 4, 54, 55, 56, 57, 58, 59, 60, 61, 62, 63, 64, 65, 66, 67, 68, 69, 70, 71, 72, 73, 74, 75, 76, 77, 78, 79, 80, 81, 82, 83, 84, 85, 86, 87, 88, 89, 90, 91, 92, 93, 94, 95, 96, 97, 98, 99, 100, 105, 106, 107, 108, 109, 110, 111, 112, 113, 114, 115, 116, 117, 118, 119, 120, 121, 122] (by decide +kernel) (by decide +kernel)
set_option maxRecDepth 20000 in
theorem gX8_knownAt_X8_freshReach : GoodIn wsX8_knownAt (wsV RX8 153 RX8 yX8_freshReach wsX8_freshReach) := goodIn_app (goodIn_of _ (by decide +kernel)) ggX8_knownAt_X8_freshReach
set_option maxRecDepth 20000 in
theorem ggX8_knownAt_X4_keyAt : GoodIn wsX8_knownAt wsX4_keyAt := goodIn_r _ [104, 14, 31, 112, 113, 114, 115, 116, 117] (by decide +kernel) (by decide +kernel)
set_option maxRecDepth 20000 in
theorem gX8_knownAt_X4_keyAt : GoodIn wsX8_knownAt (wsV RX8 159 RX4 yX4_keyAt wsX4_keyAt) := goodIn_app (goodIn_of _ (by decide +kernel)) ggX8_knownAt_X4_keyAt
theorem dX8_knownAt_0 : decode cX8_knownAt 0 = .ok (.aload_n 0, 1) := by decide +kernel
theorem dX8_knownAt_1 : decode cX8_knownAt 1 = .ok (.invokevirtual 153, 3) := by decide +kernel
theorem dX8_knownAt_4 : decode cX8_knownAt 4 = .ok (.iload_n 1, 1) := by decide +kernel
theorem dX8_knownAt_5 : decode cX8_knownAt 5 = .ok (.invokevirtual 159, 3) := by decide +kernel
theorem dX8_knownAt_8 : decode cX8_knownAt 8 = .ok (.lreturn, 1) := by decide +kernel
set_option maxRecDepth 20000 in
theorem ggX8_live_X8_freshTree : GoodIn wsX8_live wsX8_freshTree := goodIn_r _ [5, 6, 7, 8, 9, 10, 11, 12, 13, 14, 15, 16, 17, 18, 19, 20, 21, 22, 23, 24, 25, 26, 27, 28, 29, 30, 31, 32, 33, 34, 35, 36, 37, 38, 39, 40, 41, 42, 43, 44, 45, 46, 47, 48, 49, 4, 50, 51, 52, 53, 54, 55, 56, 57, 58, 59, 60, 61, 62, 63, 64, 65, 66, 67, 68, 69, 70, 71, 72, 73, 74, 75, 76, 77, 78, 79, 80, 81, 82, 83, 84, 85, 86, 87, 88, 89, 90, 91, 92, 93, 94, 95, 96, 97, 98, 99, 100, 101, 102, 103, 104, 105, 106, 107, 108, 109, 110, 111, 116, 117, 118, 119, 120, 121, 122, 123, 124, 125, 126, 127, 128, 129, 130, 131, 132, 133, 134, 135] (by decide +kernel) (by decide +kernel)
set_option maxRecDepth 20000 in
theorem gX8_live_X8_freshTree : GoodIn wsX8_live (wsV RX8 85 RX8 yX8_freshTree wsX8_freshTree) := goodIn_app (goodIn_of _ (by decide +kernel)) ggX8_live_X8_freshTree
set_option maxRecDepth 20000 in
theorem ggX8_live_X6_isLive : GoodIn wsX8_live wsX6_isLive := goodIn_r _ [115, 27, 49, 4, 50, 123, 124, 125, 126, 127, 128, 129, 130] (by decide +kernel) (by decide +kernel)
set_option maxRecDepth 20000 in
theorem gX8_live_X6_isLive : GoodIn wsX8_live (wsV RX8 163 RX6 yX6_isLive wsX6_isLive) := goodIn_app (goodIn_of _ (by decide +kernel)) ggX8_live_X6_isLive
theorem dX8_live_0 : decode cX8_live 0 = .ok (.aload_n 0, 1) := by decide +kernel
theorem dX8_live_1 : decode cX8_live 1 = .ok (.invokevirtual 85, 3) := by decide +kernel
theorem dX8_live_4 : decode cX8_live 4 = .ok (.iload_n 1, 1) := by decide +kernel
theorem dX8_live_5 : decode cX8_live 5 = .ok (.invokevirtual 163, 3) := by decide +kernel
theorem dX8_live_8 : decode cX8_live 8 = .ok (.ireturn, 1) := by decide +kernel
set_option maxRecDepth 20000 in
theorem ggX8_count_X3_isOn : GoodIn wsX8_count wsX3_isOn := goodIn_r _ [10, 11, 206, 207] (by decide +kernel) (by decide +kernel)
set_option maxRecDepth 20000 in
theorem gX8_count_X3_isOn : GoodIn wsX8_count (wsV RX8 62 RX3 yX3_isOn wsX3_isOn) := goodIn_app (goodIn_of _ (by decide +kernel)) ggX8_count_X3_isOn
set_option maxRecDepth 20000 in
theorem ggX8_count_X2_length : GoodIn wsX8_count wsX2_length := goodIn_r _ [16, 17, 208, 209, 210, 211] (by decide +kernel) (by decide +kernel)
set_option maxRecDepth 20000 in
theorem gX8_count_X2_length : GoodIn wsX8_count (wsV RX8 84 RX2 yX2_length wsX2_length) := goodIn_app (goodIn_of _ (by decide +kernel)) ggX8_count_X2_length
set_option maxRecDepth 20000 in
theorem ggX8_count_X5_length : GoodIn wsX8_count wsX5_length := goodIn_r _ [22, 23, 212, 213] (by decide +kernel) (by decide +kernel)
set_option maxRecDepth 20000 in
theorem gX8_count_X5_length : GoodIn wsX8_count (wsV RX8 74 RX5 yX5_length wsX5_length) := goodIn_app (goodIn_of _ (by decide +kernel)) ggX8_count_X5_length
set_option maxRecDepth 20000 in
theorem ggX8_count_X8_freshTree : GoodIn wsX8_count wsX8_freshTree := goodIn_r _ [28, 29, 30, 31, 32, 33, 34, 35, 36, 37, 38, 39, 40, 41, 42, 43, 44, 45, 46, 47, 48, 49, 50, 51, 52, 53, 54, 55, 56, 57, 58, 59, 60, 61, 62, 63, 64, 65, 66, 67, 68, 69, 70, 71, 72, 27, 73, 74, 75, 76, 77, 78, 79, 80, 81, 82, 83, 84, 85, 86, 87, 88, 89, 90, 91, 92, 93, 94, 95, 96, 97, 98, 99, 100, 101, 102, 103, 104, 105, 106, 107, 108, 109, 110, 111, 112, 113, 114, 115, 116, 117, 118, 119, 120, 121, 122, 123, 124, 125, 126, 127, 128, 129, 130, 131, 132, 133, 134, 199, 200, 201, 202, 203, 204, 205, 214, 215, 216, 217, 218, 219, 220, 221, 222, 223, 224, 225, 226] (by decide +kernel) (by decide +kernel)
set_option maxRecDepth 20000 in
theorem gX8_count_X8_freshTree : GoodIn wsX8_count (wsV RX8 85 RX8 yX8_freshTree wsX8_freshTree) := goodIn_app (goodIn_of _ (by decide +kernel)) ggX8_count_X8_freshTree
set_option maxRecDepth 20000 in
theorem ggX8_count_X6_liveCount : GoodIn wsX8_count wsX6_liveCount := goodIn_r _ [138, 51, 214, 215, 216, 217, 218, 219, 220, 221] (by decide +kernel) (by decide +kernel)
set_option maxRecDepth 20000 in
theorem gX8_count_X6_liveCount : GoodIn wsX8_count (wsV RX8 166 RX6 yX6_liveCount wsX6_liveCount) := goodIn_app (goodIn_of _ (by decide +kernel)) ggX8_count_X6_liveCount
set_option maxRecDepth 20000 in
theorem ggX8_count_X6_objectCount : GoodIn wsX8_count wsX6_objectCount := goodIn_r _ [142, 39, 214, 215, 216, 217, 218, 219, 220, 221] (by decide +kernel) (by decide +kernel)
set_option maxRecDepth 20000 in
theorem gX8_count_X6_objectCount : GoodIn wsX8_count (wsV RX8 169 RX6 yX6_objectCount wsX6_objectCount) := goodIn_app (goodIn_of _ (by decide +kernel)) ggX8_count_X6_objectCount
set_option maxRecDepth 20000 in
theorem ggX8_count_X7_pagesWritten : GoodIn wsX8_count wsX7_pagesWritten := goodIn_r _ [147, 148, 227, 228, 229, 230, 231, 232, 233, 234] (by decide +kernel) (by decide +kernel)
set_option maxRecDepth 20000 in
theorem gX8_count_X7_pagesWritten : GoodIn wsX8_count (wsV RX8 172 RX7 yX7_pagesWritten wsX7_pagesWritten) := goodIn_app (goodIn_of _ (by decide +kernel)) ggX8_count_X7_pagesWritten
set_option maxRecDepth 20000 in
theorem ggX8_count_X1_stepsDone : GoodIn wsX8_count wsX1_stepsDone := goodIn_r _ [44, 45, 222, 223, 224, 225] (by decide +kernel) (by decide +kernel)
set_option maxRecDepth 20000 in
theorem gX8_count_X1_stepsDone : GoodIn wsX8_count (wsV RX8 175 RX1 yX1_stepsDone wsX1_stepsDone) := goodIn_app (goodIn_of _ (by decide +kernel)) ggX8_count_X1_stepsDone
set_option maxRecDepth 20000 in
theorem ggX8_count_X8_freshReach : GoodIn wsX8_count wsX8_freshReach := goodIn_r _ [153, 154, 155, 156, 157, 158, 159, 160, 161, 162, 163, 164, 41, 42, 43, 44, 45, 165, 53, 54, 55, 56, 166, 167, 168, 169, 170, 171, 172, 173, 174, 175, 176, 177, 178, 179, 180, 181, 182, 183, 184, 185, 186, 187, 68, 69, 70, 71, 72, 27, 73, 74, 75, 76, 77, 78, 79, 80, 81, 82, 83, 84, 85, 86, 87, 88, 89, 90, 91, 92, 188, 189, 190, 191, 192, 193, 98, 99, 100, 101, 102, 103, 104, 105, 106, 107, 108, 109, 110, 194, 112, 113, 114, 115, 116, 117, 118, 199, 200, 201, 202, 203, 204, 205, 235, 236, 237, 238, 239, 240, 222, 223, 224, 225, 226] (by decide +kernel) (by decide +kernel)
set_option maxRecDepth 20000 in
theorem gX8_count_X8_freshReach : GoodIn wsX8_count (wsV RX8 153 RX8 yX8_freshReach wsX8_freshReach) := goodIn_app (goodIn_of _ (by decide +kernel)) ggX8_count_X8_freshReach
set_option maxRecDepth 20000 in
theorem ggX8_count_X4_length : GoodIn wsX8_count wsX4_length := goodIn_r _ [198, 162, 235, 236, 237, 238, 239, 240] (by decide +kernel) (by decide +kernel)
set_option maxRecDepth 20000 in
theorem gX8_count_X4_length : GoodIn wsX8_count (wsV RX8 178 RX4 yX4_length wsX4_length) := goodIn_app (goodIn_of _ (by decide +kernel)) ggX8_count_X4_length
theorem dX8_count_0 : decode cX8_count 0 = .ok (.iload_n 1, 1) := by decide +kernel
theorem dX8_count_1 : decode cX8_count 1 = .ok (.tableswitch 119 0 7 #[47, 63, 71, 79, 87, 95, 103, 111], 47) := by decide +kernel
theorem dX8_count_48 : decode cX8_count 48 = .ok (.aload_n 0, 1) := by decide +kernel
theorem dX8_count_49 : decode cX8_count 49 = .ok (.getfield 19, 3) := by decide +kernel
theorem dX8_count_52 : decode cX8_count 52 = .ok (.invokevirtual 62, 3) := by decide +kernel
theorem dX8_count_55 : decode cX8_count 55 = .ok (.ifCond .eq 7, 3) := by decide +kernel
theorem dX8_count_58 : decode cX8_count 58 = .ok (.iconst 1, 1) := by decide +kernel
theorem dX8_count_59 : decode cX8_count 59 = .ok (.goto 4, 3) := by decide +kernel
theorem dX8_count_62 : decode cX8_count 62 = .ok (.iconst 0, 1) := by decide +kernel
theorem dX8_count_63 : decode cX8_count 63 = .ok (.ireturn, 1) := by decide +kernel
theorem dX8_count_64 : decode cX8_count 64 = .ok (.aload_n 0, 1) := by decide +kernel
theorem dX8_count_65 : decode cX8_count 65 = .ok (.getfield 26, 3) := by decide +kernel
theorem dX8_count_68 : decode cX8_count 68 = .ok (.invokevirtual 84, 3) := by decide +kernel
theorem dX8_count_71 : decode cX8_count 71 = .ok (.ireturn, 1) := by decide +kernel
theorem dX8_count_72 : decode cX8_count 72 = .ok (.aload_n 0, 1) := by decide +kernel
theorem dX8_count_73 : decode cX8_count 73 = .ok (.getfield 33, 3) := by decide +kernel
theorem dX8_count_76 : decode cX8_count 76 = .ok (.invokevirtual 74, 3) := by decide +kernel
theorem dX8_count_79 : decode cX8_count 79 = .ok (.ireturn, 1) := by decide +kernel
theorem dX8_count_80 : decode cX8_count 80 = .ok (.aload_n 0, 1) := by decide +kernel
theorem dX8_count_81 : decode cX8_count 81 = .ok (.invokevirtual 85, 3) := by decide +kernel
theorem dX8_count_84 : decode cX8_count 84 = .ok (.invokevirtual 166, 3) := by decide +kernel
theorem dX8_count_87 : decode cX8_count 87 = .ok (.ireturn, 1) := by decide +kernel
theorem dX8_count_88 : decode cX8_count 88 = .ok (.aload_n 0, 1) := by decide +kernel
theorem dX8_count_89 : decode cX8_count 89 = .ok (.invokevirtual 85, 3) := by decide +kernel
theorem dX8_count_92 : decode cX8_count 92 = .ok (.invokevirtual 169, 3) := by decide +kernel
theorem dX8_count_95 : decode cX8_count 95 = .ok (.ireturn, 1) := by decide +kernel
theorem dX8_count_96 : decode cX8_count 96 = .ok (.aload_n 0, 1) := by decide +kernel
theorem dX8_count_97 : decode cX8_count 97 = .ok (.getfield 58, 3) := by decide +kernel
theorem dX8_count_100 : decode cX8_count 100 = .ok (.invokevirtual 172, 3) := by decide +kernel
theorem dX8_count_103 : decode cX8_count 103 = .ok (.ireturn, 1) := by decide +kernel
theorem dX8_count_104 : decode cX8_count 104 = .ok (.aload_n 0, 1) := by decide +kernel
theorem dX8_count_105 : decode cX8_count 105 = .ok (.getfield 12, 3) := by decide +kernel
theorem dX8_count_108 : decode cX8_count 108 = .ok (.invokevirtual 175, 3) := by decide +kernel
theorem dX8_count_111 : decode cX8_count 111 = .ok (.ireturn, 1) := by decide +kernel
theorem dX8_count_112 : decode cX8_count 112 = .ok (.aload_n 0, 1) := by decide +kernel
theorem dX8_count_113 : decode cX8_count 113 = .ok (.invokevirtual 153, 3) := by decide +kernel
theorem dX8_count_116 : decode cX8_count 116 = .ok (.invokevirtual 178, 3) := by decide +kernel
theorem dX8_count_119 : decode cX8_count 119 = .ok (.ireturn, 1) := by decide +kernel
theorem dX8_count_120 : decode cX8_count 120 = .ok (.iconst (-1), 1) := by decide +kernel
theorem dX8_count_121 : decode cX8_count 121 = .ok (.ireturn, 1) := by decide +kernel
set_option maxRecDepth 20000 in
theorem ggX8_freshTree_X6_refresh : GoodIn wsX8_freshTree wsX6_refresh := goodIn_r _ [6, 7, 8, 9, 10, 11, 12, 13, 14, 15, 16, 17, 18, 19, 20, 5, 21, 22, 23, 24, 25, 26, 27, 28, 29, 30, 31, 32, 33, 34, 35, 36, 37, 38, 39, 40, 41, 42, 43, 44, 45, 46, 47, 48, 49, 50, 51, 52, 53, 54, 55, 56, 57, 58, 59, 60, 61, 62, 63, 64, 65, 66, 67, 68, 69, 70, 71, 72, 73, 74, 75, 76, 77, 78, 79, 80, 81, 82, 83, 84, 85, 86, 87, 88, 89, 90, 91, 92, 93, 94, 95, 96, 97, 98, 99, 100, 101, 102, 103, 104, 105, 106, 107, 115, 116, 117, 118, 119, 120, 121, 122, 123, 124, 125, 126, 127] (by decide +kernel) (by decide +kernel)
set_option maxRecDepth 20000 in
theorem gX8_freshTree_X6_refresh : GoodIn wsX8_freshTree (wsV RX8 179 RX6 yX6_refresh wsX6_refresh) := goodIn_app (goodIn_of _ (by decide +kernel)) ggX8_freshTree_X6_refresh
theorem dX8_freshTree_0 : decode cX8_freshTree 0 = .ok (.aload_n 0, 1) := by decide +kernel
theorem dX8_freshTree_1 : decode cX8_freshTree 1 = .ok (.getfield 42, 3) := by decide +kernel
theorem dX8_freshTree_4 : decode cX8_freshTree 4 = .ok (.invokevirtual 179, 3) := by decide +kernel
theorem dX8_freshTree_7 : decode cX8_freshTree 7 = .ok (.aload_n 0, 1) := by decide +kernel
theorem dX8_freshTree_8 : decode cX8_freshTree 8 = .ok (.getfield 42, 3) := by decide +kernel
theorem dX8_freshTree_11 : decode cX8_freshTree 11 = .ok (.areturn, 1) := by decide +kernel
set_option maxRecDepth 20000 in
theorem ggX8_freshReach_X4_refresh : GoodIn wsX8_freshReach wsX4_refresh := goodIn_r _ [6, 7, 8, 9, 10, 11, 12, 13, 14, 15, 16, 17, 18, 19, 20, 21, 22, 23, 24, 5, 25, 26, 27, 28, 29, 30, 31, 32, 33, 34, 35, 36, 37, 38, 39, 40, 41, 42, 43, 44, 45, 46, 47, 48, 49, 50, 51, 52, 53, 54, 55, 56, 57, 58, 59, 60, 61, 62, 63, 64, 65, 66, 67, 68, 69, 70, 71, 72, 73, 74, 75, 76, 77, 78, 79, 80, 81, 82, 83, 84, 85, 86, 87, 88, 89, 90, 91, 92, 93, 94, 95, 96, 104, 105, 106, 107, 108, 109, 110, 111, 112, 113, 114] (by decide +kernel) (by decide +kernel)
set_option maxRecDepth 20000 in
theorem gX8_freshReach_X4_refresh : GoodIn wsX8_freshReach (wsV RX8 182 RX4 yX4_refresh wsX4_refresh) := goodIn_app (goodIn_of _ (by decide +kernel)) ggX8_freshReach_X4_refresh
theorem dX8_freshReach_0 : decode cX8_freshReach 0 = .ok (.aload_n 0, 1) := by decide +kernel
theorem dX8_freshReach_1 : decode cX8_freshReach 1 = .ok (.getfield 49, 3) := by decide +kernel
theorem dX8_freshReach_4 : decode cX8_freshReach 4 = .ok (.invokevirtual 182, 3) := by decide +kernel
theorem dX8_freshReach_7 : decode cX8_freshReach 7 = .ok (.aload_n 0, 1) := by decide +kernel
theorem dX8_freshReach_8 : decode cX8_freshReach 8 = .ok (.getfield 49, 3) := by decide +kernel
theorem dX8_freshReach_11 : decode cX8_freshReach 11 = .ok (.areturn, 1) := by decide +kernel
set_option maxRecDepth 20000 in
theorem ggX8_outcome_X8_loseInputs : GoodIn wsX8_outcome wsX8_loseInputs := goodIn_r _ [5, 6, 7, 8, 9, 10, 11, 12, 13, 14, 15, 16, 17, 18, 19, 20, 21, 22, 23, 24, 25, 26, 27, 28, 29, 30, 31, 32] (by decide +kernel) (by decide +kernel)
set_option maxRecDepth 20000 in
theorem gX8_outcome_X8_loseInputs : GoodIn wsX8_outcome (wsV RX8 131 RX8 yX8_loseInputs wsX8_loseInputs) := goodIn_app (goodIn_of _ (by decide +kernel)) ggX8_outcome_X8_loseInputs
theorem dX8_outcome_0 : decode cX8_outcome 0 = .ok (.iload_n 1, 1) := by decide +kernel
theorem dX8_outcome_1 : decode cX8_outcome 1 = .ok (.ifCond .eq 5, 3) := by decide +kernel
theorem dX8_outcome_4 : decode cX8_outcome 4 = .ok (.iconst 1, 1) := by decide +kernel
theorem dX8_outcome_5 : decode cX8_outcome 5 = .ok (.ireturn, 1) := by decide +kernel
theorem dX8_outcome_6 : decode cX8_outcome 6 = .ok (.aload_n 0, 1) := by decide +kernel
theorem dX8_outcome_7 : decode cX8_outcome 7 = .ok (.invokevirtual 131, 3) := by decide +kernel
theorem dX8_outcome_10 : decode cX8_outcome 10 = .ok (.iconst 0, 1) := by decide +kernel
theorem dX8_outcome_11 : decode cX8_outcome 11 = .ok (.ireturn, 1) := by decide +kernel
set_option maxRecDepth 20000 in
theorem ggX8_loseInputs_X2_clear : GoodIn wsX8_loseInputs wsX2_clear := goodIn_r _ [7, 8, 22, 23, 24, 25] (by decide +kernel) (by decide +kernel)
set_option maxRecDepth 20000 in
theorem gX8_loseInputs_X2_clear : GoodIn wsX8_loseInputs (wsV RX8 183 RX2 yX2_clear wsX2_clear) := goodIn_app (goodIn_of _ (by decide +kernel)) ggX8_loseInputs_X2_clear
set_option maxRecDepth 20000 in
theorem ggX8_loseInputs_X5_clear : GoodIn wsX8_loseInputs wsX5_clear := goodIn_r _ [13, 14, 26, 27] (by decide +kernel) (by decide +kernel)
set_option maxRecDepth 20000 in
theorem gX8_loseInputs_X5_clear : GoodIn wsX8_loseInputs (wsV RX8 111 RX5 yX5_clear wsX5_clear) := goodIn_app (goodIn_of _ (by decide +kernel)) ggX8_loseInputs_X5_clear
theorem dX8_loseInputs_0 : decode cX8_loseInputs 0 = .ok (.aload_n 0, 1) := by decide +kernel
theorem dX8_loseInputs_1 : decode cX8_loseInputs 1 = .ok (.getfield 26, 3) := by decide +kernel
theorem dX8_loseInputs_4 : decode cX8_loseInputs 4 = .ok (.invokevirtual 183, 3) := by decide +kernel
theorem dX8_loseInputs_7 : decode cX8_loseInputs 7 = .ok (.aload_n 0, 1) := by decide +kernel
theorem dX8_loseInputs_8 : decode cX8_loseInputs 8 = .ok (.getfield 33, 3) := by decide +kernel
theorem dX8_loseInputs_11 : decode cX8_loseInputs 11 = .ok (.invokevirtual 111, 3) := by decide +kernel
theorem dX8_loseInputs_14 : decode cX8_loseInputs 14 = .ok (.return_, 1) := by decide +kernel
theorem dX8_isObject_0 : decode cX8_isObject 0 = .ok (.iload_n 0, 1) := by decide +kernel
theorem dX8_isObject_1 : decode cX8_isObject 1 = .ok (.ifCond .lt 13, 3) := by decide +kernel
theorem dX8_isObject_4 : decode cX8_isObject 4 = .ok (.iload_n 0, 1) := by decide +kernel
theorem dX8_isObject_5 : decode cX8_isObject 5 = .ok (.bipush 64, 2) := by decide +kernel
theorem dX8_isObject_7 : decode cX8_isObject 7 = .ok (.if_icmp .ge 7, 3) := by decide +kernel
theorem dX8_isObject_10 : decode cX8_isObject 10 = .ok (.iconst 1, 1) := by decide +kernel
theorem dX8_isObject_11 : decode cX8_isObject 11 = .ok (.goto 4, 3) := by decide +kernel
theorem dX8_isObject_14 : decode cX8_isObject 14 = .ok (.iconst 0, 1) := by decide +kernel
theorem dX8_isObject_15 : decode cX8_isObject 15 = .ok (.ireturn, 1) := by decide +kernel
theorem dX8_isPage_0 : decode cX8_isPage 0 = .ok (.iload_n 0, 1) := by decide +kernel
theorem dX8_isPage_1 : decode cX8_isPage 1 = .ok (.ifCond .lt 14, 3) := by decide +kernel
theorem dX8_isPage_4 : decode cX8_isPage 4 = .ok (.iload_n 0, 1) := by decide +kernel
theorem dX8_isPage_5 : decode cX8_isPage 5 = .ok (.sipush 200, 3) := by decide +kernel
theorem dX8_isPage_8 : decode cX8_isPage 8 = .ok (.if_icmp .ge 7, 3) := by decide +kernel
theorem dX8_isPage_11 : decode cX8_isPage 11 = .ok (.iconst 1, 1) := by decide +kernel
theorem dX8_isPage_12 : decode cX8_isPage 12 = .ok (.goto 4, 3) := by decide +kernel
theorem dX8_isPage_15 : decode cX8_isPage 15 = .ok (.iconst 0, 1) := by decide +kernel
theorem dX8_isPage_16 : decode cX8_isPage 16 = .ok (.ireturn, 1) := by decide +kernel
theorem dX8_dataPages_0 : decode cX8_dataPages 0 = .ok (.iload_n 0, 1) := by decide +kernel
theorem dX8_dataPages_1 : decode cX8_dataPages 1 = .ok (.bipush 48, 2) := by decide +kernel
theorem dX8_dataPages_3 : decode cX8_dataPages 3 = .ok (.if_icmp .gt 7, 3) := by decide +kernel
theorem dX8_dataPages_6 : decode cX8_dataPages 6 = .ok (.iconst 1, 1) := by decide +kernel
theorem dX8_dataPages_7 : decode cX8_dataPages 7 = .ok (.goto 12, 3) := by decide +kernel
theorem dX8_dataPages_10 : decode cX8_dataPages 10 = .ok (.iload_n 0, 1) := by decide +kernel
theorem dX8_dataPages_11 : decode cX8_dataPages 11 = .ok (.bipush 48, 2) := by decide +kernel
theorem dX8_dataPages_13 : decode cX8_dataPages 13 = .ok (.iadd, 1) := by decide +kernel
theorem dX8_dataPages_14 : decode cX8_dataPages 14 = .ok (.iconst 1, 1) := by decide +kernel
theorem dX8_dataPages_15 : decode cX8_dataPages 15 = .ok (.isub, 1) := by decide +kernel
theorem dX8_dataPages_16 : decode cX8_dataPages 16 = .ok (.bipush 48, 2) := by decide +kernel
theorem dX8_dataPages_18 : decode cX8_dataPages 18 = .ok (.idiv, 1) := by decide +kernel
theorem dX8_dataPages_19 : decode cX8_dataPages 19 = .ok (.ireturn, 1) := by decide +kernel
theorem dX8_padOf_0 : decode cX8_padOf 0 = .ok (.lload_n 0, 1) := by decide +kernel
theorem dX8_padOf_1 : decode cX8_padOf 1 = .ok (.ldc2_w 184, 3) := by decide +kernel
theorem dX8_padOf_4 : decode cX8_padOf 4 = .ok (.lload_n 2, 1) := by decide +kernel
theorem dX8_padOf_5 : decode cX8_padOf 5 = .ok (.lmul, 1) := by decide +kernel
theorem dX8_padOf_6 : decode cX8_padOf 6 = .ok (.ladd, 1) := by decide +kernel
theorem dX8_padOf_7 : decode cX8_padOf 7 = .ok (.ldc2_w 186, 3) := by decide +kernel
theorem dX8_padOf_10 : decode cX8_padOf 10 = .ok (.lload 4, 2) := by decide +kernel
theorem dX8_padOf_12 : decode cX8_padOf 12 = .ok (.lmul, 1) := by decide +kernel
theorem dX8_padOf_13 : decode cX8_padOf 13 = .ok (.ladd, 1) := by decide +kernel
theorem dX8_padOf_14 : decode cX8_padOf 14 = .ok (.lstore 6, 2) := by decide +kernel
theorem dX8_padOf_16 : decode cX8_padOf 16 = .ok (.lload 6, 2) := by decide +kernel
theorem dX8_padOf_18 : decode cX8_padOf 18 = .ok (.lload 6, 2) := by decide +kernel
theorem dX8_padOf_20 : decode cX8_padOf 20 = .ok (.bipush 29, 2) := by decide +kernel
theorem dX8_padOf_22 : decode cX8_padOf 22 = .ok (.lushr, 1) := by decide +kernel
theorem dX8_padOf_23 : decode cX8_padOf 23 = .ok (.lxor, 1) := by decide +kernel
theorem dX8_padOf_24 : decode cX8_padOf 24 = .ok (.ldc2_w 188, 3) := by decide +kernel
theorem dX8_padOf_27 : decode cX8_padOf 27 = .ok (.lmul, 1) := by decide +kernel
theorem dX8_padOf_28 : decode cX8_padOf 28 = .ok (.lstore 6, 2) := by decide +kernel
theorem dX8_padOf_30 : decode cX8_padOf 30 = .ok (.lload 6, 2) := by decide +kernel
theorem dX8_padOf_32 : decode cX8_padOf 32 = .ok (.lload 6, 2) := by decide +kernel
theorem dX8_padOf_34 : decode cX8_padOf 34 = .ok (.bipush 32, 2) := by decide +kernel
theorem dX8_padOf_36 : decode cX8_padOf 36 = .ok (.lushr, 1) := by decide +kernel
theorem dX8_padOf_37 : decode cX8_padOf 37 = .ok (.lxor, 1) := by decide +kernel
theorem dX8_padOf_38 : decode cX8_padOf 38 = .ok (.lreturn, 1) := by decide +kernel
