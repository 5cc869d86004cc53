theorem dX0_init_0 : decode cX0_init 0 = .ok (.aload_n 0, 1) := by decide +kernel
theorem dX0_init_1 : decode cX0_init 1 = .ok (.invokespecial 3, 3) := by decide +kernel
theorem dX0_init_4 : decode cX0_init 4 = .ok (.aload_n 0, 1) := by decide +kernel
theorem dX0_init_5 : decode cX0_init 5 = .ok (.bipush 7, 2) := by decide +kernel
theorem dX0_init_7 : decode cX0_init 7 = .ok (.newarray .long, 2) := by decide +kernel
theorem dX0_init_9 : decode cX0_init 9 = .ok (.putfield 9, 3) := by decide +kernel
theorem dX0_init_12 : decode cX0_init 12 = .ok (.return_, 1) := by decide +kernel
theorem dX0_clear_0 : decode cX0_clear 0 = .ok (.iconst 0, 1) := by decide +kernel
theorem dX0_clear_1 : decode cX0_clear 1 = .ok (.istore_n 1, 1) := by decide +kernel
theorem dX0_clear_2 : decode cX0_clear 2 = .ok (.iload_n 1, 1) := by decide +kernel
theorem dX0_clear_3 : decode cX0_clear 3 = .ok (.bipush 7, 2) := by decide +kernel
theorem dX0_clear_5 : decode cX0_clear 5 = .ok (.if_icmp .ge 16, 3) := by decide +kernel
theorem dX0_clear_8 : decode cX0_clear 8 = .ok (.aload_n 0, 1) := by decide +kernel
theorem dX0_clear_9 : decode cX0_clear 9 = .ok (.getfield 9, 3) := by decide +kernel
theorem dX0_clear_12 : decode cX0_clear 12 = .ok (.iload_n 1, 1) := by decide +kernel
theorem dX0_clear_13 : decode cX0_clear 13 = .ok (.lconst 0, 1) := by decide +kernel
theorem dX0_clear_14 : decode cX0_clear 14 = .ok (.lastore, 1) := by decide +kernel
theorem dX0_clear_15 : decode cX0_clear 15 = .ok (.iinc 1 1, 3) := by decide +kernel
theorem dX0_clear_18 : decode cX0_clear 18 = .ok (.goto (-16), 3) := by decide +kernel
theorem dX0_clear_21 : decode cX0_clear 21 = .ok (.return_, 1) := by decide +kernel
theorem dX0_word_0 : decode cX0_word 0 = .ok (.iload_n 1, 1) := by decide +kernel
theorem dX0_word_1 : decode cX0_word 1 = .ok (.ifCond .lt 9, 3) := by decide +kernel
theorem dX0_word_4 : decode cX0_word 4 = .ok (.iload_n 1, 1) := by decide +kernel
theorem dX0_word_5 : decode cX0_word 5 = .ok (.bipush 7, 2) := by decide +kernel
theorem dX0_word_7 : decode cX0_word 7 = .ok (.if_icmp .lt 7, 3) := by decide +kernel
theorem dX0_word_10 : decode cX0_word 10 = .ok (.lconst 0, 1) := by decide +kernel
theorem dX0_word_11 : decode cX0_word 11 = .ok (.goto 9, 3) := by decide +kernel
theorem dX0_word_14 : decode cX0_word 14 = .ok (.aload_n 0, 1) := by decide +kernel
theorem dX0_word_15 : decode cX0_word 15 = .ok (.getfield 9, 3) := by decide +kernel
theorem dX0_word_18 : decode cX0_word 18 = .ok (.iload_n 1, 1) := by decide +kernel
theorem dX0_word_19 : decode cX0_word 19 = .ok (.laload, 1) := by decide +kernel
theorem dX0_word_20 : decode cX0_word 20 = .ok (.lreturn, 1) := by decide +kernel
theorem dX0_setWord_0 : decode cX0_setWord 0 = .ok (.iload_n 1, 1) := by decide +kernel
theorem dX0_setWord_1 : decode cX0_setWord 1 = .ok (.ifCond .lt 16, 3) := by decide +kernel
theorem dX0_setWord_4 : decode cX0_setWord 4 = .ok (.iload_n 1, 1) := by decide +kernel
theorem dX0_setWord_5 : decode cX0_setWord 5 = .ok (.bipush 7, 2) := by decide +kernel
theorem dX0_setWord_7 : decode cX0_setWord 7 = .ok (.if_icmp .ge 10, 3) := by decide +kernel
theorem dX0_setWord_10 : decode cX0_setWord 10 = .ok (.aload_n 0, 1) := by decide +kernel
theorem dX0_setWord_11 : decode cX0_setWord 11 = .ok (.getfield 9, 3) := by decide +kernel
theorem dX0_setWord_14 : decode cX0_setWord 14 = .ok (.iload_n 1, 1) := by decide +kernel
theorem dX0_setWord_15 : decode cX0_setWord 15 = .ok (.lload_n 2, 1) := by decide +kernel
theorem dX0_setWord_16 : decode cX0_setWord 16 = .ok (.lastore, 1) := by decide +kernel
theorem dX0_setWord_17 : decode cX0_setWord 17 = .ok (.return_, 1) := by decide +kernel
set_option maxRecDepth 20000 in
theorem ggX0_entryKey_X0_number : GoodIn wsX0_entryKey wsX0_number := goodIn_r _ [5, 6, 7] (by decide +kernel) (by decide +kernel)
set_option maxRecDepth 20000 in
theorem gX0_entryKey_X0_number : GoodIn wsX0_entryKey (wsV RX0 15 RX0 yX0_number wsX0_number) := goodIn_app (goodIn_of _ (by decide +kernel)) ggX0_entryKey_X0_number
theorem dX0_entryKey_0 : decode cX0_entryKey 0 = .ok (.aload_n 0, 1) := by decide +kernel
theorem dX0_entryKey_1 : decode cX0_entryKey 1 = .ok (.iload_n 1, 1) := by decide +kernel
theorem dX0_entryKey_2 : decode cX0_entryKey 2 = .ok (.bipush 10, 2) := by decide +kernel
theorem dX0_entryKey_4 : decode cX0_entryKey 4 = .ok (.imul, 1) := by decide +kernel
theorem dX0_entryKey_5 : decode cX0_entryKey 5 = .ok (.bipush 8, 2) := by decide +kernel
theorem dX0_entryKey_7 : decode cX0_entryKey 7 = .ok (.invokevirtual 15, 3) := by decide +kernel
theorem dX0_entryKey_10 : decode cX0_entryKey 10 = .ok (.lreturn, 1) := by decide +kernel
set_option maxRecDepth 20000 in
theorem ggX0_entryPage_X0_number : GoodIn wsX0_entryPage wsX0_number := goodIn_r _ [5, 6, 7] (by decide +kernel) (by decide +kernel)
set_option maxRecDepth 20000 in
theorem gX0_entryPage_X0_number : GoodIn wsX0_entryPage (wsV RX0 15 RX0 yX0_number wsX0_number) := goodIn_app (goodIn_of _ (by decide +kernel)) ggX0_entryPage_X0_number
theorem dX0_entryPage_0 : decode cX0_entryPage 0 = .ok (.aload_n 0, 1) := by decide +kernel
theorem dX0_entryPage_1 : decode cX0_entryPage 1 = .ok (.iload_n 1, 1) := by decide +kernel
theorem dX0_entryPage_2 : decode cX0_entryPage 2 = .ok (.bipush 10, 2) := by decide +kernel
theorem dX0_entryPage_4 : decode cX0_entryPage 4 = .ok (.imul, 1) := by decide +kernel
theorem dX0_entryPage_5 : decode cX0_entryPage 5 = .ok (.bipush 8, 2) := by decide +kernel
theorem dX0_entryPage_7 : decode cX0_entryPage 7 = .ok (.iadd, 1) := by decide +kernel
theorem dX0_entryPage_8 : decode cX0_entryPage 8 = .ok (.iconst 2, 1) := by decide +kernel
theorem dX0_entryPage_9 : decode cX0_entryPage 9 = .ok (.invokevirtual 15, 3) := by decide +kernel
theorem dX0_entryPage_12 : decode cX0_entryPage 12 = .ok (.l2i, 1) := by decide +kernel
theorem dX0_entryPage_13 : decode cX0_entryPage 13 = .ok (.ireturn, 1) := by decide +kernel
set_option maxRecDepth 20000 in
theorem ggX0_setEntry_X0_setNumber : GoodIn wsX0_setEntry wsX0_setNumber := goodIn_r _ [5, 6, 7, 8, 4, 9, 10, 11, 12, 13] (by decide +kernel) (by decide +kernel)
set_option maxRecDepth 20000 in
theorem gX0_setEntry_X0_setNumber : GoodIn wsX0_setEntry (wsV RX0 19 RX0 yX0_setNumber wsX0_setNumber) := goodIn_app (goodIn_of _ (by decide +kernel)) ggX0_setEntry_X0_setNumber
theorem dX0_setEntry_0 : decode cX0_setEntry 0 = .ok (.aload_n 0, 1) := by decide +kernel
theorem dX0_setEntry_1 : decode cX0_setEntry 1 = .ok (.iload_n 1, 1) := by decide +kernel
theorem dX0_setEntry_2 : decode cX0_setEntry 2 = .ok (.bipush 10, 2) := by decide +kernel
theorem dX0_setEntry_4 : decode cX0_setEntry 4 = .ok (.imul, 1) := by decide +kernel
theorem dX0_setEntry_5 : decode cX0_setEntry 5 = .ok (.bipush 8, 2) := by decide +kernel
theorem dX0_setEntry_7 : decode cX0_setEntry 7 = .ok (.lload_n 2, 1) := by decide +kernel
theorem dX0_setEntry_8 : decode cX0_setEntry 8 = .ok (.invokevirtual 19, 3) := by decide +kernel
theorem dX0_setEntry_11 : decode cX0_setEntry 11 = .ok (.aload_n 0, 1) := by decide +kernel
theorem dX0_setEntry_12 : decode cX0_setEntry 12 = .ok (.iload_n 1, 1) := by decide +kernel
theorem dX0_setEntry_13 : decode cX0_setEntry 13 = .ok (.bipush 10, 2) := by decide +kernel
theorem dX0_setEntry_15 : decode cX0_setEntry 15 = .ok (.imul, 1) := by decide +kernel
theorem dX0_setEntry_16 : decode cX0_setEntry 16 = .ok (.bipush 8, 2) := by decide +kernel
theorem dX0_setEntry_18 : decode cX0_setEntry 18 = .ok (.iadd, 1) := by decide +kernel
theorem dX0_setEntry_19 : decode cX0_setEntry 19 = .ok (.iconst 2, 1) := by decide +kernel
theorem dX0_setEntry_20 : decode cX0_setEntry 20 = .ok (.iload 4, 2) := by decide +kernel
theorem dX0_setEntry_22 : decode cX0_setEntry 22 = .ok (.i2l, 1) := by decide +kernel
theorem dX0_setEntry_23 : decode cX0_setEntry 23 = .ok (.invokevirtual 19, 3) := by decide +kernel
theorem dX0_setEntry_26 : decode cX0_setEntry 26 = .ok (.return_, 1) := by decide +kernel
set_option maxRecDepth 20000 in
theorem ggX0_nextPage_X0_number : GoodIn wsX0_nextPage wsX0_number := goodIn_r _ [5, 6, 7] (by decide +kernel) (by decide +kernel)
set_option maxRecDepth 20000 in
theorem gX0_nextPage_X0_number : GoodIn wsX0_nextPage (wsV RX0 15 RX0 yX0_number wsX0_number) := goodIn_app (goodIn_of _ (by decide +kernel)) ggX0_nextPage_X0_number
theorem dX0_nextPage_0 : decode cX0_nextPage 0 = .ok (.aload_n 0, 1) := by decide +kernel
theorem dX0_nextPage_1 : decode cX0_nextPage 1 = .ok (.iconst 0, 1) := by decide +kernel
theorem dX0_nextPage_2 : decode cX0_nextPage 2 = .ok (.iconst 2, 1) := by decide +kernel
theorem dX0_nextPage_3 : decode cX0_nextPage 3 = .ok (.invokevirtual 15, 3) := by decide +kernel
theorem dX0_nextPage_6 : decode cX0_nextPage 6 = .ok (.l2i, 1) := by decide +kernel
theorem dX0_nextPage_7 : decode cX0_nextPage 7 = .ok (.ireturn, 1) := by decide +kernel
set_option maxRecDepth 20000 in
theorem ggX0_dataLength_X0_number : GoodIn wsX0_dataLength wsX0_number := goodIn_r _ [5, 6, 7] (by decide +kernel) (by decide +kernel)
set_option maxRecDepth 20000 in
theorem gX0_dataLength_X0_number : GoodIn wsX0_dataLength (wsV RX0 15 RX0 yX0_number wsX0_number) := goodIn_app (goodIn_of _ (by decide +kernel)) ggX0_dataLength_X0_number
theorem dX0_dataLength_0 : decode cX0_dataLength 0 = .ok (.aload_n 0, 1) := by decide +kernel
theorem dX0_dataLength_1 : decode cX0_dataLength 1 = .ok (.iconst 2, 1) := by decide +kernel
theorem dX0_dataLength_2 : decode cX0_dataLength 2 = .ok (.iconst 1, 1) := by decide +kernel
theorem dX0_dataLength_3 : decode cX0_dataLength 3 = .ok (.invokevirtual 15, 3) := by decide +kernel
theorem dX0_dataLength_6 : decode cX0_dataLength 6 = .ok (.l2i, 1) := by decide +kernel
theorem dX0_dataLength_7 : decode cX0_dataLength 7 = .ok (.ireturn, 1) := by decide +kernel
set_option maxRecDepth 20000 in
theorem ggX0_dataByte_X0_number : GoodIn wsX0_dataByte wsX0_number := goodIn_r _ [5, 6, 7] (by decide +kernel) (by decide +kernel)
set_option maxRecDepth 20000 in
theorem gX0_dataByte_X0_number : GoodIn wsX0_dataByte (wsV RX0 15 RX0 yX0_number wsX0_number) := goodIn_app (goodIn_of _ (by decide +kernel)) ggX0_dataByte_X0_number
theorem dX0_dataByte_0 : decode cX0_dataByte 0 = .ok (.aload_n 0, 1) := by decide +kernel
theorem dX0_dataByte_1 : decode cX0_dataByte 1 = .ok (.iconst 3, 1) := by decide +kernel
theorem dX0_dataByte_2 : decode cX0_dataByte 2 = .ok (.iload_n 1, 1) := by decide +kernel
theorem dX0_dataByte_3 : decode cX0_dataByte 3 = .ok (.iadd, 1) := by decide +kernel
theorem dX0_dataByte_4 : decode cX0_dataByte 4 = .ok (.iconst 1, 1) := by decide +kernel
theorem dX0_dataByte_5 : decode cX0_dataByte 5 = .ok (.invokevirtual 15, 3) := by decide +kernel
theorem dX0_dataByte_8 : decode cX0_dataByte 8 = .ok (.l2i, 1) := by decide +kernel
theorem dX0_dataByte_9 : decode cX0_dataByte 9 = .ok (.ireturn, 1) := by decide +kernel
set_option maxRecDepth 20000 in
theorem ggX0_setData_X0_clear : GoodIn wsX0_setData wsX0_clear := goodIn_r _ [5, 6, 24] (by decide +kernel) (by decide +kernel)
set_option maxRecDepth 20000 in
theorem gX0_setData_X0_clear : GoodIn wsX0_setData (wsV RX0 23 RX0 yX0_clear wsX0_clear) := goodIn_app (goodIn_of _ (by decide +kernel)) ggX0_setData_X0_clear
set_option maxRecDepth 20000 in
theorem ggX0_setData_X0_setNumber : GoodIn wsX0_setData wsX0_setNumber := goodIn_r _ [10, 11, 12, 13, 4, 14, 6, 15, 16, 24] (by decide +kernel) (by decide +kernel)
set_option maxRecDepth 20000 in
theorem gX0_setData_X0_setNumber : GoodIn wsX0_setData (wsV RX0 19 RX0 yX0_setNumber wsX0_setNumber) := goodIn_app (goodIn_of _ (by decide +kernel)) ggX0_setData_X0_setNumber
set_option maxRecDepth 20000 in
theorem ggX0_setData_X0_setByte : GoodIn wsX0_setData wsX0_setByte := goodIn_r _ [14, 6, 15, 16, 24] (by decide +kernel) (by decide +kernel)
set_option maxRecDepth 20000 in
theorem gX0_setData_X0_setByte : GoodIn wsX0_setData (wsV RX0 26 RX0 yX0_setByte wsX0_setByte) := goodIn_app (goodIn_of _ (by decide +kernel)) ggX0_setData_X0_setByte
set_option maxRecDepth 20000 in
theorem ggX0_setData_X5_byteAt : GoodIn wsX0_setData wsX5_byteAt := goodIn_r _ [21, 22, 23, 25, 26] (by decide +kernel) (by decide +kernel)
set_option maxRecDepth 20000 in
theorem gX0_setData_X5_byteAt : GoodIn wsX0_setData (wsV RX0 30 RX5 yX5_byteAt wsX5_byteAt) := goodIn_app (goodIn_of _ (by decide +kernel)) ggX0_setData_X5_byteAt
theorem dX0_setData_0 : decode cX0_setData 0 = .ok (.aload_n 0, 1) := by decide +kernel
theorem dX0_setData_1 : decode cX0_setData 1 = .ok (.invokevirtual 23, 3) := by decide +kernel
theorem dX0_setData_4 : decode cX0_setData 4 = .ok (.aload_n 0, 1) := by decide +kernel
theorem dX0_setData_5 : decode cX0_setData 5 = .ok (.iconst 0, 1) := by decide +kernel
theorem dX0_setData_6 : decode cX0_setData 6 = .ok (.iconst 2, 1) := by decide +kernel
theorem dX0_setData_7 : decode cX0_setData 7 = .ok (.iload_n 1, 1) := by decide +kernel
theorem dX0_setData_8 : decode cX0_setData 8 = .ok (.i2l, 1) := by decide +kernel
theorem dX0_setData_9 : decode cX0_setData 9 = .ok (.invokevirtual 19, 3) := by decide +kernel
theorem dX0_setData_12 : decode cX0_setData 12 = .ok (.aload_n 0, 1) := by decide +kernel
theorem dX0_setData_13 : decode cX0_setData 13 = .ok (.iconst 2, 1) := by decide +kernel
theorem dX0_setData_14 : decode cX0_setData 14 = .ok (.iload 4, 2) := by decide +kernel
theorem dX0_setData_16 : decode cX0_setData 16 = .ok (.i2l, 1) := by decide +kernel
theorem dX0_setData_17 : decode cX0_setData 17 = .ok (.invokevirtual 26, 3) := by decide +kernel
theorem dX0_setData_20 : decode cX0_setData 20 = .ok (.iconst 0, 1) := by decide +kernel
theorem dX0_setData_21 : decode cX0_setData 21 = .ok (.istore 5, 2) := by decide +kernel
theorem dX0_setData_23 : decode cX0_setData 23 = .ok (.iload 5, 2) := by decide +kernel
theorem dX0_setData_25 : decode cX0_setData 25 = .ok (.iload 4, 2) := by decide +kernel
theorem dX0_setData_27 : decode cX0_setData 27 = .ok (.if_icmp .ge 26, 3) := by decide +kernel
theorem dX0_setData_30 : decode cX0_setData 30 = .ok (.aload_n 0, 1) := by decide +kernel
theorem dX0_setData_31 : decode cX0_setData 31 = .ok (.iconst 3, 1) := by decide +kernel
theorem dX0_setData_32 : decode cX0_setData 32 = .ok (.iload 5, 2) := by decide +kernel
theorem dX0_setData_34 : decode cX0_setData 34 = .ok (.iadd, 1) := by decide +kernel
theorem dX0_setData_35 : decode cX0_setData 35 = .ok (.aload_n 2, 1) := by decide +kernel
theorem dX0_setData_36 : decode cX0_setData 36 = .ok (.iload_n 3, 1) := by decide +kernel
theorem dX0_setData_37 : decode cX0_setData 37 = .ok (.iload 5, 2) := by decide +kernel
theorem dX0_setData_39 : decode cX0_setData 39 = .ok (.iadd, 1) := by decide +kernel
theorem dX0_setData_40 : decode cX0_setData 40 = .ok (.invokevirtual 30, 3) := by decide +kernel
theorem dX0_setData_43 : decode cX0_setData 43 = .ok (.i2l, 1) := by decide +kernel
theorem dX0_setData_44 : decode cX0_setData 44 = .ok (.invokevirtual 26, 3) := by decide +kernel
theorem dX0_setData_47 : decode cX0_setData 47 = .ok (.iinc 5 1, 3) := by decide +kernel
theorem dX0_setData_50 : decode cX0_setData 50 = .ok (.goto (-27), 3) := by decide +kernel
theorem dX0_setData_53 : decode cX0_setData 53 = .ok (.return_, 1) := by decide +kernel
theorem dX0_setByte_0 : decode cX0_setByte 0 = .ok (.iload_n 1, 1) := by decide +kernel
theorem dX0_setByte_1 : decode cX0_setByte 1 = .ok (.ifCond .lt 9, 3) := by decide +kernel
theorem dX0_setByte_4 : decode cX0_setByte 4 = .ok (.iload_n 1, 1) := by decide +kernel
theorem dX0_setByte_5 : decode cX0_setByte 5 = .ok (.bipush 51, 2) := by decide +kernel
theorem dX0_setByte_7 : decode cX0_setByte 7 = .ok (.if_icmp .lt 4, 3) := by decide +kernel
theorem dX0_setByte_10 : decode cX0_setByte 10 = .ok (.return_, 1) := by decide +kernel
theorem dX0_setByte_11 : decode cX0_setByte 11 = .ok (.bipush 56, 2) := by decide +kernel
theorem dX0_setByte_13 : decode cX0_setByte 13 = .ok (.bipush 8, 2) := by decide +kernel
theorem dX0_setByte_15 : decode cX0_setByte 15 = .ok (.iload_n 1, 1) := by decide +kernel
theorem dX0_setByte_16 : decode cX0_setByte 16 = .ok (.bipush 8, 2) := by decide +kernel
theorem dX0_setByte_18 : decode cX0_setByte 18 = .ok (.irem, 1) := by decide +kernel
theorem dX0_setByte_19 : decode cX0_setByte 19 = .ok (.imul, 1) := by decide +kernel
theorem dX0_setByte_20 : decode cX0_setByte 20 = .ok (.isub, 1) := by decide +kernel
theorem dX0_setByte_21 : decode cX0_setByte 21 = .ok (.istore 4, 2) := by decide +kernel
theorem dX0_setByte_23 : decode cX0_setByte 23 = .ok (.aload_n 0, 1) := by decide +kernel
theorem dX0_setByte_24 : decode cX0_setByte 24 = .ok (.getfield 9, 3) := by decide +kernel
theorem dX0_setByte_27 : decode cX0_setByte 27 = .ok (.iload_n 1, 1) := by decide +kernel
theorem dX0_setByte_28 : decode cX0_setByte 28 = .ok (.bipush 8, 2) := by decide +kernel
theorem dX0_setByte_30 : decode cX0_setByte 30 = .ok (.idiv, 1) := by decide +kernel
theorem dX0_setByte_31 : decode cX0_setByte 31 = .ok (.aload_n 0, 1) := by decide +kernel
theorem dX0_setByte_32 : decode cX0_setByte 32 = .ok (.getfield 9, 3) := by decide +kernel
theorem dX0_setByte_35 : decode cX0_setByte 35 = .ok (.iload_n 1, 1) := by decide +kernel
theorem dX0_setByte_36 : decode cX0_setByte 36 = .ok (.bipush 8, 2) := by decide +kernel
theorem dX0_setByte_38 : decode cX0_setByte 38 = .ok (.idiv, 1) := by decide +kernel
theorem dX0_setByte_39 : decode cX0_setByte 39 = .ok (.laload, 1) := by decide +kernel
theorem dX0_setByte_40 : decode cX0_setByte 40 = .ok (.ldc2_w 36, 3) := by decide +kernel
theorem dX0_setByte_43 : decode cX0_setByte 43 = .ok (.iload 4, 2) := by decide +kernel
theorem dX0_setByte_45 : decode cX0_setByte 45 = .ok (.lshl, 1) := by decide +kernel
theorem dX0_setByte_46 : decode cX0_setByte 46 = .ok (.ldc2_w 38, 3) := by decide +kernel
theorem dX0_setByte_49 : decode cX0_setByte 49 = .ok (.lxor, 1) := by decide +kernel
theorem dX0_setByte_50 : decode cX0_setByte 50 = .ok (.land, 1) := by decide +kernel
theorem dX0_setByte_51 : decode cX0_setByte 51 = .ok (.lload_n 2, 1) := by decide +kernel
theorem dX0_setByte_52 : decode cX0_setByte 52 = .ok (.ldc2_w 36, 3) := by decide +kernel
theorem dX0_setByte_55 : decode cX0_setByte 55 = .ok (.land, 1) := by decide +kernel
theorem dX0_setByte_56 : decode cX0_setByte 56 = .ok (.iload 4, 2) := by decide +kernel
theorem dX0_setByte_58 : decode cX0_setByte 58 = .ok (.lshl, 1) := by decide +kernel
theorem dX0_setByte_59 : decode cX0_setByte 59 = .ok (.lor, 1) := by decide +kernel
theorem dX0_setByte_60 : decode cX0_setByte 60 = .ok (.lastore, 1) := by decide +kernel
theorem dX0_setByte_61 : decode cX0_setByte 61 = .ok (.return_, 1) := by decide +kernel
theorem dX0_number_0 : decode cX0_number 0 = .ok (.iload_n 1, 1) := by decide +kernel
theorem dX0_number_1 : decode cX0_number 1 = .ok (.ifCond .lt 11, 3) := by decide +kernel
theorem dX0_number_4 : decode cX0_number 4 = .ok (.iload_n 1, 1) := by decide +kernel
theorem dX0_number_5 : decode cX0_number 5 = .ok (.bipush 51, 2) := by decide +kernel
theorem dX0_number_7 : decode cX0_number 7 = .ok (.iload_n 2, 1) := by decide +kernel
theorem dX0_number_8 : decode cX0_number 8 = .ok (.isub, 1) := by decide +kernel
theorem dX0_number_9 : decode cX0_number 9 = .ok (.if_icmp .le 5, 3) := by decide +kernel
theorem dX0_number_12 : decode cX0_number 12 = .ok (.lconst 0, 1) := by decide +kernel
theorem dX0_number_13 : decode cX0_number 13 = .ok (.lreturn, 1) := by decide +kernel
theorem dX0_number_14 : decode cX0_number 14 = .ok (.lconst 0, 1) := by decide +kernel
theorem dX0_number_15 : decode cX0_number 15 = .ok (.lstore_n 3, 1) := by decide +kernel
theorem dX0_number_16 : decode cX0_number 16 = .ok (.iload_n 1, 1) := by decide +kernel
theorem dX0_number_17 : decode cX0_number 17 = .ok (.istore 5, 2) := by decide +kernel
theorem dX0_number_19 : decode cX0_number 19 = .ok (.iload 5, 2) := by decide +kernel
theorem dX0_number_21 : decode cX0_number 21 = .ok (.iload_n 1, 1) := by decide +kernel
theorem dX0_number_22 : decode cX0_number 22 = .ok (.iload_n 2, 1) := by decide +kernel
theorem dX0_number_23 : decode cX0_number 23 = .ok (.iadd, 1) := by decide +kernel
theorem dX0_number_24 : decode cX0_number 24 = .ok (.if_icmp .ge 37, 3) := by decide +kernel
theorem dX0_number_27 : decode cX0_number 27 = .ok (.lload_n 3, 1) := by decide +kernel
theorem dX0_number_28 : decode cX0_number 28 = .ok (.bipush 8, 2) := by decide +kernel
theorem dX0_number_30 : decode cX0_number 30 = .ok (.lshl, 1) := by decide +kernel
theorem dX0_number_31 : decode cX0_number 31 = .ok (.aload_n 0, 1) := by decide +kernel
theorem dX0_number_32 : decode cX0_number 32 = .ok (.getfield 9, 3) := by decide +kernel
theorem dX0_number_35 : decode cX0_number 35 = .ok (.iload 5, 2) := by decide +kernel
theorem dX0_number_37 : decode cX0_number 37 = .ok (.bipush 8, 2) := by decide +kernel
theorem dX0_number_39 : decode cX0_number 39 = .ok (.idiv, 1) := by decide +kernel
theorem dX0_number_40 : decode cX0_number 40 = .ok (.laload, 1) := by decide +kernel
theorem dX0_number_41 : decode cX0_number 41 = .ok (.bipush 8, 2) := by decide +kernel
theorem dX0_number_43 : decode cX0_number 43 = .ok (.iload 5, 2) := by decide +kernel
theorem dX0_number_45 : decode cX0_number 45 = .ok (.bipush 8, 2) := by decide +kernel
theorem dX0_number_47 : decode cX0_number 47 = .ok (.irem, 1) := by decide +kernel
theorem dX0_number_48 : decode cX0_number 48 = .ok (.imul, 1) := by decide +kernel
theorem dX0_number_49 : decode cX0_number 49 = .ok (.lshl, 1) := by decide +kernel
theorem dX0_number_50 : decode cX0_number 50 = .ok (.bipush 56, 2) := by decide +kernel
theorem dX0_number_52 : decode cX0_number 52 = .ok (.lushr, 1) := by decide +kernel
theorem dX0_number_53 : decode cX0_number 53 = .ok (.lor, 1) := by decide +kernel
theorem dX0_number_54 : decode cX0_number 54 = .ok (.lstore_n 3, 1) := by decide +kernel
theorem dX0_number_55 : decode cX0_number 55 = .ok (.iinc 5 1, 3) := by decide +kernel
theorem dX0_number_58 : decode cX0_number 58 = .ok (.goto (-39), 3) := by decide +kernel
theorem dX0_number_61 : decode cX0_number 61 = .ok (.lload_n 3, 1) := by decide +kernel
theorem dX0_number_62 : decode cX0_number 62 = .ok (.lreturn, 1) := by decide +kernel
set_option maxRecDepth 20000 in
theorem ggX0_setNumber_X0_setByte : GoodIn wsX0_setNumber wsX0_setByte := goodIn_r _ [5, 6, 7, 8, 9] (by decide +kernel) (by decide +kernel)
set_option maxRecDepth 20000 in
theorem gX0_setNumber_X0_setByte : GoodIn wsX0_setNumber (wsV RX0 26 RX0 yX0_setByte wsX0_setByte) := goodIn_app (goodIn_of _ (by decide +kernel)) ggX0_setNumber_X0_setByte
theorem dX0_setNumber_0 : decode cX0_setNumber 0 = .ok (.iconst 0, 1) := by decide +kernel
theorem dX0_setNumber_1 : decode cX0_setNumber 1 = .ok (.istore 5, 2) := by decide +kernel
theorem dX0_setNumber_3 : decode cX0_setNumber 3 = .ok (.iload 5, 2) := by decide +kernel
theorem dX0_setNumber_5 : decode cX0_setNumber 5 = .ok (.iload_n 2, 1) := by decide +kernel
theorem dX0_setNumber_6 : decode cX0_setNumber 6 = .ok (.if_icmp .ge 28, 3) := by decide +kernel
theorem dX0_setNumber_9 : decode cX0_setNumber 9 = .ok (.aload_n 0, 1) := by decide +kernel
theorem dX0_setNumber_10 : decode cX0_setNumber 10 = .ok (.iload_n 1, 1) := by decide +kernel
theorem dX0_setNumber_11 : decode cX0_setNumber 11 = .ok (.iload 5, 2) := by decide +kernel
theorem dX0_setNumber_13 : decode cX0_setNumber 13 = .ok (.iadd, 1) := by decide +kernel
theorem dX0_setNumber_14 : decode cX0_setNumber 14 = .ok (.lload_n 3, 1) := by decide +kernel
theorem dX0_setNumber_15 : decode cX0_setNumber 15 = .ok (.bipush 8, 2) := by decide +kernel
theorem dX0_setNumber_17 : decode cX0_setNumber 17 = .ok (.iload_n 2, 1) := by decide +kernel
theorem dX0_setNumber_18 : decode cX0_setNumber 18 = .ok (.iconst 1, 1) := by decide +kernel
theorem dX0_setNumber_19 : decode cX0_setNumber 19 = .ok (.isub, 1) := by decide +kernel
theorem dX0_setNumber_20 : decode cX0_setNumber 20 = .ok (.iload 5, 2) := by decide +kernel
theorem dX0_setNumber_22 : decode cX0_setNumber 22 = .ok (.isub, 1) := by decide +kernel
theorem dX0_setNumber_23 : decode cX0_setNumber 23 = .ok (.imul, 1) := by decide +kernel
theorem dX0_setNumber_24 : decode cX0_setNumber 24 = .ok (.lushr, 1) := by decide +kernel
theorem dX0_setNumber_25 : decode cX0_setNumber 25 = .ok (.invokevirtual 26, 3) := by decide +kernel
theorem dX0_setNumber_28 : decode cX0_setNumber 28 = .ok (.iinc 5 1, 3) := by decide +kernel
theorem dX0_setNumber_31 : decode cX0_setNumber 31 = .ok (.goto (-28), 3) := by decide +kernel
theorem dX0_setNumber_34 : decode cX0_setNumber 34 = .ok (.return_, 1) := by decide +kernel
theorem dX1_init_0 : decode cX1_init 0 = .ok (.aload_n 0, 1) := by decide +kernel
theorem dX1_init_1 : decode cX1_init 1 = .ok (.invokespecial 3, 3) := by decide +kernel
theorem dX1_init_4 : decode cX1_init 4 = .ok (.aload_n 0, 1) := by decide +kernel
theorem dX1_init_5 : decode cX1_init 5 = .ok (.sipush 1600, 3) := by decide +kernel
theorem dX1_init_8 : decode cX1_init 8 = .ok (.newarray .long, 2) := by decide +kernel
theorem dX1_init_10 : decode cX1_init 10 = .ok (.putfield 9, 3) := by decide +kernel
theorem dX1_init_13 : decode cX1_init 13 = .ok (.aload_n 0, 1) := by decide +kernel
theorem dX1_init_14 : decode cX1_init 14 = .ok (.lconst 0, 1) := by decide +kernel
theorem dX1_init_15 : decode cX1_init 15 = .ok (.putfield 15, 3) := by decide +kernel
theorem dX1_init_18 : decode cX1_init 18 = .ok (.aload_n 0, 1) := by decide +kernel
theorem dX1_init_19 : decode cX1_init 19 = .ok (.iconst (-1), 1) := by decide +kernel
theorem dX1_init_20 : decode cX1_init 20 = .ok (.putfield 19, 3) := by decide +kernel
theorem dX1_init_23 : decode cX1_init 23 = .ok (.aload_n 0, 1) := by decide +kernel
theorem dX1_init_24 : decode cX1_init 24 = .ok (.iconst 0, 1) := by decide +kernel
theorem dX1_init_25 : decode cX1_init 25 = .ok (.putfield 23, 3) := by decide +kernel
theorem dX1_init_28 : decode cX1_init 28 = .ok (.return_, 1) := by decide +kernel
theorem dX1_cellKey_0 : decode cX1_cellKey 0 = .ok (.aload_n 0, 1) := by decide +kernel
theorem dX1_cellKey_1 : decode cX1_cellKey 1 = .ok (.getfield 15, 3) := by decide +kernel
theorem dX1_cellKey_4 : decode cX1_cellKey 4 = .ok (.lreturn, 1) := by decide +kernel
theorem dX1_cellPage_0 : decode cX1_cellPage 0 = .ok (.aload_n 0, 1) := by decide +kernel
theorem dX1_cellPage_1 : decode cX1_cellPage 1 = .ok (.getfield 19, 3) := by decide +kernel
theorem dX1_cellPage_4 : decode cX1_cellPage 4 = .ok (.ireturn, 1) := by decide +kernel
theorem dX1_stepsDone_0 : decode cX1_stepsDone 0 = .ok (.aload_n 0, 1) := by decide +kernel
theorem dX1_stepsDone_1 : decode cX1_stepsDone 1 = .ok (.getfield 23, 3) := by decide +kernel
theorem dX1_stepsDone_4 : decode cX1_stepsDone 4 = .ok (.ireturn, 1) := by decide +kernel
theorem dX1_byteAt_0 : decode cX1_byteAt 0 = .ok (.iload_n 1, 1) := by decide +kernel
theorem dX1_byteAt_1 : decode cX1_byteAt 1 = .ok (.ifCond .lt 10, 3) := by decide +kernel
theorem dX1_byteAt_4 : decode cX1_byteAt 4 = .ok (.iload_n 1, 1) := by decide +kernel
theorem dX1_byteAt_5 : decode cX1_byteAt 5 = .ok (.sipush 12800, 3) := by decide +kernel
theorem dX1_byteAt_8 : decode cX1_byteAt 8 = .ok (.if_icmp .lt 7, 3) := by decide +kernel
theorem dX1_byteAt_11 : decode cX1_byteAt 11 = .ok (.iconst (-1), 1) := by decide +kernel
theorem dX1_byteAt_12 : decode cX1_byteAt 12 = .ok (.goto 24, 3) := by decide +kernel
theorem dX1_byteAt_15 : decode cX1_byteAt 15 = .ok (.aload_n 0, 1) := by decide +kernel
theorem dX1_byteAt_16 : decode cX1_byteAt 16 = .ok (.getfield 9, 3) := by decide +kernel
theorem dX1_byteAt_19 : decode cX1_byteAt 19 = .ok (.iload_n 1, 1) := by decide +kernel
theorem dX1_byteAt_20 : decode cX1_byteAt 20 = .ok (.bipush 8, 2) := by decide +kernel
theorem dX1_byteAt_22 : decode cX1_byteAt 22 = .ok (.idiv, 1) := by decide +kernel
theorem dX1_byteAt_23 : decode cX1_byteAt 23 = .ok (.laload, 1) := by decide +kernel
theorem dX1_byteAt_24 : decode cX1_byteAt 24 = .ok (.bipush 8, 2) := by decide +kernel
theorem dX1_byteAt_26 : decode cX1_byteAt 26 = .ok (.iload_n 1, 1) := by decide +kernel
theorem dX1_byteAt_27 : decode cX1_byteAt 27 = .ok (.bipush 8, 2) := by decide +kernel
theorem dX1_byteAt_29 : decode cX1_byteAt 29 = .ok (.irem, 1) := by decide +kernel
theorem dX1_byteAt_30 : decode cX1_byteAt 30 = .ok (.imul, 1) := by decide +kernel
theorem dX1_byteAt_31 : decode cX1_byteAt 31 = .ok (.lshl, 1) := by decide +kernel
theorem dX1_byteAt_32 : decode cX1_byteAt 32 = .ok (.bipush 56, 2) := by decide +kernel
theorem dX1_byteAt_34 : decode cX1_byteAt 34 = .ok (.lushr, 1) := by decide +kernel
theorem dX1_byteAt_35 : decode cX1_byteAt 35 = .ok (.l2i, 1) := by decide +kernel
theorem dX1_byteAt_36 : decode cX1_byteAt 36 = .ok (.ireturn, 1) := by decide +kernel
set_option maxRecDepth 20000 in
theorem ggX1_fits_X8_isPage : GoodIn wsX1_fits wsX8_isPage := goodIn_r _ [4] (by decide +kernel) (by decide +kernel)
set_option maxRecDepth 20000 in
theorem gX1_fits_X8_isPage_n26 : GoodIn wsX1_fits (wsX8_isPage) := ggX1_fits_X8_isPage
set_option maxRecDepth 20000 in
theorem ggX1_fits_X1_kindOf : GoodIn wsX1_fits wsX1_kindOf := goodIn_r _ [9, 10, 25, 26, 27, 28] (by decide +kernel) (by decide +kernel)
set_option maxRecDepth 20000 in
theorem gX1_fits_X1_kindOf : GoodIn wsX1_fits (wsV RX1 30 RX1 yX1_kindOf wsX1_kindOf) := goodIn_app (goodIn_of _ (by decide +kernel)) ggX1_fits_X1_kindOf
set_option maxRecDepth 20000 in
theorem ggX1_fits_X1_wordBehindHead : GoodIn wsX1_fits wsX1_wordBehindHead := goodIn_r _ [14, 10, 25, 26, 27, 28] (by decide +kernel) (by decide +kernel)
set_option maxRecDepth 20000 in
theorem gX1_fits_X1_wordBehindHead : GoodIn wsX1_fits (wsV RX1 34 RX1 yX1_wordBehindHead wsX1_wordBehindHead) := goodIn_app (goodIn_of _ (by decide +kernel)) ggX1_fits_X1_wordBehindHead
set_option maxRecDepth 20000 in
theorem ggX1_fits_X1_writingOf : GoodIn wsX1_fits wsX1_writingOf := goodIn_r _ [18, 10, 19, 25, 26, 27, 28] (by decide +kernel) (by decide +kernel)
set_option maxRecDepth 20000 in
theorem gX1_fits_X1_writingOf : GoodIn wsX1_fits (wsV RX1 38 RX1 yX1_writingOf wsX1_writingOf) := goodIn_app (goodIn_of _ (by decide +kernel)) ggX1_fits_X1_writingOf
set_option maxRecDepth 20000 in
theorem ggX1_fits_X8_padOf : GoodIn wsX1_fits wsX8_padOf := goodIn_r _ [21, 22, 23, 24] (by decide +kernel) (by decide +kernel)
set_option maxRecDepth 20000 in
theorem gX1_fits_X8_padOf_n44 : GoodIn wsX1_fits (wsX8_padOf) := ggX1_fits_X8_padOf
theorem dX1_fits_0 : decode cX1_fits 0 = .ok (.iload_n 3, 1) := by decide +kernel
theorem dX1_fits_1 : decode cX1_fits 1 = .ok (.invokestatic 26, 3) := by decide +kernel
theorem dX1_fits_4 : decode cX1_fits 4 = .ok (.ifCond .eq 39, 3) := by decide +kernel
theorem dX1_fits_7 : decode cX1_fits 7 = .ok (.aload_n 0, 1) := by decide +kernel
theorem dX1_fits_8 : decode cX1_fits 8 = .ok (.iload_n 3, 1) := by decide +kernel
theorem dX1_fits_9 : decode cX1_fits 9 = .ok (.invokevirtual 30, 3) := by decide +kernel
theorem dX1_fits_12 : decode cX1_fits 12 = .ok (.iload 4, 2) := by decide +kernel
theorem dX1_fits_14 : decode cX1_fits 14 = .ok (.if_icmp .ne 29, 3) := by decide +kernel
theorem dX1_fits_17 : decode cX1_fits 17 = .ok (.aload_n 0, 1) := by decide +kernel
theorem dX1_fits_18 : decode cX1_fits 18 = .ok (.iload_n 3, 1) := by decide +kernel
theorem dX1_fits_19 : decode cX1_fits 19 = .ok (.iconst 0, 1) := by decide +kernel
theorem dX1_fits_20 : decode cX1_fits 20 = .ok (.invokevirtual 34, 3) := by decide +kernel
theorem dX1_fits_23 : decode cX1_fits 23 = .ok (.lload_n 1, 1) := by decide +kernel
theorem dX1_fits_24 : decode cX1_fits 24 = .ok (.aload_n 0, 1) := by decide +kernel
theorem dX1_fits_25 : decode cX1_fits 25 = .ok (.iload_n 3, 1) := by decide +kernel
theorem dX1_fits_26 : decode cX1_fits 26 = .ok (.invokevirtual 38, 3) := by decide +kernel
theorem dX1_fits_29 : decode cX1_fits 29 = .ok (.ldc2_w 42, 3) := by decide +kernel
theorem dX1_fits_32 : decode cX1_fits 32 = .ok (.invokestatic 44, 3) := by decide +kernel
theorem dX1_fits_35 : decode cX1_fits 35 = .ok (.lcmp, 1) := by decide +kernel
theorem dX1_fits_36 : decode cX1_fits 36 = .ok (.ifCond .ne 7, 3) := by decide +kernel
theorem dX1_fits_39 : decode cX1_fits 39 = .ok (.iconst 1, 1) := by decide +kernel
theorem dX1_fits_40 : decode cX1_fits 40 = .ok (.goto 4, 3) := by decide +kernel
theorem dX1_fits_43 : decode cX1_fits 43 = .ok (.iconst 0, 1) := by decide +kernel
theorem dX1_fits_44 : decode cX1_fits 44 = .ok (.ireturn, 1) := by decide +kernel
set_option maxRecDepth 20000 in
theorem ggX1_readBody_X8_isPage : GoodIn wsX1_readBody wsX8_isPage := goodIn_r _ [3] (by decide +kernel) (by decide +kernel)
set_option maxRecDepth 20000 in
theorem gX1_readBody_X8_isPage_n26 : GoodIn wsX1_readBody (wsX8_isPage) := ggX1_readBody_X8_isPage
set_option maxRecDepth 20000 in
theorem ggX1_readBody_X0_clear : GoodIn wsX1_readBody wsX0_clear := goodIn_r _ [8, 9, 30] (by decide +kernel) (by decide +kernel)
set_option maxRecDepth 20000 in
theorem gX1_readBody_X0_clear : GoodIn wsX1_readBody (wsV RX1 48 RX0 yX0_clear wsX0_clear) := goodIn_app (goodIn_of _ (by decide +kernel)) ggX1_readBody_X0_clear
set_option maxRecDepth 20000 in
theorem ggX1_readBody_X1_writingOf : GoodIn wsX1_readBody wsX1_writingOf := goodIn_r _ [14, 15, 16, 31, 32, 33, 34] (by decide +kernel) (by decide +kernel)
set_option maxRecDepth 20000 in
theorem gX1_readBody_X1_writingOf : GoodIn wsX1_readBody (wsV RX1 38 RX1 yX1_writingOf wsX1_writingOf) := goodIn_app (goodIn_of _ (by decide +kernel)) ggX1_readBody_X1_writingOf
set_option maxRecDepth 20000 in
theorem ggX1_readBody_X1_wordBehindHead : GoodIn wsX1_readBody wsX1_wordBehindHead := goodIn_r _ [20, 15, 31, 32, 33, 34] (by decide +kernel) (by decide +kernel)
set_option maxRecDepth 20000 in
theorem gX1_readBody_X1_wordBehindHead : GoodIn wsX1_readBody (wsV RX1 34 RX1 yX1_wordBehindHead wsX1_wordBehindHead) := goodIn_app (goodIn_of _ (by decide +kernel)) ggX1_readBody_X1_wordBehindHead
set_option maxRecDepth 20000 in
theorem ggX1_readBody_X8_padOf : GoodIn wsX1_readBody wsX8_padOf := goodIn_r _ [22, 23, 24, 25] (by decide +kernel) (by decide +kernel)
set_option maxRecDepth 20000 in
theorem gX1_readBody_X8_padOf_n44 : GoodIn wsX1_readBody (wsX8_padOf) := ggX1_readBody_X8_padOf
set_option maxRecDepth 20000 in
theorem ggX1_readBody_X0_setWord : GoodIn wsX1_readBody wsX0_setWord := goodIn_r _ [29, 9, 30] (by decide +kernel) (by decide +kernel)
set_option maxRecDepth 20000 in
theorem gX1_readBody_X0_setWord : GoodIn wsX1_readBody (wsV RX1 53 RX0 yX0_setWord wsX0_setWord) := goodIn_app (goodIn_of _ (by decide +kernel)) ggX1_readBody_X0_setWord
theorem dX1_readBody_0 : decode cX1_readBody 0 = .ok (.iload_n 3, 1) := by decide +kernel
theorem dX1_readBody_1 : decode cX1_readBody 1 = .ok (.invokestatic 26, 3) := by decide +kernel
theorem dX1_readBody_4 : decode cX1_readBody 4 = .ok (.ifCond .ne 9, 3) := by decide +kernel
theorem dX1_readBody_7 : decode cX1_readBody 7 = .ok (.aload 4, 2) := by decide +kernel
theorem dX1_readBody_9 : decode cX1_readBody 9 = .ok (.invokevirtual 48, 3) := by decide +kernel
theorem dX1_readBody_12 : decode cX1_readBody 12 = .ok (.return_, 1) := by decide +kernel
theorem dX1_readBody_13 : decode cX1_readBody 13 = .ok (.aload_n 0, 1) := by decide +kernel
theorem dX1_readBody_14 : decode cX1_readBody 14 = .ok (.iload_n 3, 1) := by decide +kernel
theorem dX1_readBody_15 : decode cX1_readBody 15 = .ok (.invokevirtual 38, 3) := by decide +kernel
theorem dX1_readBody_18 : decode cX1_readBody 18 = .ok (.lstore 5, 2) := by decide +kernel
theorem dX1_readBody_20 : decode cX1_readBody 20 = .ok (.iconst 0, 1) := by decide +kernel
theorem dX1_readBody_21 : decode cX1_readBody 21 = .ok (.istore 7, 2) := by decide +kernel
theorem dX1_readBody_23 : decode cX1_readBody 23 = .ok (.iload 7, 2) := by decide +kernel
theorem dX1_readBody_25 : decode cX1_readBody 25 = .ok (.bipush 7, 2) := by decide +kernel
theorem dX1_readBody_27 : decode cX1_readBody 27 = .ok (.if_icmp .ge 35, 3) := by decide +kernel
theorem dX1_readBody_30 : decode cX1_readBody 30 = .ok (.aload 4, 2) := by decide +kernel
theorem dX1_readBody_32 : decode cX1_readBody 32 = .ok (.iload 7, 2) := by decide +kernel
theorem dX1_readBody_34 : decode cX1_readBody 34 = .ok (.aload_n 0, 1) := by decide +kernel
theorem dX1_readBody_35 : decode cX1_readBody 35 = .ok (.iload_n 3, 1) := by decide +kernel
theorem dX1_readBody_36 : decode cX1_readBody 36 = .ok (.iload 7, 2) := by decide +kernel
theorem dX1_readBody_38 : decode cX1_readBody 38 = .ok (.iconst 1, 1) := by decide +kernel
theorem dX1_readBody_39 : decode cX1_readBody 39 = .ok (.iadd, 1) := by decide +kernel
theorem dX1_readBody_40 : decode cX1_readBody 40 = .ok (.invokevirtual 34, 3) := by decide +kernel
theorem dX1_readBody_43 : decode cX1_readBody 43 = .ok (.lload_n 1, 1) := by decide +kernel
theorem dX1_readBody_44 : decode cX1_readBody 44 = .ok (.lload 5, 2) := by decide +kernel
theorem dX1_readBody_46 : decode cX1_readBody 46 = .ok (.iload 7, 2) := by decide +kernel
theorem dX1_readBody_48 : decode cX1_readBody 48 = .ok (.i2l, 1) := by decide +kernel
theorem dX1_readBody_49 : decode cX1_readBody 49 = .ok (.invokestatic 44, 3) := by decide +kernel
theorem dX1_readBody_52 : decode cX1_readBody 52 = .ok (.lxor, 1) := by decide +kernel
theorem dX1_readBody_53 : decode cX1_readBody 53 = .ok (.invokevirtual 53, 3) := by decide +kernel
theorem dX1_readBody_56 : decode cX1_readBody 56 = .ok (.iinc 7 1, 3) := by decide +kernel
theorem dX1_readBody_59 : decode cX1_readBody 59 = .ok (.goto (-36), 3) := by decide +kernel
theorem dX1_readBody_62 : decode cX1_readBody 62 = .ok (.return_, 1) := by decide +kernel
set_option maxRecDepth 20000 in
theorem ggX1_nextWriting_X1_writingOf : GoodIn wsX1_nextWriting wsX1_writingOf := goodIn_r _ [9, 10, 11, 12, 13, 14, 15] (by decide +kernel) (by decide +kernel)
set_option maxRecDepth 20000 in
theorem gX1_nextWriting_X1_writingOf : GoodIn wsX1_nextWriting (wsV RX1 38 RX1 yX1_writingOf wsX1_writingOf) := goodIn_app (goodIn_of _ (by decide +kernel)) ggX1_nextWriting_X1_writingOf
theorem dX1_nextWriting_0 : decode cX1_nextWriting 0 = .ok (.lconst 0, 1) := by decide +kernel
theorem dX1_nextWriting_1 : decode cX1_nextWriting 1 = .ok (.lstore_n 1, 1) := by decide +kernel
theorem dX1_nextWriting_2 : decode cX1_nextWriting 2 = .ok (.iconst 0, 1) := by decide +kernel
theorem dX1_nextWriting_3 : decode cX1_nextWriting 3 = .ok (.istore_n 3, 1) := by decide +kernel
theorem dX1_nextWriting_4 : decode cX1_nextWriting 4 = .ok (.iload_n 3, 1) := by decide +kernel
theorem dX1_nextWriting_5 : decode cX1_nextWriting 5 = .ok (.sipush 200, 3) := by decide +kernel
theorem dX1_nextWriting_8 : decode cX1_nextWriting 8 = .ok (.if_icmp .ge 19, 3) := by decide +kernel
theorem dX1_nextWriting_11 : decode cX1_nextWriting 11 = .ok (.lload_n 1, 1) := by decide +kernel
theorem dX1_nextWriting_12 : decode cX1_nextWriting 12 = .ok (.aload_n 0, 1) := by decide +kernel
theorem dX1_nextWriting_13 : decode cX1_nextWriting 13 = .ok (.iload_n 3, 1) := by decide +kernel
theorem dX1_nextWriting_14 : decode cX1_nextWriting 14 = .ok (.invokevirtual 38, 3) := by decide +kernel
theorem dX1_nextWriting_17 : decode cX1_nextWriting 17 = .ok (.invokestatic 57, 3) := by decide +kernel
theorem dX1_nextWriting_20 : decode cX1_nextWriting 20 = .ok (.lstore_n 1, 1) := by decide +kernel
theorem dX1_nextWriting_21 : decode cX1_nextWriting 21 = .ok (.iinc 3 1, 3) := by decide +kernel
theorem dX1_nextWriting_24 : decode cX1_nextWriting 24 = .ok (.goto (-20), 3) := by decide +kernel
theorem dX1_nextWriting_27 : decode cX1_nextWriting 27 = .ok (.lload_n 1, 1) := by decide +kernel
theorem dX1_nextWriting_28 : decode cX1_nextWriting 28 = .ok (.lconst 1, 1) := by decide +kernel
theorem dX1_nextWriting_29 : decode cX1_nextWriting 29 = .ok (.ladd, 1) := by decide +kernel
theorem dX1_nextWriting_30 : decode cX1_nextWriting 30 = .ok (.lreturn, 1) := by decide +kernel
set_option maxRecDepth 20000 in
theorem ggX1_writePart_X8_isPage : GoodIn wsX1_writePart wsX8_isPage := goodIn_r _ [9] (by decide +kernel) (by decide +kernel)
set_option maxRecDepth 20000 in
theorem gX1_writePart_X8_isPage_n26 : GoodIn wsX1_writePart (wsX8_isPage) := ggX1_writePart_X8_isPage
theorem dX1_writePart_0 : decode cX1_writePart 0 = .ok (.iload_n 1, 1) := by decide +kernel
theorem dX1_writePart_1 : decode cX1_writePart 1 = .ok (.invokestatic 26, 3) := by decide +kernel
theorem dX1_writePart_4 : decode cX1_writePart 4 = .ok (.ifCond .eq 23, 3) := by decide +kernel
theorem dX1_writePart_7 : decode cX1_writePart 7 = .ok (.iload_n 2, 1) := by decide +kernel
theorem dX1_writePart_8 : decode cX1_writePart 8 = .ok (.ifCond .lt 19, 3) := by decide +kernel
theorem dX1_writePart_11 : decode cX1_writePart 11 = .ok (.iload_n 2, 1) := by decide +kernel
theorem dX1_writePart_12 : decode cX1_writePart 12 = .ok (.iconst 4, 1) := by decide +kernel
theorem dX1_writePart_13 : decode cX1_writePart 13 = .ok (.if_icmp .ge 14, 3) := by decide +kernel
theorem dX1_writePart_16 : decode cX1_writePart 16 = .ok (.aload_n 3, 1) := by decide +kernel
theorem dX1_writePart_17 : decode cX1_writePart 17 = .ok (.ifnull 10, 3) := by decide +kernel
theorem dX1_writePart_20 : decode cX1_writePart 20 = .ok (.aload_n 3, 1) := by decide +kernel
theorem dX1_writePart_21 : decode cX1_writePart 21 = .ok (.arraylength, 1) := by decide +kernel
theorem dX1_writePart_22 : decode cX1_writePart 22 = .ok (.bipush 8, 2) := by decide +kernel
theorem dX1_writePart_24 : decode cX1_writePart 24 = .ok (.if_icmp .ge 4, 3) := by decide +kernel
theorem dX1_writePart_27 : decode cX1_writePart 27 = .ok (.return_, 1) := by decide +kernel
theorem dX1_writePart_28 : decode cX1_writePart 28 = .ok (.iload_n 2, 1) := by decide +kernel
theorem dX1_writePart_29 : decode cX1_writePart 29 = .ok (.iconst 2, 1) := by decide +kernel
theorem dX1_writePart_30 : decode cX1_writePart 30 = .ok (.imul, 1) := by decide +kernel
theorem dX1_writePart_31 : decode cX1_writePart 31 = .ok (.istore 4, 2) := by decide +kernel
theorem dX1_writePart_33 : decode cX1_writePart 33 = .ok (.aload_n 3, 1) := by decide +kernel
theorem dX1_writePart_34 : decode cX1_writePart 34 = .ok (.iload 4, 2) := by decide +kernel
theorem dX1_writePart_36 : decode cX1_writePart 36 = .ok (.aload_n 0, 1) := by decide +kernel
theorem dX1_writePart_37 : decode cX1_writePart 37 = .ok (.getfield 9, 3) := by decide +kernel
theorem dX1_writePart_40 : decode cX1_writePart 40 = .ok (.iload_n 1, 1) := by decide +kernel
theorem dX1_writePart_41 : decode cX1_writePart 41 = .ok (.bipush 8, 2) := by decide +kernel
theorem dX1_writePart_43 : decode cX1_writePart 43 = .ok (.imul, 1) := by decide +kernel
theorem dX1_writePart_44 : decode cX1_writePart 44 = .ok (.iload 4, 2) := by decide +kernel
theorem dX1_writePart_46 : decode cX1_writePart 46 = .ok (.iadd, 1) := by decide +kernel
theorem dX1_writePart_47 : decode cX1_writePart 47 = .ok (.iconst 2, 1) := by decide +kernel
theorem dX1_writePart_48 : decode cX1_writePart 48 = .ok (.invokestatic 63, 3) := by decide +kernel
theorem dX1_writePart_51 : decode cX1_writePart 51 = .ok (.aload_n 0, 1) := by decide +kernel
theorem dX1_writePart_52 : decode cX1_writePart 52 = .ok (.dup, 1) := by decide +kernel
theorem dX1_writePart_53 : decode cX1_writePart 53 = .ok (.getfield 23, 3) := by decide +kernel
theorem dX1_writePart_56 : decode cX1_writePart 56 = .ok (.iconst 1, 1) := by decide +kernel
theorem dX1_writePart_57 : decode cX1_writePart 57 = .ok (.iadd, 1) := by decide +kernel
theorem dX1_writePart_58 : decode cX1_writePart 58 = .ok (.putfield 23, 3) := by decide +kernel
theorem dX1_writePart_61 : decode cX1_writePart 61 = .ok (.return_, 1) := by decide +kernel
theorem dX1_writeCell_0 : decode cX1_writeCell 0 = .ok (.aload_n 0, 1) := by decide +kernel
theorem dX1_writeCell_1 : decode cX1_writeCell 1 = .ok (.lload_n 1, 1) := by decide +kernel
theorem dX1_writeCell_2 : decode cX1_writeCell 2 = .ok (.putfield 15, 3) := by decide +kernel
theorem dX1_writeCell_5 : decode cX1_writeCell 5 = .ok (.aload_n 0, 1) := by decide +kernel
theorem dX1_writeCell_6 : decode cX1_writeCell 6 = .ok (.iload_n 3, 1) := by decide +kernel
theorem dX1_writeCell_7 : decode cX1_writeCell 7 = .ok (.putfield 19, 3) := by decide +kernel
theorem dX1_writeCell_10 : decode cX1_writeCell 10 = .ok (.aload_n 0, 1) := by decide +kernel
theorem dX1_writeCell_11 : decode cX1_writeCell 11 = .ok (.dup, 1) := by decide +kernel
theorem dX1_writeCell_12 : decode cX1_writeCell 12 = .ok (.getfield 23, 3) := by decide +kernel
theorem dX1_writeCell_15 : decode cX1_writeCell 15 = .ok (.iconst 1, 1) := by decide +kernel
theorem dX1_writeCell_16 : decode cX1_writeCell 16 = .ok (.iadd, 1) := by decide +kernel
theorem dX1_writeCell_17 : decode cX1_writeCell 17 = .ok (.putfield 23, 3) := by decide +kernel
theorem dX1_writeCell_20 : decode cX1_writeCell 20 = .ok (.return_, 1) := by decide +kernel
theorem dX1_kindOf_0 : decode cX1_kindOf 0 = .ok (.aload_n 0, 1) := by decide +kernel
theorem dX1_kindOf_1 : decode cX1_kindOf 1 = .ok (.getfield 9, 3) := by decide +kernel
theorem dX1_kindOf_4 : decode cX1_kindOf 4 = .ok (.iload_n 1, 1) := by decide +kernel
theorem dX1_kindOf_5 : decode cX1_kindOf 5 = .ok (.bipush 8, 2) := by decide +kernel
theorem dX1_kindOf_7 : decode cX1_kindOf 7 = .ok (.imul, 1) := by decide +kernel
theorem dX1_kindOf_8 : decode cX1_kindOf 8 = .ok (.laload, 1) := by decide +kernel
theorem dX1_kindOf_9 : decode cX1_kindOf 9 = .ok (.bipush 56, 2) := by decide +kernel
theorem dX1_kindOf_11 : decode cX1_kindOf 11 = .ok (.lushr, 1) := by decide +kernel
theorem dX1_kindOf_12 : decode cX1_kindOf 12 = .ok (.l2i, 1) := by decide +kernel
theorem dX1_kindOf_13 : decode cX1_kindOf 13 = .ok (.ireturn, 1) := by decide +kernel
theorem dX1_writingOf_0 : decode cX1_writingOf 0 = .ok (.aload_n 0, 1) := by decide +kernel
theorem dX1_writingOf_1 : decode cX1_writingOf 1 = .ok (.getfield 9, 3) := by decide +kernel
theorem dX1_writingOf_4 : decode cX1_writingOf 4 = .ok (.iload_n 1, 1) := by decide +kernel
theorem dX1_writingOf_5 : decode cX1_writingOf 5 = .ok (.bipush 8, 2) := by decide +kernel
theorem dX1_writingOf_7 : decode cX1_writingOf 7 = .ok (.imul, 1) := by decide +kernel
theorem dX1_writingOf_8 : decode cX1_writingOf 8 = .ok (.laload, 1) := by decide +kernel
theorem dX1_writingOf_9 : decode cX1_writingOf 9 = .ok (.bipush 24, 2) := by decide +kernel
theorem dX1_writingOf_11 : decode cX1_writingOf 11 = .ok (.lushr, 1) := by decide +kernel
theorem dX1_writingOf_12 : decode cX1_writingOf 12 = .ok (.ldc2_w 69, 3) := by decide +kernel
theorem dX1_writingOf_15 : decode cX1_writingOf 15 = .ok (.land, 1) := by decide +kernel
theorem dX1_writingOf_16 : decode cX1_writingOf 16 = .ok (.lreturn, 1) := by decide +kernel
theorem dX1_wordBehindHead_0 : decode cX1_wordBehindHead 0 = .ok (.iload_n 1, 1) := by decide +kernel
theorem dX1_wordBehindHead_1 : decode cX1_wordBehindHead 1 = .ok (.bipush 8, 2) := by decide +kernel
theorem dX1_wordBehindHead_3 : decode cX1_wordBehindHead 3 = .ok (.imul, 1) := by decide +kernel
theorem dX1_wordBehindHead_4 : decode cX1_wordBehindHead 4 = .ok (.iload_n 2, 1) := by decide +kernel
theorem dX1_wordBehindHead_5 : decode cX1_wordBehindHead 5 = .ok (.iadd, 1) := by decide +kernel
theorem dX1_wordBehindHead_6 : decode cX1_wordBehindHead 6 = .ok (.istore_n 3, 1) := by decide +kernel
theorem dX1_wordBehindHead_7 : decode cX1_wordBehindHead 7 = .ok (.aload_n 0, 1) := by decide +kernel
theorem dX1_wordBehindHead_8 : decode cX1_wordBehindHead 8 = .ok (.getfield 9, 3) := by decide +kernel
theorem dX1_wordBehindHead_11 : decode cX1_wordBehindHead 11 = .ok (.iload_n 3, 1) := by decide +kernel
theorem dX1_wordBehindHead_12 : decode cX1_wordBehindHead 12 = .ok (.laload, 1) := by decide +kernel
theorem dX1_wordBehindHead_13 : decode cX1_wordBehindHead 13 = .ok (.bipush 40, 2) := by decide +kernel
theorem dX1_wordBehindHead_15 : decode cX1_wordBehindHead 15 = .ok (.lshl, 1) := by decide +kernel
theorem dX1_wordBehindHead_16 : decode cX1_wordBehindHead 16 = .ok (.lstore 4, 2) := by decide +kernel
theorem dX1_wordBehindHead_18 : decode cX1_wordBehindHead 18 = .ok (.iload_n 2, 1) := by decide +kernel
theorem dX1_wordBehindHead_19 : decode cX1_wordBehindHead 19 = .ok (.iconst 1, 1) := by decide +kernel
theorem dX1_wordBehindHead_20 : decode cX1_wordBehindHead 20 = .ok (.iadd, 1) := by decide +kernel
theorem dX1_wordBehindHead_21 : decode cX1_wordBehindHead 21 = .ok (.bipush 8, 2) := by decide +kernel
theorem dX1_wordBehindHead_23 : decode cX1_wordBehindHead 23 = .ok (.if_icmp .ge 20, 3) := by decide +kernel
theorem dX1_wordBehindHead_26 : decode cX1_wordBehindHead 26 = .ok (.lload 4, 2) := by decide +kernel
theorem dX1_wordBehindHead_28 : decode cX1_wordBehindHead 28 = .ok (.aload_n 0, 1) := by decide +kernel
theorem dX1_wordBehindHead_29 : decode cX1_wordBehindHead 29 = .ok (.getfield 9, 3) := by decide +kernel
theorem dX1_wordBehindHead_32 : decode cX1_wordBehindHead 32 = .ok (.iload_n 3, 1) := by decide +kernel
theorem dX1_wordBehindHead_33 : decode cX1_wordBehindHead 33 = .ok (.iconst 1, 1) := by decide +kernel
theorem dX1_wordBehindHead_34 : decode cX1_wordBehindHead 34 = .ok (.iadd, 1) := by decide +kernel
theorem dX1_wordBehindHead_35 : decode cX1_wordBehindHead 35 = .ok (.laload, 1) := by decide +kernel
theorem dX1_wordBehindHead_36 : decode cX1_wordBehindHead 36 = .ok (.bipush 24, 2) := by decide +kernel
theorem dX1_wordBehindHead_38 : decode cX1_wordBehindHead 38 = .ok (.lushr, 1) := by decide +kernel
theorem dX1_wordBehindHead_39 : decode cX1_wordBehindHead 39 = .ok (.lor, 1) := by decide +kernel
theorem dX1_wordBehindHead_40 : decode cX1_wordBehindHead 40 = .ok (.goto 5, 3) := by decide +kernel
theorem dX1_wordBehindHead_43 : decode cX1_wordBehindHead 43 = .ok (.lload 4, 2) := by decide +kernel
theorem dX1_wordBehindHead_45 : decode cX1_wordBehindHead 45 = .ok (.lreturn, 1) := by decide +kernel
theorem dX2_init_0 : decode cX2_init 0 = .ok (.aload_n 0, 1) := by decide +kernel
theorem dX2_init_1 : decode cX2_init 1 = .ok (.invokespecial 3, 3) := by decide +kernel
theorem dX2_init_4 : decode cX2_init 4 = .ok (.aload_n 0, 1) := by decide +kernel
theorem dX2_init_5 : decode cX2_init 5 = .ok (.bipush 40, 2) := by decide +kernel
theorem dX2_init_7 : decode cX2_init 7 = .ok (.newarray .long, 2) := by decide +kernel
theorem dX2_init_9 : decode cX2_init 9 = .ok (.putfield 9, 3) := by decide +kernel
theorem dX2_init_12 : decode cX2_init 12 = .ok (.aload_n 0, 1) := by decide +kernel
theorem dX2_init_13 : decode cX2_init 13 = .ok (.iconst 0, 1) := by decide +kernel
theorem dX2_init_14 : decode cX2_init 14 = .ok (.putfield 15, 3) := by decide +kernel
theorem dX2_init_17 : decode cX2_init 17 = .ok (.aload_n 0, 1) := by decide +kernel
theorem dX2_init_18 : decode cX2_init 18 = .ok (.sipush 3000, 3) := by decide +kernel
theorem dX2_init_21 : decode cX2_init 21 = .ok (.newarray .long, 2) := by decide +kernel
theorem dX2_init_23 : decode cX2_init 23 = .ok (.putfield 19, 3) := by decide +kernel
theorem dX2_init_26 : decode cX2_init 26 = .ok (.aload_n 0, 1) := by decide +kernel
theorem dX2_init_27 : decode cX2_init 27 = .ok (.iconst 0, 1) := by decide +kernel
theorem dX2_init_28 : decode cX2_init 28 = .ok (.putfield 22, 3) := by decide +kernel
theorem dX2_init_31 : decode cX2_init 31 = .ok (.return_, 1) := by decide +kernel
theorem dX2_length_0 : decode cX2_length 0 = .ok (.aload_n 0, 1) := by decide +kernel
theorem dX2_length_1 : decode cX2_length 1 = .ok (.getfield 15, 3) := by decide +kernel
theorem dX2_length_4 : decode cX2_length 4 = .ok (.ireturn, 1) := by decide +kernel
set_option maxRecDepth 20000 in
theorem ggX2_accept_X2_wasSupplied : GoodIn wsX2_accept wsX2_wasSupplied := goodIn_r _ [9, 3, 4, 10, 11, 12, 13] (by decide +kernel) (by decide +kernel)
set_option maxRecDepth 20000 in
theorem gX2_accept_X2_wasSupplied : GoodIn wsX2_accept (wsV RX2 25 RX2 yX2_wasSupplied wsX2_wasSupplied) := goodIn_app (goodIn_of _ (by decide +kernel)) ggX2_accept_X2_wasSupplied
theorem dX2_accept_0 : decode cX2_accept 0 = .ok (.lload_n 1, 1) := by decide +kernel
theorem dX2_accept_1 : decode cX2_accept 1 = .ok (.lconst 0, 1) := by decide +kernel
theorem dX2_accept_2 : decode cX2_accept 2 = .ok (.lcmp, 1) := by decide +kernel
theorem dX2_accept_3 : decode cX2_accept 3 = .ok (.ifCond .eq 20, 3) := by decide +kernel
theorem dX2_accept_6 : decode cX2_accept 6 = .ok (.aload_n 0, 1) := by decide +kernel
theorem dX2_accept_7 : decode cX2_accept 7 = .ok (.getfield 15, 3) := by decide +kernel
theorem dX2_accept_10 : decode cX2_accept 10 = .ok (.bipush 40, 2) := by decide +kernel
theorem dX2_accept_12 : decode cX2_accept 12 = .ok (.if_icmp .ge 11, 3) := by decide +kernel
theorem dX2_accept_15 : decode cX2_accept 15 = .ok (.aload_n 0, 1) := by decide +kernel
theorem dX2_accept_16 : decode cX2_accept 16 = .ok (.lload_n 1, 1) := by decide +kernel
theorem dX2_accept_17 : decode cX2_accept 17 = .ok (.invokevirtual 25, 3) := by decide +kernel
theorem dX2_accept_20 : decode cX2_accept 20 = .ok (.ifCond .eq 5, 3) := by decide +kernel
theorem dX2_accept_23 : decode cX2_accept 23 = .ok (.iconst 0, 1) := by decide +kernel
theorem dX2_accept_24 : decode cX2_accept 24 = .ok (.ireturn, 1) := by decide +kernel
theorem dX2_accept_25 : decode cX2_accept 25 = .ok (.aload_n 0, 1) := by decide +kernel
theorem dX2_accept_26 : decode cX2_accept 26 = .ok (.getfield 9, 3) := by decide +kernel
theorem dX2_accept_29 : decode cX2_accept 29 = .ok (.aload_n 0, 1) := by decide +kernel
theorem dX2_accept_30 : decode cX2_accept 30 = .ok (.getfield 15, 3) := by decide +kernel
theorem dX2_accept_33 : decode cX2_accept 33 = .ok (.lload_n 1, 1) := by decide +kernel
theorem dX2_accept_34 : decode cX2_accept 34 = .ok (.lastore, 1) := by decide +kernel
theorem dX2_accept_35 : decode cX2_accept 35 = .ok (.aload_n 0, 1) := by decide +kernel
theorem dX2_accept_36 : decode cX2_accept 36 = .ok (.dup, 1) := by decide +kernel
theorem dX2_accept_37 : decode cX2_accept 37 = .ok (.getfield 15, 3) := by decide +kernel
theorem dX2_accept_40 : decode cX2_accept 40 = .ok (.iconst 1, 1) := by decide +kernel
theorem dX2_accept_41 : decode cX2_accept 41 = .ok (.iadd, 1) := by decide +kernel
theorem dX2_accept_42 : decode cX2_accept 42 = .ok (.putfield 15, 3) := by decide +kernel
theorem dX2_accept_45 : decode cX2_accept 45 = .ok (.aload_n 0, 1) := by decide +kernel
theorem dX2_accept_46 : decode cX2_accept 46 = .ok (.getfield 22, 3) := by decide +kernel
theorem dX2_accept_49 : decode cX2_accept 49 = .ok (.sipush 3000, 3) := by decide +kernel
theorem dX2_accept_52 : decode cX2_accept 52 = .ok (.if_icmp .ge 23, 3) := by decide +kernel
theorem dX2_accept_55 : decode cX2_accept 55 = .ok (.aload_n 0, 1) := by decide +kernel
theorem dX2_accept_56 : decode cX2_accept 56 = .ok (.getfield 19, 3) := by decide +kernel
theorem dX2_accept_59 : decode cX2_accept 59 = .ok (.aload_n 0, 1) := by decide +kernel
theorem dX2_accept_60 : decode cX2_accept 60 = .ok (.getfield 22, 3) := by decide +kernel
theorem dX2_accept_63 : decode cX2_accept 63 = .ok (.lload_n 1, 1) := by decide +kernel
theorem dX2_accept_64 : decode cX2_accept 64 = .ok (.lastore, 1) := by decide +kernel
theorem dX2_accept_65 : decode cX2_accept 65 = .ok (.aload_n 0, 1) := by decide +kernel
theorem dX2_accept_66 : decode cX2_accept 66 = .ok (.dup, 1) := by decide +kernel
theorem dX2_accept_67 : decode cX2_accept 67 = .ok (.getfield 22, 3) := by decide +kernel
theorem dX2_accept_70 : decode cX2_accept 70 = .ok (.iconst 1, 1) := by decide +kernel
theorem dX2_accept_71 : decode cX2_accept 71 = .ok (.iadd, 1) := by decide +kernel
theorem dX2_accept_72 : decode cX2_accept 72 = .ok (.putfield 22, 3) := by decide +kernel
theorem dX2_accept_75 : decode cX2_accept 75 = .ok (.iconst 1, 1) := by decide +kernel
theorem dX2_accept_76 : decode cX2_accept 76 = .ok (.ireturn, 1) := by decide +kernel
theorem dX2_wasSupplied_0 : decode cX2_wasSupplied 0 = .ok (.iconst 0, 1) := by decide +kernel
theorem dX2_wasSupplied_1 : decode cX2_wasSupplied 1 = .ok (.istore_n 3, 1) := by decide +kernel
theorem dX2_wasSupplied_2 : decode cX2_wasSupplied 2 = .ok (.iload_n 3, 1) := by decide +kernel
theorem dX2_wasSupplied_3 : decode cX2_wasSupplied 3 = .ok (.aload_n 0, 1) := by decide +kernel
theorem dX2_wasSupplied_4 : decode cX2_wasSupplied 4 = .ok (.getfield 22, 3) := by decide +kernel
theorem dX2_wasSupplied_7 : decode cX2_wasSupplied 7 = .ok (.if_icmp .ge 22, 3) := by decide +kernel
theorem dX2_wasSupplied_10 : decode cX2_wasSupplied 10 = .ok (.aload_n 0, 1) := by decide +kernel
theorem dX2_wasSupplied_11 : decode cX2_wasSupplied 11 = .ok (.getfield 19, 3) := by decide +kernel
theorem dX2_wasSupplied_14 : decode cX2_wasSupplied 14 = .ok (.iload_n 3, 1) := by decide +kernel
theorem dX2_wasSupplied_15 : decode cX2_wasSupplied 15 = .ok (.laload, 1) := by decide +kernel
theorem dX2_wasSupplied_16 : decode cX2_wasSupplied 16 = .ok (.lload_n 1, 1) := by decide +kernel
theorem dX2_wasSupplied_17 : decode cX2_wasSupplied 17 = .ok (.lcmp, 1) := by decide +kernel
theorem dX2_wasSupplied_18 : decode cX2_wasSupplied 18 = .ok (.ifCond .ne 5, 3) := by decide +kernel
theorem dX2_wasSupplied_21 : decode cX2_wasSupplied 21 = .ok (.iconst 1, 1) := by decide +kernel
theorem dX2_wasSupplied_22 : decode cX2_wasSupplied 22 = .ok (.ireturn, 1) := by decide +kernel
theorem dX2_wasSupplied_23 : decode cX2_wasSupplied 23 = .ok (.iinc 3 1, 3) := by decide +kernel
theorem dX2_wasSupplied_26 : decode cX2_wasSupplied 26 = .ok (.goto (-24), 3) := by decide +kernel
theorem dX2_wasSupplied_29 : decode cX2_wasSupplied 29 = .ok (.iconst 0, 1) := by decide +kernel
theorem dX2_wasSupplied_30 : decode cX2_wasSupplied 30 = .ok (.ireturn, 1) := by decide +kernel
theorem dX2_take_0 : decode cX2_take 0 = .ok (.aload_n 0, 1) := by decide +kernel
theorem dX2_take_1 : decode cX2_take 1 = .ok (.getfield 15, 3) := by decide +kernel
theorem dX2_take_4 : decode cX2_take 4 = .ok (.ifCond .gt 5, 3) := by decide +kernel
theorem dX2_take_7 : decode cX2_take 7 = .ok (.lconst 0, 1) := by decide +kernel
theorem dX2_take_8 : decode cX2_take 8 = .ok (.lreturn, 1) := by decide +kernel
theorem dX2_take_9 : decode cX2_take 9 = .ok (.aload_n 0, 1) := by decide +kernel
theorem dX2_take_10 : decode cX2_take 10 = .ok (.getfield 9, 3) := by decide +kernel
theorem dX2_take_13 : decode cX2_take 13 = .ok (.iconst 0, 1) := by decide +kernel
theorem dX2_take_14 : decode cX2_take 14 = .ok (.laload, 1) := by decide +kernel
theorem dX2_take_15 : decode cX2_take 15 = .ok (.lstore_n 1, 1) := by decide +kernel
theorem dX2_take_16 : decode cX2_take 16 = .ok (.aload_n 0, 1) := by decide +kernel
theorem dX2_take_17 : decode cX2_take 17 = .ok (.dup, 1) := by decide +kernel
theorem dX2_take_18 : decode cX2_take 18 = .ok (.getfield 15, 3) := by decide +kernel
theorem dX2_take_21 : decode cX2_take 21 = .ok (.iconst 1, 1) := by decide +kernel
theorem dX2_take_22 : decode cX2_take 22 = .ok (.isub, 1) := by decide +kernel
theorem dX2_take_23 : decode cX2_take 23 = .ok (.putfield 15, 3) := by decide +kernel
theorem dX2_take_26 : decode cX2_take 26 = .ok (.aload_n 0, 1) := by decide +kernel
theorem dX2_take_27 : decode cX2_take 27 = .ok (.getfield 9, 3) := by decide +kernel
theorem dX2_take_30 : decode cX2_take 30 = .ok (.iconst 1, 1) := by decide +kernel
theorem dX2_take_31 : decode cX2_take 31 = .ok (.aload_n 0, 1) := by decide +kernel
theorem dX2_take_32 : decode cX2_take 32 = .ok (.getfield 9, 3) := by decide +kernel
theorem dX2_take_35 : decode cX2_take 35 = .ok (.iconst 0, 1) := by decide +kernel
theorem dX2_take_36 : decode cX2_take 36 = .ok (.aload_n 0, 1) := by decide +kernel
theorem dX2_take_37 : decode cX2_take 37 = .ok (.getfield 15, 3) := by decide +kernel
theorem dX2_take_40 : decode cX2_take 40 = .ok (.invokestatic 29, 3) := by decide +kernel
theorem dX2_take_43 : decode cX2_take 43 = .ok (.lload_n 1, 1) := by decide +kernel
theorem dX2_take_44 : decode cX2_take 44 = .ok (.lreturn, 1) := by decide +kernel
theorem dX2_clear_0 : decode cX2_clear 0 = .ok (.aload_n 0, 1) := by decide +kernel
theorem dX2_clear_1 : decode cX2_clear 1 = .ok (.iconst 0, 1) := by decide +kernel
theorem dX2_clear_2 : decode cX2_clear 2 = .ok (.putfield 15, 3) := by decide +kernel
theorem dX2_clear_5 : decode cX2_clear 5 = .ok (.return_, 1) := by decide +kernel
theorem dX3_init_0 : decode cX3_init 0 = .ok (.aload_n 0, 1) := by decide +kernel
theorem dX3_init_1 : decode cX3_init 1 = .ok (.invokespecial 3, 3) := by decide +kernel
theorem dX3_init_4 : decode cX3_init 4 = .ok (.aload_n 0, 1) := by decide +kernel
theorem dX3_init_5 : decode cX3_init 5 = .ok (.iconst 1, 1) := by decide +kernel
theorem dX3_init_6 : decode cX3_init 6 = .ok (.putfield 9, 3) := by decide +kernel
theorem dX3_init_9 : decode cX3_init 9 = .ok (.aload_n 0, 1) := by decide +kernel
theorem dX3_init_10 : decode cX3_init 10 = .ok (.iconst (-1), 1) := by decide +kernel
theorem dX3_init_11 : decode cX3_init 11 = .ok (.putfield 15, 3) := by decide +kernel
theorem dX3_init_14 : decode cX3_init 14 = .ok (.return_, 1) := by decide +kernel
theorem dX3_isOn_0 : decode cX3_isOn 0 = .ok (.aload_n 0, 1) := by decide +kernel
theorem dX3_isOn_1 : decode cX3_isOn 1 = .ok (.getfield 9, 3) := by decide +kernel
theorem dX3_isOn_4 : decode cX3_isOn 4 = .ok (.ireturn, 1) := by decide +kernel
theorem dX3_armWith_0 : decode cX3_armWith 0 = .ok (.aload_n 0, 1) := by decide +kernel
theorem dX3_armWith_1 : decode cX3_armWith 1 = .ok (.iload_n 1, 1) := by decide +kernel
theorem dX3_armWith_2 : decode cX3_armWith 2 = .ok (.putfield 15, 3) := by decide +kernel
theorem dX3_armWith_5 : decode cX3_armWith 5 = .ok (.return_, 1) := by decide +kernel
theorem dX3_goOff_0 : decode cX3_goOff 0 = .ok (.aload_n 0, 1) := by decide +kernel
theorem dX3_goOff_1 : decode cX3_goOff 1 = .ok (.iconst 0, 1) := by decide +kernel
theorem dX3_goOff_2 : decode cX3_goOff 2 = .ok (.putfield 9, 3) := by decide +kernel
theorem dX3_goOff_5 : decode cX3_goOff 5 = .ok (.aload_n 0, 1) := by decide +kernel
theorem dX3_goOff_6 : decode cX3_goOff 6 = .ok (.iconst (-1), 1) := by decide +kernel
theorem dX3_goOff_7 : decode cX3_goOff 7 = .ok (.putfield 15, 3) := by decide +kernel
theorem dX3_goOff_10 : decode cX3_goOff 10 = .ok (.return_, 1) := by decide +kernel
theorem dX3_goOn_0 : decode cX3_goOn 0 = .ok (.aload_n 0, 1) := by decide +kernel
theorem dX3_goOn_1 : decode cX3_goOn 1 = .ok (.iconst 1, 1) := by decide +kernel
theorem dX3_goOn_2 : decode cX3_goOn 2 = .ok (.putfield 9, 3) := by decide +kernel
theorem dX3_goOn_5 : decode cX3_goOn 5 = .ok (.return_, 1) := by decide +kernel
set_option maxRecDepth 20000 in
theorem ggX3_lastsForStep_X3_goOff : GoodIn wsX3_lastsForStep wsX3_goOff := goodIn_r _ [7, 2, 1, 8, 9] (by decide +kernel) (by decide +kernel)
set_option maxRecDepth 20000 in
theorem gX3_lastsForStep_X3_goOff : GoodIn wsX3_lastsForStep (wsV RX3 19 RX3 yX3_goOff wsX3_goOff) := goodIn_app (goodIn_of _ (by decide +kernel)) ggX3_lastsForStep_X3_goOff
theorem dX3_lastsForStep_0 : decode cX3_lastsForStep 0 = .ok (.aload_n 0, 1) := by decide +kernel
theorem dX3_lastsForStep_1 : decode cX3_lastsForStep 1 = .ok (.getfield 15, 3) := by decide +kernel
theorem dX3_lastsForStep_4 : decode cX3_lastsForStep 4 = .ok (.ifCond .ne 9, 3) := by decide +kernel
theorem dX3_lastsForStep_7 : decode cX3_lastsForStep 7 = .ok (.aload_n 0, 1) := by decide +kernel
theorem dX3_lastsForStep_8 : decode cX3_lastsForStep 8 = .ok (.invokevirtual 19, 3) := by decide +kernel
theorem dX3_lastsForStep_11 : decode cX3_lastsForStep 11 = .ok (.iconst 0, 1) := by decide +kernel
theorem dX3_lastsForStep_12 : decode cX3_lastsForStep 12 = .ok (.ireturn, 1) := by decide +kernel
theorem dX3_lastsForStep_13 : decode cX3_lastsForStep 13 = .ok (.aload_n 0, 1) := by decide +kernel
theorem dX3_lastsForStep_14 : decode cX3_lastsForStep 14 = .ok (.getfield 15, 3) := by decide +kernel
theorem dX3_lastsForStep_17 : decode cX3_lastsForStep 17 = .ok (.ifCond .le 13, 3) := by decide +kernel
theorem dX3_lastsForStep_20 : decode cX3_lastsForStep 20 = .ok (.aload_n 0, 1) := by decide +kernel
theorem dX3_lastsForStep_21 : decode cX3_lastsForStep 21 = .ok (.dup, 1) := by decide +kernel
theorem dX3_lastsForStep_22 : decode cX3_lastsForStep 22 = .ok (.getfield 15, 3) := by decide +kernel
theorem dX3_lastsForStep_25 : decode cX3_lastsForStep 25 = .ok (.iconst 1, 1) := by decide +kernel
theorem dX3_lastsForStep_26 : decode cX3_lastsForStep 26 = .ok (.isub, 1) := by decide +kernel
theorem dX3_lastsForStep_27 : decode cX3_lastsForStep 27 = .ok (.putfield 15, 3) := by decide +kernel
theorem dX3_lastsForStep_30 : decode cX3_lastsForStep 30 = .ok (.aload_n 0, 1) := by decide +kernel
theorem dX3_lastsForStep_31 : decode cX3_lastsForStep 31 = .ok (.getfield 9, 3) := by decide +kernel
theorem dX3_lastsForStep_34 : decode cX3_lastsForStep 34 = .ok (.ireturn, 1) := by decide +kernel
theorem dX5_init_0 : decode cX5_init 0 = .ok (.aload_n 0, 1) := by decide +kernel
theorem dX5_init_1 : decode cX5_init 1 = .ok (.invokespecial 3, 3) := by decide +kernel
theorem dX5_init_4 : decode cX5_init 4 = .ok (.aload_n 0, 1) := by decide +kernel
theorem dX5_init_5 : decode cX5_init 5 = .ok (.bipush 96, 2) := by decide +kernel
theorem dX5_init_7 : decode cX5_init 7 = .ok (.newarray .byte, 2) := by decide +kernel
theorem dX5_init_9 : decode cX5_init 9 = .ok (.putfield 9, 3) := by decide +kernel
theorem dX5_init_12 : decode cX5_init 12 = .ok (.aload_n 0, 1) := by decide +kernel
theorem dX5_init_13 : decode cX5_init 13 = .ok (.iconst 0, 1) := by decide +kernel
theorem dX5_init_14 : decode cX5_init 14 = .ok (.putfield 15, 3) := by decide +kernel
theorem dX5_init_17 : decode cX5_init 17 = .ok (.return_, 1) := by decide +kernel
theorem dX5_length_0 : decode cX5_length 0 = .ok (.aload_n 0, 1) := by decide +kernel
theorem dX5_length_1 : decode cX5_length 1 = .ok (.getfield 15, 3) := by decide +kernel
theorem dX5_length_4 : decode cX5_length 4 = .ok (.ireturn, 1) := by decide +kernel
theorem dX5_has_0 : decode cX5_has 0 = .ok (.iload_n 1, 1) := by decide +kernel
theorem dX5_has_1 : decode cX5_has 1 = .ok (.ifCond .lt 15, 3) := by decide +kernel
theorem dX5_has_4 : decode cX5_has 4 = .ok (.iload_n 1, 1) := by decide +kernel
theorem dX5_has_5 : decode cX5_has 5 = .ok (.aload_n 0, 1) := by decide +kernel
theorem dX5_has_6 : decode cX5_has 6 = .ok (.getfield 15, 3) := by decide +kernel
theorem dX5_has_9 : decode cX5_has 9 = .ok (.if_icmp .gt 7, 3) := by decide +kernel
theorem dX5_has_12 : decode cX5_has 12 = .ok (.iconst 1, 1) := by decide +kernel
theorem dX5_has_13 : decode cX5_has 13 = .ok (.goto 4, 3) := by decide +kernel
theorem dX5_has_16 : decode cX5_has 16 = .ok (.iconst 0, 1) := by decide +kernel
theorem dX5_has_17 : decode cX5_has 17 = .ok (.ireturn, 1) := by decide +kernel
theorem dX5_append_0 : decode cX5_append 0 = .ok (.aload_n 0, 1) := by decide +kernel
theorem dX5_append_1 : decode cX5_append 1 = .ok (.getfield 15, 3) := by decide +kernel
theorem dX5_append_4 : decode cX5_append 4 = .ok (.iconst 4, 1) := by decide +kernel
theorem dX5_append_5 : decode cX5_append 5 = .ok (.iadd, 1) := by decide +kernel
theorem dX5_append_6 : decode cX5_append 6 = .ok (.bipush 96, 2) := by decide +kernel
theorem dX5_append_8 : decode cX5_append 8 = .ok (.if_icmp .le 5, 3) := by decide +kernel
theorem dX5_append_11 : decode cX5_append 11 = .ok (.iconst 0, 1) := by decide +kernel
theorem dX5_append_12 : decode cX5_append 12 = .ok (.ireturn, 1) := by decide +kernel
theorem dX5_append_13 : decode cX5_append 13 = .ok (.bipush 24, 2) := by decide +kernel
theorem dX5_append_15 : decode cX5_append 15 = .ok (.istore_n 2, 1) := by decide +kernel
theorem dX5_append_16 : decode cX5_append 16 = .ok (.iload_n 2, 1) := by decide +kernel
theorem dX5_append_17 : decode cX5_append 17 = .ok (.ifCond .lt 32, 3) := by decide +kernel
theorem dX5_append_20 : decode cX5_append 20 = .ok (.aload_n 0, 1) := by decide +kernel
theorem dX5_append_21 : decode cX5_append 21 = .ok (.getfield 9, 3) := by decide +kernel
theorem dX5_append_24 : decode cX5_append 24 = .ok (.aload_n 0, 1) := by decide +kernel
theorem dX5_append_25 : decode cX5_append 25 = .ok (.getfield 15, 3) := by decide +kernel
theorem dX5_append_28 : decode cX5_append 28 = .ok (.iload_n 1, 1) := by decide +kernel
theorem dX5_append_29 : decode cX5_append 29 = .ok (.iload_n 2, 1) := by decide +kernel
theorem dX5_append_30 : decode cX5_append 30 = .ok (.iushr, 1) := by decide +kernel
theorem dX5_append_31 : decode cX5_append 31 = .ok (.i2b, 1) := by decide +kernel
theorem dX5_append_32 : decode cX5_append 32 = .ok (.bastore, 1) := by decide +kernel
theorem dX5_append_33 : decode cX5_append 33 = .ok (.aload_n 0, 1) := by decide +kernel
theorem dX5_append_34 : decode cX5_append 34 = .ok (.dup, 1) := by decide +kernel
theorem dX5_append_35 : decode cX5_append 35 = .ok (.getfield 15, 3) := by decide +kernel
theorem dX5_append_38 : decode cX5_append 38 = .ok (.iconst 1, 1) := by decide +kernel
theorem dX5_append_39 : decode cX5_append 39 = .ok (.iadd, 1) := by decide +kernel
theorem dX5_append_40 : decode cX5_append 40 = .ok (.putfield 15, 3) := by decide +kernel
theorem dX5_append_43 : decode cX5_append 43 = .ok (.iinc 2 (-8), 3) := by decide +kernel
theorem dX5_append_46 : decode cX5_append 46 = .ok (.goto (-30), 3) := by decide +kernel
theorem dX5_append_49 : decode cX5_append 49 = .ok (.iconst 1, 1) := by decide +kernel
theorem dX5_append_50 : decode cX5_append 50 = .ok (.ireturn, 1) := by decide +kernel
theorem dX5_byteAt_0 : decode cX5_byteAt 0 = .ok (.iload_n 1, 1) := by decide +kernel
theorem dX5_byteAt_1 : decode cX5_byteAt 1 = .ok (.ifCond .lt 11, 3) := by decide +kernel
theorem dX5_byteAt_4 : decode cX5_byteAt 4 = .ok (.iload_n 1, 1) := by decide +kernel
theorem dX5_byteAt_5 : decode cX5_byteAt 5 = .ok (.aload_n 0, 1) := by decide +kernel
theorem dX5_byteAt_6 : decode cX5_byteAt 6 = .ok (.getfield 15, 3) := by decide +kernel
theorem dX5_byteAt_9 : decode cX5_byteAt 9 = .ok (.if_icmp .lt 7, 3) := by decide +kernel
theorem dX5_byteAt_12 : decode cX5_byteAt 12 = .ok (.iconst 0, 1) := by decide +kernel
theorem dX5_byteAt_13 : decode cX5_byteAt 13 = .ok (.goto 13, 3) := by decide +kernel
theorem dX5_byteAt_16 : decode cX5_byteAt 16 = .ok (.aload_n 0, 1) := by decide +kernel
theorem dX5_byteAt_17 : decode cX5_byteAt 17 = .ok (.getfield 9, 3) := by decide +kernel
theorem dX5_byteAt_20 : decode cX5_byteAt 20 = .ok (.iload_n 1, 1) := by decide +kernel
theorem dX5_byteAt_21 : decode cX5_byteAt 21 = .ok (.baload, 1) := by decide +kernel
theorem dX5_byteAt_22 : decode cX5_byteAt 22 = .ok (.sipush 255, 3) := by decide +kernel
theorem dX5_byteAt_25 : decode cX5_byteAt 25 = .ok (.iand, 1) := by decide +kernel
theorem dX5_byteAt_26 : decode cX5_byteAt 26 = .ok (.ireturn, 1) := by decide +kernel
theorem dX5_clear_0 : decode cX5_clear 0 = .ok (.aload_n 0, 1) := by decide +kernel
theorem dX5_clear_1 : decode cX5_clear 1 = .ok (.iconst 0, 1) := by decide +kernel
theorem dX5_clear_2 : decode cX5_clear 2 = .ok (.putfield 15, 3) := by decide +kernel
theorem dX5_clear_5 : decode cX5_clear 5 = .ok (.return_, 1) := by decide +kernel
