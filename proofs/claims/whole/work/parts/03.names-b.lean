set_option maxRecDepth 20000 in
theorem ggX0_init_X2_init : GoodIn wsX0_init wsX2_init := goodIn_r _ [10, 11, 2, 3, 12, 13, 14, 15, 16, 17, 18, 7, 19, 20, 21, 22, 23, 24, 25, 26, 27, 28, 29, 30, 31, 32, 33, 34, 35, 36, 40, 41, 42, 43, 44] (by decide +kernel) (by decide +kernel)
set_option maxRecDepth 20000 in
theorem gX0_init_X2_init : GoodIn wsX0_init (wsX2_init) := ggX0_init_X2_init
theorem dX0_init_0 : decode cX0_init 0 = .ok (.aload_n 0, 1) := by decide +kernel
theorem dX0_init_1 : decode cX0_init 1 = .ok (.invokespecial 3, 3) := by decide +kernel
theorem dX0_init_4 : decode cX0_init 4 = .ok (.aload_n 0, 1) := by decide +kernel
theorem dX0_init_5 : decode cX0_init 5 = .ok (.iconst 4, 1) := by decide +kernel
theorem dX0_init_6 : decode cX0_init 6 = .ok (.anewarray 9, 3) := by decide +kernel
theorem dX0_init_9 : decode cX0_init 9 = .ok (.putfield 11, 3) := by decide +kernel
theorem dX0_init_12 : decode cX0_init 12 = .ok (.iconst 0, 1) := by decide +kernel
theorem dX0_init_13 : decode cX0_init 13 = .ok (.istore_n 1, 1) := by decide +kernel
theorem dX0_init_14 : decode cX0_init 14 = .ok (.iload_n 1, 1) := by decide +kernel
theorem dX0_init_15 : decode cX0_init 15 = .ok (.iconst 4, 1) := by decide +kernel
theorem dX0_init_16 : decode cX0_init 16 = .ok (.if_icmp .ge 22, 3) := by decide +kernel
theorem dX0_init_19 : decode cX0_init 19 = .ok (.aload_n 0, 1) := by decide +kernel
theorem dX0_init_20 : decode cX0_init 20 = .ok (.getfield 11, 3) := by decide +kernel
theorem dX0_init_23 : decode cX0_init 23 = .ok (.iload_n 1, 1) := by decide +kernel
theorem dX0_init_24 : decode cX0_init 24 = .ok (.new 9, 3) := by decide +kernel
theorem dX0_init_27 : decode cX0_init 27 = .ok (.dup, 1) := by decide +kernel
theorem dX0_init_28 : decode cX0_init 28 = .ok (.invokespecial 17, 3) := by decide +kernel
theorem dX0_init_31 : decode cX0_init 31 = .ok (.aastore, 1) := by decide +kernel
theorem dX0_init_32 : decode cX0_init 32 = .ok (.iinc 1 1, 3) := by decide +kernel
theorem dX0_init_35 : decode cX0_init 35 = .ok (.goto (-21), 3) := by decide +kernel
theorem dX0_init_38 : decode cX0_init 38 = .ok (.return_, 1) := by decide +kernel
set_option maxRecDepth 20000 in
theorem ggX0_keep_X2_copyFrom : GoodIn wsX0_keep wsX2_copyFrom := goodIn_r _ [12, 13, 14, 15, 16, 17, 18, 19, 20, 21, 25, 26, 27, 28, 29] (by decide +kernel) (by decide +kernel)
set_option maxRecDepth 20000 in
theorem gX0_keep_X2_copyFrom : GoodIn wsX0_keep (wsV RX0 22 RX2 yX2_copyFrom wsX2_copyFrom) := goodIn_app (goodIn_of _ (by decide +kernel)) ggX0_keep_X2_copyFrom
theorem dX0_keep_0 : decode cX0_keep 0 = .ok (.aload_n 0, 1) := by decide +kernel
theorem dX0_keep_1 : decode cX0_keep 1 = .ok (.getfield 11, 3) := by decide +kernel
theorem dX0_keep_4 : decode cX0_keep 4 = .ok (.aload_n 0, 1) := by decide +kernel
theorem dX0_keep_5 : decode cX0_keep 5 = .ok (.getfield 18, 3) := by decide +kernel
theorem dX0_keep_8 : decode cX0_keep 8 = .ok (.aaload, 1) := by decide +kernel
theorem dX0_keep_9 : decode cX0_keep 9 = .ok (.aload_n 1, 1) := by decide +kernel
theorem dX0_keep_10 : decode cX0_keep 10 = .ok (.invokevirtual 22, 3) := by decide +kernel
theorem dX0_keep_13 : decode cX0_keep 13 = .ok (.aload_n 0, 1) := by decide +kernel
theorem dX0_keep_14 : decode cX0_keep 14 = .ok (.aload_n 0, 1) := by decide +kernel
theorem dX0_keep_15 : decode cX0_keep 15 = .ok (.getfield 18, 3) := by decide +kernel
theorem dX0_keep_18 : decode cX0_keep 18 = .ok (.iconst 1, 1) := by decide +kernel
theorem dX0_keep_19 : decode cX0_keep 19 = .ok (.iadd, 1) := by decide +kernel
theorem dX0_keep_20 : decode cX0_keep 20 = .ok (.iconst 4, 1) := by decide +kernel
theorem dX0_keep_21 : decode cX0_keep 21 = .ok (.irem, 1) := by decide +kernel
theorem dX0_keep_22 : decode cX0_keep 22 = .ok (.putfield 18, 3) := by decide +kernel
theorem dX0_keep_25 : decode cX0_keep 25 = .ok (.aload_n 0, 1) := by decide +kernel
theorem dX0_keep_26 : decode cX0_keep 26 = .ok (.aload_n 0, 1) := by decide +kernel
theorem dX0_keep_27 : decode cX0_keep 27 = .ok (.getfield 26, 3) := by decide +kernel
theorem dX0_keep_30 : decode cX0_keep 30 = .ok (.iconst 1, 1) := by decide +kernel
theorem dX0_keep_31 : decode cX0_keep 31 = .ok (.iadd, 1) := by decide +kernel
theorem dX0_keep_32 : decode cX0_keep 32 = .ok (.iconst 4, 1) := by decide +kernel
theorem dX0_keep_33 : decode cX0_keep 33 = .ok (.invokestatic 29, 3) := by decide +kernel
theorem dX0_keep_36 : decode cX0_keep 36 = .ok (.putfield 26, 3) := by decide +kernel
theorem dX0_keep_39 : decode cX0_keep 39 = .ok (.return_, 1) := by decide +kernel
set_option maxRecDepth 20000 in
theorem ggX0_restore_X2_copyFrom : GoodIn wsX0_restore wsX2_copyFrom := goodIn_r _ [8, 9, 10, 11, 12, 13, 14, 15, 16, 17, 21, 22, 23, 24, 25] (by decide +kernel) (by decide +kernel)
set_option maxRecDepth 20000 in
theorem gX0_restore_X2_copyFrom : GoodIn wsX0_restore (wsV RX0 22 RX2 yX2_copyFrom wsX2_copyFrom) := goodIn_app (goodIn_of _ (by decide +kernel)) ggX0_restore_X2_copyFrom
theorem dX0_restore_0 : decode cX0_restore 0 = .ok (.aload_n 0, 1) := by decide +kernel
theorem dX0_restore_1 : decode cX0_restore 1 = .ok (.aload_n 0, 1) := by decide +kernel
theorem dX0_restore_2 : decode cX0_restore 2 = .ok (.getfield 18, 3) := by decide +kernel
theorem dX0_restore_5 : decode cX0_restore 5 = .ok (.iconst 4, 1) := by decide +kernel
theorem dX0_restore_6 : decode cX0_restore 6 = .ok (.iadd, 1) := by decide +kernel
theorem dX0_restore_7 : decode cX0_restore 7 = .ok (.iconst 1, 1) := by decide +kernel
theorem dX0_restore_8 : decode cX0_restore 8 = .ok (.isub, 1) := by decide +kernel
theorem dX0_restore_9 : decode cX0_restore 9 = .ok (.iconst 4, 1) := by decide +kernel
theorem dX0_restore_10 : decode cX0_restore 10 = .ok (.irem, 1) := by decide +kernel
theorem dX0_restore_11 : decode cX0_restore 11 = .ok (.putfield 18, 3) := by decide +kernel
theorem dX0_restore_14 : decode cX0_restore 14 = .ok (.aload_n 0, 1) := by decide +kernel
theorem dX0_restore_15 : decode cX0_restore 15 = .ok (.dup, 1) := by decide +kernel
theorem dX0_restore_16 : decode cX0_restore 16 = .ok (.getfield 26, 3) := by decide +kernel
theorem dX0_restore_19 : decode cX0_restore 19 = .ok (.iconst 1, 1) := by decide +kernel
theorem dX0_restore_20 : decode cX0_restore 20 = .ok (.isub, 1) := by decide +kernel
theorem dX0_restore_21 : decode cX0_restore 21 = .ok (.putfield 26, 3) := by decide +kernel
theorem dX0_restore_24 : decode cX0_restore 24 = .ok (.aload_n 1, 1) := by decide +kernel
theorem dX0_restore_25 : decode cX0_restore 25 = .ok (.aload_n 0, 1) := by decide +kernel
theorem dX0_restore_26 : decode cX0_restore 26 = .ok (.getfield 11, 3) := by decide +kernel
theorem dX0_restore_29 : decode cX0_restore 29 = .ok (.aload_n 0, 1) := by decide +kernel
theorem dX0_restore_30 : decode cX0_restore 30 = .ok (.getfield 18, 3) := by decide +kernel
theorem dX0_restore_33 : decode cX0_restore 33 = .ok (.aaload, 1) := by decide +kernel
theorem dX0_restore_34 : decode cX0_restore 34 = .ok (.invokevirtual 22, 3) := by decide +kernel
theorem dX0_restore_37 : decode cX0_restore 37 = .ok (.return_, 1) := by decide +kernel
theorem dX1_init_0 : decode cX1_init 0 = .ok (.aload_n 0, 1) := by decide +kernel
theorem dX1_init_1 : decode cX1_init 1 = .ok (.invokespecial 3, 3) := by decide +kernel
theorem dX1_init_4 : decode cX1_init 4 = .ok (.aload_n 0, 1) := by decide +kernel
theorem dX1_init_5 : decode cX1_init 5 = .ok (.bipush 100, 2) := by decide +kernel
theorem dX1_init_7 : decode cX1_init 7 = .ok (.newarray .int, 2) := by decide +kernel
theorem dX1_init_9 : decode cX1_init 9 = .ok (.putfield 9, 3) := by decide +kernel
theorem dX1_init_12 : decode cX1_init 12 = .ok (.aload_n 0, 1) := by decide +kernel
theorem dX1_init_13 : decode cX1_init 13 = .ok (.bipush 25, 2) := by decide +kernel
theorem dX1_init_15 : decode cX1_init 15 = .ok (.newarray .int, 2) := by decide +kernel
theorem dX1_init_17 : decode cX1_init 17 = .ok (.putfield 15, 3) := by decide +kernel
theorem dX1_init_20 : decode cX1_init 20 = .ok (.aload_n 0, 1) := by decide +kernel
theorem dX1_init_21 : decode cX1_init 21 = .ok (.bipush 25, 2) := by decide +kernel
theorem dX1_init_23 : decode cX1_init 23 = .ok (.newarray .int, 2) := by decide +kernel
theorem dX1_init_25 : decode cX1_init 25 = .ok (.putfield 18, 3) := by decide +kernel
theorem dX1_init_28 : decode cX1_init 28 = .ok (.aload_n 0, 1) := by decide +kernel
theorem dX1_init_29 : decode cX1_init 29 = .ok (.bipush 25, 2) := by decide +kernel
theorem dX1_init_31 : decode cX1_init 31 = .ok (.newarray .int, 2) := by decide +kernel
theorem dX1_init_33 : decode cX1_init 33 = .ok (.putfield 21, 3) := by decide +kernel
theorem dX1_init_36 : decode cX1_init 36 = .ok (.aload_n 0, 1) := by decide +kernel
theorem dX1_init_37 : decode cX1_init 37 = .ok (.bipush 25, 2) := by decide +kernel
theorem dX1_init_39 : decode cX1_init 39 = .ok (.newarray .int, 2) := by decide +kernel
theorem dX1_init_41 : decode cX1_init 41 = .ok (.putfield 24, 3) := by decide +kernel
theorem dX1_init_44 : decode cX1_init 44 = .ok (.return_, 1) := by decide +kernel
set_option maxRecDepth 20000 in
theorem ggX1_parse_X1_readInNumber : GoodIn wsX1_parse wsX1_readInNumber := goodIn_r _ [8, 9, 10, 11, 12, 13, 7, 14, 15, 16, 17, 18, 19, 20, 21, 22, 1, 23, 24, 25, 26, 27, 28, 29, 2, 52, 53, 54, 55, 56, 57, 58, 59, 60, 61, 62, 63, 64] (by decide +kernel) (by decide +kernel)
set_option maxRecDepth 20000 in
theorem gX1_parse_X1_readInNumber : GoodIn wsX1_parse (wsV RX1 37 RX1 yX1_readInNumber wsX1_readInNumber) := goodIn_app (goodIn_of _ (by decide +kernel)) ggX1_parse_X1_readInNumber
set_option maxRecDepth 20000 in
theorem ggX1_parse_X1_read : GoodIn wsX1_parse wsX1_read := goodIn_r _ [33, 9, 34, 35, 36, 7, 37, 2, 24, 26, 29, 38, 39, 40, 41, 42, 43, 44, 10, 11, 12, 13, 14, 15, 16, 17, 18, 45, 46, 47, 19, 20, 21, 22, 1, 23, 25, 27, 28, 52, 53, 54, 55, 56, 57, 58, 59, 60, 61, 62, 63, 64] (by decide +kernel) (by decide +kernel)
set_option maxRecDepth 20000 in
theorem gX1_parse_X1_read : GoodIn wsX1_parse (wsV RX1 41 RX1 yX1_read wsX1_read) := goodIn_app (goodIn_of _ (by decide +kernel)) ggX1_parse_X1_read
set_option maxRecDepth 20000 in
theorem ggX1_parse_X1_positionOfEarlyEnd : GoodIn wsX1_parse wsX1_positionOfEarlyEnd := goodIn_r _ [51, 2, 10, 3, 11, 52, 53, 54, 55, 56, 57, 58, 59, 60, 61, 62, 63, 64] (by decide +kernel) (by decide +kernel)
set_option maxRecDepth 20000 in
theorem gX1_parse_X1_positionOfEarlyEnd : GoodIn wsX1_parse (wsV RX1 44 RX1 yX1_positionOfEarlyEnd wsX1_positionOfEarlyEnd) := goodIn_app (goodIn_of _ (by decide +kernel)) ggX1_parse_X1_positionOfEarlyEnd
theorem dX1_parse_0 : decode cX1_parse 0 = .ok (.aload_n 0, 1) := by decide +kernel
theorem dX1_parse_1 : decode cX1_parse 1 = .ok (.iconst 0, 1) := by decide +kernel
theorem dX1_parse_2 : decode cX1_parse 2 = .ok (.putfield 27, 3) := by decide +kernel
theorem dX1_parse_5 : decode cX1_parse 5 = .ok (.aload_n 0, 1) := by decide +kernel
theorem dX1_parse_6 : decode cX1_parse 6 = .ok (.iconst 0, 1) := by decide +kernel
theorem dX1_parse_7 : decode cX1_parse 7 = .ok (.putfield 31, 3) := by decide +kernel
theorem dX1_parse_10 : decode cX1_parse 10 = .ok (.iconst 0, 1) := by decide +kernel
theorem dX1_parse_11 : decode cX1_parse 11 = .ok (.istore_n 1, 1) := by decide +kernel
theorem dX1_parse_12 : decode cX1_parse 12 = .ok (.iload_n 1, 1) := by decide +kernel
theorem dX1_parse_13 : decode cX1_parse 13 = .ok (.aload_n 0, 1) := by decide +kernel
theorem dX1_parse_14 : decode cX1_parse 14 = .ok (.getfield 34, 3) := by decide +kernel
theorem dX1_parse_17 : decode cX1_parse 17 = .ok (.if_icmp .ge 38, 3) := by decide +kernel
theorem dX1_parse_20 : decode cX1_parse 20 = .ok (.aload_n 0, 1) := by decide +kernel
theorem dX1_parse_21 : decode cX1_parse 21 = .ok (.getfield 31, 3) := by decide +kernel
theorem dX1_parse_24 : decode cX1_parse 24 = .ok (.iconst 3, 1) := by decide +kernel
theorem dX1_parse_25 : decode cX1_parse 25 = .ok (.if_icmp .ne 11, 3) := by decide +kernel
theorem dX1_parse_28 : decode cX1_parse 28 = .ok (.aload_n 0, 1) := by decide +kernel
theorem dX1_parse_29 : decode cX1_parse 29 = .ok (.iload_n 1, 1) := by decide +kernel
theorem dX1_parse_30 : decode cX1_parse 30 = .ok (.invokevirtual 37, 3) := by decide +kernel
theorem dX1_parse_33 : decode cX1_parse 33 = .ok (.goto 8, 3) := by decide +kernel
theorem dX1_parse_36 : decode cX1_parse 36 = .ok (.aload_n 0, 1) := by decide +kernel
theorem dX1_parse_37 : decode cX1_parse 37 = .ok (.iload_n 1, 1) := by decide +kernel
theorem dX1_parse_38 : decode cX1_parse 38 = .ok (.invokevirtual 41, 3) := by decide +kernel
theorem dX1_parse_41 : decode cX1_parse 41 = .ok (.istore_n 2, 1) := by decide +kernel
theorem dX1_parse_42 : decode cX1_parse 42 = .ok (.iload_n 2, 1) := by decide +kernel
theorem dX1_parse_43 : decode cX1_parse 43 = .ok (.iconst (-1), 1) := by decide +kernel
theorem dX1_parse_44 : decode cX1_parse 44 = .ok (.if_icmp .eq 5, 3) := by decide +kernel
theorem dX1_parse_47 : decode cX1_parse 47 = .ok (.iload_n 2, 1) := by decide +kernel
theorem dX1_parse_48 : decode cX1_parse 48 = .ok (.ireturn, 1) := by decide +kernel
theorem dX1_parse_49 : decode cX1_parse 49 = .ok (.iinc 1 1, 3) := by decide +kernel
theorem dX1_parse_52 : decode cX1_parse 52 = .ok (.goto (-40), 3) := by decide +kernel
theorem dX1_parse_55 : decode cX1_parse 55 = .ok (.aload_n 0, 1) := by decide +kernel
theorem dX1_parse_56 : decode cX1_parse 56 = .ok (.getfield 31, 3) := by decide +kernel
theorem dX1_parse_59 : decode cX1_parse 59 = .ok (.ifCond .ne 7, 3) := by decide +kernel
theorem dX1_parse_62 : decode cX1_parse 62 = .ok (.iconst (-1), 1) := by decide +kernel
theorem dX1_parse_63 : decode cX1_parse 63 = .ok (.goto 7, 3) := by decide +kernel
theorem dX1_parse_66 : decode cX1_parse 66 = .ok (.aload_n 0, 1) := by decide +kernel
theorem dX1_parse_67 : decode cX1_parse 67 = .ok (.invokevirtual 44, 3) := by decide +kernel
theorem dX1_parse_70 : decode cX1_parse 70 = .ok (.ireturn, 1) := by decide +kernel
theorem dX1_positionOfEarlyEnd_0 : decode cX1_positionOfEarlyEnd 0 = .ok (.aload_n 0, 1) := by decide +kernel
theorem dX1_positionOfEarlyEnd_1 : decode cX1_positionOfEarlyEnd 1 = .ok (.getfield 31, 3) := by decide +kernel
theorem dX1_positionOfEarlyEnd_4 : decode cX1_positionOfEarlyEnd 4 = .ok (.iconst 3, 1) := by decide +kernel
theorem dX1_positionOfEarlyEnd_5 : decode cX1_positionOfEarlyEnd 5 = .ok (.if_icmp .ne 25, 3) := by decide +kernel
theorem dX1_positionOfEarlyEnd_8 : decode cX1_positionOfEarlyEnd 8 = .ok (.aload_n 0, 1) := by decide +kernel
theorem dX1_positionOfEarlyEnd_9 : decode cX1_positionOfEarlyEnd 9 = .ok (.getfield 48, 3) := by decide +kernel
theorem dX1_positionOfEarlyEnd_12 : decode cX1_positionOfEarlyEnd 12 = .ok (.sipush 255, 3) := by decide +kernel
theorem dX1_positionOfEarlyEnd_15 : decode cX1_positionOfEarlyEnd 15 = .ok (.if_icmp .le 15, 3) := by decide +kernel
theorem dX1_positionOfEarlyEnd_18 : decode cX1_positionOfEarlyEnd 18 = .ok (.aload_n 0, 1) := by decide +kernel
theorem dX1_positionOfEarlyEnd_19 : decode cX1_positionOfEarlyEnd 19 = .ok (.getfield 34, 3) := by decide +kernel
theorem dX1_positionOfEarlyEnd_22 : decode cX1_positionOfEarlyEnd 22 = .ok (.aload_n 0, 1) := by decide +kernel
theorem dX1_positionOfEarlyEnd_23 : decode cX1_positionOfEarlyEnd 23 = .ok (.getfield 51, 3) := by decide +kernel
theorem dX1_positionOfEarlyEnd_26 : decode cX1_positionOfEarlyEnd 26 = .ok (.isub, 1) := by decide +kernel
theorem dX1_positionOfEarlyEnd_27 : decode cX1_positionOfEarlyEnd 27 = .ok (.goto 7, 3) := by decide +kernel
theorem dX1_positionOfEarlyEnd_30 : decode cX1_positionOfEarlyEnd 30 = .ok (.aload_n 0, 1) := by decide +kernel
theorem dX1_positionOfEarlyEnd_31 : decode cX1_positionOfEarlyEnd 31 = .ok (.getfield 34, 3) := by decide +kernel
theorem dX1_positionOfEarlyEnd_34 : decode cX1_positionOfEarlyEnd 34 = .ok (.ireturn, 1) := by decide +kernel
set_option maxRecDepth 20000 in
theorem ggX1_readInNumber_X1_isDigit : GoodIn wsX1_readInNumber wsX1_isDigit := goodIn_r _ [7] (by decide +kernel) (by decide +kernel)
set_option maxRecDepth 20000 in
theorem gX1_readInNumber_X1_isDigit : GoodIn wsX1_readInNumber (va_wsS RX1 54 yX1_isDigit wsX1_isDigit) := goodIn_app (goodIn_of _ (by decide +kernel)) ggX1_readInNumber_X1_isDigit
set_option maxRecDepth 20000 in
theorem ggX1_readInNumber_X1_takeDigit : GoodIn wsX1_readInNumber wsX1_takeDigit := goodIn_r _ [11, 3, 2, 25, 26, 27, 28, 29, 30, 31, 32, 33, 34, 35, 36, 37] (by decide +kernel) (by decide +kernel)
set_option maxRecDepth 20000 in
theorem gX1_readInNumber_X1_takeDigit : GoodIn wsX1_readInNumber (wsV RX1 58 RX1 yX1_takeDigit wsX1_takeDigit) := goodIn_app (goodIn_of _ (by decide +kernel)) ggX1_readInNumber_X1_takeDigit
set_option maxRecDepth 20000 in
theorem ggX1_readInNumber_X1_takeSemicolon : GoodIn wsX1_readInNumber wsX1_takeSemicolon := goodIn_r _ [15, 16, 17, 18, 19, 20, 21, 2, 22, 23, 24, 25, 26, 27, 28, 29, 30, 31, 32, 33, 34, 35, 36, 37] (by decide +kernel) (by decide +kernel)
set_option maxRecDepth 20000 in
theorem gX1_readInNumber_X1_takeSemicolon : GoodIn wsX1_readInNumber (wsV RX1 61 RX1 yX1_takeSemicolon wsX1_takeSemicolon) := goodIn_app (goodIn_of _ (by decide +kernel)) ggX1_readInNumber_X1_takeSemicolon
theorem dX1_readInNumber_0 : decode cX1_readInNumber 0 = .ok (.aload_n 0, 1) := by decide +kernel
theorem dX1_readInNumber_1 : decode cX1_readInNumber 1 = .ok (.getfield 9, 3) := by decide +kernel
theorem dX1_readInNumber_4 : decode cX1_readInNumber 4 = .ok (.iload_n 1, 1) := by decide +kernel
theorem dX1_readInNumber_5 : decode cX1_readInNumber 5 = .ok (.iaload, 1) := by decide +kernel
theorem dX1_readInNumber_6 : decode cX1_readInNumber 6 = .ok (.istore_n 2, 1) := by decide +kernel
theorem dX1_readInNumber_7 : decode cX1_readInNumber 7 = .ok (.iload_n 2, 1) := by decide +kernel
theorem dX1_readInNumber_8 : decode cX1_readInNumber 8 = .ok (.invokestatic 54, 3) := by decide +kernel
theorem dX1_readInNumber_11 : decode cX1_readInNumber 11 = .ok (.ifCond .eq 17, 3) := by decide +kernel
theorem dX1_readInNumber_14 : decode cX1_readInNumber 14 = .ok (.aload_n 0, 1) := by decide +kernel
theorem dX1_readInNumber_15 : decode cX1_readInNumber 15 = .ok (.iload_n 2, 1) := by decide +kernel
theorem dX1_readInNumber_16 : decode cX1_readInNumber 16 = .ok (.invokevirtual 58, 3) := by decide +kernel
theorem dX1_readInNumber_19 : decode cX1_readInNumber 19 = .ok (.ifCond .eq 7, 3) := by decide +kernel
theorem dX1_readInNumber_22 : decode cX1_readInNumber 22 = .ok (.iconst (-1), 1) := by decide +kernel
theorem dX1_readInNumber_23 : decode cX1_readInNumber 23 = .ok (.goto 4, 3) := by decide +kernel
theorem dX1_readInNumber_26 : decode cX1_readInNumber 26 = .ok (.iload_n 1, 1) := by decide +kernel
theorem dX1_readInNumber_27 : decode cX1_readInNumber 27 = .ok (.ireturn, 1) := by decide +kernel
theorem dX1_readInNumber_28 : decode cX1_readInNumber 28 = .ok (.aload_n 0, 1) := by decide +kernel
theorem dX1_readInNumber_29 : decode cX1_readInNumber 29 = .ok (.getfield 48, 3) := by decide +kernel
theorem dX1_readInNumber_32 : decode cX1_readInNumber 32 = .ok (.sipush 255, 3) := by decide +kernel
theorem dX1_readInNumber_35 : decode cX1_readInNumber 35 = .ok (.if_icmp .le 10, 3) := by decide +kernel
theorem dX1_readInNumber_38 : decode cX1_readInNumber 38 = .ok (.iload_n 1, 1) := by decide +kernel
theorem dX1_readInNumber_39 : decode cX1_readInNumber 39 = .ok (.aload_n 0, 1) := by decide +kernel
theorem dX1_readInNumber_40 : decode cX1_readInNumber 40 = .ok (.getfield 51, 3) := by decide +kernel
theorem dX1_readInNumber_43 : decode cX1_readInNumber 43 = .ok (.isub, 1) := by decide +kernel
theorem dX1_readInNumber_44 : decode cX1_readInNumber 44 = .ok (.ireturn, 1) := by decide +kernel
theorem dX1_readInNumber_45 : decode cX1_readInNumber 45 = .ok (.aload_n 0, 1) := by decide +kernel
theorem dX1_readInNumber_46 : decode cX1_readInNumber 46 = .ok (.iload_n 2, 1) := by decide +kernel
theorem dX1_readInNumber_47 : decode cX1_readInNumber 47 = .ok (.invokevirtual 61, 3) := by decide +kernel
theorem dX1_readInNumber_50 : decode cX1_readInNumber 50 = .ok (.ifCond .eq 7, 3) := by decide +kernel
theorem dX1_readInNumber_53 : decode cX1_readInNumber 53 = .ok (.iconst (-1), 1) := by decide +kernel
theorem dX1_readInNumber_54 : decode cX1_readInNumber 54 = .ok (.goto 4, 3) := by decide +kernel
theorem dX1_readInNumber_57 : decode cX1_readInNumber 57 = .ok (.iload_n 1, 1) := by decide +kernel
theorem dX1_readInNumber_58 : decode cX1_readInNumber 58 = .ok (.ireturn, 1) := by decide +kernel
set_option maxRecDepth 20000 in
theorem ggX1_read_X1_take : GoodIn wsX1_read wsX1_take := goodIn_r _ [6, 7, 8, 9, 10, 11, 12, 5, 13, 14, 15, 16, 17, 18, 19, 20, 21, 22, 23, 24, 25, 26, 27, 28, 29, 30, 31, 32, 33, 34, 35, 36, 37, 38, 39, 40, 41, 42, 43, 44, 45, 46, 47, 48, 49, 50, 51] (by decide +kernel) (by decide +kernel)
set_option maxRecDepth 20000 in
theorem gX1_read_X1_take : GoodIn wsX1_read (wsV RX1 64 RX1 yX1_take wsX1_take) := goodIn_app (goodIn_of _ (by decide +kernel)) ggX1_read_X1_take
theorem dX1_read_0 : decode cX1_read 0 = .ok (.aload_n 0, 1) := by decide +kernel
theorem dX1_read_1 : decode cX1_read 1 = .ok (.aload_n 0, 1) := by decide +kernel
theorem dX1_read_2 : decode cX1_read 2 = .ok (.getfield 9, 3) := by decide +kernel
theorem dX1_read_5 : decode cX1_read 5 = .ok (.iload_n 1, 1) := by decide +kernel
theorem dX1_read_6 : decode cX1_read 6 = .ok (.iaload, 1) := by decide +kernel
theorem dX1_read_7 : decode cX1_read 7 = .ok (.invokevirtual 64, 3) := by decide +kernel
theorem dX1_read_10 : decode cX1_read 10 = .ok (.ifCond .eq 7, 3) := by decide +kernel
theorem dX1_read_13 : decode cX1_read 13 = .ok (.iconst (-1), 1) := by decide +kernel
theorem dX1_read_14 : decode cX1_read 14 = .ok (.goto 4, 3) := by decide +kernel
theorem dX1_read_17 : decode cX1_read 17 = .ok (.iload_n 1, 1) := by decide +kernel
theorem dX1_read_18 : decode cX1_read 18 = .ok (.ireturn, 1) := by decide +kernel
set_option maxRecDepth 20000 in
theorem ggX1_take_X1_isLetter : GoodIn wsX1_take wsX1_isLetter := goodIn_r _ [8] (by decide +kernel) (by decide +kernel)
set_option maxRecDepth 20000 in
theorem gX1_take_X1_isLetter : GoodIn wsX1_take (va_wsS RX1 70 yX1_isLetter wsX1_isLetter) := goodIn_app (goodIn_of _ (by decide +kernel)) ggX1_take_X1_isLetter
set_option maxRecDepth 20000 in
theorem ggX1_take_X1_takeOperand : GoodIn wsX1_take wsX1_takeOperand := goodIn_r _ [12, 3, 13, 4, 14, 1, 15, 16, 7, 17, 18, 19, 20, 21, 5, 6, 8, 34, 35, 36, 37, 38, 39, 40, 41, 42, 43, 44, 45, 46] (by decide +kernel) (by decide +kernel)
set_option maxRecDepth 20000 in
theorem gX1_take_X1_takeOperand : GoodIn wsX1_take (wsV RX1 73 RX1 yX1_takeOperand wsX1_takeOperand) := goodIn_app (goodIn_of _ (by decide +kernel)) ggX1_take_X1_takeOperand
set_option maxRecDepth 20000 in
theorem ggX1_take_X1_isSign : GoodIn wsX1_take wsX1_isSign := goodIn_r _ [24] (by decide +kernel) (by decide +kernel)
set_option maxRecDepth 20000 in
theorem gX1_take_X1_isSign : GoodIn wsX1_take (va_wsS RX1 79 yX1_isSign wsX1_isSign) := goodIn_app (goodIn_of _ (by decide +kernel)) ggX1_take_X1_isSign
set_option maxRecDepth 20000 in
theorem ggX1_take_X1_takeSemicolon : GoodIn wsX1_take wsX1_takeSemicolon := goodIn_r _ [28, 29, 30, 2, 31, 3, 32, 13, 33, 4, 1, 34, 35, 36, 37, 38, 39, 40, 41, 42, 43, 44, 45, 46] (by decide +kernel) (by decide +kernel)
set_option maxRecDepth 20000 in
theorem gX1_take_X1_takeSemicolon : GoodIn wsX1_take (wsV RX1 61 RX1 yX1_takeSemicolon wsX1_takeSemicolon) := goodIn_app (goodIn_of _ (by decide +kernel)) ggX1_take_X1_takeSemicolon
theorem dX1_take_0 : decode cX1_take 0 = .ok (.aload_n 0, 1) := by decide +kernel
theorem dX1_take_1 : decode cX1_take 1 = .ok (.getfield 31, 3) := by decide +kernel
theorem dX1_take_4 : decode cX1_take 4 = .ok (.tableswitch 115 0 5 #[40, 58, 75, 115, 81, 96], 40) := by decide +kernel
theorem dX1_take_44 : decode cX1_take 44 = .ok (.aload_n 0, 1) := by decide +kernel
theorem dX1_take_45 : decode cX1_take 45 = .ok (.iload_n 1, 1) := by decide +kernel
theorem dX1_take_46 : decode cX1_take 46 = .ok (.bipush 97, 2) := by decide +kernel
theorem dX1_take_48 : decode cX1_take 48 = .ok (.isub, 1) := by decide +kernel
theorem dX1_take_49 : decode cX1_take 49 = .ok (.putfield 67, 3) := by decide +kernel
theorem dX1_take_52 : decode cX1_take 52 = .ok (.aload_n 0, 1) := by decide +kernel
theorem dX1_take_53 : decode cX1_take 53 = .ok (.iconst 1, 1) := by decide +kernel
theorem dX1_take_54 : decode cX1_take 54 = .ok (.putfield 31, 3) := by decide +kernel
theorem dX1_take_57 : decode cX1_take 57 = .ok (.iload_n 1, 1) := by decide +kernel
theorem dX1_take_58 : decode cX1_take 58 = .ok (.invokestatic 70, 3) := by decide +kernel
theorem dX1_take_61 : decode cX1_take 61 = .ok (.ireturn, 1) := by decide +kernel
theorem dX1_take_62 : decode cX1_take 62 = .ok (.aload_n 0, 1) := by decide +kernel
theorem dX1_take_63 : decode cX1_take 63 = .ok (.iconst 2, 1) := by decide +kernel
theorem dX1_take_64 : decode cX1_take 64 = .ok (.putfield 31, 3) := by decide +kernel
theorem dX1_take_67 : decode cX1_take 67 = .ok (.iload_n 1, 1) := by decide +kernel
theorem dX1_take_68 : decode cX1_take 68 = .ok (.bipush 61, 2) := by decide +kernel
theorem dX1_take_70 : decode cX1_take 70 = .ok (.if_icmp .ne 7, 3) := by decide +kernel
theorem dX1_take_73 : decode cX1_take 73 = .ok (.iconst 1, 1) := by decide +kernel
theorem dX1_take_74 : decode cX1_take 74 = .ok (.goto 4, 3) := by decide +kernel
theorem dX1_take_77 : decode cX1_take 77 = .ok (.iconst 0, 1) := by decide +kernel
theorem dX1_take_78 : decode cX1_take 78 = .ok (.ireturn, 1) := by decide +kernel
theorem dX1_take_79 : decode cX1_take 79 = .ok (.aload_n 0, 1) := by decide +kernel
theorem dX1_take_80 : decode cX1_take 80 = .ok (.iload_n 1, 1) := by decide +kernel
theorem dX1_take_81 : decode cX1_take 81 = .ok (.invokevirtual 73, 3) := by decide +kernel
theorem dX1_take_84 : decode cX1_take 84 = .ok (.ireturn, 1) := by decide +kernel
theorem dX1_take_85 : decode cX1_take 85 = .ok (.aload_n 0, 1) := by decide +kernel
theorem dX1_take_86 : decode cX1_take 86 = .ok (.iload_n 1, 1) := by decide +kernel
theorem dX1_take_87 : decode cX1_take 87 = .ok (.putfield 76, 3) := by decide +kernel
theorem dX1_take_90 : decode cX1_take 90 = .ok (.aload_n 0, 1) := by decide +kernel
theorem dX1_take_91 : decode cX1_take 91 = .ok (.iconst 5, 1) := by decide +kernel
theorem dX1_take_92 : decode cX1_take 92 = .ok (.putfield 31, 3) := by decide +kernel
theorem dX1_take_95 : decode cX1_take 95 = .ok (.iload_n 1, 1) := by decide +kernel
theorem dX1_take_96 : decode cX1_take 96 = .ok (.invokestatic 79, 3) := by decide +kernel
theorem dX1_take_99 : decode cX1_take 99 = .ok (.ireturn, 1) := by decide +kernel
theorem dX1_take_100 : decode cX1_take 100 = .ok (.aload_n 0, 1) := by decide +kernel
theorem dX1_take_101 : decode cX1_take 101 = .ok (.iload_n 1, 1) := by decide +kernel
theorem dX1_take_102 : decode cX1_take 102 = .ok (.bipush 97, 2) := by decide +kernel
theorem dX1_take_104 : decode cX1_take 104 = .ok (.isub, 1) := by decide +kernel
theorem dX1_take_105 : decode cX1_take 105 = .ok (.putfield 82, 3) := by decide +kernel
theorem dX1_take_108 : decode cX1_take 108 = .ok (.aload_n 0, 1) := by decide +kernel
theorem dX1_take_109 : decode cX1_take 109 = .ok (.bipush 6, 2) := by decide +kernel
theorem dX1_take_111 : decode cX1_take 111 = .ok (.putfield 31, 3) := by decide +kernel
theorem dX1_take_114 : decode cX1_take 114 = .ok (.iload_n 1, 1) := by decide +kernel
theorem dX1_take_115 : decode cX1_take 115 = .ok (.invokestatic 70, 3) := by decide +kernel
theorem dX1_take_118 : decode cX1_take 118 = .ok (.ireturn, 1) := by decide +kernel
theorem dX1_take_119 : decode cX1_take 119 = .ok (.aload_n 0, 1) := by decide +kernel
theorem dX1_take_120 : decode cX1_take 120 = .ok (.iload_n 1, 1) := by decide +kernel
theorem dX1_take_121 : decode cX1_take 121 = .ok (.invokevirtual 61, 3) := by decide +kernel
theorem dX1_take_124 : decode cX1_take 124 = .ok (.ireturn, 1) := by decide +kernel
set_option maxRecDepth 20000 in
theorem ggX1_takeOperand_X1_isDigit : GoodIn wsX1_takeOperand wsX1_isDigit := goodIn_r _ [9] (by decide +kernel) (by decide +kernel)
set_option maxRecDepth 20000 in
theorem gX1_takeOperand_X1_isDigit : GoodIn wsX1_takeOperand (va_wsS RX1 54 yX1_isDigit wsX1_isDigit) := goodIn_app (goodIn_of _ (by decide +kernel)) ggX1_takeOperand_X1_isDigit
set_option maxRecDepth 20000 in
theorem ggX1_takeOperand_X1_takeDigit : GoodIn wsX1_takeOperand wsX1_takeDigit := goodIn_r _ [13, 4, 2, 17, 18, 19, 20, 21, 22, 23, 24, 25, 26, 27, 28, 29] (by decide +kernel) (by decide +kernel)
set_option maxRecDepth 20000 in
theorem gX1_takeOperand_X1_takeDigit : GoodIn wsX1_takeOperand (wsV RX1 58 RX1 yX1_takeDigit wsX1_takeDigit) := goodIn_app (goodIn_of _ (by decide +kernel)) ggX1_takeOperand_X1_takeDigit
set_option maxRecDepth 20000 in
theorem ggX1_takeOperand_X1_isLetter : GoodIn wsX1_takeOperand wsX1_isLetter := goodIn_r _ [16] (by decide +kernel) (by decide +kernel)
set_option maxRecDepth 20000 in
theorem gX1_takeOperand_X1_isLetter : GoodIn wsX1_takeOperand (va_wsS RX1 70 yX1_isLetter wsX1_isLetter) := goodIn_app (goodIn_of _ (by decide +kernel)) ggX1_takeOperand_X1_isLetter
theorem dX1_takeOperand_0 : decode cX1_takeOperand 0 = .ok (.iload_n 1, 1) := by decide +kernel
theorem dX1_takeOperand_1 : decode cX1_takeOperand 1 = .ok (.invokestatic 54, 3) := by decide +kernel
theorem dX1_takeOperand_4 : decode cX1_takeOperand 4 = .ok (.ifCond .eq 35, 3) := by decide +kernel
theorem dX1_takeOperand_7 : decode cX1_takeOperand 7 = .ok (.aload_n 0, 1) := by decide +kernel
theorem dX1_takeOperand_8 : decode cX1_takeOperand 8 = .ok (.bipush 61, 2) := by decide +kernel
theorem dX1_takeOperand_10 : decode cX1_takeOperand 10 = .ok (.putfield 76, 3) := by decide +kernel
theorem dX1_takeOperand_13 : decode cX1_takeOperand 13 = .ok (.aload_n 0, 1) := by decide +kernel
theorem dX1_takeOperand_14 : decode cX1_takeOperand 14 = .ok (.iconst 0, 1) := by decide +kernel
theorem dX1_takeOperand_15 : decode cX1_takeOperand 15 = .ok (.putfield 48, 3) := by decide +kernel
theorem dX1_takeOperand_18 : decode cX1_takeOperand 18 = .ok (.aload_n 0, 1) := by decide +kernel
theorem dX1_takeOperand_19 : decode cX1_takeOperand 19 = .ok (.iconst 0, 1) := by decide +kernel
theorem dX1_takeOperand_20 : decode cX1_takeOperand 20 = .ok (.putfield 82, 3) := by decide +kernel
theorem dX1_takeOperand_23 : decode cX1_takeOperand 23 = .ok (.aload_n 0, 1) := by decide +kernel
theorem dX1_takeOperand_24 : decode cX1_takeOperand 24 = .ok (.iconst 0, 1) := by decide +kernel
theorem dX1_takeOperand_25 : decode cX1_takeOperand 25 = .ok (.putfield 51, 3) := by decide +kernel
theorem dX1_takeOperand_28 : decode cX1_takeOperand 28 = .ok (.aload_n 0, 1) := by decide +kernel
theorem dX1_takeOperand_29 : decode cX1_takeOperand 29 = .ok (.iconst 3, 1) := by decide +kernel
theorem dX1_takeOperand_30 : decode cX1_takeOperand 30 = .ok (.putfield 31, 3) := by decide +kernel
theorem dX1_takeOperand_33 : decode cX1_takeOperand 33 = .ok (.aload_n 0, 1) := by decide +kernel
theorem dX1_takeOperand_34 : decode cX1_takeOperand 34 = .ok (.iload_n 1, 1) := by decide +kernel
theorem dX1_takeOperand_35 : decode cX1_takeOperand 35 = .ok (.invokevirtual 58, 3) := by decide +kernel
theorem dX1_takeOperand_38 : decode cX1_takeOperand 38 = .ok (.ireturn, 1) := by decide +kernel
theorem dX1_takeOperand_39 : decode cX1_takeOperand 39 = .ok (.aload_n 0, 1) := by decide +kernel
theorem dX1_takeOperand_40 : decode cX1_takeOperand 40 = .ok (.iload_n 1, 1) := by decide +kernel
theorem dX1_takeOperand_41 : decode cX1_takeOperand 41 = .ok (.bipush 97, 2) := by decide +kernel
theorem dX1_takeOperand_43 : decode cX1_takeOperand 43 = .ok (.isub, 1) := by decide +kernel
theorem dX1_takeOperand_44 : decode cX1_takeOperand 44 = .ok (.putfield 48, 3) := by decide +kernel
theorem dX1_takeOperand_47 : decode cX1_takeOperand 47 = .ok (.aload_n 0, 1) := by decide +kernel
theorem dX1_takeOperand_48 : decode cX1_takeOperand 48 = .ok (.iconst 4, 1) := by decide +kernel
theorem dX1_takeOperand_49 : decode cX1_takeOperand 49 = .ok (.putfield 31, 3) := by decide +kernel
theorem dX1_takeOperand_52 : decode cX1_takeOperand 52 = .ok (.iload_n 1, 1) := by decide +kernel
theorem dX1_takeOperand_53 : decode cX1_takeOperand 53 = .ok (.invokestatic 70, 3) := by decide +kernel
theorem dX1_takeOperand_56 : decode cX1_takeOperand 56 = .ok (.ireturn, 1) := by decide +kernel
theorem dX1_takeDigit_0 : decode cX1_takeDigit 0 = .ok (.aload_n 0, 1) := by decide +kernel
theorem dX1_takeDigit_1 : decode cX1_takeDigit 1 = .ok (.getfield 51, 3) := by decide +kernel
theorem dX1_takeDigit_4 : decode cX1_takeDigit 4 = .ok (.iconst 3, 1) := by decide +kernel
theorem dX1_takeDigit_5 : decode cX1_takeDigit 5 = .ok (.if_icmp .lt 5, 3) := by decide +kernel
theorem dX1_takeDigit_8 : decode cX1_takeDigit 8 = .ok (.iconst 0, 1) := by decide +kernel
theorem dX1_takeDigit_9 : decode cX1_takeDigit 9 = .ok (.ireturn, 1) := by decide +kernel
theorem dX1_takeDigit_10 : decode cX1_takeDigit 10 = .ok (.aload_n 0, 1) := by decide +kernel
theorem dX1_takeDigit_11 : decode cX1_takeDigit 11 = .ok (.bipush 10, 2) := by decide +kernel
theorem dX1_takeDigit_13 : decode cX1_takeDigit 13 = .ok (.aload_n 0, 1) := by decide +kernel
theorem dX1_takeDigit_14 : decode cX1_takeDigit 14 = .ok (.getfield 48, 3) := by decide +kernel
theorem dX1_takeDigit_17 : decode cX1_takeDigit 17 = .ok (.imul, 1) := by decide +kernel
theorem dX1_takeDigit_18 : decode cX1_takeDigit 18 = .ok (.iload_n 1, 1) := by decide +kernel
theorem dX1_takeDigit_19 : decode cX1_takeDigit 19 = .ok (.iadd, 1) := by decide +kernel
theorem dX1_takeDigit_20 : decode cX1_takeDigit 20 = .ok (.bipush 48, 2) := by decide +kernel
theorem dX1_takeDigit_22 : decode cX1_takeDigit 22 = .ok (.isub, 1) := by decide +kernel
theorem dX1_takeDigit_23 : decode cX1_takeDigit 23 = .ok (.putfield 48, 3) := by decide +kernel
theorem dX1_takeDigit_26 : decode cX1_takeDigit 26 = .ok (.aload_n 0, 1) := by decide +kernel
theorem dX1_takeDigit_27 : decode cX1_takeDigit 27 = .ok (.dup, 1) := by decide +kernel
theorem dX1_takeDigit_28 : decode cX1_takeDigit 28 = .ok (.getfield 51, 3) := by decide +kernel
theorem dX1_takeDigit_31 : decode cX1_takeDigit 31 = .ok (.iconst 1, 1) := by decide +kernel
theorem dX1_takeDigit_32 : decode cX1_takeDigit 32 = .ok (.iadd, 1) := by decide +kernel
theorem dX1_takeDigit_33 : decode cX1_takeDigit 33 = .ok (.putfield 51, 3) := by decide +kernel
theorem dX1_takeDigit_36 : decode cX1_takeDigit 36 = .ok (.iconst 1, 1) := by decide +kernel
theorem dX1_takeDigit_37 : decode cX1_takeDigit 37 = .ok (.ireturn, 1) := by decide +kernel
theorem dX1_takeSemicolon_0 : decode cX1_takeSemicolon 0 = .ok (.iload_n 1, 1) := by decide +kernel
theorem dX1_takeSemicolon_1 : decode cX1_takeSemicolon 1 = .ok (.bipush 59, 2) := by decide +kernel
theorem dX1_takeSemicolon_3 : decode cX1_takeSemicolon 3 = .ok (.if_icmp .ne 12, 3) := by decide +kernel
theorem dX1_takeSemicolon_6 : decode cX1_takeSemicolon 6 = .ok (.aload_n 0, 1) := by decide +kernel
theorem dX1_takeSemicolon_7 : decode cX1_takeSemicolon 7 = .ok (.getfield 27, 3) := by decide +kernel
theorem dX1_takeSemicolon_10 : decode cX1_takeSemicolon 10 = .ok (.bipush 25, 2) := by decide +kernel
theorem dX1_takeSemicolon_12 : decode cX1_takeSemicolon 12 = .ok (.if_icmp .lt 5, 3) := by decide +kernel
theorem dX1_takeSemicolon_15 : decode cX1_takeSemicolon 15 = .ok (.iconst 0, 1) := by decide +kernel
theorem dX1_takeSemicolon_16 : decode cX1_takeSemicolon 16 = .ok (.ireturn, 1) := by decide +kernel
theorem dX1_takeSemicolon_17 : decode cX1_takeSemicolon 17 = .ok (.aload_n 0, 1) := by decide +kernel
theorem dX1_takeSemicolon_18 : decode cX1_takeSemicolon 18 = .ok (.getfield 15, 3) := by decide +kernel
theorem dX1_takeSemicolon_21 : decode cX1_takeSemicolon 21 = .ok (.aload_n 0, 1) := by decide +kernel
theorem dX1_takeSemicolon_22 : decode cX1_takeSemicolon 22 = .ok (.getfield 27, 3) := by decide +kernel
theorem dX1_takeSemicolon_25 : decode cX1_takeSemicolon 25 = .ok (.aload_n 0, 1) := by decide +kernel
theorem dX1_takeSemicolon_26 : decode cX1_takeSemicolon 26 = .ok (.getfield 67, 3) := by decide +kernel
theorem dX1_takeSemicolon_29 : decode cX1_takeSemicolon 29 = .ok (.iastore, 1) := by decide +kernel
theorem dX1_takeSemicolon_30 : decode cX1_takeSemicolon 30 = .ok (.aload_n 0, 1) := by decide +kernel
theorem dX1_takeSemicolon_31 : decode cX1_takeSemicolon 31 = .ok (.getfield 18, 3) := by decide +kernel
theorem dX1_takeSemicolon_34 : decode cX1_takeSemicolon 34 = .ok (.aload_n 0, 1) := by decide +kernel
theorem dX1_takeSemicolon_35 : decode cX1_takeSemicolon 35 = .ok (.getfield 27, 3) := by decide +kernel
theorem dX1_takeSemicolon_38 : decode cX1_takeSemicolon 38 = .ok (.aload_n 0, 1) := by decide +kernel
theorem dX1_takeSemicolon_39 : decode cX1_takeSemicolon 39 = .ok (.getfield 76, 3) := by decide +kernel
theorem dX1_takeSemicolon_42 : decode cX1_takeSemicolon 42 = .ok (.iastore, 1) := by decide +kernel
theorem dX1_takeSemicolon_43 : decode cX1_takeSemicolon 43 = .ok (.aload_n 0, 1) := by decide +kernel
theorem dX1_takeSemicolon_44 : decode cX1_takeSemicolon 44 = .ok (.getfield 21, 3) := by decide +kernel
theorem dX1_takeSemicolon_47 : decode cX1_takeSemicolon 47 = .ok (.aload_n 0, 1) := by decide +kernel
theorem dX1_takeSemicolon_48 : decode cX1_takeSemicolon 48 = .ok (.getfield 27, 3) := by decide +kernel
theorem dX1_takeSemicolon_51 : decode cX1_takeSemicolon 51 = .ok (.aload_n 0, 1) := by decide +kernel
theorem dX1_takeSemicolon_52 : decode cX1_takeSemicolon 52 = .ok (.getfield 48, 3) := by decide +kernel
theorem dX1_takeSemicolon_55 : decode cX1_takeSemicolon 55 = .ok (.iastore, 1) := by decide +kernel
theorem dX1_takeSemicolon_56 : decode cX1_takeSemicolon 56 = .ok (.aload_n 0, 1) := by decide +kernel
theorem dX1_takeSemicolon_57 : decode cX1_takeSemicolon 57 = .ok (.getfield 24, 3) := by decide +kernel
theorem dX1_takeSemicolon_60 : decode cX1_takeSemicolon 60 = .ok (.aload_n 0, 1) := by decide +kernel
theorem dX1_takeSemicolon_61 : decode cX1_takeSemicolon 61 = .ok (.getfield 27, 3) := by decide +kernel
theorem dX1_takeSemicolon_64 : decode cX1_takeSemicolon 64 = .ok (.aload_n 0, 1) := by decide +kernel
theorem dX1_takeSemicolon_65 : decode cX1_takeSemicolon 65 = .ok (.getfield 82, 3) := by decide +kernel
theorem dX1_takeSemicolon_68 : decode cX1_takeSemicolon 68 = .ok (.iastore, 1) := by decide +kernel
theorem dX1_takeSemicolon_69 : decode cX1_takeSemicolon 69 = .ok (.aload_n 0, 1) := by decide +kernel
theorem dX1_takeSemicolon_70 : decode cX1_takeSemicolon 70 = .ok (.dup, 1) := by decide +kernel
theorem dX1_takeSemicolon_71 : decode cX1_takeSemicolon 71 = .ok (.getfield 27, 3) := by decide +kernel
theorem dX1_takeSemicolon_74 : decode cX1_takeSemicolon 74 = .ok (.iconst 1, 1) := by decide +kernel
theorem dX1_takeSemicolon_75 : decode cX1_takeSemicolon 75 = .ok (.iadd, 1) := by decide +kernel
theorem dX1_takeSemicolon_76 : decode cX1_takeSemicolon 76 = .ok (.putfield 27, 3) := by decide +kernel
theorem dX1_takeSemicolon_79 : decode cX1_takeSemicolon 79 = .ok (.aload_n 0, 1) := by decide +kernel
theorem dX1_takeSemicolon_80 : decode cX1_takeSemicolon 80 = .ok (.iconst 0, 1) := by decide +kernel
theorem dX1_takeSemicolon_81 : decode cX1_takeSemicolon 81 = .ok (.putfield 31, 3) := by decide +kernel
theorem dX1_takeSemicolon_84 : decode cX1_takeSemicolon 84 = .ok (.iconst 1, 1) := by decide +kernel
theorem dX1_takeSemicolon_85 : decode cX1_takeSemicolon 85 = .ok (.ireturn, 1) := by decide +kernel
theorem dX1_isLetter_0 : decode cX1_isLetter 0 = .ok (.iload_n 0, 1) := by decide +kernel
theorem dX1_isLetter_1 : decode cX1_isLetter 1 = .ok (.bipush 97, 2) := by decide +kernel
theorem dX1_isLetter_3 : decode cX1_isLetter 3 = .ok (.if_icmp .lt 13, 3) := by decide +kernel
theorem dX1_isLetter_6 : decode cX1_isLetter 6 = .ok (.iload_n 0, 1) := by decide +kernel
theorem dX1_isLetter_7 : decode cX1_isLetter 7 = .ok (.bipush 104, 2) := by decide +kernel
theorem dX1_isLetter_9 : decode cX1_isLetter 9 = .ok (.if_icmp .gt 7, 3) := by decide +kernel
theorem dX1_isLetter_12 : decode cX1_isLetter 12 = .ok (.iconst 1, 1) := by decide +kernel
theorem dX1_isLetter_13 : decode cX1_isLetter 13 = .ok (.goto 4, 3) := by decide +kernel
theorem dX1_isLetter_16 : decode cX1_isLetter 16 = .ok (.iconst 0, 1) := by decide +kernel
theorem dX1_isLetter_17 : decode cX1_isLetter 17 = .ok (.ireturn, 1) := by decide +kernel
theorem dX1_isDigit_0 : decode cX1_isDigit 0 = .ok (.iload_n 0, 1) := by decide +kernel
theorem dX1_isDigit_1 : decode cX1_isDigit 1 = .ok (.bipush 48, 2) := by decide +kernel
theorem dX1_isDigit_3 : decode cX1_isDigit 3 = .ok (.if_icmp .lt 13, 3) := by decide +kernel
theorem dX1_isDigit_6 : decode cX1_isDigit 6 = .ok (.iload_n 0, 1) := by decide +kernel
theorem dX1_isDigit_7 : decode cX1_isDigit 7 = .ok (.bipush 57, 2) := by decide +kernel
theorem dX1_isDigit_9 : decode cX1_isDigit 9 = .ok (.if_icmp .gt 7, 3) := by decide +kernel
theorem dX1_isDigit_12 : decode cX1_isDigit 12 = .ok (.iconst 1, 1) := by decide +kernel
theorem dX1_isDigit_13 : decode cX1_isDigit 13 = .ok (.goto 4, 3) := by decide +kernel
theorem dX1_isDigit_16 : decode cX1_isDigit 16 = .ok (.iconst 0, 1) := by decide +kernel
theorem dX1_isDigit_17 : decode cX1_isDigit 17 = .ok (.ireturn, 1) := by decide +kernel
theorem dX1_isSign_0 : decode cX1_isSign 0 = .ok (.iload_n 0, 1) := by decide +kernel
theorem dX1_isSign_1 : decode cX1_isSign 1 = .ok (.lookupswitch 61 #[(35, 59), (42, 59), (43, 59), (45, 59), (62, 59), (120, 59)], 59) := by decide +kernel
theorem dX1_isSign_60 : decode cX1_isSign 60 = .ok (.iconst 1, 1) := by decide +kernel
theorem dX1_isSign_61 : decode cX1_isSign 61 = .ok (.ireturn, 1) := by decide +kernel
theorem dX1_isSign_62 : decode cX1_isSign 62 = .ok (.iconst 0, 1) := by decide +kernel
theorem dX1_isSign_63 : decode cX1_isSign 63 = .ok (.ireturn, 1) := by decide +kernel
set_option maxRecDepth 20000 in
theorem ggX2_init_X2_start : GoodIn wsX2_init wsX2_start := goodIn_r _ [12, 13, 14, 6, 7, 15, 16, 17, 11, 18, 19, 20, 21, 22, 23, 24, 25, 26, 27, 28, 29, 30, 31, 32, 33, 34] (by decide +kernel) (by decide +kernel)
set_option maxRecDepth 20000 in
theorem gX2_init_X2_start : GoodIn wsX2_init (wsV RX2 21 RX2 yX2_start wsX2_start) := goodIn_app (goodIn_of _ (by decide +kernel)) ggX2_init_X2_start
theorem dX2_init_0 : decode cX2_init 0 = .ok (.aload_n 0, 1) := by decide +kernel
theorem dX2_init_1 : decode cX2_init 1 = .ok (.invokespecial 3, 3) := by decide +kernel
theorem dX2_init_4 : decode cX2_init 4 = .ok (.aload_n 0, 1) := by decide +kernel
theorem dX2_init_5 : decode cX2_init 5 = .ok (.iconst 3, 1) := by decide +kernel
theorem dX2_init_6 : decode cX2_init 6 = .ok (.newarray .int, 2) := by decide +kernel
theorem dX2_init_8 : decode cX2_init 8 = .ok (.putfield 9, 3) := by decide +kernel
theorem dX2_init_11 : decode cX2_init 11 = .ok (.aload_n 0, 1) := by decide +kernel
theorem dX2_init_12 : decode cX2_init 12 = .ok (.getfield 9, 3) := by decide +kernel
theorem dX2_init_15 : decode cX2_init 15 = .ok (.iconst 0, 1) := by decide +kernel
theorem dX2_init_16 : decode cX2_init 16 = .ok (.iconst 4, 1) := by decide +kernel
theorem dX2_init_17 : decode cX2_init 17 = .ok (.iastore, 1) := by decide +kernel
theorem dX2_init_18 : decode cX2_init 18 = .ok (.aload_n 0, 1) := by decide +kernel
theorem dX2_init_19 : decode cX2_init 19 = .ok (.getfield 9, 3) := by decide +kernel
theorem dX2_init_22 : decode cX2_init 22 = .ok (.iconst 1, 1) := by decide +kernel
theorem dX2_init_23 : decode cX2_init 23 = .ok (.iconst 2, 1) := by decide +kernel
theorem dX2_init_24 : decode cX2_init 24 = .ok (.iastore, 1) := by decide +kernel
theorem dX2_init_25 : decode cX2_init 25 = .ok (.aload_n 0, 1) := by decide +kernel
theorem dX2_init_26 : decode cX2_init 26 = .ok (.getfield 9, 3) := by decide +kernel
theorem dX2_init_29 : decode cX2_init 29 = .ok (.iconst 2, 1) := by decide +kernel
theorem dX2_init_30 : decode cX2_init 30 = .ok (.iconst 1, 1) := by decide +kernel
theorem dX2_init_31 : decode cX2_init 31 = .ok (.iastore, 1) := by decide +kernel
theorem dX2_init_32 : decode cX2_init 32 = .ok (.aload_n 0, 1) := by decide +kernel
theorem dX2_init_33 : decode cX2_init 33 = .ok (.sipush 511, 3) := by decide +kernel
theorem dX2_init_36 : decode cX2_init 36 = .ok (.newarray .int, 2) := by decide +kernel
theorem dX2_init_38 : decode cX2_init 38 = .ok (.putfield 15, 3) := by decide +kernel
theorem dX2_init_41 : decode cX2_init 41 = .ok (.aload_n 0, 1) := by decide +kernel
theorem dX2_init_42 : decode cX2_init 42 = .ok (.bipush 8, 2) := by decide +kernel
theorem dX2_init_44 : decode cX2_init 44 = .ok (.newarray .int, 2) := by decide +kernel
theorem dX2_init_46 : decode cX2_init 46 = .ok (.putfield 18, 3) := by decide +kernel
theorem dX2_init_49 : decode cX2_init 49 = .ok (.aload_n 0, 1) := by decide +kernel
theorem dX2_init_50 : decode cX2_init 50 = .ok (.bipush 8, 2) := by decide +kernel
theorem dX2_init_52 : decode cX2_init 52 = .ok (.invokevirtual 21, 3) := by decide +kernel
theorem dX2_init_55 : decode cX2_init 55 = .ok (.return_, 1) := by decide +kernel
set_option maxRecDepth 20000 in
theorem ggX2_start_X2_entries : GoodIn wsX2_start wsX2_entries := goodIn_r _ [9, 10, 11, 12, 8, 13, 1, 21, 22, 23, 24, 25] (by decide +kernel) (by decide +kernel)
set_option maxRecDepth 20000 in
theorem gX2_start_X2_entries : GoodIn wsX2_start (wsV RX2 33 RX2 yX2_entries wsX2_entries) := goodIn_app (goodIn_of _ (by decide +kernel)) ggX2_start_X2_entries
set_option maxRecDepth 20000 in
theorem ggX2_start_X3_trueValue : GoodIn wsX2_start wsX3_trueValue := goodIn_r _ [16] (by decide +kernel) (by decide +kernel)
set_option maxRecDepth 20000 in
theorem gX2_start_X3_trueValue_n37 : GoodIn wsX2_start (wsX3_trueValue) := ggX2_start_X3_trueValue
set_option maxRecDepth 20000 in
theorem ggX2_start_J7_fill_53178 : GoodIn wsX2_start wsJ7_fill_53178 := goodIn_r _ [20] (by decide +kernel) (by decide +kernel)
set_option maxRecDepth 20000 in
theorem gX2_start_J7_fill_53178 : GoodIn wsX2_start (va_wsS RX2 41 yJ7_fill_53178 wsJ7_fill_53178) := goodIn_app (goodIn_of _ (by decide +kernel)) ggX2_start_J7_fill_53178
theorem dX2_start_0 : decode cX2_start 0 = .ok (.aload_n 0, 1) := by decide +kernel
theorem dX2_start_1 : decode cX2_start 1 = .ok (.iload_n 1, 1) := by decide +kernel
theorem dX2_start_2 : decode cX2_start 2 = .ok (.putfield 25, 3) := by decide +kernel
theorem dX2_start_5 : decode cX2_start 5 = .ok (.aload_n 0, 1) := by decide +kernel
theorem dX2_start_6 : decode cX2_start 6 = .ok (.lconst 0, 1) := by decide +kernel
theorem dX2_start_7 : decode cX2_start 7 = .ok (.putfield 29, 3) := by decide +kernel
theorem dX2_start_10 : decode cX2_start 10 = .ok (.iconst 0, 1) := by decide +kernel
theorem dX2_start_11 : decode cX2_start 11 = .ok (.istore_n 2, 1) := by decide +kernel
theorem dX2_start_12 : decode cX2_start 12 = .ok (.iload_n 2, 1) := by decide +kernel
theorem dX2_start_13 : decode cX2_start 13 = .ok (.aload_n 0, 1) := by decide +kernel
theorem dX2_start_14 : decode cX2_start 14 = .ok (.invokevirtual 33, 3) := by decide +kernel
theorem dX2_start_17 : decode cX2_start 17 = .ok (.if_icmp .ge 19, 3) := by decide +kernel
theorem dX2_start_20 : decode cX2_start 20 = .ok (.aload_n 0, 1) := by decide +kernel
theorem dX2_start_21 : decode cX2_start 21 = .ok (.getfield 15, 3) := by decide +kernel
theorem dX2_start_24 : decode cX2_start 24 = .ok (.iload_n 2, 1) := by decide +kernel
theorem dX2_start_25 : decode cX2_start 25 = .ok (.iload_n 2, 1) := by decide +kernel
theorem dX2_start_26 : decode cX2_start 26 = .ok (.invokestatic 37, 3) := by decide +kernel
theorem dX2_start_29 : decode cX2_start 29 = .ok (.iastore, 1) := by decide +kernel
theorem dX2_start_30 : decode cX2_start 30 = .ok (.iinc 2 1, 3) := by decide +kernel
theorem dX2_start_33 : decode cX2_start 33 = .ok (.goto (-21), 3) := by decide +kernel
theorem dX2_start_36 : decode cX2_start 36 = .ok (.aload_n 0, 1) := by decide +kernel
theorem dX2_start_37 : decode cX2_start 37 = .ok (.getfield 18, 3) := by decide +kernel
theorem dX2_start_40 : decode cX2_start 40 = .ok (.iconst 0, 1) := by decide +kernel
theorem dX2_start_41 : decode cX2_start 41 = .ok (.invokestatic 41, 3) := by decide +kernel
theorem dX2_start_44 : decode cX2_start 44 = .ok (.return_, 1) := by decide +kernel
theorem dX2_copyFrom_0 : decode cX2_copyFrom 0 = .ok (.aload_n 0, 1) := by decide +kernel
theorem dX2_copyFrom_1 : decode cX2_copyFrom 1 = .ok (.aload_n 1, 1) := by decide +kernel
theorem dX2_copyFrom_2 : decode cX2_copyFrom 2 = .ok (.getfield 25, 3) := by decide +kernel
theorem dX2_copyFrom_5 : decode cX2_copyFrom 5 = .ok (.putfield 25, 3) := by decide +kernel
theorem dX2_copyFrom_8 : decode cX2_copyFrom 8 = .ok (.aload_n 0, 1) := by decide +kernel
theorem dX2_copyFrom_9 : decode cX2_copyFrom 9 = .ok (.aload_n 1, 1) := by decide +kernel
theorem dX2_copyFrom_10 : decode cX2_copyFrom 10 = .ok (.getfield 29, 3) := by decide +kernel
theorem dX2_copyFrom_13 : decode cX2_copyFrom 13 = .ok (.putfield 29, 3) := by decide +kernel
theorem dX2_copyFrom_16 : decode cX2_copyFrom 16 = .ok (.aload_n 1, 1) := by decide +kernel
theorem dX2_copyFrom_17 : decode cX2_copyFrom 17 = .ok (.getfield 9, 3) := by decide +kernel
theorem dX2_copyFrom_20 : decode cX2_copyFrom 20 = .ok (.iconst 0, 1) := by decide +kernel
theorem dX2_copyFrom_21 : decode cX2_copyFrom 21 = .ok (.aload_n 0, 1) := by decide +kernel
theorem dX2_copyFrom_22 : decode cX2_copyFrom 22 = .ok (.getfield 9, 3) := by decide +kernel
theorem dX2_copyFrom_25 : decode cX2_copyFrom 25 = .ok (.iconst 0, 1) := by decide +kernel
theorem dX2_copyFrom_26 : decode cX2_copyFrom 26 = .ok (.iconst 3, 1) := by decide +kernel
theorem dX2_copyFrom_27 : decode cX2_copyFrom 27 = .ok (.invokestatic 47, 3) := by decide +kernel
theorem dX2_copyFrom_30 : decode cX2_copyFrom 30 = .ok (.aload_n 1, 1) := by decide +kernel
theorem dX2_copyFrom_31 : decode cX2_copyFrom 31 = .ok (.getfield 15, 3) := by decide +kernel
theorem dX2_copyFrom_34 : decode cX2_copyFrom 34 = .ok (.iconst 0, 1) := by decide +kernel
theorem dX2_copyFrom_35 : decode cX2_copyFrom 35 = .ok (.aload_n 0, 1) := by decide +kernel
theorem dX2_copyFrom_36 : decode cX2_copyFrom 36 = .ok (.getfield 15, 3) := by decide +kernel
theorem dX2_copyFrom_39 : decode cX2_copyFrom 39 = .ok (.iconst 0, 1) := by decide +kernel
theorem dX2_copyFrom_40 : decode cX2_copyFrom 40 = .ok (.sipush 511, 3) := by decide +kernel
theorem dX2_copyFrom_43 : decode cX2_copyFrom 43 = .ok (.invokestatic 47, 3) := by decide +kernel
theorem dX2_copyFrom_46 : decode cX2_copyFrom 46 = .ok (.aload_n 1, 1) := by decide +kernel
theorem dX2_copyFrom_47 : decode cX2_copyFrom 47 = .ok (.getfield 18, 3) := by decide +kernel
theorem dX2_copyFrom_50 : decode cX2_copyFrom 50 = .ok (.iconst 0, 1) := by decide +kernel
theorem dX2_copyFrom_51 : decode cX2_copyFrom 51 = .ok (.aload_n 0, 1) := by decide +kernel
theorem dX2_copyFrom_52 : decode cX2_copyFrom 52 = .ok (.getfield 18, 3) := by decide +kernel
theorem dX2_copyFrom_55 : decode cX2_copyFrom 55 = .ok (.iconst 0, 1) := by decide +kernel
theorem dX2_copyFrom_56 : decode cX2_copyFrom 56 = .ok (.bipush 8, 2) := by decide +kernel
theorem dX2_copyFrom_58 : decode cX2_copyFrom 58 = .ok (.invokestatic 47, 3) := by decide +kernel
theorem dX2_copyFrom_61 : decode cX2_copyFrom 61 = .ok (.return_, 1) := by decide +kernel
theorem dX2_greatest_0 : decode cX2_greatest 0 = .ok (.iconst 1, 1) := by decide +kernel
theorem dX2_greatest_1 : decode cX2_greatest 1 = .ok (.aload_n 0, 1) := by decide +kernel
theorem dX2_greatest_2 : decode cX2_greatest 2 = .ok (.getfield 25, 3) := by decide +kernel
theorem dX2_greatest_5 : decode cX2_greatest 5 = .ok (.ishl, 1) := by decide +kernel
theorem dX2_greatest_6 : decode cX2_greatest 6 = .ok (.iconst 1, 1) := by decide +kernel
theorem dX2_greatest_7 : decode cX2_greatest 7 = .ok (.isub, 1) := by decide +kernel
theorem dX2_greatest_8 : decode cX2_greatest 8 = .ok (.ireturn, 1) := by decide +kernel
set_option maxRecDepth 20000 in
theorem ggX2_entries_X2_greatest : GoodIn wsX2_entries wsX2_greatest := goodIn_r _ [5, 6, 7, 8, 9, 10, 11] (by decide +kernel) (by decide +kernel)
set_option maxRecDepth 20000 in
theorem gX2_entries_X2_greatest : GoodIn wsX2_entries (wsV RX2 53 RX2 yX2_greatest wsX2_greatest) := goodIn_app (goodIn_of _ (by decide +kernel)) ggX2_entries_X2_greatest
theorem dX2_entries_0 : decode cX2_entries 0 = .ok (.iconst 2, 1) := by decide +kernel
theorem dX2_entries_1 : decode cX2_entries 1 = .ok (.aload_n 0, 1) := by decide +kernel
theorem dX2_entries_2 : decode cX2_entries 2 = .ok (.invokevirtual 53, 3) := by decide +kernel
theorem dX2_entries_5 : decode cX2_entries 5 = .ok (.imul, 1) := by decide +kernel
theorem dX2_entries_6 : decode cX2_entries 6 = .ok (.iconst 1, 1) := by decide +kernel
theorem dX2_entries_7 : decode cX2_entries 7 = .ok (.iadd, 1) := by decide +kernel
theorem dX2_entries_8 : decode cX2_entries 8 = .ok (.ireturn, 1) := by decide +kernel
set_option maxRecDepth 20000 in
theorem ggX2_wrongBits_X3_trueValue : GoodIn wsX2_wrongBits wsX3_trueValue := goodIn_r _ [4] (by decide +kernel) (by decide +kernel)
set_option maxRecDepth 20000 in
theorem gX2_wrongBits_X3_trueValue_n37 : GoodIn wsX2_wrongBits (wsX3_trueValue) := ggX2_wrongBits_X3_trueValue
set_option maxRecDepth 20000 in
theorem ggX2_wrongBits_J6_bitCount_0f7a4 : GoodIn wsX2_wrongBits wsJ6_bitCount_0f7a4 := goodIn_r _ [8, 9, 10, 11] (by decide +kernel) (by decide +kernel)
set_option maxRecDepth 20000 in
theorem gX2_wrongBits_J6_bitCount_0f7a4 : GoodIn wsX2_wrongBits (va_wsS RX2 56 yJ6_bitCount_0f7a4 wsJ6_bitCount_0f7a4) := goodIn_app (goodIn_of _ (by decide +kernel)) ggX2_wrongBits_J6_bitCount_0f7a4
theorem dX2_wrongBits_0 : decode cX2_wrongBits 0 = .ok (.aload_n 0, 1) := by decide +kernel
theorem dX2_wrongBits_1 : decode cX2_wrongBits 1 = .ok (.getfield 15, 3) := by decide +kernel
theorem dX2_wrongBits_4 : decode cX2_wrongBits 4 = .ok (.iload_n 1, 1) := by decide +kernel
theorem dX2_wrongBits_5 : decode cX2_wrongBits 5 = .ok (.iaload, 1) := by decide +kernel
theorem dX2_wrongBits_6 : decode cX2_wrongBits 6 = .ok (.iload_n 1, 1) := by decide +kernel
theorem dX2_wrongBits_7 : decode cX2_wrongBits 7 = .ok (.invokestatic 37, 3) := by decide +kernel
theorem dX2_wrongBits_10 : decode cX2_wrongBits 10 = .ok (.ixor, 1) := by decide +kernel
theorem dX2_wrongBits_11 : decode cX2_wrongBits 11 = .ok (.invokestatic 56, 3) := by decide +kernel
theorem dX2_wrongBits_14 : decode cX2_wrongBits 14 = .ok (.ireturn, 1) := by decide +kernel
set_option maxRecDepth 20000 in
theorem ggX2_hasStoredParity_X3_parity : GoodIn wsX2_hasStoredParity wsX3_parity := goodIn_r _ [4, 5, 6, 7, 8, 9, 10, 11] (by decide +kernel) (by decide +kernel)
set_option maxRecDepth 20000 in
theorem gX2_hasStoredParity_X3_parity_n61 : GoodIn wsX2_hasStoredParity (wsX3_parity) := ggX2_hasStoredParity_X3_parity
set_option maxRecDepth 20000 in
theorem ggX2_hasStoredParity_X3_trueValue : GoodIn wsX2_hasStoredParity wsX3_trueValue := goodIn_r _ [13] (by decide +kernel) (by decide +kernel)
set_option maxRecDepth 20000 in
theorem gX2_hasStoredParity_X3_trueValue_n37 : GoodIn wsX2_hasStoredParity (wsX3_trueValue) := ggX2_hasStoredParity_X3_trueValue
theorem dX2_hasStoredParity_0 : decode cX2_hasStoredParity 0 = .ok (.aload_n 0, 1) := by decide +kernel
theorem dX2_hasStoredParity_1 : decode cX2_hasStoredParity 1 = .ok (.getfield 15, 3) := by decide +kernel
theorem dX2_hasStoredParity_4 : decode cX2_hasStoredParity 4 = .ok (.iload_n 1, 1) := by decide +kernel
theorem dX2_hasStoredParity_5 : decode cX2_hasStoredParity 5 = .ok (.iaload, 1) := by decide +kernel
theorem dX2_hasStoredParity_6 : decode cX2_hasStoredParity 6 = .ok (.invokestatic 61, 3) := by decide +kernel
theorem dX2_hasStoredParity_9 : decode cX2_hasStoredParity 9 = .ok (.iload_n 1, 1) := by decide +kernel
theorem dX2_hasStoredParity_10 : decode cX2_hasStoredParity 10 = .ok (.invokestatic 37, 3) := by decide +kernel
theorem dX2_hasStoredParity_13 : decode cX2_hasStoredParity 13 = .ok (.invokestatic 61, 3) := by decide +kernel
theorem dX2_hasStoredParity_16 : decode cX2_hasStoredParity 16 = .ok (.if_icmp .ne 7, 3) := by decide +kernel
theorem dX2_hasStoredParity_19 : decode cX2_hasStoredParity 19 = .ok (.iconst 1, 1) := by decide +kernel
theorem dX2_hasStoredParity_20 : decode cX2_hasStoredParity 20 = .ok (.goto 4, 3) := by decide +kernel
theorem dX2_hasStoredParity_23 : decode cX2_hasStoredParity 23 = .ok (.iconst 0, 1) := by decide +kernel
theorem dX2_hasStoredParity_24 : decode cX2_hasStoredParity 24 = .ok (.ireturn, 1) := by decide +kernel
set_option maxRecDepth 20000 in
theorem ggX2_wrongEntries_X2_entries : GoodIn wsX2_wrongEntries wsX2_entries := goodIn_r _ [6, 7, 8, 9, 5, 10, 11, 15, 16, 17, 18, 19] (by decide +kernel) (by decide +kernel)
set_option maxRecDepth 20000 in
theorem gX2_wrongEntries_X2_entries : GoodIn wsX2_wrongEntries (wsV RX2 33 RX2 yX2_entries wsX2_entries) := goodIn_app (goodIn_of _ (by decide +kernel)) ggX2_wrongEntries_X2_entries
set_option maxRecDepth 20000 in
theorem ggX2_wrongEntries_X3_trueValue : GoodIn wsX2_wrongEntries wsX3_trueValue := goodIn_r _ [14] (by decide +kernel) (by decide +kernel)
set_option maxRecDepth 20000 in
theorem gX2_wrongEntries_X3_trueValue_n37 : GoodIn wsX2_wrongEntries (wsX3_trueValue) := ggX2_wrongEntries_X3_trueValue
theorem dX2_wrongEntries_0 : decode cX2_wrongEntries 0 = .ok (.iconst 0, 1) := by decide +kernel
theorem dX2_wrongEntries_1 : decode cX2_wrongEntries 1 = .ok (.istore_n 1, 1) := by decide +kernel
theorem dX2_wrongEntries_2 : decode cX2_wrongEntries 2 = .ok (.iconst 0, 1) := by decide +kernel
theorem dX2_wrongEntries_3 : decode cX2_wrongEntries 3 = .ok (.istore_n 2, 1) := by decide +kernel
theorem dX2_wrongEntries_4 : decode cX2_wrongEntries 4 = .ok (.iload_n 2, 1) := by decide +kernel
theorem dX2_wrongEntries_5 : decode cX2_wrongEntries 5 = .ok (.aload_n 0, 1) := by decide +kernel
theorem dX2_wrongEntries_6 : decode cX2_wrongEntries 6 = .ok (.invokevirtual 33, 3) := by decide +kernel
theorem dX2_wrongEntries_9 : decode cX2_wrongEntries 9 = .ok (.if_icmp .ge 25, 3) := by decide +kernel
theorem dX2_wrongEntries_12 : decode cX2_wrongEntries 12 = .ok (.aload_n 0, 1) := by decide +kernel
theorem dX2_wrongEntries_13 : decode cX2_wrongEntries 13 = .ok (.getfield 15, 3) := by decide +kernel
theorem dX2_wrongEntries_16 : decode cX2_wrongEntries 16 = .ok (.iload_n 2, 1) := by decide +kernel
theorem dX2_wrongEntries_17 : decode cX2_wrongEntries 17 = .ok (.iaload, 1) := by decide +kernel
theorem dX2_wrongEntries_18 : decode cX2_wrongEntries 18 = .ok (.iload_n 2, 1) := by decide +kernel
theorem dX2_wrongEntries_19 : decode cX2_wrongEntries 19 = .ok (.invokestatic 37, 3) := by decide +kernel
theorem dX2_wrongEntries_22 : decode cX2_wrongEntries 22 = .ok (.if_icmp .eq 6, 3) := by decide +kernel
theorem dX2_wrongEntries_25 : decode cX2_wrongEntries 25 = .ok (.iinc 1 1, 3) := by decide +kernel
theorem dX2_wrongEntries_28 : decode cX2_wrongEntries 28 = .ok (.iinc 2 1, 3) := by decide +kernel
theorem dX2_wrongEntries_31 : decode cX2_wrongEntries 31 = .ok (.goto (-27), 3) := by decide +kernel
theorem dX2_wrongEntries_34 : decode cX2_wrongEntries 34 = .ok (.iload_n 1, 1) := by decide +kernel
theorem dX2_wrongEntries_35 : decode cX2_wrongEntries 35 = .ok (.ireturn, 1) := by decide +kernel
set_option maxRecDepth 20000 in
theorem ggX2_entriesFoundByParity_X2_entries : GoodIn wsX2_entriesFoundByParity wsX2_entries := goodIn_r _ [5, 6, 7, 8, 4, 9, 10, 28, 29, 30, 31, 32] (by decide +kernel) (by decide +kernel)
set_option maxRecDepth 20000 in
theorem gX2_entriesFoundByParity_X2_entries : GoodIn wsX2_entriesFoundByParity (wsV RX2 33 RX2 yX2_entries wsX2_entries) := goodIn_app (goodIn_of _ (by decide +kernel)) ggX2_entriesFoundByParity_X2_entries
set_option maxRecDepth 20000 in
theorem ggX2_entriesFoundByParity_X2_hasStoredParity : GoodIn wsX2_entriesFoundByParity wsX2_hasStoredParity := goodIn_r _ [14, 15, 16, 17, 18, 19, 20, 21, 22, 23, 24, 25, 26, 27, 28, 29, 30, 31, 32] (by decide +kernel) (by decide +kernel)
set_option maxRecDepth 20000 in
theorem gX2_entriesFoundByParity_X2_hasStoredParity : GoodIn wsX2_entriesFoundByParity (wsV RX2 64 RX2 yX2_hasStoredParity wsX2_hasStoredParity) := goodIn_app (goodIn_of _ (by decide +kernel)) ggX2_entriesFoundByParity_X2_hasStoredParity
theorem dX2_entriesFoundByParity_0 : decode cX2_entriesFoundByParity 0 = .ok (.iconst 0, 1) := by decide +kernel
theorem dX2_entriesFoundByParity_1 : decode cX2_entriesFoundByParity 1 = .ok (.istore_n 1, 1) := by decide +kernel
theorem dX2_entriesFoundByParity_2 : decode cX2_entriesFoundByParity 2 = .ok (.iconst 0, 1) := by decide +kernel
theorem dX2_entriesFoundByParity_3 : decode cX2_entriesFoundByParity 3 = .ok (.istore_n 2, 1) := by decide +kernel
theorem dX2_entriesFoundByParity_4 : decode cX2_entriesFoundByParity 4 = .ok (.iload_n 2, 1) := by decide +kernel
theorem dX2_entriesFoundByParity_5 : decode cX2_entriesFoundByParity 5 = .ok (.aload_n 0, 1) := by decide +kernel
theorem dX2_entriesFoundByParity_6 : decode cX2_entriesFoundByParity 6 = .ok (.invokevirtual 33, 3) := by decide +kernel
theorem dX2_entriesFoundByParity_9 : decode cX2_entriesFoundByParity 9 = .ok (.if_icmp .ge 20, 3) := by decide +kernel
theorem dX2_entriesFoundByParity_12 : decode cX2_entriesFoundByParity 12 = .ok (.aload_n 0, 1) := by decide +kernel
theorem dX2_entriesFoundByParity_13 : decode cX2_entriesFoundByParity 13 = .ok (.iload_n 2, 1) := by decide +kernel
theorem dX2_entriesFoundByParity_14 : decode cX2_entriesFoundByParity 14 = .ok (.invokevirtual 64, 3) := by decide +kernel
theorem dX2_entriesFoundByParity_17 : decode cX2_entriesFoundByParity 17 = .ok (.ifCond .ne 6, 3) := by decide +kernel
theorem dX2_entriesFoundByParity_20 : decode cX2_entriesFoundByParity 20 = .ok (.iinc 1 1, 3) := by decide +kernel
theorem dX2_entriesFoundByParity_23 : decode cX2_entriesFoundByParity 23 = .ok (.iinc 2 1, 3) := by decide +kernel
theorem dX2_entriesFoundByParity_26 : decode cX2_entriesFoundByParity 26 = .ok (.goto (-22), 3) := by decide +kernel
theorem dX2_entriesFoundByParity_29 : decode cX2_entriesFoundByParity 29 = .ok (.iload_n 1, 1) := by decide +kernel
theorem dX2_entriesFoundByParity_30 : decode cX2_entriesFoundByParity 30 = .ok (.ireturn, 1) := by decide +kernel
set_option maxRecDepth 20000 in
theorem ggX2_allWrongBits_X2_entries : GoodIn wsX2_allWrongBits wsX2_entries := goodIn_r _ [5, 6, 7, 8, 4, 9, 10, 26, 27, 28, 29, 30] (by decide +kernel) (by decide +kernel)
set_option maxRecDepth 20000 in
theorem gX2_allWrongBits_X2_entries : GoodIn wsX2_allWrongBits (wsV RX2 33 RX2 yX2_entries wsX2_entries) := goodIn_app (goodIn_of _ (by decide +kernel)) ggX2_allWrongBits_X2_entries
set_option maxRecDepth 20000 in
theorem ggX2_allWrongBits_X2_wrongBits : GoodIn wsX2_allWrongBits wsX2_wrongBits := goodIn_r _ [14, 15, 16, 17, 18, 19, 20, 21, 22, 23, 24, 25, 26, 27, 28, 29, 30] (by decide +kernel) (by decide +kernel)
set_option maxRecDepth 20000 in
theorem gX2_allWrongBits_X2_wrongBits : GoodIn wsX2_allWrongBits (wsV RX2 68 RX2 yX2_wrongBits wsX2_wrongBits) := goodIn_app (goodIn_of _ (by decide +kernel)) ggX2_allWrongBits_X2_wrongBits
theorem dX2_allWrongBits_0 : decode cX2_allWrongBits 0 = .ok (.iconst 0, 1) := by decide +kernel
theorem dX2_allWrongBits_1 : decode cX2_allWrongBits 1 = .ok (.istore_n 1, 1) := by decide +kernel
theorem dX2_allWrongBits_2 : decode cX2_allWrongBits 2 = .ok (.iconst 0, 1) := by decide +kernel
theorem dX2_allWrongBits_3 : decode cX2_allWrongBits 3 = .ok (.istore_n 2, 1) := by decide +kernel
theorem dX2_allWrongBits_4 : decode cX2_allWrongBits 4 = .ok (.iload_n 2, 1) := by decide +kernel
theorem dX2_allWrongBits_5 : decode cX2_allWrongBits 5 = .ok (.aload_n 0, 1) := by decide +kernel
theorem dX2_allWrongBits_6 : decode cX2_allWrongBits 6 = .ok (.invokevirtual 33, 3) := by decide +kernel
theorem dX2_allWrongBits_9 : decode cX2_allWrongBits 9 = .ok (.if_icmp .ge 17, 3) := by decide +kernel
theorem dX2_allWrongBits_12 : decode cX2_allWrongBits 12 = .ok (.iload_n 1, 1) := by decide +kernel
theorem dX2_allWrongBits_13 : decode cX2_allWrongBits 13 = .ok (.aload_n 0, 1) := by decide +kernel
theorem dX2_allWrongBits_14 : decode cX2_allWrongBits 14 = .ok (.iload_n 2, 1) := by decide +kernel
theorem dX2_allWrongBits_15 : decode cX2_allWrongBits 15 = .ok (.invokevirtual 68, 3) := by decide +kernel
theorem dX2_allWrongBits_18 : decode cX2_allWrongBits 18 = .ok (.iadd, 1) := by decide +kernel
theorem dX2_allWrongBits_19 : decode cX2_allWrongBits 19 = .ok (.istore_n 1, 1) := by decide +kernel
theorem dX2_allWrongBits_20 : decode cX2_allWrongBits 20 = .ok (.iinc 2 1, 3) := by decide +kernel
theorem dX2_allWrongBits_23 : decode cX2_allWrongBits 23 = .ok (.goto (-19), 3) := by decide +kernel
theorem dX2_allWrongBits_26 : decode cX2_allWrongBits 26 = .ok (.iload_n 1, 1) := by decide +kernel
theorem dX2_allWrongBits_27 : decode cX2_allWrongBits 27 = .ok (.ireturn, 1) := by decide +kernel
set_option maxRecDepth 20000 in
theorem ggX2_number_X2_entries : GoodIn wsX2_number wsX2_entries := goodIn_r _ [7, 8, 9, 10, 6, 11, 1, 46, 47, 48, 49, 50] (by decide +kernel) (by decide +kernel)
set_option maxRecDepth 20000 in
theorem gX2_number_X2_entries : GoodIn wsX2_number (wsV RX2 33 RX2 yX2_entries wsX2_entries) := goodIn_app (goodIn_of _ (by decide +kernel)) ggX2_number_X2_entries
set_option maxRecDepth 20000 in
theorem ggX2_number_X2_wrongEntries : GoodIn wsX2_number wsX2_wrongEntries := goodIn_r _ [15, 16, 3, 4, 5, 6, 7, 8, 9, 10, 11, 1, 17, 18, 19, 46, 47, 48, 49, 50] (by decide +kernel) (by decide +kernel)
set_option maxRecDepth 20000 in
theorem gX2_number_X2_wrongEntries : GoodIn wsX2_number (wsV RX2 71 RX2 yX2_wrongEntries wsX2_wrongEntries) := goodIn_app (goodIn_of _ (by decide +kernel)) ggX2_number_X2_wrongEntries
set_option maxRecDepth 20000 in
theorem ggX2_number_X2_entriesFoundByParity : GoodIn wsX2_number wsX2_entriesFoundByParity := goodIn_r _ [23, 3, 4, 5, 6, 7, 8, 9, 10, 11, 1, 24, 25, 26, 27, 16, 28, 18, 29, 30, 31, 32, 33, 34, 35, 36, 17, 19, 46, 47, 48, 49, 50] (by decide +kernel) (by decide +kernel)
set_option maxRecDepth 20000 in
theorem gX2_number_X2_entriesFoundByParity : GoodIn wsX2_number (wsV RX2 74 RX2 yX2_entriesFoundByParity wsX2_entriesFoundByParity) := goodIn_app (goodIn_of _ (by decide +kernel)) ggX2_number_X2_entriesFoundByParity
set_option maxRecDepth 20000 in
theorem ggX2_number_X2_allWrongBits : GoodIn wsX2_number wsX2_allWrongBits := goodIn_r _ [40, 3, 4, 5, 6, 7, 8, 9, 10, 11, 1, 41, 42, 43, 44, 16, 17, 18, 19, 45, 31, 32, 33, 34, 35, 36, 46, 47, 48, 49, 50] (by decide +kernel) (by decide +kernel)
set_option maxRecDepth 20000 in
theorem gX2_number_X2_allWrongBits : GoodIn wsX2_number (wsV RX2 77 RX2 yX2_allWrongBits wsX2_allWrongBits) := goodIn_app (goodIn_of _ (by decide +kernel)) ggX2_number_X2_allWrongBits
theorem dX2_number_0 : decode cX2_number 0 = .ok (.iload_n 1, 1) := by decide +kernel
theorem dX2_number_1 : decode cX2_number 1 = .ok (.tableswitch 84 0 6 #[43, 48, 53, 60, 67, 74, 79], 43) := by decide +kernel
theorem dX2_number_44 : decode cX2_number 44 = .ok (.aload_n 0, 1) := by decide +kernel
theorem dX2_number_45 : decode cX2_number 45 = .ok (.getfield 25, 3) := by decide +kernel
theorem dX2_number_48 : decode cX2_number 48 = .ok (.ireturn, 1) := by decide +kernel
theorem dX2_number_49 : decode cX2_number 49 = .ok (.aload_n 0, 1) := by decide +kernel
theorem dX2_number_50 : decode cX2_number 50 = .ok (.invokevirtual 33, 3) := by decide +kernel
theorem dX2_number_53 : decode cX2_number 53 = .ok (.ireturn, 1) := by decide +kernel
theorem dX2_number_54 : decode cX2_number 54 = .ok (.aload_n 0, 1) := by decide +kernel
theorem dX2_number_55 : decode cX2_number 55 = .ok (.getfield 9, 3) := by decide +kernel
theorem dX2_number_58 : decode cX2_number 58 = .ok (.iconst 0, 1) := by decide +kernel
theorem dX2_number_59 : decode cX2_number 59 = .ok (.iaload, 1) := by decide +kernel
theorem dX2_number_60 : decode cX2_number 60 = .ok (.ireturn, 1) := by decide +kernel
theorem dX2_number_61 : decode cX2_number 61 = .ok (.aload_n 0, 1) := by decide +kernel
theorem dX2_number_62 : decode cX2_number 62 = .ok (.getfield 9, 3) := by decide +kernel
theorem dX2_number_65 : decode cX2_number 65 = .ok (.iconst 1, 1) := by decide +kernel
theorem dX2_number_66 : decode cX2_number 66 = .ok (.iaload, 1) := by decide +kernel
theorem dX2_number_67 : decode cX2_number 67 = .ok (.ireturn, 1) := by decide +kernel
theorem dX2_number_68 : decode cX2_number 68 = .ok (.aload_n 0, 1) := by decide +kernel
theorem dX2_number_69 : decode cX2_number 69 = .ok (.getfield 9, 3) := by decide +kernel
theorem dX2_number_72 : decode cX2_number 72 = .ok (.iconst 2, 1) := by decide +kernel
theorem dX2_number_73 : decode cX2_number 73 = .ok (.iaload, 1) := by decide +kernel
theorem dX2_number_74 : decode cX2_number 74 = .ok (.ireturn, 1) := by decide +kernel
theorem dX2_number_75 : decode cX2_number 75 = .ok (.aload_n 0, 1) := by decide +kernel
theorem dX2_number_76 : decode cX2_number 76 = .ok (.invokevirtual 71, 3) := by decide +kernel
theorem dX2_number_79 : decode cX2_number 79 = .ok (.ireturn, 1) := by decide +kernel
theorem dX2_number_80 : decode cX2_number 80 = .ok (.aload_n 0, 1) := by decide +kernel
theorem dX2_number_81 : decode cX2_number 81 = .ok (.invokevirtual 74, 3) := by decide +kernel
theorem dX2_number_84 : decode cX2_number 84 = .ok (.ireturn, 1) := by decide +kernel
theorem dX2_number_85 : decode cX2_number 85 = .ok (.aload_n 0, 1) := by decide +kernel
theorem dX2_number_86 : decode cX2_number 86 = .ok (.invokevirtual 77, 3) := by decide +kernel
theorem dX2_number_89 : decode cX2_number 89 = .ok (.ireturn, 1) := by decide +kernel
theorem dX2_product_0 : decode cX2_product 0 = .ok (.iload_n 3, 1) := by decide +kernel
theorem dX2_product_1 : decode cX2_product 1 = .ok (.ifCond .ne 26, 3) := by decide +kernel
theorem dX2_product_4 : decode cX2_product 4 = .ok (.aload_n 0, 1) := by decide +kernel
theorem dX2_product_5 : decode cX2_product 5 = .ok (.getfield 15, 3) := by decide +kernel
theorem dX2_product_8 : decode cX2_product 8 = .ok (.iload_n 1, 1) := by decide +kernel
theorem dX2_product_9 : decode cX2_product 9 = .ok (.iload_n 2, 1) := by decide +kernel
theorem dX2_product_10 : decode cX2_product 10 = .ok (.iadd, 1) := by decide +kernel
theorem dX2_product_11 : decode cX2_product 11 = .ok (.iaload, 1) := by decide +kernel
theorem dX2_product_12 : decode cX2_product 12 = .ok (.aload_n 0, 1) := by decide +kernel
theorem dX2_product_13 : decode cX2_product 13 = .ok (.getfield 15, 3) := by decide +kernel
theorem dX2_product_16 : decode cX2_product 16 = .ok (.iload_n 1, 1) := by decide +kernel
theorem dX2_product_17 : decode cX2_product 17 = .ok (.iload_n 2, 1) := by decide +kernel
theorem dX2_product_18 : decode cX2_product 18 = .ok (.isub, 1) := by decide +kernel
theorem dX2_product_19 : decode cX2_product 19 = .ok (.invokestatic 80, 3) := by decide +kernel
theorem dX2_product_22 : decode cX2_product 22 = .ok (.iaload, 1) := by decide +kernel
theorem dX2_product_23 : decode cX2_product 23 = .ok (.isub, 1) := by decide +kernel
theorem dX2_product_24 : decode cX2_product 24 = .ok (.goto 6, 3) := by decide +kernel
theorem dX2_product_27 : decode cX2_product 27 = .ok (.iload_n 1, 1) := by decide +kernel
theorem dX2_product_28 : decode cX2_product 28 = .ok (.iload_n 2, 1) := by decide +kernel
theorem dX2_product_29 : decode cX2_product 29 = .ok (.imul, 1) := by decide +kernel
theorem dX2_product_30 : decode cX2_product 30 = .ok (.ireturn, 1) := by decide +kernel
set_option maxRecDepth 20000 in
theorem ggX2_isWrongPair_X2_product : GoodIn wsX2_isWrongPair wsX2_product := goodIn_r _ [5, 6, 7, 8, 9, 10, 11, 12, 13, 14, 15] (by decide +kernel) (by decide +kernel)
set_option maxRecDepth 20000 in
theorem gX2_isWrongPair_X2_product : GoodIn wsX2_isWrongPair (wsV RX2 85 RX2 yX2_product wsX2_product) := goodIn_app (goodIn_of _ (by decide +kernel)) ggX2_isWrongPair_X2_product
theorem dX2_isWrongPair_0 : decode cX2_isWrongPair 0 = .ok (.aload_n 0, 1) := by decide +kernel
theorem dX2_isWrongPair_1 : decode cX2_isWrongPair 1 = .ok (.iload_n 1, 1) := by decide +kernel
theorem dX2_isWrongPair_2 : decode cX2_isWrongPair 2 = .ok (.iload_n 2, 1) := by decide +kernel
theorem dX2_isWrongPair_3 : decode cX2_isWrongPair 3 = .ok (.iconst 0, 1) := by decide +kernel
theorem dX2_isWrongPair_4 : decode cX2_isWrongPair 4 = .ok (.invokevirtual 85, 3) := by decide +kernel
theorem dX2_isWrongPair_7 : decode cX2_isWrongPair 7 = .ok (.iload_n 1, 1) := by decide +kernel
theorem dX2_isWrongPair_8 : decode cX2_isWrongPair 8 = .ok (.iload_n 2, 1) := by decide +kernel
theorem dX2_isWrongPair_9 : decode cX2_isWrongPair 9 = .ok (.imul, 1) := by decide +kernel
theorem dX2_isWrongPair_10 : decode cX2_isWrongPair 10 = .ok (.if_icmp .eq 7, 3) := by decide +kernel
theorem dX2_isWrongPair_13 : decode cX2_isWrongPair 13 = .ok (.iconst 1, 1) := by decide +kernel
theorem dX2_isWrongPair_14 : decode cX2_isWrongPair 14 = .ok (.goto 4, 3) := by decide +kernel
theorem dX2_isWrongPair_17 : decode cX2_isWrongPair 17 = .ok (.iconst 0, 1) := by decide +kernel
theorem dX2_isWrongPair_18 : decode cX2_isWrongPair 18 = .ok (.ireturn, 1) := by decide +kernel
set_option maxRecDepth 20000 in
theorem ggX2_firstWrongPair_X2_wrongEntries : GoodIn wsX2_firstWrongPair wsX2_wrongEntries := goodIn_r _ [5, 6, 7, 8, 9, 4, 10, 11, 12, 13, 14, 15, 16, 17, 18, 31, 32, 33, 34, 35] (by decide +kernel) (by decide +kernel)
set_option maxRecDepth 20000 in
theorem gX2_firstWrongPair_X2_wrongEntries : GoodIn wsX2_firstWrongPair (wsV RX2 71 RX2 yX2_wrongEntries wsX2_wrongEntries) := goodIn_app (goodIn_of _ (by decide +kernel)) ggX2_firstWrongPair_X2_wrongEntries
set_option maxRecDepth 20000 in
theorem ggX2_firstWrongPair_X2_greatest : GoodIn wsX2_firstWrongPair wsX2_greatest := goodIn_r _ [14, 15, 31, 32, 33, 34, 35] (by decide +kernel) (by decide +kernel)
set_option maxRecDepth 20000 in
theorem gX2_firstWrongPair_X2_greatest : GoodIn wsX2_firstWrongPair (wsV RX2 53 RX2 yX2_greatest wsX2_greatest) := goodIn_app (goodIn_of _ (by decide +kernel)) ggX2_firstWrongPair_X2_greatest
set_option maxRecDepth 20000 in
theorem ggX2_firstWrongPair_X2_isWrongPair : GoodIn wsX2_firstWrongPair wsX2_isWrongPair := goodIn_r _ [22, 23, 24, 25, 4, 26, 6, 27, 28, 29, 30, 31, 32, 33, 34, 35] (by decide +kernel) (by decide +kernel)
set_option maxRecDepth 20000 in
theorem gX2_firstWrongPair_X2_isWrongPair : GoodIn wsX2_firstWrongPair (wsV RX2 89 RX2 yX2_isWrongPair wsX2_isWrongPair) := goodIn_app (goodIn_of _ (by decide +kernel)) ggX2_firstWrongPair_X2_isWrongPair
theorem dX2_firstWrongPair_0 : decode cX2_firstWrongPair 0 = .ok (.aload_n 0, 1) := by decide +kernel
theorem dX2_firstWrongPair_1 : decode cX2_firstWrongPair 1 = .ok (.invokevirtual 71, 3) := by decide +kernel
theorem dX2_firstWrongPair_4 : decode cX2_firstWrongPair 4 = .ok (.ifCond .ne 5, 3) := by decide +kernel
theorem dX2_firstWrongPair_7 : decode cX2_firstWrongPair 7 = .ok (.iconst (-1), 1) := by decide +kernel
theorem dX2_firstWrongPair_8 : decode cX2_firstWrongPair 8 = .ok (.ireturn, 1) := by decide +kernel
theorem dX2_firstWrongPair_9 : decode cX2_firstWrongPair 9 = .ok (.iconst 0, 1) := by decide +kernel
theorem dX2_firstWrongPair_10 : decode cX2_firstWrongPair 10 = .ok (.istore_n 1, 1) := by decide +kernel
theorem dX2_firstWrongPair_11 : decode cX2_firstWrongPair 11 = .ok (.iload_n 1, 1) := by decide +kernel
theorem dX2_firstWrongPair_12 : decode cX2_firstWrongPair 12 = .ok (.aload_n 0, 1) := by decide +kernel
theorem dX2_firstWrongPair_13 : decode cX2_firstWrongPair 13 = .ok (.invokevirtual 53, 3) := by decide +kernel
theorem dX2_firstWrongPair_16 : decode cX2_firstWrongPair 16 = .ok (.if_icmp .gt 42, 3) := by decide +kernel
theorem dX2_firstWrongPair_19 : decode cX2_firstWrongPair 19 = .ok (.iconst 0, 1) := by decide +kernel
theorem dX2_firstWrongPair_20 : decode cX2_firstWrongPair 20 = .ok (.istore_n 2, 1) := by decide +kernel
theorem dX2_firstWrongPair_21 : decode cX2_firstWrongPair 21 = .ok (.iload_n 2, 1) := by decide +kernel
theorem dX2_firstWrongPair_22 : decode cX2_firstWrongPair 22 = .ok (.aload_n 0, 1) := by decide +kernel
theorem dX2_firstWrongPair_23 : decode cX2_firstWrongPair 23 = .ok (.invokevirtual 53, 3) := by decide +kernel
theorem dX2_firstWrongPair_26 : decode cX2_firstWrongPair 26 = .ok (.if_icmp .gt 26, 3) := by decide +kernel
theorem dX2_firstWrongPair_29 : decode cX2_firstWrongPair 29 = .ok (.aload_n 0, 1) := by decide +kernel
theorem dX2_firstWrongPair_30 : decode cX2_firstWrongPair 30 = .ok (.iload_n 1, 1) := by decide +kernel
theorem dX2_firstWrongPair_31 : decode cX2_firstWrongPair 31 = .ok (.iload_n 2, 1) := by decide +kernel
theorem dX2_firstWrongPair_32 : decode cX2_firstWrongPair 32 = .ok (.invokevirtual 89, 3) := by decide +kernel
theorem dX2_firstWrongPair_35 : decode cX2_firstWrongPair 35 = .ok (.ifCond .eq 11, 3) := by decide +kernel
theorem dX2_firstWrongPair_38 : decode cX2_firstWrongPair 38 = .ok (.sipush 1000, 3) := by decide +kernel
theorem dX2_firstWrongPair_41 : decode cX2_firstWrongPair 41 = .ok (.iload_n 1, 1) := by decide +kernel
theorem dX2_firstWrongPair_42 : decode cX2_firstWrongPair 42 = .ok (.imul, 1) := by decide +kernel
theorem dX2_firstWrongPair_43 : decode cX2_firstWrongPair 43 = .ok (.iload_n 2, 1) := by decide +kernel
theorem dX2_firstWrongPair_44 : decode cX2_firstWrongPair 44 = .ok (.iadd, 1) := by decide +kernel
theorem dX2_firstWrongPair_45 : decode cX2_firstWrongPair 45 = .ok (.ireturn, 1) := by decide +kernel
theorem dX2_firstWrongPair_46 : decode cX2_firstWrongPair 46 = .ok (.iinc 2 1, 3) := by decide +kernel
theorem dX2_firstWrongPair_49 : decode cX2_firstWrongPair 49 = .ok (.goto (-28), 3) := by decide +kernel
theorem dX2_firstWrongPair_52 : decode cX2_firstWrongPair 52 = .ok (.iinc 1 1, 3) := by decide +kernel
theorem dX2_firstWrongPair_55 : decode cX2_firstWrongPair 55 = .ok (.goto (-44), 3) := by decide +kernel
theorem dX2_firstWrongPair_58 : decode cX2_firstWrongPair 58 = .ok (.iconst (-1), 1) := by decide +kernel
theorem dX2_firstWrongPair_59 : decode cX2_firstWrongPair 59 = .ok (.ireturn, 1) := by decide +kernel
set_option maxRecDepth 20000 in
theorem ggX2_price_X2_powersPrice : GoodIn wsX2_price wsX2_powersPrice := goodIn_r _ [6, 1, 7, 8, 9, 10, 11, 12, 13, 14, 15, 16, 17, 18] (by decide +kernel) (by decide +kernel)
set_option maxRecDepth 20000 in
theorem gX2_price_X2_powersPrice : GoodIn wsX2_price (wsV RX2 93 RX2 yX2_powersPrice wsX2_powersPrice) := goodIn_app (goodIn_of _ (by decide +kernel)) ggX2_price_X2_powersPrice
theorem dX2_price_0 : decode cX2_price 0 = .ok (.iload_n 2, 1) := by decide +kernel
theorem dX2_price_1 : decode cX2_price 1 = .ok (.ifCond .ne 21, 3) := by decide +kernel
theorem dX2_price_4 : decode cX2_price 4 = .ok (.iconst 2, 1) := by decide +kernel
theorem dX2_price_5 : decode cX2_price 5 = .ok (.aload_n 0, 1) := by decide +kernel
theorem dX2_price_6 : decode cX2_price 6 = .ok (.getfield 9, 3) := by decide +kernel
theorem dX2_price_9 : decode cX2_price 9 = .ok (.iconst 0, 1) := by decide +kernel
theorem dX2_price_10 : decode cX2_price 10 = .ok (.iaload, 1) := by decide +kernel
theorem dX2_price_11 : decode cX2_price 11 = .ok (.imul, 1) := by decide +kernel
theorem dX2_price_12 : decode cX2_price 12 = .ok (.iconst 3, 1) := by decide +kernel
theorem dX2_price_13 : decode cX2_price 13 = .ok (.aload_n 0, 1) := by decide +kernel
theorem dX2_price_14 : decode cX2_price 14 = .ok (.getfield 9, 3) := by decide +kernel
theorem dX2_price_17 : decode cX2_price 17 = .ok (.iconst 1, 1) := by decide +kernel
theorem dX2_price_18 : decode cX2_price 18 = .ok (.iaload, 1) := by decide +kernel
theorem dX2_price_19 : decode cX2_price 19 = .ok (.imul, 1) := by decide +kernel
theorem dX2_price_20 : decode cX2_price 20 = .ok (.iadd, 1) := by decide +kernel
theorem dX2_price_21 : decode cX2_price 21 = .ok (.ireturn, 1) := by decide +kernel
theorem dX2_price_22 : decode cX2_price 22 = .ok (.aload_n 0, 1) := by decide +kernel
theorem dX2_price_23 : decode cX2_price 23 = .ok (.iload_n 2, 1) := by decide +kernel
theorem dX2_price_24 : decode cX2_price 24 = .ok (.iconst 1, 1) := by decide +kernel
theorem dX2_price_25 : decode cX2_price 25 = .ok (.if_icmp .ne 7, 3) := by decide +kernel
theorem dX2_price_28 : decode cX2_price 28 = .ok (.iload_n 1, 1) := by decide +kernel
theorem dX2_price_29 : decode cX2_price 29 = .ok (.goto 8, 3) := by decide +kernel
theorem dX2_price_32 : decode cX2_price 32 = .ok (.iload_n 1, 1) := by decide +kernel
theorem dX2_price_33 : decode cX2_price 33 = .ok (.iload_n 1, 1) := by decide +kernel
theorem dX2_price_34 : decode cX2_price 34 = .ok (.iconst 1, 1) := by decide +kernel
theorem dX2_price_35 : decode cX2_price 35 = .ok (.ishl, 1) := by decide +kernel
theorem dX2_price_36 : decode cX2_price 36 = .ok (.ixor, 1) := by decide +kernel
theorem dX2_price_37 : decode cX2_price 37 = .ok (.invokevirtual 93, 3) := by decide +kernel
theorem dX2_price_40 : decode cX2_price 40 = .ok (.ireturn, 1) := by decide +kernel
set_option maxRecDepth 20000 in
theorem ggX2_powersPrice_J6_bitCount_0f7a4 : GoodIn wsX2_powersPrice wsJ6_bitCount_0f7a4 := goodIn_r _ [5, 6, 7, 8] (by decide +kernel) (by decide +kernel)
set_option maxRecDepth 20000 in
theorem gX2_powersPrice_J6_bitCount_0f7a4 : GoodIn wsX2_powersPrice (va_wsS RX2 56 yJ6_bitCount_0f7a4 wsJ6_bitCount_0f7a4) := goodIn_app (goodIn_of _ (by decide +kernel)) ggX2_powersPrice_J6_bitCount_0f7a4
theorem dX2_powersPrice_0 : decode cX2_powersPrice 0 = .ok (.iconst 0, 1) := by decide +kernel
theorem dX2_powersPrice_1 : decode cX2_powersPrice 1 = .ok (.istore_n 2, 1) := by decide +kernel
theorem dX2_powersPrice_2 : decode cX2_powersPrice 2 = .ok (.iconst 1, 1) := by decide +kernel
theorem dX2_powersPrice_3 : decode cX2_powersPrice 3 = .ok (.istore_n 3, 1) := by decide +kernel
theorem dX2_powersPrice_4 : decode cX2_powersPrice 4 = .ok (.iload_n 3, 1) := by decide +kernel
theorem dX2_powersPrice_5 : decode cX2_powersPrice 5 = .ok (.bipush 8, 2) := by decide +kernel
theorem dX2_powersPrice_7 : decode cX2_powersPrice 7 = .ok (.if_icmp .gt 20, 3) := by decide +kernel
theorem dX2_powersPrice_10 : decode cX2_powersPrice 10 = .ok (.iload_n 1, 1) := by decide +kernel
theorem dX2_powersPrice_11 : decode cX2_powersPrice 11 = .ok (.iload_n 3, 1) := by decide +kernel
theorem dX2_powersPrice_12 : decode cX2_powersPrice 12 = .ok (.ishr, 1) := by decide +kernel
theorem dX2_powersPrice_13 : decode cX2_powersPrice 13 = .ok (.iconst 1, 1) := by decide +kernel
theorem dX2_powersPrice_14 : decode cX2_powersPrice 14 = .ok (.iand, 1) := by decide +kernel
theorem dX2_powersPrice_15 : decode cX2_powersPrice 15 = .ok (.iconst 1, 1) := by decide +kernel
theorem dX2_powersPrice_16 : decode cX2_powersPrice 16 = .ok (.if_icmp .ne 5, 3) := by decide +kernel
theorem dX2_powersPrice_19 : decode cX2_powersPrice 19 = .ok (.iload_n 3, 1) := by decide +kernel
theorem dX2_powersPrice_20 : decode cX2_powersPrice 20 = .ok (.istore_n 2, 1) := by decide +kernel
theorem dX2_powersPrice_21 : decode cX2_powersPrice 21 = .ok (.iinc 3 1, 3) := by decide +kernel
theorem dX2_powersPrice_24 : decode cX2_powersPrice 24 = .ok (.goto (-20), 3) := by decide +kernel
theorem dX2_powersPrice_27 : decode cX2_powersPrice 27 = .ok (.iload_n 1, 1) := by decide +kernel
theorem dX2_powersPrice_28 : decode cX2_powersPrice 28 = .ok (.invokestatic 56, 3) := by decide +kernel
theorem dX2_powersPrice_31 : decode cX2_powersPrice 31 = .ok (.aload_n 0, 1) := by decide +kernel
theorem dX2_powersPrice_32 : decode cX2_powersPrice 32 = .ok (.getfield 9, 3) := by decide +kernel
theorem dX2_powersPrice_35 : decode cX2_powersPrice 35 = .ok (.iconst 1, 1) := by decide +kernel
theorem dX2_powersPrice_36 : decode cX2_powersPrice 36 = .ok (.iaload, 1) := by decide +kernel
theorem dX2_powersPrice_37 : decode cX2_powersPrice 37 = .ok (.imul, 1) := by decide +kernel
theorem dX2_powersPrice_38 : decode cX2_powersPrice 38 = .ok (.iload_n 2, 1) := by decide +kernel
theorem dX2_powersPrice_39 : decode cX2_powersPrice 39 = .ok (.aload_n 0, 1) := by decide +kernel
theorem dX2_powersPrice_40 : decode cX2_powersPrice 40 = .ok (.getfield 9, 3) := by decide +kernel
theorem dX2_powersPrice_43 : decode cX2_powersPrice 43 = .ok (.iconst 2, 1) := by decide +kernel
theorem dX2_powersPrice_44 : decode cX2_powersPrice 44 = .ok (.iaload, 1) := by decide +kernel
theorem dX2_powersPrice_45 : decode cX2_powersPrice 45 = .ok (.imul, 1) := by decide +kernel
theorem dX2_powersPrice_46 : decode cX2_powersPrice 46 = .ok (.iadd, 1) := by decide +kernel
theorem dX2_powersPrice_47 : decode cX2_powersPrice 47 = .ok (.ireturn, 1) := by decide +kernel
set_option maxRecDepth 20000 in
theorem ggX2_execute_X2_greatest : GoodIn wsX2_execute wsX2_greatest := goodIn_r _ [6, 7, 47, 48, 49, 50, 51] (by decide +kernel) (by decide +kernel)
set_option maxRecDepth 20000 in
theorem gX2_execute_X2_greatest : GoodIn wsX2_execute (wsV RX2 53 RX2 yX2_greatest wsX2_greatest) := goodIn_app (goodIn_of _ (by decide +kernel)) ggX2_execute_X2_greatest
set_option maxRecDepth 20000 in
theorem ggX2_execute_X2_result : GoodIn wsX2_execute wsX2_result := goodIn_r _ [11, 12, 13, 14, 15, 16, 17, 5, 18, 19, 20, 21, 22, 23, 24, 25, 26, 47, 48, 49, 50, 51] (by decide +kernel) (by decide +kernel)
set_option maxRecDepth 20000 in
theorem gX2_execute_X2_result : GoodIn wsX2_execute (wsV RX2 96 RX2 yX2_result wsX2_result) := goodIn_app (goodIn_of _ (by decide +kernel)) ggX2_execute_X2_result
set_option maxRecDepth 20000 in
theorem ggX2_execute_X2_statementPrice : GoodIn wsX2_execute wsX2_statementPrice := goodIn_r _ [30, 31, 12, 13, 14, 15, 16, 17, 5, 18, 32, 33, 34, 35, 36, 37, 38, 39, 40, 41, 42, 43, 44, 45, 46, 47, 48, 49, 50, 51] (by decide +kernel) (by decide +kernel)
set_option maxRecDepth 20000 in
theorem gX2_execute_X2_statementPrice : GoodIn wsX2_execute (wsV RX2 99 RX2 yX2_statementPrice wsX2_statementPrice) := goodIn_app (goodIn_of _ (by decide +kernel)) ggX2_execute_X2_statementPrice
theorem dX2_execute_0 : decode cX2_execute 0 = .ok (.iload_n 2, 1) := by decide +kernel
theorem dX2_execute_1 : decode cX2_execute 1 = .ok (.bipush 61, 2) := by decide +kernel
theorem dX2_execute_3 : decode cX2_execute 3 = .ok (.if_icmp .ne 17, 3) := by decide +kernel
theorem dX2_execute_6 : decode cX2_execute 6 = .ok (.aload_n 0, 1) := by decide +kernel
theorem dX2_execute_7 : decode cX2_execute 7 = .ok (.getfield 18, 3) := by decide +kernel
theorem dX2_execute_10 : decode cX2_execute 10 = .ok (.iload_n 1, 1) := by decide +kernel
theorem dX2_execute_11 : decode cX2_execute 11 = .ok (.iload_n 3, 1) := by decide +kernel
theorem dX2_execute_12 : decode cX2_execute 12 = .ok (.aload_n 0, 1) := by decide +kernel
theorem dX2_execute_13 : decode cX2_execute 13 = .ok (.invokevirtual 53, 3) := by decide +kernel
theorem dX2_execute_16 : decode cX2_execute 16 = .ok (.iand, 1) := by decide +kernel
theorem dX2_execute_17 : decode cX2_execute 17 = .ok (.iastore, 1) := by decide +kernel
theorem dX2_execute_18 : decode cX2_execute 18 = .ok (.iconst 0, 1) := by decide +kernel
theorem dX2_execute_19 : decode cX2_execute 19 = .ok (.ireturn, 1) := by decide +kernel
theorem dX2_execute_20 : decode cX2_execute 20 = .ok (.aload_n 0, 1) := by decide +kernel
theorem dX2_execute_21 : decode cX2_execute 21 = .ok (.getfield 18, 3) := by decide +kernel
theorem dX2_execute_24 : decode cX2_execute 24 = .ok (.iload_n 3, 1) := by decide +kernel
theorem dX2_execute_25 : decode cX2_execute 25 = .ok (.iaload, 1) := by decide +kernel
theorem dX2_execute_26 : decode cX2_execute 26 = .ok (.istore 5, 2) := by decide +kernel
theorem dX2_execute_28 : decode cX2_execute 28 = .ok (.aload_n 0, 1) := by decide +kernel
theorem dX2_execute_29 : decode cX2_execute 29 = .ok (.getfield 18, 3) := by decide +kernel
theorem dX2_execute_32 : decode cX2_execute 32 = .ok (.iload 4, 2) := by decide +kernel
theorem dX2_execute_34 : decode cX2_execute 34 = .ok (.iaload, 1) := by decide +kernel
theorem dX2_execute_35 : decode cX2_execute 35 = .ok (.istore 6, 2) := by decide +kernel
theorem dX2_execute_37 : decode cX2_execute 37 = .ok (.aload_n 0, 1) := by decide +kernel
theorem dX2_execute_38 : decode cX2_execute 38 = .ok (.getfield 18, 3) := by decide +kernel
theorem dX2_execute_41 : decode cX2_execute 41 = .ok (.iload_n 1, 1) := by decide +kernel
theorem dX2_execute_42 : decode cX2_execute 42 = .ok (.aload_n 0, 1) := by decide +kernel
theorem dX2_execute_43 : decode cX2_execute 43 = .ok (.iload 5, 2) := by decide +kernel
theorem dX2_execute_45 : decode cX2_execute 45 = .ok (.iload_n 2, 1) := by decide +kernel
theorem dX2_execute_46 : decode cX2_execute 46 = .ok (.iload 6, 2) := by decide +kernel
theorem dX2_execute_48 : decode cX2_execute 48 = .ok (.invokevirtual 96, 3) := by decide +kernel
theorem dX2_execute_51 : decode cX2_execute 51 = .ok (.aload_n 0, 1) := by decide +kernel
theorem dX2_execute_52 : decode cX2_execute 52 = .ok (.invokevirtual 53, 3) := by decide +kernel
theorem dX2_execute_55 : decode cX2_execute 55 = .ok (.iand, 1) := by decide +kernel
theorem dX2_execute_56 : decode cX2_execute 56 = .ok (.iastore, 1) := by decide +kernel
theorem dX2_execute_57 : decode cX2_execute 57 = .ok (.aload_n 0, 1) := by decide +kernel
theorem dX2_execute_58 : decode cX2_execute 58 = .ok (.iload_n 2, 1) := by decide +kernel
theorem dX2_execute_59 : decode cX2_execute 59 = .ok (.iload 6, 2) := by decide +kernel
theorem dX2_execute_61 : decode cX2_execute 61 = .ok (.invokevirtual 99, 3) := by decide +kernel
theorem dX2_execute_64 : decode cX2_execute 64 = .ok (.ireturn, 1) := by decide +kernel
set_option maxRecDepth 20000 in
theorem ggX2_result_X2_methodOf : GoodIn wsX2_result wsX2_methodOf := goodIn_r _ [8] (by decide +kernel) (by decide +kernel)
set_option maxRecDepth 20000 in
theorem gX2_result_X2_methodOf : GoodIn wsX2_result (va_wsS RX2 106 yX2_methodOf wsX2_methodOf) := goodIn_app (goodIn_of _ (by decide +kernel)) ggX2_result_X2_methodOf
set_option maxRecDepth 20000 in
theorem ggX2_result_X2_product : GoodIn wsX2_result wsX2_product := goodIn_r _ [12, 13, 14, 15, 3, 16, 17, 18, 19, 20, 21] (by decide +kernel) (by decide +kernel)
set_option maxRecDepth 20000 in
theorem gX2_result_X2_product : GoodIn wsX2_result (wsV RX2 85 RX2 yX2_product wsX2_product) := goodIn_app (goodIn_of _ (by decide +kernel)) ggX2_result_X2_product
theorem dX2_result_0 : decode cX2_result 0 = .ok (.iload_n 2, 1) := by decide +kernel
theorem dX2_result_1 : decode cX2_result 1 = .ok (.lookupswitch 52 #[(43, 35), (45, 39), (62, 43)], 35) := by decide +kernel
theorem dX2_result_36 : decode cX2_result 36 = .ok (.iload_n 1, 1) := by decide +kernel
theorem dX2_result_37 : decode cX2_result 37 = .ok (.iload_n 3, 1) := by decide +kernel
theorem dX2_result_38 : decode cX2_result 38 = .ok (.iadd, 1) := by decide +kernel
theorem dX2_result_39 : decode cX2_result 39 = .ok (.ireturn, 1) := by decide +kernel
theorem dX2_result_40 : decode cX2_result 40 = .ok (.iload_n 1, 1) := by decide +kernel
theorem dX2_result_41 : decode cX2_result 41 = .ok (.iload_n 3, 1) := by decide +kernel
theorem dX2_result_42 : decode cX2_result 42 = .ok (.isub, 1) := by decide +kernel
theorem dX2_result_43 : decode cX2_result 43 = .ok (.ireturn, 1) := by decide +kernel
theorem dX2_result_44 : decode cX2_result 44 = .ok (.iload_n 1, 1) := by decide +kernel
theorem dX2_result_45 : decode cX2_result 45 = .ok (.iload_n 3, 1) := by decide +kernel
theorem dX2_result_46 : decode cX2_result 46 = .ok (.bipush 31, 2) := by decide +kernel
theorem dX2_result_48 : decode cX2_result 48 = .ok (.invokestatic 103, 3) := by decide +kernel
theorem dX2_result_51 : decode cX2_result 51 = .ok (.ishr, 1) := by decide +kernel
theorem dX2_result_52 : decode cX2_result 52 = .ok (.ireturn, 1) := by decide +kernel
theorem dX2_result_53 : decode cX2_result 53 = .ok (.aload_n 0, 1) := by decide +kernel
theorem dX2_result_54 : decode cX2_result 54 = .ok (.iload_n 1, 1) := by decide +kernel
theorem dX2_result_55 : decode cX2_result 55 = .ok (.iload_n 3, 1) := by decide +kernel
theorem dX2_result_56 : decode cX2_result 56 = .ok (.iload_n 2, 1) := by decide +kernel
theorem dX2_result_57 : decode cX2_result 57 = .ok (.invokestatic 106, 3) := by decide +kernel
theorem dX2_result_60 : decode cX2_result 60 = .ok (.invokevirtual 85, 3) := by decide +kernel
theorem dX2_result_63 : decode cX2_result 63 = .ok (.ireturn, 1) := by decide +kernel
set_option maxRecDepth 20000 in
theorem ggX2_statementPrice_X2_methodOf : GoodIn wsX2_statementPrice wsX2_methodOf := goodIn_r _ [9] (by decide +kernel) (by decide +kernel)
set_option maxRecDepth 20000 in
theorem gX2_statementPrice_X2_methodOf : GoodIn wsX2_statementPrice (va_wsS RX2 106 yX2_methodOf wsX2_methodOf) := goodIn_app (goodIn_of _ (by decide +kernel)) ggX2_statementPrice_X2_methodOf
set_option maxRecDepth 20000 in
theorem ggX2_statementPrice_X2_price : GoodIn wsX2_statementPrice wsX2_price := goodIn_r _ [13, 1, 14, 15, 16, 8, 17, 18, 19, 20, 21, 22, 23, 24, 25, 26, 27, 28, 29] (by decide +kernel) (by decide +kernel)
set_option maxRecDepth 20000 in
theorem gX2_statementPrice_X2_price : GoodIn wsX2_statementPrice (wsV RX2 109 RX2 yX2_price wsX2_price) := goodIn_app (goodIn_of _ (by decide +kernel)) ggX2_statementPrice_X2_price
theorem dX2_statementPrice_0 : decode cX2_statementPrice 0 = .ok (.iload_n 1, 1) := by decide +kernel
theorem dX2_statementPrice_1 : decode cX2_statementPrice 1 = .ok (.lookupswitch 56 #[(43, 35), (45, 35), (62, 42)], 35) := by decide +kernel
theorem dX2_statementPrice_36 : decode cX2_statementPrice 36 = .ok (.aload_n 0, 1) := by decide +kernel
theorem dX2_statementPrice_37 : decode cX2_statementPrice 37 = .ok (.getfield 9, 3) := by decide +kernel
theorem dX2_statementPrice_40 : decode cX2_statementPrice 40 = .ok (.iconst 1, 1) := by decide +kernel
theorem dX2_statementPrice_41 : decode cX2_statementPrice 41 = .ok (.iaload, 1) := by decide +kernel
theorem dX2_statementPrice_42 : decode cX2_statementPrice 42 = .ok (.ireturn, 1) := by decide +kernel
theorem dX2_statementPrice_43 : decode cX2_statementPrice 43 = .ok (.iload_n 2, 1) := by decide +kernel
theorem dX2_statementPrice_44 : decode cX2_statementPrice 44 = .ok (.bipush 31, 2) := by decide +kernel
theorem dX2_statementPrice_46 : decode cX2_statementPrice 46 = .ok (.invokestatic 103, 3) := by decide +kernel
theorem dX2_statementPrice_49 : decode cX2_statementPrice 49 = .ok (.aload_n 0, 1) := by decide +kernel
theorem dX2_statementPrice_50 : decode cX2_statementPrice 50 = .ok (.getfield 9, 3) := by decide +kernel
theorem dX2_statementPrice_53 : decode cX2_statementPrice 53 = .ok (.iconst 2, 1) := by decide +kernel
theorem dX2_statementPrice_54 : decode cX2_statementPrice 54 = .ok (.iaload, 1) := by decide +kernel
theorem dX2_statementPrice_55 : decode cX2_statementPrice 55 = .ok (.imul, 1) := by decide +kernel
theorem dX2_statementPrice_56 : decode cX2_statementPrice 56 = .ok (.ireturn, 1) := by decide +kernel
theorem dX2_statementPrice_57 : decode cX2_statementPrice 57 = .ok (.aload_n 0, 1) := by decide +kernel
theorem dX2_statementPrice_58 : decode cX2_statementPrice 58 = .ok (.iload_n 2, 1) := by decide +kernel
theorem dX2_statementPrice_59 : decode cX2_statementPrice 59 = .ok (.iload_n 1, 1) := by decide +kernel
theorem dX2_statementPrice_60 : decode cX2_statementPrice 60 = .ok (.invokestatic 106, 3) := by decide +kernel
theorem dX2_statementPrice_63 : decode cX2_statementPrice 63 = .ok (.invokevirtual 109, 3) := by decide +kernel
theorem dX2_statementPrice_66 : decode cX2_statementPrice 66 = .ok (.ireturn, 1) := by decide +kernel
theorem dX2_methodOf_0 : decode cX2_methodOf 0 = .ok (.iload_n 0, 1) := by decide +kernel
theorem dX2_methodOf_1 : decode cX2_methodOf 1 = .ok (.lookupswitch 31 #[(42, 27), (120, 29)], 27) := by decide +kernel
theorem dX2_methodOf_28 : decode cX2_methodOf 28 = .ok (.iconst 0, 1) := by decide +kernel
theorem dX2_methodOf_29 : decode cX2_methodOf 29 = .ok (.ireturn, 1) := by decide +kernel
theorem dX2_methodOf_30 : decode cX2_methodOf 30 = .ok (.iconst 1, 1) := by decide +kernel
theorem dX2_methodOf_31 : decode cX2_methodOf 31 = .ok (.ireturn, 1) := by decide +kernel
theorem dX2_methodOf_32 : decode cX2_methodOf 32 = .ok (.iconst 2, 1) := by decide +kernel
theorem dX2_methodOf_33 : decode cX2_methodOf 33 = .ok (.ireturn, 1) := by decide +kernel
set_option maxRecDepth 20000 in
theorem ggX3_init_X2_init : GoodIn wsX3_init wsX2_init := goodIn_r _ [20, 21, 2, 3, 16, 22, 23, 24, 25, 26, 27, 6, 28, 29, 30, 31, 32, 33, 34, 35, 36, 37, 38, 39, 40, 41, 42, 43, 44, 45, 62, 63, 64, 65, 66] (by decide +kernel) (by decide +kernel)
set_option maxRecDepth 20000 in
theorem gX3_init_X2_init : GoodIn wsX3_init (wsX2_init) := ggX3_init_X2_init
set_option maxRecDepth 20000 in
theorem ggX3_init_X0_init : GoodIn wsX3_init wsX0_init := goodIn_r _ [48, 49, 2, 3, 50, 51, 5, 6, 52, 19, 20, 21, 16, 22, 23, 24, 25, 26, 27, 28, 29, 30, 31, 32, 33, 34, 35, 36, 37, 38, 39, 40, 41, 42, 43, 44, 45, 71, 72, 73, 62, 63, 64, 65, 66] (by decide +kernel) (by decide +kernel)
set_option maxRecDepth 20000 in
theorem gX3_init_X0_init : GoodIn wsX3_init (wsX0_init) := ggX3_init_X0_init
set_option maxRecDepth 20000 in
theorem ggX3_init_X1_init : GoodIn wsX3_init wsX1_init := goodIn_r _ [55, 56, 2, 3, 16, 57, 58, 59, 60, 61, 74, 75, 76, 77, 78, 79, 80, 81, 82, 83, 84, 85, 86] (by decide +kernel) (by decide +kernel)
set_option maxRecDepth 20000 in
theorem gX3_init_X1_init : GoodIn wsX3_init (wsX1_init) := ggX3_init_X1_init
theorem dX3_init_0 : decode cX3_init 0 = .ok (.aload_n 0, 1) := by decide +kernel
theorem dX3_init_1 : decode cX3_init 1 = .ok (.invokespecial 1, 3) := by decide +kernel
theorem dX3_init_4 : decode cX3_init 4 = .ok (.aload_n 0, 1) := by decide +kernel
theorem dX3_init_5 : decode cX3_init 5 = .ok (.new 7, 3) := by decide +kernel
theorem dX3_init_8 : decode cX3_init 8 = .ok (.dup, 1) := by decide +kernel
theorem dX3_init_9 : decode cX3_init 9 = .ok (.invokespecial 9, 3) := by decide +kernel
theorem dX3_init_12 : decode cX3_init 12 = .ok (.putfield 10, 3) := by decide +kernel
theorem dX3_init_15 : decode cX3_init 15 = .ok (.aload_n 0, 1) := by decide +kernel
theorem dX3_init_16 : decode cX3_init 16 = .ok (.new 16, 3) := by decide +kernel
theorem dX3_init_19 : decode cX3_init 19 = .ok (.dup, 1) := by decide +kernel
theorem dX3_init_20 : decode cX3_init 20 = .ok (.invokespecial 18, 3) := by decide +kernel
theorem dX3_init_23 : decode cX3_init 23 = .ok (.putfield 19, 3) := by decide +kernel
theorem dX3_init_26 : decode cX3_init 26 = .ok (.aload_n 0, 1) := by decide +kernel
theorem dX3_init_27 : decode cX3_init 27 = .ok (.new 23, 3) := by decide +kernel
theorem dX3_init_30 : decode cX3_init 30 = .ok (.dup, 1) := by decide +kernel
theorem dX3_init_31 : decode cX3_init 31 = .ok (.invokespecial 25, 3) := by decide +kernel
theorem dX3_init_34 : decode cX3_init 34 = .ok (.putfield 26, 3) := by decide +kernel
theorem dX3_init_37 : decode cX3_init 37 = .ok (.aload_n 0, 1) := by decide +kernel
theorem dX3_init_38 : decode cX3_init 38 = .ok (.sipush 511, 3) := by decide +kernel
theorem dX3_init_41 : decode cX3_init 41 = .ok (.newarray .int, 2) := by decide +kernel
theorem dX3_init_43 : decode cX3_init 43 = .ok (.putfield 30, 3) := by decide +kernel
theorem dX3_init_46 : decode cX3_init 46 = .ok (.return_, 1) := by decide +kernel
set_option maxRecDepth 20000 in
theorem ggX3_setWidth_X3_demandRange : GoodIn wsX3_setWidth wsX3_demandRange := goodIn_ca (goodIn_r _ [6, 7, 8] (by decide +kernel) (by decide +kernel)) (goodIn_sub (fun _ h => List.mem_cons_of_mem _ (List.mem_append_right _ h)) (by decide +kernel))
set_option maxRecDepth 20000 in
theorem gX3_setWidth_X3_demandRange : GoodIn wsX3_setWidth (va_wsS RX3 34 yX3_demandRange wsX3_demandRange) := goodIn_app (goodIn_of _ (by decide +kernel)) ggX3_setWidth_X3_demandRange
set_option maxRecDepth 20000 in
theorem ggX3_setWidth_X0_keep : GoodIn wsX3_setWidth wsX0_keep := goodIn_r _ [13, 14, 15, 16, 17, 18, 19, 20, 21, 22, 23, 24, 25, 26, 27, 28, 29, 30, 31, 32, 33, 34, 61, 62, 63, 64, 65, 66, 67, 68] (by decide +kernel) (by decide +kernel)
set_option maxRecDepth 20000 in
theorem gX3_setWidth_X0_keep : GoodIn wsX3_setWidth (wsV RX3 38 RX0 yX0_keep wsX0_keep) := goodIn_app (goodIn_of _ (by decide +kernel)) ggX3_setWidth_X0_keep
set_option maxRecDepth 20000 in
theorem ggX3_setWidth_X2_wrongEntries : GoodIn wsX3_setWidth wsX2_wrongEntries := goodIn_r _ [38, 33, 39, 40, 41, 24, 42, 43, 44, 45, 46, 26, 47, 5, 48, 64, 65, 66, 67, 68] (by decide +kernel) (by decide +kernel)
set_option maxRecDepth 20000 in
theorem gX3_setWidth_X2_wrongEntries : GoodIn wsX3_setWidth (wsV RX3 42 RX2 yX2_wrongEntries wsX2_wrongEntries) := goodIn_app (goodIn_of _ (by decide +kernel)) ggX3_setWidth_X2_wrongEntries
set_option maxRecDepth 20000 in
theorem ggX3_setWidth_X2_start : GoodIn wsX3_setWidth wsX2_start := goodIn_r _ [52, 26, 27, 33, 34, 39, 40, 41, 24, 42, 43, 44, 45, 46, 47, 5, 48, 53, 54, 55, 56, 64, 65, 66, 67, 68] (by decide +kernel) (by decide +kernel)
set_option maxRecDepth 20000 in
theorem gX3_setWidth_X2_start : GoodIn wsX3_setWidth (wsV RX3 46 RX2 yX2_start wsX2_start) := goodIn_app (goodIn_of _ (by decide +kernel)) ggX3_setWidth_X2_start
theorem dX3_setWidth_0 : decode cX3_setWidth 0 = .ok (.iload_n 1, 1) := by decide +kernel
theorem dX3_setWidth_1 : decode cX3_setWidth 1 = .ok (.iconst 3, 1) := by decide +kernel
theorem dX3_setWidth_2 : decode cX3_setWidth 2 = .ok (.bipush 8, 2) := by decide +kernel
theorem dX3_setWidth_4 : decode cX3_setWidth 4 = .ok (.invokestatic 34, 3) := by decide +kernel
theorem dX3_setWidth_7 : decode cX3_setWidth 7 = .ok (.aload_n 0, 1) := by decide +kernel
theorem dX3_setWidth_8 : decode cX3_setWidth 8 = .ok (.getfield 19, 3) := by decide +kernel
theorem dX3_setWidth_11 : decode cX3_setWidth 11 = .ok (.aload_n 0, 1) := by decide +kernel
theorem dX3_setWidth_12 : decode cX3_setWidth 12 = .ok (.getfield 10, 3) := by decide +kernel
theorem dX3_setWidth_15 : decode cX3_setWidth 15 = .ok (.invokevirtual 38, 3) := by decide +kernel
theorem dX3_setWidth_18 : decode cX3_setWidth 18 = .ok (.aload_n 0, 1) := by decide +kernel
theorem dX3_setWidth_19 : decode cX3_setWidth 19 = .ok (.getfield 10, 3) := by decide +kernel
theorem dX3_setWidth_22 : decode cX3_setWidth 22 = .ok (.invokevirtual 42, 3) := by decide +kernel
theorem dX3_setWidth_25 : decode cX3_setWidth 25 = .ok (.istore_n 2, 1) := by decide +kernel
theorem dX3_setWidth_26 : decode cX3_setWidth 26 = .ok (.aload_n 0, 1) := by decide +kernel
theorem dX3_setWidth_27 : decode cX3_setWidth 27 = .ok (.getfield 10, 3) := by decide +kernel
theorem dX3_setWidth_30 : decode cX3_setWidth 30 = .ok (.iload_n 1, 1) := by decide +kernel
theorem dX3_setWidth_31 : decode cX3_setWidth 31 = .ok (.invokevirtual 46, 3) := by decide +kernel
theorem dX3_setWidth_34 : decode cX3_setWidth 34 = .ok (.iload_n 2, 1) := by decide +kernel
theorem dX3_setWidth_35 : decode cX3_setWidth 35 = .ok (.ireturn, 1) := by decide +kernel
set_option maxRecDepth 20000 in
theorem ggX3_setCost_X3_demandRange : GoodIn wsX3_setCost wsX3_demandRange := goodIn_ca (goodIn_r _ [7, 8, 9] (by decide +kernel) (by decide +kernel)) (goodIn_sub (fun _ h => List.mem_cons_of_mem _ (List.mem_append_right _ h)) (by decide +kernel))
set_option maxRecDepth 20000 in
theorem gX3_setCost_X3_demandRange : GoodIn wsX3_setCost (va_wsS RX3 34 yX3_demandRange wsX3_demandRange) := goodIn_app (goodIn_of _ (by decide +kernel)) ggX3_setCost_X3_demandRange
set_option maxRecDepth 20000 in
theorem ggX3_setCost_X0_keep : GoodIn wsX3_setCost wsX0_keep := goodIn_r _ [14, 15, 16, 17, 18, 19, 20, 21, 22, 23, 24, 25, 26, 27, 28, 29, 30, 31, 32, 33, 34, 35, 45, 46, 47, 40, 41, 42, 43, 44] (by decide +kernel) (by decide +kernel)
set_option maxRecDepth 20000 in
theorem gX3_setCost_X0_keep : GoodIn wsX3_setCost (wsV RX3 38 RX0 yX0_keep wsX0_keep) := goodIn_app (goodIn_of _ (by decide +kernel)) ggX3_setCost_X0_keep
theorem dX3_setCost_0 : decode cX3_setCost 0 = .ok (.iload_n 1, 1) := by decide +kernel
theorem dX3_setCost_1 : decode cX3_setCost 1 = .ok (.iconst 0, 1) := by decide +kernel
theorem dX3_setCost_2 : decode cX3_setCost 2 = .ok (.iconst 2, 1) := by decide +kernel
theorem dX3_setCost_3 : decode cX3_setCost 3 = .ok (.invokestatic 34, 3) := by decide +kernel
theorem dX3_setCost_6 : decode cX3_setCost 6 = .ok (.iload_n 2, 1) := by decide +kernel
theorem dX3_setCost_7 : decode cX3_setCost 7 = .ok (.iconst 1, 1) := by decide +kernel
theorem dX3_setCost_8 : decode cX3_setCost 8 = .ok (.bipush 50, 2) := by decide +kernel
theorem dX3_setCost_10 : decode cX3_setCost 10 = .ok (.invokestatic 34, 3) := by decide +kernel
theorem dX3_setCost_13 : decode cX3_setCost 13 = .ok (.aload_n 0, 1) := by decide +kernel
theorem dX3_setCost_14 : decode cX3_setCost 14 = .ok (.getfield 19, 3) := by decide +kernel
theorem dX3_setCost_17 : decode cX3_setCost 17 = .ok (.aload_n 0, 1) := by decide +kernel
theorem dX3_setCost_18 : decode cX3_setCost 18 = .ok (.getfield 10, 3) := by decide +kernel
theorem dX3_setCost_21 : decode cX3_setCost 21 = .ok (.invokevirtual 38, 3) := by decide +kernel
theorem dX3_setCost_24 : decode cX3_setCost 24 = .ok (.aload_n 0, 1) := by decide +kernel
theorem dX3_setCost_25 : decode cX3_setCost 25 = .ok (.getfield 10, 3) := by decide +kernel
theorem dX3_setCost_28 : decode cX3_setCost 28 = .ok (.getfield 50, 3) := by decide +kernel
theorem dX3_setCost_31 : decode cX3_setCost 31 = .ok (.iload_n 1, 1) := by decide +kernel
theorem dX3_setCost_32 : decode cX3_setCost 32 = .ok (.iaload, 1) := by decide +kernel
theorem dX3_setCost_33 : decode cX3_setCost 33 = .ok (.istore_n 3, 1) := by decide +kernel
theorem dX3_setCost_34 : decode cX3_setCost 34 = .ok (.aload_n 0, 1) := by decide +kernel
theorem dX3_setCost_35 : decode cX3_setCost 35 = .ok (.getfield 10, 3) := by decide +kernel
theorem dX3_setCost_38 : decode cX3_setCost 38 = .ok (.getfield 50, 3) := by decide +kernel
theorem dX3_setCost_41 : decode cX3_setCost 41 = .ok (.iload_n 1, 1) := by decide +kernel
theorem dX3_setCost_42 : decode cX3_setCost 42 = .ok (.iload_n 2, 1) := by decide +kernel
theorem dX3_setCost_43 : decode cX3_setCost 43 = .ok (.iastore, 1) := by decide +kernel
theorem dX3_setCost_44 : decode cX3_setCost 44 = .ok (.iload_n 3, 1) := by decide +kernel
theorem dX3_setCost_45 : decode cX3_setCost 45 = .ok (.ireturn, 1) := by decide +kernel
set_option maxRecDepth 20000 in
theorem ggX3_flip_X3_demandEntry : GoodIn wsX3_flip wsX3_demandEntry := goodIn_ca (goodIn_r _ [8, 9, 10, 2, 11, 12, 13, 14, 15, 16, 17, 18, 19, 20, 50, 51, 52, 53, 54, 55, 56, 57, 58] (by decide +kernel) (by decide +kernel)) (goodIn_sub (fun _ h => List.mem_cons_of_mem _ (List.mem_append_left _ (List.mem_append_right _ h))) (by decide +kernel))
set_option maxRecDepth 20000 in
theorem gX3_flip_X3_demandEntry : GoodIn wsX3_flip (wsV RX3 53 RX3 yX3_demandEntry wsX3_demandEntry) := goodIn_app (goodIn_of _ (by decide +kernel)) ggX3_flip_X3_demandEntry
set_option maxRecDepth 20000 in
theorem ggX3_flip_X3_demandRange : GoodIn wsX3_flip wsX3_demandRange := goodIn_ca (goodIn_r _ [23, 24, 25] (by decide +kernel) (by decide +kernel)) (goodIn_sub (fun _ h => List.mem_cons_of_mem _ (List.mem_append_right _ h)) (by decide +kernel))
set_option maxRecDepth 20000 in
theorem gX3_flip_X3_demandRange : GoodIn wsX3_flip (va_wsS RX3 34 yX3_demandRange wsX3_demandRange) := goodIn_app (goodIn_of _ (by decide +kernel)) ggX3_flip_X3_demandRange
set_option maxRecDepth 20000 in
theorem ggX3_flip_X0_keep : GoodIn wsX3_flip wsX0_keep := goodIn_r _ [30, 31, 32, 33, 34, 35, 36, 37, 38, 39, 40, 14, 41, 20, 42, 43, 44, 45, 46, 47, 48, 49, 59, 60, 61, 54, 55, 56, 57, 58] (by decide +kernel) (by decide +kernel)
set_option maxRecDepth 20000 in
theorem gX3_flip_X0_keep : GoodIn wsX3_flip (wsV RX3 38 RX0 yX0_keep wsX0_keep) := goodIn_app (goodIn_of _ (by decide +kernel)) ggX3_flip_X0_keep
theorem dX3_flip_0 : decode cX3_flip 0 = .ok (.aload_n 0, 1) := by decide +kernel
theorem dX3_flip_1 : decode cX3_flip 1 = .ok (.iload_n 1, 1) := by decide +kernel
theorem dX3_flip_2 : decode cX3_flip 2 = .ok (.invokevirtual 53, 3) := by decide +kernel
theorem dX3_flip_5 : decode cX3_flip 5 = .ok (.iload_n 2, 1) := by decide +kernel
theorem dX3_flip_6 : decode cX3_flip 6 = .ok (.iconst 0, 1) := by decide +kernel
theorem dX3_flip_7 : decode cX3_flip 7 = .ok (.bipush 16, 2) := by decide +kernel
theorem dX3_flip_9 : decode cX3_flip 9 = .ok (.invokestatic 34, 3) := by decide +kernel
theorem dX3_flip_12 : decode cX3_flip 12 = .ok (.aload_n 0, 1) := by decide +kernel
theorem dX3_flip_13 : decode cX3_flip 13 = .ok (.getfield 19, 3) := by decide +kernel
theorem dX3_flip_16 : decode cX3_flip 16 = .ok (.aload_n 0, 1) := by decide +kernel
theorem dX3_flip_17 : decode cX3_flip 17 = .ok (.getfield 10, 3) := by decide +kernel
theorem dX3_flip_20 : decode cX3_flip 20 = .ok (.invokevirtual 38, 3) := by decide +kernel
theorem dX3_flip_23 : decode cX3_flip 23 = .ok (.aload_n 0, 1) := by decide +kernel
theorem dX3_flip_24 : decode cX3_flip 24 = .ok (.getfield 10, 3) := by decide +kernel
theorem dX3_flip_27 : decode cX3_flip 27 = .ok (.getfield 56, 3) := by decide +kernel
theorem dX3_flip_30 : decode cX3_flip 30 = .ok (.iload_n 1, 1) := by decide +kernel
theorem dX3_flip_31 : decode cX3_flip 31 = .ok (.dup2, 1) := by decide +kernel
theorem dX3_flip_32 : decode cX3_flip 32 = .ok (.iaload, 1) := by decide +kernel
theorem dX3_flip_33 : decode cX3_flip 33 = .ok (.iconst 1, 1) := by decide +kernel
theorem dX3_flip_34 : decode cX3_flip 34 = .ok (.iload_n 2, 1) := by decide +kernel
theorem dX3_flip_35 : decode cX3_flip 35 = .ok (.ishl, 1) := by decide +kernel
theorem dX3_flip_36 : decode cX3_flip 36 = .ok (.ixor, 1) := by decide +kernel
theorem dX3_flip_37 : decode cX3_flip 37 = .ok (.iastore, 1) := by decide +kernel
theorem dX3_flip_38 : decode cX3_flip 38 = .ok (.aload_n 0, 1) := by decide +kernel
theorem dX3_flip_39 : decode cX3_flip 39 = .ok (.getfield 10, 3) := by decide +kernel
theorem dX3_flip_42 : decode cX3_flip 42 = .ok (.getfield 56, 3) := by decide +kernel
theorem dX3_flip_45 : decode cX3_flip 45 = .ok (.iload_n 1, 1) := by decide +kernel
theorem dX3_flip_46 : decode cX3_flip 46 = .ok (.iaload, 1) := by decide +kernel
theorem dX3_flip_47 : decode cX3_flip 47 = .ok (.ireturn, 1) := by decide +kernel
set_option maxRecDepth 20000 in
theorem ggX3_repair_X3_demandEntry : GoodIn wsX3_repair wsX3_demandEntry := goodIn_ca (goodIn_r _ [8, 9, 10, 2, 11, 12, 13, 14, 15, 16, 17, 18, 19, 20, 59, 60, 61, 62, 63, 64, 65, 66, 67] (by decide +kernel) (by decide +kernel)) (goodIn_sub (fun _ h => List.mem_cons_of_mem _ (List.mem_append_right _ h)) (by decide +kernel))
set_option maxRecDepth 20000 in
theorem gX3_repair_X3_demandEntry : GoodIn wsX3_repair (wsV RX3 53 RX3 yX3_demandEntry wsX3_demandEntry) := goodIn_app (goodIn_of _ (by decide +kernel)) ggX3_repair_X3_demandEntry
set_option maxRecDepth 20000 in
theorem ggX3_repair_X0_keep : GoodIn wsX3_repair wsX0_keep := goodIn_r _ [25, 26, 27, 28, 29, 30, 31, 32, 33, 34, 35, 14, 36, 20, 37, 38, 39, 40, 41, 42, 43, 44, 68, 69, 70, 63, 64, 65, 66, 67] (by decide +kernel) (by decide +kernel)
set_option maxRecDepth 20000 in
theorem gX3_repair_X0_keep : GoodIn wsX3_repair (wsV RX3 38 RX0 yX0_keep wsX0_keep) := goodIn_app (goodIn_of _ (by decide +kernel)) ggX3_repair_X0_keep
set_option maxRecDepth 20000 in
theorem ggX3_repair_X2_wrongBits : GoodIn wsX3_repair wsX2_wrongBits := goodIn_r _ [48, 43, 49, 7, 50, 51, 52, 53, 54, 55, 56, 57, 63, 64, 65, 66, 67] (by decide +kernel) (by decide +kernel)
set_option maxRecDepth 20000 in
theorem gX3_repair_X2_wrongBits : GoodIn wsX3_repair (wsV RX3 59 RX2 yX2_wrongBits wsX2_wrongBits) := goodIn_app (goodIn_of _ (by decide +kernel)) ggX3_repair_X2_wrongBits
set_option maxRecDepth 20000 in
theorem ggX3_repair_X3_trueValue : GoodIn wsX3_repair wsX3_trueValue := goodIn_r _ [50] (by decide +kernel) (by decide +kernel)
set_option maxRecDepth 20000 in
theorem gX3_repair_X3_trueValue : GoodIn wsX3_repair (va_wsS RX3 63 yX3_trueValue wsX3_trueValue) := goodIn_app (goodIn_of _ (by decide +kernel)) ggX3_repair_X3_trueValue
theorem dX3_repair_0 : decode cX3_repair 0 = .ok (.aload_n 0, 1) := by decide +kernel
theorem dX3_repair_1 : decode cX3_repair 1 = .ok (.iload_n 1, 1) := by decide +kernel
theorem dX3_repair_2 : decode cX3_repair 2 = .ok (.invokevirtual 53, 3) := by decide +kernel
theorem dX3_repair_5 : decode cX3_repair 5 = .ok (.aload_n 0, 1) := by decide +kernel
theorem dX3_repair_6 : decode cX3_repair 6 = .ok (.getfield 19, 3) := by decide +kernel
theorem dX3_repair_9 : decode cX3_repair 9 = .ok (.aload_n 0, 1) := by decide +kernel
theorem dX3_repair_10 : decode cX3_repair 10 = .ok (.getfield 10, 3) := by decide +kernel
theorem dX3_repair_13 : decode cX3_repair 13 = .ok (.invokevirtual 38, 3) := by decide +kernel
theorem dX3_repair_16 : decode cX3_repair 16 = .ok (.aload_n 0, 1) := by decide +kernel
theorem dX3_repair_17 : decode cX3_repair 17 = .ok (.getfield 10, 3) := by decide +kernel
theorem dX3_repair_20 : decode cX3_repair 20 = .ok (.iload_n 1, 1) := by decide +kernel
theorem dX3_repair_21 : decode cX3_repair 21 = .ok (.invokevirtual 59, 3) := by decide +kernel
theorem dX3_repair_24 : decode cX3_repair 24 = .ok (.istore_n 2, 1) := by decide +kernel
theorem dX3_repair_25 : decode cX3_repair 25 = .ok (.aload_n 0, 1) := by decide +kernel
theorem dX3_repair_26 : decode cX3_repair 26 = .ok (.getfield 10, 3) := by decide +kernel
theorem dX3_repair_29 : decode cX3_repair 29 = .ok (.getfield 56, 3) := by decide +kernel
theorem dX3_repair_32 : decode cX3_repair 32 = .ok (.iload_n 1, 1) := by decide +kernel
theorem dX3_repair_33 : decode cX3_repair 33 = .ok (.iload_n 1, 1) := by decide +kernel
theorem dX3_repair_34 : decode cX3_repair 34 = .ok (.invokestatic 63, 3) := by decide +kernel
theorem dX3_repair_37 : decode cX3_repair 37 = .ok (.iastore, 1) := by decide +kernel
theorem dX3_repair_38 : decode cX3_repair 38 = .ok (.iload_n 2, 1) := by decide +kernel
theorem dX3_repair_39 : decode cX3_repair 39 = .ok (.ireturn, 1) := by decide +kernel
set_option maxRecDepth 20000 in
theorem ggX3_repairByParity_X0_keep : GoodIn wsX3_repairByParity wsX0_keep := goodIn_r _ [8, 9, 10, 11, 12, 13, 14, 15, 16, 17, 18, 19, 20, 21, 22, 23, 24, 25, 26, 27, 28, 29, 64, 65, 66, 59, 60, 61, 62, 63] (by decide +kernel) (by decide +kernel)
set_option maxRecDepth 20000 in
theorem gX3_repairByParity_X0_keep : GoodIn wsX3_repairByParity (wsV RX3 38 RX0 yX0_keep wsX0_keep) := goodIn_app (goodIn_of _ (by decide +kernel)) ggX3_repairByParity_X0_keep
set_option maxRecDepth 20000 in
theorem ggX3_repairByParity_X2_entries : GoodIn wsX3_repairByParity wsX2_entries := goodIn_r _ [33, 34, 35, 36, 19, 37, 21, 59, 60, 61, 62, 63] (by decide +kernel) (by decide +kernel)
set_option maxRecDepth 20000 in
theorem gX3_repairByParity_X2_entries : GoodIn wsX3_repairByParity (wsV RX3 66 RX2 yX2_entries wsX2_entries) := goodIn_app (goodIn_of _ (by decide +kernel)) ggX3_repairByParity_X2_entries
set_option maxRecDepth 20000 in
theorem ggX3_repairByParity_X2_hasStoredParity : GoodIn wsX3_repairByParity wsX2_hasStoredParity := goodIn_r _ [41, 28, 42, 43, 44, 45, 46, 47, 48, 49, 50, 51, 52, 53, 59, 60, 61, 62, 63] (by decide +kernel) (by decide +kernel)
set_option maxRecDepth 20000 in
theorem gX3_repairByParity_X2_hasStoredParity : GoodIn wsX3_repairByParity (wsV RX3 69 RX2 yX2_hasStoredParity wsX2_hasStoredParity) := goodIn_app (goodIn_of _ (by decide +kernel)) ggX3_repairByParity_X2_hasStoredParity
set_option maxRecDepth 20000 in
theorem ggX3_repairByParity_X3_trueValue : GoodIn wsX3_repairByParity wsX3_trueValue := goodIn_r _ [53] (by decide +kernel) (by decide +kernel)
set_option maxRecDepth 20000 in
theorem gX3_repairByParity_X3_trueValue : GoodIn wsX3_repairByParity (va_wsS RX3 63 yX3_trueValue wsX3_trueValue) := goodIn_app (goodIn_of _ (by decide +kernel)) ggX3_repairByParity_X3_trueValue
theorem dX3_repairByParity_0 : decode cX3_repairByParity 0 = .ok (.aload_n 0, 1) := by decide +kernel
theorem dX3_repairByParity_1 : decode cX3_repairByParity 1 = .ok (.getfield 19, 3) := by decide +kernel
theorem dX3_repairByParity_4 : decode cX3_repairByParity 4 = .ok (.aload_n 0, 1) := by decide +kernel
theorem dX3_repairByParity_5 : decode cX3_repairByParity 5 = .ok (.getfield 10, 3) := by decide +kernel
theorem dX3_repairByParity_8 : decode cX3_repairByParity 8 = .ok (.invokevirtual 38, 3) := by decide +kernel
theorem dX3_repairByParity_11 : decode cX3_repairByParity 11 = .ok (.iconst 0, 1) := by decide +kernel
theorem dX3_repairByParity_12 : decode cX3_repairByParity 12 = .ok (.istore_n 1, 1) := by decide +kernel
theorem dX3_repairByParity_13 : decode cX3_repairByParity 13 = .ok (.iconst 0, 1) := by decide +kernel
theorem dX3_repairByParity_14 : decode cX3_repairByParity 14 = .ok (.istore_n 2, 1) := by decide +kernel
theorem dX3_repairByParity_15 : decode cX3_repairByParity 15 = .ok (.iload_n 2, 1) := by decide +kernel
theorem dX3_repairByParity_16 : decode cX3_repairByParity 16 = .ok (.aload_n 0, 1) := by decide +kernel
theorem dX3_repairByParity_17 : decode cX3_repairByParity 17 = .ok (.getfield 10, 3) := by decide +kernel
theorem dX3_repairByParity_20 : decode cX3_repairByParity 20 = .ok (.invokevirtual 66, 3) := by decide +kernel
theorem dX3_repairByParity_23 : decode cX3_repairByParity 23 = .ok (.if_icmp .ge 36, 3) := by decide +kernel
theorem dX3_repairByParity_26 : decode cX3_repairByParity 26 = .ok (.aload_n 0, 1) := by decide +kernel
theorem dX3_repairByParity_27 : decode cX3_repairByParity 27 = .ok (.getfield 10, 3) := by decide +kernel
theorem dX3_repairByParity_30 : decode cX3_repairByParity 30 = .ok (.iload_n 2, 1) := by decide +kernel
theorem dX3_repairByParity_31 : decode cX3_repairByParity 31 = .ok (.invokevirtual 69, 3) := by decide +kernel
theorem dX3_repairByParity_34 : decode cX3_repairByParity 34 = .ok (.ifCond .ne 19, 3) := by decide +kernel
theorem dX3_repairByParity_37 : decode cX3_repairByParity 37 = .ok (.aload_n 0, 1) := by decide +kernel
theorem dX3_repairByParity_38 : decode cX3_repairByParity 38 = .ok (.getfield 10, 3) := by decide +kernel
theorem dX3_repairByParity_41 : decode cX3_repairByParity 41 = .ok (.getfield 56, 3) := by decide +kernel
theorem dX3_repairByParity_44 : decode cX3_repairByParity 44 = .ok (.iload_n 2, 1) := by decide +kernel
theorem dX3_repairByParity_45 : decode cX3_repairByParity 45 = .ok (.iload_n 2, 1) := by decide +kernel
theorem dX3_repairByParity_46 : decode cX3_repairByParity 46 = .ok (.invokestatic 63, 3) := by decide +kernel
theorem dX3_repairByParity_49 : decode cX3_repairByParity 49 = .ok (.iastore, 1) := by decide +kernel
theorem dX3_repairByParity_50 : decode cX3_repairByParity 50 = .ok (.iinc 1 1, 3) := by decide +kernel
theorem dX3_repairByParity_53 : decode cX3_repairByParity 53 = .ok (.iinc 2 1, 3) := by decide +kernel
theorem dX3_repairByParity_56 : decode cX3_repairByParity 56 = .ok (.goto (-41), 3) := by decide +kernel
theorem dX3_repairByParity_59 : decode cX3_repairByParity 59 = .ok (.iload_n 1, 1) := by decide +kernel
theorem dX3_repairByParity_60 : decode cX3_repairByParity 60 = .ok (.ireturn, 1) := by decide +kernel
set_option maxRecDepth 20000 in
theorem ggX3_setRegister_X3_demandRegister : GoodIn wsX3_setRegister wsX3_demandRegister := goodIn_ca (goodIn_r _ [7, 8, 9] (by decide +kernel) (by decide +kernel)) (goodIn_sub (fun _ h => List.mem_cons_of_mem _ (List.mem_append_left _ (List.mem_append_right _ h))) (by decide +kernel))
set_option maxRecDepth 20000 in
theorem gX3_setRegister_X3_demandRegister : GoodIn wsX3_setRegister (va_wsS RX3 73 yX3_demandRegister wsX3_demandRegister) := goodIn_app (goodIn_of _ (by decide +kernel)) ggX3_setRegister_X3_demandRegister
set_option maxRecDepth 20000 in
theorem ggX3_setRegister_X3_demandOperand : GoodIn wsX3_setRegister wsX3_demandOperand := goodIn_ca (goodIn_r _ [13, 2, 14, 15, 16, 17, 18, 19, 20, 21, 6, 22, 23, 24, 49, 50, 51, 52, 53, 54, 55, 56, 57] (by decide +kernel) (by decide +kernel)) (goodIn_sub (fun _ h => List.mem_cons_of_mem _ (List.mem_append_right _ h)) (by decide +kernel))
set_option maxRecDepth 20000 in
theorem gX3_setRegister_X3_demandOperand : GoodIn wsX3_setRegister (wsV RX3 76 RX3 yX3_demandOperand wsX3_demandOperand) := goodIn_app (goodIn_of _ (by decide +kernel)) ggX3_setRegister_X3_demandOperand
set_option maxRecDepth 20000 in
theorem ggX3_setRegister_X0_keep : GoodIn wsX3_setRegister wsX0_keep := goodIn_r _ [29, 30, 31, 32, 33, 34, 35, 36, 37, 38, 39, 17, 40, 19, 41, 42, 43, 44, 45, 46, 47, 48, 58, 59, 60, 53, 54, 55, 56, 57] (by decide +kernel) (by decide +kernel)
set_option maxRecDepth 20000 in
theorem gX3_setRegister_X0_keep : GoodIn wsX3_setRegister (wsV RX3 38 RX0 yX0_keep wsX0_keep) := goodIn_app (goodIn_of _ (by decide +kernel)) ggX3_setRegister_X0_keep
theorem dX3_setRegister_0 : decode cX3_setRegister 0 = .ok (.iload_n 1, 1) := by decide +kernel
theorem dX3_setRegister_1 : decode cX3_setRegister 1 = .ok (.invokestatic 73, 3) := by decide +kernel
theorem dX3_setRegister_4 : decode cX3_setRegister 4 = .ok (.aload_n 0, 1) := by decide +kernel
theorem dX3_setRegister_5 : decode cX3_setRegister 5 = .ok (.iload_n 2, 1) := by decide +kernel
theorem dX3_setRegister_6 : decode cX3_setRegister 6 = .ok (.invokevirtual 76, 3) := by decide +kernel
theorem dX3_setRegister_9 : decode cX3_setRegister 9 = .ok (.aload_n 0, 1) := by decide +kernel
theorem dX3_setRegister_10 : decode cX3_setRegister 10 = .ok (.getfield 19, 3) := by decide +kernel
theorem dX3_setRegister_13 : decode cX3_setRegister 13 = .ok (.aload_n 0, 1) := by decide +kernel
theorem dX3_setRegister_14 : decode cX3_setRegister 14 = .ok (.getfield 10, 3) := by decide +kernel
theorem dX3_setRegister_17 : decode cX3_setRegister 17 = .ok (.invokevirtual 38, 3) := by decide +kernel
theorem dX3_setRegister_20 : decode cX3_setRegister 20 = .ok (.aload_n 0, 1) := by decide +kernel
theorem dX3_setRegister_21 : decode cX3_setRegister 21 = .ok (.getfield 10, 3) := by decide +kernel
theorem dX3_setRegister_24 : decode cX3_setRegister 24 = .ok (.getfield 79, 3) := by decide +kernel
theorem dX3_setRegister_27 : decode cX3_setRegister 27 = .ok (.iload_n 1, 1) := by decide +kernel
theorem dX3_setRegister_28 : decode cX3_setRegister 28 = .ok (.iaload, 1) := by decide +kernel
theorem dX3_setRegister_29 : decode cX3_setRegister 29 = .ok (.istore_n 3, 1) := by decide +kernel
theorem dX3_setRegister_30 : decode cX3_setRegister 30 = .ok (.aload_n 0, 1) := by decide +kernel
theorem dX3_setRegister_31 : decode cX3_setRegister 31 = .ok (.getfield 10, 3) := by decide +kernel
theorem dX3_setRegister_34 : decode cX3_setRegister 34 = .ok (.getfield 79, 3) := by decide +kernel
theorem dX3_setRegister_37 : decode cX3_setRegister 37 = .ok (.iload_n 1, 1) := by decide +kernel
theorem dX3_setRegister_38 : decode cX3_setRegister 38 = .ok (.iload_n 2, 1) := by decide +kernel
theorem dX3_setRegister_39 : decode cX3_setRegister 39 = .ok (.iastore, 1) := by decide +kernel
theorem dX3_setRegister_40 : decode cX3_setRegister 40 = .ok (.iload_n 3, 1) := by decide +kernel
theorem dX3_setRegister_41 : decode cX3_setRegister 41 = .ok (.ireturn, 1) := by decide +kernel
set_option maxRecDepth 20000 in
theorem ggX3_clearAccount_X0_keep : GoodIn wsX3_clearAccount wsX0_keep := goodIn_r _ [8, 9, 10, 11, 12, 13, 14, 15, 16, 17, 18, 19, 20, 21, 22, 23, 24, 25, 26, 27, 28, 29, 39, 40, 41, 34, 35, 36, 37, 38] (by decide +kernel) (by decide +kernel)
set_option maxRecDepth 20000 in
theorem gX3_clearAccount_X0_keep : GoodIn wsX3_clearAccount (wsV RX3 38 RX0 yX0_keep wsX0_keep) := goodIn_app (goodIn_of _ (by decide +kernel)) ggX3_clearAccount_X0_keep
theorem dX3_clearAccount_0 : decode cX3_clearAccount 0 = .ok (.aload_n 0, 1) := by decide +kernel
theorem dX3_clearAccount_1 : decode cX3_clearAccount 1 = .ok (.getfield 19, 3) := by decide +kernel
theorem dX3_clearAccount_4 : decode cX3_clearAccount 4 = .ok (.aload_n 0, 1) := by decide +kernel
theorem dX3_clearAccount_5 : decode cX3_clearAccount 5 = .ok (.getfield 10, 3) := by decide +kernel
theorem dX3_clearAccount_8 : decode cX3_clearAccount 8 = .ok (.invokevirtual 38, 3) := by decide +kernel
theorem dX3_clearAccount_11 : decode cX3_clearAccount 11 = .ok (.aload_n 0, 1) := by decide +kernel
theorem dX3_clearAccount_12 : decode cX3_clearAccount 12 = .ok (.getfield 10, 3) := by decide +kernel
theorem dX3_clearAccount_15 : decode cX3_clearAccount 15 = .ok (.getfield 82, 3) := by decide +kernel
theorem dX3_clearAccount_18 : decode cX3_clearAccount 18 = .ok (.lstore_n 1, 1) := by decide +kernel
theorem dX3_clearAccount_19 : decode cX3_clearAccount 19 = .ok (.aload_n 0, 1) := by decide +kernel
theorem dX3_clearAccount_20 : decode cX3_clearAccount 20 = .ok (.getfield 10, 3) := by decide +kernel
theorem dX3_clearAccount_23 : decode cX3_clearAccount 23 = .ok (.lconst 0, 1) := by decide +kernel
theorem dX3_clearAccount_24 : decode cX3_clearAccount 24 = .ok (.putfield 82, 3) := by decide +kernel
theorem dX3_clearAccount_27 : decode cX3_clearAccount 27 = .ok (.lload_n 1, 1) := by decide +kernel
theorem dX3_clearAccount_28 : decode cX3_clearAccount 28 = .ok (.lreturn, 1) := by decide +kernel
set_option maxRecDepth 20000 in
theorem ggX3_multiply_X3_demandOperand : GoodIn wsX3_multiply wsX3_demandOperand := goodIn_ca (goodIn_r _ [6, 1, 7, 8, 9, 10, 11, 12, 13, 14, 5, 15, 16, 17, 30, 31, 32, 33, 34, 35, 36, 37, 38] (by decide +kernel) (by decide +kernel)) (goodIn_sub (fun _ h => List.mem_cons_of_mem _ (List.mem_append_right _ h)) (by decide +kernel))
set_option maxRecDepth 20000 in
theorem gX3_multiply_X3_demandOperand : GoodIn wsX3_multiply (wsV RX3 76 RX3 yX3_demandOperand wsX3_demandOperand) := goodIn_app (goodIn_of _ (by decide +kernel)) ggX3_multiply_X3_demandOperand
set_option maxRecDepth 20000 in
theorem ggX3_multiply_X3_demandMethod : GoodIn wsX3_multiply wsX3_demandMethod := goodIn_ca (goodIn_r _ [20, 13, 14, 5, 15, 16, 17] (by decide +kernel) (by decide +kernel)) (goodIn_sub (fun _ h => List.mem_cons_of_mem _ (List.mem_append_right _ h)) (by decide +kernel))
set_option maxRecDepth 20000 in
theorem gX3_multiply_X3_demandMethod : GoodIn wsX3_multiply (va_wsS RX3 86 yX3_demandMethod wsX3_demandMethod) := goodIn_app (goodIn_of _ (by decide +kernel)) ggX3_multiply_X3_demandMethod
set_option maxRecDepth 20000 in
theorem ggX3_multiply_X2_product : GoodIn wsX3_multiply wsX2_product := goodIn_r _ [24, 25, 26, 27, 28, 29, 34, 35, 36, 37, 38] (by decide +kernel) (by decide +kernel)
set_option maxRecDepth 20000 in
theorem gX3_multiply_X2_product : GoodIn wsX3_multiply (wsV RX3 89 RX2 yX2_product wsX2_product) := goodIn_app (goodIn_of _ (by decide +kernel)) ggX3_multiply_X2_product
theorem dX3_multiply_0 : decode cX3_multiply 0 = .ok (.aload_n 0, 1) := by decide +kernel
theorem dX3_multiply_1 : decode cX3_multiply 1 = .ok (.iload_n 1, 1) := by decide +kernel
theorem dX3_multiply_2 : decode cX3_multiply 2 = .ok (.invokevirtual 76, 3) := by decide +kernel
theorem dX3_multiply_5 : decode cX3_multiply 5 = .ok (.aload_n 0, 1) := by decide +kernel
theorem dX3_multiply_6 : decode cX3_multiply 6 = .ok (.iload_n 2, 1) := by decide +kernel
theorem dX3_multiply_7 : decode cX3_multiply 7 = .ok (.invokevirtual 76, 3) := by decide +kernel
theorem dX3_multiply_10 : decode cX3_multiply 10 = .ok (.iload_n 3, 1) := by decide +kernel
theorem dX3_multiply_11 : decode cX3_multiply 11 = .ok (.invokestatic 86, 3) := by decide +kernel
theorem dX3_multiply_14 : decode cX3_multiply 14 = .ok (.aload_n 0, 1) := by decide +kernel
theorem dX3_multiply_15 : decode cX3_multiply 15 = .ok (.getfield 10, 3) := by decide +kernel
theorem dX3_multiply_18 : decode cX3_multiply 18 = .ok (.iload_n 1, 1) := by decide +kernel
theorem dX3_multiply_19 : decode cX3_multiply 19 = .ok (.iload_n 2, 1) := by decide +kernel
theorem dX3_multiply_20 : decode cX3_multiply 20 = .ok (.iload_n 3, 1) := by decide +kernel
theorem dX3_multiply_21 : decode cX3_multiply 21 = .ok (.invokevirtual 89, 3) := by decide +kernel
theorem dX3_multiply_24 : decode cX3_multiply 24 = .ok (.ireturn, 1) := by decide +kernel
set_option maxRecDepth 20000 in
theorem ggX3_cost_X3_demandOperand : GoodIn wsX3_cost wsX3_demandOperand := goodIn_ca (goodIn_r _ [6, 1, 7, 8, 9, 10, 11, 12, 13, 14, 5, 15, 16, 17, 37, 38, 39, 40, 41, 42, 43, 44, 45] (by decide +kernel) (by decide +kernel)) (goodIn_sub (fun _ h => List.mem_cons_of_mem _ (List.mem_append_right _ h)) (by decide +kernel))
set_option maxRecDepth 20000 in
theorem gX3_cost_X3_demandOperand : GoodIn wsX3_cost (wsV RX3 76 RX3 yX3_demandOperand wsX3_demandOperand) := goodIn_app (goodIn_of _ (by decide +kernel)) ggX3_cost_X3_demandOperand
set_option maxRecDepth 20000 in
theorem ggX3_cost_X3_demandMethod : GoodIn wsX3_cost wsX3_demandMethod := goodIn_ca (goodIn_r _ [20, 13, 14, 5, 15, 16, 17] (by decide +kernel) (by decide +kernel)) (goodIn_sub (fun _ h => List.mem_cons_of_mem _ (List.mem_append_right _ h)) (by decide +kernel))
set_option maxRecDepth 20000 in
theorem gX3_cost_X3_demandMethod : GoodIn wsX3_cost (va_wsS RX3 86 yX3_demandMethod wsX3_demandMethod) := goodIn_app (goodIn_of _ (by decide +kernel)) ggX3_cost_X3_demandMethod
set_option maxRecDepth 20000 in
theorem ggX3_cost_X2_price : GoodIn wsX3_cost wsX2_price := goodIn_r _ [24, 25, 26, 27, 28, 10, 29, 30, 31, 32, 33, 34, 35, 36, 41, 42, 43, 44, 45] (by decide +kernel) (by decide +kernel)
set_option maxRecDepth 20000 in
theorem gX3_cost_X2_price : GoodIn wsX3_cost (wsV RX3 93 RX2 yX2_price wsX2_price) := goodIn_app (goodIn_of _ (by decide +kernel)) ggX3_cost_X2_price
theorem dX3_cost_0 : decode cX3_cost 0 = .ok (.aload_n 0, 1) := by decide +kernel
theorem dX3_cost_1 : decode cX3_cost 1 = .ok (.iload_n 1, 1) := by decide +kernel
theorem dX3_cost_2 : decode cX3_cost 2 = .ok (.invokevirtual 76, 3) := by decide +kernel
theorem dX3_cost_5 : decode cX3_cost 5 = .ok (.aload_n 0, 1) := by decide +kernel
theorem dX3_cost_6 : decode cX3_cost 6 = .ok (.iload_n 2, 1) := by decide +kernel
theorem dX3_cost_7 : decode cX3_cost 7 = .ok (.invokevirtual 76, 3) := by decide +kernel
theorem dX3_cost_10 : decode cX3_cost 10 = .ok (.iload_n 3, 1) := by decide +kernel
theorem dX3_cost_11 : decode cX3_cost 11 = .ok (.invokestatic 86, 3) := by decide +kernel
theorem dX3_cost_14 : decode cX3_cost 14 = .ok (.aload_n 0, 1) := by decide +kernel
theorem dX3_cost_15 : decode cX3_cost 15 = .ok (.getfield 10, 3) := by decide +kernel
theorem dX3_cost_18 : decode cX3_cost 18 = .ok (.iload_n 2, 1) := by decide +kernel
theorem dX3_cost_19 : decode cX3_cost 19 = .ok (.iload_n 3, 1) := by decide +kernel
theorem dX3_cost_20 : decode cX3_cost 20 = .ok (.invokevirtual 93, 3) := by decide +kernel
theorem dX3_cost_23 : decode cX3_cost 23 = .ok (.ireturn, 1) := by decide +kernel
set_option maxRecDepth 20000 in
theorem ggX3_cheapest_X3_demandOperand : GoodIn wsX3_cheapest wsX3_demandOperand := goodIn_ca (goodIn_r _ [6, 1, 7, 8, 9, 10, 11, 12, 13, 14, 5, 15, 16, 17, 47, 48, 49, 50, 51, 52, 53, 54, 55] (by decide +kernel) (by decide +kernel)) (goodIn_sub (fun _ h => List.mem_cons_of_mem _ (List.mem_append_right _ h)) (by decide +kernel))
set_option maxRecDepth 20000 in
theorem gX3_cheapest_X3_demandOperand : GoodIn wsX3_cheapest (wsV RX3 76 RX3 yX3_demandOperand wsX3_demandOperand) := goodIn_app (goodIn_of _ (by decide +kernel)) ggX3_cheapest_X3_demandOperand
set_option maxRecDepth 20000 in
theorem ggX3_cheapest_X2_price : GoodIn wsX3_cheapest wsX2_price := goodIn_r _ [21, 22, 23, 24, 25, 10, 26, 27, 28, 29, 30, 31, 32, 33, 51, 52, 53, 54, 55] (by decide +kernel) (by decide +kernel)
set_option maxRecDepth 20000 in
theorem gX3_cheapest_X2_price : GoodIn wsX3_cheapest (wsV RX3 93 RX2 yX2_price wsX2_price) := goodIn_app (goodIn_of _ (by decide +kernel)) ggX3_cheapest_X2_price
set_option maxRecDepth 20000 in
theorem ggX3_cheapest_X2_isWrongPair : GoodIn wsX3_cheapest wsX2_isWrongPair := goodIn_r _ [37, 38, 39, 40, 10, 41, 42, 43, 44, 45, 46, 51, 52, 53, 54, 55] (by decide +kernel) (by decide +kernel)
set_option maxRecDepth 20000 in
theorem gX3_cheapest_X2_isWrongPair : GoodIn wsX3_cheapest (wsV RX3 97 RX2 yX2_isWrongPair wsX2_isWrongPair) := goodIn_app (goodIn_of _ (by decide +kernel)) ggX3_cheapest_X2_isWrongPair
theorem dX3_cheapest_0 : decode cX3_cheapest 0 = .ok (.aload_n 0, 1) := by decide +kernel
theorem dX3_cheapest_1 : decode cX3_cheapest 1 = .ok (.iload_n 1, 1) := by decide +kernel
theorem dX3_cheapest_2 : decode cX3_cheapest 2 = .ok (.invokevirtual 76, 3) := by decide +kernel
theorem dX3_cheapest_5 : decode cX3_cheapest 5 = .ok (.aload_n 0, 1) := by decide +kernel
theorem dX3_cheapest_6 : decode cX3_cheapest 6 = .ok (.iload_n 2, 1) := by decide +kernel
theorem dX3_cheapest_7 : decode cX3_cheapest 7 = .ok (.invokevirtual 76, 3) := by decide +kernel
theorem dX3_cheapest_10 : decode cX3_cheapest 10 = .ok (.iconst 1, 1) := by decide +kernel
theorem dX3_cheapest_11 : decode cX3_cheapest 11 = .ok (.istore_n 3, 1) := by decide +kernel
theorem dX3_cheapest_12 : decode cX3_cheapest 12 = .ok (.aload_n 0, 1) := by decide +kernel
theorem dX3_cheapest_13 : decode cX3_cheapest 13 = .ok (.getfield 10, 3) := by decide +kernel
theorem dX3_cheapest_16 : decode cX3_cheapest 16 = .ok (.iload_n 2, 1) := by decide +kernel
theorem dX3_cheapest_17 : decode cX3_cheapest 17 = .ok (.iconst 2, 1) := by decide +kernel
theorem dX3_cheapest_18 : decode cX3_cheapest 18 = .ok (.invokevirtual 93, 3) := by decide +kernel
theorem dX3_cheapest_21 : decode cX3_cheapest 21 = .ok (.aload_n 0, 1) := by decide +kernel
theorem dX3_cheapest_22 : decode cX3_cheapest 22 = .ok (.getfield 10, 3) := by decide +kernel
theorem dX3_cheapest_25 : decode cX3_cheapest 25 = .ok (.iload_n 2, 1) := by decide +kernel
theorem dX3_cheapest_26 : decode cX3_cheapest 26 = .ok (.iload_n 3, 1) := by decide +kernel
theorem dX3_cheapest_27 : decode cX3_cheapest 27 = .ok (.invokevirtual 93, 3) := by decide +kernel
theorem dX3_cheapest_30 : decode cX3_cheapest 30 = .ok (.if_icmp .ge 5, 3) := by decide +kernel
theorem dX3_cheapest_33 : decode cX3_cheapest 33 = .ok (.iconst 2, 1) := by decide +kernel
theorem dX3_cheapest_34 : decode cX3_cheapest 34 = .ok (.istore_n 3, 1) := by decide +kernel
theorem dX3_cheapest_35 : decode cX3_cheapest 35 = .ok (.aload_n 0, 1) := by decide +kernel
theorem dX3_cheapest_36 : decode cX3_cheapest 36 = .ok (.getfield 10, 3) := by decide +kernel
theorem dX3_cheapest_39 : decode cX3_cheapest 39 = .ok (.iload_n 2, 1) := by decide +kernel
theorem dX3_cheapest_40 : decode cX3_cheapest 40 = .ok (.iconst 0, 1) := by decide +kernel
theorem dX3_cheapest_41 : decode cX3_cheapest 41 = .ok (.invokevirtual 93, 3) := by decide +kernel
theorem dX3_cheapest_44 : decode cX3_cheapest 44 = .ok (.aload_n 0, 1) := by decide +kernel
theorem dX3_cheapest_45 : decode cX3_cheapest 45 = .ok (.getfield 10, 3) := by decide +kernel
theorem dX3_cheapest_48 : decode cX3_cheapest 48 = .ok (.iload_n 2, 1) := by decide +kernel
theorem dX3_cheapest_49 : decode cX3_cheapest 49 = .ok (.iload_n 3, 1) := by decide +kernel
theorem dX3_cheapest_50 : decode cX3_cheapest 50 = .ok (.invokevirtual 93, 3) := by decide +kernel
theorem dX3_cheapest_53 : decode cX3_cheapest 53 = .ok (.if_icmp .gt 7, 3) := by decide +kernel
theorem dX3_cheapest_56 : decode cX3_cheapest 56 = .ok (.iconst 1, 1) := by decide +kernel
theorem dX3_cheapest_57 : decode cX3_cheapest 57 = .ok (.goto 4, 3) := by decide +kernel
theorem dX3_cheapest_60 : decode cX3_cheapest 60 = .ok (.iconst 0, 1) := by decide +kernel
theorem dX3_cheapest_61 : decode cX3_cheapest 61 = .ok (.istore 4, 2) := by decide +kernel
theorem dX3_cheapest_63 : decode cX3_cheapest 63 = .ok (.iload 4, 2) := by decide +kernel
theorem dX3_cheapest_65 : decode cX3_cheapest 65 = .ok (.ifCond .eq 19, 3) := by decide +kernel
theorem dX3_cheapest_68 : decode cX3_cheapest 68 = .ok (.aload_n 0, 1) := by decide +kernel
theorem dX3_cheapest_69 : decode cX3_cheapest 69 = .ok (.getfield 10, 3) := by decide +kernel
theorem dX3_cheapest_72 : decode cX3_cheapest 72 = .ok (.iload_n 1, 1) := by decide +kernel
theorem dX3_cheapest_73 : decode cX3_cheapest 73 = .ok (.iload_n 2, 1) := by decide +kernel
theorem dX3_cheapest_74 : decode cX3_cheapest 74 = .ok (.invokevirtual 97, 3) := by decide +kernel
theorem dX3_cheapest_77 : decode cX3_cheapest 77 = .ok (.ifCond .ne 7, 3) := by decide +kernel
theorem dX3_cheapest_80 : decode cX3_cheapest 80 = .ok (.iconst 0, 1) := by decide +kernel
theorem dX3_cheapest_81 : decode cX3_cheapest 81 = .ok (.goto 4, 3) := by decide +kernel
theorem dX3_cheapest_84 : decode cX3_cheapest 84 = .ok (.iload_n 3, 1) := by decide +kernel
theorem dX3_cheapest_85 : decode cX3_cheapest 85 = .ok (.ireturn, 1) := by decide +kernel
set_option maxRecDepth 20000 in
theorem ggX3_fraction_X3_demandOperand : GoodIn wsX3_fraction wsX3_demandOperand := goodIn_ca (goodIn_r _ [6, 1, 7, 8, 9, 10, 11, 12, 13, 14, 5, 15, 16, 17, 33, 34, 35, 36, 37, 38, 39, 40, 41] (by decide +kernel) (by decide +kernel)) (goodIn_sub (fun _ h => List.mem_cons_of_mem _ (List.mem_append_right _ h)) (by decide +kernel))
set_option maxRecDepth 20000 in
theorem gX3_fraction_X3_demandOperand : GoodIn wsX3_fraction (wsV RX3 76 RX3 yX3_demandOperand wsX3_demandOperand) := goodIn_app (goodIn_of _ (by decide +kernel)) ggX3_fraction_X3_demandOperand
set_option maxRecDepth 20000 in
theorem ggX3_fraction_X3_demandMethod : GoodIn wsX3_fraction wsX3_demandMethod := goodIn_ca (goodIn_r _ [20, 13, 14, 5, 15, 16, 17] (by decide +kernel) (by decide +kernel)) (goodIn_sub (fun _ h => List.mem_cons_of_mem _ (List.mem_append_right _ h)) (by decide +kernel))
set_option maxRecDepth 20000 in
theorem gX3_fraction_X3_demandMethod : GoodIn wsX3_fraction (va_wsS RX3 86 yX3_demandMethod wsX3_demandMethod) := goodIn_app (goodIn_of _ (by decide +kernel)) ggX3_fraction_X3_demandMethod
set_option maxRecDepth 20000 in
theorem ggX3_fraction_X3_demandRange : GoodIn wsX3_fraction wsX3_demandRange := goodIn_ca (goodIn_r _ [15, 16, 17] (by decide +kernel) (by decide +kernel)) (goodIn_sub (fun _ h => List.mem_cons_of_mem _ (List.mem_append_right _ h)) (by decide +kernel))
set_option maxRecDepth 20000 in
theorem gX3_fraction_X3_demandRange : GoodIn wsX3_fraction (va_wsS RX3 34 yX3_demandRange wsX3_demandRange) := goodIn_app (goodIn_of _ (by decide +kernel)) ggX3_fraction_X3_demandRange
set_option maxRecDepth 20000 in
theorem ggX3_fraction_X2_product : GoodIn wsX3_fraction wsX2_product := goodIn_r _ [24, 25, 26, 27, 28, 29, 37, 38, 39, 40, 41] (by decide +kernel) (by decide +kernel)
set_option maxRecDepth 20000 in
theorem gX3_fraction_X2_product : GoodIn wsX3_fraction (wsV RX3 89 RX2 yX2_product wsX2_product) := goodIn_app (goodIn_of _ (by decide +kernel)) ggX3_fraction_X2_product
set_option maxRecDepth 20000 in
theorem ggX3_fraction_X3_rounded : GoodIn wsX3_fraction wsX3_rounded := goodIn_r _ [32] (by decide +kernel) (by decide +kernel)
set_option maxRecDepth 20000 in
theorem gX3_fraction_X3_rounded : GoodIn wsX3_fraction (va_wsS RX3 101 yX3_rounded wsX3_rounded) := goodIn_app (goodIn_of _ (by decide +kernel)) ggX3_fraction_X3_rounded
theorem dX3_fraction_0 : decode cX3_fraction 0 = .ok (.aload_n 0, 1) := by decide +kernel
theorem dX3_fraction_1 : decode cX3_fraction 1 = .ok (.iload_n 1, 1) := by decide +kernel
theorem dX3_fraction_2 : decode cX3_fraction 2 = .ok (.invokevirtual 76, 3) := by decide +kernel
theorem dX3_fraction_5 : decode cX3_fraction 5 = .ok (.aload_n 0, 1) := by decide +kernel
theorem dX3_fraction_6 : decode cX3_fraction 6 = .ok (.iload_n 2, 1) := by decide +kernel
theorem dX3_fraction_7 : decode cX3_fraction 7 = .ok (.invokevirtual 76, 3) := by decide +kernel
theorem dX3_fraction_10 : decode cX3_fraction 10 = .ok (.iload_n 3, 1) := by decide +kernel
theorem dX3_fraction_11 : decode cX3_fraction 11 = .ok (.invokestatic 86, 3) := by decide +kernel
theorem dX3_fraction_14 : decode cX3_fraction 14 = .ok (.iload 4, 2) := by decide +kernel
theorem dX3_fraction_16 : decode cX3_fraction 16 = .ok (.iconst 0, 1) := by decide +kernel
theorem dX3_fraction_17 : decode cX3_fraction 17 = .ok (.bipush 16, 2) := by decide +kernel
theorem dX3_fraction_19 : decode cX3_fraction 19 = .ok (.invokestatic 34, 3) := by decide +kernel
theorem dX3_fraction_22 : decode cX3_fraction 22 = .ok (.iload 5, 2) := by decide +kernel
theorem dX3_fraction_24 : decode cX3_fraction 24 = .ok (.iconst 0, 1) := by decide +kernel
theorem dX3_fraction_25 : decode cX3_fraction 25 = .ok (.iconst 2, 1) := by decide +kernel
theorem dX3_fraction_26 : decode cX3_fraction 26 = .ok (.invokestatic 34, 3) := by decide +kernel
theorem dX3_fraction_29 : decode cX3_fraction 29 = .ok (.aload_n 0, 1) := by decide +kernel
theorem dX3_fraction_30 : decode cX3_fraction 30 = .ok (.getfield 10, 3) := by decide +kernel
theorem dX3_fraction_33 : decode cX3_fraction 33 = .ok (.iload_n 1, 1) := by decide +kernel
theorem dX3_fraction_34 : decode cX3_fraction 34 = .ok (.iload_n 2, 1) := by decide +kernel
theorem dX3_fraction_35 : decode cX3_fraction 35 = .ok (.iload_n 3, 1) := by decide +kernel
theorem dX3_fraction_36 : decode cX3_fraction 36 = .ok (.invokevirtual 89, 3) := by decide +kernel
theorem dX3_fraction_39 : decode cX3_fraction 39 = .ok (.iload 4, 2) := by decide +kernel
theorem dX3_fraction_41 : decode cX3_fraction 41 = .ok (.iload 5, 2) := by decide +kernel
theorem dX3_fraction_43 : decode cX3_fraction 43 = .ok (.invokestatic 101, 3) := by decide +kernel
theorem dX3_fraction_46 : decode cX3_fraction 46 = .ok (.ireturn, 1) := by decide +kernel
set_option maxRecDepth 20000 in
theorem ggX3_error_X3_demandOperand : GoodIn wsX3_error wsX3_demandOperand := goodIn_ca (goodIn_r _ [6, 1, 7, 8, 9, 10, 11, 12, 13, 14, 5, 15, 16, 17, 30, 31, 32, 33, 34, 35, 36, 37, 38] (by decide +kernel) (by decide +kernel)) (goodIn_sub (fun _ h => List.mem_cons_of_mem _ (List.mem_append_right _ h)) (by decide +kernel))
set_option maxRecDepth 20000 in
theorem gX3_error_X3_demandOperand : GoodIn wsX3_error (wsV RX3 76 RX3 yX3_demandOperand wsX3_demandOperand) := goodIn_app (goodIn_of _ (by decide +kernel)) ggX3_error_X3_demandOperand
set_option maxRecDepth 20000 in
theorem ggX3_error_X3_demandRange : GoodIn wsX3_error wsX3_demandRange := goodIn_ca (goodIn_r _ [15, 16, 17] (by decide +kernel) (by decide +kernel)) (goodIn_sub (fun _ h => List.mem_cons_of_mem _ (List.mem_append_right _ h)) (by decide +kernel))
set_option maxRecDepth 20000 in
theorem gX3_error_X3_demandRange : GoodIn wsX3_error (va_wsS RX3 34 yX3_demandRange wsX3_demandRange) := goodIn_app (goodIn_of _ (by decide +kernel)) ggX3_error_X3_demandRange
set_option maxRecDepth 20000 in
theorem ggX3_error_X2_product : GoodIn wsX3_error wsX2_product := goodIn_r _ [21, 22, 23, 24, 25, 26, 34, 35, 36, 37, 38] (by decide +kernel) (by decide +kernel)
set_option maxRecDepth 20000 in
theorem gX3_error_X2_product : GoodIn wsX3_error (wsV RX3 89 RX2 yX2_product wsX2_product) := goodIn_app (goodIn_of _ (by decide +kernel)) ggX3_error_X2_product
set_option maxRecDepth 20000 in
theorem ggX3_error_X3_rounded : GoodIn wsX3_error wsX3_rounded := goodIn_r _ [29] (by decide +kernel) (by decide +kernel)
set_option maxRecDepth 20000 in
theorem gX3_error_X3_rounded : GoodIn wsX3_error (va_wsS RX3 101 yX3_rounded wsX3_rounded) := goodIn_app (goodIn_of _ (by decide +kernel)) ggX3_error_X3_rounded
theorem dX3_error_0 : decode cX3_error 0 = .ok (.aload_n 0, 1) := by decide +kernel
theorem dX3_error_1 : decode cX3_error 1 = .ok (.iload_n 1, 1) := by decide +kernel
theorem dX3_error_2 : decode cX3_error 2 = .ok (.invokevirtual 76, 3) := by decide +kernel
theorem dX3_error_5 : decode cX3_error 5 = .ok (.aload_n 0, 1) := by decide +kernel
theorem dX3_error_6 : decode cX3_error 6 = .ok (.iload_n 2, 1) := by decide +kernel
theorem dX3_error_7 : decode cX3_error 7 = .ok (.invokevirtual 76, 3) := by decide +kernel
theorem dX3_error_10 : decode cX3_error 10 = .ok (.iload_n 3, 1) := by decide +kernel
theorem dX3_error_11 : decode cX3_error 11 = .ok (.iconst 0, 1) := by decide +kernel
theorem dX3_error_12 : decode cX3_error 12 = .ok (.bipush 16, 2) := by decide +kernel
theorem dX3_error_14 : decode cX3_error 14 = .ok (.invokestatic 34, 3) := by decide +kernel
theorem dX3_error_17 : decode cX3_error 17 = .ok (.iload 4, 2) := by decide +kernel
theorem dX3_error_19 : decode cX3_error 19 = .ok (.iconst 0, 1) := by decide +kernel
theorem dX3_error_20 : decode cX3_error 20 = .ok (.iconst 2, 1) := by decide +kernel
theorem dX3_error_21 : decode cX3_error 21 = .ok (.invokestatic 34, 3) := by decide +kernel
theorem dX3_error_24 : decode cX3_error 24 = .ok (.aload_n 0, 1) := by decide +kernel
theorem dX3_error_25 : decode cX3_error 25 = .ok (.getfield 10, 3) := by decide +kernel
theorem dX3_error_28 : decode cX3_error 28 = .ok (.iload_n 1, 1) := by decide +kernel
theorem dX3_error_29 : decode cX3_error 29 = .ok (.iload_n 2, 1) := by decide +kernel
theorem dX3_error_30 : decode cX3_error 30 = .ok (.iconst 1, 1) := by decide +kernel
theorem dX3_error_31 : decode cX3_error 31 = .ok (.invokevirtual 89, 3) := by decide +kernel
theorem dX3_error_34 : decode cX3_error 34 = .ok (.istore 5, 2) := by decide +kernel
theorem dX3_error_36 : decode cX3_error 36 = .ok (.iload_n 1, 1) := by decide +kernel
theorem dX3_error_37 : decode cX3_error 37 = .ok (.iload_n 2, 1) := by decide +kernel
theorem dX3_error_38 : decode cX3_error 38 = .ok (.imul, 1) := by decide +kernel
theorem dX3_error_39 : decode cX3_error 39 = .ok (.i2d, 1) := by decide +kernel
theorem dX3_error_40 : decode cX3_error 40 = .ok (.iconst 1, 1) := by decide +kernel
theorem dX3_error_41 : decode cX3_error 41 = .ok (.iload_n 3, 1) := by decide +kernel
theorem dX3_error_42 : decode cX3_error 42 = .ok (.ishl, 1) := by decide +kernel
theorem dX3_error_43 : decode cX3_error 43 = .ok (.i2d, 1) := by decide +kernel
theorem dX3_error_44 : decode cX3_error 44 = .ok (.ddiv, 1) := by decide +kernel
theorem dX3_error_45 : decode cX3_error 45 = .ok (.dstore 6, 2) := by decide +kernel
theorem dX3_error_47 : decode cX3_error 47 = .ok (.iload 5, 2) := by decide +kernel
theorem dX3_error_49 : decode cX3_error 49 = .ok (.iload_n 3, 1) := by decide +kernel
theorem dX3_error_50 : decode cX3_error 50 = .ok (.iload 4, 2) := by decide +kernel
theorem dX3_error_52 : decode cX3_error 52 = .ok (.invokestatic 101, 3) := by decide +kernel
theorem dX3_error_55 : decode cX3_error 55 = .ok (.i2d, 1) := by decide +kernel
theorem dX3_error_56 : decode cX3_error 56 = .ok (.dload 6, 2) := by decide +kernel
theorem dX3_error_58 : decode cX3_error 58 = .ok (.dsub, 1) := by decide +kernel
theorem dX3_error_59 : decode cX3_error 59 = .ok (.dreturn, 1) := by decide +kernel
set_option maxRecDepth 20000 in
theorem ggX3_entry_X3_demandEntry : GoodIn wsX3_entry wsX3_demandEntry := goodIn_ca (goodIn_r _ [7, 8, 9, 1, 10, 11, 12, 13, 14, 15, 16, 17, 18, 19, 48, 49, 50, 51, 52, 53, 54, 55, 56] (by decide +kernel) (by decide +kernel)) (goodIn_sub (fun _ h => List.mem_cons_of_mem _ (List.mem_append_left _ (List.mem_append_right _ h))) (by decide +kernel))
set_option maxRecDepth 20000 in
theorem gX3_entry_X3_demandEntry : GoodIn wsX3_entry (wsV RX3 53 RX3 yX3_demandEntry wsX3_demandEntry) := goodIn_app (goodIn_of _ (by decide +kernel)) ggX3_entry_X3_demandEntry
set_option maxRecDepth 20000 in
theorem ggX3_entry_X3_demandRange : GoodIn wsX3_entry wsX3_demandRange := goodIn_ca (goodIn_r _ [22, 23, 24] (by decide +kernel) (by decide +kernel)) (goodIn_sub (fun _ h => List.mem_cons_of_mem _ (List.mem_append_right _ h)) (by decide +kernel))
set_option maxRecDepth 20000 in
theorem gX3_entry_X3_demandRange : GoodIn wsX3_entry (va_wsS RX3 34 yX3_demandRange wsX3_demandRange) := goodIn_app (goodIn_of _ (by decide +kernel)) ggX3_entry_X3_demandRange
set_option maxRecDepth 20000 in
theorem ggX3_entry_X3_trueValue : GoodIn wsX3_entry wsX3_trueValue := goodIn_r _ [27] (by decide +kernel) (by decide +kernel)
set_option maxRecDepth 20000 in
theorem gX3_entry_X3_trueValue : GoodIn wsX3_entry (va_wsS RX3 63 yX3_trueValue wsX3_trueValue) := goodIn_app (goodIn_of _ (by decide +kernel)) ggX3_entry_X3_trueValue
set_option maxRecDepth 20000 in
theorem ggX3_entry_X3_parity : GoodIn wsX3_entry wsX3_parity := goodIn_r _ [30, 31, 32, 33, 34, 35, 36, 37] (by decide +kernel) (by decide +kernel)
set_option maxRecDepth 20000 in
theorem gX3_entry_X3_parity : GoodIn wsX3_entry (va_wsS RX3 104 yX3_parity wsX3_parity) := goodIn_app (goodIn_of _ (by decide +kernel)) ggX3_entry_X3_parity
set_option maxRecDepth 20000 in
theorem ggX3_entry_X2_hasStoredParity : GoodIn wsX3_entry wsX2_hasStoredParity := goodIn_r _ [41, 42, 29, 6, 30, 31, 32, 33, 34, 35, 36, 37, 26, 27, 52, 53, 54, 55, 56] (by decide +kernel) (by decide +kernel)
set_option maxRecDepth 20000 in
theorem gX3_entry_X2_hasStoredParity : GoodIn wsX3_entry (wsV RX3 69 RX2 yX2_hasStoredParity wsX2_hasStoredParity) := goodIn_app (goodIn_of _ (by decide +kernel)) ggX3_entry_X2_hasStoredParity
set_option maxRecDepth 20000 in
theorem ggX3_entry_X2_wrongBits : GoodIn wsX3_entry wsX2_wrongBits := goodIn_r _ [46, 42, 26, 6, 27, 47, 32, 33, 34, 35, 36, 37, 52, 53, 54, 55, 56] (by decide +kernel) (by decide +kernel)
set_option maxRecDepth 20000 in
theorem gX3_entry_X2_wrongBits : GoodIn wsX3_entry (wsV RX3 59 RX2 yX2_wrongBits wsX2_wrongBits) := goodIn_app (goodIn_of _ (by decide +kernel)) ggX3_entry_X2_wrongBits
theorem dX3_entry_0 : decode cX3_entry 0 = .ok (.aload_n 0, 1) := by decide +kernel
theorem dX3_entry_1 : decode cX3_entry 1 = .ok (.iload_n 1, 1) := by decide +kernel
theorem dX3_entry_2 : decode cX3_entry 2 = .ok (.invokevirtual 53, 3) := by decide +kernel
theorem dX3_entry_5 : decode cX3_entry 5 = .ok (.iload_n 2, 1) := by decide +kernel
theorem dX3_entry_6 : decode cX3_entry 6 = .ok (.iconst 0, 1) := by decide +kernel
theorem dX3_entry_7 : decode cX3_entry 7 = .ok (.iconst 4, 1) := by decide +kernel
theorem dX3_entry_8 : decode cX3_entry 8 = .ok (.invokestatic 34, 3) := by decide +kernel
theorem dX3_entry_11 : decode cX3_entry 11 = .ok (.iload_n 2, 1) := by decide +kernel
theorem dX3_entry_12 : decode cX3_entry 12 = .ok (.tableswitch 72 0 3 #[32, 42, 47, 55], 32) := by decide +kernel
theorem dX3_entry_44 : decode cX3_entry 44 = .ok (.aload_n 0, 1) := by decide +kernel
theorem dX3_entry_45 : decode cX3_entry 45 = .ok (.getfield 10, 3) := by decide +kernel
theorem dX3_entry_48 : decode cX3_entry 48 = .ok (.getfield 56, 3) := by decide +kernel
theorem dX3_entry_51 : decode cX3_entry 51 = .ok (.iload_n 1, 1) := by decide +kernel
theorem dX3_entry_52 : decode cX3_entry 52 = .ok (.iaload, 1) := by decide +kernel
theorem dX3_entry_53 : decode cX3_entry 53 = .ok (.ireturn, 1) := by decide +kernel
theorem dX3_entry_54 : decode cX3_entry 54 = .ok (.iload_n 1, 1) := by decide +kernel
theorem dX3_entry_55 : decode cX3_entry 55 = .ok (.invokestatic 63, 3) := by decide +kernel
theorem dX3_entry_58 : decode cX3_entry 58 = .ok (.ireturn, 1) := by decide +kernel
theorem dX3_entry_59 : decode cX3_entry 59 = .ok (.iload_n 1, 1) := by decide +kernel
theorem dX3_entry_60 : decode cX3_entry 60 = .ok (.invokestatic 63, 3) := by decide +kernel
theorem dX3_entry_63 : decode cX3_entry 63 = .ok (.invokestatic 104, 3) := by decide +kernel
theorem dX3_entry_66 : decode cX3_entry 66 = .ok (.ireturn, 1) := by decide +kernel
theorem dX3_entry_67 : decode cX3_entry 67 = .ok (.aload_n 0, 1) := by decide +kernel
theorem dX3_entry_68 : decode cX3_entry 68 = .ok (.getfield 10, 3) := by decide +kernel
theorem dX3_entry_71 : decode cX3_entry 71 = .ok (.iload_n 1, 1) := by decide +kernel
theorem dX3_entry_72 : decode cX3_entry 72 = .ok (.invokevirtual 69, 3) := by decide +kernel
theorem dX3_entry_75 : decode cX3_entry 75 = .ok (.ifCond .eq 7, 3) := by decide +kernel
theorem dX3_entry_78 : decode cX3_entry 78 = .ok (.iconst 1, 1) := by decide +kernel
theorem dX3_entry_79 : decode cX3_entry 79 = .ok (.goto 4, 3) := by decide +kernel
theorem dX3_entry_82 : decode cX3_entry 82 = .ok (.iconst 0, 1) := by decide +kernel
theorem dX3_entry_83 : decode cX3_entry 83 = .ok (.ireturn, 1) := by decide +kernel
theorem dX3_entry_84 : decode cX3_entry 84 = .ok (.aload_n 0, 1) := by decide +kernel
theorem dX3_entry_85 : decode cX3_entry 85 = .ok (.getfield 10, 3) := by decide +kernel
theorem dX3_entry_88 : decode cX3_entry 88 = .ok (.iload_n 1, 1) := by decide +kernel
theorem dX3_entry_89 : decode cX3_entry 89 = .ok (.invokevirtual 59, 3) := by decide +kernel
theorem dX3_entry_92 : decode cX3_entry 92 = .ok (.ireturn, 1) := by decide +kernel
set_option maxRecDepth 20000 in
theorem ggX3_register_X3_demandRegister : GoodIn wsX3_register wsX3_demandRegister := goodIn_ca (goodIn_r _ [6, 7, 8] (by decide +kernel) (by decide +kernel)) (goodIn_sub (fun _ h => List.mem_cons_of_mem _ (List.mem_append_right _ h)) (by decide +kernel))
set_option maxRecDepth 20000 in
theorem gX3_register_X3_demandRegister : GoodIn wsX3_register (va_wsS RX3 73 yX3_demandRegister wsX3_demandRegister) := goodIn_app (goodIn_of _ (by decide +kernel)) ggX3_register_X3_demandRegister
theorem dX3_register_0 : decode cX3_register 0 = .ok (.iload_n 1, 1) := by decide +kernel
theorem dX3_register_1 : decode cX3_register 1 = .ok (.invokestatic 73, 3) := by decide +kernel
theorem dX3_register_4 : decode cX3_register 4 = .ok (.aload_n 0, 1) := by decide +kernel
theorem dX3_register_5 : decode cX3_register 5 = .ok (.getfield 10, 3) := by decide +kernel
theorem dX3_register_8 : decode cX3_register 8 = .ok (.getfield 79, 3) := by decide +kernel
theorem dX3_register_11 : decode cX3_register 11 = .ok (.iload_n 1, 1) := by decide +kernel
theorem dX3_register_12 : decode cX3_register 12 = .ok (.iaload, 1) := by decide +kernel
theorem dX3_register_13 : decode cX3_register 13 = .ok (.ireturn, 1) := by decide +kernel
set_option maxRecDepth 20000 in
theorem ggX3_value_X3_demandRange : GoodIn wsX3_value wsX3_demandRange := goodIn_ca (goodIn_r _ [5, 6, 7] (by decide +kernel) (by decide +kernel)) (goodIn_sub (fun _ h => List.mem_cons_of_mem _ (List.mem_append_right _ h)) (by decide +kernel))
set_option maxRecDepth 20000 in
theorem gX3_value_X3_demandRange : GoodIn wsX3_value (va_wsS RX3 34 yX3_demandRange wsX3_demandRange) := goodIn_app (goodIn_of _ (by decide +kernel)) ggX3_value_X3_demandRange
set_option maxRecDepth 20000 in
theorem ggX3_value_X2_number : GoodIn wsX3_value wsX2_number := goodIn_r _ [12, 13, 14, 15, 16, 17, 11, 18, 19, 20, 21, 22, 23, 24, 25, 26, 27, 28, 4, 29, 30, 31, 32, 33, 34, 35, 36, 37, 38, 39, 40, 41, 42, 43, 44, 45, 46, 47, 48, 49, 50, 51, 52, 53, 54, 55, 60, 61, 62, 63, 64] (by decide +kernel) (by decide +kernel)
set_option maxRecDepth 20000 in
theorem gX3_value_X2_number : GoodIn wsX3_value (wsV RX3 107 RX2 yX2_number wsX2_number) := goodIn_app (goodIn_of _ (by decide +kernel)) ggX3_value_X2_number
theorem dX3_value_0 : decode cX3_value 0 = .ok (.iload_n 1, 1) := by decide +kernel
theorem dX3_value_1 : decode cX3_value 1 = .ok (.iconst 0, 1) := by decide +kernel
theorem dX3_value_2 : decode cX3_value 2 = .ok (.bipush 7, 2) := by decide +kernel
theorem dX3_value_4 : decode cX3_value 4 = .ok (.invokestatic 34, 3) := by decide +kernel
theorem dX3_value_7 : decode cX3_value 7 = .ok (.aload_n 0, 1) := by decide +kernel
theorem dX3_value_8 : decode cX3_value 8 = .ok (.getfield 10, 3) := by decide +kernel
theorem dX3_value_11 : decode cX3_value 11 = .ok (.iload_n 1, 1) := by decide +kernel
theorem dX3_value_12 : decode cX3_value 12 = .ok (.invokevirtual 107, 3) := by decide +kernel
theorem dX3_value_15 : decode cX3_value 15 = .ok (.ireturn, 1) := by decide +kernel
theorem dX3_account_0 : decode cX3_account 0 = .ok (.aload_n 0, 1) := by decide +kernel
theorem dX3_account_1 : decode cX3_account 1 = .ok (.getfield 10, 3) := by decide +kernel
theorem dX3_account_4 : decode cX3_account 4 = .ok (.getfield 82, 3) := by decide +kernel
theorem dX3_account_7 : decode cX3_account 7 = .ok (.lreturn, 1) := by decide +kernel
set_option maxRecDepth 20000 in
theorem ggX3_wrongPairs_X3_countWrongPairs : GoodIn wsX3_wrongPairs wsX3_countWrongPairs := goodIn_r _ [5, 6, 7, 8, 9, 10, 11, 12, 13, 14, 15, 16, 17, 18, 19, 20, 21, 22, 23, 24, 25, 26, 27, 4, 28, 29, 30, 31, 32, 33, 34, 35, 36, 37, 38, 39, 40, 41, 42, 43, 44, 45, 46, 47, 48, 49, 50] (by decide +kernel) (by decide +kernel)
set_option maxRecDepth 20000 in
theorem gX3_wrongPairs_X3_countWrongPairs : GoodIn wsX3_wrongPairs (wsV RX3 110 RX3 yX3_countWrongPairs wsX3_countWrongPairs) := goodIn_app (goodIn_of _ (by decide +kernel)) ggX3_wrongPairs_X3_countWrongPairs
theorem dX3_wrongPairs_0 : decode cX3_wrongPairs 0 = .ok (.aload_n 0, 1) := by decide +kernel
theorem dX3_wrongPairs_1 : decode cX3_wrongPairs 1 = .ok (.invokevirtual 110, 3) := by decide +kernel
theorem dX3_wrongPairs_4 : decode cX3_wrongPairs 4 = .ok (.ireturn, 1) := by decide +kernel
set_option maxRecDepth 20000 in
theorem ggX3_wrongPairsWith_X3_demandEntry : GoodIn wsX3_wrongPairsWith wsX3_demandEntry := goodIn_ca (goodIn_r _ [6, 7, 8, 9, 10, 11, 12, 13, 14, 15, 16, 17, 18, 19, 49, 50, 51, 52, 53, 54, 55, 56, 57] (by decide +kernel) (by decide +kernel)) (goodIn_sub (fun _ h => List.mem_cons_of_mem _ (List.mem_append_right _ h)) (by decide +kernel))
set_option maxRecDepth 20000 in
theorem gX3_wrongPairsWith_X3_demandEntry : GoodIn wsX3_wrongPairsWith (wsV RX3 53 RX3 yX3_demandEntry wsX3_demandEntry) := goodIn_app (goodIn_of _ (by decide +kernel)) ggX3_wrongPairsWith_X3_demandEntry
set_option maxRecDepth 20000 in
theorem ggX3_wrongPairsWith_X3_countWrongPairs : GoodIn wsX3_wrongPairsWith wsX3_countWrongPairs := goodIn_r _ [23, 1, 9, 24, 25, 26, 27, 28, 29, 30, 13, 31, 32, 33, 11, 12, 14, 15, 16, 17, 18, 19, 34, 5, 35, 36, 37, 38, 39, 40, 41, 42, 43, 44, 45, 46, 47, 48, 49, 50, 51, 52, 53, 54, 55, 56, 57] (by decide +kernel) (by decide +kernel)
set_option maxRecDepth 20000 in
theorem gX3_wrongPairsWith_X3_countWrongPairs : GoodIn wsX3_wrongPairsWith (wsV RX3 110 RX3 yX3_countWrongPairs wsX3_countWrongPairs) := goodIn_app (goodIn_of _ (by decide +kernel)) ggX3_wrongPairsWith_X3_countWrongPairs
theorem dX3_wrongPairsWith_0 : decode cX3_wrongPairsWith 0 = .ok (.aload_n 0, 1) := by decide +kernel
theorem dX3_wrongPairsWith_1 : decode cX3_wrongPairsWith 1 = .ok (.iload_n 1, 1) := by decide +kernel
theorem dX3_wrongPairsWith_2 : decode cX3_wrongPairsWith 2 = .ok (.invokevirtual 53, 3) := by decide +kernel
theorem dX3_wrongPairsWith_5 : decode cX3_wrongPairsWith 5 = .ok (.aload_n 0, 1) := by decide +kernel
theorem dX3_wrongPairsWith_6 : decode cX3_wrongPairsWith 6 = .ok (.invokevirtual 110, 3) := by decide +kernel
theorem dX3_wrongPairsWith_9 : decode cX3_wrongPairsWith 9 = .ok (.pop, 1) := by decide +kernel
theorem dX3_wrongPairsWith_10 : decode cX3_wrongPairsWith 10 = .ok (.aload_n 0, 1) := by decide +kernel
theorem dX3_wrongPairsWith_11 : decode cX3_wrongPairsWith 11 = .ok (.getfield 30, 3) := by decide +kernel
theorem dX3_wrongPairsWith_14 : decode cX3_wrongPairsWith 14 = .ok (.iload_n 1, 1) := by decide +kernel
theorem dX3_wrongPairsWith_15 : decode cX3_wrongPairsWith 15 = .ok (.iaload, 1) := by decide +kernel
theorem dX3_wrongPairsWith_16 : decode cX3_wrongPairsWith 16 = .ok (.ireturn, 1) := by decide +kernel
set_option maxRecDepth 20000 in
theorem ggX3_firstWrong_X2_firstWrongPair : GoodIn wsX3_firstWrong wsX2_firstWrongPair := goodIn_r _ [6, 7, 8, 9, 5, 10, 11, 12, 13, 14, 15, 16, 17, 18, 19, 20, 21, 22, 23, 24, 25, 26, 27, 28, 29, 30, 31, 32, 33, 34, 35, 40, 41, 42, 43, 44] (by decide +kernel) (by decide +kernel)
set_option maxRecDepth 20000 in
theorem gX3_firstWrong_X2_firstWrongPair : GoodIn wsX3_firstWrong (wsV RX3 113 RX2 yX2_firstWrongPair wsX2_firstWrongPair) := goodIn_app (goodIn_of _ (by decide +kernel)) ggX3_firstWrong_X2_firstWrongPair
theorem dX3_firstWrong_0 : decode cX3_firstWrong 0 = .ok (.aload_n 0, 1) := by decide +kernel
theorem dX3_firstWrong_1 : decode cX3_firstWrong 1 = .ok (.getfield 10, 3) := by decide +kernel
theorem dX3_firstWrong_4 : decode cX3_firstWrong 4 = .ok (.invokevirtual 113, 3) := by decide +kernel
theorem dX3_firstWrong_7 : decode cX3_firstWrong 7 = .ok (.ireturn, 1) := by decide +kernel
set_option maxRecDepth 20000 in
theorem ggX3_suspect_X3_countWrongPairs : GoodIn wsX3_suspect wsX3_countWrongPairs := goodIn_r _ [7, 2, 1, 8, 9, 10, 11, 12, 13, 14, 15, 16, 17, 18, 19, 20, 21, 22, 23, 24, 25, 26, 27, 6, 28, 29, 30, 31, 32, 33, 34, 35, 36, 37, 38, 39, 40, 41, 43, 44, 45, 46, 47, 48, 49, 50, 51] (by decide +kernel) (by decide +kernel)
set_option maxRecDepth 20000 in
theorem gX3_suspect_X3_countWrongPairs : GoodIn wsX3_suspect (wsV RX3 110 RX3 yX3_countWrongPairs wsX3_countWrongPairs) := goodIn_app (goodIn_of _ (by decide +kernel)) ggX3_suspect_X3_countWrongPairs
set_option maxRecDepth 20000 in
theorem ggX3_suspect_X2_entries : GoodIn wsX3_suspect wsX2_entries := goodIn_r _ [21, 22, 23, 24, 15, 25, 26, 47, 48, 49, 50, 51] (by decide +kernel) (by decide +kernel)
set_option maxRecDepth 20000 in
theorem gX3_suspect_X2_entries : GoodIn wsX3_suspect (wsV RX3 66 RX2 yX2_entries wsX2_entries) := goodIn_app (goodIn_of _ (by decide +kernel)) ggX3_suspect_X2_entries
theorem dX3_suspect_0 : decode cX3_suspect 0 = .ok (.aload_n 0, 1) := by decide +kernel
theorem dX3_suspect_1 : decode cX3_suspect 1 = .ok (.invokevirtual 110, 3) := by decide +kernel
theorem dX3_suspect_4 : decode cX3_suspect 4 = .ok (.pop, 1) := by decide +kernel
theorem dX3_suspect_5 : decode cX3_suspect 5 = .ok (.iconst (-1), 1) := by decide +kernel
theorem dX3_suspect_6 : decode cX3_suspect 6 = .ok (.istore_n 1, 1) := by decide +kernel
theorem dX3_suspect_7 : decode cX3_suspect 7 = .ok (.iconst 0, 1) := by decide +kernel
theorem dX3_suspect_8 : decode cX3_suspect 8 = .ok (.istore_n 2, 1) := by decide +kernel
theorem dX3_suspect_9 : decode cX3_suspect 9 = .ok (.iconst 0, 1) := by decide +kernel
theorem dX3_suspect_10 : decode cX3_suspect 10 = .ok (.istore_n 3, 1) := by decide +kernel
theorem dX3_suspect_11 : decode cX3_suspect 11 = .ok (.iload_n 3, 1) := by decide +kernel
theorem dX3_suspect_12 : decode cX3_suspect 12 = .ok (.aload_n 0, 1) := by decide +kernel
theorem dX3_suspect_13 : decode cX3_suspect 13 = .ok (.getfield 10, 3) := by decide +kernel
theorem dX3_suspect_16 : decode cX3_suspect 16 = .ok (.invokevirtual 66, 3) := by decide +kernel
theorem dX3_suspect_19 : decode cX3_suspect 19 = .ok (.if_icmp .ge 28, 3) := by decide +kernel
theorem dX3_suspect_22 : decode cX3_suspect 22 = .ok (.aload_n 0, 1) := by decide +kernel
theorem dX3_suspect_23 : decode cX3_suspect 23 = .ok (.getfield 30, 3) := by decide +kernel
theorem dX3_suspect_26 : decode cX3_suspect 26 = .ok (.iload_n 3, 1) := by decide +kernel
theorem dX3_suspect_27 : decode cX3_suspect 27 = .ok (.iaload, 1) := by decide +kernel
theorem dX3_suspect_28 : decode cX3_suspect 28 = .ok (.iload_n 2, 1) := by decide +kernel
theorem dX3_suspect_29 : decode cX3_suspect 29 = .ok (.if_icmp .le 12, 3) := by decide +kernel
theorem dX3_suspect_32 : decode cX3_suspect 32 = .ok (.aload_n 0, 1) := by decide +kernel
theorem dX3_suspect_33 : decode cX3_suspect 33 = .ok (.getfield 30, 3) := by decide +kernel
theorem dX3_suspect_36 : decode cX3_suspect 36 = .ok (.iload_n 3, 1) := by decide +kernel
theorem dX3_suspect_37 : decode cX3_suspect 37 = .ok (.iaload, 1) := by decide +kernel
theorem dX3_suspect_38 : decode cX3_suspect 38 = .ok (.istore_n 2, 1) := by decide +kernel
theorem dX3_suspect_39 : decode cX3_suspect 39 = .ok (.iload_n 3, 1) := by decide +kernel
theorem dX3_suspect_40 : decode cX3_suspect 40 = .ok (.istore_n 1, 1) := by decide +kernel
theorem dX3_suspect_41 : decode cX3_suspect 41 = .ok (.iinc 3 1, 3) := by decide +kernel
theorem dX3_suspect_44 : decode cX3_suspect 44 = .ok (.goto (-33), 3) := by decide +kernel
theorem dX3_suspect_47 : decode cX3_suspect 47 = .ok (.iload_n 1, 1) := by decide +kernel
theorem dX3_suspect_48 : decode cX3_suspect 48 = .ok (.ireturn, 1) := by decide +kernel
set_option maxRecDepth 20000 in
theorem ggX3_cheaperPairs_X3_demandMethod : GoodIn wsX3_cheaperPairs wsX3_demandMethod := goodIn_ca (goodIn_r _ [5, 6, 7, 4, 8, 9, 10] (by decide +kernel) (by decide +kernel)) (goodIn_sub (fun _ h => List.mem_cons_of_mem _ (List.mem_append_right _ h)) (by decide +kernel))
set_option maxRecDepth 20000 in
theorem gX3_cheaperPairs_X3_demandMethod : GoodIn wsX3_cheaperPairs (va_wsS RX3 86 yX3_demandMethod wsX3_demandMethod) := goodIn_app (goodIn_of _ (by decide +kernel)) ggX3_cheaperPairs_X3_demandMethod
set_option maxRecDepth 20000 in
theorem ggX3_cheaperPairs_X2_greatest : GoodIn wsX3_cheaperPairs wsX2_greatest := goodIn_r _ [15, 16, 37, 38, 39, 40, 41] (by decide +kernel) (by decide +kernel)
set_option maxRecDepth 20000 in
theorem gX3_cheaperPairs_X2_greatest : GoodIn wsX3_cheaperPairs (wsV RX3 116 RX2 yX2_greatest wsX2_greatest) := goodIn_app (goodIn_of _ (by decide +kernel)) ggX3_cheaperPairs_X2_greatest
set_option maxRecDepth 20000 in
theorem ggX3_cheaperPairs_X2_price : GoodIn wsX3_cheaperPairs wsX2_price := goodIn_r _ [20, 21, 22, 23, 24, 14, 25, 26, 27, 28, 29, 30, 31, 32, 37, 38, 39, 40, 41] (by decide +kernel) (by decide +kernel)
set_option maxRecDepth 20000 in
theorem gX3_cheaperPairs_X2_price : GoodIn wsX3_cheaperPairs (wsV RX3 93 RX2 yX2_price wsX2_price) := goodIn_app (goodIn_of _ (by decide +kernel)) ggX3_cheaperPairs_X2_price
theorem dX3_cheaperPairs_0 : decode cX3_cheaperPairs 0 = .ok (.iload_n 1, 1) := by decide +kernel
theorem dX3_cheaperPairs_1 : decode cX3_cheaperPairs 1 = .ok (.invokestatic 86, 3) := by decide +kernel
theorem dX3_cheaperPairs_4 : decode cX3_cheaperPairs 4 = .ok (.iload_n 2, 1) := by decide +kernel
theorem dX3_cheaperPairs_5 : decode cX3_cheaperPairs 5 = .ok (.invokestatic 86, 3) := by decide +kernel
theorem dX3_cheaperPairs_8 : decode cX3_cheaperPairs 8 = .ok (.aload_n 0, 1) := by decide +kernel
theorem dX3_cheaperPairs_9 : decode cX3_cheaperPairs 9 = .ok (.getfield 10, 3) := by decide +kernel
theorem dX3_cheaperPairs_12 : decode cX3_cheaperPairs 12 = .ok (.invokevirtual 116, 3) := by decide +kernel
theorem dX3_cheaperPairs_15 : decode cX3_cheaperPairs 15 = .ok (.iconst 1, 1) := by decide +kernel
theorem dX3_cheaperPairs_16 : decode cX3_cheaperPairs 16 = .ok (.iadd, 1) := by decide +kernel
theorem dX3_cheaperPairs_17 : decode cX3_cheaperPairs 17 = .ok (.istore_n 3, 1) := by decide +kernel
theorem dX3_cheaperPairs_18 : decode cX3_cheaperPairs 18 = .ok (.iconst 0, 1) := by decide +kernel
theorem dX3_cheaperPairs_19 : decode cX3_cheaperPairs 19 = .ok (.istore 4, 2) := by decide +kernel
theorem dX3_cheaperPairs_21 : decode cX3_cheaperPairs 21 = .ok (.iconst 0, 1) := by decide +kernel
theorem dX3_cheaperPairs_22 : decode cX3_cheaperPairs 22 = .ok (.istore 5, 2) := by decide +kernel
theorem dX3_cheaperPairs_24 : decode cX3_cheaperPairs 24 = .ok (.iload 5, 2) := by decide +kernel
theorem dX3_cheaperPairs_26 : decode cX3_cheaperPairs 26 = .ok (.iload_n 3, 1) := by decide +kernel
theorem dX3_cheaperPairs_27 : decode cX3_cheaperPairs 27 = .ok (.if_icmp .ge 38, 3) := by decide +kernel
theorem dX3_cheaperPairs_30 : decode cX3_cheaperPairs 30 = .ok (.aload_n 0, 1) := by decide +kernel
theorem dX3_cheaperPairs_31 : decode cX3_cheaperPairs 31 = .ok (.getfield 10, 3) := by decide +kernel
theorem dX3_cheaperPairs_34 : decode cX3_cheaperPairs 34 = .ok (.iload 5, 2) := by decide +kernel
theorem dX3_cheaperPairs_36 : decode cX3_cheaperPairs 36 = .ok (.iload_n 1, 1) := by decide +kernel
theorem dX3_cheaperPairs_37 : decode cX3_cheaperPairs 37 = .ok (.invokevirtual 93, 3) := by decide +kernel
theorem dX3_cheaperPairs_40 : decode cX3_cheaperPairs 40 = .ok (.aload_n 0, 1) := by decide +kernel
theorem dX3_cheaperPairs_41 : decode cX3_cheaperPairs 41 = .ok (.getfield 10, 3) := by decide +kernel
theorem dX3_cheaperPairs_44 : decode cX3_cheaperPairs 44 = .ok (.iload 5, 2) := by decide +kernel
theorem dX3_cheaperPairs_46 : decode cX3_cheaperPairs 46 = .ok (.iload_n 2, 1) := by decide +kernel
theorem dX3_cheaperPairs_47 : decode cX3_cheaperPairs 47 = .ok (.invokevirtual 93, 3) := by decide +kernel
theorem dX3_cheaperPairs_50 : decode cX3_cheaperPairs 50 = .ok (.if_icmp .ge 9, 3) := by decide +kernel
theorem dX3_cheaperPairs_53 : decode cX3_cheaperPairs 53 = .ok (.iload 4, 2) := by decide +kernel
theorem dX3_cheaperPairs_55 : decode cX3_cheaperPairs 55 = .ok (.iload_n 3, 1) := by decide +kernel
theorem dX3_cheaperPairs_56 : decode cX3_cheaperPairs 56 = .ok (.iadd, 1) := by decide +kernel
theorem dX3_cheaperPairs_57 : decode cX3_cheaperPairs 57 = .ok (.istore 4, 2) := by decide +kernel
theorem dX3_cheaperPairs_59 : decode cX3_cheaperPairs 59 = .ok (.iinc 5 1, 3) := by decide +kernel
theorem dX3_cheaperPairs_62 : decode cX3_cheaperPairs 62 = .ok (.goto (-38), 3) := by decide +kernel
theorem dX3_cheaperPairs_65 : decode cX3_cheaperPairs 65 = .ok (.iload 4, 2) := by decide +kernel
theorem dX3_cheaperPairs_67 : decode cX3_cheaperPairs 67 = .ok (.ireturn, 1) := by decide +kernel
set_option maxRecDepth 20000 in
theorem ggX3_append_X3_demandRange : GoodIn wsX3_append wsX3_demandRange := goodIn_ca (goodIn_r _ [9, 10, 11] (by decide +kernel) (by decide +kernel)) (goodIn_sub (fun _ h => List.mem_cons_of_mem _ (List.mem_append_right _ h)) (by decide +kernel))
set_option maxRecDepth 20000 in
theorem gX3_append_X3_demandRange : GoodIn wsX3_append (va_wsS RX3 34 yX3_demandRange wsX3_demandRange) := goodIn_app (goodIn_of _ (by decide +kernel)) ggX3_append_X3_demandRange
theorem dX3_append_0 : decode cX3_append 0 = .ok (.iload_n 1, 1) := by decide +kernel
theorem dX3_append_1 : decode cX3_append 1 = .ok (.iconst 0, 1) := by decide +kernel
theorem dX3_append_2 : decode cX3_append 2 = .ok (.bipush 127, 2) := by decide +kernel
theorem dX3_append_4 : decode cX3_append 4 = .ok (.invokestatic 34, 3) := by decide +kernel
theorem dX3_append_7 : decode cX3_append 7 = .ok (.aload_n 0, 1) := by decide +kernel
theorem dX3_append_8 : decode cX3_append 8 = .ok (.getfield 26, 3) := by decide +kernel
theorem dX3_append_11 : decode cX3_append 11 = .ok (.getfield 119, 3) := by decide +kernel
theorem dX3_append_14 : decode cX3_append 14 = .ok (.bipush 100, 2) := by decide +kernel
theorem dX3_append_16 : decode cX3_append 16 = .ok (.if_icmp .lt 13, 3) := by decide +kernel
theorem dX3_append_19 : decode cX3_append 19 = .ok (.new 123, 3) := by decide +kernel
theorem dX3_append_22 : decode cX3_append 22 = .ok (.dup, 1) := by decide +kernel
theorem dX3_append_23 : decode cX3_append 23 = .ok (.ldc 125, 2) := by decide +kernel
theorem dX3_append_25 : decode cX3_append 25 = .ok (.invokespecial 127, 3) := by decide +kernel
theorem dX3_append_28 : decode cX3_append 28 = .ok (.athrow, 1) := by decide +kernel
theorem dX3_append_29 : decode cX3_append 29 = .ok (.aload_n 0, 1) := by decide +kernel
theorem dX3_append_30 : decode cX3_append 30 = .ok (.getfield 26, 3) := by decide +kernel
theorem dX3_append_33 : decode cX3_append 33 = .ok (.getfield 130, 3) := by decide +kernel
theorem dX3_append_36 : decode cX3_append 36 = .ok (.aload_n 0, 1) := by decide +kernel
theorem dX3_append_37 : decode cX3_append 37 = .ok (.getfield 26, 3) := by decide +kernel
theorem dX3_append_40 : decode cX3_append 40 = .ok (.getfield 119, 3) := by decide +kernel
theorem dX3_append_43 : decode cX3_append 43 = .ok (.iload_n 1, 1) := by decide +kernel
theorem dX3_append_44 : decode cX3_append 44 = .ok (.iastore, 1) := by decide +kernel
theorem dX3_append_45 : decode cX3_append 45 = .ok (.aload_n 0, 1) := by decide +kernel
theorem dX3_append_46 : decode cX3_append 46 = .ok (.getfield 26, 3) := by decide +kernel
theorem dX3_append_49 : decode cX3_append 49 = .ok (.dup, 1) := by decide +kernel
theorem dX3_append_50 : decode cX3_append 50 = .ok (.getfield 119, 3) := by decide +kernel
theorem dX3_append_53 : decode cX3_append 53 = .ok (.iconst 1, 1) := by decide +kernel
theorem dX3_append_54 : decode cX3_append 54 = .ok (.iadd, 1) := by decide +kernel
theorem dX3_append_55 : decode cX3_append 55 = .ok (.putfield 119, 3) := by decide +kernel
theorem dX3_append_58 : decode cX3_append 58 = .ok (.aload_n 0, 1) := by decide +kernel
theorem dX3_append_59 : decode cX3_append 59 = .ok (.getfield 26, 3) := by decide +kernel
theorem dX3_append_62 : decode cX3_append 62 = .ok (.getfield 119, 3) := by decide +kernel
theorem dX3_append_65 : decode cX3_append 65 = .ok (.ireturn, 1) := by decide +kernel
theorem dX3_clearText_0 : decode cX3_clearText 0 = .ok (.aload_n 0, 1) := by decide +kernel
theorem dX3_clearText_1 : decode cX3_clearText 1 = .ok (.getfield 26, 3) := by decide +kernel
theorem dX3_clearText_4 : decode cX3_clearText 4 = .ok (.getfield 119, 3) := by decide +kernel
theorem dX3_clearText_7 : decode cX3_clearText 7 = .ok (.istore_n 1, 1) := by decide +kernel
theorem dX3_clearText_8 : decode cX3_clearText 8 = .ok (.aload_n 0, 1) := by decide +kernel
theorem dX3_clearText_9 : decode cX3_clearText 9 = .ok (.getfield 26, 3) := by decide +kernel
theorem dX3_clearText_12 : decode cX3_clearText 12 = .ok (.iconst 0, 1) := by decide +kernel
theorem dX3_clearText_13 : decode cX3_clearText 13 = .ok (.putfield 119, 3) := by decide +kernel
theorem dX3_clearText_16 : decode cX3_clearText 16 = .ok (.iload_n 1, 1) := by decide +kernel
theorem dX3_clearText_17 : decode cX3_clearText 17 = .ok (.ireturn, 1) := by decide +kernel
set_option maxRecDepth 20000 in
theorem ggX3_run_X1_parse : GoodIn wsX3_run wsX1_parse := goodIn_r _ [14, 15, 16, 17, 18, 19, 20, 13, 21, 22, 23, 24, 25, 26, 27, 28, 29, 30, 31, 32, 33, 34, 35, 36, 37, 38, 39, 40, 41, 42, 43, 44, 45, 46, 47, 48, 49, 50, 51, 52, 53, 54, 55, 56, 57, 58, 59, 60, 61, 62, 63, 64, 137, 138, 139, 140, 141, 142, 143, 144, 145, 146, 147, 148, 149] (by decide +kernel) (by decide +kernel)
set_option maxRecDepth 20000 in
theorem gX3_run_X1_parse : GoodIn wsX3_run (wsV RX3 133 RX1 yX1_parse wsX1_parse) := goodIn_app (goodIn_of _ (by decide +kernel)) ggX3_run_X1_parse
set_option maxRecDepth 20000 in
theorem ggX3_run_X0_keep : GoodIn wsX3_run wsX0_keep := goodIn_r _ [69, 70, 71, 72, 73, 74, 75, 76, 77, 78, 79, 80, 81, 82, 83, 84, 85, 86, 87, 88, 89, 90, 155, 156, 157, 150, 151, 152, 153, 154] (by decide +kernel) (by decide +kernel)
set_option maxRecDepth 20000 in
theorem gX3_run_X0_keep : GoodIn wsX3_run (wsV RX3 38 RX0 yX0_keep wsX0_keep) := goodIn_app (goodIn_of _ (by decide +kernel)) ggX3_run_X0_keep
set_option maxRecDepth 20000 in
theorem ggX3_run_X2_execute : GoodIn wsX3_run wsX2_execute := goodIn_r _ [94, 90, 95, 96, 97, 80, 98, 82, 99, 100, 101, 102, 103, 74, 75, 76, 104, 105, 106, 107, 108, 109, 110, 89, 111, 112, 113, 114, 115, 116, 117, 84, 118, 119, 120, 121, 122, 123, 124, 125, 126, 127, 128, 129, 130, 131, 132, 150, 151, 152, 153, 154] (by decide +kernel) (by decide +kernel)
set_option maxRecDepth 20000 in
theorem gX3_run_X2_execute : GoodIn wsX3_run (wsV RX3 151 RX2 yX2_execute wsX2_execute) := goodIn_app (goodIn_of _ (by decide +kernel)) ggX3_run_X2_execute
theorem dX3_run_0 : decode cX3_run 0 = .ok (.aload_n 0, 1) := by decide +kernel
theorem dX3_run_1 : decode cX3_run 1 = .ok (.getfield 26, 3) := by decide +kernel
theorem dX3_run_4 : decode cX3_run 4 = .ok (.invokevirtual 133, 3) := by decide +kernel
theorem dX3_run_7 : decode cX3_run 7 = .ok (.istore_n 1, 1) := by decide +kernel
theorem dX3_run_8 : decode cX3_run 8 = .ok (.iload_n 1, 1) := by decide +kernel
theorem dX3_run_9 : decode cX3_run 9 = .ok (.iconst (-1), 1) := by decide +kernel
theorem dX3_run_10 : decode cX3_run 10 = .ok (.if_icmp .eq 8, 3) := by decide +kernel
theorem dX3_run_13 : decode cX3_run 13 = .ok (.bipush (-10), 2) := by decide +kernel
theorem dX3_run_15 : decode cX3_run 15 = .ok (.iload_n 1, 1) := by decide +kernel
theorem dX3_run_16 : decode cX3_run 16 = .ok (.isub, 1) := by decide +kernel
theorem dX3_run_17 : decode cX3_run 17 = .ok (.ireturn, 1) := by decide +kernel
theorem dX3_run_18 : decode cX3_run 18 = .ok (.aload_n 0, 1) := by decide +kernel
theorem dX3_run_19 : decode cX3_run 19 = .ok (.getfield 19, 3) := by decide +kernel
theorem dX3_run_22 : decode cX3_run 22 = .ok (.aload_n 0, 1) := by decide +kernel
theorem dX3_run_23 : decode cX3_run 23 = .ok (.getfield 10, 3) := by decide +kernel
theorem dX3_run_26 : decode cX3_run 26 = .ok (.invokevirtual 38, 3) := by decide +kernel
theorem dX3_run_29 : decode cX3_run 29 = .ok (.iconst 0, 1) := by decide +kernel
theorem dX3_run_30 : decode cX3_run 30 = .ok (.istore_n 2, 1) := by decide +kernel
theorem dX3_run_31 : decode cX3_run 31 = .ok (.iconst 0, 1) := by decide +kernel
theorem dX3_run_32 : decode cX3_run 32 = .ok (.istore_n 3, 1) := by decide +kernel
theorem dX3_run_33 : decode cX3_run 33 = .ok (.iload_n 3, 1) := by decide +kernel
theorem dX3_run_34 : decode cX3_run 34 = .ok (.aload_n 0, 1) := by decide +kernel
theorem dX3_run_35 : decode cX3_run 35 = .ok (.getfield 26, 3) := by decide +kernel
theorem dX3_run_38 : decode cX3_run 38 = .ok (.getfield 136, 3) := by decide +kernel
theorem dX3_run_41 : decode cX3_run 41 = .ok (.if_icmp .ge 55, 3) := by decide +kernel
theorem dX3_run_44 : decode cX3_run 44 = .ok (.iload_n 2, 1) := by decide +kernel
theorem dX3_run_45 : decode cX3_run 45 = .ok (.aload_n 0, 1) := by decide +kernel
theorem dX3_run_46 : decode cX3_run 46 = .ok (.getfield 10, 3) := by decide +kernel
theorem dX3_run_49 : decode cX3_run 49 = .ok (.aload_n 0, 1) := by decide +kernel
theorem dX3_run_50 : decode cX3_run 50 = .ok (.getfield 26, 3) := by decide +kernel
theorem dX3_run_53 : decode cX3_run 53 = .ok (.getfield 139, 3) := by decide +kernel
theorem dX3_run_56 : decode cX3_run 56 = .ok (.iload_n 3, 1) := by decide +kernel
theorem dX3_run_57 : decode cX3_run 57 = .ok (.iaload, 1) := by decide +kernel
theorem dX3_run_58 : decode cX3_run 58 = .ok (.aload_n 0, 1) := by decide +kernel
theorem dX3_run_59 : decode cX3_run 59 = .ok (.getfield 26, 3) := by decide +kernel
theorem dX3_run_62 : decode cX3_run 62 = .ok (.getfield 142, 3) := by decide +kernel
theorem dX3_run_65 : decode cX3_run 65 = .ok (.iload_n 3, 1) := by decide +kernel
theorem dX3_run_66 : decode cX3_run 66 = .ok (.iaload, 1) := by decide +kernel
theorem dX3_run_67 : decode cX3_run 67 = .ok (.aload_n 0, 1) := by decide +kernel
theorem dX3_run_68 : decode cX3_run 68 = .ok (.getfield 26, 3) := by decide +kernel
theorem dX3_run_71 : decode cX3_run 71 = .ok (.getfield 145, 3) := by decide +kernel
theorem dX3_run_74 : decode cX3_run 74 = .ok (.iload_n 3, 1) := by decide +kernel
theorem dX3_run_75 : decode cX3_run 75 = .ok (.iaload, 1) := by decide +kernel
theorem dX3_run_76 : decode cX3_run 76 = .ok (.aload_n 0, 1) := by decide +kernel
theorem dX3_run_77 : decode cX3_run 77 = .ok (.getfield 26, 3) := by decide +kernel
theorem dX3_run_80 : decode cX3_run 80 = .ok (.getfield 148, 3) := by decide +kernel
theorem dX3_run_83 : decode cX3_run 83 = .ok (.iload_n 3, 1) := by decide +kernel
theorem dX3_run_84 : decode cX3_run 84 = .ok (.iaload, 1) := by decide +kernel
theorem dX3_run_85 : decode cX3_run 85 = .ok (.invokevirtual 151, 3) := by decide +kernel
theorem dX3_run_88 : decode cX3_run 88 = .ok (.iadd, 1) := by decide +kernel
theorem dX3_run_89 : decode cX3_run 89 = .ok (.istore_n 2, 1) := by decide +kernel
theorem dX3_run_90 : decode cX3_run 90 = .ok (.iinc 3 1, 3) := by decide +kernel
theorem dX3_run_93 : decode cX3_run 93 = .ok (.goto (-60), 3) := by decide +kernel
theorem dX3_run_96 : decode cX3_run 96 = .ok (.aload_n 0, 1) := by decide +kernel
theorem dX3_run_97 : decode cX3_run 97 = .ok (.getfield 10, 3) := by decide +kernel
theorem dX3_run_100 : decode cX3_run 100 = .ok (.dup, 1) := by decide +kernel
theorem dX3_run_101 : decode cX3_run 101 = .ok (.getfield 82, 3) := by decide +kernel
theorem dX3_run_104 : decode cX3_run 104 = .ok (.iload_n 2, 1) := by decide +kernel
theorem dX3_run_105 : decode cX3_run 105 = .ok (.i2l, 1) := by decide +kernel
theorem dX3_run_106 : decode cX3_run 106 = .ok (.ladd, 1) := by decide +kernel
theorem dX3_run_107 : decode cX3_run 107 = .ok (.putfield 82, 3) := by decide +kernel
theorem dX3_run_110 : decode cX3_run 110 = .ok (.iload_n 2, 1) := by decide +kernel
theorem dX3_run_111 : decode cX3_run 111 = .ok (.ireturn, 1) := by decide +kernel
set_option maxRecDepth 20000 in
theorem ggX3_undo_X0_restore : GoodIn wsX3_undo wsX0_restore := goodIn_r _ [10, 11, 12, 13, 14, 15, 16, 17, 18, 19, 20, 21, 22, 23, 24, 25, 26, 27, 32, 33, 34, 35, 36, 37, 38, 39] (by decide +kernel) (by decide +kernel)
set_option maxRecDepth 20000 in
theorem gX3_undo_X0_restore : GoodIn wsX3_undo (wsV RX3 160 RX0 yX0_restore wsX0_restore) := goodIn_app (goodIn_of _ (by decide +kernel)) ggX3_undo_X0_restore
theorem dX3_undo_0 : decode cX3_undo 0 = .ok (.aload_n 0, 1) := by decide +kernel
theorem dX3_undo_1 : decode cX3_undo 1 = .ok (.getfield 19, 3) := by decide +kernel
theorem dX3_undo_4 : decode cX3_undo 4 = .ok (.getfield 155, 3) := by decide +kernel
theorem dX3_undo_7 : decode cX3_undo 7 = .ok (.ifCond .ne 13, 3) := by decide +kernel
theorem dX3_undo_10 : decode cX3_undo 10 = .ok (.new 123, 3) := by decide +kernel
theorem dX3_undo_13 : decode cX3_undo 13 = .ok (.dup, 1) := by decide +kernel
theorem dX3_undo_14 : decode cX3_undo 14 = .ok (.ldc 158, 2) := by decide +kernel
theorem dX3_undo_16 : decode cX3_undo 16 = .ok (.invokespecial 127, 3) := by decide +kernel
theorem dX3_undo_19 : decode cX3_undo 19 = .ok (.athrow, 1) := by decide +kernel
theorem dX3_undo_20 : decode cX3_undo 20 = .ok (.aload_n 0, 1) := by decide +kernel
theorem dX3_undo_21 : decode cX3_undo 21 = .ok (.getfield 19, 3) := by decide +kernel
theorem dX3_undo_24 : decode cX3_undo 24 = .ok (.aload_n 0, 1) := by decide +kernel
theorem dX3_undo_25 : decode cX3_undo 25 = .ok (.getfield 10, 3) := by decide +kernel
theorem dX3_undo_28 : decode cX3_undo 28 = .ok (.invokevirtual 160, 3) := by decide +kernel
theorem dX3_undo_31 : decode cX3_undo 31 = .ok (.aload_n 0, 1) := by decide +kernel
theorem dX3_undo_32 : decode cX3_undo 32 = .ok (.getfield 19, 3) := by decide +kernel
theorem dX3_undo_35 : decode cX3_undo 35 = .ok (.getfield 155, 3) := by decide +kernel
theorem dX3_undo_38 : decode cX3_undo 38 = .ok (.ireturn, 1) := by decide +kernel
set_option maxRecDepth 20000 in
theorem ggX3_digest_X2_number : GoodIn wsX3_digest wsX2_number := goodIn_r _ [15, 16, 17, 18, 19, 20, 14, 21, 22, 23, 24, 25, 26, 27, 28, 29, 30, 31, 32, 33, 34, 35, 36, 37, 38, 39, 40, 41, 42, 43, 44, 45, 46, 47, 48, 49, 50, 51, 52, 53, 54, 55, 56, 57, 58, 59, 94, 95, 96, 97, 98] (by decide +kernel) (by decide +kernel)
set_option maxRecDepth 20000 in
theorem gX3_digest_X2_number : GoodIn wsX3_digest (wsV RX3 107 RX2 yX2_number wsX2_number) := goodIn_app (goodIn_of _ (by decide +kernel)) ggX3_digest_X2_number
set_option maxRecDepth 20000 in
theorem ggX3_digest_X2_entries : GoodIn wsX3_digest wsX2_entries := goodIn_r _ [21, 22, 23, 24, 14, 25, 16, 94, 95, 96, 97, 98] (by decide +kernel) (by decide +kernel)
set_option maxRecDepth 20000 in
theorem gX3_digest_X2_entries : GoodIn wsX3_digest (wsV RX3 66 RX2 yX2_entries wsX2_entries) := goodIn_app (goodIn_of _ (by decide +kernel)) ggX3_digest_X2_entries
set_option maxRecDepth 20000 in
theorem ggX3_digest_X2_firstWrongPair : GoodIn wsX3_digest wsX2_firstWrongPair := goodIn_r _ [64, 26, 27, 28, 14, 29, 30, 18, 19, 20, 21, 22, 23, 24, 25, 16, 31, 32, 33, 65, 66, 67, 68, 69, 70, 71, 72, 73, 74, 75, 76, 94, 95, 96, 97, 98] (by decide +kernel) (by decide +kernel)
set_option maxRecDepth 20000 in
theorem gX3_digest_X2_firstWrongPair : GoodIn wsX3_digest (wsV RX3 113 RX2 yX2_firstWrongPair wsX2_firstWrongPair) := goodIn_app (goodIn_of _ (by decide +kernel)) ggX3_digest_X2_firstWrongPair
theorem dX3_digest_0 : decode cX3_digest 0 = .ok (.ldc2_w 163, 3) := by decide +kernel
theorem dX3_digest_3 : decode cX3_digest 3 = .ok (.aload_n 0, 1) := by decide +kernel
theorem dX3_digest_4 : decode cX3_digest 4 = .ok (.getfield 26, 3) := by decide +kernel
theorem dX3_digest_7 : decode cX3_digest 7 = .ok (.getfield 119, 3) := by decide +kernel
theorem dX3_digest_10 : decode cX3_digest 10 = .ok (.i2l, 1) := by decide +kernel
theorem dX3_digest_11 : decode cX3_digest 11 = .ok (.ladd, 1) := by decide +kernel
theorem dX3_digest_12 : decode cX3_digest 12 = .ok (.lstore_n 1, 1) := by decide +kernel
theorem dX3_digest_13 : decode cX3_digest 13 = .ok (.iconst 0, 1) := by decide +kernel
theorem dX3_digest_14 : decode cX3_digest 14 = .ok (.istore_n 3, 1) := by decide +kernel
theorem dX3_digest_15 : decode cX3_digest 15 = .ok (.iload_n 3, 1) := by decide +kernel
theorem dX3_digest_16 : decode cX3_digest 16 = .ok (.bipush 7, 2) := by decide +kernel
theorem dX3_digest_18 : decode cX3_digest 18 = .ok (.if_icmp .gt 25, 3) := by decide +kernel
theorem dX3_digest_21 : decode cX3_digest 21 = .ok (.ldc2_w 165, 3) := by decide +kernel
theorem dX3_digest_24 : decode cX3_digest 24 = .ok (.lload_n 1, 1) := by decide +kernel
theorem dX3_digest_25 : decode cX3_digest 25 = .ok (.lmul, 1) := by decide +kernel
theorem dX3_digest_26 : decode cX3_digest 26 = .ok (.aload_n 0, 1) := by decide +kernel
theorem dX3_digest_27 : decode cX3_digest 27 = .ok (.getfield 10, 3) := by decide +kernel
theorem dX3_digest_30 : decode cX3_digest 30 = .ok (.iload_n 3, 1) := by decide +kernel
theorem dX3_digest_31 : decode cX3_digest 31 = .ok (.invokevirtual 107, 3) := by decide +kernel
theorem dX3_digest_34 : decode cX3_digest 34 = .ok (.i2l, 1) := by decide +kernel
theorem dX3_digest_35 : decode cX3_digest 35 = .ok (.ladd, 1) := by decide +kernel
theorem dX3_digest_36 : decode cX3_digest 36 = .ok (.lstore_n 1, 1) := by decide +kernel
theorem dX3_digest_37 : decode cX3_digest 37 = .ok (.iinc 3 1, 3) := by decide +kernel
theorem dX3_digest_40 : decode cX3_digest 40 = .ok (.goto (-25), 3) := by decide +kernel
theorem dX3_digest_43 : decode cX3_digest 43 = .ok (.ldc2_w 165, 3) := by decide +kernel
theorem dX3_digest_46 : decode cX3_digest 46 = .ok (.lload_n 1, 1) := by decide +kernel
theorem dX3_digest_47 : decode cX3_digest 47 = .ok (.lmul, 1) := by decide +kernel
theorem dX3_digest_48 : decode cX3_digest 48 = .ok (.aload_n 0, 1) := by decide +kernel
theorem dX3_digest_49 : decode cX3_digest 49 = .ok (.getfield 10, 3) := by decide +kernel
theorem dX3_digest_52 : decode cX3_digest 52 = .ok (.getfield 82, 3) := by decide +kernel
theorem dX3_digest_55 : decode cX3_digest 55 = .ok (.ladd, 1) := by decide +kernel
theorem dX3_digest_56 : decode cX3_digest 56 = .ok (.lstore_n 1, 1) := by decide +kernel
theorem dX3_digest_57 : decode cX3_digest 57 = .ok (.iconst 0, 1) := by decide +kernel
theorem dX3_digest_58 : decode cX3_digest 58 = .ok (.istore_n 3, 1) := by decide +kernel
theorem dX3_digest_59 : decode cX3_digest 59 = .ok (.iload_n 3, 1) := by decide +kernel
theorem dX3_digest_60 : decode cX3_digest 60 = .ok (.bipush 8, 2) := by decide +kernel
theorem dX3_digest_62 : decode cX3_digest 62 = .ok (.if_icmp .ge 26, 3) := by decide +kernel
theorem dX3_digest_65 : decode cX3_digest 65 = .ok (.ldc2_w 165, 3) := by decide +kernel
theorem dX3_digest_68 : decode cX3_digest 68 = .ok (.lload_n 1, 1) := by decide +kernel
theorem dX3_digest_69 : decode cX3_digest 69 = .ok (.lmul, 1) := by decide +kernel
theorem dX3_digest_70 : decode cX3_digest 70 = .ok (.aload_n 0, 1) := by decide +kernel
theorem dX3_digest_71 : decode cX3_digest 71 = .ok (.getfield 10, 3) := by decide +kernel
theorem dX3_digest_74 : decode cX3_digest 74 = .ok (.getfield 79, 3) := by decide +kernel
theorem dX3_digest_77 : decode cX3_digest 77 = .ok (.iload_n 3, 1) := by decide +kernel
theorem dX3_digest_78 : decode cX3_digest 78 = .ok (.iaload, 1) := by decide +kernel
theorem dX3_digest_79 : decode cX3_digest 79 = .ok (.i2l, 1) := by decide +kernel
theorem dX3_digest_80 : decode cX3_digest 80 = .ok (.ladd, 1) := by decide +kernel
theorem dX3_digest_81 : decode cX3_digest 81 = .ok (.lstore_n 1, 1) := by decide +kernel
theorem dX3_digest_82 : decode cX3_digest 82 = .ok (.iinc 3 1, 3) := by decide +kernel
theorem dX3_digest_85 : decode cX3_digest 85 = .ok (.goto (-26), 3) := by decide +kernel
theorem dX3_digest_88 : decode cX3_digest 88 = .ok (.iconst 0, 1) := by decide +kernel
theorem dX3_digest_89 : decode cX3_digest 89 = .ok (.istore_n 3, 1) := by decide +kernel
theorem dX3_digest_90 : decode cX3_digest 90 = .ok (.iload_n 3, 1) := by decide +kernel
theorem dX3_digest_91 : decode cX3_digest 91 = .ok (.aload_n 0, 1) := by decide +kernel
theorem dX3_digest_92 : decode cX3_digest 92 = .ok (.getfield 10, 3) := by decide +kernel
theorem dX3_digest_95 : decode cX3_digest 95 = .ok (.invokevirtual 66, 3) := by decide +kernel
theorem dX3_digest_98 : decode cX3_digest 98 = .ok (.if_icmp .ge 26, 3) := by decide +kernel
theorem dX3_digest_101 : decode cX3_digest 101 = .ok (.ldc2_w 165, 3) := by decide +kernel
theorem dX3_digest_104 : decode cX3_digest 104 = .ok (.lload_n 1, 1) := by decide +kernel
theorem dX3_digest_105 : decode cX3_digest 105 = .ok (.lmul, 1) := by decide +kernel
theorem dX3_digest_106 : decode cX3_digest 106 = .ok (.aload_n 0, 1) := by decide +kernel
theorem dX3_digest_107 : decode cX3_digest 107 = .ok (.getfield 10, 3) := by decide +kernel
theorem dX3_digest_110 : decode cX3_digest 110 = .ok (.getfield 56, 3) := by decide +kernel
theorem dX3_digest_113 : decode cX3_digest 113 = .ok (.iload_n 3, 1) := by decide +kernel
theorem dX3_digest_114 : decode cX3_digest 114 = .ok (.iaload, 1) := by decide +kernel
theorem dX3_digest_115 : decode cX3_digest 115 = .ok (.i2l, 1) := by decide +kernel
theorem dX3_digest_116 : decode cX3_digest 116 = .ok (.ladd, 1) := by decide +kernel
theorem dX3_digest_117 : decode cX3_digest 117 = .ok (.lstore_n 1, 1) := by decide +kernel
theorem dX3_digest_118 : decode cX3_digest 118 = .ok (.iinc 3 1, 3) := by decide +kernel
theorem dX3_digest_121 : decode cX3_digest 121 = .ok (.goto (-31), 3) := by decide +kernel
theorem dX3_digest_124 : decode cX3_digest 124 = .ok (.ldc2_w 165, 3) := by decide +kernel
theorem dX3_digest_127 : decode cX3_digest 127 = .ok (.lload_n 1, 1) := by decide +kernel
theorem dX3_digest_128 : decode cX3_digest 128 = .ok (.lmul, 1) := by decide +kernel
theorem dX3_digest_129 : decode cX3_digest 129 = .ok (.aload_n 0, 1) := by decide +kernel
theorem dX3_digest_130 : decode cX3_digest 130 = .ok (.getfield 10, 3) := by decide +kernel
theorem dX3_digest_133 : decode cX3_digest 133 = .ok (.invokevirtual 113, 3) := by decide +kernel
theorem dX3_digest_136 : decode cX3_digest 136 = .ok (.i2l, 1) := by decide +kernel
theorem dX3_digest_137 : decode cX3_digest 137 = .ok (.ladd, 1) := by decide +kernel
theorem dX3_digest_138 : decode cX3_digest 138 = .ok (.lstore_n 1, 1) := by decide +kernel
theorem dX3_digest_139 : decode cX3_digest 139 = .ok (.ldc2_w 165, 3) := by decide +kernel
theorem dX3_digest_142 : decode cX3_digest 142 = .ok (.lload_n 1, 1) := by decide +kernel
theorem dX3_digest_143 : decode cX3_digest 143 = .ok (.lmul, 1) := by decide +kernel
theorem dX3_digest_144 : decode cX3_digest 144 = .ok (.aload_n 0, 1) := by decide +kernel
theorem dX3_digest_145 : decode cX3_digest 145 = .ok (.getfield 19, 3) := by decide +kernel
theorem dX3_digest_148 : decode cX3_digest 148 = .ok (.getfield 155, 3) := by decide +kernel
theorem dX3_digest_151 : decode cX3_digest 151 = .ok (.i2l, 1) := by decide +kernel
theorem dX3_digest_152 : decode cX3_digest 152 = .ok (.ladd, 1) := by decide +kernel
theorem dX3_digest_153 : decode cX3_digest 153 = .ok (.lreturn, 1) := by decide +kernel
set_option maxRecDepth 20000 in
theorem ggX3_countWrongPairs_J7_fill_53178 : GoodIn wsX3_countWrongPairs wsJ7_fill_53178 := goodIn_r _ [6] (by decide +kernel) (by decide +kernel)
set_option maxRecDepth 20000 in
theorem gX3_countWrongPairs_J7_fill_53178 : GoodIn wsX3_countWrongPairs (va_wsS RX3 167 yJ7_fill_53178 wsJ7_fill_53178) := goodIn_app (goodIn_of _ (by decide +kernel)) ggX3_countWrongPairs_J7_fill_53178
set_option maxRecDepth 20000 in
theorem ggX3_countWrongPairs_X2_wrongEntries : GoodIn wsX3_countWrongPairs wsX2_wrongEntries := goodIn_r _ [11, 12, 13, 14, 15, 10, 16, 17, 18, 19, 20, 21, 22, 23, 24, 42, 43, 44, 45, 46] (by decide +kernel) (by decide +kernel)
set_option maxRecDepth 20000 in
theorem gX3_countWrongPairs_X2_wrongEntries : GoodIn wsX3_countWrongPairs (wsV RX3 42 RX2 yX2_wrongEntries wsX2_wrongEntries) := goodIn_app (goodIn_of _ (by decide +kernel)) ggX3_countWrongPairs_X2_wrongEntries
set_option maxRecDepth 20000 in
theorem ggX3_countWrongPairs_X2_greatest : GoodIn wsX3_countWrongPairs wsX2_greatest := goodIn_r _ [20, 21, 42, 43, 44, 45, 46] (by decide +kernel) (by decide +kernel)
set_option maxRecDepth 20000 in
theorem gX3_countWrongPairs_X2_greatest : GoodIn wsX3_countWrongPairs (wsV RX3 116 RX2 yX2_greatest wsX2_greatest) := goodIn_app (goodIn_of _ (by decide +kernel)) ggX3_countWrongPairs_X2_greatest
set_option maxRecDepth 20000 in
theorem ggX3_countWrongPairs_X2_isWrongPair : GoodIn wsX3_countWrongPairs wsX2_isWrongPair := goodIn_r _ [29, 30, 31, 32, 10, 33, 12, 34, 35, 36, 37, 42, 43, 44, 45, 46] (by decide +kernel) (by decide +kernel)
set_option maxRecDepth 20000 in
theorem gX3_countWrongPairs_X2_isWrongPair : GoodIn wsX3_countWrongPairs (wsV RX3 97 RX2 yX2_isWrongPair wsX2_isWrongPair) := goodIn_app (goodIn_of _ (by decide +kernel)) ggX3_countWrongPairs_X2_isWrongPair
theorem dX3_countWrongPairs_0 : decode cX3_countWrongPairs 0 = .ok (.aload_n 0, 1) := by decide +kernel
theorem dX3_countWrongPairs_1 : decode cX3_countWrongPairs 1 = .ok (.getfield 30, 3) := by decide +kernel
theorem dX3_countWrongPairs_4 : decode cX3_countWrongPairs 4 = .ok (.iconst 0, 1) := by decide +kernel
theorem dX3_countWrongPairs_5 : decode cX3_countWrongPairs 5 = .ok (.invokestatic 167, 3) := by decide +kernel
theorem dX3_countWrongPairs_8 : decode cX3_countWrongPairs 8 = .ok (.aload_n 0, 1) := by decide +kernel
theorem dX3_countWrongPairs_9 : decode cX3_countWrongPairs 9 = .ok (.getfield 10, 3) := by decide +kernel
theorem dX3_countWrongPairs_12 : decode cX3_countWrongPairs 12 = .ok (.invokevirtual 42, 3) := by decide +kernel
theorem dX3_countWrongPairs_15 : decode cX3_countWrongPairs 15 = .ok (.ifCond .ne 5, 3) := by decide +kernel
theorem dX3_countWrongPairs_18 : decode cX3_countWrongPairs 18 = .ok (.iconst 0, 1) := by decide +kernel
theorem dX3_countWrongPairs_19 : decode cX3_countWrongPairs 19 = .ok (.ireturn, 1) := by decide +kernel
theorem dX3_countWrongPairs_20 : decode cX3_countWrongPairs 20 = .ok (.iconst 0, 1) := by decide +kernel
theorem dX3_countWrongPairs_21 : decode cX3_countWrongPairs 21 = .ok (.istore_n 1, 1) := by decide +kernel
theorem dX3_countWrongPairs_22 : decode cX3_countWrongPairs 22 = .ok (.iconst 0, 1) := by decide +kernel
theorem dX3_countWrongPairs_23 : decode cX3_countWrongPairs 23 = .ok (.istore_n 2, 1) := by decide +kernel
theorem dX3_countWrongPairs_24 : decode cX3_countWrongPairs 24 = .ok (.iload_n 2, 1) := by decide +kernel
theorem dX3_countWrongPairs_25 : decode cX3_countWrongPairs 25 = .ok (.aload_n 0, 1) := by decide +kernel
theorem dX3_countWrongPairs_26 : decode cX3_countWrongPairs 26 = .ok (.getfield 10, 3) := by decide +kernel
theorem dX3_countWrongPairs_29 : decode cX3_countWrongPairs 29 = .ok (.invokevirtual 116, 3) := by decide +kernel
theorem dX3_countWrongPairs_32 : decode cX3_countWrongPairs 32 = .ok (.if_icmp .gt 77, 3) := by decide +kernel
theorem dX3_countWrongPairs_35 : decode cX3_countWrongPairs 35 = .ok (.iconst 0, 1) := by decide +kernel
theorem dX3_countWrongPairs_36 : decode cX3_countWrongPairs 36 = .ok (.istore_n 3, 1) := by decide +kernel
theorem dX3_countWrongPairs_37 : decode cX3_countWrongPairs 37 = .ok (.iload_n 3, 1) := by decide +kernel
theorem dX3_countWrongPairs_38 : decode cX3_countWrongPairs 38 = .ok (.iload_n 2, 1) := by decide +kernel
theorem dX3_countWrongPairs_39 : decode cX3_countWrongPairs 39 = .ok (.if_icmp .gt 64, 3) := by decide +kernel
theorem dX3_countWrongPairs_42 : decode cX3_countWrongPairs 42 = .ok (.aload_n 0, 1) := by decide +kernel
theorem dX3_countWrongPairs_43 : decode cX3_countWrongPairs 43 = .ok (.getfield 10, 3) := by decide +kernel
theorem dX3_countWrongPairs_46 : decode cX3_countWrongPairs 46 = .ok (.iload_n 2, 1) := by decide +kernel
theorem dX3_countWrongPairs_47 : decode cX3_countWrongPairs 47 = .ok (.iload_n 3, 1) := by decide +kernel
theorem dX3_countWrongPairs_48 : decode cX3_countWrongPairs 48 = .ok (.invokevirtual 97, 3) := by decide +kernel
theorem dX3_countWrongPairs_51 : decode cX3_countWrongPairs 51 = .ok (.ifCond .eq 46, 3) := by decide +kernel
theorem dX3_countWrongPairs_54 : decode cX3_countWrongPairs 54 = .ok (.iload_n 2, 1) := by decide +kernel
theorem dX3_countWrongPairs_55 : decode cX3_countWrongPairs 55 = .ok (.iload_n 3, 1) := by decide +kernel
theorem dX3_countWrongPairs_56 : decode cX3_countWrongPairs 56 = .ok (.if_icmp .ne 7, 3) := by decide +kernel
theorem dX3_countWrongPairs_59 : decode cX3_countWrongPairs 59 = .ok (.iconst 1, 1) := by decide +kernel
theorem dX3_countWrongPairs_60 : decode cX3_countWrongPairs 60 = .ok (.goto 4, 3) := by decide +kernel
theorem dX3_countWrongPairs_63 : decode cX3_countWrongPairs 63 = .ok (.iconst 2, 1) := by decide +kernel
theorem dX3_countWrongPairs_64 : decode cX3_countWrongPairs 64 = .ok (.istore 4, 2) := by decide +kernel
theorem dX3_countWrongPairs_66 : decode cX3_countWrongPairs 66 = .ok (.iload_n 1, 1) := by decide +kernel
theorem dX3_countWrongPairs_67 : decode cX3_countWrongPairs 67 = .ok (.iload 4, 2) := by decide +kernel
theorem dX3_countWrongPairs_69 : decode cX3_countWrongPairs 69 = .ok (.iadd, 1) := by decide +kernel
theorem dX3_countWrongPairs_70 : decode cX3_countWrongPairs 70 = .ok (.istore_n 1, 1) := by decide +kernel
