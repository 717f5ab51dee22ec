theorem dX3_countWrongPairs_71 : decode cX3_countWrongPairs 71 = .ok (.aload_n 0, 1) := by decide +kernel
theorem dX3_countWrongPairs_72 : decode cX3_countWrongPairs 72 = .ok (.getfield 30, 3) := by decide +kernel
theorem dX3_countWrongPairs_75 : decode cX3_countWrongPairs 75 = .ok (.iload_n 2, 1) := by decide +kernel
theorem dX3_countWrongPairs_76 : decode cX3_countWrongPairs 76 = .ok (.iload_n 3, 1) := by decide +kernel
theorem dX3_countWrongPairs_77 : decode cX3_countWrongPairs 77 = .ok (.iadd, 1) := by decide +kernel
theorem dX3_countWrongPairs_78 : decode cX3_countWrongPairs 78 = .ok (.dup2, 1) := by decide +kernel
theorem dX3_countWrongPairs_79 : decode cX3_countWrongPairs 79 = .ok (.iaload, 1) := by decide +kernel
theorem dX3_countWrongPairs_80 : decode cX3_countWrongPairs 80 = .ok (.iload 4, 2) := by decide +kernel
theorem dX3_countWrongPairs_82 : decode cX3_countWrongPairs 82 = .ok (.iadd, 1) := by decide +kernel
theorem dX3_countWrongPairs_83 : decode cX3_countWrongPairs 83 = .ok (.iastore, 1) := by decide +kernel
theorem dX3_countWrongPairs_84 : decode cX3_countWrongPairs 84 = .ok (.aload_n 0, 1) := by decide +kernel
theorem dX3_countWrongPairs_85 : decode cX3_countWrongPairs 85 = .ok (.getfield 30, 3) := by decide +kernel
theorem dX3_countWrongPairs_88 : decode cX3_countWrongPairs 88 = .ok (.iload_n 2, 1) := by decide +kernel
theorem dX3_countWrongPairs_89 : decode cX3_countWrongPairs 89 = .ok (.iload_n 3, 1) := by decide +kernel
theorem dX3_countWrongPairs_90 : decode cX3_countWrongPairs 90 = .ok (.isub, 1) := by decide +kernel
theorem dX3_countWrongPairs_91 : decode cX3_countWrongPairs 91 = .ok (.dup2, 1) := by decide +kernel
theorem dX3_countWrongPairs_92 : decode cX3_countWrongPairs 92 = .ok (.iaload, 1) := by decide +kernel
theorem dX3_countWrongPairs_93 : decode cX3_countWrongPairs 93 = .ok (.iload 4, 2) := by decide +kernel
theorem dX3_countWrongPairs_95 : decode cX3_countWrongPairs 95 = .ok (.iadd, 1) := by decide +kernel
theorem dX3_countWrongPairs_96 : decode cX3_countWrongPairs 96 = .ok (.iastore, 1) := by decide +kernel
theorem dX3_countWrongPairs_97 : decode cX3_countWrongPairs 97 = .ok (.iinc 3 1, 3) := by decide +kernel
theorem dX3_countWrongPairs_100 : decode cX3_countWrongPairs 100 = .ok (.goto (-63), 3) := by decide +kernel
theorem dX3_countWrongPairs_103 : decode cX3_countWrongPairs 103 = .ok (.iinc 2 1, 3) := by decide +kernel
theorem dX3_countWrongPairs_106 : decode cX3_countWrongPairs 106 = .ok (.goto (-82), 3) := by decide +kernel
theorem dX3_countWrongPairs_109 : decode cX3_countWrongPairs 109 = .ok (.iload_n 1, 1) := by decide +kernel
theorem dX3_countWrongPairs_110 : decode cX3_countWrongPairs 110 = .ok (.ireturn, 1) := by decide +kernel
set_option maxRecDepth 20000 in
theorem ggX3_demandEntry_X2_entries : GoodIn wsX3_demandEntry wsX2_entries := goodIn_r _ [8, 9, 10, 11, 7, 12, 13, 18, 19, 20, 21, 22] (by decide +kernel) (by decide +kernel)
set_option maxRecDepth 20000 in
theorem gX3_demandEntry_X2_entries : GoodIn wsX3_demandEntry (wsV RX3 66 RX2 yX2_entries wsX2_entries) := goodIn_app (goodIn_of _ (by decide +kernel)) ggX3_demandEntry_X2_entries
theorem dX3_demandEntry_0 : decode cX3_demandEntry 0 = .ok (.iload_n 1, 1) := by decide +kernel
theorem dX3_demandEntry_1 : decode cX3_demandEntry 1 = .ok (.ifCond .lt 14, 3) := by decide +kernel
theorem dX3_demandEntry_4 : decode cX3_demandEntry 4 = .ok (.iload_n 1, 1) := by decide +kernel
theorem dX3_demandEntry_5 : decode cX3_demandEntry 5 = .ok (.aload_n 0, 1) := by decide +kernel
theorem dX3_demandEntry_6 : decode cX3_demandEntry 6 = .ok (.getfield 10, 3) := by decide +kernel
theorem dX3_demandEntry_9 : decode cX3_demandEntry 9 = .ok (.invokevirtual 66, 3) := by decide +kernel
theorem dX3_demandEntry_12 : decode cX3_demandEntry 12 = .ok (.if_icmp .lt 13, 3) := by decide +kernel
theorem dX3_demandEntry_15 : decode cX3_demandEntry 15 = .ok (.new 173, 3) := by decide +kernel
theorem dX3_demandEntry_18 : decode cX3_demandEntry 18 = .ok (.dup, 1) := by decide +kernel
theorem dX3_demandEntry_19 : decode cX3_demandEntry 19 = .ok (.ldc 175, 2) := by decide +kernel
theorem dX3_demandEntry_21 : decode cX3_demandEntry 21 = .ok (.invokespecial 177, 3) := by decide +kernel
theorem dX3_demandEntry_24 : decode cX3_demandEntry 24 = .ok (.athrow, 1) := by decide +kernel
theorem dX3_demandEntry_25 : decode cX3_demandEntry 25 = .ok (.return_, 1) := by decide +kernel
theorem dX3_demandRegister_0 : decode cX3_demandRegister 0 = .ok (.iload_n 0, 1) := by decide +kernel
theorem dX3_demandRegister_1 : decode cX3_demandRegister 1 = .ok (.ifCond .lt 9, 3) := by decide +kernel
theorem dX3_demandRegister_4 : decode cX3_demandRegister 4 = .ok (.iload_n 0, 1) := by decide +kernel
theorem dX3_demandRegister_5 : decode cX3_demandRegister 5 = .ok (.bipush 8, 2) := by decide +kernel
theorem dX3_demandRegister_7 : decode cX3_demandRegister 7 = .ok (.if_icmp .lt 13, 3) := by decide +kernel
theorem dX3_demandRegister_10 : decode cX3_demandRegister 10 = .ok (.new 173, 3) := by decide +kernel
theorem dX3_demandRegister_13 : decode cX3_demandRegister 13 = .ok (.dup, 1) := by decide +kernel
theorem dX3_demandRegister_14 : decode cX3_demandRegister 14 = .ok (.ldc 178, 2) := by decide +kernel
theorem dX3_demandRegister_16 : decode cX3_demandRegister 16 = .ok (.invokespecial 177, 3) := by decide +kernel
theorem dX3_demandRegister_19 : decode cX3_demandRegister 19 = .ok (.athrow, 1) := by decide +kernel
theorem dX3_demandRegister_20 : decode cX3_demandRegister 20 = .ok (.return_, 1) := by decide +kernel
set_option maxRecDepth 20000 in
theorem ggX3_demandOperand_X2_greatest : GoodIn wsX3_demandOperand wsX2_greatest := goodIn_r _ [6, 7, 18, 19, 20, 21, 22] (by decide +kernel) (by decide +kernel)
set_option maxRecDepth 20000 in
theorem gX3_demandOperand_X2_greatest : GoodIn wsX3_demandOperand (wsV RX3 116 RX2 yX2_greatest wsX2_greatest) := goodIn_app (goodIn_of _ (by decide +kernel)) ggX3_demandOperand_X2_greatest
set_option maxRecDepth 20000 in
theorem ggX3_demandOperand_X3_demandRange : GoodIn wsX3_demandOperand wsX3_demandRange := goodIn_ca (goodIn_r _ [11, 12, 13] (by decide +kernel) (by decide +kernel)) (goodIn_sub (fun _ h => List.mem_cons_of_mem _ (List.mem_append_right _ h)) (by decide +kernel))
set_option maxRecDepth 20000 in
theorem gX3_demandOperand_X3_demandRange : GoodIn wsX3_demandOperand (va_wsS RX3 34 yX3_demandRange wsX3_demandRange) := goodIn_app (goodIn_of _ (by decide +kernel)) ggX3_demandOperand_X3_demandRange
theorem dX3_demandOperand_0 : decode cX3_demandOperand 0 = .ok (.iload_n 1, 1) := by decide +kernel
theorem dX3_demandOperand_1 : decode cX3_demandOperand 1 = .ok (.iconst 0, 1) := by decide +kernel
theorem dX3_demandOperand_2 : decode cX3_demandOperand 2 = .ok (.aload_n 0, 1) := by decide +kernel
theorem dX3_demandOperand_3 : decode cX3_demandOperand 3 = .ok (.getfield 10, 3) := by decide +kernel
theorem dX3_demandOperand_6 : decode cX3_demandOperand 6 = .ok (.invokevirtual 116, 3) := by decide +kernel
theorem dX3_demandOperand_9 : decode cX3_demandOperand 9 = .ok (.invokestatic 34, 3) := by decide +kernel
theorem dX3_demandOperand_12 : decode cX3_demandOperand 12 = .ok (.return_, 1) := by decide +kernel
set_option maxRecDepth 20000 in
theorem ggX3_demandMethod_X3_demandRange : GoodIn wsX3_demandMethod wsX3_demandRange := goodIn_ca (goodIn_r _ [4, 5, 6] (by decide +kernel) (by decide +kernel)) (goodIn_sub (fun _ h => List.mem_cons_of_mem _ (List.mem_append_right _ h)) (by decide +kernel))
set_option maxRecDepth 20000 in
theorem gX3_demandMethod_X3_demandRange : GoodIn wsX3_demandMethod (va_wsS RX3 34 yX3_demandRange wsX3_demandRange) := goodIn_app (goodIn_of _ (by decide +kernel)) ggX3_demandMethod_X3_demandRange
theorem dX3_demandMethod_0 : decode cX3_demandMethod 0 = .ok (.iload_n 0, 1) := by decide +kernel
theorem dX3_demandMethod_1 : decode cX3_demandMethod 1 = .ok (.iconst 0, 1) := by decide +kernel
theorem dX3_demandMethod_2 : decode cX3_demandMethod 2 = .ok (.iconst 2, 1) := by decide +kernel
theorem dX3_demandMethod_3 : decode cX3_demandMethod 3 = .ok (.invokestatic 34, 3) := by decide +kernel
theorem dX3_demandMethod_6 : decode cX3_demandMethod 6 = .ok (.return_, 1) := by decide +kernel
theorem dX3_demandRange_0 : decode cX3_demandRange 0 = .ok (.iload_n 0, 1) := by decide +kernel
theorem dX3_demandRange_1 : decode cX3_demandRange 1 = .ok (.iload_n 1, 1) := by decide +kernel
theorem dX3_demandRange_2 : decode cX3_demandRange 2 = .ok (.if_icmp .lt 8, 3) := by decide +kernel
theorem dX3_demandRange_5 : decode cX3_demandRange 5 = .ok (.iload_n 0, 1) := by decide +kernel
theorem dX3_demandRange_6 : decode cX3_demandRange 6 = .ok (.iload_n 2, 1) := by decide +kernel
theorem dX3_demandRange_7 : decode cX3_demandRange 7 = .ok (.if_icmp .le 13, 3) := by decide +kernel
theorem dX3_demandRange_10 : decode cX3_demandRange 10 = .ok (.new 180, 3) := by decide +kernel
theorem dX3_demandRange_13 : decode cX3_demandRange 13 = .ok (.dup, 1) := by decide +kernel
theorem dX3_demandRange_14 : decode cX3_demandRange 14 = .ok (.ldc 182, 2) := by decide +kernel
theorem dX3_demandRange_16 : decode cX3_demandRange 16 = .ok (.invokespecial 184, 3) := by decide +kernel
theorem dX3_demandRange_19 : decode cX3_demandRange 19 = .ok (.athrow, 1) := by decide +kernel
theorem dX3_demandRange_20 : decode cX3_demandRange 20 = .ok (.return_, 1) := by decide +kernel
theorem dX3_trueValue_0 : decode cX3_trueValue 0 = .ok (.iload_n 0, 1) := by decide +kernel
theorem dX3_trueValue_1 : decode cX3_trueValue 1 = .ok (.iload_n 0, 1) := by decide +kernel
theorem dX3_trueValue_2 : decode cX3_trueValue 2 = .ok (.imul, 1) := by decide +kernel
theorem dX3_trueValue_3 : decode cX3_trueValue 3 = .ok (.iconst 4, 1) := by decide +kernel
theorem dX3_trueValue_4 : decode cX3_trueValue 4 = .ok (.idiv, 1) := by decide +kernel
theorem dX3_trueValue_5 : decode cX3_trueValue 5 = .ok (.ireturn, 1) := by decide +kernel
set_option maxRecDepth 20000 in
theorem ggX3_parity_J6_bitCount_0f7a4 : GoodIn wsX3_parity wsJ6_bitCount_0f7a4 := goodIn_r _ [4, 5, 6, 7] (by decide +kernel) (by decide +kernel)
set_option maxRecDepth 20000 in
theorem gX3_parity_J6_bitCount_0f7a4 : GoodIn wsX3_parity (va_wsS RX3 185 yJ6_bitCount_0f7a4 wsJ6_bitCount_0f7a4) := goodIn_app (goodIn_of _ (by decide +kernel)) ggX3_parity_J6_bitCount_0f7a4
theorem dX3_parity_0 : decode cX3_parity 0 = .ok (.iload_n 0, 1) := by decide +kernel
theorem dX3_parity_1 : decode cX3_parity 1 = .ok (.invokestatic 185, 3) := by decide +kernel
theorem dX3_parity_4 : decode cX3_parity 4 = .ok (.iconst 1, 1) := by decide +kernel
theorem dX3_parity_5 : decode cX3_parity 5 = .ok (.iand, 1) := by decide +kernel
theorem dX3_parity_6 : decode cX3_parity 6 = .ok (.ireturn, 1) := by decide +kernel
theorem dX3_rounded_0 : decode cX3_rounded 0 = .ok (.iconst 1, 1) := by decide +kernel
theorem dX3_rounded_1 : decode cX3_rounded 1 = .ok (.iload_n 1, 1) := by decide +kernel
theorem dX3_rounded_2 : decode cX3_rounded 2 = .ok (.ishl, 1) := by decide +kernel
theorem dX3_rounded_3 : decode cX3_rounded 3 = .ok (.istore_n 3, 1) := by decide +kernel
theorem dX3_rounded_4 : decode cX3_rounded 4 = .ok (.iload_n 0, 1) := by decide +kernel
theorem dX3_rounded_5 : decode cX3_rounded 5 = .ok (.iload_n 1, 1) := by decide +kernel
theorem dX3_rounded_6 : decode cX3_rounded 6 = .ok (.ishr, 1) := by decide +kernel
theorem dX3_rounded_7 : decode cX3_rounded 7 = .ok (.istore 4, 2) := by decide +kernel
theorem dX3_rounded_9 : decode cX3_rounded 9 = .ok (.iconst 2, 1) := by decide +kernel
theorem dX3_rounded_10 : decode cX3_rounded 10 = .ok (.iload_n 0, 1) := by decide +kernel
theorem dX3_rounded_11 : decode cX3_rounded 11 = .ok (.iload 4, 2) := by decide +kernel
theorem dX3_rounded_13 : decode cX3_rounded 13 = .ok (.iload_n 3, 1) := by decide +kernel
theorem dX3_rounded_14 : decode cX3_rounded 14 = .ok (.imul, 1) := by decide +kernel
theorem dX3_rounded_15 : decode cX3_rounded 15 = .ok (.isub, 1) := by decide +kernel
theorem dX3_rounded_16 : decode cX3_rounded 16 = .ok (.imul, 1) := by decide +kernel
theorem dX3_rounded_17 : decode cX3_rounded 17 = .ok (.istore 5, 2) := by decide +kernel
theorem dX3_rounded_19 : decode cX3_rounded 19 = .ok (.iload_n 2, 1) := by decide +kernel
theorem dX3_rounded_20 : decode cX3_rounded 20 = .ok (.ifCond .eq 9, 3) := by decide +kernel
theorem dX3_rounded_23 : decode cX3_rounded 23 = .ok (.iload 5, 2) := by decide +kernel
theorem dX3_rounded_25 : decode cX3_rounded 25 = .ok (.iload_n 3, 1) := by decide +kernel
theorem dX3_rounded_26 : decode cX3_rounded 26 = .ok (.if_icmp .ge 6, 3) := by decide +kernel
theorem dX3_rounded_29 : decode cX3_rounded 29 = .ok (.iload 4, 2) := by decide +kernel
theorem dX3_rounded_31 : decode cX3_rounded 31 = .ok (.ireturn, 1) := by decide +kernel
theorem dX3_rounded_32 : decode cX3_rounded 32 = .ok (.iload_n 2, 1) := by decide +kernel
theorem dX3_rounded_33 : decode cX3_rounded 33 = .ok (.iconst 1, 1) := by decide +kernel
theorem dX3_rounded_34 : decode cX3_rounded 34 = .ok (.if_icmp .eq 9, 3) := by decide +kernel
theorem dX3_rounded_37 : decode cX3_rounded 37 = .ok (.iload 5, 2) := by decide +kernel
theorem dX3_rounded_39 : decode cX3_rounded 39 = .ok (.iload_n 3, 1) := by decide +kernel
theorem dX3_rounded_40 : decode cX3_rounded 40 = .ok (.if_icmp .le 8, 3) := by decide +kernel
theorem dX3_rounded_43 : decode cX3_rounded 43 = .ok (.iload 4, 2) := by decide +kernel
theorem dX3_rounded_45 : decode cX3_rounded 45 = .ok (.iconst 1, 1) := by decide +kernel
theorem dX3_rounded_46 : decode cX3_rounded 46 = .ok (.iadd, 1) := by decide +kernel
theorem dX3_rounded_47 : decode cX3_rounded 47 = .ok (.ireturn, 1) := by decide +kernel
theorem dX3_rounded_48 : decode cX3_rounded 48 = .ok (.iload 4, 2) := by decide +kernel
theorem dX3_rounded_50 : decode cX3_rounded 50 = .ok (.iload 4, 2) := by decide +kernel
theorem dX3_rounded_52 : decode cX3_rounded 52 = .ok (.iconst 1, 1) := by decide +kernel
theorem dX3_rounded_53 : decode cX3_rounded 53 = .ok (.iand, 1) := by decide +kernel
theorem dX3_rounded_54 : decode cX3_rounded 54 = .ok (.iadd, 1) := by decide +kernel
theorem dX3_rounded_55 : decode cX3_rounded 55 = .ok (.ireturn, 1) := by decide +kernel
set_option maxRecDepth 20000 in
theorem ggX4_init_X4_begin : GoodIn wsX4_init wsX4_begin := goodIn_r _ [15, 5, 16, 17, 18, 19, 14, 20, 21, 22, 23, 24, 25, 26, 27, 28, 29, 30, 31, 32, 33, 34, 35, 36, 37, 38] (by decide +kernel) (by decide +kernel)
set_option maxRecDepth 20000 in
theorem gX4_init_X4_begin : GoodIn wsX4_init (wsV RX4 26 RX4 yX4_begin wsX4_begin) := goodIn_app (goodIn_of _ (by decide +kernel)) ggX4_init_X4_begin
theorem dX4_init_0 : decode cX4_init 0 = .ok (.aload_n 0, 1) := by decide +kernel
theorem dX4_init_1 : decode cX4_init 1 = .ok (.invokespecial 1, 3) := by decide +kernel
theorem dX4_init_4 : decode cX4_init 4 = .ok (.aload_n 0, 1) := by decide +kernel
theorem dX4_init_5 : decode cX4_init 5 = .ok (.sipush 523, 3) := by decide +kernel
theorem dX4_init_8 : decode cX4_init 8 = .ok (.newarray .int, 2) := by decide +kernel
theorem dX4_init_10 : decode cX4_init 10 = .ok (.putfield 7, 3) := by decide +kernel
theorem dX4_init_13 : decode cX4_init 13 = .ok (.aload_n 0, 1) := by decide +kernel
theorem dX4_init_14 : decode cX4_init 14 = .ok (.sipush 2092, 3) := by decide +kernel
theorem dX4_init_17 : decode cX4_init 17 = .ok (.newarray .int, 2) := by decide +kernel
theorem dX4_init_19 : decode cX4_init 19 = .ok (.putfield 13, 3) := by decide +kernel
theorem dX4_init_22 : decode cX4_init 22 = .ok (.aload_n 0, 1) := by decide +kernel
theorem dX4_init_23 : decode cX4_init 23 = .ok (.iconst 4, 1) := by decide +kernel
theorem dX4_init_24 : decode cX4_init 24 = .ok (.newarray .long, 2) := by decide +kernel
theorem dX4_init_26 : decode cX4_init 26 = .ok (.putfield 16, 3) := by decide +kernel
theorem dX4_init_29 : decode cX4_init 29 = .ok (.aload_n 0, 1) := by decide +kernel
theorem dX4_init_30 : decode cX4_init 30 = .ok (.bipush 100, 2) := by decide +kernel
theorem dX4_init_32 : decode cX4_init 32 = .ok (.newarray .int, 2) := by decide +kernel
theorem dX4_init_34 : decode cX4_init 34 = .ok (.putfield 20, 3) := by decide +kernel
theorem dX4_init_37 : decode cX4_init 37 = .ok (.aload_n 0, 1) := by decide +kernel
theorem dX4_init_38 : decode cX4_init 38 = .ok (.sipush 511, 3) := by decide +kernel
theorem dX4_init_41 : decode cX4_init 41 = .ok (.newarray .int, 2) := by decide +kernel
theorem dX4_init_43 : decode cX4_init 43 = .ok (.putfield 23, 3) := by decide +kernel
theorem dX4_init_46 : decode cX4_init 46 = .ok (.aload_n 0, 1) := by decide +kernel
theorem dX4_init_47 : decode cX4_init 47 = .ok (.getfield 7, 3) := by decide +kernel
theorem dX4_init_50 : decode cX4_init 50 = .ok (.iconst 1, 1) := by decide +kernel
theorem dX4_init_51 : decode cX4_init 51 = .ok (.iconst 4, 1) := by decide +kernel
theorem dX4_init_52 : decode cX4_init 52 = .ok (.iastore, 1) := by decide +kernel
theorem dX4_init_53 : decode cX4_init 53 = .ok (.aload_n 0, 1) := by decide +kernel
theorem dX4_init_54 : decode cX4_init 54 = .ok (.getfield 7, 3) := by decide +kernel
theorem dX4_init_57 : decode cX4_init 57 = .ok (.iconst 2, 1) := by decide +kernel
theorem dX4_init_58 : decode cX4_init 58 = .ok (.iconst 2, 1) := by decide +kernel
theorem dX4_init_59 : decode cX4_init 59 = .ok (.iastore, 1) := by decide +kernel
theorem dX4_init_60 : decode cX4_init 60 = .ok (.aload_n 0, 1) := by decide +kernel
theorem dX4_init_61 : decode cX4_init 61 = .ok (.getfield 7, 3) := by decide +kernel
theorem dX4_init_64 : decode cX4_init 64 = .ok (.iconst 3, 1) := by decide +kernel
theorem dX4_init_65 : decode cX4_init 65 = .ok (.iconst 1, 1) := by decide +kernel
theorem dX4_init_66 : decode cX4_init 66 = .ok (.iastore, 1) := by decide +kernel
theorem dX4_init_67 : decode cX4_init 67 = .ok (.aload_n 0, 1) := by decide +kernel
theorem dX4_init_68 : decode cX4_init 68 = .ok (.bipush 8, 2) := by decide +kernel
theorem dX4_init_70 : decode cX4_init 70 = .ok (.invokevirtual 26, 3) := by decide +kernel
theorem dX4_init_73 : decode cX4_init 73 = .ok (.return_, 1) := by decide +kernel
theorem dX4_thrown_0 : decode cX4_thrown 0 = .ok (.aload_n 0, 1) := by decide +kernel
theorem dX4_thrown_1 : decode cX4_thrown 1 = .ok (.getfield 30, 3) := by decide +kernel
theorem dX4_thrown_4 : decode cX4_thrown 4 = .ok (.ireturn, 1) := by decide +kernel
theorem dX4_in_0 : decode cX4_in 0 = .ok (.iload_n 0, 1) := by decide +kernel
theorem dX4_in_1 : decode cX4_in 1 = .ok (.iload_n 1, 1) := by decide +kernel
theorem dX4_in_2 : decode cX4_in 2 = .ok (.if_icmp .lt 12, 3) := by decide +kernel
theorem dX4_in_5 : decode cX4_in 5 = .ok (.iload_n 0, 1) := by decide +kernel
theorem dX4_in_6 : decode cX4_in 6 = .ok (.iload_n 2, 1) := by decide +kernel
theorem dX4_in_7 : decode cX4_in 7 = .ok (.if_icmp .gt 7, 3) := by decide +kernel
theorem dX4_in_10 : decode cX4_in 10 = .ok (.iconst 1, 1) := by decide +kernel
theorem dX4_in_11 : decode cX4_in 11 = .ok (.goto 4, 3) := by decide +kernel
theorem dX4_in_14 : decode cX4_in 14 = .ok (.iconst 0, 1) := by decide +kernel
theorem dX4_in_15 : decode cX4_in 15 = .ok (.ireturn, 1) := by decide +kernel
theorem dX4_fails_0 : decode cX4_fails 0 = .ok (.aload_n 0, 1) := by decide +kernel
theorem dX4_fails_1 : decode cX4_fails 1 = .ok (.iload_n 1, 1) := by decide +kernel
theorem dX4_fails_2 : decode cX4_fails 2 = .ok (.putfield 30, 3) := by decide +kernel
theorem dX4_fails_5 : decode cX4_fails 5 = .ok (.iconst 0, 1) := by decide +kernel
theorem dX4_fails_6 : decode cX4_fails 6 = .ok (.ireturn, 1) := by decide +kernel
theorem dX4_tells_0 : decode cX4_tells 0 = .ok (.aload_n 0, 1) := by decide +kernel
theorem dX4_tells_1 : decode cX4_tells 1 = .ok (.iconst 0, 1) := by decide +kernel
theorem dX4_tells_2 : decode cX4_tells 2 = .ok (.putfield 30, 3) := by decide +kernel
theorem dX4_tells_5 : decode cX4_tells 5 = .ok (.iload_n 1, 1) := by decide +kernel
theorem dX4_tells_6 : decode cX4_tells 6 = .ok (.ireturn, 1) := by decide +kernel
set_option maxRecDepth 20000 in
theorem ggX4_begin_X4_entries : GoodIn wsX4_begin wsX4_entries := goodIn_r _ [7, 8, 9, 10, 6, 11, 1, 15, 16, 17, 18, 19, 20, 21, 22, 23, 24, 25] (by decide +kernel) (by decide +kernel)
set_option maxRecDepth 20000 in
theorem gX4_begin_X4_entries : GoodIn wsX4_begin (wsV RX4 38 RX4 yX4_entries wsX4_entries) := goodIn_app (goodIn_of _ (by decide +kernel)) ggX4_begin_X4_entries
set_option maxRecDepth 20000 in
theorem ggX4_begin_X4_truth : GoodIn wsX4_begin wsX4_truth := goodIn_r _ [14] (by decide +kernel) (by decide +kernel)
set_option maxRecDepth 20000 in
theorem gX4_begin_X4_truth : GoodIn wsX4_begin (va_wsS RX4 42 yX4_truth wsX4_truth) := goodIn_app (goodIn_of _ (by decide +kernel)) ggX4_begin_X4_truth
theorem dX4_begin_0 : decode cX4_begin 0 = .ok (.aload_n 0, 1) := by decide +kernel
theorem dX4_begin_1 : decode cX4_begin 1 = .ok (.getfield 7, 3) := by decide +kernel
theorem dX4_begin_4 : decode cX4_begin 4 = .ok (.iconst 0, 1) := by decide +kernel
theorem dX4_begin_5 : decode cX4_begin 5 = .ok (.iload_n 1, 1) := by decide +kernel
theorem dX4_begin_6 : decode cX4_begin 6 = .ok (.iastore, 1) := by decide +kernel
theorem dX4_begin_7 : decode cX4_begin 7 = .ok (.iconst 0, 1) := by decide +kernel
theorem dX4_begin_8 : decode cX4_begin 8 = .ok (.istore_n 2, 1) := by decide +kernel
theorem dX4_begin_9 : decode cX4_begin 9 = .ok (.iload_n 2, 1) := by decide +kernel
theorem dX4_begin_10 : decode cX4_begin 10 = .ok (.bipush 8, 2) := by decide +kernel
theorem dX4_begin_12 : decode cX4_begin 12 = .ok (.if_icmp .ge 18, 3) := by decide +kernel
theorem dX4_begin_15 : decode cX4_begin 15 = .ok (.aload_n 0, 1) := by decide +kernel
theorem dX4_begin_16 : decode cX4_begin 16 = .ok (.getfield 7, 3) := by decide +kernel
theorem dX4_begin_19 : decode cX4_begin 19 = .ok (.iconst 4, 1) := by decide +kernel
theorem dX4_begin_20 : decode cX4_begin 20 = .ok (.iload_n 2, 1) := by decide +kernel
theorem dX4_begin_21 : decode cX4_begin 21 = .ok (.iadd, 1) := by decide +kernel
theorem dX4_begin_22 : decode cX4_begin 22 = .ok (.iconst 0, 1) := by decide +kernel
theorem dX4_begin_23 : decode cX4_begin 23 = .ok (.iastore, 1) := by decide +kernel
theorem dX4_begin_24 : decode cX4_begin 24 = .ok (.iinc 2 1, 3) := by decide +kernel
theorem dX4_begin_27 : decode cX4_begin 27 = .ok (.goto (-18), 3) := by decide +kernel
theorem dX4_begin_30 : decode cX4_begin 30 = .ok (.aload_n 0, 1) := by decide +kernel
theorem dX4_begin_31 : decode cX4_begin 31 = .ok (.lconst 0, 1) := by decide +kernel
theorem dX4_begin_32 : decode cX4_begin 32 = .ok (.putfield 34, 3) := by decide +kernel
theorem dX4_begin_35 : decode cX4_begin 35 = .ok (.iconst 0, 1) := by decide +kernel
theorem dX4_begin_36 : decode cX4_begin 36 = .ok (.istore_n 2, 1) := by decide +kernel
theorem dX4_begin_37 : decode cX4_begin 37 = .ok (.iload_n 2, 1) := by decide +kernel
theorem dX4_begin_38 : decode cX4_begin 38 = .ok (.sipush 511, 3) := by decide +kernel
theorem dX4_begin_41 : decode cX4_begin 41 = .ok (.if_icmp .ge 34, 3) := by decide +kernel
theorem dX4_begin_44 : decode cX4_begin 44 = .ok (.aload_n 0, 1) := by decide +kernel
theorem dX4_begin_45 : decode cX4_begin 45 = .ok (.getfield 7, 3) := by decide +kernel
theorem dX4_begin_48 : decode cX4_begin 48 = .ok (.bipush 12, 2) := by decide +kernel
theorem dX4_begin_50 : decode cX4_begin 50 = .ok (.iload_n 2, 1) := by decide +kernel
theorem dX4_begin_51 : decode cX4_begin 51 = .ok (.iadd, 1) := by decide +kernel
theorem dX4_begin_52 : decode cX4_begin 52 = .ok (.iload_n 2, 1) := by decide +kernel
theorem dX4_begin_53 : decode cX4_begin 53 = .ok (.aload_n 0, 1) := by decide +kernel
theorem dX4_begin_54 : decode cX4_begin 54 = .ok (.invokevirtual 38, 3) := by decide +kernel
theorem dX4_begin_57 : decode cX4_begin 57 = .ok (.if_icmp .ge 10, 3) := by decide +kernel
theorem dX4_begin_60 : decode cX4_begin 60 = .ok (.iload_n 2, 1) := by decide +kernel
theorem dX4_begin_61 : decode cX4_begin 61 = .ok (.invokestatic 42, 3) := by decide +kernel
theorem dX4_begin_64 : decode cX4_begin 64 = .ok (.goto 4, 3) := by decide +kernel
theorem dX4_begin_67 : decode cX4_begin 67 = .ok (.iconst 0, 1) := by decide +kernel
theorem dX4_begin_68 : decode cX4_begin 68 = .ok (.iastore, 1) := by decide +kernel
theorem dX4_begin_69 : decode cX4_begin 69 = .ok (.iinc 2 1, 3) := by decide +kernel
theorem dX4_begin_72 : decode cX4_begin 72 = .ok (.goto (-35), 3) := by decide +kernel
theorem dX4_begin_75 : decode cX4_begin 75 = .ok (.return_, 1) := by decide +kernel
theorem dX4_top_0 : decode cX4_top 0 = .ok (.iconst 1, 1) := by decide +kernel
theorem dX4_top_1 : decode cX4_top 1 = .ok (.aload_n 0, 1) := by decide +kernel
theorem dX4_top_2 : decode cX4_top 2 = .ok (.getfield 7, 3) := by decide +kernel
theorem dX4_top_5 : decode cX4_top 5 = .ok (.iconst 0, 1) := by decide +kernel
theorem dX4_top_6 : decode cX4_top 6 = .ok (.iaload, 1) := by decide +kernel
theorem dX4_top_7 : decode cX4_top 7 = .ok (.ishl, 1) := by decide +kernel
theorem dX4_top_8 : decode cX4_top 8 = .ok (.iconst 1, 1) := by decide +kernel
theorem dX4_top_9 : decode cX4_top 9 = .ok (.isub, 1) := by decide +kernel
theorem dX4_top_10 : decode cX4_top 10 = .ok (.ireturn, 1) := by decide +kernel
set_option maxRecDepth 20000 in
theorem ggX4_entries_X4_top : GoodIn wsX4_entries wsX4_top := goodIn_r _ [5, 6, 7, 8, 9, 10, 11, 12, 13, 14, 15, 16, 17] (by decide +kernel) (by decide +kernel)
set_option maxRecDepth 20000 in
theorem gX4_entries_X4_top : GoodIn wsX4_entries (wsV RX4 46 RX4 yX4_top wsX4_top) := goodIn_app (goodIn_of _ (by decide +kernel)) ggX4_entries_X4_top
theorem dX4_entries_0 : decode cX4_entries 0 = .ok (.iconst 2, 1) := by decide +kernel
theorem dX4_entries_1 : decode cX4_entries 1 = .ok (.aload_n 0, 1) := by decide +kernel
theorem dX4_entries_2 : decode cX4_entries 2 = .ok (.invokevirtual 46, 3) := by decide +kernel
theorem dX4_entries_5 : decode cX4_entries 5 = .ok (.imul, 1) := by decide +kernel
theorem dX4_entries_6 : decode cX4_entries 6 = .ok (.iconst 1, 1) := by decide +kernel
theorem dX4_entries_7 : decode cX4_entries 7 = .ok (.iadd, 1) := by decide +kernel
theorem dX4_entries_8 : decode cX4_entries 8 = .ok (.ireturn, 1) := by decide +kernel
theorem dX4_truth_0 : decode cX4_truth 0 = .ok (.iload_n 0, 1) := by decide +kernel
theorem dX4_truth_1 : decode cX4_truth 1 = .ok (.iload_n 0, 1) := by decide +kernel
theorem dX4_truth_2 : decode cX4_truth 2 = .ok (.imul, 1) := by decide +kernel
theorem dX4_truth_3 : decode cX4_truth 3 = .ok (.iconst 4, 1) := by decide +kernel
theorem dX4_truth_4 : decode cX4_truth 4 = .ok (.idiv, 1) := by decide +kernel
theorem dX4_truth_5 : decode cX4_truth 5 = .ok (.ireturn, 1) := by decide +kernel
theorem dX4_ones_0 : decode cX4_ones 0 = .ok (.iconst 0, 1) := by decide +kernel
theorem dX4_ones_1 : decode cX4_ones 1 = .ok (.istore_n 1, 1) := by decide +kernel
theorem dX4_ones_2 : decode cX4_ones 2 = .ok (.iconst 0, 1) := by decide +kernel
theorem dX4_ones_3 : decode cX4_ones 3 = .ok (.istore_n 2, 1) := by decide +kernel
theorem dX4_ones_4 : decode cX4_ones 4 = .ok (.iload_n 2, 1) := by decide +kernel
theorem dX4_ones_5 : decode cX4_ones 5 = .ok (.bipush 17, 2) := by decide +kernel
theorem dX4_ones_7 : decode cX4_ones 7 = .ok (.if_icmp .ge 17, 3) := by decide +kernel
theorem dX4_ones_10 : decode cX4_ones 10 = .ok (.iload_n 1, 1) := by decide +kernel
theorem dX4_ones_11 : decode cX4_ones 11 = .ok (.iload_n 0, 1) := by decide +kernel
theorem dX4_ones_12 : decode cX4_ones 12 = .ok (.iload_n 2, 1) := by decide +kernel
theorem dX4_ones_13 : decode cX4_ones 13 = .ok (.ishr, 1) := by decide +kernel
theorem dX4_ones_14 : decode cX4_ones 14 = .ok (.iconst 1, 1) := by decide +kernel
theorem dX4_ones_15 : decode cX4_ones 15 = .ok (.iand, 1) := by decide +kernel
theorem dX4_ones_16 : decode cX4_ones 16 = .ok (.iadd, 1) := by decide +kernel
theorem dX4_ones_17 : decode cX4_ones 17 = .ok (.istore_n 1, 1) := by decide +kernel
theorem dX4_ones_18 : decode cX4_ones 18 = .ok (.iinc 2 1, 3) := by decide +kernel
theorem dX4_ones_21 : decode cX4_ones 21 = .ok (.goto (-17), 3) := by decide +kernel
theorem dX4_ones_24 : decode cX4_ones 24 = .ok (.iload_n 1, 1) := by decide +kernel
theorem dX4_ones_25 : decode cX4_ones 25 = .ok (.ireturn, 1) := by decide +kernel
set_option maxRecDepth 20000 in
theorem ggX4_wrongBits_X4_truth : GoodIn wsX4_wrongBits wsX4_truth := goodIn_r _ [5] (by decide +kernel) (by decide +kernel)
set_option maxRecDepth 20000 in
theorem gX4_wrongBits_X4_truth : GoodIn wsX4_wrongBits (va_wsS RX4 42 yX4_truth wsX4_truth) := goodIn_app (goodIn_of _ (by decide +kernel)) ggX4_wrongBits_X4_truth
set_option maxRecDepth 20000 in
theorem ggX4_wrongBits_X4_ones : GoodIn wsX4_wrongBits wsX4_ones := goodIn_r _ [8] (by decide +kernel) (by decide +kernel)
set_option maxRecDepth 20000 in
theorem gX4_wrongBits_X4_ones : GoodIn wsX4_wrongBits (va_wsS RX4 49 yX4_ones wsX4_ones) := goodIn_app (goodIn_of _ (by decide +kernel)) ggX4_wrongBits_X4_ones
theorem dX4_wrongBits_0 : decode cX4_wrongBits 0 = .ok (.aload_n 0, 1) := by decide +kernel
theorem dX4_wrongBits_1 : decode cX4_wrongBits 1 = .ok (.getfield 7, 3) := by decide +kernel
theorem dX4_wrongBits_4 : decode cX4_wrongBits 4 = .ok (.bipush 12, 2) := by decide +kernel
theorem dX4_wrongBits_6 : decode cX4_wrongBits 6 = .ok (.iload_n 1, 1) := by decide +kernel
theorem dX4_wrongBits_7 : decode cX4_wrongBits 7 = .ok (.iadd, 1) := by decide +kernel
theorem dX4_wrongBits_8 : decode cX4_wrongBits 8 = .ok (.iaload, 1) := by decide +kernel
theorem dX4_wrongBits_9 : decode cX4_wrongBits 9 = .ok (.iload_n 1, 1) := by decide +kernel
theorem dX4_wrongBits_10 : decode cX4_wrongBits 10 = .ok (.invokestatic 42, 3) := by decide +kernel
theorem dX4_wrongBits_13 : decode cX4_wrongBits 13 = .ok (.ixor, 1) := by decide +kernel
theorem dX4_wrongBits_14 : decode cX4_wrongBits 14 = .ok (.invokestatic 49, 3) := by decide +kernel
theorem dX4_wrongBits_17 : decode cX4_wrongBits 17 = .ok (.ireturn, 1) := by decide +kernel
set_option maxRecDepth 20000 in
theorem ggX4_isFound_X4_wrongBits : GoodIn wsX4_isFound wsX4_wrongBits := goodIn_r _ [5, 6, 7, 8, 4, 9, 10, 11, 12, 13, 14, 15, 16, 17, 18, 19, 20, 21, 22, 23] (by decide +kernel) (by decide +kernel)
set_option maxRecDepth 20000 in
theorem gX4_isFound_X4_wrongBits : GoodIn wsX4_isFound (wsV RX4 52 RX4 yX4_wrongBits wsX4_wrongBits) := goodIn_app (goodIn_of _ (by decide +kernel)) ggX4_isFound_X4_wrongBits
theorem dX4_isFound_0 : decode cX4_isFound 0 = .ok (.aload_n 0, 1) := by decide +kernel
theorem dX4_isFound_1 : decode cX4_isFound 1 = .ok (.iload_n 1, 1) := by decide +kernel
theorem dX4_isFound_2 : decode cX4_isFound 2 = .ok (.invokevirtual 52, 3) := by decide +kernel
theorem dX4_isFound_5 : decode cX4_isFound 5 = .ok (.iconst 2, 1) := by decide +kernel
theorem dX4_isFound_6 : decode cX4_isFound 6 = .ok (.irem, 1) := by decide +kernel
theorem dX4_isFound_7 : decode cX4_isFound 7 = .ok (.iconst 1, 1) := by decide +kernel
theorem dX4_isFound_8 : decode cX4_isFound 8 = .ok (.if_icmp .ne 7, 3) := by decide +kernel
theorem dX4_isFound_11 : decode cX4_isFound 11 = .ok (.iconst 1, 1) := by decide +kernel
theorem dX4_isFound_12 : decode cX4_isFound 12 = .ok (.goto 4, 3) := by decide +kernel
theorem dX4_isFound_15 : decode cX4_isFound 15 = .ok (.iconst 0, 1) := by decide +kernel
theorem dX4_isFound_16 : decode cX4_isFound 16 = .ok (.ireturn, 1) := by decide +kernel
set_option maxRecDepth 20000 in
theorem ggX4_isOperand_X4_top : GoodIn wsX4_isOperand wsX4_top := goodIn_r _ [5, 6, 10, 11, 12, 13, 14, 15, 16, 17, 18, 19, 20] (by decide +kernel) (by decide +kernel)
set_option maxRecDepth 20000 in
theorem gX4_isOperand_X4_top : GoodIn wsX4_isOperand (wsV RX4 46 RX4 yX4_top wsX4_top) := goodIn_app (goodIn_of _ (by decide +kernel)) ggX4_isOperand_X4_top
set_option maxRecDepth 20000 in
theorem ggX4_isOperand_X4_in : GoodIn wsX4_isOperand wsX4_in := goodIn_r _ [9] (by decide +kernel) (by decide +kernel)
set_option maxRecDepth 20000 in
theorem gX4_isOperand_X4_in : GoodIn wsX4_isOperand (va_wsS RX4 55 yX4_in wsX4_in) := goodIn_app (goodIn_of _ (by decide +kernel)) ggX4_isOperand_X4_in
theorem dX4_isOperand_0 : decode cX4_isOperand 0 = .ok (.iload_n 1, 1) := by decide +kernel
theorem dX4_isOperand_1 : decode cX4_isOperand 1 = .ok (.iconst 0, 1) := by decide +kernel
theorem dX4_isOperand_2 : decode cX4_isOperand 2 = .ok (.aload_n 0, 1) := by decide +kernel
theorem dX4_isOperand_3 : decode cX4_isOperand 3 = .ok (.invokevirtual 46, 3) := by decide +kernel
theorem dX4_isOperand_6 : decode cX4_isOperand 6 = .ok (.invokestatic 55, 3) := by decide +kernel
theorem dX4_isOperand_9 : decode cX4_isOperand 9 = .ok (.ireturn, 1) := by decide +kernel
set_option maxRecDepth 20000 in
theorem ggX4_isEntry_X4_entries : GoodIn wsX4_isEntry wsX4_entries := goodIn_r _ [5, 6, 7, 8, 4, 9, 10, 14, 15, 16, 17, 18, 19, 20, 21, 22, 23, 24] (by decide +kernel) (by decide +kernel)
set_option maxRecDepth 20000 in
theorem gX4_isEntry_X4_entries : GoodIn wsX4_isEntry (wsV RX4 38 RX4 yX4_entries wsX4_entries) := goodIn_app (goodIn_of _ (by decide +kernel)) ggX4_isEntry_X4_entries
set_option maxRecDepth 20000 in
theorem ggX4_isEntry_X4_in : GoodIn wsX4_isEntry wsX4_in := goodIn_r _ [13] (by decide +kernel) (by decide +kernel)
set_option maxRecDepth 20000 in
theorem gX4_isEntry_X4_in : GoodIn wsX4_isEntry (va_wsS RX4 55 yX4_in wsX4_in) := goodIn_app (goodIn_of _ (by decide +kernel)) ggX4_isEntry_X4_in
theorem dX4_isEntry_0 : decode cX4_isEntry 0 = .ok (.iload_n 1, 1) := by decide +kernel
theorem dX4_isEntry_1 : decode cX4_isEntry 1 = .ok (.iconst 0, 1) := by decide +kernel
theorem dX4_isEntry_2 : decode cX4_isEntry 2 = .ok (.aload_n 0, 1) := by decide +kernel
theorem dX4_isEntry_3 : decode cX4_isEntry 3 = .ok (.invokevirtual 38, 3) := by decide +kernel
theorem dX4_isEntry_6 : decode cX4_isEntry 6 = .ok (.iconst 1, 1) := by decide +kernel
theorem dX4_isEntry_7 : decode cX4_isEntry 7 = .ok (.isub, 1) := by decide +kernel
theorem dX4_isEntry_8 : decode cX4_isEntry 8 = .ok (.invokestatic 55, 3) := by decide +kernel
theorem dX4_isEntry_11 : decode cX4_isEntry 11 = .ok (.ireturn, 1) := by decide +kernel
set_option maxRecDepth 20000 in
theorem ggX4_isRegister_X4_in : GoodIn wsX4_isRegister wsX4_in := goodIn_r _ [4] (by decide +kernel) (by decide +kernel)
set_option maxRecDepth 20000 in
theorem gX4_isRegister_X4_in : GoodIn wsX4_isRegister (va_wsS RX4 55 yX4_in wsX4_in) := goodIn_app (goodIn_of _ (by decide +kernel)) ggX4_isRegister_X4_in
theorem dX4_isRegister_0 : decode cX4_isRegister 0 = .ok (.iload_n 0, 1) := by decide +kernel
theorem dX4_isRegister_1 : decode cX4_isRegister 1 = .ok (.iconst 0, 1) := by decide +kernel
theorem dX4_isRegister_2 : decode cX4_isRegister 2 = .ok (.bipush 7, 2) := by decide +kernel
theorem dX4_isRegister_4 : decode cX4_isRegister 4 = .ok (.invokestatic 55, 3) := by decide +kernel
theorem dX4_isRegister_7 : decode cX4_isRegister 7 = .ok (.ireturn, 1) := by decide +kernel
theorem dX4_save_0 : decode cX4_save 0 = .ok (.aload_n 0, 1) := by decide +kernel
theorem dX4_save_1 : decode cX4_save 1 = .ok (.getfield 59, 3) := by decide +kernel
theorem dX4_save_4 : decode cX4_save 4 = .ok (.iconst 4, 1) := by decide +kernel
theorem dX4_save_5 : decode cX4_save 5 = .ok (.if_icmp .ne 71, 3) := by decide +kernel
theorem dX4_save_8 : decode cX4_save 8 = .ok (.iconst 0, 1) := by decide +kernel
theorem dX4_save_9 : decode cX4_save 9 = .ok (.istore_n 1, 1) := by decide +kernel
theorem dX4_save_10 : decode cX4_save 10 = .ok (.iload_n 1, 1) := by decide +kernel
theorem dX4_save_11 : decode cX4_save 11 = .ok (.sipush 1569, 3) := by decide +kernel
theorem dX4_save_14 : decode cX4_save 14 = .ok (.if_icmp .ge 25, 3) := by decide +kernel
theorem dX4_save_17 : decode cX4_save 17 = .ok (.aload_n 0, 1) := by decide +kernel
theorem dX4_save_18 : decode cX4_save 18 = .ok (.getfield 13, 3) := by decide +kernel
theorem dX4_save_21 : decode cX4_save 21 = .ok (.iload_n 1, 1) := by decide +kernel
theorem dX4_save_22 : decode cX4_save 22 = .ok (.aload_n 0, 1) := by decide +kernel
theorem dX4_save_23 : decode cX4_save 23 = .ok (.getfield 13, 3) := by decide +kernel
theorem dX4_save_26 : decode cX4_save 26 = .ok (.iload_n 1, 1) := by decide +kernel
theorem dX4_save_27 : decode cX4_save 27 = .ok (.sipush 523, 3) := by decide +kernel
theorem dX4_save_30 : decode cX4_save 30 = .ok (.iadd, 1) := by decide +kernel
theorem dX4_save_31 : decode cX4_save 31 = .ok (.iaload, 1) := by decide +kernel
theorem dX4_save_32 : decode cX4_save 32 = .ok (.iastore, 1) := by decide +kernel
theorem dX4_save_33 : decode cX4_save 33 = .ok (.iinc 1 1, 3) := by decide +kernel
theorem dX4_save_36 : decode cX4_save 36 = .ok (.goto (-26), 3) := by decide +kernel
theorem dX4_save_39 : decode cX4_save 39 = .ok (.iconst 0, 1) := by decide +kernel
theorem dX4_save_40 : decode cX4_save 40 = .ok (.istore_n 1, 1) := by decide +kernel
theorem dX4_save_41 : decode cX4_save 41 = .ok (.iload_n 1, 1) := by decide +kernel
theorem dX4_save_42 : decode cX4_save 42 = .ok (.iconst 3, 1) := by decide +kernel
theorem dX4_save_43 : decode cX4_save 43 = .ok (.if_icmp .ge 23, 3) := by decide +kernel
theorem dX4_save_46 : decode cX4_save 46 = .ok (.aload_n 0, 1) := by decide +kernel
theorem dX4_save_47 : decode cX4_save 47 = .ok (.getfield 16, 3) := by decide +kernel
theorem dX4_save_50 : decode cX4_save 50 = .ok (.iload_n 1, 1) := by decide +kernel
theorem dX4_save_51 : decode cX4_save 51 = .ok (.aload_n 0, 1) := by decide +kernel
theorem dX4_save_52 : decode cX4_save 52 = .ok (.getfield 16, 3) := by decide +kernel
theorem dX4_save_55 : decode cX4_save 55 = .ok (.iload_n 1, 1) := by decide +kernel
theorem dX4_save_56 : decode cX4_save 56 = .ok (.iconst 1, 1) := by decide +kernel
theorem dX4_save_57 : decode cX4_save 57 = .ok (.iadd, 1) := by decide +kernel
theorem dX4_save_58 : decode cX4_save 58 = .ok (.laload, 1) := by decide +kernel
theorem dX4_save_59 : decode cX4_save 59 = .ok (.lastore, 1) := by decide +kernel
theorem dX4_save_60 : decode cX4_save 60 = .ok (.iinc 1 1, 3) := by decide +kernel
theorem dX4_save_63 : decode cX4_save 63 = .ok (.goto (-22), 3) := by decide +kernel
theorem dX4_save_66 : decode cX4_save 66 = .ok (.aload_n 0, 1) := by decide +kernel
theorem dX4_save_67 : decode cX4_save 67 = .ok (.dup, 1) := by decide +kernel
theorem dX4_save_68 : decode cX4_save 68 = .ok (.getfield 59, 3) := by decide +kernel
theorem dX4_save_71 : decode cX4_save 71 = .ok (.iconst 1, 1) := by decide +kernel
theorem dX4_save_72 : decode cX4_save 72 = .ok (.isub, 1) := by decide +kernel
theorem dX4_save_73 : decode cX4_save 73 = .ok (.putfield 59, 3) := by decide +kernel
theorem dX4_save_76 : decode cX4_save 76 = .ok (.iconst 0, 1) := by decide +kernel
theorem dX4_save_77 : decode cX4_save 77 = .ok (.istore_n 1, 1) := by decide +kernel
theorem dX4_save_78 : decode cX4_save 78 = .ok (.iload_n 1, 1) := by decide +kernel
theorem dX4_save_79 : decode cX4_save 79 = .ok (.sipush 523, 3) := by decide +kernel
theorem dX4_save_82 : decode cX4_save 82 = .ok (.if_icmp .ge 30, 3) := by decide +kernel
theorem dX4_save_85 : decode cX4_save 85 = .ok (.aload_n 0, 1) := by decide +kernel
theorem dX4_save_86 : decode cX4_save 86 = .ok (.getfield 13, 3) := by decide +kernel
theorem dX4_save_89 : decode cX4_save 89 = .ok (.sipush 523, 3) := by decide +kernel
theorem dX4_save_92 : decode cX4_save 92 = .ok (.aload_n 0, 1) := by decide +kernel
theorem dX4_save_93 : decode cX4_save 93 = .ok (.getfield 59, 3) := by decide +kernel
theorem dX4_save_96 : decode cX4_save 96 = .ok (.imul, 1) := by decide +kernel
theorem dX4_save_97 : decode cX4_save 97 = .ok (.iload_n 1, 1) := by decide +kernel
theorem dX4_save_98 : decode cX4_save 98 = .ok (.iadd, 1) := by decide +kernel
theorem dX4_save_99 : decode cX4_save 99 = .ok (.aload_n 0, 1) := by decide +kernel
theorem dX4_save_100 : decode cX4_save 100 = .ok (.getfield 7, 3) := by decide +kernel
theorem dX4_save_103 : decode cX4_save 103 = .ok (.iload_n 1, 1) := by decide +kernel
theorem dX4_save_104 : decode cX4_save 104 = .ok (.iaload, 1) := by decide +kernel
theorem dX4_save_105 : decode cX4_save 105 = .ok (.iastore, 1) := by decide +kernel
theorem dX4_save_106 : decode cX4_save 106 = .ok (.iinc 1 1, 3) := by decide +kernel
theorem dX4_save_109 : decode cX4_save 109 = .ok (.goto (-31), 3) := by decide +kernel
theorem dX4_save_112 : decode cX4_save 112 = .ok (.aload_n 0, 1) := by decide +kernel
theorem dX4_save_113 : decode cX4_save 113 = .ok (.getfield 16, 3) := by decide +kernel
theorem dX4_save_116 : decode cX4_save 116 = .ok (.aload_n 0, 1) := by decide +kernel
theorem dX4_save_117 : decode cX4_save 117 = .ok (.getfield 59, 3) := by decide +kernel
theorem dX4_save_120 : decode cX4_save 120 = .ok (.aload_n 0, 1) := by decide +kernel
theorem dX4_save_121 : decode cX4_save 121 = .ok (.getfield 34, 3) := by decide +kernel
theorem dX4_save_124 : decode cX4_save 124 = .ok (.lastore, 1) := by decide +kernel
theorem dX4_save_125 : decode cX4_save 125 = .ok (.aload_n 0, 1) := by decide +kernel
theorem dX4_save_126 : decode cX4_save 126 = .ok (.dup, 1) := by decide +kernel
theorem dX4_save_127 : decode cX4_save 127 = .ok (.getfield 59, 3) := by decide +kernel
theorem dX4_save_130 : decode cX4_save 130 = .ok (.iconst 1, 1) := by decide +kernel
theorem dX4_save_131 : decode cX4_save 131 = .ok (.iadd, 1) := by decide +kernel
theorem dX4_save_132 : decode cX4_save 132 = .ok (.putfield 59, 3) := by decide +kernel
theorem dX4_save_135 : decode cX4_save 135 = .ok (.return_, 1) := by decide +kernel
set_option maxRecDepth 20000 in
theorem ggX4_undo_X4_fails : GoodIn wsX4_undo wsX4_fails := goodIn_r _ [10, 11, 16, 17, 18, 19, 20, 21, 22, 23, 24, 25, 26] (by decide +kernel) (by decide +kernel)
set_option maxRecDepth 20000 in
theorem gX4_undo_X4_fails : GoodIn wsX4_undo (wsV RX4 62 RX4 yX4_fails wsX4_fails) := goodIn_app (goodIn_of _ (by decide +kernel)) ggX4_undo_X4_fails
set_option maxRecDepth 20000 in
theorem ggX4_undo_X4_tells : GoodIn wsX4_undo wsX4_tells := goodIn_r _ [15, 11, 16, 17, 18, 19, 20, 21, 22, 23, 24, 25, 26] (by decide +kernel) (by decide +kernel)
set_option maxRecDepth 20000 in
theorem gX4_undo_X4_tells : GoodIn wsX4_undo (wsV RX4 65 RX4 yX4_tells wsX4_tells) := goodIn_app (goodIn_of _ (by decide +kernel)) ggX4_undo_X4_tells
theorem dX4_undo_0 : decode cX4_undo 0 = .ok (.aload_n 0, 1) := by decide +kernel
theorem dX4_undo_1 : decode cX4_undo 1 = .ok (.getfield 59, 3) := by decide +kernel
theorem dX4_undo_4 : decode cX4_undo 4 = .ok (.ifCond .ne 9, 3) := by decide +kernel
theorem dX4_undo_7 : decode cX4_undo 7 = .ok (.aload_n 0, 1) := by decide +kernel
theorem dX4_undo_8 : decode cX4_undo 8 = .ok (.iconst 1, 1) := by decide +kernel
theorem dX4_undo_9 : decode cX4_undo 9 = .ok (.invokevirtual 62, 3) := by decide +kernel
theorem dX4_undo_12 : decode cX4_undo 12 = .ok (.ireturn, 1) := by decide +kernel
theorem dX4_undo_13 : decode cX4_undo 13 = .ok (.aload_n 0, 1) := by decide +kernel
theorem dX4_undo_14 : decode cX4_undo 14 = .ok (.dup, 1) := by decide +kernel
theorem dX4_undo_15 : decode cX4_undo 15 = .ok (.getfield 59, 3) := by decide +kernel
theorem dX4_undo_18 : decode cX4_undo 18 = .ok (.iconst 1, 1) := by decide +kernel
theorem dX4_undo_19 : decode cX4_undo 19 = .ok (.isub, 1) := by decide +kernel
theorem dX4_undo_20 : decode cX4_undo 20 = .ok (.putfield 59, 3) := by decide +kernel
theorem dX4_undo_23 : decode cX4_undo 23 = .ok (.iconst 0, 1) := by decide +kernel
theorem dX4_undo_24 : decode cX4_undo 24 = .ok (.istore_n 1, 1) := by decide +kernel
theorem dX4_undo_25 : decode cX4_undo 25 = .ok (.iload_n 1, 1) := by decide +kernel
theorem dX4_undo_26 : decode cX4_undo 26 = .ok (.sipush 523, 3) := by decide +kernel
theorem dX4_undo_29 : decode cX4_undo 29 = .ok (.if_icmp .ge 30, 3) := by decide +kernel
theorem dX4_undo_32 : decode cX4_undo 32 = .ok (.aload_n 0, 1) := by decide +kernel
theorem dX4_undo_33 : decode cX4_undo 33 = .ok (.getfield 7, 3) := by decide +kernel
theorem dX4_undo_36 : decode cX4_undo 36 = .ok (.iload_n 1, 1) := by decide +kernel
theorem dX4_undo_37 : decode cX4_undo 37 = .ok (.aload_n 0, 1) := by decide +kernel
theorem dX4_undo_38 : decode cX4_undo 38 = .ok (.getfield 13, 3) := by decide +kernel
theorem dX4_undo_41 : decode cX4_undo 41 = .ok (.sipush 523, 3) := by decide +kernel
theorem dX4_undo_44 : decode cX4_undo 44 = .ok (.aload_n 0, 1) := by decide +kernel
theorem dX4_undo_45 : decode cX4_undo 45 = .ok (.getfield 59, 3) := by decide +kernel
theorem dX4_undo_48 : decode cX4_undo 48 = .ok (.imul, 1) := by decide +kernel
theorem dX4_undo_49 : decode cX4_undo 49 = .ok (.iload_n 1, 1) := by decide +kernel
theorem dX4_undo_50 : decode cX4_undo 50 = .ok (.iadd, 1) := by decide +kernel
theorem dX4_undo_51 : decode cX4_undo 51 = .ok (.iaload, 1) := by decide +kernel
theorem dX4_undo_52 : decode cX4_undo 52 = .ok (.iastore, 1) := by decide +kernel
theorem dX4_undo_53 : decode cX4_undo 53 = .ok (.iinc 1 1, 3) := by decide +kernel
theorem dX4_undo_56 : decode cX4_undo 56 = .ok (.goto (-31), 3) := by decide +kernel
theorem dX4_undo_59 : decode cX4_undo 59 = .ok (.aload_n 0, 1) := by decide +kernel
theorem dX4_undo_60 : decode cX4_undo 60 = .ok (.aload_n 0, 1) := by decide +kernel
theorem dX4_undo_61 : decode cX4_undo 61 = .ok (.getfield 16, 3) := by decide +kernel
theorem dX4_undo_64 : decode cX4_undo 64 = .ok (.aload_n 0, 1) := by decide +kernel
theorem dX4_undo_65 : decode cX4_undo 65 = .ok (.getfield 59, 3) := by decide +kernel
theorem dX4_undo_68 : decode cX4_undo 68 = .ok (.laload, 1) := by decide +kernel
theorem dX4_undo_69 : decode cX4_undo 69 = .ok (.putfield 34, 3) := by decide +kernel
theorem dX4_undo_72 : decode cX4_undo 72 = .ok (.aload_n 0, 1) := by decide +kernel
theorem dX4_undo_73 : decode cX4_undo 73 = .ok (.aload_n 0, 1) := by decide +kernel
theorem dX4_undo_74 : decode cX4_undo 74 = .ok (.getfield 59, 3) := by decide +kernel
theorem dX4_undo_77 : decode cX4_undo 77 = .ok (.invokevirtual 65, 3) := by decide +kernel
theorem dX4_undo_80 : decode cX4_undo 80 = .ok (.ireturn, 1) := by decide +kernel
set_option maxRecDepth 20000 in
theorem ggX4_wrongEntries_X4_entries : GoodIn wsX4_wrongEntries wsX4_entries := goodIn_r _ [5, 6, 7, 8, 4, 9, 10, 21, 22, 23, 24, 25, 26, 27, 28, 29, 30, 31] (by decide +kernel) (by decide +kernel)
set_option maxRecDepth 20000 in
theorem gX4_wrongEntries_X4_entries : GoodIn wsX4_wrongEntries (wsV RX4 38 RX4 yX4_entries wsX4_entries) := goodIn_app (goodIn_of _ (by decide +kernel)) ggX4_wrongEntries_X4_entries
set_option maxRecDepth 20000 in
theorem ggX4_wrongEntries_X4_wrongBits : GoodIn wsX4_wrongEntries wsX4_wrongBits := goodIn_r _ [14, 10, 15, 16, 4, 17, 18, 19, 20, 21, 22, 23, 24, 25, 26, 27, 28, 29, 30, 31] (by decide +kernel) (by decide +kernel)
set_option maxRecDepth 20000 in
theorem gX4_wrongEntries_X4_wrongBits : GoodIn wsX4_wrongEntries (wsV RX4 52 RX4 yX4_wrongBits wsX4_wrongBits) := goodIn_app (goodIn_of _ (by decide +kernel)) ggX4_wrongEntries_X4_wrongBits
theorem dX4_wrongEntries_0 : decode cX4_wrongEntries 0 = .ok (.iconst 0, 1) := by decide +kernel
theorem dX4_wrongEntries_1 : decode cX4_wrongEntries 1 = .ok (.istore_n 1, 1) := by decide +kernel
theorem dX4_wrongEntries_2 : decode cX4_wrongEntries 2 = .ok (.iconst 0, 1) := by decide +kernel
theorem dX4_wrongEntries_3 : decode cX4_wrongEntries 3 = .ok (.istore_n 2, 1) := by decide +kernel
theorem dX4_wrongEntries_4 : decode cX4_wrongEntries 4 = .ok (.iload_n 2, 1) := by decide +kernel
theorem dX4_wrongEntries_5 : decode cX4_wrongEntries 5 = .ok (.aload_n 0, 1) := by decide +kernel
theorem dX4_wrongEntries_6 : decode cX4_wrongEntries 6 = .ok (.invokevirtual 38, 3) := by decide +kernel
theorem dX4_wrongEntries_9 : decode cX4_wrongEntries 9 = .ok (.if_icmp .ge 25, 3) := by decide +kernel
theorem dX4_wrongEntries_12 : decode cX4_wrongEntries 12 = .ok (.iload_n 1, 1) := by decide +kernel
theorem dX4_wrongEntries_13 : decode cX4_wrongEntries 13 = .ok (.aload_n 0, 1) := by decide +kernel
theorem dX4_wrongEntries_14 : decode cX4_wrongEntries 14 = .ok (.iload_n 2, 1) := by decide +kernel
theorem dX4_wrongEntries_15 : decode cX4_wrongEntries 15 = .ok (.invokevirtual 52, 3) := by decide +kernel
theorem dX4_wrongEntries_18 : decode cX4_wrongEntries 18 = .ok (.ifCond .le 7, 3) := by decide +kernel
theorem dX4_wrongEntries_21 : decode cX4_wrongEntries 21 = .ok (.iconst 1, 1) := by decide +kernel
theorem dX4_wrongEntries_22 : decode cX4_wrongEntries 22 = .ok (.goto 4, 3) := by decide +kernel
theorem dX4_wrongEntries_25 : decode cX4_wrongEntries 25 = .ok (.iconst 0, 1) := by decide +kernel
theorem dX4_wrongEntries_26 : decode cX4_wrongEntries 26 = .ok (.iadd, 1) := by decide +kernel
theorem dX4_wrongEntries_27 : decode cX4_wrongEntries 27 = .ok (.istore_n 1, 1) := by decide +kernel
theorem dX4_wrongEntries_28 : decode cX4_wrongEntries 28 = .ok (.iinc 2 1, 3) := by decide +kernel
theorem dX4_wrongEntries_31 : decode cX4_wrongEntries 31 = .ok (.goto (-27), 3) := by decide +kernel
theorem dX4_wrongEntries_34 : decode cX4_wrongEntries 34 = .ok (.iload_n 1, 1) := by decide +kernel
theorem dX4_wrongEntries_35 : decode cX4_wrongEntries 35 = .ok (.ireturn, 1) := by decide +kernel
set_option maxRecDepth 20000 in
theorem ggX4_foundEntries_X4_entries : GoodIn wsX4_foundEntries wsX4_entries := goodIn_r _ [5, 6, 7, 8, 4, 9, 10, 25, 26, 27, 28, 29, 30, 31, 32, 33, 34, 35] (by decide +kernel) (by decide +kernel)
set_option maxRecDepth 20000 in
theorem gX4_foundEntries_X4_entries : GoodIn wsX4_foundEntries (wsV RX4 38 RX4 yX4_entries wsX4_entries) := goodIn_app (goodIn_of _ (by decide +kernel)) ggX4_foundEntries_X4_entries
set_option maxRecDepth 20000 in
theorem ggX4_foundEntries_X4_isFound : GoodIn wsX4_foundEntries wsX4_isFound := goodIn_r _ [14, 15, 16, 17, 4, 18, 10, 19, 20, 21, 22, 23, 24, 25, 26, 27, 28, 29, 30, 31, 32, 33, 34, 35] (by decide +kernel) (by decide +kernel)
set_option maxRecDepth 20000 in
theorem gX4_foundEntries_X4_isFound : GoodIn wsX4_foundEntries (wsV RX4 68 RX4 yX4_isFound wsX4_isFound) := goodIn_app (goodIn_of _ (by decide +kernel)) ggX4_foundEntries_X4_isFound
theorem dX4_foundEntries_0 : decode cX4_foundEntries 0 = .ok (.iconst 0, 1) := by decide +kernel
theorem dX4_foundEntries_1 : decode cX4_foundEntries 1 = .ok (.istore_n 1, 1) := by decide +kernel
theorem dX4_foundEntries_2 : decode cX4_foundEntries 2 = .ok (.iconst 0, 1) := by decide +kernel
theorem dX4_foundEntries_3 : decode cX4_foundEntries 3 = .ok (.istore_n 2, 1) := by decide +kernel
theorem dX4_foundEntries_4 : decode cX4_foundEntries 4 = .ok (.iload_n 2, 1) := by decide +kernel
theorem dX4_foundEntries_5 : decode cX4_foundEntries 5 = .ok (.aload_n 0, 1) := by decide +kernel
theorem dX4_foundEntries_6 : decode cX4_foundEntries 6 = .ok (.invokevirtual 38, 3) := by decide +kernel
theorem dX4_foundEntries_9 : decode cX4_foundEntries 9 = .ok (.if_icmp .ge 25, 3) := by decide +kernel
theorem dX4_foundEntries_12 : decode cX4_foundEntries 12 = .ok (.iload_n 1, 1) := by decide +kernel
theorem dX4_foundEntries_13 : decode cX4_foundEntries 13 = .ok (.aload_n 0, 1) := by decide +kernel
theorem dX4_foundEntries_14 : decode cX4_foundEntries 14 = .ok (.iload_n 2, 1) := by decide +kernel
theorem dX4_foundEntries_15 : decode cX4_foundEntries 15 = .ok (.invokevirtual 68, 3) := by decide +kernel
theorem dX4_foundEntries_18 : decode cX4_foundEntries 18 = .ok (.ifCond .eq 7, 3) := by decide +kernel
theorem dX4_foundEntries_21 : decode cX4_foundEntries 21 = .ok (.iconst 1, 1) := by decide +kernel
theorem dX4_foundEntries_22 : decode cX4_foundEntries 22 = .ok (.goto 4, 3) := by decide +kernel
theorem dX4_foundEntries_25 : decode cX4_foundEntries 25 = .ok (.iconst 0, 1) := by decide +kernel
theorem dX4_foundEntries_26 : decode cX4_foundEntries 26 = .ok (.iadd, 1) := by decide +kernel
theorem dX4_foundEntries_27 : decode cX4_foundEntries 27 = .ok (.istore_n 1, 1) := by decide +kernel
theorem dX4_foundEntries_28 : decode cX4_foundEntries 28 = .ok (.iinc 2 1, 3) := by decide +kernel
theorem dX4_foundEntries_31 : decode cX4_foundEntries 31 = .ok (.goto (-27), 3) := by decide +kernel
theorem dX4_foundEntries_34 : decode cX4_foundEntries 34 = .ok (.iload_n 1, 1) := by decide +kernel
theorem dX4_foundEntries_35 : decode cX4_foundEntries 35 = .ok (.ireturn, 1) := by decide +kernel
set_option maxRecDepth 20000 in
theorem ggX4_allWrongBits_X4_entries : GoodIn wsX4_allWrongBits wsX4_entries := goodIn_r _ [5, 6, 7, 8, 4, 9, 10, 21, 22, 23, 24, 25, 26, 27, 28, 29, 30, 31] (by decide +kernel) (by decide +kernel)
set_option maxRecDepth 20000 in
theorem gX4_allWrongBits_X4_entries : GoodIn wsX4_allWrongBits (wsV RX4 38 RX4 yX4_entries wsX4_entries) := goodIn_app (goodIn_of _ (by decide +kernel)) ggX4_allWrongBits_X4_entries
set_option maxRecDepth 20000 in
theorem ggX4_allWrongBits_X4_wrongBits : GoodIn wsX4_allWrongBits wsX4_wrongBits := goodIn_r _ [14, 10, 15, 16, 4, 17, 18, 19, 20, 21, 22, 23, 24, 25, 26, 27, 28, 29, 30, 31] (by decide +kernel) (by decide +kernel)
set_option maxRecDepth 20000 in
theorem gX4_allWrongBits_X4_wrongBits : GoodIn wsX4_allWrongBits (wsV RX4 52 RX4 yX4_wrongBits wsX4_wrongBits) := goodIn_app (goodIn_of _ (by decide +kernel)) ggX4_allWrongBits_X4_wrongBits
theorem dX4_allWrongBits_0 : decode cX4_allWrongBits 0 = .ok (.iconst 0, 1) := by decide +kernel
theorem dX4_allWrongBits_1 : decode cX4_allWrongBits 1 = .ok (.istore_n 1, 1) := by decide +kernel
theorem dX4_allWrongBits_2 : decode cX4_allWrongBits 2 = .ok (.iconst 0, 1) := by decide +kernel
theorem dX4_allWrongBits_3 : decode cX4_allWrongBits 3 = .ok (.istore_n 2, 1) := by decide +kernel
theorem dX4_allWrongBits_4 : decode cX4_allWrongBits 4 = .ok (.iload_n 2, 1) := by decide +kernel
theorem dX4_allWrongBits_5 : decode cX4_allWrongBits 5 = .ok (.aload_n 0, 1) := by decide +kernel
theorem dX4_allWrongBits_6 : decode cX4_allWrongBits 6 = .ok (.invokevirtual 38, 3) := by decide +kernel
theorem dX4_allWrongBits_9 : decode cX4_allWrongBits 9 = .ok (.if_icmp .ge 17, 3) := by decide +kernel
theorem dX4_allWrongBits_12 : decode cX4_allWrongBits 12 = .ok (.iload_n 1, 1) := by decide +kernel
theorem dX4_allWrongBits_13 : decode cX4_allWrongBits 13 = .ok (.aload_n 0, 1) := by decide +kernel
theorem dX4_allWrongBits_14 : decode cX4_allWrongBits 14 = .ok (.iload_n 2, 1) := by decide +kernel
theorem dX4_allWrongBits_15 : decode cX4_allWrongBits 15 = .ok (.invokevirtual 52, 3) := by decide +kernel
theorem dX4_allWrongBits_18 : decode cX4_allWrongBits 18 = .ok (.iadd, 1) := by decide +kernel
theorem dX4_allWrongBits_19 : decode cX4_allWrongBits 19 = .ok (.istore_n 1, 1) := by decide +kernel
theorem dX4_allWrongBits_20 : decode cX4_allWrongBits 20 = .ok (.iinc 2 1, 3) := by decide +kernel
theorem dX4_allWrongBits_23 : decode cX4_allWrongBits 23 = .ok (.goto (-19), 3) := by decide +kernel
theorem dX4_allWrongBits_26 : decode cX4_allWrongBits 26 = .ok (.iload_n 1, 1) := by decide +kernel
theorem dX4_allWrongBits_27 : decode cX4_allWrongBits 27 = .ok (.ireturn, 1) := by decide +kernel
set_option maxRecDepth 20000 in
theorem ggX4_setWidth_X4_in : GoodIn wsX4_setWidth wsX4_in := goodIn_r _ [4] (by decide +kernel) (by decide +kernel)
set_option maxRecDepth 20000 in
theorem gX4_setWidth_X4_in : GoodIn wsX4_setWidth (va_wsS RX4 55 yX4_in wsX4_in) := goodIn_app (goodIn_of _ (by decide +kernel)) ggX4_setWidth_X4_in
set_option maxRecDepth 20000 in
theorem ggX4_setWidth_X4_fails : GoodIn wsX4_setWidth wsX4_fails := goodIn_r _ [8, 9, 49, 50, 51, 52, 53, 54, 55, 56, 57, 58, 59] (by decide +kernel) (by decide +kernel)
set_option maxRecDepth 20000 in
theorem gX4_setWidth_X4_fails : GoodIn wsX4_setWidth (wsV RX4 62 RX4 yX4_fails wsX4_fails) := goodIn_app (goodIn_of _ (by decide +kernel)) ggX4_setWidth_X4_fails
set_option maxRecDepth 20000 in
theorem ggX4_setWidth_X4_save : GoodIn wsX4_setWidth wsX4_save := goodIn_r _ [13, 14, 15, 16, 17, 18, 49, 50, 51, 52, 53, 54, 55, 56, 57, 58, 59] (by decide +kernel) (by decide +kernel)
set_option maxRecDepth 20000 in
theorem gX4_setWidth_X4_save : GoodIn wsX4_setWidth (wsV RX4 72 RX4 yX4_save wsX4_save) := goodIn_app (goodIn_of _ (by decide +kernel)) ggX4_setWidth_X4_save
set_option maxRecDepth 20000 in
theorem ggX4_setWidth_X4_wrongEntries : GoodIn wsX4_setWidth wsX4_wrongEntries := goodIn_r _ [22, 23, 24, 25, 3, 26, 27, 28, 29, 30, 17, 31, 32, 33, 34, 35, 36, 37, 38, 39, 40, 49, 50, 51, 52, 53, 54, 55, 56, 57, 58, 59] (by decide +kernel) (by decide +kernel)
set_option maxRecDepth 20000 in
theorem gX4_setWidth_X4_wrongEntries : GoodIn wsX4_setWidth (wsV RX4 75 RX4 yX4_wrongEntries wsX4_wrongEntries) := goodIn_app (goodIn_of _ (by decide +kernel)) ggX4_setWidth_X4_wrongEntries
set_option maxRecDepth 20000 in
theorem ggX4_setWidth_X4_begin : GoodIn wsX4_setWidth wsX4_begin := goodIn_r _ [44, 17, 18, 23, 24, 25, 3, 26, 27, 28, 29, 30, 35, 36, 37, 49, 50, 51, 52, 53, 54, 55, 56, 57, 58, 59] (by decide +kernel) (by decide +kernel)
set_option maxRecDepth 20000 in
theorem gX4_setWidth_X4_begin : GoodIn wsX4_setWidth (wsV RX4 26 RX4 yX4_begin wsX4_begin) := goodIn_app (goodIn_of _ (by decide +kernel)) ggX4_setWidth_X4_begin
set_option maxRecDepth 20000 in
theorem ggX4_setWidth_X4_tells : GoodIn wsX4_setWidth wsX4_tells := goodIn_r _ [48, 9, 49, 50, 51, 52, 53, 54, 55, 56, 57, 58, 59] (by decide +kernel) (by decide +kernel)
set_option maxRecDepth 20000 in
theorem gX4_setWidth_X4_tells : GoodIn wsX4_setWidth (wsV RX4 65 RX4 yX4_tells wsX4_tells) := goodIn_app (goodIn_of _ (by decide +kernel)) ggX4_setWidth_X4_tells
theorem dX4_setWidth_0 : decode cX4_setWidth 0 = .ok (.iload_n 1, 1) := by decide +kernel
theorem dX4_setWidth_1 : decode cX4_setWidth 1 = .ok (.iconst 3, 1) := by decide +kernel
theorem dX4_setWidth_2 : decode cX4_setWidth 2 = .ok (.bipush 8, 2) := by decide +kernel
theorem dX4_setWidth_4 : decode cX4_setWidth 4 = .ok (.invokestatic 55, 3) := by decide +kernel
theorem dX4_setWidth_7 : decode cX4_setWidth 7 = .ok (.ifCond .ne 9, 3) := by decide +kernel
theorem dX4_setWidth_10 : decode cX4_setWidth 10 = .ok (.aload_n 0, 1) := by decide +kernel
theorem dX4_setWidth_11 : decode cX4_setWidth 11 = .ok (.iconst 1, 1) := by decide +kernel
theorem dX4_setWidth_12 : decode cX4_setWidth 12 = .ok (.invokevirtual 62, 3) := by decide +kernel
theorem dX4_setWidth_15 : decode cX4_setWidth 15 = .ok (.ireturn, 1) := by decide +kernel
theorem dX4_setWidth_16 : decode cX4_setWidth 16 = .ok (.aload_n 0, 1) := by decide +kernel
theorem dX4_setWidth_17 : decode cX4_setWidth 17 = .ok (.invokevirtual 72, 3) := by decide +kernel
theorem dX4_setWidth_20 : decode cX4_setWidth 20 = .ok (.aload_n 0, 1) := by decide +kernel
theorem dX4_setWidth_21 : decode cX4_setWidth 21 = .ok (.invokevirtual 75, 3) := by decide +kernel
theorem dX4_setWidth_24 : decode cX4_setWidth 24 = .ok (.istore_n 2, 1) := by decide +kernel
theorem dX4_setWidth_25 : decode cX4_setWidth 25 = .ok (.aload_n 0, 1) := by decide +kernel
theorem dX4_setWidth_26 : decode cX4_setWidth 26 = .ok (.iload_n 1, 1) := by decide +kernel
theorem dX4_setWidth_27 : decode cX4_setWidth 27 = .ok (.invokevirtual 26, 3) := by decide +kernel
theorem dX4_setWidth_30 : decode cX4_setWidth 30 = .ok (.aload_n 0, 1) := by decide +kernel
theorem dX4_setWidth_31 : decode cX4_setWidth 31 = .ok (.iload_n 2, 1) := by decide +kernel
theorem dX4_setWidth_32 : decode cX4_setWidth 32 = .ok (.invokevirtual 65, 3) := by decide +kernel
theorem dX4_setWidth_35 : decode cX4_setWidth 35 = .ok (.ireturn, 1) := by decide +kernel
set_option maxRecDepth 20000 in
theorem ggX4_setCost_X4_in : GoodIn wsX4_setCost wsX4_in := goodIn_r _ [5] (by decide +kernel) (by decide +kernel)
set_option maxRecDepth 20000 in
theorem gX4_setCost_X4_in : GoodIn wsX4_setCost (va_wsS RX4 55 yX4_in wsX4_in) := goodIn_app (goodIn_of _ (by decide +kernel)) ggX4_setCost_X4_in
set_option maxRecDepth 20000 in
theorem ggX4_setCost_X4_fails : GoodIn wsX4_setCost wsX4_fails := goodIn_r _ [9, 10, 23, 24, 25, 26, 27, 28, 29, 30, 31, 32, 33] (by decide +kernel) (by decide +kernel)
set_option maxRecDepth 20000 in
theorem gX4_setCost_X4_fails : GoodIn wsX4_setCost (wsV RX4 62 RX4 yX4_fails wsX4_fails) := goodIn_app (goodIn_of _ (by decide +kernel)) ggX4_setCost_X4_fails
set_option maxRecDepth 20000 in
theorem ggX4_setCost_X4_save : GoodIn wsX4_setCost wsX4_save := goodIn_r _ [14, 15, 16, 17, 1, 18, 23, 24, 25, 26, 27, 28, 29, 30, 31, 32, 33] (by decide +kernel) (by decide +kernel)
set_option maxRecDepth 20000 in
theorem gX4_setCost_X4_save : GoodIn wsX4_setCost (wsV RX4 72 RX4 yX4_save wsX4_save) := goodIn_app (goodIn_of _ (by decide +kernel)) ggX4_setCost_X4_save
set_option maxRecDepth 20000 in
theorem ggX4_setCost_X4_tells : GoodIn wsX4_setCost wsX4_tells := goodIn_r _ [22, 10, 23, 24, 25, 26, 27, 28, 29, 30, 31, 32, 33] (by decide +kernel) (by decide +kernel)
set_option maxRecDepth 20000 in
theorem gX4_setCost_X4_tells : GoodIn wsX4_setCost (wsV RX4 65 RX4 yX4_tells wsX4_tells) := goodIn_app (goodIn_of _ (by decide +kernel)) ggX4_setCost_X4_tells
theorem dX4_setCost_0 : decode cX4_setCost 0 = .ok (.iload_n 1, 1) := by decide +kernel
theorem dX4_setCost_1 : decode cX4_setCost 1 = .ok (.iconst 0, 1) := by decide +kernel
theorem dX4_setCost_2 : decode cX4_setCost 2 = .ok (.iconst 2, 1) := by decide +kernel
theorem dX4_setCost_3 : decode cX4_setCost 3 = .ok (.invokestatic 55, 3) := by decide +kernel
theorem dX4_setCost_6 : decode cX4_setCost 6 = .ok (.ifCond .eq 13, 3) := by decide +kernel
theorem dX4_setCost_9 : decode cX4_setCost 9 = .ok (.iload_n 2, 1) := by decide +kernel
theorem dX4_setCost_10 : decode cX4_setCost 10 = .ok (.iconst 1, 1) := by decide +kernel
theorem dX4_setCost_11 : decode cX4_setCost 11 = .ok (.bipush 50, 2) := by decide +kernel
theorem dX4_setCost_13 : decode cX4_setCost 13 = .ok (.invokestatic 55, 3) := by decide +kernel
theorem dX4_setCost_16 : decode cX4_setCost 16 = .ok (.ifCond .ne 9, 3) := by decide +kernel
theorem dX4_setCost_19 : decode cX4_setCost 19 = .ok (.aload_n 0, 1) := by decide +kernel
theorem dX4_setCost_20 : decode cX4_setCost 20 = .ok (.iconst 1, 1) := by decide +kernel
theorem dX4_setCost_21 : decode cX4_setCost 21 = .ok (.invokevirtual 62, 3) := by decide +kernel
theorem dX4_setCost_24 : decode cX4_setCost 24 = .ok (.ireturn, 1) := by decide +kernel
theorem dX4_setCost_25 : decode cX4_setCost 25 = .ok (.aload_n 0, 1) := by decide +kernel
theorem dX4_setCost_26 : decode cX4_setCost 26 = .ok (.invokevirtual 72, 3) := by decide +kernel
theorem dX4_setCost_29 : decode cX4_setCost 29 = .ok (.aload_n 0, 1) := by decide +kernel
theorem dX4_setCost_30 : decode cX4_setCost 30 = .ok (.getfield 7, 3) := by decide +kernel
theorem dX4_setCost_33 : decode cX4_setCost 33 = .ok (.iconst 1, 1) := by decide +kernel
theorem dX4_setCost_34 : decode cX4_setCost 34 = .ok (.iload_n 1, 1) := by decide +kernel
theorem dX4_setCost_35 : decode cX4_setCost 35 = .ok (.iadd, 1) := by decide +kernel
theorem dX4_setCost_36 : decode cX4_setCost 36 = .ok (.iaload, 1) := by decide +kernel
theorem dX4_setCost_37 : decode cX4_setCost 37 = .ok (.istore_n 3, 1) := by decide +kernel
theorem dX4_setCost_38 : decode cX4_setCost 38 = .ok (.aload_n 0, 1) := by decide +kernel
theorem dX4_setCost_39 : decode cX4_setCost 39 = .ok (.getfield 7, 3) := by decide +kernel
theorem dX4_setCost_42 : decode cX4_setCost 42 = .ok (.iconst 1, 1) := by decide +kernel
theorem dX4_setCost_43 : decode cX4_setCost 43 = .ok (.iload_n 1, 1) := by decide +kernel
theorem dX4_setCost_44 : decode cX4_setCost 44 = .ok (.iadd, 1) := by decide +kernel
theorem dX4_setCost_45 : decode cX4_setCost 45 = .ok (.iload_n 2, 1) := by decide +kernel
theorem dX4_setCost_46 : decode cX4_setCost 46 = .ok (.iastore, 1) := by decide +kernel
theorem dX4_setCost_47 : decode cX4_setCost 47 = .ok (.aload_n 0, 1) := by decide +kernel
theorem dX4_setCost_48 : decode cX4_setCost 48 = .ok (.iload_n 3, 1) := by decide +kernel
theorem dX4_setCost_49 : decode cX4_setCost 49 = .ok (.invokevirtual 65, 3) := by decide +kernel
theorem dX4_setCost_52 : decode cX4_setCost 52 = .ok (.ireturn, 1) := by decide +kernel
set_option maxRecDepth 20000 in
theorem ggX4_flip_X4_isEntry : GoodIn wsX4_flip wsX4_isEntry := goodIn_r _ [6, 7, 8, 9, 5, 10, 11, 12, 13, 14, 1, 15, 16, 17, 35, 36, 37, 38, 39, 40, 41, 42, 43, 44, 45] (by decide +kernel) (by decide +kernel)
set_option maxRecDepth 20000 in
theorem gX4_flip_X4_isEntry : GoodIn wsX4_flip (wsV RX4 78 RX4 yX4_isEntry wsX4_isEntry) := goodIn_app (goodIn_of _ (by decide +kernel)) ggX4_flip_X4_isEntry
set_option maxRecDepth 20000 in
theorem ggX4_flip_X4_fails : GoodIn wsX4_flip wsX4_fails := goodIn_r _ [21, 22, 35, 36, 37, 38, 39, 40, 41, 42, 43, 44, 45] (by decide +kernel) (by decide +kernel)
set_option maxRecDepth 20000 in
theorem gX4_flip_X4_fails : GoodIn wsX4_flip (wsV RX4 62 RX4 yX4_fails wsX4_fails) := goodIn_app (goodIn_of _ (by decide +kernel)) ggX4_flip_X4_fails
set_option maxRecDepth 20000 in
theorem ggX4_flip_X4_in : GoodIn wsX4_flip wsX4_in := goodIn_r _ [17] (by decide +kernel) (by decide +kernel)
set_option maxRecDepth 20000 in
theorem gX4_flip_X4_in : GoodIn wsX4_flip (va_wsS RX4 55 yX4_in wsX4_in) := goodIn_app (goodIn_of _ (by decide +kernel)) ggX4_flip_X4_in
set_option maxRecDepth 20000 in
theorem ggX4_flip_X4_save : GoodIn wsX4_flip wsX4_save := goodIn_r _ [26, 27, 28, 29, 1, 30, 35, 36, 37, 38, 39, 40, 41, 42, 43, 44, 45] (by decide +kernel) (by decide +kernel)
set_option maxRecDepth 20000 in
theorem gX4_flip_X4_save : GoodIn wsX4_flip (wsV RX4 72 RX4 yX4_save wsX4_save) := goodIn_app (goodIn_of _ (by decide +kernel)) ggX4_flip_X4_save
set_option maxRecDepth 20000 in
theorem ggX4_flip_X4_tells : GoodIn wsX4_flip wsX4_tells := goodIn_r _ [34, 22, 35, 36, 37, 38, 39, 40, 41, 42, 43, 44, 45] (by decide +kernel) (by decide +kernel)
set_option maxRecDepth 20000 in
theorem gX4_flip_X4_tells : GoodIn wsX4_flip (wsV RX4 65 RX4 yX4_tells wsX4_tells) := goodIn_app (goodIn_of _ (by decide +kernel)) ggX4_flip_X4_tells
theorem dX4_flip_0 : decode cX4_flip 0 = .ok (.aload_n 0, 1) := by decide +kernel
theorem dX4_flip_1 : decode cX4_flip 1 = .ok (.iload_n 1, 1) := by decide +kernel
theorem dX4_flip_2 : decode cX4_flip 2 = .ok (.invokevirtual 78, 3) := by decide +kernel
theorem dX4_flip_5 : decode cX4_flip 5 = .ok (.ifCond .ne 9, 3) := by decide +kernel
theorem dX4_flip_8 : decode cX4_flip 8 = .ok (.aload_n 0, 1) := by decide +kernel
theorem dX4_flip_9 : decode cX4_flip 9 = .ok (.iconst 1, 1) := by decide +kernel
theorem dX4_flip_10 : decode cX4_flip 10 = .ok (.invokevirtual 62, 3) := by decide +kernel
theorem dX4_flip_13 : decode cX4_flip 13 = .ok (.ireturn, 1) := by decide +kernel
theorem dX4_flip_14 : decode cX4_flip 14 = .ok (.iload_n 2, 1) := by decide +kernel
theorem dX4_flip_15 : decode cX4_flip 15 = .ok (.iconst 0, 1) := by decide +kernel
theorem dX4_flip_16 : decode cX4_flip 16 = .ok (.bipush 16, 2) := by decide +kernel
theorem dX4_flip_18 : decode cX4_flip 18 = .ok (.invokestatic 55, 3) := by decide +kernel
theorem dX4_flip_21 : decode cX4_flip 21 = .ok (.ifCond .ne 9, 3) := by decide +kernel
theorem dX4_flip_24 : decode cX4_flip 24 = .ok (.aload_n 0, 1) := by decide +kernel
theorem dX4_flip_25 : decode cX4_flip 25 = .ok (.iconst 2, 1) := by decide +kernel
theorem dX4_flip_26 : decode cX4_flip 26 = .ok (.invokevirtual 62, 3) := by decide +kernel
theorem dX4_flip_29 : decode cX4_flip 29 = .ok (.ireturn, 1) := by decide +kernel
theorem dX4_flip_30 : decode cX4_flip 30 = .ok (.aload_n 0, 1) := by decide +kernel
theorem dX4_flip_31 : decode cX4_flip 31 = .ok (.invokevirtual 72, 3) := by decide +kernel
theorem dX4_flip_34 : decode cX4_flip 34 = .ok (.aload_n 0, 1) := by decide +kernel
theorem dX4_flip_35 : decode cX4_flip 35 = .ok (.getfield 7, 3) := by decide +kernel
theorem dX4_flip_38 : decode cX4_flip 38 = .ok (.bipush 12, 2) := by decide +kernel
theorem dX4_flip_40 : decode cX4_flip 40 = .ok (.iload_n 1, 1) := by decide +kernel
theorem dX4_flip_41 : decode cX4_flip 41 = .ok (.iadd, 1) := by decide +kernel
theorem dX4_flip_42 : decode cX4_flip 42 = .ok (.dup2, 1) := by decide +kernel
theorem dX4_flip_43 : decode cX4_flip 43 = .ok (.iaload, 1) := by decide +kernel
theorem dX4_flip_44 : decode cX4_flip 44 = .ok (.iconst 1, 1) := by decide +kernel
theorem dX4_flip_45 : decode cX4_flip 45 = .ok (.iload_n 2, 1) := by decide +kernel
theorem dX4_flip_46 : decode cX4_flip 46 = .ok (.ishl, 1) := by decide +kernel
theorem dX4_flip_47 : decode cX4_flip 47 = .ok (.ixor, 1) := by decide +kernel
theorem dX4_flip_48 : decode cX4_flip 48 = .ok (.iastore, 1) := by decide +kernel
theorem dX4_flip_49 : decode cX4_flip 49 = .ok (.aload_n 0, 1) := by decide +kernel
theorem dX4_flip_50 : decode cX4_flip 50 = .ok (.aload_n 0, 1) := by decide +kernel
theorem dX4_flip_51 : decode cX4_flip 51 = .ok (.getfield 7, 3) := by decide +kernel
theorem dX4_flip_54 : decode cX4_flip 54 = .ok (.bipush 12, 2) := by decide +kernel
theorem dX4_flip_56 : decode cX4_flip 56 = .ok (.iload_n 1, 1) := by decide +kernel
theorem dX4_flip_57 : decode cX4_flip 57 = .ok (.iadd, 1) := by decide +kernel
theorem dX4_flip_58 : decode cX4_flip 58 = .ok (.iaload, 1) := by decide +kernel
theorem dX4_flip_59 : decode cX4_flip 59 = .ok (.invokevirtual 65, 3) := by decide +kernel
theorem dX4_flip_62 : decode cX4_flip 62 = .ok (.ireturn, 1) := by decide +kernel
set_option maxRecDepth 20000 in
theorem ggX4_repair_X4_isEntry : GoodIn wsX4_repair wsX4_isEntry := goodIn_r _ [6, 7, 8, 9, 5, 10, 11, 12, 13, 14, 1, 15, 16, 17, 45, 46, 47, 48, 49, 50, 51, 52, 53, 54, 55] (by decide +kernel) (by decide +kernel)
set_option maxRecDepth 20000 in
theorem gX4_repair_X4_isEntry : GoodIn wsX4_repair (wsV RX4 78 RX4 yX4_isEntry wsX4_isEntry) := goodIn_app (goodIn_of _ (by decide +kernel)) ggX4_repair_X4_isEntry
set_option maxRecDepth 20000 in
theorem ggX4_repair_X4_fails : GoodIn wsX4_repair wsX4_fails := goodIn_r _ [21, 22, 45, 46, 47, 48, 49, 50, 51, 52, 53, 54, 55] (by decide +kernel) (by decide +kernel)
set_option maxRecDepth 20000 in
theorem gX4_repair_X4_fails : GoodIn wsX4_repair (wsV RX4 62 RX4 yX4_fails wsX4_fails) := goodIn_app (goodIn_of _ (by decide +kernel)) ggX4_repair_X4_fails
set_option maxRecDepth 20000 in
theorem ggX4_repair_X4_save : GoodIn wsX4_repair wsX4_save := goodIn_r _ [26, 27, 28, 29, 1, 30, 45, 46, 47, 48, 49, 50, 51, 52, 53, 54, 55] (by decide +kernel) (by decide +kernel)
set_option maxRecDepth 20000 in
theorem gX4_repair_X4_save : GoodIn wsX4_repair (wsV RX4 72 RX4 yX4_save wsX4_save) := goodIn_app (goodIn_of _ (by decide +kernel)) ggX4_repair_X4_save
set_option maxRecDepth 20000 in
theorem ggX4_repair_X4_wrongBits : GoodIn wsX4_repair wsX4_wrongBits := goodIn_r _ [34, 1, 35, 36, 5, 37, 38, 39, 40, 45, 46, 47, 48, 49, 50, 51, 52, 53, 54, 55] (by decide +kernel) (by decide +kernel)
set_option maxRecDepth 20000 in
theorem gX4_repair_X4_wrongBits : GoodIn wsX4_repair (wsV RX4 52 RX4 yX4_wrongBits wsX4_wrongBits) := goodIn_app (goodIn_of _ (by decide +kernel)) ggX4_repair_X4_wrongBits
set_option maxRecDepth 20000 in
theorem ggX4_repair_X4_truth : GoodIn wsX4_repair wsX4_truth := goodIn_r _ [37] (by decide +kernel) (by decide +kernel)
set_option maxRecDepth 20000 in
theorem gX4_repair_X4_truth : GoodIn wsX4_repair (va_wsS RX4 42 yX4_truth wsX4_truth) := goodIn_app (goodIn_of _ (by decide +kernel)) ggX4_repair_X4_truth
set_option maxRecDepth 20000 in
theorem ggX4_repair_X4_tells : GoodIn wsX4_repair wsX4_tells := goodIn_r _ [44, 22, 45, 46, 47, 48, 49, 50, 51, 52, 53, 54, 55] (by decide +kernel) (by decide +kernel)
set_option maxRecDepth 20000 in
theorem gX4_repair_X4_tells : GoodIn wsX4_repair (wsV RX4 65 RX4 yX4_tells wsX4_tells) := goodIn_app (goodIn_of _ (by decide +kernel)) ggX4_repair_X4_tells
theorem dX4_repair_0 : decode cX4_repair 0 = .ok (.aload_n 0, 1) := by decide +kernel
theorem dX4_repair_1 : decode cX4_repair 1 = .ok (.iload_n 1, 1) := by decide +kernel
theorem dX4_repair_2 : decode cX4_repair 2 = .ok (.invokevirtual 78, 3) := by decide +kernel
theorem dX4_repair_5 : decode cX4_repair 5 = .ok (.ifCond .ne 9, 3) := by decide +kernel
theorem dX4_repair_8 : decode cX4_repair 8 = .ok (.aload_n 0, 1) := by decide +kernel
theorem dX4_repair_9 : decode cX4_repair 9 = .ok (.iconst 1, 1) := by decide +kernel
theorem dX4_repair_10 : decode cX4_repair 10 = .ok (.invokevirtual 62, 3) := by decide +kernel
theorem dX4_repair_13 : decode cX4_repair 13 = .ok (.ireturn, 1) := by decide +kernel
theorem dX4_repair_14 : decode cX4_repair 14 = .ok (.aload_n 0, 1) := by decide +kernel
theorem dX4_repair_15 : decode cX4_repair 15 = .ok (.invokevirtual 72, 3) := by decide +kernel
theorem dX4_repair_18 : decode cX4_repair 18 = .ok (.aload_n 0, 1) := by decide +kernel
theorem dX4_repair_19 : decode cX4_repair 19 = .ok (.iload_n 1, 1) := by decide +kernel
theorem dX4_repair_20 : decode cX4_repair 20 = .ok (.invokevirtual 52, 3) := by decide +kernel
theorem dX4_repair_23 : decode cX4_repair 23 = .ok (.istore_n 2, 1) := by decide +kernel
theorem dX4_repair_24 : decode cX4_repair 24 = .ok (.aload_n 0, 1) := by decide +kernel
theorem dX4_repair_25 : decode cX4_repair 25 = .ok (.getfield 7, 3) := by decide +kernel
theorem dX4_repair_28 : decode cX4_repair 28 = .ok (.bipush 12, 2) := by decide +kernel
theorem dX4_repair_30 : decode cX4_repair 30 = .ok (.iload_n 1, 1) := by decide +kernel
theorem dX4_repair_31 : decode cX4_repair 31 = .ok (.iadd, 1) := by decide +kernel
theorem dX4_repair_32 : decode cX4_repair 32 = .ok (.iload_n 1, 1) := by decide +kernel
theorem dX4_repair_33 : decode cX4_repair 33 = .ok (.invokestatic 42, 3) := by decide +kernel
theorem dX4_repair_36 : decode cX4_repair 36 = .ok (.iastore, 1) := by decide +kernel
theorem dX4_repair_37 : decode cX4_repair 37 = .ok (.aload_n 0, 1) := by decide +kernel
theorem dX4_repair_38 : decode cX4_repair 38 = .ok (.iload_n 2, 1) := by decide +kernel
theorem dX4_repair_39 : decode cX4_repair 39 = .ok (.invokevirtual 65, 3) := by decide +kernel
theorem dX4_repair_42 : decode cX4_repair 42 = .ok (.ireturn, 1) := by decide +kernel
set_option maxRecDepth 20000 in
theorem ggX4_repairByParity_X4_save : GoodIn wsX4_repairByParity wsX4_save := goodIn_r _ [6, 7, 8, 9, 1, 10, 38, 39, 40, 41, 42, 43, 44, 45, 46, 47, 48] (by decide +kernel) (by decide +kernel)
set_option maxRecDepth 20000 in
theorem gX4_repairByParity_X4_save : GoodIn wsX4_repairByParity (wsV RX4 72 RX4 yX4_save wsX4_save) := goodIn_app (goodIn_of _ (by decide +kernel)) ggX4_repairByParity_X4_save
set_option maxRecDepth 20000 in
theorem ggX4_repairByParity_X4_entries : GoodIn wsX4_repairByParity wsX4_entries := goodIn_r _ [14, 15, 16, 17, 5, 18, 1, 38, 39, 40, 41, 42, 43, 44, 45, 46, 47, 48] (by decide +kernel) (by decide +kernel)
set_option maxRecDepth 20000 in
theorem gX4_repairByParity_X4_entries : GoodIn wsX4_repairByParity (wsV RX4 38 RX4 yX4_entries wsX4_entries) := goodIn_app (goodIn_of _ (by decide +kernel)) ggX4_repairByParity_X4_entries
set_option maxRecDepth 20000 in
theorem ggX4_repairByParity_X4_isFound : GoodIn wsX4_repairByParity wsX4_isFound := goodIn_r _ [22, 23, 24, 25, 5, 26, 1, 27, 28, 29, 30, 31, 32, 38, 39, 40, 41, 42, 43, 44, 45, 46, 47, 48] (by decide +kernel) (by decide +kernel)
set_option maxRecDepth 20000 in
theorem gX4_repairByParity_X4_isFound : GoodIn wsX4_repairByParity (wsV RX4 68 RX4 yX4_isFound wsX4_isFound) := goodIn_app (goodIn_of _ (by decide +kernel)) ggX4_repairByParity_X4_isFound
set_option maxRecDepth 20000 in
theorem ggX4_repairByParity_X4_truth : GoodIn wsX4_repairByParity wsX4_truth := goodIn_r _ [29] (by decide +kernel) (by decide +kernel)
set_option maxRecDepth 20000 in
theorem gX4_repairByParity_X4_truth : GoodIn wsX4_repairByParity (va_wsS RX4 42 yX4_truth wsX4_truth) := goodIn_app (goodIn_of _ (by decide +kernel)) ggX4_repairByParity_X4_truth
set_option maxRecDepth 20000 in
theorem ggX4_repairByParity_X4_tells : GoodIn wsX4_repairByParity wsX4_tells := goodIn_r _ [36, 37, 38, 39, 40, 41, 42, 43, 44, 45, 46, 47, 48] (by decide +kernel) (by decide +kernel)
set_option maxRecDepth 20000 in
theorem gX4_repairByParity_X4_tells : GoodIn wsX4_repairByParity (wsV RX4 65 RX4 yX4_tells wsX4_tells) := goodIn_app (goodIn_of _ (by decide +kernel)) ggX4_repairByParity_X4_tells
theorem dX4_repairByParity_0 : decode cX4_repairByParity 0 = .ok (.aload_n 0, 1) := by decide +kernel
theorem dX4_repairByParity_1 : decode cX4_repairByParity 1 = .ok (.invokevirtual 72, 3) := by decide +kernel
theorem dX4_repairByParity_4 : decode cX4_repairByParity 4 = .ok (.iconst 0, 1) := by decide +kernel
theorem dX4_repairByParity_5 : decode cX4_repairByParity 5 = .ok (.istore_n 1, 1) := by decide +kernel
theorem dX4_repairByParity_6 : decode cX4_repairByParity 6 = .ok (.iconst 0, 1) := by decide +kernel
theorem dX4_repairByParity_7 : decode cX4_repairByParity 7 = .ok (.istore_n 2, 1) := by decide +kernel
theorem dX4_repairByParity_8 : decode cX4_repairByParity 8 = .ok (.iload_n 2, 1) := by decide +kernel
theorem dX4_repairByParity_9 : decode cX4_repairByParity 9 = .ok (.aload_n 0, 1) := by decide +kernel
theorem dX4_repairByParity_10 : decode cX4_repairByParity 10 = .ok (.invokevirtual 38, 3) := by decide +kernel
theorem dX4_repairByParity_13 : decode cX4_repairByParity 13 = .ok (.if_icmp .ge 33, 3) := by decide +kernel
theorem dX4_repairByParity_16 : decode cX4_repairByParity 16 = .ok (.aload_n 0, 1) := by decide +kernel
theorem dX4_repairByParity_17 : decode cX4_repairByParity 17 = .ok (.iload_n 2, 1) := by decide +kernel
theorem dX4_repairByParity_18 : decode cX4_repairByParity 18 = .ok (.invokevirtual 68, 3) := by decide +kernel
theorem dX4_repairByParity_21 : decode cX4_repairByParity 21 = .ok (.ifCond .eq 19, 3) := by decide +kernel
theorem dX4_repairByParity_24 : decode cX4_repairByParity 24 = .ok (.aload_n 0, 1) := by decide +kernel
theorem dX4_repairByParity_25 : decode cX4_repairByParity 25 = .ok (.getfield 7, 3) := by decide +kernel
theorem dX4_repairByParity_28 : decode cX4_repairByParity 28 = .ok (.bipush 12, 2) := by decide +kernel
theorem dX4_repairByParity_30 : decode cX4_repairByParity 30 = .ok (.iload_n 2, 1) := by decide +kernel
theorem dX4_repairByParity_31 : decode cX4_repairByParity 31 = .ok (.iadd, 1) := by decide +kernel
theorem dX4_repairByParity_32 : decode cX4_repairByParity 32 = .ok (.iload_n 2, 1) := by decide +kernel
theorem dX4_repairByParity_33 : decode cX4_repairByParity 33 = .ok (.invokestatic 42, 3) := by decide +kernel
theorem dX4_repairByParity_36 : decode cX4_repairByParity 36 = .ok (.iastore, 1) := by decide +kernel
theorem dX4_repairByParity_37 : decode cX4_repairByParity 37 = .ok (.iinc 1 1, 3) := by decide +kernel
theorem dX4_repairByParity_40 : decode cX4_repairByParity 40 = .ok (.iinc 2 1, 3) := by decide +kernel
theorem dX4_repairByParity_43 : decode cX4_repairByParity 43 = .ok (.goto (-35), 3) := by decide +kernel
theorem dX4_repairByParity_46 : decode cX4_repairByParity 46 = .ok (.aload_n 0, 1) := by decide +kernel
theorem dX4_repairByParity_47 : decode cX4_repairByParity 47 = .ok (.iload_n 1, 1) := by decide +kernel
theorem dX4_repairByParity_48 : decode cX4_repairByParity 48 = .ok (.invokevirtual 65, 3) := by decide +kernel
theorem dX4_repairByParity_51 : decode cX4_repairByParity 51 = .ok (.ireturn, 1) := by decide +kernel
set_option maxRecDepth 20000 in
theorem ggX4_setRegister_X4_isRegister : GoodIn wsX4_setRegister wsX4_isRegister := goodIn_r _ [5, 6, 7, 4, 8] (by decide +kernel) (by decide +kernel)
set_option maxRecDepth 20000 in
theorem gX4_setRegister_X4_isRegister : GoodIn wsX4_setRegister (va_wsS RX4 81 yX4_isRegister wsX4_isRegister) := goodIn_app (goodIn_of _ (by decide +kernel)) ggX4_setRegister_X4_isRegister
set_option maxRecDepth 20000 in
theorem ggX4_setRegister_X4_fails : GoodIn wsX4_setRegister wsX4_fails := goodIn_r _ [12, 13, 34, 35, 36, 37, 38, 39, 40, 41, 42, 43, 44] (by decide +kernel) (by decide +kernel)
set_option maxRecDepth 20000 in
theorem gX4_setRegister_X4_fails : GoodIn wsX4_setRegister (wsV RX4 62 RX4 yX4_fails wsX4_fails) := goodIn_app (goodIn_of _ (by decide +kernel)) ggX4_setRegister_X4_fails
set_option maxRecDepth 20000 in
theorem ggX4_setRegister_X4_isOperand : GoodIn wsX4_setRegister wsX4_isOperand := goodIn_r _ [17, 18, 19, 20, 4, 21, 1, 6, 7, 8, 34, 35, 36, 37, 38, 39, 40, 41, 42, 43, 44] (by decide +kernel) (by decide +kernel)
set_option maxRecDepth 20000 in
theorem gX4_setRegister_X4_isOperand : GoodIn wsX4_setRegister (wsV RX4 84 RX4 yX4_isOperand wsX4_isOperand) := goodIn_app (goodIn_of _ (by decide +kernel)) ggX4_setRegister_X4_isOperand
set_option maxRecDepth 20000 in
theorem ggX4_setRegister_X4_save : GoodIn wsX4_setRegister wsX4_save := goodIn_r _ [25, 26, 27, 28, 1, 29, 34, 35, 36, 37, 38, 39, 40, 41, 42, 43, 44] (by decide +kernel) (by decide +kernel)
set_option maxRecDepth 20000 in
theorem gX4_setRegister_X4_save : GoodIn wsX4_setRegister (wsV RX4 72 RX4 yX4_save wsX4_save) := goodIn_app (goodIn_of _ (by decide +kernel)) ggX4_setRegister_X4_save
set_option maxRecDepth 20000 in
theorem ggX4_setRegister_X4_tells : GoodIn wsX4_setRegister wsX4_tells := goodIn_r _ [33, 13, 34, 35, 36, 37, 38, 39, 40, 41, 42, 43, 44] (by decide +kernel) (by decide +kernel)
set_option maxRecDepth 20000 in
theorem gX4_setRegister_X4_tells : GoodIn wsX4_setRegister (wsV RX4 65 RX4 yX4_tells wsX4_tells) := goodIn_app (goodIn_of _ (by decide +kernel)) ggX4_setRegister_X4_tells
theorem dX4_setRegister_0 : decode cX4_setRegister 0 = .ok (.iload_n 1, 1) := by decide +kernel
theorem dX4_setRegister_1 : decode cX4_setRegister 1 = .ok (.invokestatic 81, 3) := by decide +kernel
theorem dX4_setRegister_4 : decode cX4_setRegister 4 = .ok (.ifCond .ne 9, 3) := by decide +kernel
theorem dX4_setRegister_7 : decode cX4_setRegister 7 = .ok (.aload_n 0, 1) := by decide +kernel
theorem dX4_setRegister_8 : decode cX4_setRegister 8 = .ok (.iconst 1, 1) := by decide +kernel
theorem dX4_setRegister_9 : decode cX4_setRegister 9 = .ok (.invokevirtual 62, 3) := by decide +kernel
theorem dX4_setRegister_12 : decode cX4_setRegister 12 = .ok (.ireturn, 1) := by decide +kernel
theorem dX4_setRegister_13 : decode cX4_setRegister 13 = .ok (.aload_n 0, 1) := by decide +kernel
theorem dX4_setRegister_14 : decode cX4_setRegister 14 = .ok (.iload_n 2, 1) := by decide +kernel
theorem dX4_setRegister_15 : decode cX4_setRegister 15 = .ok (.invokevirtual 84, 3) := by decide +kernel
theorem dX4_setRegister_18 : decode cX4_setRegister 18 = .ok (.ifCond .ne 9, 3) := by decide +kernel
theorem dX4_setRegister_21 : decode cX4_setRegister 21 = .ok (.aload_n 0, 1) := by decide +kernel
theorem dX4_setRegister_22 : decode cX4_setRegister 22 = .ok (.iconst 2, 1) := by decide +kernel
theorem dX4_setRegister_23 : decode cX4_setRegister 23 = .ok (.invokevirtual 62, 3) := by decide +kernel
theorem dX4_setRegister_26 : decode cX4_setRegister 26 = .ok (.ireturn, 1) := by decide +kernel
theorem dX4_setRegister_27 : decode cX4_setRegister 27 = .ok (.aload_n 0, 1) := by decide +kernel
theorem dX4_setRegister_28 : decode cX4_setRegister 28 = .ok (.invokevirtual 72, 3) := by decide +kernel
theorem dX4_setRegister_31 : decode cX4_setRegister 31 = .ok (.aload_n 0, 1) := by decide +kernel
theorem dX4_setRegister_32 : decode cX4_setRegister 32 = .ok (.getfield 7, 3) := by decide +kernel
theorem dX4_setRegister_35 : decode cX4_setRegister 35 = .ok (.iconst 4, 1) := by decide +kernel
theorem dX4_setRegister_36 : decode cX4_setRegister 36 = .ok (.iload_n 1, 1) := by decide +kernel
theorem dX4_setRegister_37 : decode cX4_setRegister 37 = .ok (.iadd, 1) := by decide +kernel
theorem dX4_setRegister_38 : decode cX4_setRegister 38 = .ok (.iaload, 1) := by decide +kernel
theorem dX4_setRegister_39 : decode cX4_setRegister 39 = .ok (.istore_n 3, 1) := by decide +kernel
theorem dX4_setRegister_40 : decode cX4_setRegister 40 = .ok (.aload_n 0, 1) := by decide +kernel
theorem dX4_setRegister_41 : decode cX4_setRegister 41 = .ok (.getfield 7, 3) := by decide +kernel
theorem dX4_setRegister_44 : decode cX4_setRegister 44 = .ok (.iconst 4, 1) := by decide +kernel
theorem dX4_setRegister_45 : decode cX4_setRegister 45 = .ok (.iload_n 1, 1) := by decide +kernel
theorem dX4_setRegister_46 : decode cX4_setRegister 46 = .ok (.iadd, 1) := by decide +kernel
theorem dX4_setRegister_47 : decode cX4_setRegister 47 = .ok (.iload_n 2, 1) := by decide +kernel
theorem dX4_setRegister_48 : decode cX4_setRegister 48 = .ok (.iastore, 1) := by decide +kernel
theorem dX4_setRegister_49 : decode cX4_setRegister 49 = .ok (.aload_n 0, 1) := by decide +kernel
theorem dX4_setRegister_50 : decode cX4_setRegister 50 = .ok (.iload_n 3, 1) := by decide +kernel
theorem dX4_setRegister_51 : decode cX4_setRegister 51 = .ok (.invokevirtual 65, 3) := by decide +kernel
theorem dX4_setRegister_54 : decode cX4_setRegister 54 = .ok (.ireturn, 1) := by decide +kernel
set_option maxRecDepth 20000 in
theorem ggX4_clearAccount_X4_save : GoodIn wsX4_clearAccount wsX4_save := goodIn_r _ [7, 8, 9, 10, 11, 2, 12, 13, 14, 15, 16, 17, 18, 19, 20, 21, 22] (by decide +kernel) (by decide +kernel)
set_option maxRecDepth 20000 in
theorem gX4_clearAccount_X4_save : GoodIn wsX4_clearAccount (wsV RX4 72 RX4 yX4_save wsX4_save) := goodIn_app (goodIn_of _ (by decide +kernel)) ggX4_clearAccount_X4_save
theorem dX4_clearAccount_0 : decode cX4_clearAccount 0 = .ok (.aload_n 0, 1) := by decide +kernel
theorem dX4_clearAccount_1 : decode cX4_clearAccount 1 = .ok (.iconst 0, 1) := by decide +kernel
theorem dX4_clearAccount_2 : decode cX4_clearAccount 2 = .ok (.putfield 30, 3) := by decide +kernel
theorem dX4_clearAccount_5 : decode cX4_clearAccount 5 = .ok (.aload_n 0, 1) := by decide +kernel
theorem dX4_clearAccount_6 : decode cX4_clearAccount 6 = .ok (.invokevirtual 72, 3) := by decide +kernel
theorem dX4_clearAccount_9 : decode cX4_clearAccount 9 = .ok (.aload_n 0, 1) := by decide +kernel
theorem dX4_clearAccount_10 : decode cX4_clearAccount 10 = .ok (.getfield 34, 3) := by decide +kernel
theorem dX4_clearAccount_13 : decode cX4_clearAccount 13 = .ok (.lstore_n 1, 1) := by decide +kernel
theorem dX4_clearAccount_14 : decode cX4_clearAccount 14 = .ok (.aload_n 0, 1) := by decide +kernel
theorem dX4_clearAccount_15 : decode cX4_clearAccount 15 = .ok (.lconst 0, 1) := by decide +kernel
theorem dX4_clearAccount_16 : decode cX4_clearAccount 16 = .ok (.putfield 34, 3) := by decide +kernel
theorem dX4_clearAccount_19 : decode cX4_clearAccount 19 = .ok (.lload_n 1, 1) := by decide +kernel
theorem dX4_clearAccount_20 : decode cX4_clearAccount 20 = .ok (.lreturn, 1) := by decide +kernel
theorem dX4_byTable_0 : decode cX4_byTable 0 = .ok (.iload_n 1, 1) := by decide +kernel
theorem dX4_byTable_1 : decode cX4_byTable 1 = .ok (.iload_n 2, 1) := by decide +kernel
theorem dX4_byTable_2 : decode cX4_byTable 2 = .ok (.if_icmp .le 9, 3) := by decide +kernel
theorem dX4_byTable_5 : decode cX4_byTable 5 = .ok (.iload_n 1, 1) := by decide +kernel
theorem dX4_byTable_6 : decode cX4_byTable 6 = .ok (.iload_n 2, 1) := by decide +kernel
theorem dX4_byTable_7 : decode cX4_byTable 7 = .ok (.isub, 1) := by decide +kernel
theorem dX4_byTable_8 : decode cX4_byTable 8 = .ok (.goto 6, 3) := by decide +kernel
theorem dX4_byTable_11 : decode cX4_byTable 11 = .ok (.iload_n 2, 1) := by decide +kernel
theorem dX4_byTable_12 : decode cX4_byTable 12 = .ok (.iload_n 1, 1) := by decide +kernel
theorem dX4_byTable_13 : decode cX4_byTable 13 = .ok (.isub, 1) := by decide +kernel
theorem dX4_byTable_14 : decode cX4_byTable 14 = .ok (.istore_n 3, 1) := by decide +kernel
theorem dX4_byTable_15 : decode cX4_byTable 15 = .ok (.aload_n 0, 1) := by decide +kernel
theorem dX4_byTable_16 : decode cX4_byTable 16 = .ok (.getfield 7, 3) := by decide +kernel
theorem dX4_byTable_19 : decode cX4_byTable 19 = .ok (.bipush 12, 2) := by decide +kernel
theorem dX4_byTable_21 : decode cX4_byTable 21 = .ok (.iload_n 1, 1) := by decide +kernel
theorem dX4_byTable_22 : decode cX4_byTable 22 = .ok (.iadd, 1) := by decide +kernel
theorem dX4_byTable_23 : decode cX4_byTable 23 = .ok (.iload_n 2, 1) := by decide +kernel
theorem dX4_byTable_24 : decode cX4_byTable 24 = .ok (.iadd, 1) := by decide +kernel
theorem dX4_byTable_25 : decode cX4_byTable 25 = .ok (.iaload, 1) := by decide +kernel
theorem dX4_byTable_26 : decode cX4_byTable 26 = .ok (.aload_n 0, 1) := by decide +kernel
theorem dX4_byTable_27 : decode cX4_byTable 27 = .ok (.getfield 7, 3) := by decide +kernel
theorem dX4_byTable_30 : decode cX4_byTable 30 = .ok (.bipush 12, 2) := by decide +kernel
theorem dX4_byTable_32 : decode cX4_byTable 32 = .ok (.iload_n 3, 1) := by decide +kernel
theorem dX4_byTable_33 : decode cX4_byTable 33 = .ok (.iadd, 1) := by decide +kernel
theorem dX4_byTable_34 : decode cX4_byTable 34 = .ok (.iaload, 1) := by decide +kernel
theorem dX4_byTable_35 : decode cX4_byTable 35 = .ok (.isub, 1) := by decide +kernel
theorem dX4_byTable_36 : decode cX4_byTable 36 = .ok (.ireturn, 1) := by decide +kernel
theorem dX4_bit_0 : decode cX4_bit 0 = .ok (.iload_n 1, 1) := by decide +kernel
theorem dX4_bit_1 : decode cX4_bit 1 = .ok (.ifCond .ge 7, 3) := by decide +kernel
theorem dX4_bit_4 : decode cX4_bit 4 = .ok (.iconst 0, 1) := by decide +kernel
theorem dX4_bit_5 : decode cX4_bit 5 = .ok (.goto 8, 3) := by decide +kernel
theorem dX4_bit_8 : decode cX4_bit 8 = .ok (.iload_n 0, 1) := by decide +kernel
theorem dX4_bit_9 : decode cX4_bit 9 = .ok (.iload_n 1, 1) := by decide +kernel
theorem dX4_bit_10 : decode cX4_bit 10 = .ok (.ishr, 1) := by decide +kernel
theorem dX4_bit_11 : decode cX4_bit 11 = .ok (.iconst 1, 1) := by decide +kernel
theorem dX4_bit_12 : decode cX4_bit 12 = .ok (.iand, 1) := by decide +kernel
theorem dX4_bit_13 : decode cX4_bit 13 = .ok (.ireturn, 1) := by decide +kernel
set_option maxRecDepth 20000 in
theorem ggX4_turn_X4_bit : GoodIn wsX4_turn wsX4_bit := goodIn_r _ [4] (by decide +kernel) (by decide +kernel)
set_option maxRecDepth 20000 in
theorem gX4_turn_X4_bit : GoodIn wsX4_turn (va_wsS RX4 87 yX4_bit wsX4_bit) := goodIn_app (goodIn_of _ (by decide +kernel)) ggX4_turn_X4_bit
theorem dX4_turn_0 : decode cX4_turn 0 = .ok (.iload_n 2, 1) := by decide +kernel
theorem dX4_turn_1 : decode cX4_turn 1 = .ok (.iconst 1, 1) := by decide +kernel
theorem dX4_turn_2 : decode cX4_turn 2 = .ok (.if_icmp .ne 11, 3) := by decide +kernel
theorem dX4_turn_5 : decode cX4_turn 5 = .ok (.iload_n 0, 1) := by decide +kernel
theorem dX4_turn_6 : decode cX4_turn 6 = .ok (.iload_n 1, 1) := by decide +kernel
theorem dX4_turn_7 : decode cX4_turn 7 = .ok (.invokestatic 87, 3) := by decide +kernel
theorem dX4_turn_10 : decode cX4_turn 10 = .ok (.goto 16, 3) := by decide +kernel
theorem dX4_turn_13 : decode cX4_turn 13 = .ok (.iload_n 0, 1) := by decide +kernel
theorem dX4_turn_14 : decode cX4_turn 14 = .ok (.iload_n 1, 1) := by decide +kernel
theorem dX4_turn_15 : decode cX4_turn 15 = .ok (.iconst 1, 1) := by decide +kernel
theorem dX4_turn_16 : decode cX4_turn 16 = .ok (.isub, 1) := by decide +kernel
theorem dX4_turn_17 : decode cX4_turn 17 = .ok (.invokestatic 87, 3) := by decide +kernel
theorem dX4_turn_20 : decode cX4_turn 20 = .ok (.iload_n 0, 1) := by decide +kernel
theorem dX4_turn_21 : decode cX4_turn 21 = .ok (.iload_n 1, 1) := by decide +kernel
theorem dX4_turn_22 : decode cX4_turn 22 = .ok (.invokestatic 87, 3) := by decide +kernel
theorem dX4_turn_25 : decode cX4_turn 25 = .ok (.isub, 1) := by decide +kernel
theorem dX4_turn_26 : decode cX4_turn 26 = .ok (.ireturn, 1) := by decide +kernel
set_option maxRecDepth 20000 in
theorem ggX4_byShifts_X4_turn : GoodIn wsX4_byShifts wsX4_turn := goodIn_r _ [4, 5, 6, 3, 7] (by decide +kernel) (by decide +kernel)
set_option maxRecDepth 20000 in
theorem gX4_byShifts_X4_turn : GoodIn wsX4_byShifts (va_wsS RX4 91 yX4_turn wsX4_turn) := goodIn_app (goodIn_of _ (by decide +kernel)) ggX4_byShifts_X4_turn
theorem dX4_byShifts_0 : decode cX4_byShifts 0 = .ok (.iconst 0, 1) := by decide +kernel
theorem dX4_byShifts_1 : decode cX4_byShifts 1 = .ok (.istore_n 3, 1) := by decide +kernel
theorem dX4_byShifts_2 : decode cX4_byShifts 2 = .ok (.iconst 0, 1) := by decide +kernel
theorem dX4_byShifts_3 : decode cX4_byShifts 3 = .ok (.istore 4, 2) := by decide +kernel
theorem dX4_byShifts_5 : decode cX4_byShifts 5 = .ok (.iload 4, 2) := by decide +kernel
theorem dX4_byShifts_7 : decode cX4_byShifts 7 = .ok (.bipush 8, 2) := by decide +kernel
theorem dX4_byShifts_9 : decode cX4_byShifts 9 = .ok (.if_icmp .gt 24, 3) := by decide +kernel
theorem dX4_byShifts_12 : decode cX4_byShifts 12 = .ok (.iload_n 3, 1) := by decide +kernel
theorem dX4_byShifts_13 : decode cX4_byShifts 13 = .ok (.iload_n 1, 1) := by decide +kernel
theorem dX4_byShifts_14 : decode cX4_byShifts 14 = .ok (.iload 4, 2) := by decide +kernel
theorem dX4_byShifts_16 : decode cX4_byShifts 16 = .ok (.iload_n 2, 1) := by decide +kernel
theorem dX4_byShifts_17 : decode cX4_byShifts 17 = .ok (.invokestatic 91, 3) := by decide +kernel
theorem dX4_byShifts_20 : decode cX4_byShifts 20 = .ok (.iload_n 0, 1) := by decide +kernel
theorem dX4_byShifts_21 : decode cX4_byShifts 21 = .ok (.iload 4, 2) := by decide +kernel
theorem dX4_byShifts_23 : decode cX4_byShifts 23 = .ok (.ishl, 1) := by decide +kernel
theorem dX4_byShifts_24 : decode cX4_byShifts 24 = .ok (.imul, 1) := by decide +kernel
theorem dX4_byShifts_25 : decode cX4_byShifts 25 = .ok (.iadd, 1) := by decide +kernel
theorem dX4_byShifts_26 : decode cX4_byShifts 26 = .ok (.istore_n 3, 1) := by decide +kernel
theorem dX4_byShifts_27 : decode cX4_byShifts 27 = .ok (.iinc 4 1, 3) := by decide +kernel
theorem dX4_byShifts_30 : decode cX4_byShifts 30 = .ok (.goto (-25), 3) := by decide +kernel
theorem dX4_byShifts_33 : decode cX4_byShifts 33 = .ok (.iload_n 3, 1) := by decide +kernel
theorem dX4_byShifts_34 : decode cX4_byShifts 34 = .ok (.ireturn, 1) := by decide +kernel
set_option maxRecDepth 20000 in
theorem ggX4_product_X4_byTable : GoodIn wsX4_product wsX4_byTable := goodIn_r _ [5, 6, 16, 17, 18, 19, 20, 21, 22, 23, 24, 25, 26] (by decide +kernel) (by decide +kernel)
set_option maxRecDepth 20000 in
theorem gX4_product_X4_byTable : GoodIn wsX4_product (wsV RX4 95 RX4 yX4_byTable wsX4_byTable) := goodIn_app (goodIn_of _ (by decide +kernel)) ggX4_product_X4_byTable
set_option maxRecDepth 20000 in
theorem ggX4_product_X4_byShifts : GoodIn wsX4_product wsX4_byShifts := goodIn_r _ [9, 10, 11, 4, 12, 13, 14, 15] (by decide +kernel) (by decide +kernel)
set_option maxRecDepth 20000 in
theorem gX4_product_X4_byShifts : GoodIn wsX4_product (va_wsS RX4 98 yX4_byShifts wsX4_byShifts) := goodIn_app (goodIn_of _ (by decide +kernel)) ggX4_product_X4_byShifts
theorem dX4_product_0 : decode cX4_product 0 = .ok (.iload_n 3, 1) := by decide +kernel
theorem dX4_product_1 : decode cX4_product 1 = .ok (.ifCond .ne 12, 3) := by decide +kernel
theorem dX4_product_4 : decode cX4_product 4 = .ok (.aload_n 0, 1) := by decide +kernel
theorem dX4_product_5 : decode cX4_product 5 = .ok (.iload_n 1, 1) := by decide +kernel
theorem dX4_product_6 : decode cX4_product 6 = .ok (.iload_n 2, 1) := by decide +kernel
theorem dX4_product_7 : decode cX4_product 7 = .ok (.invokevirtual 95, 3) := by decide +kernel
theorem dX4_product_10 : decode cX4_product 10 = .ok (.goto 9, 3) := by decide +kernel
theorem dX4_product_13 : decode cX4_product 13 = .ok (.iload_n 1, 1) := by decide +kernel
theorem dX4_product_14 : decode cX4_product 14 = .ok (.iload_n 2, 1) := by decide +kernel
theorem dX4_product_15 : decode cX4_product 15 = .ok (.iload_n 3, 1) := by decide +kernel
theorem dX4_product_16 : decode cX4_product 16 = .ok (.invokestatic 98, 3) := by decide +kernel
theorem dX4_product_19 : decode cX4_product 19 = .ok (.ireturn, 1) := by decide +kernel
set_option maxRecDepth 20000 in
theorem ggX4_price_X4_turn : GoodIn wsX4_price wsX4_turn := goodIn_r _ [5, 6, 7, 4, 8] (by decide +kernel) (by decide +kernel)
set_option maxRecDepth 20000 in
theorem gX4_price_X4_turn : GoodIn wsX4_price (va_wsS RX4 91 yX4_turn wsX4_turn) := goodIn_app (goodIn_of _ (by decide +kernel)) ggX4_price_X4_turn
theorem dX4_price_0 : decode cX4_price 0 = .ok (.iload_n 2, 1) := by decide +kernel
theorem dX4_price_1 : decode cX4_price 1 = .ok (.ifCond .ne 21, 3) := by decide +kernel
theorem dX4_price_4 : decode cX4_price 4 = .ok (.iconst 2, 1) := by decide +kernel
theorem dX4_price_5 : decode cX4_price 5 = .ok (.aload_n 0, 1) := by decide +kernel
theorem dX4_price_6 : decode cX4_price 6 = .ok (.getfield 7, 3) := by decide +kernel
theorem dX4_price_9 : decode cX4_price 9 = .ok (.iconst 1, 1) := by decide +kernel
theorem dX4_price_10 : decode cX4_price 10 = .ok (.iaload, 1) := by decide +kernel
theorem dX4_price_11 : decode cX4_price 11 = .ok (.imul, 1) := by decide +kernel
theorem dX4_price_12 : decode cX4_price 12 = .ok (.iconst 3, 1) := by decide +kernel
theorem dX4_price_13 : decode cX4_price 13 = .ok (.aload_n 0, 1) := by decide +kernel
theorem dX4_price_14 : decode cX4_price 14 = .ok (.getfield 7, 3) := by decide +kernel
theorem dX4_price_17 : decode cX4_price 17 = .ok (.iconst 2, 1) := by decide +kernel
theorem dX4_price_18 : decode cX4_price 18 = .ok (.iaload, 1) := by decide +kernel
theorem dX4_price_19 : decode cX4_price 19 = .ok (.imul, 1) := by decide +kernel
theorem dX4_price_20 : decode cX4_price 20 = .ok (.iadd, 1) := by decide +kernel
theorem dX4_price_21 : decode cX4_price 21 = .ok (.ireturn, 1) := by decide +kernel
theorem dX4_price_22 : decode cX4_price 22 = .ok (.iconst 0, 1) := by decide +kernel
theorem dX4_price_23 : decode cX4_price 23 = .ok (.istore_n 3, 1) := by decide +kernel
theorem dX4_price_24 : decode cX4_price 24 = .ok (.iconst 0, 1) := by decide +kernel
theorem dX4_price_25 : decode cX4_price 25 = .ok (.istore 4, 2) := by decide +kernel
theorem dX4_price_27 : decode cX4_price 27 = .ok (.iconst 0, 1) := by decide +kernel
theorem dX4_price_28 : decode cX4_price 28 = .ok (.istore 5, 2) := by decide +kernel
theorem dX4_price_30 : decode cX4_price 30 = .ok (.iload 5, 2) := by decide +kernel
theorem dX4_price_32 : decode cX4_price 32 = .ok (.bipush 8, 2) := by decide +kernel
theorem dX4_price_34 : decode cX4_price 34 = .ok (.if_icmp .gt 53, 3) := by decide +kernel
theorem dX4_price_37 : decode cX4_price 37 = .ok (.iload_n 1, 1) := by decide +kernel
theorem dX4_price_38 : decode cX4_price 38 = .ok (.iload 5, 2) := by decide +kernel
theorem dX4_price_40 : decode cX4_price 40 = .ok (.iload_n 2, 1) := by decide +kernel
theorem dX4_price_41 : decode cX4_price 41 = .ok (.invokestatic 91, 3) := by decide +kernel
theorem dX4_price_44 : decode cX4_price 44 = .ok (.ifCond .eq 7, 3) := by decide +kernel
theorem dX4_price_47 : decode cX4_price 47 = .ok (.iconst 1, 1) := by decide +kernel
theorem dX4_price_48 : decode cX4_price 48 = .ok (.goto 4, 3) := by decide +kernel
theorem dX4_price_51 : decode cX4_price 51 = .ok (.iconst 0, 1) := by decide +kernel
theorem dX4_price_52 : decode cX4_price 52 = .ok (.istore 6, 2) := by decide +kernel
theorem dX4_price_54 : decode cX4_price 54 = .ok (.iload_n 3, 1) := by decide +kernel
theorem dX4_price_55 : decode cX4_price 55 = .ok (.iload 6, 2) := by decide +kernel
theorem dX4_price_57 : decode cX4_price 57 = .ok (.ifCond .eq 7, 3) := by decide +kernel
theorem dX4_price_60 : decode cX4_price 60 = .ok (.iconst 1, 1) := by decide +kernel
theorem dX4_price_61 : decode cX4_price 61 = .ok (.goto 4, 3) := by decide +kernel
theorem dX4_price_64 : decode cX4_price 64 = .ok (.iconst 0, 1) := by decide +kernel
theorem dX4_price_65 : decode cX4_price 65 = .ok (.iadd, 1) := by decide +kernel
theorem dX4_price_66 : decode cX4_price 66 = .ok (.istore_n 3, 1) := by decide +kernel
theorem dX4_price_67 : decode cX4_price 67 = .ok (.iload 6, 2) := by decide +kernel
theorem dX4_price_69 : decode cX4_price 69 = .ok (.ifCond .eq 8, 3) := by decide +kernel
theorem dX4_price_72 : decode cX4_price 72 = .ok (.iload 5, 2) := by decide +kernel
theorem dX4_price_74 : decode cX4_price 74 = .ok (.goto 5, 3) := by decide +kernel
theorem dX4_price_77 : decode cX4_price 77 = .ok (.iload 4, 2) := by decide +kernel
theorem dX4_price_79 : decode cX4_price 79 = .ok (.istore 4, 2) := by decide +kernel
theorem dX4_price_81 : decode cX4_price 81 = .ok (.iinc 5 1, 3) := by decide +kernel
theorem dX4_price_84 : decode cX4_price 84 = .ok (.goto (-54), 3) := by decide +kernel
theorem dX4_price_87 : decode cX4_price 87 = .ok (.iload_n 3, 1) := by decide +kernel
theorem dX4_price_88 : decode cX4_price 88 = .ok (.aload_n 0, 1) := by decide +kernel
theorem dX4_price_89 : decode cX4_price 89 = .ok (.getfield 7, 3) := by decide +kernel
theorem dX4_price_92 : decode cX4_price 92 = .ok (.iconst 2, 1) := by decide +kernel
theorem dX4_price_93 : decode cX4_price 93 = .ok (.iaload, 1) := by decide +kernel
theorem dX4_price_94 : decode cX4_price 94 = .ok (.imul, 1) := by decide +kernel
theorem dX4_price_95 : decode cX4_price 95 = .ok (.iload 4, 2) := by decide +kernel
theorem dX4_price_97 : decode cX4_price 97 = .ok (.aload_n 0, 1) := by decide +kernel
theorem dX4_price_98 : decode cX4_price 98 = .ok (.getfield 7, 3) := by decide +kernel
theorem dX4_price_101 : decode cX4_price 101 = .ok (.iconst 3, 1) := by decide +kernel
theorem dX4_price_102 : decode cX4_price 102 = .ok (.iaload, 1) := by decide +kernel
theorem dX4_price_103 : decode cX4_price 103 = .ok (.imul, 1) := by decide +kernel
theorem dX4_price_104 : decode cX4_price 104 = .ok (.iadd, 1) := by decide +kernel
theorem dX4_price_105 : decode cX4_price 105 = .ok (.ireturn, 1) := by decide +kernel
set_option maxRecDepth 20000 in
theorem ggX4_areOperands_X4_isOperand : GoodIn wsX4_areOperands wsX4_isOperand := goodIn_r _ [5, 6, 7, 8, 4, 9, 10, 11, 12, 13, 14, 15, 16, 17, 18, 19, 20, 21, 22, 23, 24] (by decide +kernel) (by decide +kernel)
set_option maxRecDepth 20000 in
theorem gX4_areOperands_X4_isOperand : GoodIn wsX4_areOperands (wsV RX4 84 RX4 yX4_isOperand wsX4_isOperand) := goodIn_app (goodIn_of _ (by decide +kernel)) ggX4_areOperands_X4_isOperand
theorem dX4_areOperands_0 : decode cX4_areOperands 0 = .ok (.aload_n 0, 1) := by decide +kernel
theorem dX4_areOperands_1 : decode cX4_areOperands 1 = .ok (.iload_n 1, 1) := by decide +kernel
theorem dX4_areOperands_2 : decode cX4_areOperands 2 = .ok (.invokevirtual 84, 3) := by decide +kernel
theorem dX4_areOperands_5 : decode cX4_areOperands 5 = .ok (.ifCond .eq 15, 3) := by decide +kernel
theorem dX4_areOperands_8 : decode cX4_areOperands 8 = .ok (.aload_n 0, 1) := by decide +kernel
theorem dX4_areOperands_9 : decode cX4_areOperands 9 = .ok (.iload_n 2, 1) := by decide +kernel
theorem dX4_areOperands_10 : decode cX4_areOperands 10 = .ok (.invokevirtual 84, 3) := by decide +kernel
theorem dX4_areOperands_13 : decode cX4_areOperands 13 = .ok (.ifCond .eq 7, 3) := by decide +kernel
theorem dX4_areOperands_16 : decode cX4_areOperands 16 = .ok (.iconst 1, 1) := by decide +kernel
theorem dX4_areOperands_17 : decode cX4_areOperands 17 = .ok (.goto 4, 3) := by decide +kernel
theorem dX4_areOperands_20 : decode cX4_areOperands 20 = .ok (.iconst 0, 1) := by decide +kernel
theorem dX4_areOperands_21 : decode cX4_areOperands 21 = .ok (.ireturn, 1) := by decide +kernel
set_option maxRecDepth 20000 in
theorem ggX4_isMethod_X4_in : GoodIn wsX4_isMethod wsX4_in := goodIn_r _ [4] (by decide +kernel) (by decide +kernel)
set_option maxRecDepth 20000 in
theorem gX4_isMethod_X4_in : GoodIn wsX4_isMethod (va_wsS RX4 55 yX4_in wsX4_in) := goodIn_app (goodIn_of _ (by decide +kernel)) ggX4_isMethod_X4_in
theorem dX4_isMethod_0 : decode cX4_isMethod 0 = .ok (.iload_n 0, 1) := by decide +kernel
theorem dX4_isMethod_1 : decode cX4_isMethod 1 = .ok (.iconst 0, 1) := by decide +kernel
theorem dX4_isMethod_2 : decode cX4_isMethod 2 = .ok (.iconst 2, 1) := by decide +kernel
theorem dX4_isMethod_3 : decode cX4_isMethod 3 = .ok (.invokestatic 55, 3) := by decide +kernel
theorem dX4_isMethod_6 : decode cX4_isMethod 6 = .ok (.ireturn, 1) := by decide +kernel
set_option maxRecDepth 20000 in
theorem ggX4_multiply_X4_areOperands : GoodIn wsX4_multiply wsX4_areOperands := goodIn_r _ [5, 6, 7, 8, 4, 9, 10, 11, 12, 13, 14, 15, 16, 17, 47, 48, 49, 50, 51, 52, 53, 54, 55, 56, 57] (by decide +kernel) (by decide +kernel)
set_option maxRecDepth 20000 in
theorem gX4_multiply_X4_areOperands : GoodIn wsX4_multiply (wsV RX4 101 RX4 yX4_areOperands wsX4_areOperands) := goodIn_app (goodIn_of _ (by decide +kernel)) ggX4_multiply_X4_areOperands
set_option maxRecDepth 20000 in
theorem ggX4_multiply_X4_isMethod : GoodIn wsX4_multiply wsX4_isMethod := goodIn_r _ [20, 15, 16, 4, 17] (by decide +kernel) (by decide +kernel)
set_option maxRecDepth 20000 in
theorem gX4_multiply_X4_isMethod : GoodIn wsX4_multiply (va_wsS RX4 105 yX4_isMethod wsX4_isMethod) := goodIn_app (goodIn_of _ (by decide +kernel)) ggX4_multiply_X4_isMethod
set_option maxRecDepth 20000 in
theorem ggX4_multiply_X4_product : GoodIn wsX4_multiply wsX4_product := goodIn_r _ [24, 25, 26, 27, 4, 28, 14, 29, 30, 31, 32, 33, 34, 35, 36, 37, 47, 48, 49, 50, 51, 52, 53, 54, 55, 56, 57] (by decide +kernel) (by decide +kernel)
set_option maxRecDepth 20000 in
theorem gX4_multiply_X4_product : GoodIn wsX4_multiply (wsV RX4 108 RX4 yX4_product wsX4_product) := goodIn_app (goodIn_of _ (by decide +kernel)) ggX4_multiply_X4_product
set_option maxRecDepth 20000 in
theorem ggX4_multiply_X4_tells : GoodIn wsX4_multiply wsX4_tells := goodIn_r _ [41, 42, 47, 48, 49, 50, 51, 52, 53, 54, 55, 56, 57] (by decide +kernel) (by decide +kernel)
set_option maxRecDepth 20000 in
theorem gX4_multiply_X4_tells : GoodIn wsX4_multiply (wsV RX4 65 RX4 yX4_tells wsX4_tells) := goodIn_app (goodIn_of _ (by decide +kernel)) ggX4_multiply_X4_tells
set_option maxRecDepth 20000 in
theorem ggX4_multiply_X4_fails : GoodIn wsX4_multiply wsX4_fails := goodIn_r _ [46, 42, 47, 48, 49, 50, 51, 52, 53, 54, 55, 56, 57] (by decide +kernel) (by decide +kernel)
set_option maxRecDepth 20000 in
theorem gX4_multiply_X4_fails : GoodIn wsX4_multiply (wsV RX4 62 RX4 yX4_fails wsX4_fails) := goodIn_app (goodIn_of _ (by decide +kernel)) ggX4_multiply_X4_fails
theorem dX4_multiply_0 : decode cX4_multiply 0 = .ok (.aload_n 0, 1) := by decide +kernel
theorem dX4_multiply_1 : decode cX4_multiply 1 = .ok (.iload_n 1, 1) := by decide +kernel
theorem dX4_multiply_2 : decode cX4_multiply 2 = .ok (.iload_n 2, 1) := by decide +kernel
theorem dX4_multiply_3 : decode cX4_multiply 3 = .ok (.invokevirtual 101, 3) := by decide +kernel
theorem dX4_multiply_6 : decode cX4_multiply 6 = .ok (.ifCond .eq 24, 3) := by decide +kernel
theorem dX4_multiply_9 : decode cX4_multiply 9 = .ok (.iload_n 3, 1) := by decide +kernel
theorem dX4_multiply_10 : decode cX4_multiply 10 = .ok (.invokestatic 105, 3) := by decide +kernel
theorem dX4_multiply_13 : decode cX4_multiply 13 = .ok (.ifCond .eq 17, 3) := by decide +kernel
theorem dX4_multiply_16 : decode cX4_multiply 16 = .ok (.aload_n 0, 1) := by decide +kernel
theorem dX4_multiply_17 : decode cX4_multiply 17 = .ok (.aload_n 0, 1) := by decide +kernel
theorem dX4_multiply_18 : decode cX4_multiply 18 = .ok (.iload_n 1, 1) := by decide +kernel
theorem dX4_multiply_19 : decode cX4_multiply 19 = .ok (.iload_n 2, 1) := by decide +kernel
theorem dX4_multiply_20 : decode cX4_multiply 20 = .ok (.iload_n 3, 1) := by decide +kernel
theorem dX4_multiply_21 : decode cX4_multiply 21 = .ok (.invokevirtual 108, 3) := by decide +kernel
theorem dX4_multiply_24 : decode cX4_multiply 24 = .ok (.invokevirtual 65, 3) := by decide +kernel
theorem dX4_multiply_27 : decode cX4_multiply 27 = .ok (.goto 8, 3) := by decide +kernel
theorem dX4_multiply_30 : decode cX4_multiply 30 = .ok (.aload_n 0, 1) := by decide +kernel
theorem dX4_multiply_31 : decode cX4_multiply 31 = .ok (.iconst 1, 1) := by decide +kernel
theorem dX4_multiply_32 : decode cX4_multiply 32 = .ok (.invokevirtual 62, 3) := by decide +kernel
theorem dX4_multiply_35 : decode cX4_multiply 35 = .ok (.ireturn, 1) := by decide +kernel
set_option maxRecDepth 20000 in
theorem ggX4_cost_X4_areOperands : GoodIn wsX4_cost wsX4_areOperands := goodIn_r _ [5, 6, 7, 8, 4, 9, 10, 11, 12, 13, 14, 15, 16, 17, 40, 41, 42, 43, 44, 45, 46, 47, 48, 49, 50] (by decide +kernel) (by decide +kernel)
set_option maxRecDepth 20000 in
theorem gX4_cost_X4_areOperands : GoodIn wsX4_cost (wsV RX4 101 RX4 yX4_areOperands wsX4_areOperands) := goodIn_app (goodIn_of _ (by decide +kernel)) ggX4_cost_X4_areOperands
set_option maxRecDepth 20000 in
theorem ggX4_cost_X4_isMethod : GoodIn wsX4_cost wsX4_isMethod := goodIn_r _ [20, 15, 16, 4, 17] (by decide +kernel) (by decide +kernel)
set_option maxRecDepth 20000 in
theorem gX4_cost_X4_isMethod : GoodIn wsX4_cost (va_wsS RX4 105 yX4_isMethod wsX4_isMethod) := goodIn_app (goodIn_of _ (by decide +kernel)) ggX4_cost_X4_isMethod
set_option maxRecDepth 20000 in
theorem ggX4_cost_X4_price : GoodIn wsX4_cost wsX4_price := goodIn_r _ [24, 14, 25, 26, 4, 27, 28, 29, 30, 40, 41, 42, 43, 44, 45, 46, 47, 48, 49, 50] (by decide +kernel) (by decide +kernel)
set_option maxRecDepth 20000 in
theorem gX4_cost_X4_price : GoodIn wsX4_cost (wsV RX4 111 RX4 yX4_price wsX4_price) := goodIn_app (goodIn_of _ (by decide +kernel)) ggX4_cost_X4_price
set_option maxRecDepth 20000 in
theorem ggX4_cost_X4_tells : GoodIn wsX4_cost wsX4_tells := goodIn_r _ [34, 35, 40, 41, 42, 43, 44, 45, 46, 47, 48, 49, 50] (by decide +kernel) (by decide +kernel)
set_option maxRecDepth 20000 in
theorem gX4_cost_X4_tells : GoodIn wsX4_cost (wsV RX4 65 RX4 yX4_tells wsX4_tells) := goodIn_app (goodIn_of _ (by decide +kernel)) ggX4_cost_X4_tells
set_option maxRecDepth 20000 in
theorem ggX4_cost_X4_fails : GoodIn wsX4_cost wsX4_fails := goodIn_r _ [39, 35, 40, 41, 42, 43, 44, 45, 46, 47, 48, 49, 50] (by decide +kernel) (by decide +kernel)
set_option maxRecDepth 20000 in
theorem gX4_cost_X4_fails : GoodIn wsX4_cost (wsV RX4 62 RX4 yX4_fails wsX4_fails) := goodIn_app (goodIn_of _ (by decide +kernel)) ggX4_cost_X4_fails
theorem dX4_cost_0 : decode cX4_cost 0 = .ok (.aload_n 0, 1) := by decide +kernel
theorem dX4_cost_1 : decode cX4_cost 1 = .ok (.iload_n 1, 1) := by decide +kernel
theorem dX4_cost_2 : decode cX4_cost 2 = .ok (.iload_n 2, 1) := by decide +kernel
theorem dX4_cost_3 : decode cX4_cost 3 = .ok (.invokevirtual 101, 3) := by decide +kernel
theorem dX4_cost_6 : decode cX4_cost 6 = .ok (.ifCond .eq 23, 3) := by decide +kernel
theorem dX4_cost_9 : decode cX4_cost 9 = .ok (.iload_n 3, 1) := by decide +kernel
theorem dX4_cost_10 : decode cX4_cost 10 = .ok (.invokestatic 105, 3) := by decide +kernel
theorem dX4_cost_13 : decode cX4_cost 13 = .ok (.ifCond .eq 16, 3) := by decide +kernel
theorem dX4_cost_16 : decode cX4_cost 16 = .ok (.aload_n 0, 1) := by decide +kernel
theorem dX4_cost_17 : decode cX4_cost 17 = .ok (.aload_n 0, 1) := by decide +kernel
theorem dX4_cost_18 : decode cX4_cost 18 = .ok (.iload_n 2, 1) := by decide +kernel
theorem dX4_cost_19 : decode cX4_cost 19 = .ok (.iload_n 3, 1) := by decide +kernel
theorem dX4_cost_20 : decode cX4_cost 20 = .ok (.invokevirtual 111, 3) := by decide +kernel
theorem dX4_cost_23 : decode cX4_cost 23 = .ok (.invokevirtual 65, 3) := by decide +kernel
theorem dX4_cost_26 : decode cX4_cost 26 = .ok (.goto 8, 3) := by decide +kernel
theorem dX4_cost_29 : decode cX4_cost 29 = .ok (.aload_n 0, 1) := by decide +kernel
theorem dX4_cost_30 : decode cX4_cost 30 = .ok (.iconst 1, 1) := by decide +kernel
theorem dX4_cost_31 : decode cX4_cost 31 = .ok (.invokevirtual 62, 3) := by decide +kernel
theorem dX4_cost_34 : decode cX4_cost 34 = .ok (.ireturn, 1) := by decide +kernel
set_option maxRecDepth 20000 in
theorem ggX4_cheapestOf_X4_price : GoodIn wsX4_cheapestOf wsX4_price := goodIn_r _ [5, 6, 7, 8, 4, 9, 10, 11, 12, 17, 18, 19, 20, 21, 22, 23, 24, 25, 26, 27] (by decide +kernel) (by decide +kernel)
set_option maxRecDepth 20000 in
theorem gX4_cheapestOf_X4_price : GoodIn wsX4_cheapestOf (wsV RX4 111 RX4 yX4_price wsX4_price) := goodIn_app (goodIn_of _ (by decide +kernel)) ggX4_cheapestOf_X4_price
set_option maxRecDepth 20000 in
theorem ggX4_cheapestOf_X4_byTable : GoodIn wsX4_cheapestOf wsX4_byTable := goodIn_r _ [16, 6, 17, 18, 19, 20, 21, 22, 23, 24, 25, 26, 27] (by decide +kernel) (by decide +kernel)
set_option maxRecDepth 20000 in
theorem gX4_cheapestOf_X4_byTable : GoodIn wsX4_cheapestOf (wsV RX4 95 RX4 yX4_byTable wsX4_byTable) := goodIn_app (goodIn_of _ (by decide +kernel)) ggX4_cheapestOf_X4_byTable
theorem dX4_cheapestOf_0 : decode cX4_cheapestOf 0 = .ok (.aload_n 0, 1) := by decide +kernel
theorem dX4_cheapestOf_1 : decode cX4_cheapestOf 1 = .ok (.iload_n 2, 1) := by decide +kernel
theorem dX4_cheapestOf_2 : decode cX4_cheapestOf 2 = .ok (.iconst 2, 1) := by decide +kernel
theorem dX4_cheapestOf_3 : decode cX4_cheapestOf 3 = .ok (.invokevirtual 111, 3) := by decide +kernel
theorem dX4_cheapestOf_6 : decode cX4_cheapestOf 6 = .ok (.aload_n 0, 1) := by decide +kernel
theorem dX4_cheapestOf_7 : decode cX4_cheapestOf 7 = .ok (.iload_n 2, 1) := by decide +kernel
theorem dX4_cheapestOf_8 : decode cX4_cheapestOf 8 = .ok (.iconst 1, 1) := by decide +kernel
theorem dX4_cheapestOf_9 : decode cX4_cheapestOf 9 = .ok (.invokevirtual 111, 3) := by decide +kernel
theorem dX4_cheapestOf_12 : decode cX4_cheapestOf 12 = .ok (.if_icmp .ge 7, 3) := by decide +kernel
theorem dX4_cheapestOf_15 : decode cX4_cheapestOf 15 = .ok (.iconst 2, 1) := by decide +kernel
theorem dX4_cheapestOf_16 : decode cX4_cheapestOf 16 = .ok (.goto 4, 3) := by decide +kernel
theorem dX4_cheapestOf_19 : decode cX4_cheapestOf 19 = .ok (.iconst 1, 1) := by decide +kernel
theorem dX4_cheapestOf_20 : decode cX4_cheapestOf 20 = .ok (.istore_n 3, 1) := by decide +kernel
theorem dX4_cheapestOf_21 : decode cX4_cheapestOf 21 = .ok (.aload_n 0, 1) := by decide +kernel
theorem dX4_cheapestOf_22 : decode cX4_cheapestOf 22 = .ok (.iload_n 1, 1) := by decide +kernel
theorem dX4_cheapestOf_23 : decode cX4_cheapestOf 23 = .ok (.iload_n 2, 1) := by decide +kernel
theorem dX4_cheapestOf_24 : decode cX4_cheapestOf 24 = .ok (.invokevirtual 95, 3) := by decide +kernel
theorem dX4_cheapestOf_27 : decode cX4_cheapestOf 27 = .ok (.iload_n 1, 1) := by decide +kernel
theorem dX4_cheapestOf_28 : decode cX4_cheapestOf 28 = .ok (.iload_n 2, 1) := by decide +kernel
theorem dX4_cheapestOf_29 : decode cX4_cheapestOf 29 = .ok (.imul, 1) := by decide +kernel
theorem dX4_cheapestOf_30 : decode cX4_cheapestOf 30 = .ok (.if_icmp .ne 22, 3) := by decide +kernel
theorem dX4_cheapestOf_33 : decode cX4_cheapestOf 33 = .ok (.aload_n 0, 1) := by decide +kernel
theorem dX4_cheapestOf_34 : decode cX4_cheapestOf 34 = .ok (.iload_n 2, 1) := by decide +kernel
theorem dX4_cheapestOf_35 : decode cX4_cheapestOf 35 = .ok (.iconst 0, 1) := by decide +kernel
theorem dX4_cheapestOf_36 : decode cX4_cheapestOf 36 = .ok (.invokevirtual 111, 3) := by decide +kernel
theorem dX4_cheapestOf_39 : decode cX4_cheapestOf 39 = .ok (.aload_n 0, 1) := by decide +kernel
theorem dX4_cheapestOf_40 : decode cX4_cheapestOf 40 = .ok (.iload_n 2, 1) := by decide +kernel
theorem dX4_cheapestOf_41 : decode cX4_cheapestOf 41 = .ok (.iload_n 3, 1) := by decide +kernel
theorem dX4_cheapestOf_42 : decode cX4_cheapestOf 42 = .ok (.invokevirtual 111, 3) := by decide +kernel
theorem dX4_cheapestOf_45 : decode cX4_cheapestOf 45 = .ok (.if_icmp .gt 7, 3) := by decide +kernel
theorem dX4_cheapestOf_48 : decode cX4_cheapestOf 48 = .ok (.iconst 1, 1) := by decide +kernel
theorem dX4_cheapestOf_49 : decode cX4_cheapestOf 49 = .ok (.goto 4, 3) := by decide +kernel
theorem dX4_cheapestOf_52 : decode cX4_cheapestOf 52 = .ok (.iconst 0, 1) := by decide +kernel
theorem dX4_cheapestOf_53 : decode cX4_cheapestOf 53 = .ok (.istore 4, 2) := by decide +kernel
theorem dX4_cheapestOf_55 : decode cX4_cheapestOf 55 = .ok (.iload 4, 2) := by decide +kernel
theorem dX4_cheapestOf_57 : decode cX4_cheapestOf 57 = .ok (.ifCond .eq 7, 3) := by decide +kernel
theorem dX4_cheapestOf_60 : decode cX4_cheapestOf 60 = .ok (.iconst 0, 1) := by decide +kernel
theorem dX4_cheapestOf_61 : decode cX4_cheapestOf 61 = .ok (.goto 4, 3) := by decide +kernel
theorem dX4_cheapestOf_64 : decode cX4_cheapestOf 64 = .ok (.iload_n 3, 1) := by decide +kernel
theorem dX4_cheapestOf_65 : decode cX4_cheapestOf 65 = .ok (.ireturn, 1) := by decide +kernel
set_option maxRecDepth 20000 in
theorem ggX4_cheapest_X4_areOperands : GoodIn wsX4_cheapest wsX4_areOperands := goodIn_r _ [5, 6, 7, 8, 4, 9, 10, 11, 12, 13, 14, 15, 16, 17, 45, 46, 47, 48, 49, 50, 51, 52, 53, 54, 55] (by decide +kernel) (by decide +kernel)
set_option maxRecDepth 20000 in
theorem gX4_cheapest_X4_areOperands : GoodIn wsX4_cheapest (wsV RX4 101 RX4 yX4_areOperands wsX4_areOperands) := goodIn_app (goodIn_of _ (by decide +kernel)) ggX4_cheapest_X4_areOperands
set_option maxRecDepth 20000 in
theorem ggX4_cheapest_X4_cheapestOf : GoodIn wsX4_cheapest wsX4_cheapestOf := goodIn_r _ [21, 22, 23, 24, 4, 25, 14, 26, 27, 28, 29, 30, 31, 32, 33, 34, 35, 45, 46, 47, 48, 49, 50, 51, 52, 53, 54, 55] (by decide +kernel) (by decide +kernel)
set_option maxRecDepth 20000 in
theorem gX4_cheapest_X4_cheapestOf : GoodIn wsX4_cheapest (wsV RX4 114 RX4 yX4_cheapestOf wsX4_cheapestOf) := goodIn_app (goodIn_of _ (by decide +kernel)) ggX4_cheapest_X4_cheapestOf
set_option maxRecDepth 20000 in
theorem ggX4_cheapest_X4_tells : GoodIn wsX4_cheapest wsX4_tells := goodIn_r _ [39, 40, 45, 46, 47, 48, 49, 50, 51, 52, 53, 54, 55] (by decide +kernel) (by decide +kernel)
set_option maxRecDepth 20000 in
theorem gX4_cheapest_X4_tells : GoodIn wsX4_cheapest (wsV RX4 65 RX4 yX4_tells wsX4_tells) := goodIn_app (goodIn_of _ (by decide +kernel)) ggX4_cheapest_X4_tells
set_option maxRecDepth 20000 in
theorem ggX4_cheapest_X4_fails : GoodIn wsX4_cheapest wsX4_fails := goodIn_r _ [44, 40, 45, 46, 47, 48, 49, 50, 51, 52, 53, 54, 55] (by decide +kernel) (by decide +kernel)
set_option maxRecDepth 20000 in
theorem gX4_cheapest_X4_fails : GoodIn wsX4_cheapest (wsV RX4 62 RX4 yX4_fails wsX4_fails) := goodIn_app (goodIn_of _ (by decide +kernel)) ggX4_cheapest_X4_fails
theorem dX4_cheapest_0 : decode cX4_cheapest 0 = .ok (.aload_n 0, 1) := by decide +kernel
theorem dX4_cheapest_1 : decode cX4_cheapest 1 = .ok (.iload_n 1, 1) := by decide +kernel
theorem dX4_cheapest_2 : decode cX4_cheapest 2 = .ok (.iload_n 2, 1) := by decide +kernel
theorem dX4_cheapest_3 : decode cX4_cheapest 3 = .ok (.invokevirtual 101, 3) := by decide +kernel
theorem dX4_cheapest_6 : decode cX4_cheapest 6 = .ok (.ifCond .eq 16, 3) := by decide +kernel
theorem dX4_cheapest_9 : decode cX4_cheapest 9 = .ok (.aload_n 0, 1) := by decide +kernel
theorem dX4_cheapest_10 : decode cX4_cheapest 10 = .ok (.aload_n 0, 1) := by decide +kernel
theorem dX4_cheapest_11 : decode cX4_cheapest 11 = .ok (.iload_n 1, 1) := by decide +kernel
theorem dX4_cheapest_12 : decode cX4_cheapest 12 = .ok (.iload_n 2, 1) := by decide +kernel
theorem dX4_cheapest_13 : decode cX4_cheapest 13 = .ok (.invokevirtual 114, 3) := by decide +kernel
theorem dX4_cheapest_16 : decode cX4_cheapest 16 = .ok (.invokevirtual 65, 3) := by decide +kernel
theorem dX4_cheapest_19 : decode cX4_cheapest 19 = .ok (.goto 8, 3) := by decide +kernel
theorem dX4_cheapest_22 : decode cX4_cheapest 22 = .ok (.aload_n 0, 1) := by decide +kernel
theorem dX4_cheapest_23 : decode cX4_cheapest 23 = .ok (.iconst 1, 1) := by decide +kernel
theorem dX4_cheapest_24 : decode cX4_cheapest 24 = .ok (.invokevirtual 62, 3) := by decide +kernel
theorem dX4_cheapest_27 : decode cX4_cheapest 27 = .ok (.ireturn, 1) := by decide +kernel
theorem dX4_rounded_0 : decode cX4_rounded 0 = .ok (.iload_n 0, 1) := by decide +kernel
theorem dX4_rounded_1 : decode cX4_rounded 1 = .ok (.iload_n 1, 1) := by decide +kernel
theorem dX4_rounded_2 : decode cX4_rounded 2 = .ok (.ishr, 1) := by decide +kernel
theorem dX4_rounded_3 : decode cX4_rounded 3 = .ok (.istore_n 3, 1) := by decide +kernel
theorem dX4_rounded_4 : decode cX4_rounded 4 = .ok (.iconst 2, 1) := by decide +kernel
theorem dX4_rounded_5 : decode cX4_rounded 5 = .ok (.iload_n 0, 1) := by decide +kernel
theorem dX4_rounded_6 : decode cX4_rounded 6 = .ok (.iload_n 3, 1) := by decide +kernel
theorem dX4_rounded_7 : decode cX4_rounded 7 = .ok (.iload_n 1, 1) := by decide +kernel
theorem dX4_rounded_8 : decode cX4_rounded 8 = .ok (.ishl, 1) := by decide +kernel
theorem dX4_rounded_9 : decode cX4_rounded 9 = .ok (.isub, 1) := by decide +kernel
theorem dX4_rounded_10 : decode cX4_rounded 10 = .ok (.imul, 1) := by decide +kernel
theorem dX4_rounded_11 : decode cX4_rounded 11 = .ok (.istore 4, 2) := by decide +kernel
theorem dX4_rounded_13 : decode cX4_rounded 13 = .ok (.iconst 1, 1) := by decide +kernel
theorem dX4_rounded_14 : decode cX4_rounded 14 = .ok (.iload_n 1, 1) := by decide +kernel
theorem dX4_rounded_15 : decode cX4_rounded 15 = .ok (.ishl, 1) := by decide +kernel
theorem dX4_rounded_16 : decode cX4_rounded 16 = .ok (.istore 5, 2) := by decide +kernel
theorem dX4_rounded_18 : decode cX4_rounded 18 = .ok (.iload_n 2, 1) := by decide +kernel
theorem dX4_rounded_19 : decode cX4_rounded 19 = .ok (.ifCond .eq 10, 3) := by decide +kernel
theorem dX4_rounded_22 : decode cX4_rounded 22 = .ok (.iload 4, 2) := by decide +kernel
theorem dX4_rounded_24 : decode cX4_rounded 24 = .ok (.iload 5, 2) := by decide +kernel
theorem dX4_rounded_26 : decode cX4_rounded 26 = .ok (.if_icmp .ge 5, 3) := by decide +kernel
theorem dX4_rounded_29 : decode cX4_rounded 29 = .ok (.iload_n 3, 1) := by decide +kernel
theorem dX4_rounded_30 : decode cX4_rounded 30 = .ok (.ireturn, 1) := by decide +kernel
theorem dX4_rounded_31 : decode cX4_rounded 31 = .ok (.iload 4, 2) := by decide +kernel
theorem dX4_rounded_33 : decode cX4_rounded 33 = .ok (.iload 5, 2) := by decide +kernel
theorem dX4_rounded_35 : decode cX4_rounded 35 = .ok (.if_icmp .gt 14, 3) := by decide +kernel
theorem dX4_rounded_38 : decode cX4_rounded 38 = .ok (.iload_n 2, 1) := by decide +kernel
theorem dX4_rounded_39 : decode cX4_rounded 39 = .ok (.iconst 1, 1) := by decide +kernel
theorem dX4_rounded_40 : decode cX4_rounded 40 = .ok (.if_icmp .eq 9, 3) := by decide +kernel
theorem dX4_rounded_43 : decode cX4_rounded 43 = .ok (.iload_n 3, 1) := by decide +kernel
theorem dX4_rounded_44 : decode cX4_rounded 44 = .ok (.iconst 2, 1) := by decide +kernel
theorem dX4_rounded_45 : decode cX4_rounded 45 = .ok (.irem, 1) := by decide +kernel
theorem dX4_rounded_46 : decode cX4_rounded 46 = .ok (.ifCond .eq 9, 3) := by decide +kernel
theorem dX4_rounded_49 : decode cX4_rounded 49 = .ok (.iload_n 3, 1) := by decide +kernel
theorem dX4_rounded_50 : decode cX4_rounded 50 = .ok (.iconst 1, 1) := by decide +kernel
theorem dX4_rounded_51 : decode cX4_rounded 51 = .ok (.iadd, 1) := by decide +kernel
theorem dX4_rounded_52 : decode cX4_rounded 52 = .ok (.goto 4, 3) := by decide +kernel
theorem dX4_rounded_55 : decode cX4_rounded 55 = .ok (.iload_n 3, 1) := by decide +kernel
theorem dX4_rounded_56 : decode cX4_rounded 56 = .ok (.ireturn, 1) := by decide +kernel
set_option maxRecDepth 20000 in
theorem ggX4_isWay_X4_in : GoodIn wsX4_isWay wsX4_in := goodIn_r _ [4] (by decide +kernel) (by decide +kernel)
set_option maxRecDepth 20000 in
theorem gX4_isWay_X4_in : GoodIn wsX4_isWay (va_wsS RX4 55 yX4_in wsX4_in) := goodIn_app (goodIn_of _ (by decide +kernel)) ggX4_isWay_X4_in
theorem dX4_isWay_0 : decode cX4_isWay 0 = .ok (.iload_n 0, 1) := by decide +kernel
theorem dX4_isWay_1 : decode cX4_isWay 1 = .ok (.iconst 0, 1) := by decide +kernel
theorem dX4_isWay_2 : decode cX4_isWay 2 = .ok (.bipush 16, 2) := by decide +kernel
theorem dX4_isWay_4 : decode cX4_isWay 4 = .ok (.invokestatic 55, 3) := by decide +kernel
theorem dX4_isWay_7 : decode cX4_isWay 7 = .ok (.ifCond .eq 16, 3) := by decide +kernel
theorem dX4_isWay_10 : decode cX4_isWay 10 = .ok (.iload_n 1, 1) := by decide +kernel
theorem dX4_isWay_11 : decode cX4_isWay 11 = .ok (.iconst 0, 1) := by decide +kernel
theorem dX4_isWay_12 : decode cX4_isWay 12 = .ok (.iconst 2, 1) := by decide +kernel
theorem dX4_isWay_13 : decode cX4_isWay 13 = .ok (.invokestatic 55, 3) := by decide +kernel
theorem dX4_isWay_16 : decode cX4_isWay 16 = .ok (.ifCond .eq 7, 3) := by decide +kernel
theorem dX4_isWay_19 : decode cX4_isWay 19 = .ok (.iconst 1, 1) := by decide +kernel
theorem dX4_isWay_20 : decode cX4_isWay 20 = .ok (.goto 4, 3) := by decide +kernel
theorem dX4_isWay_23 : decode cX4_isWay 23 = .ok (.iconst 0, 1) := by decide +kernel
theorem dX4_isWay_24 : decode cX4_isWay 24 = .ok (.ireturn, 1) := by decide +kernel
set_option maxRecDepth 20000 in
theorem ggX4_fraction_X4_areOperands : GoodIn wsX4_fraction wsX4_areOperands := goodIn_r _ [5, 6, 7, 8, 4, 9, 10, 11, 12, 13, 14, 15, 16, 17, 53, 54, 55, 56, 57, 58, 59, 60, 61, 62, 63] (by decide +kernel) (by decide +kernel)
set_option maxRecDepth 20000 in
theorem gX4_fraction_X4_areOperands : GoodIn wsX4_fraction (wsV RX4 101 RX4 yX4_areOperands wsX4_areOperands) := goodIn_app (goodIn_of _ (by decide +kernel)) ggX4_fraction_X4_areOperands
set_option maxRecDepth 20000 in
theorem ggX4_fraction_X4_isMethod : GoodIn wsX4_fraction wsX4_isMethod := goodIn_r _ [20, 15, 16, 4, 17] (by decide +kernel) (by decide +kernel)
set_option maxRecDepth 20000 in
theorem gX4_fraction_X4_isMethod : GoodIn wsX4_fraction (va_wsS RX4 105 yX4_isMethod wsX4_isMethod) := goodIn_app (goodIn_of _ (by decide +kernel)) ggX4_fraction_X4_isMethod
set_option maxRecDepth 20000 in
theorem ggX4_fraction_X4_isWay : GoodIn wsX4_fraction wsX4_isWay := goodIn_r _ [23, 15, 16, 4, 17] (by decide +kernel) (by decide +kernel)
set_option maxRecDepth 20000 in
theorem gX4_fraction_X4_isWay : GoodIn wsX4_fraction (va_wsS RX4 117 yX4_isWay wsX4_isWay) := goodIn_app (goodIn_of _ (by decide +kernel)) ggX4_fraction_X4_isWay
set_option maxRecDepth 20000 in
theorem ggX4_fraction_X4_fails : GoodIn wsX4_fraction wsX4_fails := goodIn_r _ [27, 28, 53, 54, 55, 56, 57, 58, 59, 60, 61, 62, 63] (by decide +kernel) (by decide +kernel)
set_option maxRecDepth 20000 in
theorem gX4_fraction_X4_fails : GoodIn wsX4_fraction (wsV RX4 62 RX4 yX4_fails wsX4_fails) := goodIn_app (goodIn_of _ (by decide +kernel)) ggX4_fraction_X4_fails
set_option maxRecDepth 20000 in
theorem ggX4_fraction_X4_product : GoodIn wsX4_fraction wsX4_product := goodIn_r _ [32, 33, 34, 35, 4, 36, 14, 37, 38, 39, 40, 41, 42, 43, 44, 45, 53, 54, 55, 56, 57, 58, 59, 60, 61, 62, 63] (by decide +kernel) (by decide +kernel)
set_option maxRecDepth 20000 in
theorem gX4_fraction_X4_product : GoodIn wsX4_fraction (wsV RX4 108 RX4 yX4_product wsX4_product) := goodIn_app (goodIn_of _ (by decide +kernel)) ggX4_fraction_X4_product
set_option maxRecDepth 20000 in
theorem ggX4_fraction_X4_rounded : GoodIn wsX4_fraction wsX4_rounded := goodIn_r _ [48] (by decide +kernel) (by decide +kernel)
set_option maxRecDepth 20000 in
theorem gX4_fraction_X4_rounded : GoodIn wsX4_fraction (va_wsS RX4 120 yX4_rounded wsX4_rounded) := goodIn_app (goodIn_of _ (by decide +kernel)) ggX4_fraction_X4_rounded
set_option maxRecDepth 20000 in
theorem ggX4_fraction_X4_tells : GoodIn wsX4_fraction wsX4_tells := goodIn_r _ [52, 28, 53, 54, 55, 56, 57, 58, 59, 60, 61, 62, 63] (by decide +kernel) (by decide +kernel)
set_option maxRecDepth 20000 in
theorem gX4_fraction_X4_tells : GoodIn wsX4_fraction (wsV RX4 65 RX4 yX4_tells wsX4_tells) := goodIn_app (goodIn_of _ (by decide +kernel)) ggX4_fraction_X4_tells
theorem dX4_fraction_0 : decode cX4_fraction 0 = .ok (.aload_n 0, 1) := by decide +kernel
theorem dX4_fraction_1 : decode cX4_fraction 1 = .ok (.iload_n 1, 1) := by decide +kernel
theorem dX4_fraction_2 : decode cX4_fraction 2 = .ok (.iload_n 2, 1) := by decide +kernel
theorem dX4_fraction_3 : decode cX4_fraction 3 = .ok (.invokevirtual 101, 3) := by decide +kernel
theorem dX4_fraction_6 : decode cX4_fraction 6 = .ok (.ifCond .eq 20, 3) := by decide +kernel
theorem dX4_fraction_9 : decode cX4_fraction 9 = .ok (.iload_n 3, 1) := by decide +kernel
theorem dX4_fraction_10 : decode cX4_fraction 10 = .ok (.invokestatic 105, 3) := by decide +kernel
theorem dX4_fraction_13 : decode cX4_fraction 13 = .ok (.ifCond .eq 13, 3) := by decide +kernel
theorem dX4_fraction_16 : decode cX4_fraction 16 = .ok (.iload 4, 2) := by decide +kernel
theorem dX4_fraction_18 : decode cX4_fraction 18 = .ok (.iload 5, 2) := by decide +kernel
theorem dX4_fraction_20 : decode cX4_fraction 20 = .ok (.invokestatic 117, 3) := by decide +kernel
theorem dX4_fraction_23 : decode cX4_fraction 23 = .ok (.ifCond .ne 9, 3) := by decide +kernel
theorem dX4_fraction_26 : decode cX4_fraction 26 = .ok (.aload_n 0, 1) := by decide +kernel
theorem dX4_fraction_27 : decode cX4_fraction 27 = .ok (.iconst 1, 1) := by decide +kernel
theorem dX4_fraction_28 : decode cX4_fraction 28 = .ok (.invokevirtual 62, 3) := by decide +kernel
theorem dX4_fraction_31 : decode cX4_fraction 31 = .ok (.ireturn, 1) := by decide +kernel
theorem dX4_fraction_32 : decode cX4_fraction 32 = .ok (.aload_n 0, 1) := by decide +kernel
theorem dX4_fraction_33 : decode cX4_fraction 33 = .ok (.aload_n 0, 1) := by decide +kernel
theorem dX4_fraction_34 : decode cX4_fraction 34 = .ok (.iload_n 1, 1) := by decide +kernel
theorem dX4_fraction_35 : decode cX4_fraction 35 = .ok (.iload_n 2, 1) := by decide +kernel
theorem dX4_fraction_36 : decode cX4_fraction 36 = .ok (.iload_n 3, 1) := by decide +kernel
theorem dX4_fraction_37 : decode cX4_fraction 37 = .ok (.invokevirtual 108, 3) := by decide +kernel
theorem dX4_fraction_40 : decode cX4_fraction 40 = .ok (.iload 4, 2) := by decide +kernel
theorem dX4_fraction_42 : decode cX4_fraction 42 = .ok (.iload 5, 2) := by decide +kernel
theorem dX4_fraction_44 : decode cX4_fraction 44 = .ok (.invokestatic 120, 3) := by decide +kernel
theorem dX4_fraction_47 : decode cX4_fraction 47 = .ok (.invokevirtual 65, 3) := by decide +kernel
theorem dX4_fraction_50 : decode cX4_fraction 50 = .ok (.ireturn, 1) := by decide +kernel
set_option maxRecDepth 20000 in
theorem ggX4_error_X4_areOperands : GoodIn wsX4_error wsX4_areOperands := goodIn_r _ [6, 7, 8, 9, 5, 10, 11, 12, 13, 14, 15, 16, 17, 18, 25, 26, 27, 28, 29, 30, 31, 32, 33, 34, 35] (by decide +kernel) (by decide +kernel)
set_option maxRecDepth 20000 in
theorem gX4_error_X4_areOperands : GoodIn wsX4_error (wsV RX4 101 RX4 yX4_areOperands wsX4_areOperands) := goodIn_app (goodIn_of _ (by decide +kernel)) ggX4_error_X4_areOperands
set_option maxRecDepth 20000 in
theorem ggX4_error_X4_isWay : GoodIn wsX4_error wsX4_isWay := goodIn_r _ [21, 16, 17, 5, 18] (by decide +kernel) (by decide +kernel)
set_option maxRecDepth 20000 in
theorem gX4_error_X4_isWay : GoodIn wsX4_error (va_wsS RX4 117 yX4_isWay wsX4_isWay) := goodIn_app (goodIn_of _ (by decide +kernel)) ggX4_error_X4_isWay
set_option maxRecDepth 20000 in
theorem ggX4_error_X4_rounded : GoodIn wsX4_error wsX4_rounded := goodIn_r _ [24] (by decide +kernel) (by decide +kernel)
set_option maxRecDepth 20000 in
theorem gX4_error_X4_rounded : GoodIn wsX4_error (va_wsS RX4 120 yX4_rounded wsX4_rounded) := goodIn_app (goodIn_of _ (by decide +kernel)) ggX4_error_X4_rounded
theorem dX4_error_0 : decode cX4_error 0 = .ok (.aload_n 0, 1) := by decide +kernel
theorem dX4_error_1 : decode cX4_error 1 = .ok (.aload_n 0, 1) := by decide +kernel
theorem dX4_error_2 : decode cX4_error 2 = .ok (.iload_n 1, 1) := by decide +kernel
theorem dX4_error_3 : decode cX4_error 3 = .ok (.iload_n 2, 1) := by decide +kernel
theorem dX4_error_4 : decode cX4_error 4 = .ok (.invokevirtual 101, 3) := by decide +kernel
theorem dX4_error_7 : decode cX4_error 7 = .ok (.ifCond .eq 16, 3) := by decide +kernel
theorem dX4_error_10 : decode cX4_error 10 = .ok (.iload_n 3, 1) := by decide +kernel
theorem dX4_error_11 : decode cX4_error 11 = .ok (.iload 4, 2) := by decide +kernel
theorem dX4_error_13 : decode cX4_error 13 = .ok (.invokestatic 117, 3) := by decide +kernel
theorem dX4_error_16 : decode cX4_error 16 = .ok (.ifCond .eq 7, 3) := by decide +kernel
theorem dX4_error_19 : decode cX4_error 19 = .ok (.iconst 0, 1) := by decide +kernel
theorem dX4_error_20 : decode cX4_error 20 = .ok (.goto 4, 3) := by decide +kernel
theorem dX4_error_23 : decode cX4_error 23 = .ok (.iconst 1, 1) := by decide +kernel
theorem dX4_error_24 : decode cX4_error 24 = .ok (.putfield 30, 3) := by decide +kernel
theorem dX4_error_27 : decode cX4_error 27 = .ok (.aload_n 0, 1) := by decide +kernel
theorem dX4_error_28 : decode cX4_error 28 = .ok (.getfield 30, 3) := by decide +kernel
theorem dX4_error_31 : decode cX4_error 31 = .ok (.ifCond .le 5, 3) := by decide +kernel
theorem dX4_error_34 : decode cX4_error 34 = .ok (.dconst 0, 1) := by decide +kernel
theorem dX4_error_35 : decode cX4_error 35 = .ok (.dreturn, 1) := by decide +kernel
theorem dX4_error_36 : decode cX4_error 36 = .ok (.iload_n 1, 1) := by decide +kernel
theorem dX4_error_37 : decode cX4_error 37 = .ok (.iload_n 2, 1) := by decide +kernel
theorem dX4_error_38 : decode cX4_error 38 = .ok (.imul, 1) := by decide +kernel
theorem dX4_error_39 : decode cX4_error 39 = .ok (.iload_n 3, 1) := by decide +kernel
theorem dX4_error_40 : decode cX4_error 40 = .ok (.iload 4, 2) := by decide +kernel
theorem dX4_error_42 : decode cX4_error 42 = .ok (.invokestatic 120, 3) := by decide +kernel
theorem dX4_error_45 : decode cX4_error 45 = .ok (.i2d, 1) := by decide +kernel
theorem dX4_error_46 : decode cX4_error 46 = .ok (.dstore 5, 2) := by decide +kernel
theorem dX4_error_48 : decode cX4_error 48 = .ok (.iload_n 1, 1) := by decide +kernel
theorem dX4_error_49 : decode cX4_error 49 = .ok (.iload_n 2, 1) := by decide +kernel
theorem dX4_error_50 : decode cX4_error 50 = .ok (.imul, 1) := by decide +kernel
theorem dX4_error_51 : decode cX4_error 51 = .ok (.i2d, 1) := by decide +kernel
theorem dX4_error_52 : decode cX4_error 52 = .ok (.dstore 7, 2) := by decide +kernel
theorem dX4_error_54 : decode cX4_error 54 = .ok (.iconst 1, 1) := by decide +kernel
theorem dX4_error_55 : decode cX4_error 55 = .ok (.iload_n 3, 1) := by decide +kernel
theorem dX4_error_56 : decode cX4_error 56 = .ok (.ishl, 1) := by decide +kernel
theorem dX4_error_57 : decode cX4_error 57 = .ok (.i2d, 1) := by decide +kernel
theorem dX4_error_58 : decode cX4_error 58 = .ok (.dstore 9, 2) := by decide +kernel
theorem dX4_error_60 : decode cX4_error 60 = .ok (.dload 5, 2) := by decide +kernel
theorem dX4_error_62 : decode cX4_error 62 = .ok (.dload 7, 2) := by decide +kernel
theorem dX4_error_64 : decode cX4_error 64 = .ok (.dload 9, 2) := by decide +kernel
theorem dX4_error_66 : decode cX4_error 66 = .ok (.ddiv, 1) := by decide +kernel
theorem dX4_error_67 : decode cX4_error 67 = .ok (.dsub, 1) := by decide +kernel
theorem dX4_error_68 : decode cX4_error 68 = .ok (.dreturn, 1) := by decide +kernel
set_option maxRecDepth 20000 in
theorem ggX4_entry_X4_isEntry : GoodIn wsX4_entry wsX4_isEntry := goodIn_r _ [6, 7, 8, 9, 5, 10, 11, 12, 13, 14, 1, 15, 16, 17, 41, 42, 43, 44, 45, 46, 47, 48, 49, 50, 51] (by decide +kernel) (by decide +kernel)
set_option maxRecDepth 20000 in
theorem gX4_entry_X4_isEntry : GoodIn wsX4_entry (wsV RX4 78 RX4 yX4_isEntry wsX4_isEntry) := goodIn_app (goodIn_of _ (by decide +kernel)) ggX4_entry_X4_isEntry
set_option maxRecDepth 20000 in
theorem ggX4_entry_X4_fails : GoodIn wsX4_entry wsX4_fails := goodIn_r _ [21, 22, 41, 42, 43, 44, 45, 46, 47, 48, 49, 50, 51] (by decide +kernel) (by decide +kernel)
set_option maxRecDepth 20000 in
theorem gX4_entry_X4_fails : GoodIn wsX4_entry (wsV RX4 62 RX4 yX4_fails wsX4_fails) := goodIn_app (goodIn_of _ (by decide +kernel)) ggX4_entry_X4_fails
set_option maxRecDepth 20000 in
theorem ggX4_entry_X4_tells : GoodIn wsX4_entry wsX4_tells := goodIn_r _ [26, 22, 41, 42, 43, 44, 45, 46, 47, 48, 49, 50, 51] (by decide +kernel) (by decide +kernel)
set_option maxRecDepth 20000 in
theorem gX4_entry_X4_tells : GoodIn wsX4_entry (wsV RX4 65 RX4 yX4_tells wsX4_tells) := goodIn_app (goodIn_of _ (by decide +kernel)) ggX4_entry_X4_tells
set_option maxRecDepth 20000 in
theorem ggX4_entry_X4_truth : GoodIn wsX4_entry wsX4_truth := goodIn_r _ [29] (by decide +kernel) (by decide +kernel)
set_option maxRecDepth 20000 in
theorem gX4_entry_X4_truth : GoodIn wsX4_entry (va_wsS RX4 42 yX4_truth wsX4_truth) := goodIn_app (goodIn_of _ (by decide +kernel)) ggX4_entry_X4_truth
set_option maxRecDepth 20000 in
theorem ggX4_entry_X4_ones : GoodIn wsX4_entry wsX4_ones := goodIn_r _ [32] (by decide +kernel) (by decide +kernel)
set_option maxRecDepth 20000 in
theorem gX4_entry_X4_ones : GoodIn wsX4_entry (va_wsS RX4 49 yX4_ones wsX4_ones) := goodIn_app (goodIn_of _ (by decide +kernel)) ggX4_entry_X4_ones
set_option maxRecDepth 20000 in
theorem ggX4_entry_X4_isFound : GoodIn wsX4_entry wsX4_isFound := goodIn_r _ [36, 37, 38, 39, 5, 40, 1, 27, 28, 29, 30, 31, 32, 41, 42, 43, 44, 45, 46, 47, 48, 49, 50, 51] (by decide +kernel) (by decide +kernel)
set_option maxRecDepth 20000 in
theorem gX4_entry_X4_isFound : GoodIn wsX4_entry (wsV RX4 68 RX4 yX4_isFound wsX4_isFound) := goodIn_app (goodIn_of _ (by decide +kernel)) ggX4_entry_X4_isFound
set_option maxRecDepth 20000 in
theorem ggX4_entry_X4_wrongBits : GoodIn wsX4_entry wsX4_wrongBits := goodIn_r _ [40, 1, 27, 28, 5, 29, 30, 31, 32, 41, 42, 43, 44, 45, 46, 47, 48, 49, 50, 51] (by decide +kernel) (by decide +kernel)
set_option maxRecDepth 20000 in
theorem gX4_entry_X4_wrongBits : GoodIn wsX4_entry (wsV RX4 52 RX4 yX4_wrongBits wsX4_wrongBits) := goodIn_app (goodIn_of _ (by decide +kernel)) ggX4_entry_X4_wrongBits
theorem dX4_entry_0 : decode cX4_entry 0 = .ok (.aload_n 0, 1) := by decide +kernel
theorem dX4_entry_1 : decode cX4_entry 1 = .ok (.iload_n 1, 1) := by decide +kernel
theorem dX4_entry_2 : decode cX4_entry 2 = .ok (.invokevirtual 78, 3) := by decide +kernel
theorem dX4_entry_5 : decode cX4_entry 5 = .ok (.ifCond .ne 9, 3) := by decide +kernel
theorem dX4_entry_8 : decode cX4_entry 8 = .ok (.aload_n 0, 1) := by decide +kernel
theorem dX4_entry_9 : decode cX4_entry 9 = .ok (.iconst 1, 1) := by decide +kernel
theorem dX4_entry_10 : decode cX4_entry 10 = .ok (.invokevirtual 62, 3) := by decide +kernel
theorem dX4_entry_13 : decode cX4_entry 13 = .ok (.ireturn, 1) := by decide +kernel
theorem dX4_entry_14 : decode cX4_entry 14 = .ok (.iload_n 2, 1) := by decide +kernel
theorem dX4_entry_15 : decode cX4_entry 15 = .ok (.tableswitch 98 0 4 #[33, 47, 56, 70, 88], 33) := by decide +kernel
theorem dX4_entry_48 : decode cX4_entry 48 = .ok (.aload_n 0, 1) := by decide +kernel
theorem dX4_entry_49 : decode cX4_entry 49 = .ok (.aload_n 0, 1) := by decide +kernel
theorem dX4_entry_50 : decode cX4_entry 50 = .ok (.getfield 7, 3) := by decide +kernel
theorem dX4_entry_53 : decode cX4_entry 53 = .ok (.bipush 12, 2) := by decide +kernel
theorem dX4_entry_55 : decode cX4_entry 55 = .ok (.iload_n 1, 1) := by decide +kernel
theorem dX4_entry_56 : decode cX4_entry 56 = .ok (.iadd, 1) := by decide +kernel
theorem dX4_entry_57 : decode cX4_entry 57 = .ok (.iaload, 1) := by decide +kernel
theorem dX4_entry_58 : decode cX4_entry 58 = .ok (.invokevirtual 65, 3) := by decide +kernel
theorem dX4_entry_61 : decode cX4_entry 61 = .ok (.ireturn, 1) := by decide +kernel
theorem dX4_entry_62 : decode cX4_entry 62 = .ok (.aload_n 0, 1) := by decide +kernel
theorem dX4_entry_63 : decode cX4_entry 63 = .ok (.iload_n 1, 1) := by decide +kernel
theorem dX4_entry_64 : decode cX4_entry 64 = .ok (.invokestatic 42, 3) := by decide +kernel
theorem dX4_entry_67 : decode cX4_entry 67 = .ok (.invokevirtual 65, 3) := by decide +kernel
theorem dX4_entry_70 : decode cX4_entry 70 = .ok (.ireturn, 1) := by decide +kernel
theorem dX4_entry_71 : decode cX4_entry 71 = .ok (.aload_n 0, 1) := by decide +kernel
theorem dX4_entry_72 : decode cX4_entry 72 = .ok (.iload_n 1, 1) := by decide +kernel
theorem dX4_entry_73 : decode cX4_entry 73 = .ok (.invokestatic 42, 3) := by decide +kernel
theorem dX4_entry_76 : decode cX4_entry 76 = .ok (.invokestatic 49, 3) := by decide +kernel
theorem dX4_entry_79 : decode cX4_entry 79 = .ok (.iconst 2, 1) := by decide +kernel
theorem dX4_entry_80 : decode cX4_entry 80 = .ok (.irem, 1) := by decide +kernel
theorem dX4_entry_81 : decode cX4_entry 81 = .ok (.invokevirtual 65, 3) := by decide +kernel
theorem dX4_entry_84 : decode cX4_entry 84 = .ok (.ireturn, 1) := by decide +kernel
theorem dX4_entry_85 : decode cX4_entry 85 = .ok (.aload_n 0, 1) := by decide +kernel
theorem dX4_entry_86 : decode cX4_entry 86 = .ok (.aload_n 0, 1) := by decide +kernel
theorem dX4_entry_87 : decode cX4_entry 87 = .ok (.iload_n 1, 1) := by decide +kernel
theorem dX4_entry_88 : decode cX4_entry 88 = .ok (.invokevirtual 68, 3) := by decide +kernel
theorem dX4_entry_91 : decode cX4_entry 91 = .ok (.ifCond .eq 7, 3) := by decide +kernel
theorem dX4_entry_94 : decode cX4_entry 94 = .ok (.iconst 0, 1) := by decide +kernel
theorem dX4_entry_95 : decode cX4_entry 95 = .ok (.goto 4, 3) := by decide +kernel
theorem dX4_entry_98 : decode cX4_entry 98 = .ok (.iconst 1, 1) := by decide +kernel
theorem dX4_entry_99 : decode cX4_entry 99 = .ok (.invokevirtual 65, 3) := by decide +kernel
theorem dX4_entry_102 : decode cX4_entry 102 = .ok (.ireturn, 1) := by decide +kernel
theorem dX4_entry_103 : decode cX4_entry 103 = .ok (.aload_n 0, 1) := by decide +kernel
theorem dX4_entry_104 : decode cX4_entry 104 = .ok (.aload_n 0, 1) := by decide +kernel
theorem dX4_entry_105 : decode cX4_entry 105 = .ok (.iload_n 1, 1) := by decide +kernel
theorem dX4_entry_106 : decode cX4_entry 106 = .ok (.invokevirtual 52, 3) := by decide +kernel
theorem dX4_entry_109 : decode cX4_entry 109 = .ok (.invokevirtual 65, 3) := by decide +kernel
theorem dX4_entry_112 : decode cX4_entry 112 = .ok (.ireturn, 1) := by decide +kernel
theorem dX4_entry_113 : decode cX4_entry 113 = .ok (.aload_n 0, 1) := by decide +kernel
theorem dX4_entry_114 : decode cX4_entry 114 = .ok (.iconst 2, 1) := by decide +kernel
theorem dX4_entry_115 : decode cX4_entry 115 = .ok (.invokevirtual 62, 3) := by decide +kernel
theorem dX4_entry_118 : decode cX4_entry 118 = .ok (.ireturn, 1) := by decide +kernel
set_option maxRecDepth 20000 in
theorem ggX4_register_X4_isRegister : GoodIn wsX4_register wsX4_isRegister := goodIn_r _ [5, 6, 7, 4, 8] (by decide +kernel) (by decide +kernel)
set_option maxRecDepth 20000 in
theorem gX4_register_X4_isRegister : GoodIn wsX4_register (va_wsS RX4 81 yX4_isRegister wsX4_isRegister) := goodIn_app (goodIn_of _ (by decide +kernel)) ggX4_register_X4_isRegister
set_option maxRecDepth 20000 in
theorem ggX4_register_X4_tells : GoodIn wsX4_register wsX4_tells := goodIn_r _ [12, 13, 18, 19, 20, 21, 22, 23, 24, 25, 26, 27, 28] (by decide +kernel) (by decide +kernel)
set_option maxRecDepth 20000 in
theorem gX4_register_X4_tells : GoodIn wsX4_register (wsV RX4 65 RX4 yX4_tells wsX4_tells) := goodIn_app (goodIn_of _ (by decide +kernel)) ggX4_register_X4_tells
set_option maxRecDepth 20000 in
theorem ggX4_register_X4_fails : GoodIn wsX4_register wsX4_fails := goodIn_r _ [17, 13, 18, 19, 20, 21, 22, 23, 24, 25, 26, 27, 28] (by decide +kernel) (by decide +kernel)
set_option maxRecDepth 20000 in
theorem gX4_register_X4_fails : GoodIn wsX4_register (wsV RX4 62 RX4 yX4_fails wsX4_fails) := goodIn_app (goodIn_of _ (by decide +kernel)) ggX4_register_X4_fails
theorem dX4_register_0 : decode cX4_register 0 = .ok (.iload_n 1, 1) := by decide +kernel
theorem dX4_register_1 : decode cX4_register 1 = .ok (.invokestatic 81, 3) := by decide +kernel
theorem dX4_register_4 : decode cX4_register 4 = .ok (.ifCond .eq 18, 3) := by decide +kernel
theorem dX4_register_7 : decode cX4_register 7 = .ok (.aload_n 0, 1) := by decide +kernel
theorem dX4_register_8 : decode cX4_register 8 = .ok (.aload_n 0, 1) := by decide +kernel
theorem dX4_register_9 : decode cX4_register 9 = .ok (.getfield 7, 3) := by decide +kernel
theorem dX4_register_12 : decode cX4_register 12 = .ok (.iconst 4, 1) := by decide +kernel
theorem dX4_register_13 : decode cX4_register 13 = .ok (.iload_n 1, 1) := by decide +kernel
theorem dX4_register_14 : decode cX4_register 14 = .ok (.iadd, 1) := by decide +kernel
theorem dX4_register_15 : decode cX4_register 15 = .ok (.iaload, 1) := by decide +kernel
theorem dX4_register_16 : decode cX4_register 16 = .ok (.invokevirtual 65, 3) := by decide +kernel
theorem dX4_register_19 : decode cX4_register 19 = .ok (.goto 8, 3) := by decide +kernel
theorem dX4_register_22 : decode cX4_register 22 = .ok (.aload_n 0, 1) := by decide +kernel
theorem dX4_register_23 : decode cX4_register 23 = .ok (.iconst 1, 1) := by decide +kernel
theorem dX4_register_24 : decode cX4_register 24 = .ok (.invokevirtual 62, 3) := by decide +kernel
theorem dX4_register_27 : decode cX4_register 27 = .ok (.ireturn, 1) := by decide +kernel
set_option maxRecDepth 20000 in
theorem ggX4_counted_X4_entries : GoodIn wsX4_counted wsX4_entries := goodIn_r _ [6, 7, 8, 9, 5, 10, 1, 37, 38, 39, 40, 41, 42, 43, 44, 45, 46, 47] (by decide +kernel) (by decide +kernel)
set_option maxRecDepth 20000 in
theorem gX4_counted_X4_entries : GoodIn wsX4_counted (wsV RX4 38 RX4 yX4_entries wsX4_entries) := goodIn_app (goodIn_of _ (by decide +kernel)) ggX4_counted_X4_entries
set_option maxRecDepth 20000 in
theorem ggX4_counted_X4_wrongEntries : GoodIn wsX4_counted wsX4_wrongEntries := goodIn_r _ [14, 2, 3, 4, 5, 6, 7, 8, 9, 10, 1, 15, 16, 17, 18, 19, 20, 21, 22, 23, 24, 37, 38, 39, 40, 41, 42, 43, 44, 45, 46, 47] (by decide +kernel) (by decide +kernel)
set_option maxRecDepth 20000 in
theorem gX4_counted_X4_wrongEntries : GoodIn wsX4_counted (wsV RX4 75 RX4 yX4_wrongEntries wsX4_wrongEntries) := goodIn_app (goodIn_of _ (by decide +kernel)) ggX4_counted_X4_wrongEntries
set_option maxRecDepth 20000 in
theorem ggX4_counted_X4_foundEntries : GoodIn wsX4_counted wsX4_foundEntries := goodIn_r _ [28, 2, 3, 4, 5, 6, 7, 8, 9, 10, 1, 29, 30, 31, 32, 15, 16, 17, 18, 19, 20, 21, 22, 23, 24, 37, 38, 39, 40, 41, 42, 43, 44, 45, 46, 47] (by decide +kernel) (by decide +kernel)
set_option maxRecDepth 20000 in
theorem gX4_counted_X4_foundEntries : GoodIn wsX4_counted (wsV RX4 123 RX4 yX4_foundEntries wsX4_foundEntries) := goodIn_app (goodIn_of _ (by decide +kernel)) ggX4_counted_X4_foundEntries
set_option maxRecDepth 20000 in
theorem ggX4_counted_X4_allWrongBits : GoodIn wsX4_counted wsX4_allWrongBits := goodIn_r _ [36, 2, 3, 4, 5, 6, 7, 8, 9, 10, 1, 15, 16, 17, 18, 19, 20, 21, 22, 23, 24, 37, 38, 39, 40, 41, 42, 43, 44, 45, 46, 47] (by decide +kernel) (by decide +kernel)
set_option maxRecDepth 20000 in
theorem gX4_counted_X4_allWrongBits : GoodIn wsX4_counted (wsV RX4 126 RX4 yX4_allWrongBits wsX4_allWrongBits) := goodIn_app (goodIn_of _ (by decide +kernel)) ggX4_counted_X4_allWrongBits
theorem dX4_counted_0 : decode cX4_counted 0 = .ok (.iload_n 1, 1) := by decide +kernel
theorem dX4_counted_1 : decode cX4_counted 1 = .ok (.tableswitch 74 0 7 #[47, 54, 74, 74, 74, 59, 64, 69], 47) := by decide +kernel
theorem dX4_counted_48 : decode cX4_counted 48 = .ok (.aload_n 0, 1) := by decide +kernel
theorem dX4_counted_49 : decode cX4_counted 49 = .ok (.getfield 7, 3) := by decide +kernel
theorem dX4_counted_52 : decode cX4_counted 52 = .ok (.iconst 0, 1) := by decide +kernel
theorem dX4_counted_53 : decode cX4_counted 53 = .ok (.iaload, 1) := by decide +kernel
theorem dX4_counted_54 : decode cX4_counted 54 = .ok (.ireturn, 1) := by decide +kernel
theorem dX4_counted_55 : decode cX4_counted 55 = .ok (.aload_n 0, 1) := by decide +kernel
theorem dX4_counted_56 : decode cX4_counted 56 = .ok (.invokevirtual 38, 3) := by decide +kernel
theorem dX4_counted_59 : decode cX4_counted 59 = .ok (.ireturn, 1) := by decide +kernel
theorem dX4_counted_60 : decode cX4_counted 60 = .ok (.aload_n 0, 1) := by decide +kernel
theorem dX4_counted_61 : decode cX4_counted 61 = .ok (.invokevirtual 75, 3) := by decide +kernel
theorem dX4_counted_64 : decode cX4_counted 64 = .ok (.ireturn, 1) := by decide +kernel
theorem dX4_counted_65 : decode cX4_counted 65 = .ok (.aload_n 0, 1) := by decide +kernel
theorem dX4_counted_66 : decode cX4_counted 66 = .ok (.invokevirtual 123, 3) := by decide +kernel
theorem dX4_counted_69 : decode cX4_counted 69 = .ok (.ireturn, 1) := by decide +kernel
theorem dX4_counted_70 : decode cX4_counted 70 = .ok (.aload_n 0, 1) := by decide +kernel
theorem dX4_counted_71 : decode cX4_counted 71 = .ok (.invokevirtual 126, 3) := by decide +kernel
theorem dX4_counted_74 : decode cX4_counted 74 = .ok (.ireturn, 1) := by decide +kernel
theorem dX4_counted_75 : decode cX4_counted 75 = .ok (.aload_n 0, 1) := by decide +kernel
theorem dX4_counted_76 : decode cX4_counted 76 = .ok (.getfield 7, 3) := by decide +kernel
theorem dX4_counted_79 : decode cX4_counted 79 = .ok (.iconst 1, 1) := by decide +kernel
theorem dX4_counted_80 : decode cX4_counted 80 = .ok (.iload_n 1, 1) := by decide +kernel
theorem dX4_counted_81 : decode cX4_counted 81 = .ok (.iadd, 1) := by decide +kernel
theorem dX4_counted_82 : decode cX4_counted 82 = .ok (.iconst 2, 1) := by decide +kernel
theorem dX4_counted_83 : decode cX4_counted 83 = .ok (.isub, 1) := by decide +kernel
theorem dX4_counted_84 : decode cX4_counted 84 = .ok (.iaload, 1) := by decide +kernel
theorem dX4_counted_85 : decode cX4_counted 85 = .ok (.ireturn, 1) := by decide +kernel
set_option maxRecDepth 20000 in
theorem ggX4_value_X4_in : GoodIn wsX4_value wsX4_in := goodIn_r _ [4] (by decide +kernel) (by decide +kernel)
set_option maxRecDepth 20000 in
theorem gX4_value_X4_in : GoodIn wsX4_value (va_wsS RX4 55 yX4_in wsX4_in) := goodIn_app (goodIn_of _ (by decide +kernel)) ggX4_value_X4_in
set_option maxRecDepth 20000 in
theorem ggX4_value_X4_counted : GoodIn wsX4_value wsX4_counted := goodIn_r _ [8, 9, 10, 11, 12, 3, 13, 14, 15, 16, 17, 18, 19, 20, 21, 22, 23, 24, 25, 26, 27, 28, 29, 30, 31, 32, 33, 34, 35, 36, 37, 38, 39, 40, 41, 42, 43, 53, 54, 55, 56, 57, 58, 59, 60, 61, 62, 63] (by decide +kernel) (by decide +kernel)
set_option maxRecDepth 20000 in
theorem gX4_value_X4_counted : GoodIn wsX4_value (wsV RX4 129 RX4 yX4_counted wsX4_counted) := goodIn_app (goodIn_of _ (by decide +kernel)) ggX4_value_X4_counted
set_option maxRecDepth 20000 in
theorem ggX4_value_X4_tells : GoodIn wsX4_value wsX4_tells := goodIn_r _ [47, 48, 53, 54, 55, 56, 57, 58, 59, 60, 61, 62, 63] (by decide +kernel) (by decide +kernel)
set_option maxRecDepth 20000 in
theorem gX4_value_X4_tells : GoodIn wsX4_value (wsV RX4 65 RX4 yX4_tells wsX4_tells) := goodIn_app (goodIn_of _ (by decide +kernel)) ggX4_value_X4_tells
set_option maxRecDepth 20000 in
theorem ggX4_value_X4_fails : GoodIn wsX4_value wsX4_fails := goodIn_r _ [52, 48, 53, 54, 55, 56, 57, 58, 59, 60, 61, 62, 63] (by decide +kernel) (by decide +kernel)
set_option maxRecDepth 20000 in
theorem gX4_value_X4_fails : GoodIn wsX4_value (wsV RX4 62 RX4 yX4_fails wsX4_fails) := goodIn_app (goodIn_of _ (by decide +kernel)) ggX4_value_X4_fails
theorem dX4_value_0 : decode cX4_value 0 = .ok (.iload_n 1, 1) := by decide +kernel
theorem dX4_value_1 : decode cX4_value 1 = .ok (.iconst 0, 1) := by decide +kernel
theorem dX4_value_2 : decode cX4_value 2 = .ok (.bipush 7, 2) := by decide +kernel
theorem dX4_value_4 : decode cX4_value 4 = .ok (.invokestatic 55, 3) := by decide +kernel
theorem dX4_value_7 : decode cX4_value 7 = .ok (.ifCond .eq 15, 3) := by decide +kernel
theorem dX4_value_10 : decode cX4_value 10 = .ok (.aload_n 0, 1) := by decide +kernel
theorem dX4_value_11 : decode cX4_value 11 = .ok (.aload_n 0, 1) := by decide +kernel
theorem dX4_value_12 : decode cX4_value 12 = .ok (.iload_n 1, 1) := by decide +kernel
theorem dX4_value_13 : decode cX4_value 13 = .ok (.invokevirtual 129, 3) := by decide +kernel
theorem dX4_value_16 : decode cX4_value 16 = .ok (.invokevirtual 65, 3) := by decide +kernel
theorem dX4_value_19 : decode cX4_value 19 = .ok (.goto 8, 3) := by decide +kernel
theorem dX4_value_22 : decode cX4_value 22 = .ok (.aload_n 0, 1) := by decide +kernel
theorem dX4_value_23 : decode cX4_value 23 = .ok (.iconst 1, 1) := by decide +kernel
theorem dX4_value_24 : decode cX4_value 24 = .ok (.invokevirtual 62, 3) := by decide +kernel
theorem dX4_value_27 : decode cX4_value 27 = .ok (.ireturn, 1) := by decide +kernel
theorem dX4_account_0 : decode cX4_account 0 = .ok (.aload_n 0, 1) := by decide +kernel
theorem dX4_account_1 : decode cX4_account 1 = .ok (.iconst 0, 1) := by decide +kernel
theorem dX4_account_2 : decode cX4_account 2 = .ok (.putfield 30, 3) := by decide +kernel
theorem dX4_account_5 : decode cX4_account 5 = .ok (.aload_n 0, 1) := by decide +kernel
theorem dX4_account_6 : decode cX4_account 6 = .ok (.getfield 34, 3) := by decide +kernel
theorem dX4_account_9 : decode cX4_account 9 = .ok (.lreturn, 1) := by decide +kernel
set_option maxRecDepth 20000 in
theorem ggX4_countWrong_X4_entries : GoodIn wsX4_countWrong wsX4_entries := goodIn_r _ [6, 7, 8, 9, 5, 10, 11, 16, 17, 18, 19, 20, 21, 22, 23, 24, 25, 26] (by decide +kernel) (by decide +kernel)
set_option maxRecDepth 20000 in
theorem gX4_countWrong_X4_entries : GoodIn wsX4_countWrong (wsV RX4 38 RX4 yX4_entries wsX4_entries) := goodIn_app (goodIn_of _ (by decide +kernel)) ggX4_countWrong_X4_entries
set_option maxRecDepth 20000 in
theorem ggX4_countWrong_X4_top : GoodIn wsX4_countWrong wsX4_top := goodIn_r _ [10, 11, 16, 17, 18, 19, 20, 21, 22, 23, 24, 25, 26] (by decide +kernel) (by decide +kernel)
set_option maxRecDepth 20000 in
theorem gX4_countWrong_X4_top : GoodIn wsX4_countWrong (wsV RX4 46 RX4 yX4_top wsX4_top) := goodIn_app (goodIn_of _ (by decide +kernel)) ggX4_countWrong_X4_top
set_option maxRecDepth 20000 in
theorem ggX4_countWrong_X4_byTable : GoodIn wsX4_countWrong wsX4_byTable := goodIn_r _ [15, 11, 16, 17, 18, 19, 20, 21, 22, 23, 24, 25, 26] (by decide +kernel) (by decide +kernel)
set_option maxRecDepth 20000 in
theorem gX4_countWrong_X4_byTable : GoodIn wsX4_countWrong (wsV RX4 95 RX4 yX4_byTable wsX4_byTable) := goodIn_app (goodIn_of _ (by decide +kernel)) ggX4_countWrong_X4_byTable
theorem dX4_countWrong_0 : decode cX4_countWrong 0 = .ok (.iconst 0, 1) := by decide +kernel
theorem dX4_countWrong_1 : decode cX4_countWrong 1 = .ok (.istore_n 1, 1) := by decide +kernel
theorem dX4_countWrong_2 : decode cX4_countWrong 2 = .ok (.iload_n 1, 1) := by decide +kernel
theorem dX4_countWrong_3 : decode cX4_countWrong 3 = .ok (.aload_n 0, 1) := by decide +kernel
theorem dX4_countWrong_4 : decode cX4_countWrong 4 = .ok (.invokevirtual 38, 3) := by decide +kernel
theorem dX4_countWrong_7 : decode cX4_countWrong 7 = .ok (.if_icmp .ge 16, 3) := by decide +kernel
theorem dX4_countWrong_10 : decode cX4_countWrong 10 = .ok (.aload_n 0, 1) := by decide +kernel
theorem dX4_countWrong_11 : decode cX4_countWrong 11 = .ok (.getfield 23, 3) := by decide +kernel
theorem dX4_countWrong_14 : decode cX4_countWrong 14 = .ok (.iload_n 1, 1) := by decide +kernel
theorem dX4_countWrong_15 : decode cX4_countWrong 15 = .ok (.iconst 0, 1) := by decide +kernel
theorem dX4_countWrong_16 : decode cX4_countWrong 16 = .ok (.iastore, 1) := by decide +kernel
theorem dX4_countWrong_17 : decode cX4_countWrong 17 = .ok (.iinc 1 1, 3) := by decide +kernel
theorem dX4_countWrong_20 : decode cX4_countWrong 20 = .ok (.goto (-18), 3) := by decide +kernel
theorem dX4_countWrong_23 : decode cX4_countWrong 23 = .ok (.iconst 0, 1) := by decide +kernel
theorem dX4_countWrong_24 : decode cX4_countWrong 24 = .ok (.istore_n 1, 1) := by decide +kernel
theorem dX4_countWrong_25 : decode cX4_countWrong 25 = .ok (.iconst 0, 1) := by decide +kernel
theorem dX4_countWrong_26 : decode cX4_countWrong 26 = .ok (.istore_n 2, 1) := by decide +kernel
theorem dX4_countWrong_27 : decode cX4_countWrong 27 = .ok (.iload_n 2, 1) := by decide +kernel
theorem dX4_countWrong_28 : decode cX4_countWrong 28 = .ok (.aload_n 0, 1) := by decide +kernel
theorem dX4_countWrong_29 : decode cX4_countWrong 29 = .ok (.invokevirtual 46, 3) := by decide +kernel
theorem dX4_countWrong_32 : decode cX4_countWrong 32 = .ok (.if_icmp .gt 91, 3) := by decide +kernel
theorem dX4_countWrong_35 : decode cX4_countWrong 35 = .ok (.iconst 0, 1) := by decide +kernel
theorem dX4_countWrong_36 : decode cX4_countWrong 36 = .ok (.istore_n 3, 1) := by decide +kernel
theorem dX4_countWrong_37 : decode cX4_countWrong 37 = .ok (.iload_n 3, 1) := by decide +kernel
theorem dX4_countWrong_38 : decode cX4_countWrong 38 = .ok (.aload_n 0, 1) := by decide +kernel
theorem dX4_countWrong_39 : decode cX4_countWrong 39 = .ok (.invokevirtual 46, 3) := by decide +kernel
theorem dX4_countWrong_42 : decode cX4_countWrong 42 = .ok (.if_icmp .gt 75, 3) := by decide +kernel
theorem dX4_countWrong_45 : decode cX4_countWrong 45 = .ok (.aload_n 0, 1) := by decide +kernel
theorem dX4_countWrong_46 : decode cX4_countWrong 46 = .ok (.iload_n 2, 1) := by decide +kernel
theorem dX4_countWrong_47 : decode cX4_countWrong 47 = .ok (.iload_n 3, 1) := by decide +kernel
theorem dX4_countWrong_48 : decode cX4_countWrong 48 = .ok (.invokevirtual 95, 3) := by decide +kernel
theorem dX4_countWrong_51 : decode cX4_countWrong 51 = .ok (.iload_n 2, 1) := by decide +kernel
theorem dX4_countWrong_52 : decode cX4_countWrong 52 = .ok (.iload_n 3, 1) := by decide +kernel
theorem dX4_countWrong_53 : decode cX4_countWrong 53 = .ok (.imul, 1) := by decide +kernel
theorem dX4_countWrong_54 : decode cX4_countWrong 54 = .ok (.if_icmp .eq 57, 3) := by decide +kernel
theorem dX4_countWrong_57 : decode cX4_countWrong 57 = .ok (.iload_n 2, 1) := by decide +kernel
theorem dX4_countWrong_58 : decode cX4_countWrong 58 = .ok (.iload_n 3, 1) := by decide +kernel
theorem dX4_countWrong_59 : decode cX4_countWrong 59 = .ok (.if_icmp .le 9, 3) := by decide +kernel
theorem dX4_countWrong_62 : decode cX4_countWrong 62 = .ok (.iload_n 2, 1) := by decide +kernel
theorem dX4_countWrong_63 : decode cX4_countWrong 63 = .ok (.iload_n 3, 1) := by decide +kernel
theorem dX4_countWrong_64 : decode cX4_countWrong 64 = .ok (.isub, 1) := by decide +kernel
theorem dX4_countWrong_65 : decode cX4_countWrong 65 = .ok (.goto 6, 3) := by decide +kernel
theorem dX4_countWrong_68 : decode cX4_countWrong 68 = .ok (.iload_n 3, 1) := by decide +kernel
theorem dX4_countWrong_69 : decode cX4_countWrong 69 = .ok (.iload_n 2, 1) := by decide +kernel
theorem dX4_countWrong_70 : decode cX4_countWrong 70 = .ok (.isub, 1) := by decide +kernel
theorem dX4_countWrong_71 : decode cX4_countWrong 71 = .ok (.istore 4, 2) := by decide +kernel
theorem dX4_countWrong_73 : decode cX4_countWrong 73 = .ok (.aload_n 0, 1) := by decide +kernel
theorem dX4_countWrong_74 : decode cX4_countWrong 74 = .ok (.getfield 23, 3) := by decide +kernel
theorem dX4_countWrong_77 : decode cX4_countWrong 77 = .ok (.iload_n 2, 1) := by decide +kernel
theorem dX4_countWrong_78 : decode cX4_countWrong 78 = .ok (.iload_n 3, 1) := by decide +kernel
theorem dX4_countWrong_79 : decode cX4_countWrong 79 = .ok (.iadd, 1) := by decide +kernel
theorem dX4_countWrong_80 : decode cX4_countWrong 80 = .ok (.dup2, 1) := by decide +kernel
theorem dX4_countWrong_81 : decode cX4_countWrong 81 = .ok (.iaload, 1) := by decide +kernel
theorem dX4_countWrong_82 : decode cX4_countWrong 82 = .ok (.iconst 1, 1) := by decide +kernel
theorem dX4_countWrong_83 : decode cX4_countWrong 83 = .ok (.iadd, 1) := by decide +kernel
theorem dX4_countWrong_84 : decode cX4_countWrong 84 = .ok (.iastore, 1) := by decide +kernel
theorem dX4_countWrong_85 : decode cX4_countWrong 85 = .ok (.aload_n 0, 1) := by decide +kernel
theorem dX4_countWrong_86 : decode cX4_countWrong 86 = .ok (.getfield 23, 3) := by decide +kernel
theorem dX4_countWrong_89 : decode cX4_countWrong 89 = .ok (.iload 4, 2) := by decide +kernel
theorem dX4_countWrong_91 : decode cX4_countWrong 91 = .ok (.dup2, 1) := by decide +kernel
theorem dX4_countWrong_92 : decode cX4_countWrong 92 = .ok (.iaload, 1) := by decide +kernel
theorem dX4_countWrong_93 : decode cX4_countWrong 93 = .ok (.iload 4, 2) := by decide +kernel
theorem dX4_countWrong_95 : decode cX4_countWrong 95 = .ok (.iload_n 2, 1) := by decide +kernel
theorem dX4_countWrong_96 : decode cX4_countWrong 96 = .ok (.iload_n 3, 1) := by decide +kernel
theorem dX4_countWrong_97 : decode cX4_countWrong 97 = .ok (.iadd, 1) := by decide +kernel
theorem dX4_countWrong_98 : decode cX4_countWrong 98 = .ok (.if_icmp .ne 7, 3) := by decide +kernel
theorem dX4_countWrong_101 : decode cX4_countWrong 101 = .ok (.iconst 0, 1) := by decide +kernel
theorem dX4_countWrong_102 : decode cX4_countWrong 102 = .ok (.goto 4, 3) := by decide +kernel
theorem dX4_countWrong_105 : decode cX4_countWrong 105 = .ok (.iconst 1, 1) := by decide +kernel
theorem dX4_countWrong_106 : decode cX4_countWrong 106 = .ok (.iadd, 1) := by decide +kernel
theorem dX4_countWrong_107 : decode cX4_countWrong 107 = .ok (.iastore, 1) := by decide +kernel
theorem dX4_countWrong_108 : decode cX4_countWrong 108 = .ok (.iinc 1 1, 3) := by decide +kernel
theorem dX4_countWrong_111 : decode cX4_countWrong 111 = .ok (.iinc 3 1, 3) := by decide +kernel
theorem dX4_countWrong_114 : decode cX4_countWrong 114 = .ok (.goto (-77), 3) := by decide +kernel
theorem dX4_countWrong_117 : decode cX4_countWrong 117 = .ok (.iinc 2 1, 3) := by decide +kernel
theorem dX4_countWrong_120 : decode cX4_countWrong 120 = .ok (.goto (-93), 3) := by decide +kernel
theorem dX4_countWrong_123 : decode cX4_countWrong 123 = .ok (.iload_n 1, 1) := by decide +kernel
theorem dX4_countWrong_124 : decode cX4_countWrong 124 = .ok (.ireturn, 1) := by decide +kernel
set_option maxRecDepth 20000 in
theorem ggX4_wrongPairs_X4_countWrong : GoodIn wsX4_wrongPairs wsX4_countWrong := goodIn_r _ [5, 6, 7, 8, 9, 4, 10, 11, 12, 13, 14, 15, 16, 17, 18, 19, 25, 26, 27, 28, 29, 30, 31, 32, 33, 34, 35] (by decide +kernel) (by decide +kernel)
set_option maxRecDepth 20000 in
theorem gX4_wrongPairs_X4_countWrong : GoodIn wsX4_wrongPairs (wsV RX4 132 RX4 yX4_countWrong wsX4_countWrong) := goodIn_app (goodIn_of _ (by decide +kernel)) ggX4_wrongPairs_X4_countWrong
set_option maxRecDepth 20000 in
theorem ggX4_wrongPairs_X4_tells : GoodIn wsX4_wrongPairs wsX4_tells := goodIn_r _ [23, 24, 25, 26, 27, 28, 29, 30, 31, 32, 33, 34, 35] (by decide +kernel) (by decide +kernel)
set_option maxRecDepth 20000 in
theorem gX4_wrongPairs_X4_tells : GoodIn wsX4_wrongPairs (wsV RX4 65 RX4 yX4_tells wsX4_tells) := goodIn_app (goodIn_of _ (by decide +kernel)) ggX4_wrongPairs_X4_tells
theorem dX4_wrongPairs_0 : decode cX4_wrongPairs 0 = .ok (.aload_n 0, 1) := by decide +kernel
theorem dX4_wrongPairs_1 : decode cX4_wrongPairs 1 = .ok (.aload_n 0, 1) := by decide +kernel
theorem dX4_wrongPairs_2 : decode cX4_wrongPairs 2 = .ok (.invokevirtual 132, 3) := by decide +kernel
theorem dX4_wrongPairs_5 : decode cX4_wrongPairs 5 = .ok (.invokevirtual 65, 3) := by decide +kernel
theorem dX4_wrongPairs_8 : decode cX4_wrongPairs 8 = .ok (.ireturn, 1) := by decide +kernel
set_option maxRecDepth 20000 in
theorem ggX4_wrongPairsWith_X4_isEntry : GoodIn wsX4_wrongPairsWith wsX4_isEntry := goodIn_r _ [6, 7, 8, 9, 5, 10, 11, 12, 13, 14, 15, 16, 17, 18, 36, 37, 38, 39, 40, 41, 42, 43, 44, 45, 46] (by decide +kernel) (by decide +kernel)
set_option maxRecDepth 20000 in
theorem gX4_wrongPairsWith_X4_isEntry : GoodIn wsX4_wrongPairsWith (wsV RX4 78 RX4 yX4_isEntry wsX4_isEntry) := goodIn_app (goodIn_of _ (by decide +kernel)) ggX4_wrongPairsWith_X4_isEntry
set_option maxRecDepth 20000 in
theorem ggX4_wrongPairsWith_X4_fails : GoodIn wsX4_wrongPairsWith wsX4_fails := goodIn_r _ [22, 23, 36, 37, 38, 39, 40, 41, 42, 43, 44, 45, 46] (by decide +kernel) (by decide +kernel)
set_option maxRecDepth 20000 in
theorem gX4_wrongPairsWith_X4_fails : GoodIn wsX4_wrongPairsWith (wsV RX4 62 RX4 yX4_fails wsX4_fails) := goodIn_app (goodIn_of _ (by decide +kernel)) ggX4_wrongPairsWith_X4_fails
set_option maxRecDepth 20000 in
theorem ggX4_wrongPairsWith_X4_countWrong : GoodIn wsX4_wrongPairsWith wsX4_countWrong := goodIn_r _ [27, 1, 7, 8, 9, 5, 10, 11, 12, 13, 14, 15, 28, 29, 30, 31, 36, 37, 38, 39, 40, 41, 42, 43, 44, 45, 46] (by decide +kernel) (by decide +kernel)
set_option maxRecDepth 20000 in
theorem gX4_wrongPairsWith_X4_countWrong : GoodIn wsX4_wrongPairsWith (wsV RX4 132 RX4 yX4_countWrong wsX4_countWrong) := goodIn_app (goodIn_of _ (by decide +kernel)) ggX4_wrongPairsWith_X4_countWrong
set_option maxRecDepth 20000 in
theorem ggX4_wrongPairsWith_X4_tells : GoodIn wsX4_wrongPairsWith wsX4_tells := goodIn_r _ [35, 23, 36, 37, 38, 39, 40, 41, 42, 43, 44, 45, 46] (by decide +kernel) (by decide +kernel)
set_option maxRecDepth 20000 in
theorem gX4_wrongPairsWith_X4_tells : GoodIn wsX4_wrongPairsWith (wsV RX4 65 RX4 yX4_tells wsX4_tells) := goodIn_app (goodIn_of _ (by decide +kernel)) ggX4_wrongPairsWith_X4_tells
theorem dX4_wrongPairsWith_0 : decode cX4_wrongPairsWith 0 = .ok (.aload_n 0, 1) := by decide +kernel
theorem dX4_wrongPairsWith_1 : decode cX4_wrongPairsWith 1 = .ok (.iload_n 1, 1) := by decide +kernel
theorem dX4_wrongPairsWith_2 : decode cX4_wrongPairsWith 2 = .ok (.invokevirtual 78, 3) := by decide +kernel
theorem dX4_wrongPairsWith_5 : decode cX4_wrongPairsWith 5 = .ok (.ifCond .ne 9, 3) := by decide +kernel
theorem dX4_wrongPairsWith_8 : decode cX4_wrongPairsWith 8 = .ok (.aload_n 0, 1) := by decide +kernel
theorem dX4_wrongPairsWith_9 : decode cX4_wrongPairsWith 9 = .ok (.iconst 1, 1) := by decide +kernel
theorem dX4_wrongPairsWith_10 : decode cX4_wrongPairsWith 10 = .ok (.invokevirtual 62, 3) := by decide +kernel
theorem dX4_wrongPairsWith_13 : decode cX4_wrongPairsWith 13 = .ok (.ireturn, 1) := by decide +kernel
theorem dX4_wrongPairsWith_14 : decode cX4_wrongPairsWith 14 = .ok (.aload_n 0, 1) := by decide +kernel
theorem dX4_wrongPairsWith_15 : decode cX4_wrongPairsWith 15 = .ok (.invokevirtual 132, 3) := by decide +kernel
theorem dX4_wrongPairsWith_18 : decode cX4_wrongPairsWith 18 = .ok (.istore_n 2, 1) := by decide +kernel
theorem dX4_wrongPairsWith_19 : decode cX4_wrongPairsWith 19 = .ok (.aload_n 0, 1) := by decide +kernel
theorem dX4_wrongPairsWith_20 : decode cX4_wrongPairsWith 20 = .ok (.iload_n 2, 1) := by decide +kernel
theorem dX4_wrongPairsWith_21 : decode cX4_wrongPairsWith 21 = .ok (.ifCond .ne 7, 3) := by decide +kernel
theorem dX4_wrongPairsWith_24 : decode cX4_wrongPairsWith 24 = .ok (.iconst 0, 1) := by decide +kernel
theorem dX4_wrongPairsWith_25 : decode cX4_wrongPairsWith 25 = .ok (.goto 9, 3) := by decide +kernel
theorem dX4_wrongPairsWith_28 : decode cX4_wrongPairsWith 28 = .ok (.aload_n 0, 1) := by decide +kernel
theorem dX4_wrongPairsWith_29 : decode cX4_wrongPairsWith 29 = .ok (.getfield 23, 3) := by decide +kernel
theorem dX4_wrongPairsWith_32 : decode cX4_wrongPairsWith 32 = .ok (.iload_n 1, 1) := by decide +kernel
theorem dX4_wrongPairsWith_33 : decode cX4_wrongPairsWith 33 = .ok (.iaload, 1) := by decide +kernel
theorem dX4_wrongPairsWith_34 : decode cX4_wrongPairsWith 34 = .ok (.invokevirtual 65, 3) := by decide +kernel
theorem dX4_wrongPairsWith_37 : decode cX4_wrongPairsWith 37 = .ok (.ireturn, 1) := by decide +kernel
set_option maxRecDepth 20000 in
theorem ggX4_firstOf_X4_top : GoodIn wsX4_firstOf wsX4_top := goodIn_r _ [5, 6, 11, 12, 13, 14, 15, 16, 17, 18, 19, 20, 21] (by decide +kernel) (by decide +kernel)
set_option maxRecDepth 20000 in
theorem gX4_firstOf_X4_top : GoodIn wsX4_firstOf (wsV RX4 46 RX4 yX4_top wsX4_top) := goodIn_app (goodIn_of _ (by decide +kernel)) ggX4_firstOf_X4_top
set_option maxRecDepth 20000 in
theorem ggX4_firstOf_X4_byTable : GoodIn wsX4_firstOf wsX4_byTable := goodIn_r _ [10, 6, 11, 12, 13, 14, 15, 16, 17, 18, 19, 20, 21] (by decide +kernel) (by decide +kernel)
set_option maxRecDepth 20000 in
theorem gX4_firstOf_X4_byTable : GoodIn wsX4_firstOf (wsV RX4 95 RX4 yX4_byTable wsX4_byTable) := goodIn_app (goodIn_of _ (by decide +kernel)) ggX4_firstOf_X4_byTable
theorem dX4_firstOf_0 : decode cX4_firstOf 0 = .ok (.iconst 0, 1) := by decide +kernel
theorem dX4_firstOf_1 : decode cX4_firstOf 1 = .ok (.istore_n 1, 1) := by decide +kernel
theorem dX4_firstOf_2 : decode cX4_firstOf 2 = .ok (.iload_n 1, 1) := by decide +kernel
theorem dX4_firstOf_3 : decode cX4_firstOf 3 = .ok (.aload_n 0, 1) := by decide +kernel
theorem dX4_firstOf_4 : decode cX4_firstOf 4 = .ok (.invokevirtual 46, 3) := by decide +kernel
theorem dX4_firstOf_7 : decode cX4_firstOf 7 = .ok (.if_icmp .gt 45, 3) := by decide +kernel
theorem dX4_firstOf_10 : decode cX4_firstOf 10 = .ok (.iconst 0, 1) := by decide +kernel
theorem dX4_firstOf_11 : decode cX4_firstOf 11 = .ok (.istore_n 2, 1) := by decide +kernel
theorem dX4_firstOf_12 : decode cX4_firstOf 12 = .ok (.iload_n 2, 1) := by decide +kernel
theorem dX4_firstOf_13 : decode cX4_firstOf 13 = .ok (.aload_n 0, 1) := by decide +kernel
theorem dX4_firstOf_14 : decode cX4_firstOf 14 = .ok (.invokevirtual 46, 3) := by decide +kernel
theorem dX4_firstOf_17 : decode cX4_firstOf 17 = .ok (.if_icmp .gt 29, 3) := by decide +kernel
theorem dX4_firstOf_20 : decode cX4_firstOf 20 = .ok (.aload_n 0, 1) := by decide +kernel
theorem dX4_firstOf_21 : decode cX4_firstOf 21 = .ok (.iload_n 1, 1) := by decide +kernel
theorem dX4_firstOf_22 : decode cX4_firstOf 22 = .ok (.iload_n 2, 1) := by decide +kernel
theorem dX4_firstOf_23 : decode cX4_firstOf 23 = .ok (.invokevirtual 95, 3) := by decide +kernel
theorem dX4_firstOf_26 : decode cX4_firstOf 26 = .ok (.iload_n 1, 1) := by decide +kernel
theorem dX4_firstOf_27 : decode cX4_firstOf 27 = .ok (.iload_n 2, 1) := by decide +kernel
theorem dX4_firstOf_28 : decode cX4_firstOf 28 = .ok (.imul, 1) := by decide +kernel
theorem dX4_firstOf_29 : decode cX4_firstOf 29 = .ok (.if_icmp .eq 11, 3) := by decide +kernel
theorem dX4_firstOf_32 : decode cX4_firstOf 32 = .ok (.sipush 1000, 3) := by decide +kernel
theorem dX4_firstOf_35 : decode cX4_firstOf 35 = .ok (.iload_n 1, 1) := by decide +kernel
theorem dX4_firstOf_36 : decode cX4_firstOf 36 = .ok (.imul, 1) := by decide +kernel
theorem dX4_firstOf_37 : decode cX4_firstOf 37 = .ok (.iload_n 2, 1) := by decide +kernel
theorem dX4_firstOf_38 : decode cX4_firstOf 38 = .ok (.iadd, 1) := by decide +kernel
theorem dX4_firstOf_39 : decode cX4_firstOf 39 = .ok (.ireturn, 1) := by decide +kernel
theorem dX4_firstOf_40 : decode cX4_firstOf 40 = .ok (.iinc 2 1, 3) := by decide +kernel
theorem dX4_firstOf_43 : decode cX4_firstOf 43 = .ok (.goto (-31), 3) := by decide +kernel
theorem dX4_firstOf_46 : decode cX4_firstOf 46 = .ok (.iinc 1 1, 3) := by decide +kernel
theorem dX4_firstOf_49 : decode cX4_firstOf 49 = .ok (.goto (-47), 3) := by decide +kernel
theorem dX4_firstOf_52 : decode cX4_firstOf 52 = .ok (.iconst (-1), 1) := by decide +kernel
theorem dX4_firstOf_53 : decode cX4_firstOf 53 = .ok (.ireturn, 1) := by decide +kernel
set_option maxRecDepth 20000 in
theorem ggX4_firstWrong_X4_firstOf : GoodIn wsX4_firstWrong wsX4_firstOf := goodIn_r _ [5, 6, 7, 8, 4, 9, 10, 11, 12, 13, 14, 20, 21, 22, 23, 24, 25, 26, 27, 28, 29, 30] (by decide +kernel) (by decide +kernel)
set_option maxRecDepth 20000 in
theorem gX4_firstWrong_X4_firstOf : GoodIn wsX4_firstWrong (wsV RX4 135 RX4 yX4_firstOf wsX4_firstOf) := goodIn_app (goodIn_of _ (by decide +kernel)) ggX4_firstWrong_X4_firstOf
set_option maxRecDepth 20000 in
theorem ggX4_firstWrong_X4_tells : GoodIn wsX4_firstWrong wsX4_tells := goodIn_r _ [18, 19, 20, 21, 22, 23, 24, 25, 26, 27, 28, 29, 30] (by decide +kernel) (by decide +kernel)
set_option maxRecDepth 20000 in
theorem gX4_firstWrong_X4_tells : GoodIn wsX4_firstWrong (wsV RX4 65 RX4 yX4_tells wsX4_tells) := goodIn_app (goodIn_of _ (by decide +kernel)) ggX4_firstWrong_X4_tells
theorem dX4_firstWrong_0 : decode cX4_firstWrong 0 = .ok (.aload_n 0, 1) := by decide +kernel
theorem dX4_firstWrong_1 : decode cX4_firstWrong 1 = .ok (.aload_n 0, 1) := by decide +kernel
theorem dX4_firstWrong_2 : decode cX4_firstWrong 2 = .ok (.invokevirtual 135, 3) := by decide +kernel
theorem dX4_firstWrong_5 : decode cX4_firstWrong 5 = .ok (.invokevirtual 65, 3) := by decide +kernel
theorem dX4_firstWrong_8 : decode cX4_firstWrong 8 = .ok (.ireturn, 1) := by decide +kernel
set_option maxRecDepth 20000 in
theorem ggX4_suspect_X4_countWrong : GoodIn wsX4_suspect wsX4_countWrong := goodIn_r _ [6, 1, 7, 8, 9, 5, 10, 11, 12, 13, 14, 15, 16, 17, 18, 19, 25, 26, 27, 28, 29, 30, 31, 32, 33, 34, 35] (by decide +kernel) (by decide +kernel)
set_option maxRecDepth 20000 in
theorem gX4_suspect_X4_countWrong : GoodIn wsX4_suspect (wsV RX4 132 RX4 yX4_countWrong wsX4_countWrong) := goodIn_app (goodIn_of _ (by decide +kernel)) ggX4_suspect_X4_countWrong
set_option maxRecDepth 20000 in
theorem ggX4_suspect_X4_tells : GoodIn wsX4_suspect wsX4_tells := goodIn_r _ [23, 24, 25, 26, 27, 28, 29, 30, 31, 32, 33, 34, 35] (by decide +kernel) (by decide +kernel)
set_option maxRecDepth 20000 in
theorem gX4_suspect_X4_tells : GoodIn wsX4_suspect (wsV RX4 65 RX4 yX4_tells wsX4_tells) := goodIn_app (goodIn_of _ (by decide +kernel)) ggX4_suspect_X4_tells
set_option maxRecDepth 20000 in
theorem ggX4_suspect_X4_entries : GoodIn wsX4_suspect wsX4_entries := goodIn_r _ [10, 11, 12, 13, 5, 14, 15, 25, 26, 27, 28, 29, 30, 31, 32, 33, 34, 35] (by decide +kernel) (by decide +kernel)
set_option maxRecDepth 20000 in
theorem gX4_suspect_X4_entries : GoodIn wsX4_suspect (wsV RX4 38 RX4 yX4_entries wsX4_entries) := goodIn_app (goodIn_of _ (by decide +kernel)) ggX4_suspect_X4_entries
theorem dX4_suspect_0 : decode cX4_suspect 0 = .ok (.aload_n 0, 1) := by decide +kernel
theorem dX4_suspect_1 : decode cX4_suspect 1 = .ok (.invokevirtual 132, 3) := by decide +kernel
theorem dX4_suspect_4 : decode cX4_suspect 4 = .ok (.ifCond .ne 9, 3) := by decide +kernel
theorem dX4_suspect_7 : decode cX4_suspect 7 = .ok (.aload_n 0, 1) := by decide +kernel
theorem dX4_suspect_8 : decode cX4_suspect 8 = .ok (.iconst (-1), 1) := by decide +kernel
theorem dX4_suspect_9 : decode cX4_suspect 9 = .ok (.invokevirtual 65, 3) := by decide +kernel
theorem dX4_suspect_12 : decode cX4_suspect 12 = .ok (.ireturn, 1) := by decide +kernel
theorem dX4_suspect_13 : decode cX4_suspect 13 = .ok (.iconst 0, 1) := by decide +kernel
theorem dX4_suspect_14 : decode cX4_suspect 14 = .ok (.istore_n 1, 1) := by decide +kernel
theorem dX4_suspect_15 : decode cX4_suspect 15 = .ok (.iconst 1, 1) := by decide +kernel
theorem dX4_suspect_16 : decode cX4_suspect 16 = .ok (.istore_n 2, 1) := by decide +kernel
theorem dX4_suspect_17 : decode cX4_suspect 17 = .ok (.iload_n 2, 1) := by decide +kernel
theorem dX4_suspect_18 : decode cX4_suspect 18 = .ok (.aload_n 0, 1) := by decide +kernel
theorem dX4_suspect_19 : decode cX4_suspect 19 = .ok (.invokevirtual 38, 3) := by decide +kernel
theorem dX4_suspect_22 : decode cX4_suspect 22 = .ok (.if_icmp .ge 30, 3) := by decide +kernel
theorem dX4_suspect_25 : decode cX4_suspect 25 = .ok (.aload_n 0, 1) := by decide +kernel
theorem dX4_suspect_26 : decode cX4_suspect 26 = .ok (.getfield 23, 3) := by decide +kernel
theorem dX4_suspect_29 : decode cX4_suspect 29 = .ok (.iload_n 2, 1) := by decide +kernel
theorem dX4_suspect_30 : decode cX4_suspect 30 = .ok (.iaload, 1) := by decide +kernel
theorem dX4_suspect_31 : decode cX4_suspect 31 = .ok (.aload_n 0, 1) := by decide +kernel
theorem dX4_suspect_32 : decode cX4_suspect 32 = .ok (.getfield 23, 3) := by decide +kernel
theorem dX4_suspect_35 : decode cX4_suspect 35 = .ok (.iload_n 1, 1) := by decide +kernel
theorem dX4_suspect_36 : decode cX4_suspect 36 = .ok (.iaload, 1) := by decide +kernel
theorem dX4_suspect_37 : decode cX4_suspect 37 = .ok (.if_icmp .le 7, 3) := by decide +kernel
theorem dX4_suspect_40 : decode cX4_suspect 40 = .ok (.iload_n 2, 1) := by decide +kernel
theorem dX4_suspect_41 : decode cX4_suspect 41 = .ok (.goto 4, 3) := by decide +kernel
theorem dX4_suspect_44 : decode cX4_suspect 44 = .ok (.iload_n 1, 1) := by decide +kernel
theorem dX4_suspect_45 : decode cX4_suspect 45 = .ok (.istore_n 1, 1) := by decide +kernel
theorem dX4_suspect_46 : decode cX4_suspect 46 = .ok (.iinc 2 1, 3) := by decide +kernel
theorem dX4_suspect_49 : decode cX4_suspect 49 = .ok (.goto (-32), 3) := by decide +kernel
theorem dX4_suspect_52 : decode cX4_suspect 52 = .ok (.aload_n 0, 1) := by decide +kernel
theorem dX4_suspect_53 : decode cX4_suspect 53 = .ok (.iload_n 1, 1) := by decide +kernel
theorem dX4_suspect_54 : decode cX4_suspect 54 = .ok (.invokevirtual 65, 3) := by decide +kernel
theorem dX4_suspect_57 : decode cX4_suspect 57 = .ok (.ireturn, 1) := by decide +kernel
set_option maxRecDepth 20000 in
theorem ggX4_cheaperPairs_X4_isMethod : GoodIn wsX4_cheaperPairs wsX4_isMethod := goodIn_r _ [4, 5, 6, 3, 7] (by decide +kernel) (by decide +kernel)
set_option maxRecDepth 20000 in
theorem gX4_cheaperPairs_X4_isMethod : GoodIn wsX4_cheaperPairs (va_wsS RX4 105 yX4_isMethod wsX4_isMethod) := goodIn_app (goodIn_of _ (by decide +kernel)) ggX4_cheaperPairs_X4_isMethod
set_option maxRecDepth 20000 in
theorem ggX4_cheaperPairs_X4_fails : GoodIn wsX4_cheaperPairs wsX4_fails := goodIn_r _ [11, 12, 32, 33, 34, 35, 36, 37, 38, 39, 40, 41, 42] (by decide +kernel) (by decide +kernel)
set_option maxRecDepth 20000 in
theorem gX4_cheaperPairs_X4_fails : GoodIn wsX4_cheaperPairs (wsV RX4 62 RX4 yX4_fails wsX4_fails) := goodIn_app (goodIn_of _ (by decide +kernel)) ggX4_cheaperPairs_X4_fails
set_option maxRecDepth 20000 in
theorem ggX4_cheaperPairs_X4_top : GoodIn wsX4_cheaperPairs wsX4_top := goodIn_r _ [16, 17, 32, 33, 34, 35, 36, 37, 38, 39, 40, 41, 42] (by decide +kernel) (by decide +kernel)
set_option maxRecDepth 20000 in
theorem gX4_cheaperPairs_X4_top : GoodIn wsX4_cheaperPairs (wsV RX4 46 RX4 yX4_top wsX4_top) := goodIn_app (goodIn_of _ (by decide +kernel)) ggX4_cheaperPairs_X4_top
set_option maxRecDepth 20000 in
theorem ggX4_cheaperPairs_X4_price : GoodIn wsX4_cheaperPairs wsX4_price := goodIn_r _ [21, 17, 22, 23, 3, 24, 25, 26, 27, 32, 33, 34, 35, 36, 37, 38, 39, 40, 41, 42] (by decide +kernel) (by decide +kernel)
set_option maxRecDepth 20000 in
theorem gX4_cheaperPairs_X4_price : GoodIn wsX4_cheaperPairs (wsV RX4 111 RX4 yX4_price wsX4_price) := goodIn_app (goodIn_of _ (by decide +kernel)) ggX4_cheaperPairs_X4_price
set_option maxRecDepth 20000 in
theorem ggX4_cheaperPairs_X4_tells : GoodIn wsX4_cheaperPairs wsX4_tells := goodIn_r _ [31, 12, 32, 33, 34, 35, 36, 37, 38, 39, 40, 41, 42] (by decide +kernel) (by decide +kernel)
set_option maxRecDepth 20000 in
theorem gX4_cheaperPairs_X4_tells : GoodIn wsX4_cheaperPairs (wsV RX4 65 RX4 yX4_tells wsX4_tells) := goodIn_app (goodIn_of _ (by decide +kernel)) ggX4_cheaperPairs_X4_tells
theorem dX4_cheaperPairs_0 : decode cX4_cheaperPairs 0 = .ok (.iload_n 1, 1) := by decide +kernel
theorem dX4_cheaperPairs_1 : decode cX4_cheaperPairs 1 = .ok (.invokestatic 105, 3) := by decide +kernel
theorem dX4_cheaperPairs_4 : decode cX4_cheaperPairs 4 = .ok (.ifCond .eq 10, 3) := by decide +kernel
theorem dX4_cheaperPairs_7 : decode cX4_cheaperPairs 7 = .ok (.iload_n 2, 1) := by decide +kernel
theorem dX4_cheaperPairs_8 : decode cX4_cheaperPairs 8 = .ok (.invokestatic 105, 3) := by decide +kernel
theorem dX4_cheaperPairs_11 : decode cX4_cheaperPairs 11 = .ok (.ifCond .ne 9, 3) := by decide +kernel
theorem dX4_cheaperPairs_14 : decode cX4_cheaperPairs 14 = .ok (.aload_n 0, 1) := by decide +kernel
theorem dX4_cheaperPairs_15 : decode cX4_cheaperPairs 15 = .ok (.iconst 1, 1) := by decide +kernel
theorem dX4_cheaperPairs_16 : decode cX4_cheaperPairs 16 = .ok (.invokevirtual 62, 3) := by decide +kernel
theorem dX4_cheaperPairs_19 : decode cX4_cheaperPairs 19 = .ok (.ireturn, 1) := by decide +kernel
theorem dX4_cheaperPairs_20 : decode cX4_cheaperPairs 20 = .ok (.iconst 0, 1) := by decide +kernel
theorem dX4_cheaperPairs_21 : decode cX4_cheaperPairs 21 = .ok (.istore_n 3, 1) := by decide +kernel
theorem dX4_cheaperPairs_22 : decode cX4_cheaperPairs 22 = .ok (.iconst 0, 1) := by decide +kernel
theorem dX4_cheaperPairs_23 : decode cX4_cheaperPairs 23 = .ok (.istore 4, 2) := by decide +kernel
theorem dX4_cheaperPairs_25 : decode cX4_cheaperPairs 25 = .ok (.iload 4, 2) := by decide +kernel
theorem dX4_cheaperPairs_27 : decode cX4_cheaperPairs 27 = .ok (.aload_n 0, 1) := by decide +kernel
theorem dX4_cheaperPairs_28 : decode cX4_cheaperPairs 28 = .ok (.invokevirtual 46, 3) := by decide +kernel
theorem dX4_cheaperPairs_31 : decode cX4_cheaperPairs 31 = .ok (.if_icmp .gt 39, 3) := by decide +kernel
theorem dX4_cheaperPairs_34 : decode cX4_cheaperPairs 34 = .ok (.iload_n 3, 1) := by decide +kernel
theorem dX4_cheaperPairs_35 : decode cX4_cheaperPairs 35 = .ok (.aload_n 0, 1) := by decide +kernel
theorem dX4_cheaperPairs_36 : decode cX4_cheaperPairs 36 = .ok (.iload 4, 2) := by decide +kernel
theorem dX4_cheaperPairs_38 : decode cX4_cheaperPairs 38 = .ok (.iload_n 1, 1) := by decide +kernel
theorem dX4_cheaperPairs_39 : decode cX4_cheaperPairs 39 = .ok (.invokevirtual 111, 3) := by decide +kernel
theorem dX4_cheaperPairs_42 : decode cX4_cheaperPairs 42 = .ok (.aload_n 0, 1) := by decide +kernel
theorem dX4_cheaperPairs_43 : decode cX4_cheaperPairs 43 = .ok (.iload 4, 2) := by decide +kernel
theorem dX4_cheaperPairs_45 : decode cX4_cheaperPairs 45 = .ok (.iload_n 2, 1) := by decide +kernel
theorem dX4_cheaperPairs_46 : decode cX4_cheaperPairs 46 = .ok (.invokevirtual 111, 3) := by decide +kernel
theorem dX4_cheaperPairs_49 : decode cX4_cheaperPairs 49 = .ok (.if_icmp .ge 12, 3) := by decide +kernel
theorem dX4_cheaperPairs_52 : decode cX4_cheaperPairs 52 = .ok (.aload_n 0, 1) := by decide +kernel
theorem dX4_cheaperPairs_53 : decode cX4_cheaperPairs 53 = .ok (.invokevirtual 46, 3) := by decide +kernel
theorem dX4_cheaperPairs_56 : decode cX4_cheaperPairs 56 = .ok (.iconst 1, 1) := by decide +kernel
theorem dX4_cheaperPairs_57 : decode cX4_cheaperPairs 57 = .ok (.iadd, 1) := by decide +kernel
theorem dX4_cheaperPairs_58 : decode cX4_cheaperPairs 58 = .ok (.goto 4, 3) := by decide +kernel
theorem dX4_cheaperPairs_61 : decode cX4_cheaperPairs 61 = .ok (.iconst 0, 1) := by decide +kernel
theorem dX4_cheaperPairs_62 : decode cX4_cheaperPairs 62 = .ok (.iadd, 1) := by decide +kernel
theorem dX4_cheaperPairs_63 : decode cX4_cheaperPairs 63 = .ok (.istore_n 3, 1) := by decide +kernel
theorem dX4_cheaperPairs_64 : decode cX4_cheaperPairs 64 = .ok (.iinc 4 1, 3) := by decide +kernel
theorem dX4_cheaperPairs_67 : decode cX4_cheaperPairs 67 = .ok (.goto (-42), 3) := by decide +kernel
theorem dX4_cheaperPairs_70 : decode cX4_cheaperPairs 70 = .ok (.aload_n 0, 1) := by decide +kernel
theorem dX4_cheaperPairs_71 : decode cX4_cheaperPairs 71 = .ok (.iload_n 3, 1) := by decide +kernel
theorem dX4_cheaperPairs_72 : decode cX4_cheaperPairs 72 = .ok (.invokevirtual 65, 3) := by decide +kernel
theorem dX4_cheaperPairs_75 : decode cX4_cheaperPairs 75 = .ok (.ireturn, 1) := by decide +kernel
set_option maxRecDepth 20000 in
theorem ggX4_append_X4_in : GoodIn wsX4_append wsX4_in := goodIn_r _ [6] (by decide +kernel) (by decide +kernel)
set_option maxRecDepth 20000 in
theorem gX4_append_X4_in : GoodIn wsX4_append (va_wsS RX4 55 yX4_in wsX4_in) := goodIn_app (goodIn_of _ (by decide +kernel)) ggX4_append_X4_in
set_option maxRecDepth 20000 in
theorem ggX4_append_X4_fails : GoodIn wsX4_append wsX4_fails := goodIn_r _ [10, 11, 16, 17, 18, 19, 20, 21, 22, 23, 24, 25, 26] (by decide +kernel) (by decide +kernel)
set_option maxRecDepth 20000 in
theorem gX4_append_X4_fails : GoodIn wsX4_append (wsV RX4 62 RX4 yX4_fails wsX4_fails) := goodIn_app (goodIn_of _ (by decide +kernel)) ggX4_append_X4_fails
set_option maxRecDepth 20000 in
theorem ggX4_append_X4_tells : GoodIn wsX4_append wsX4_tells := goodIn_r _ [15, 11, 16, 17, 18, 19, 20, 21, 22, 23, 24, 25, 26] (by decide +kernel) (by decide +kernel)
set_option maxRecDepth 20000 in
theorem gX4_append_X4_tells : GoodIn wsX4_append (wsV RX4 65 RX4 yX4_tells wsX4_tells) := goodIn_app (goodIn_of _ (by decide +kernel)) ggX4_append_X4_tells
theorem dX4_append_0 : decode cX4_append 0 = .ok (.iload_n 1, 1) := by decide +kernel
theorem dX4_append_1 : decode cX4_append 1 = .ok (.iconst 0, 1) := by decide +kernel
theorem dX4_append_2 : decode cX4_append 2 = .ok (.bipush 127, 2) := by decide +kernel
theorem dX4_append_4 : decode cX4_append 4 = .ok (.invokestatic 55, 3) := by decide +kernel
theorem dX4_append_7 : decode cX4_append 7 = .ok (.ifCond .ne 9, 3) := by decide +kernel
theorem dX4_append_10 : decode cX4_append 10 = .ok (.aload_n 0, 1) := by decide +kernel
theorem dX4_append_11 : decode cX4_append 11 = .ok (.iconst 1, 1) := by decide +kernel
theorem dX4_append_12 : decode cX4_append 12 = .ok (.invokevirtual 62, 3) := by decide +kernel
theorem dX4_append_15 : decode cX4_append 15 = .ok (.ireturn, 1) := by decide +kernel
theorem dX4_append_16 : decode cX4_append 16 = .ok (.aload_n 0, 1) := by decide +kernel
theorem dX4_append_17 : decode cX4_append 17 = .ok (.getfield 138, 3) := by decide +kernel
theorem dX4_append_20 : decode cX4_append 20 = .ok (.bipush 100, 2) := by decide +kernel
theorem dX4_append_22 : decode cX4_append 22 = .ok (.if_icmp .ne 9, 3) := by decide +kernel
theorem dX4_append_25 : decode cX4_append 25 = .ok (.aload_n 0, 1) := by decide +kernel
theorem dX4_append_26 : decode cX4_append 26 = .ok (.iconst 2, 1) := by decide +kernel
theorem dX4_append_27 : decode cX4_append 27 = .ok (.invokevirtual 62, 3) := by decide +kernel
theorem dX4_append_30 : decode cX4_append 30 = .ok (.ireturn, 1) := by decide +kernel
theorem dX4_append_31 : decode cX4_append 31 = .ok (.aload_n 0, 1) := by decide +kernel
theorem dX4_append_32 : decode cX4_append 32 = .ok (.getfield 20, 3) := by decide +kernel
theorem dX4_append_35 : decode cX4_append 35 = .ok (.aload_n 0, 1) := by decide +kernel
theorem dX4_append_36 : decode cX4_append 36 = .ok (.getfield 138, 3) := by decide +kernel
theorem dX4_append_39 : decode cX4_append 39 = .ok (.iload_n 1, 1) := by decide +kernel
theorem dX4_append_40 : decode cX4_append 40 = .ok (.iastore, 1) := by decide +kernel
theorem dX4_append_41 : decode cX4_append 41 = .ok (.aload_n 0, 1) := by decide +kernel
theorem dX4_append_42 : decode cX4_append 42 = .ok (.dup, 1) := by decide +kernel
theorem dX4_append_43 : decode cX4_append 43 = .ok (.getfield 138, 3) := by decide +kernel
theorem dX4_append_46 : decode cX4_append 46 = .ok (.iconst 1, 1) := by decide +kernel
theorem dX4_append_47 : decode cX4_append 47 = .ok (.iadd, 1) := by decide +kernel
theorem dX4_append_48 : decode cX4_append 48 = .ok (.putfield 138, 3) := by decide +kernel
theorem dX4_append_51 : decode cX4_append 51 = .ok (.aload_n 0, 1) := by decide +kernel
theorem dX4_append_52 : decode cX4_append 52 = .ok (.aload_n 0, 1) := by decide +kernel
theorem dX4_append_53 : decode cX4_append 53 = .ok (.getfield 138, 3) := by decide +kernel
theorem dX4_append_56 : decode cX4_append 56 = .ok (.invokevirtual 65, 3) := by decide +kernel
theorem dX4_append_59 : decode cX4_append 59 = .ok (.ireturn, 1) := by decide +kernel
set_option maxRecDepth 20000 in
theorem ggX4_clearText_X4_tells : GoodIn wsX4_clearText wsX4_tells := goodIn_r _ [6, 7, 8, 9, 10, 11, 12, 13, 14, 15, 16, 17, 18] (by decide +kernel) (by decide +kernel)
set_option maxRecDepth 20000 in
theorem gX4_clearText_X4_tells : GoodIn wsX4_clearText (wsV RX4 65 RX4 yX4_tells wsX4_tells) := goodIn_app (goodIn_of _ (by decide +kernel)) ggX4_clearText_X4_tells
theorem dX4_clearText_0 : decode cX4_clearText 0 = .ok (.aload_n 0, 1) := by decide +kernel
theorem dX4_clearText_1 : decode cX4_clearText 1 = .ok (.getfield 138, 3) := by decide +kernel
theorem dX4_clearText_4 : decode cX4_clearText 4 = .ok (.istore_n 1, 1) := by decide +kernel
theorem dX4_clearText_5 : decode cX4_clearText 5 = .ok (.aload_n 0, 1) := by decide +kernel
theorem dX4_clearText_6 : decode cX4_clearText 6 = .ok (.iconst 0, 1) := by decide +kernel
theorem dX4_clearText_7 : decode cX4_clearText 7 = .ok (.putfield 138, 3) := by decide +kernel
theorem dX4_clearText_10 : decode cX4_clearText 10 = .ok (.aload_n 0, 1) := by decide +kernel
theorem dX4_clearText_11 : decode cX4_clearText 11 = .ok (.iload_n 1, 1) := by decide +kernel
theorem dX4_clearText_12 : decode cX4_clearText 12 = .ok (.invokevirtual 65, 3) := by decide +kernel
theorem dX4_clearText_15 : decode cX4_clearText 15 = .ok (.ireturn, 1) := by decide +kernel
set_option maxRecDepth 20000 in
theorem ggX4_sees_X4_in : GoodIn wsX4_sees wsX4_in := goodIn_r _ [7] (by decide +kernel) (by decide +kernel)
set_option maxRecDepth 20000 in
theorem gX4_sees_X4_in : GoodIn wsX4_sees (va_wsS RX4 55 yX4_in wsX4_in) := goodIn_app (goodIn_of _ (by decide +kernel)) ggX4_sees_X4_in
theorem dX4_sees_0 : decode cX4_sees 0 = .ok (.aload_n 0, 1) := by decide +kernel
theorem dX4_sees_1 : decode cX4_sees 1 = .ok (.getfield 141, 3) := by decide +kernel
theorem dX4_sees_4 : decode cX4_sees 4 = .ok (.aload_n 0, 1) := by decide +kernel
theorem dX4_sees_5 : decode cX4_sees 5 = .ok (.getfield 138, 3) := by decide +kernel
theorem dX4_sees_8 : decode cX4_sees 8 = .ok (.if_icmp .ge 24, 3) := by decide +kernel
theorem dX4_sees_11 : decode cX4_sees 11 = .ok (.aload_n 0, 1) := by decide +kernel
theorem dX4_sees_12 : decode cX4_sees 12 = .ok (.getfield 20, 3) := by decide +kernel
theorem dX4_sees_15 : decode cX4_sees 15 = .ok (.aload_n 0, 1) := by decide +kernel
theorem dX4_sees_16 : decode cX4_sees 16 = .ok (.getfield 141, 3) := by decide +kernel
theorem dX4_sees_19 : decode cX4_sees 19 = .ok (.iaload, 1) := by decide +kernel
theorem dX4_sees_20 : decode cX4_sees 20 = .ok (.iload_n 1, 1) := by decide +kernel
theorem dX4_sees_21 : decode cX4_sees 21 = .ok (.iload_n 2, 1) := by decide +kernel
theorem dX4_sees_22 : decode cX4_sees 22 = .ok (.invokestatic 55, 3) := by decide +kernel
theorem dX4_sees_25 : decode cX4_sees 25 = .ok (.ifCond .eq 7, 3) := by decide +kernel
theorem dX4_sees_28 : decode cX4_sees 28 = .ok (.iconst 1, 1) := by decide +kernel
theorem dX4_sees_29 : decode cX4_sees 29 = .ok (.goto 4, 3) := by decide +kernel
theorem dX4_sees_32 : decode cX4_sees 32 = .ok (.iconst 0, 1) := by decide +kernel
theorem dX4_sees_33 : decode cX4_sees 33 = .ok (.ireturn, 1) := by decide +kernel
set_option maxRecDepth 20000 in
theorem ggX4_passes_X4_sees : GoodIn wsX4_passes wsX4_sees := goodIn_r _ [6, 1, 7, 8, 9, 10, 5, 11, 12, 13, 14, 15, 16, 17, 18, 19, 20, 21, 22] (by decide +kernel) (by decide +kernel)
set_option maxRecDepth 20000 in
theorem gX4_passes_X4_sees : GoodIn wsX4_passes (wsV RX4 144 RX4 yX4_sees wsX4_sees) := goodIn_app (goodIn_of _ (by decide +kernel)) ggX4_passes_X4_sees
theorem dX4_passes_0 : decode cX4_passes 0 = .ok (.aload_n 0, 1) := by decide +kernel
