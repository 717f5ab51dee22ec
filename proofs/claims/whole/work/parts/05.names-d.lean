theorem dX4_passes_1 : decode cX4_passes 1 = .ok (.iload_n 1, 1) := by decide +kernel
theorem dX4_passes_2 : decode cX4_passes 2 = .ok (.iload_n 2, 1) := by decide +kernel
theorem dX4_passes_3 : decode cX4_passes 3 = .ok (.invokevirtual 144, 3) := by decide +kernel
theorem dX4_passes_6 : decode cX4_passes 6 = .ok (.istore_n 3, 1) := by decide +kernel
theorem dX4_passes_7 : decode cX4_passes 7 = .ok (.aload_n 0, 1) := by decide +kernel
theorem dX4_passes_8 : decode cX4_passes 8 = .ok (.dup, 1) := by decide +kernel
theorem dX4_passes_9 : decode cX4_passes 9 = .ok (.getfield 141, 3) := by decide +kernel
theorem dX4_passes_12 : decode cX4_passes 12 = .ok (.iload_n 3, 1) := by decide +kernel
theorem dX4_passes_13 : decode cX4_passes 13 = .ok (.ifCond .eq 7, 3) := by decide +kernel
theorem dX4_passes_16 : decode cX4_passes 16 = .ok (.iconst 1, 1) := by decide +kernel
theorem dX4_passes_17 : decode cX4_passes 17 = .ok (.goto 4, 3) := by decide +kernel
theorem dX4_passes_20 : decode cX4_passes 20 = .ok (.iconst 0, 1) := by decide +kernel
theorem dX4_passes_21 : decode cX4_passes 21 = .ok (.iadd, 1) := by decide +kernel
theorem dX4_passes_22 : decode cX4_passes 22 = .ok (.putfield 141, 3) := by decide +kernel
theorem dX4_passes_25 : decode cX4_passes 25 = .ok (.iload_n 3, 1) := by decide +kernel
theorem dX4_passes_26 : decode cX4_passes 26 = .ok (.ireturn, 1) := by decide +kernel
set_option maxRecDepth 20000 in
theorem ggX4_number_X4_sees : GoodIn wsX4_number wsX4_sees := goodIn_r _ [7, 2, 8, 1, 9, 10, 6, 11, 12, 13, 14, 15, 16, 17, 18, 19, 20, 21, 22] (by decide +kernel) (by decide +kernel)
set_option maxRecDepth 20000 in
theorem gX4_number_X4_sees : GoodIn wsX4_number (wsV RX4 144 RX4 yX4_sees wsX4_sees) := goodIn_app (goodIn_of _ (by decide +kernel)) ggX4_number_X4_sees
theorem dX4_number_0 : decode cX4_number 0 = .ok (.iconst 0, 1) := by decide +kernel
theorem dX4_number_1 : decode cX4_number 1 = .ok (.istore_n 1, 1) := by decide +kernel
theorem dX4_number_2 : decode cX4_number 2 = .ok (.iconst 0, 1) := by decide +kernel
theorem dX4_number_3 : decode cX4_number 3 = .ok (.istore_n 2, 1) := by decide +kernel
theorem dX4_number_4 : decode cX4_number 4 = .ok (.iload_n 2, 1) := by decide +kernel
theorem dX4_number_5 : decode cX4_number 5 = .ok (.iconst 3, 1) := by decide +kernel
theorem dX4_number_6 : decode cX4_number 6 = .ok (.if_icmp .ge 48, 3) := by decide +kernel
theorem dX4_number_9 : decode cX4_number 9 = .ok (.aload_n 0, 1) := by decide +kernel
theorem dX4_number_10 : decode cX4_number 10 = .ok (.bipush 48, 2) := by decide +kernel
theorem dX4_number_12 : decode cX4_number 12 = .ok (.bipush 57, 2) := by decide +kernel
theorem dX4_number_14 : decode cX4_number 14 = .ok (.invokevirtual 144, 3) := by decide +kernel
theorem dX4_number_17 : decode cX4_number 17 = .ok (.ifCond .eq 37, 3) := by decide +kernel
theorem dX4_number_20 : decode cX4_number 20 = .ok (.bipush 10, 2) := by decide +kernel
theorem dX4_number_22 : decode cX4_number 22 = .ok (.iload_n 1, 1) := by decide +kernel
theorem dX4_number_23 : decode cX4_number 23 = .ok (.imul, 1) := by decide +kernel
theorem dX4_number_24 : decode cX4_number 24 = .ok (.aload_n 0, 1) := by decide +kernel
theorem dX4_number_25 : decode cX4_number 25 = .ok (.getfield 20, 3) := by decide +kernel
theorem dX4_number_28 : decode cX4_number 28 = .ok (.aload_n 0, 1) := by decide +kernel
theorem dX4_number_29 : decode cX4_number 29 = .ok (.getfield 141, 3) := by decide +kernel
theorem dX4_number_32 : decode cX4_number 32 = .ok (.iaload, 1) := by decide +kernel
theorem dX4_number_33 : decode cX4_number 33 = .ok (.iadd, 1) := by decide +kernel
theorem dX4_number_34 : decode cX4_number 34 = .ok (.bipush 48, 2) := by decide +kernel
theorem dX4_number_36 : decode cX4_number 36 = .ok (.isub, 1) := by decide +kernel
theorem dX4_number_37 : decode cX4_number 37 = .ok (.istore_n 1, 1) := by decide +kernel
theorem dX4_number_38 : decode cX4_number 38 = .ok (.aload_n 0, 1) := by decide +kernel
theorem dX4_number_39 : decode cX4_number 39 = .ok (.dup, 1) := by decide +kernel
theorem dX4_number_40 : decode cX4_number 40 = .ok (.getfield 141, 3) := by decide +kernel
theorem dX4_number_43 : decode cX4_number 43 = .ok (.iconst 1, 1) := by decide +kernel
theorem dX4_number_44 : decode cX4_number 44 = .ok (.iadd, 1) := by decide +kernel
theorem dX4_number_45 : decode cX4_number 45 = .ok (.putfield 141, 3) := by decide +kernel
theorem dX4_number_48 : decode cX4_number 48 = .ok (.iinc 2 1, 3) := by decide +kernel
theorem dX4_number_51 : decode cX4_number 51 = .ok (.goto (-47), 3) := by decide +kernel
theorem dX4_number_54 : decode cX4_number 54 = .ok (.iload_n 1, 1) := by decide +kernel
theorem dX4_number_55 : decode cX4_number 55 = .ok (.ireturn, 1) := by decide +kernel
set_option maxRecDepth 20000 in
theorem ggX4_passesSign_X4_passes : GoodIn wsX4_passesSign wsX4_passes := goodIn_r _ [5, 6, 7, 8, 9, 4, 10, 11, 12, 13, 14, 15, 16, 17, 18, 19, 20, 21, 22, 23, 24, 25, 26] (by decide +kernel) (by decide +kernel)
set_option maxRecDepth 20000 in
theorem gX4_passesSign_X4_passes : GoodIn wsX4_passesSign (wsV RX4 147 RX4 yX4_passes wsX4_passes) := goodIn_app (goodIn_of _ (by decide +kernel)) ggX4_passesSign_X4_passes
theorem dX4_passesSign_0 : decode cX4_passesSign 0 = .ok (.aload_n 0, 1) := by decide +kernel
theorem dX4_passesSign_1 : decode cX4_passesSign 1 = .ok (.bipush 42, 2) := by decide +kernel
theorem dX4_passesSign_3 : decode cX4_passesSign 3 = .ok (.bipush 42, 2) := by decide +kernel
theorem dX4_passesSign_5 : decode cX4_passesSign 5 = .ok (.invokevirtual 147, 3) := by decide +kernel
theorem dX4_passesSign_8 : decode cX4_passesSign 8 = .ok (.ifCond .ne 58, 3) := by decide +kernel
theorem dX4_passesSign_11 : decode cX4_passesSign 11 = .ok (.aload_n 0, 1) := by decide +kernel
theorem dX4_passesSign_12 : decode cX4_passesSign 12 = .ok (.bipush 120, 2) := by decide +kernel
theorem dX4_passesSign_14 : decode cX4_passesSign 14 = .ok (.bipush 120, 2) := by decide +kernel
theorem dX4_passesSign_16 : decode cX4_passesSign 16 = .ok (.invokevirtual 147, 3) := by decide +kernel
theorem dX4_passesSign_19 : decode cX4_passesSign 19 = .ok (.ifCond .ne 47, 3) := by decide +kernel
theorem dX4_passesSign_22 : decode cX4_passesSign 22 = .ok (.aload_n 0, 1) := by decide +kernel
theorem dX4_passesSign_23 : decode cX4_passesSign 23 = .ok (.bipush 35, 2) := by decide +kernel
theorem dX4_passesSign_25 : decode cX4_passesSign 25 = .ok (.bipush 35, 2) := by decide +kernel
theorem dX4_passesSign_27 : decode cX4_passesSign 27 = .ok (.invokevirtual 147, 3) := by decide +kernel
theorem dX4_passesSign_30 : decode cX4_passesSign 30 = .ok (.ifCond .ne 36, 3) := by decide +kernel
theorem dX4_passesSign_33 : decode cX4_passesSign 33 = .ok (.aload_n 0, 1) := by decide +kernel
theorem dX4_passesSign_34 : decode cX4_passesSign 34 = .ok (.bipush 43, 2) := by decide +kernel
theorem dX4_passesSign_36 : decode cX4_passesSign 36 = .ok (.bipush 43, 2) := by decide +kernel
theorem dX4_passesSign_38 : decode cX4_passesSign 38 = .ok (.invokevirtual 147, 3) := by decide +kernel
theorem dX4_passesSign_41 : decode cX4_passesSign 41 = .ok (.ifCond .ne 25, 3) := by decide +kernel
theorem dX4_passesSign_44 : decode cX4_passesSign 44 = .ok (.aload_n 0, 1) := by decide +kernel
theorem dX4_passesSign_45 : decode cX4_passesSign 45 = .ok (.bipush 45, 2) := by decide +kernel
theorem dX4_passesSign_47 : decode cX4_passesSign 47 = .ok (.bipush 45, 2) := by decide +kernel
theorem dX4_passesSign_49 : decode cX4_passesSign 49 = .ok (.invokevirtual 147, 3) := by decide +kernel
theorem dX4_passesSign_52 : decode cX4_passesSign 52 = .ok (.ifCond .ne 14, 3) := by decide +kernel
theorem dX4_passesSign_55 : decode cX4_passesSign 55 = .ok (.aload_n 0, 1) := by decide +kernel
theorem dX4_passesSign_56 : decode cX4_passesSign 56 = .ok (.bipush 62, 2) := by decide +kernel
theorem dX4_passesSign_58 : decode cX4_passesSign 58 = .ok (.bipush 62, 2) := by decide +kernel
theorem dX4_passesSign_60 : decode cX4_passesSign 60 = .ok (.invokevirtual 147, 3) := by decide +kernel
theorem dX4_passesSign_63 : decode cX4_passesSign 63 = .ok (.ifCond .eq 7, 3) := by decide +kernel
theorem dX4_passesSign_66 : decode cX4_passesSign 66 = .ok (.iconst 1, 1) := by decide +kernel
theorem dX4_passesSign_67 : decode cX4_passesSign 67 = .ok (.goto 4, 3) := by decide +kernel
theorem dX4_passesSign_70 : decode cX4_passesSign 70 = .ok (.iconst 0, 1) := by decide +kernel
theorem dX4_passesSign_71 : decode cX4_passesSign 71 = .ok (.ireturn, 1) := by decide +kernel
set_option maxRecDepth 20000 in
theorem ggX4_faultOfOne_X4_passes : GoodIn wsX4_faultOfOne wsX4_passes := goodIn_r _ [6, 1, 7, 8, 9, 5, 10, 11, 12, 13, 14, 15, 24, 25, 26, 27, 28, 29, 30, 31, 32, 33, 34] (by decide +kernel) (by decide +kernel)
set_option maxRecDepth 20000 in
theorem gX4_faultOfOne_X4_passes : GoodIn wsX4_faultOfOne (wsV RX4 147 RX4 yX4_passes wsX4_passes) := goodIn_app (goodIn_of _ (by decide +kernel)) ggX4_faultOfOne_X4_passes
set_option maxRecDepth 20000 in
theorem ggX4_faultOfOne_X4_sees : GoodIn wsX4_faultOfOne wsX4_sees := goodIn_r _ [10, 1, 11, 12, 13, 14, 5, 15, 24, 25, 26, 27, 28, 29, 30, 31, 32, 33, 34] (by decide +kernel) (by decide +kernel)
set_option maxRecDepth 20000 in
theorem gX4_faultOfOne_X4_sees : GoodIn wsX4_faultOfOne (wsV RX4 144 RX4 yX4_sees wsX4_sees) := goodIn_app (goodIn_of _ (by decide +kernel)) ggX4_faultOfOne_X4_sees
set_option maxRecDepth 20000 in
theorem ggX4_faultOfOne_X4_number : GoodIn wsX4_faultOfOne wsX4_number := goodIn_r _ [19, 12, 1, 7, 8, 9, 5, 10, 11, 13, 14, 15, 24, 25, 26, 27, 28, 29, 30, 31, 32, 33, 34] (by decide +kernel) (by decide +kernel)
set_option maxRecDepth 20000 in
theorem gX4_faultOfOne_X4_number : GoodIn wsX4_faultOfOne (wsV RX4 150 RX4 yX4_number wsX4_number) := goodIn_app (goodIn_of _ (by decide +kernel)) ggX4_faultOfOne_X4_number
set_option maxRecDepth 20000 in
theorem ggX4_faultOfOne_X4_passesSign : GoodIn wsX4_faultOfOne wsX4_passesSign := goodIn_r _ [23, 2, 3, 4, 5, 6, 1, 7, 8, 9, 10, 11, 12, 13, 14, 15, 24, 25, 26, 27, 28, 29, 30, 31, 32, 33, 34] (by decide +kernel) (by decide +kernel)
set_option maxRecDepth 20000 in
theorem gX4_faultOfOne_X4_passesSign : GoodIn wsX4_faultOfOne (wsV RX4 153 RX4 yX4_passesSign wsX4_passesSign) := goodIn_app (goodIn_of _ (by decide +kernel)) ggX4_faultOfOne_X4_passesSign
theorem dX4_faultOfOne_0 : decode cX4_faultOfOne 0 = .ok (.aload_n 0, 1) := by decide +kernel
theorem dX4_faultOfOne_1 : decode cX4_faultOfOne 1 = .ok (.bipush 97, 2) := by decide +kernel
theorem dX4_faultOfOne_3 : decode cX4_faultOfOne 3 = .ok (.bipush 104, 2) := by decide +kernel
theorem dX4_faultOfOne_5 : decode cX4_faultOfOne 5 = .ok (.invokevirtual 147, 3) := by decide +kernel
theorem dX4_faultOfOne_8 : decode cX4_faultOfOne 8 = .ok (.ifCond .eq 14, 3) := by decide +kernel
theorem dX4_faultOfOne_11 : decode cX4_faultOfOne 11 = .ok (.aload_n 0, 1) := by decide +kernel
theorem dX4_faultOfOne_12 : decode cX4_faultOfOne 12 = .ok (.bipush 61, 2) := by decide +kernel
theorem dX4_faultOfOne_14 : decode cX4_faultOfOne 14 = .ok (.bipush 61, 2) := by decide +kernel
theorem dX4_faultOfOne_16 : decode cX4_faultOfOne 16 = .ok (.invokevirtual 147, 3) := by decide +kernel
theorem dX4_faultOfOne_19 : decode cX4_faultOfOne 19 = .ok (.ifCond .ne 8, 3) := by decide +kernel
theorem dX4_faultOfOne_22 : decode cX4_faultOfOne 22 = .ok (.aload_n 0, 1) := by decide +kernel
theorem dX4_faultOfOne_23 : decode cX4_faultOfOne 23 = .ok (.getfield 141, 3) := by decide +kernel
theorem dX4_faultOfOne_26 : decode cX4_faultOfOne 26 = .ok (.ireturn, 1) := by decide +kernel
theorem dX4_faultOfOne_27 : decode cX4_faultOfOne 27 = .ok (.aload_n 0, 1) := by decide +kernel
theorem dX4_faultOfOne_28 : decode cX4_faultOfOne 28 = .ok (.bipush 48, 2) := by decide +kernel
theorem dX4_faultOfOne_30 : decode cX4_faultOfOne 30 = .ok (.bipush 57, 2) := by decide +kernel
theorem dX4_faultOfOne_32 : decode cX4_faultOfOne 32 = .ok (.invokevirtual 144, 3) := by decide +kernel
theorem dX4_faultOfOne_35 : decode cX4_faultOfOne 35 = .ok (.ifCond .eq 36, 3) := by decide +kernel
theorem dX4_faultOfOne_38 : decode cX4_faultOfOne 38 = .ok (.aload_n 0, 1) := by decide +kernel
theorem dX4_faultOfOne_39 : decode cX4_faultOfOne 39 = .ok (.getfield 141, 3) := by decide +kernel
theorem dX4_faultOfOne_42 : decode cX4_faultOfOne 42 = .ok (.istore_n 1, 1) := by decide +kernel
theorem dX4_faultOfOne_43 : decode cX4_faultOfOne 43 = .ok (.aload_n 0, 1) := by decide +kernel
theorem dX4_faultOfOne_44 : decode cX4_faultOfOne 44 = .ok (.invokevirtual 150, 3) := by decide +kernel
theorem dX4_faultOfOne_47 : decode cX4_faultOfOne 47 = .ok (.istore_n 2, 1) := by decide +kernel
theorem dX4_faultOfOne_48 : decode cX4_faultOfOne 48 = .ok (.iload_n 2, 1) := by decide +kernel
theorem dX4_faultOfOne_49 : decode cX4_faultOfOne 49 = .ok (.sipush 255, 3) := by decide +kernel
theorem dX4_faultOfOne_52 : decode cX4_faultOfOne 52 = .ok (.if_icmp .le 16, 3) := by decide +kernel
theorem dX4_faultOfOne_55 : decode cX4_faultOfOne 55 = .ok (.aload_n 0, 1) := by decide +kernel
theorem dX4_faultOfOne_56 : decode cX4_faultOfOne 56 = .ok (.bipush 48, 2) := by decide +kernel
theorem dX4_faultOfOne_58 : decode cX4_faultOfOne 58 = .ok (.bipush 57, 2) := by decide +kernel
theorem dX4_faultOfOne_60 : decode cX4_faultOfOne 60 = .ok (.invokevirtual 144, 3) := by decide +kernel
theorem dX4_faultOfOne_63 : decode cX4_faultOfOne 63 = .ok (.ifCond .ne 5, 3) := by decide +kernel
theorem dX4_faultOfOne_66 : decode cX4_faultOfOne 66 = .ok (.iload_n 1, 1) := by decide +kernel
theorem dX4_faultOfOne_67 : decode cX4_faultOfOne 67 = .ok (.ireturn, 1) := by decide +kernel
theorem dX4_faultOfOne_68 : decode cX4_faultOfOne 68 = .ok (.goto 37, 3) := by decide +kernel
theorem dX4_faultOfOne_71 : decode cX4_faultOfOne 71 = .ok (.aload_n 0, 1) := by decide +kernel
theorem dX4_faultOfOne_72 : decode cX4_faultOfOne 72 = .ok (.bipush 97, 2) := by decide +kernel
theorem dX4_faultOfOne_74 : decode cX4_faultOfOne 74 = .ok (.bipush 104, 2) := by decide +kernel
theorem dX4_faultOfOne_76 : decode cX4_faultOfOne 76 = .ok (.invokevirtual 147, 3) := by decide +kernel
theorem dX4_faultOfOne_79 : decode cX4_faultOfOne 79 = .ok (.ifCond .eq 21, 3) := by decide +kernel
theorem dX4_faultOfOne_82 : decode cX4_faultOfOne 82 = .ok (.aload_n 0, 1) := by decide +kernel
theorem dX4_faultOfOne_83 : decode cX4_faultOfOne 83 = .ok (.invokevirtual 153, 3) := by decide +kernel
theorem dX4_faultOfOne_86 : decode cX4_faultOfOne 86 = .ok (.ifCond .eq 14, 3) := by decide +kernel
theorem dX4_faultOfOne_89 : decode cX4_faultOfOne 89 = .ok (.aload_n 0, 1) := by decide +kernel
theorem dX4_faultOfOne_90 : decode cX4_faultOfOne 90 = .ok (.bipush 97, 2) := by decide +kernel
theorem dX4_faultOfOne_92 : decode cX4_faultOfOne 92 = .ok (.bipush 104, 2) := by decide +kernel
theorem dX4_faultOfOne_94 : decode cX4_faultOfOne 94 = .ok (.invokevirtual 147, 3) := by decide +kernel
theorem dX4_faultOfOne_97 : decode cX4_faultOfOne 97 = .ok (.ifCond .ne 8, 3) := by decide +kernel
theorem dX4_faultOfOne_100 : decode cX4_faultOfOne 100 = .ok (.aload_n 0, 1) := by decide +kernel
theorem dX4_faultOfOne_101 : decode cX4_faultOfOne 101 = .ok (.getfield 141, 3) := by decide +kernel
theorem dX4_faultOfOne_104 : decode cX4_faultOfOne 104 = .ok (.ireturn, 1) := by decide +kernel
theorem dX4_faultOfOne_105 : decode cX4_faultOfOne 105 = .ok (.aload_n 0, 1) := by decide +kernel
theorem dX4_faultOfOne_106 : decode cX4_faultOfOne 106 = .ok (.bipush 59, 2) := by decide +kernel
theorem dX4_faultOfOne_108 : decode cX4_faultOfOne 108 = .ok (.bipush 59, 2) := by decide +kernel
theorem dX4_faultOfOne_110 : decode cX4_faultOfOne 110 = .ok (.invokevirtual 147, 3) := by decide +kernel
theorem dX4_faultOfOne_113 : decode cX4_faultOfOne 113 = .ok (.ifCond .eq 7, 3) := by decide +kernel
theorem dX4_faultOfOne_116 : decode cX4_faultOfOne 116 = .ok (.iconst (-1), 1) := by decide +kernel
theorem dX4_faultOfOne_117 : decode cX4_faultOfOne 117 = .ok (.goto 7, 3) := by decide +kernel
theorem dX4_faultOfOne_120 : decode cX4_faultOfOne 120 = .ok (.aload_n 0, 1) := by decide +kernel
theorem dX4_faultOfOne_121 : decode cX4_faultOfOne 121 = .ok (.getfield 141, 3) := by decide +kernel
theorem dX4_faultOfOne_124 : decode cX4_faultOfOne 124 = .ok (.ireturn, 1) := by decide +kernel
set_option maxRecDepth 20000 in
theorem ggX4_fault_X4_faultOfOne : GoodIn wsX4_fault wsX4_faultOfOne := goodIn_r _ [7, 1, 8, 9, 10, 6, 11, 12, 13, 14, 15, 2, 16, 17, 18, 19, 20, 21, 22, 23, 24, 25, 26, 27, 28, 29, 30, 31, 32, 33, 34, 35, 36, 37, 38] (by decide +kernel) (by decide +kernel)
set_option maxRecDepth 20000 in
theorem gX4_fault_X4_faultOfOne : GoodIn wsX4_fault (wsV RX4 157 RX4 yX4_faultOfOne wsX4_faultOfOne) := goodIn_app (goodIn_of _ (by decide +kernel)) ggX4_fault_X4_faultOfOne
theorem dX4_fault_0 : decode cX4_fault 0 = .ok (.aload_n 0, 1) := by decide +kernel
theorem dX4_fault_1 : decode cX4_fault 1 = .ok (.iconst 0, 1) := by decide +kernel
theorem dX4_fault_2 : decode cX4_fault 2 = .ok (.putfield 141, 3) := by decide +kernel
theorem dX4_fault_5 : decode cX4_fault 5 = .ok (.iconst (-1), 1) := by decide +kernel
theorem dX4_fault_6 : decode cX4_fault 6 = .ok (.istore_n 1, 1) := by decide +kernel
theorem dX4_fault_7 : decode cX4_fault 7 = .ok (.aload_n 0, 1) := by decide +kernel
theorem dX4_fault_8 : decode cX4_fault 8 = .ok (.getfield 141, 3) := by decide +kernel
theorem dX4_fault_11 : decode cX4_fault 11 = .ok (.aload_n 0, 1) := by decide +kernel
theorem dX4_fault_12 : decode cX4_fault 12 = .ok (.getfield 138, 3) := by decide +kernel
theorem dX4_fault_15 : decode cX4_fault 15 = .ok (.if_icmp .ge 16, 3) := by decide +kernel
theorem dX4_fault_18 : decode cX4_fault 18 = .ok (.iload_n 1, 1) := by decide +kernel
theorem dX4_fault_19 : decode cX4_fault 19 = .ok (.iconst (-1), 1) := by decide +kernel
theorem dX4_fault_20 : decode cX4_fault 20 = .ok (.if_icmp .ne 11, 3) := by decide +kernel
theorem dX4_fault_23 : decode cX4_fault 23 = .ok (.aload_n 0, 1) := by decide +kernel
theorem dX4_fault_24 : decode cX4_fault 24 = .ok (.invokevirtual 157, 3) := by decide +kernel
theorem dX4_fault_27 : decode cX4_fault 27 = .ok (.istore_n 1, 1) := by decide +kernel
theorem dX4_fault_28 : decode cX4_fault 28 = .ok (.goto (-21), 3) := by decide +kernel
theorem dX4_fault_31 : decode cX4_fault 31 = .ok (.iload_n 1, 1) := by decide +kernel
theorem dX4_fault_32 : decode cX4_fault 32 = .ok (.ireturn, 1) := by decide +kernel
set_option maxRecDepth 20000 in
theorem ggX4_by_X4_byTable : GoodIn wsX4_by wsX4_byTable := goodIn_r _ [5, 6, 16, 17, 18, 19, 20, 21, 22, 23, 24, 25, 26] (by decide +kernel) (by decide +kernel)
set_option maxRecDepth 20000 in
theorem gX4_by_X4_byTable : GoodIn wsX4_by (wsV RX4 95 RX4 yX4_byTable wsX4_byTable) := goodIn_app (goodIn_of _ (by decide +kernel)) ggX4_by_X4_byTable
set_option maxRecDepth 20000 in
theorem ggX4_by_X4_byShifts : GoodIn wsX4_by wsX4_byShifts := goodIn_r _ [9, 10, 11, 4, 12, 13, 14, 15] (by decide +kernel) (by decide +kernel)
set_option maxRecDepth 20000 in
theorem gX4_by_X4_byShifts : GoodIn wsX4_by (va_wsS RX4 98 yX4_byShifts wsX4_byShifts) := goodIn_app (goodIn_of _ (by decide +kernel)) ggX4_by_X4_byShifts
theorem dX4_by_0 : decode cX4_by 0 = .ok (.iload_n 1, 1) := by decide +kernel
theorem dX4_by_1 : decode cX4_by 1 = .ok (.lookupswitch 80 #[(35, 65), (42, 51), (43, 72), (45, 76), (120, 58)], 51) := by decide +kernel
theorem dX4_by_52 : decode cX4_by 52 = .ok (.aload_n 0, 1) := by decide +kernel
theorem dX4_by_53 : decode cX4_by 53 = .ok (.iload_n 2, 1) := by decide +kernel
theorem dX4_by_54 : decode cX4_by 54 = .ok (.iload_n 3, 1) := by decide +kernel
theorem dX4_by_55 : decode cX4_by 55 = .ok (.invokevirtual 95, 3) := by decide +kernel
theorem dX4_by_58 : decode cX4_by 58 = .ok (.ireturn, 1) := by decide +kernel
theorem dX4_by_59 : decode cX4_by 59 = .ok (.iload_n 2, 1) := by decide +kernel
theorem dX4_by_60 : decode cX4_by 60 = .ok (.iload_n 3, 1) := by decide +kernel
theorem dX4_by_61 : decode cX4_by 61 = .ok (.iconst 1, 1) := by decide +kernel
theorem dX4_by_62 : decode cX4_by 62 = .ok (.invokestatic 98, 3) := by decide +kernel
theorem dX4_by_65 : decode cX4_by 65 = .ok (.ireturn, 1) := by decide +kernel
theorem dX4_by_66 : decode cX4_by 66 = .ok (.iload_n 2, 1) := by decide +kernel
theorem dX4_by_67 : decode cX4_by 67 = .ok (.iload_n 3, 1) := by decide +kernel
theorem dX4_by_68 : decode cX4_by 68 = .ok (.iconst 2, 1) := by decide +kernel
theorem dX4_by_69 : decode cX4_by 69 = .ok (.invokestatic 98, 3) := by decide +kernel
theorem dX4_by_72 : decode cX4_by 72 = .ok (.ireturn, 1) := by decide +kernel
theorem dX4_by_73 : decode cX4_by 73 = .ok (.iload_n 2, 1) := by decide +kernel
theorem dX4_by_74 : decode cX4_by 74 = .ok (.iload_n 3, 1) := by decide +kernel
theorem dX4_by_75 : decode cX4_by 75 = .ok (.iadd, 1) := by decide +kernel
theorem dX4_by_76 : decode cX4_by 76 = .ok (.ireturn, 1) := by decide +kernel
theorem dX4_by_77 : decode cX4_by 77 = .ok (.iload_n 2, 1) := by decide +kernel
theorem dX4_by_78 : decode cX4_by 78 = .ok (.iload_n 3, 1) := by decide +kernel
theorem dX4_by_79 : decode cX4_by 79 = .ok (.isub, 1) := by decide +kernel
theorem dX4_by_80 : decode cX4_by 80 = .ok (.ireturn, 1) := by decide +kernel
theorem dX4_by_81 : decode cX4_by 81 = .ok (.iload_n 2, 1) := by decide +kernel
theorem dX4_by_82 : decode cX4_by 82 = .ok (.iload_n 3, 1) := by decide +kernel
theorem dX4_by_83 : decode cX4_by 83 = .ok (.bipush 31, 2) := by decide +kernel
theorem dX4_by_85 : decode cX4_by 85 = .ok (.if_icmp .le 8, 3) := by decide +kernel
theorem dX4_by_88 : decode cX4_by 88 = .ok (.bipush 31, 2) := by decide +kernel
theorem dX4_by_90 : decode cX4_by 90 = .ok (.goto 4, 3) := by decide +kernel
theorem dX4_by_93 : decode cX4_by 93 = .ok (.iload_n 3, 1) := by decide +kernel
theorem dX4_by_94 : decode cX4_by 94 = .ok (.ishr, 1) := by decide +kernel
theorem dX4_by_95 : decode cX4_by 95 = .ok (.ireturn, 1) := by decide +kernel
set_option maxRecDepth 20000 in
theorem ggX4_priceBy_X4_price : GoodIn wsX4_priceBy wsX4_price := goodIn_r _ [6, 1, 7, 8, 5, 9, 10, 11, 12, 13, 14, 15, 16, 17, 18, 19, 20, 21, 22, 23] (by decide +kernel) (by decide +kernel)
set_option maxRecDepth 20000 in
theorem gX4_priceBy_X4_price : GoodIn wsX4_priceBy (wsV RX4 111 RX4 yX4_price wsX4_price) := goodIn_app (goodIn_of _ (by decide +kernel)) ggX4_priceBy_X4_price
theorem dX4_priceBy_0 : decode cX4_priceBy 0 = .ok (.iload_n 1, 1) := by decide +kernel
theorem dX4_priceBy_1 : decode cX4_priceBy 1 = .ok (.lookupswitch 79 #[(35, 65), (42, 51), (43, 72), (45, 72), (120, 58)], 51) := by decide +kernel
theorem dX4_priceBy_52 : decode cX4_priceBy 52 = .ok (.aload_n 0, 1) := by decide +kernel
theorem dX4_priceBy_53 : decode cX4_priceBy 53 = .ok (.iload_n 2, 1) := by decide +kernel
theorem dX4_priceBy_54 : decode cX4_priceBy 54 = .ok (.iconst 0, 1) := by decide +kernel
theorem dX4_priceBy_55 : decode cX4_priceBy 55 = .ok (.invokevirtual 111, 3) := by decide +kernel
theorem dX4_priceBy_58 : decode cX4_priceBy 58 = .ok (.ireturn, 1) := by decide +kernel
theorem dX4_priceBy_59 : decode cX4_priceBy 59 = .ok (.aload_n 0, 1) := by decide +kernel
theorem dX4_priceBy_60 : decode cX4_priceBy 60 = .ok (.iload_n 2, 1) := by decide +kernel
theorem dX4_priceBy_61 : decode cX4_priceBy 61 = .ok (.iconst 1, 1) := by decide +kernel
theorem dX4_priceBy_62 : decode cX4_priceBy 62 = .ok (.invokevirtual 111, 3) := by decide +kernel
theorem dX4_priceBy_65 : decode cX4_priceBy 65 = .ok (.ireturn, 1) := by decide +kernel
theorem dX4_priceBy_66 : decode cX4_priceBy 66 = .ok (.aload_n 0, 1) := by decide +kernel
theorem dX4_priceBy_67 : decode cX4_priceBy 67 = .ok (.iload_n 2, 1) := by decide +kernel
theorem dX4_priceBy_68 : decode cX4_priceBy 68 = .ok (.iconst 2, 1) := by decide +kernel
theorem dX4_priceBy_69 : decode cX4_priceBy 69 = .ok (.invokevirtual 111, 3) := by decide +kernel
theorem dX4_priceBy_72 : decode cX4_priceBy 72 = .ok (.ireturn, 1) := by decide +kernel
theorem dX4_priceBy_73 : decode cX4_priceBy 73 = .ok (.aload_n 0, 1) := by decide +kernel
theorem dX4_priceBy_74 : decode cX4_priceBy 74 = .ok (.getfield 7, 3) := by decide +kernel
theorem dX4_priceBy_77 : decode cX4_priceBy 77 = .ok (.iconst 2, 1) := by decide +kernel
theorem dX4_priceBy_78 : decode cX4_priceBy 78 = .ok (.iaload, 1) := by decide +kernel
theorem dX4_priceBy_79 : decode cX4_priceBy 79 = .ok (.ireturn, 1) := by decide +kernel
theorem dX4_priceBy_80 : decode cX4_priceBy 80 = .ok (.aload_n 0, 1) := by decide +kernel
theorem dX4_priceBy_81 : decode cX4_priceBy 81 = .ok (.getfield 7, 3) := by decide +kernel
theorem dX4_priceBy_84 : decode cX4_priceBy 84 = .ok (.iconst 3, 1) := by decide +kernel
theorem dX4_priceBy_85 : decode cX4_priceBy 85 = .ok (.iaload, 1) := by decide +kernel
theorem dX4_priceBy_86 : decode cX4_priceBy 86 = .ok (.iload_n 2, 1) := by decide +kernel
theorem dX4_priceBy_87 : decode cX4_priceBy 87 = .ok (.bipush 31, 2) := by decide +kernel
theorem dX4_priceBy_89 : decode cX4_priceBy 89 = .ok (.if_icmp .le 8, 3) := by decide +kernel
theorem dX4_priceBy_92 : decode cX4_priceBy 92 = .ok (.bipush 31, 2) := by decide +kernel
theorem dX4_priceBy_94 : decode cX4_priceBy 94 = .ok (.goto 4, 3) := by decide +kernel
theorem dX4_priceBy_97 : decode cX4_priceBy 97 = .ok (.iload_n 2, 1) := by decide +kernel
theorem dX4_priceBy_98 : decode cX4_priceBy 98 = .ok (.imul, 1) := by decide +kernel
theorem dX4_priceBy_99 : decode cX4_priceBy 99 = .ok (.ireturn, 1) := by decide +kernel
set_option maxRecDepth 20000 in
theorem ggX4_runOne_X4_sees : GoodIn wsX4_runOne wsX4_sees := goodIn_r _ [8, 2, 9, 1, 10, 11, 7, 12, 46, 47, 48, 49, 50, 51, 52, 53, 54, 55, 56] (by decide +kernel) (by decide +kernel)
set_option maxRecDepth 20000 in
theorem gX4_runOne_X4_sees : GoodIn wsX4_runOne (wsV RX4 144 RX4 yX4_sees wsX4_sees) := goodIn_app (goodIn_of _ (by decide +kernel)) ggX4_runOne_X4_sees
set_option maxRecDepth 20000 in
theorem ggX4_runOne_X4_number : GoodIn wsX4_runOne wsX4_number := goodIn_r _ [16, 1, 2, 4, 5, 6, 7, 8, 9, 10, 11, 12, 46, 47, 48, 49, 50, 51, 52, 53, 54, 55, 56] (by decide +kernel) (by decide +kernel)
set_option maxRecDepth 20000 in
theorem gX4_runOne_X4_number : GoodIn wsX4_runOne (wsV RX4 150 RX4 yX4_number wsX4_number) := goodIn_app (goodIn_of _ (by decide +kernel)) ggX4_runOne_X4_number
set_option maxRecDepth 20000 in
theorem ggX4_runOne_X4_top : GoodIn wsX4_runOne wsX4_top := goodIn_r _ [20, 3, 46, 47, 48, 49, 50, 51, 52, 53, 54, 55, 56] (by decide +kernel) (by decide +kernel)
set_option maxRecDepth 20000 in
theorem gX4_runOne_X4_top : GoodIn wsX4_runOne (wsV RX4 46 RX4 yX4_top wsX4_top) := goodIn_app (goodIn_of _ (by decide +kernel)) ggX4_runOne_X4_top
set_option maxRecDepth 20000 in
theorem ggX4_runOne_X4_by : GoodIn wsX4_runOne wsX4_by := goodIn_r _ [24, 25, 26, 27, 7, 28, 3, 29, 30, 31, 32, 33, 34, 35, 36, 37, 46, 47, 48, 49, 50, 51, 52, 53, 54, 55, 56] (by decide +kernel) (by decide +kernel)
set_option maxRecDepth 20000 in
theorem gX4_runOne_X4_by : GoodIn wsX4_runOne (wsV RX4 160 RX4 yX4_by wsX4_by) := goodIn_app (goodIn_of _ (by decide +kernel)) ggX4_runOne_X4_by
set_option maxRecDepth 20000 in
theorem ggX4_runOne_X4_priceBy : GoodIn wsX4_runOne wsX4_priceBy := goodIn_r _ [41, 3, 42, 43, 44, 7, 45, 32, 33, 34, 35, 36, 37, 46, 47, 48, 49, 50, 51, 52, 53, 54, 55, 56] (by decide +kernel) (by decide +kernel)
set_option maxRecDepth 20000 in
theorem gX4_runOne_X4_priceBy : GoodIn wsX4_runOne (wsV RX4 163 RX4 yX4_priceBy wsX4_priceBy) := goodIn_app (goodIn_of _ (by decide +kernel)) ggX4_runOne_X4_priceBy
theorem dX4_runOne_0 : decode cX4_runOne 0 = .ok (.iconst 4, 1) := by decide +kernel
theorem dX4_runOne_1 : decode cX4_runOne 1 = .ok (.aload_n 0, 1) := by decide +kernel
theorem dX4_runOne_2 : decode cX4_runOne 2 = .ok (.getfield 20, 3) := by decide +kernel
theorem dX4_runOne_5 : decode cX4_runOne 5 = .ok (.aload_n 0, 1) := by decide +kernel
theorem dX4_runOne_6 : decode cX4_runOne 6 = .ok (.getfield 141, 3) := by decide +kernel
theorem dX4_runOne_9 : decode cX4_runOne 9 = .ok (.iaload, 1) := by decide +kernel
theorem dX4_runOne_10 : decode cX4_runOne 10 = .ok (.iadd, 1) := by decide +kernel
theorem dX4_runOne_11 : decode cX4_runOne 11 = .ok (.bipush 97, 2) := by decide +kernel
theorem dX4_runOne_13 : decode cX4_runOne 13 = .ok (.isub, 1) := by decide +kernel
theorem dX4_runOne_14 : decode cX4_runOne 14 = .ok (.istore_n 1, 1) := by decide +kernel
theorem dX4_runOne_15 : decode cX4_runOne 15 = .ok (.aload_n 0, 1) := by decide +kernel
theorem dX4_runOne_16 : decode cX4_runOne 16 = .ok (.dup, 1) := by decide +kernel
theorem dX4_runOne_17 : decode cX4_runOne 17 = .ok (.getfield 141, 3) := by decide +kernel
theorem dX4_runOne_20 : decode cX4_runOne 20 = .ok (.iconst 2, 1) := by decide +kernel
theorem dX4_runOne_21 : decode cX4_runOne 21 = .ok (.iadd, 1) := by decide +kernel
theorem dX4_runOne_22 : decode cX4_runOne 22 = .ok (.putfield 141, 3) := by decide +kernel
theorem dX4_runOne_25 : decode cX4_runOne 25 = .ok (.aload_n 0, 1) := by decide +kernel
theorem dX4_runOne_26 : decode cX4_runOne 26 = .ok (.bipush 48, 2) := by decide +kernel
theorem dX4_runOne_28 : decode cX4_runOne 28 = .ok (.bipush 57, 2) := by decide +kernel
theorem dX4_runOne_30 : decode cX4_runOne 30 = .ok (.invokevirtual 144, 3) := by decide +kernel
theorem dX4_runOne_33 : decode cX4_runOne 33 = .ok (.ifCond .eq 30, 3) := by decide +kernel
theorem dX4_runOne_36 : decode cX4_runOne 36 = .ok (.aload_n 0, 1) := by decide +kernel
theorem dX4_runOne_37 : decode cX4_runOne 37 = .ok (.getfield 7, 3) := by decide +kernel
theorem dX4_runOne_40 : decode cX4_runOne 40 = .ok (.iload_n 1, 1) := by decide +kernel
theorem dX4_runOne_41 : decode cX4_runOne 41 = .ok (.aload_n 0, 1) := by decide +kernel
theorem dX4_runOne_42 : decode cX4_runOne 42 = .ok (.invokevirtual 150, 3) := by decide +kernel
theorem dX4_runOne_45 : decode cX4_runOne 45 = .ok (.aload_n 0, 1) := by decide +kernel
theorem dX4_runOne_46 : decode cX4_runOne 46 = .ok (.invokevirtual 46, 3) := by decide +kernel
theorem dX4_runOne_49 : decode cX4_runOne 49 = .ok (.iand, 1) := by decide +kernel
theorem dX4_runOne_50 : decode cX4_runOne 50 = .ok (.iastore, 1) := by decide +kernel
theorem dX4_runOne_51 : decode cX4_runOne 51 = .ok (.aload_n 0, 1) := by decide +kernel
theorem dX4_runOne_52 : decode cX4_runOne 52 = .ok (.dup, 1) := by decide +kernel
theorem dX4_runOne_53 : decode cX4_runOne 53 = .ok (.getfield 141, 3) := by decide +kernel
theorem dX4_runOne_56 : decode cX4_runOne 56 = .ok (.iconst 1, 1) := by decide +kernel
theorem dX4_runOne_57 : decode cX4_runOne 57 = .ok (.iadd, 1) := by decide +kernel
theorem dX4_runOne_58 : decode cX4_runOne 58 = .ok (.putfield 141, 3) := by decide +kernel
theorem dX4_runOne_61 : decode cX4_runOne 61 = .ok (.iconst 0, 1) := by decide +kernel
theorem dX4_runOne_62 : decode cX4_runOne 62 = .ok (.ireturn, 1) := by decide +kernel
theorem dX4_runOne_63 : decode cX4_runOne 63 = .ok (.aload_n 0, 1) := by decide +kernel
theorem dX4_runOne_64 : decode cX4_runOne 64 = .ok (.getfield 7, 3) := by decide +kernel
theorem dX4_runOne_67 : decode cX4_runOne 67 = .ok (.iconst 4, 1) := by decide +kernel
theorem dX4_runOne_68 : decode cX4_runOne 68 = .ok (.aload_n 0, 1) := by decide +kernel
theorem dX4_runOne_69 : decode cX4_runOne 69 = .ok (.getfield 20, 3) := by decide +kernel
theorem dX4_runOne_72 : decode cX4_runOne 72 = .ok (.aload_n 0, 1) := by decide +kernel
theorem dX4_runOne_73 : decode cX4_runOne 73 = .ok (.getfield 141, 3) := by decide +kernel
theorem dX4_runOne_76 : decode cX4_runOne 76 = .ok (.iaload, 1) := by decide +kernel
theorem dX4_runOne_77 : decode cX4_runOne 77 = .ok (.iadd, 1) := by decide +kernel
theorem dX4_runOne_78 : decode cX4_runOne 78 = .ok (.bipush 97, 2) := by decide +kernel
theorem dX4_runOne_80 : decode cX4_runOne 80 = .ok (.isub, 1) := by decide +kernel
theorem dX4_runOne_81 : decode cX4_runOne 81 = .ok (.iaload, 1) := by decide +kernel
theorem dX4_runOne_82 : decode cX4_runOne 82 = .ok (.istore_n 2, 1) := by decide +kernel
theorem dX4_runOne_83 : decode cX4_runOne 83 = .ok (.aload_n 0, 1) := by decide +kernel
theorem dX4_runOne_84 : decode cX4_runOne 84 = .ok (.getfield 20, 3) := by decide +kernel
theorem dX4_runOne_87 : decode cX4_runOne 87 = .ok (.aload_n 0, 1) := by decide +kernel
theorem dX4_runOne_88 : decode cX4_runOne 88 = .ok (.getfield 141, 3) := by decide +kernel
theorem dX4_runOne_91 : decode cX4_runOne 91 = .ok (.iconst 1, 1) := by decide +kernel
theorem dX4_runOne_92 : decode cX4_runOne 92 = .ok (.iadd, 1) := by decide +kernel
theorem dX4_runOne_93 : decode cX4_runOne 93 = .ok (.iaload, 1) := by decide +kernel
theorem dX4_runOne_94 : decode cX4_runOne 94 = .ok (.istore_n 3, 1) := by decide +kernel
theorem dX4_runOne_95 : decode cX4_runOne 95 = .ok (.aload_n 0, 1) := by decide +kernel
theorem dX4_runOne_96 : decode cX4_runOne 96 = .ok (.getfield 7, 3) := by decide +kernel
theorem dX4_runOne_99 : decode cX4_runOne 99 = .ok (.iconst 4, 1) := by decide +kernel
theorem dX4_runOne_100 : decode cX4_runOne 100 = .ok (.aload_n 0, 1) := by decide +kernel
theorem dX4_runOne_101 : decode cX4_runOne 101 = .ok (.getfield 20, 3) := by decide +kernel
theorem dX4_runOne_104 : decode cX4_runOne 104 = .ok (.aload_n 0, 1) := by decide +kernel
theorem dX4_runOne_105 : decode cX4_runOne 105 = .ok (.getfield 141, 3) := by decide +kernel
theorem dX4_runOne_108 : decode cX4_runOne 108 = .ok (.iconst 2, 1) := by decide +kernel
theorem dX4_runOne_109 : decode cX4_runOne 109 = .ok (.iadd, 1) := by decide +kernel
theorem dX4_runOne_110 : decode cX4_runOne 110 = .ok (.iaload, 1) := by decide +kernel
theorem dX4_runOne_111 : decode cX4_runOne 111 = .ok (.iadd, 1) := by decide +kernel
theorem dX4_runOne_112 : decode cX4_runOne 112 = .ok (.bipush 97, 2) := by decide +kernel
theorem dX4_runOne_114 : decode cX4_runOne 114 = .ok (.isub, 1) := by decide +kernel
theorem dX4_runOne_115 : decode cX4_runOne 115 = .ok (.iaload, 1) := by decide +kernel
theorem dX4_runOne_116 : decode cX4_runOne 116 = .ok (.istore 4, 2) := by decide +kernel
theorem dX4_runOne_118 : decode cX4_runOne 118 = .ok (.aload_n 0, 1) := by decide +kernel
theorem dX4_runOne_119 : decode cX4_runOne 119 = .ok (.dup, 1) := by decide +kernel
theorem dX4_runOne_120 : decode cX4_runOne 120 = .ok (.getfield 141, 3) := by decide +kernel
theorem dX4_runOne_123 : decode cX4_runOne 123 = .ok (.iconst 4, 1) := by decide +kernel
theorem dX4_runOne_124 : decode cX4_runOne 124 = .ok (.iadd, 1) := by decide +kernel
theorem dX4_runOne_125 : decode cX4_runOne 125 = .ok (.putfield 141, 3) := by decide +kernel
theorem dX4_runOne_128 : decode cX4_runOne 128 = .ok (.aload_n 0, 1) := by decide +kernel
theorem dX4_runOne_129 : decode cX4_runOne 129 = .ok (.getfield 7, 3) := by decide +kernel
theorem dX4_runOne_132 : decode cX4_runOne 132 = .ok (.iload_n 1, 1) := by decide +kernel
theorem dX4_runOne_133 : decode cX4_runOne 133 = .ok (.aload_n 0, 1) := by decide +kernel
theorem dX4_runOne_134 : decode cX4_runOne 134 = .ok (.iload_n 3, 1) := by decide +kernel
theorem dX4_runOne_135 : decode cX4_runOne 135 = .ok (.iload_n 2, 1) := by decide +kernel
theorem dX4_runOne_136 : decode cX4_runOne 136 = .ok (.iload 4, 2) := by decide +kernel
theorem dX4_runOne_138 : decode cX4_runOne 138 = .ok (.invokevirtual 160, 3) := by decide +kernel
theorem dX4_runOne_141 : decode cX4_runOne 141 = .ok (.aload_n 0, 1) := by decide +kernel
theorem dX4_runOne_142 : decode cX4_runOne 142 = .ok (.invokevirtual 46, 3) := by decide +kernel
theorem dX4_runOne_145 : decode cX4_runOne 145 = .ok (.iand, 1) := by decide +kernel
theorem dX4_runOne_146 : decode cX4_runOne 146 = .ok (.iastore, 1) := by decide +kernel
theorem dX4_runOne_147 : decode cX4_runOne 147 = .ok (.aload_n 0, 1) := by decide +kernel
theorem dX4_runOne_148 : decode cX4_runOne 148 = .ok (.iload_n 3, 1) := by decide +kernel
theorem dX4_runOne_149 : decode cX4_runOne 149 = .ok (.iload 4, 2) := by decide +kernel
theorem dX4_runOne_151 : decode cX4_runOne 151 = .ok (.invokevirtual 163, 3) := by decide +kernel
theorem dX4_runOne_154 : decode cX4_runOne 154 = .ok (.ireturn, 1) := by decide +kernel
set_option maxRecDepth 20000 in
theorem ggX4_run_X4_fault : GoodIn wsX4_run wsX4_fault := goodIn_r _ [8, 1, 2, 9, 10, 11, 7, 12, 13, 14, 15, 16, 17, 18, 19, 20, 21, 22, 23, 24, 25, 26, 27, 28, 29, 30, 31, 32, 79, 80, 81, 82, 83, 84, 85, 86, 87, 88, 89] (by decide +kernel) (by decide +kernel)
set_option maxRecDepth 20000 in
theorem gX4_run_X4_fault : GoodIn wsX4_run (wsV RX4 166 RX4 yX4_fault wsX4_fault) := goodIn_app (goodIn_of _ (by decide +kernel)) ggX4_run_X4_fault
set_option maxRecDepth 20000 in
theorem ggX4_run_X4_tells : GoodIn wsX4_run wsX4_tells := goodIn_r _ [36, 37, 79, 80, 81, 82, 83, 84, 85, 86, 87, 88, 89] (by decide +kernel) (by decide +kernel)
set_option maxRecDepth 20000 in
theorem gX4_run_X4_tells : GoodIn wsX4_run (wsV RX4 65 RX4 yX4_tells wsX4_tells) := goodIn_app (goodIn_of _ (by decide +kernel)) ggX4_run_X4_tells
set_option maxRecDepth 20000 in
theorem ggX4_run_X4_save : GoodIn wsX4_run wsX4_save := goodIn_r _ [41, 42, 43, 44, 45, 3, 79, 80, 81, 82, 83, 84, 85, 86, 87, 88, 89] (by decide +kernel) (by decide +kernel)
set_option maxRecDepth 20000 in
theorem gX4_run_X4_save : GoodIn wsX4_run (wsV RX4 72 RX4 yX4_save wsX4_save) := goodIn_app (goodIn_of _ (by decide +kernel)) ggX4_run_X4_save
set_option maxRecDepth 20000 in
theorem ggX4_run_X4_runOne : GoodIn wsX4_run wsX4_runOne := goodIn_r _ [49, 21, 1, 45, 17, 18, 19, 7, 20, 2, 22, 23, 24, 25, 26, 27, 28, 50, 51, 52, 53, 54, 55, 56, 57, 58, 59, 60, 61, 62, 63, 64, 65, 66, 67, 68, 69, 70, 71, 72, 73, 74, 75, 76, 77, 78, 79, 80, 81, 82, 83, 84, 85, 86, 87, 88, 89] (by decide +kernel) (by decide +kernel)
set_option maxRecDepth 20000 in
theorem gX4_run_X4_runOne : GoodIn wsX4_run (wsV RX4 169 RX4 yX4_runOne wsX4_runOne) := goodIn_app (goodIn_of _ (by decide +kernel)) ggX4_run_X4_runOne
theorem dX4_run_0 : decode cX4_run 0 = .ok (.aload_n 0, 1) := by decide +kernel
theorem dX4_run_1 : decode cX4_run 1 = .ok (.invokevirtual 166, 3) := by decide +kernel
theorem dX4_run_4 : decode cX4_run 4 = .ok (.istore_n 1, 1) := by decide +kernel
theorem dX4_run_5 : decode cX4_run 5 = .ok (.iload_n 1, 1) := by decide +kernel
theorem dX4_run_6 : decode cX4_run 6 = .ok (.iconst (-1), 1) := by decide +kernel
theorem dX4_run_7 : decode cX4_run 7 = .ok (.if_icmp .eq 12, 3) := by decide +kernel
theorem dX4_run_10 : decode cX4_run 10 = .ok (.aload_n 0, 1) := by decide +kernel
theorem dX4_run_11 : decode cX4_run 11 = .ok (.bipush (-10), 2) := by decide +kernel
theorem dX4_run_13 : decode cX4_run 13 = .ok (.iload_n 1, 1) := by decide +kernel
theorem dX4_run_14 : decode cX4_run 14 = .ok (.isub, 1) := by decide +kernel
theorem dX4_run_15 : decode cX4_run 15 = .ok (.invokevirtual 65, 3) := by decide +kernel
theorem dX4_run_18 : decode cX4_run 18 = .ok (.ireturn, 1) := by decide +kernel
theorem dX4_run_19 : decode cX4_run 19 = .ok (.aload_n 0, 1) := by decide +kernel
theorem dX4_run_20 : decode cX4_run 20 = .ok (.invokevirtual 72, 3) := by decide +kernel
theorem dX4_run_23 : decode cX4_run 23 = .ok (.aload_n 0, 1) := by decide +kernel
theorem dX4_run_24 : decode cX4_run 24 = .ok (.iconst 0, 1) := by decide +kernel
theorem dX4_run_25 : decode cX4_run 25 = .ok (.putfield 141, 3) := by decide +kernel
theorem dX4_run_28 : decode cX4_run 28 = .ok (.iconst 0, 1) := by decide +kernel
theorem dX4_run_29 : decode cX4_run 29 = .ok (.istore_n 2, 1) := by decide +kernel
theorem dX4_run_30 : decode cX4_run 30 = .ok (.aload_n 0, 1) := by decide +kernel
theorem dX4_run_31 : decode cX4_run 31 = .ok (.getfield 141, 3) := by decide +kernel
theorem dX4_run_34 : decode cX4_run 34 = .ok (.aload_n 0, 1) := by decide +kernel
theorem dX4_run_35 : decode cX4_run 35 = .ok (.getfield 138, 3) := by decide +kernel
theorem dX4_run_38 : decode cX4_run 38 = .ok (.if_icmp .ge 15, 3) := by decide +kernel
theorem dX4_run_41 : decode cX4_run 41 = .ok (.aload_n 0, 1) := by decide +kernel
theorem dX4_run_42 : decode cX4_run 42 = .ok (.invokevirtual 169, 3) := by decide +kernel
theorem dX4_run_45 : decode cX4_run 45 = .ok (.istore_n 3, 1) := by decide +kernel
theorem dX4_run_46 : decode cX4_run 46 = .ok (.iload_n 2, 1) := by decide +kernel
theorem dX4_run_47 : decode cX4_run 47 = .ok (.iload_n 3, 1) := by decide +kernel
theorem dX4_run_48 : decode cX4_run 48 = .ok (.iadd, 1) := by decide +kernel
theorem dX4_run_49 : decode cX4_run 49 = .ok (.istore_n 2, 1) := by decide +kernel
theorem dX4_run_50 : decode cX4_run 50 = .ok (.goto (-20), 3) := by decide +kernel
theorem dX4_run_53 : decode cX4_run 53 = .ok (.aload_n 0, 1) := by decide +kernel
theorem dX4_run_54 : decode cX4_run 54 = .ok (.dup, 1) := by decide +kernel
theorem dX4_run_55 : decode cX4_run 55 = .ok (.getfield 34, 3) := by decide +kernel
theorem dX4_run_58 : decode cX4_run 58 = .ok (.iload_n 2, 1) := by decide +kernel
theorem dX4_run_59 : decode cX4_run 59 = .ok (.i2l, 1) := by decide +kernel
theorem dX4_run_60 : decode cX4_run 60 = .ok (.ladd, 1) := by decide +kernel
theorem dX4_run_61 : decode cX4_run 61 = .ok (.putfield 34, 3) := by decide +kernel
theorem dX4_run_64 : decode cX4_run 64 = .ok (.aload_n 0, 1) := by decide +kernel
theorem dX4_run_65 : decode cX4_run 65 = .ok (.iload_n 2, 1) := by decide +kernel
theorem dX4_run_66 : decode cX4_run 66 = .ok (.invokevirtual 65, 3) := by decide +kernel
theorem dX4_run_69 : decode cX4_run 69 = .ok (.ireturn, 1) := by decide +kernel
theorem dX4_mix_0 : decode cX4_mix 0 = .ok (.aload_n 0, 1) := by decide +kernel
theorem dX4_mix_1 : decode cX4_mix 1 = .ok (.ldc2_w 172, 3) := by decide +kernel
theorem dX4_mix_4 : decode cX4_mix 4 = .ok (.aload_n 0, 1) := by decide +kernel
theorem dX4_mix_5 : decode cX4_mix 5 = .ok (.getfield 174, 3) := by decide +kernel
theorem dX4_mix_8 : decode cX4_mix 8 = .ok (.lmul, 1) := by decide +kernel
theorem dX4_mix_9 : decode cX4_mix 9 = .ok (.lload_n 1, 1) := by decide +kernel
theorem dX4_mix_10 : decode cX4_mix 10 = .ok (.ladd, 1) := by decide +kernel
theorem dX4_mix_11 : decode cX4_mix 11 = .ok (.putfield 174, 3) := by decide +kernel
theorem dX4_mix_14 : decode cX4_mix 14 = .ok (.return_, 1) := by decide +kernel
set_option maxRecDepth 20000 in
theorem ggX4_digest_X4_mix : GoodIn wsX4_digest wsX4_mix := goodIn_r _ [12, 13, 3, 60, 61, 62, 63, 64, 65, 66, 67, 68, 69, 70] (by decide +kernel) (by decide +kernel)
set_option maxRecDepth 20000 in
theorem gX4_digest_X4_mix : GoodIn wsX4_digest (wsV RX4 179 RX4 yX4_mix wsX4_mix) := goodIn_app (goodIn_of _ (by decide +kernel)) ggX4_digest_X4_mix
set_option maxRecDepth 20000 in
theorem ggX4_digest_X4_counted : GoodIn wsX4_digest wsX4_counted := goodIn_r _ [17, 6, 18, 19, 20, 11, 21, 22, 23, 24, 25, 26, 27, 28, 29, 30, 31, 32, 33, 34, 35, 36, 37, 38, 39, 40, 41, 42, 43, 44, 45, 46, 47, 48, 49, 50, 51, 60, 61, 62, 63, 64, 65, 66, 67, 68, 69, 70] (by decide +kernel) (by decide +kernel)
set_option maxRecDepth 20000 in
theorem gX4_digest_X4_counted : GoodIn wsX4_digest (wsV RX4 129 RX4 yX4_counted wsX4_counted) := goodIn_app (goodIn_of _ (by decide +kernel)) ggX4_digest_X4_counted
set_option maxRecDepth 20000 in
theorem ggX4_digest_X4_entries : GoodIn wsX4_digest wsX4_entries := goodIn_r _ [21, 22, 23, 24, 11, 25, 6, 60, 61, 62, 63, 64, 65, 66, 67, 68, 69, 70] (by decide +kernel) (by decide +kernel)
set_option maxRecDepth 20000 in
theorem gX4_digest_X4_entries : GoodIn wsX4_digest (wsV RX4 38 RX4 yX4_entries wsX4_entries) := goodIn_app (goodIn_of _ (by decide +kernel)) ggX4_digest_X4_entries
set_option maxRecDepth 20000 in
theorem ggX4_digest_X4_firstOf : GoodIn wsX4_digest wsX4_firstOf := goodIn_r _ [55, 22, 23, 24, 11, 25, 6, 56, 57, 58, 59, 60, 61, 62, 63, 64, 65, 66, 67, 68, 69, 70] (by decide +kernel) (by decide +kernel)
set_option maxRecDepth 20000 in
theorem gX4_digest_X4_firstOf : GoodIn wsX4_digest (wsV RX4 135 RX4 yX4_firstOf wsX4_firstOf) := goodIn_app (goodIn_of _ (by decide +kernel)) ggX4_digest_X4_firstOf
theorem dX4_digest_0 : decode cX4_digest 0 = .ok (.aload_n 0, 1) := by decide +kernel
theorem dX4_digest_1 : decode cX4_digest 1 = .ok (.iconst 0, 1) := by decide +kernel
theorem dX4_digest_2 : decode cX4_digest 2 = .ok (.putfield 30, 3) := by decide +kernel
theorem dX4_digest_5 : decode cX4_digest 5 = .ok (.aload_n 0, 1) := by decide +kernel
theorem dX4_digest_6 : decode cX4_digest 6 = .ok (.ldc2_w 177, 3) := by decide +kernel
theorem dX4_digest_9 : decode cX4_digest 9 = .ok (.putfield 174, 3) := by decide +kernel
theorem dX4_digest_12 : decode cX4_digest 12 = .ok (.aload_n 0, 1) := by decide +kernel
theorem dX4_digest_13 : decode cX4_digest 13 = .ok (.aload_n 0, 1) := by decide +kernel
theorem dX4_digest_14 : decode cX4_digest 14 = .ok (.getfield 138, 3) := by decide +kernel
theorem dX4_digest_17 : decode cX4_digest 17 = .ok (.i2l, 1) := by decide +kernel
theorem dX4_digest_18 : decode cX4_digest 18 = .ok (.invokevirtual 179, 3) := by decide +kernel
theorem dX4_digest_21 : decode cX4_digest 21 = .ok (.iconst 0, 1) := by decide +kernel
theorem dX4_digest_22 : decode cX4_digest 22 = .ok (.istore_n 1, 1) := by decide +kernel
theorem dX4_digest_23 : decode cX4_digest 23 = .ok (.iload_n 1, 1) := by decide +kernel
theorem dX4_digest_24 : decode cX4_digest 24 = .ok (.bipush 8, 2) := by decide +kernel
theorem dX4_digest_26 : decode cX4_digest 26 = .ok (.if_icmp .ge 19, 3) := by decide +kernel
theorem dX4_digest_29 : decode cX4_digest 29 = .ok (.aload_n 0, 1) := by decide +kernel
theorem dX4_digest_30 : decode cX4_digest 30 = .ok (.aload_n 0, 1) := by decide +kernel
theorem dX4_digest_31 : decode cX4_digest 31 = .ok (.iload_n 1, 1) := by decide +kernel
theorem dX4_digest_32 : decode cX4_digest 32 = .ok (.invokevirtual 129, 3) := by decide +kernel
theorem dX4_digest_35 : decode cX4_digest 35 = .ok (.i2l, 1) := by decide +kernel
theorem dX4_digest_36 : decode cX4_digest 36 = .ok (.invokevirtual 179, 3) := by decide +kernel
theorem dX4_digest_39 : decode cX4_digest 39 = .ok (.iinc 1 1, 3) := by decide +kernel
theorem dX4_digest_42 : decode cX4_digest 42 = .ok (.goto (-19), 3) := by decide +kernel
theorem dX4_digest_45 : decode cX4_digest 45 = .ok (.aload_n 0, 1) := by decide +kernel
theorem dX4_digest_46 : decode cX4_digest 46 = .ok (.aload_n 0, 1) := by decide +kernel
theorem dX4_digest_47 : decode cX4_digest 47 = .ok (.getfield 34, 3) := by decide +kernel
theorem dX4_digest_50 : decode cX4_digest 50 = .ok (.invokevirtual 179, 3) := by decide +kernel
theorem dX4_digest_53 : decode cX4_digest 53 = .ok (.iconst 0, 1) := by decide +kernel
theorem dX4_digest_54 : decode cX4_digest 54 = .ok (.istore_n 1, 1) := by decide +kernel
theorem dX4_digest_55 : decode cX4_digest 55 = .ok (.iload_n 1, 1) := by decide +kernel
theorem dX4_digest_56 : decode cX4_digest 56 = .ok (.bipush 8, 2) := by decide +kernel
theorem dX4_digest_58 : decode cX4_digest 58 = .ok (.if_icmp .ge 22, 3) := by decide +kernel
theorem dX4_digest_61 : decode cX4_digest 61 = .ok (.aload_n 0, 1) := by decide +kernel
theorem dX4_digest_62 : decode cX4_digest 62 = .ok (.aload_n 0, 1) := by decide +kernel
theorem dX4_digest_63 : decode cX4_digest 63 = .ok (.getfield 7, 3) := by decide +kernel
theorem dX4_digest_66 : decode cX4_digest 66 = .ok (.iconst 4, 1) := by decide +kernel
theorem dX4_digest_67 : decode cX4_digest 67 = .ok (.iload_n 1, 1) := by decide +kernel
theorem dX4_digest_68 : decode cX4_digest 68 = .ok (.iadd, 1) := by decide +kernel
theorem dX4_digest_69 : decode cX4_digest 69 = .ok (.iaload, 1) := by decide +kernel
theorem dX4_digest_70 : decode cX4_digest 70 = .ok (.i2l, 1) := by decide +kernel
theorem dX4_digest_71 : decode cX4_digest 71 = .ok (.invokevirtual 179, 3) := by decide +kernel
theorem dX4_digest_74 : decode cX4_digest 74 = .ok (.iinc 1 1, 3) := by decide +kernel
theorem dX4_digest_77 : decode cX4_digest 77 = .ok (.goto (-22), 3) := by decide +kernel
theorem dX4_digest_80 : decode cX4_digest 80 = .ok (.iconst 0, 1) := by decide +kernel
theorem dX4_digest_81 : decode cX4_digest 81 = .ok (.istore_n 1, 1) := by decide +kernel
theorem dX4_digest_82 : decode cX4_digest 82 = .ok (.iload_n 1, 1) := by decide +kernel
theorem dX4_digest_83 : decode cX4_digest 83 = .ok (.aload_n 0, 1) := by decide +kernel
theorem dX4_digest_84 : decode cX4_digest 84 = .ok (.invokevirtual 38, 3) := by decide +kernel
theorem dX4_digest_87 : decode cX4_digest 87 = .ok (.if_icmp .ge 23, 3) := by decide +kernel
theorem dX4_digest_90 : decode cX4_digest 90 = .ok (.aload_n 0, 1) := by decide +kernel
theorem dX4_digest_91 : decode cX4_digest 91 = .ok (.aload_n 0, 1) := by decide +kernel
theorem dX4_digest_92 : decode cX4_digest 92 = .ok (.getfield 7, 3) := by decide +kernel
theorem dX4_digest_95 : decode cX4_digest 95 = .ok (.bipush 12, 2) := by decide +kernel
theorem dX4_digest_97 : decode cX4_digest 97 = .ok (.iload_n 1, 1) := by decide +kernel
theorem dX4_digest_98 : decode cX4_digest 98 = .ok (.iadd, 1) := by decide +kernel
theorem dX4_digest_99 : decode cX4_digest 99 = .ok (.iaload, 1) := by decide +kernel
theorem dX4_digest_100 : decode cX4_digest 100 = .ok (.i2l, 1) := by decide +kernel
theorem dX4_digest_101 : decode cX4_digest 101 = .ok (.invokevirtual 179, 3) := by decide +kernel
theorem dX4_digest_104 : decode cX4_digest 104 = .ok (.iinc 1 1, 3) := by decide +kernel
theorem dX4_digest_107 : decode cX4_digest 107 = .ok (.goto (-25), 3) := by decide +kernel
theorem dX4_digest_110 : decode cX4_digest 110 = .ok (.aload_n 0, 1) := by decide +kernel
theorem dX4_digest_111 : decode cX4_digest 111 = .ok (.aload_n 0, 1) := by decide +kernel
theorem dX4_digest_112 : decode cX4_digest 112 = .ok (.invokevirtual 135, 3) := by decide +kernel
theorem dX4_digest_115 : decode cX4_digest 115 = .ok (.i2l, 1) := by decide +kernel
theorem dX4_digest_116 : decode cX4_digest 116 = .ok (.invokevirtual 179, 3) := by decide +kernel
theorem dX4_digest_119 : decode cX4_digest 119 = .ok (.aload_n 0, 1) := by decide +kernel
theorem dX4_digest_120 : decode cX4_digest 120 = .ok (.aload_n 0, 1) := by decide +kernel
theorem dX4_digest_121 : decode cX4_digest 121 = .ok (.getfield 59, 3) := by decide +kernel
theorem dX4_digest_124 : decode cX4_digest 124 = .ok (.i2l, 1) := by decide +kernel
theorem dX4_digest_125 : decode cX4_digest 125 = .ok (.invokevirtual 179, 3) := by decide +kernel
theorem dX4_digest_128 : decode cX4_digest 128 = .ok (.aload_n 0, 1) := by decide +kernel
theorem dX4_digest_129 : decode cX4_digest 129 = .ok (.getfield 174, 3) := by decide +kernel
theorem dX4_digest_132 : decode cX4_digest 132 = .ok (.lreturn, 1) := by decide +kernel
theorem dJ6_bitCount_0f7a4_0 : decode cJ6_bitCount_0f7a4 0 = .ok (.iload_n 0, 1) := by decide +kernel
theorem dJ6_bitCount_0f7a4_1 : decode cJ6_bitCount_0f7a4 1 = .ok (.iload_n 0, 1) := by decide +kernel
theorem dJ6_bitCount_0f7a4_2 : decode cJ6_bitCount_0f7a4 2 = .ok (.iconst 1, 1) := by decide +kernel
theorem dJ6_bitCount_0f7a4_3 : decode cJ6_bitCount_0f7a4 3 = .ok (.iushr, 1) := by decide +kernel
theorem dJ6_bitCount_0f7a4_4 : decode cJ6_bitCount_0f7a4 4 = .ok (.ldc_w 265, 3) := by decide +kernel
theorem dJ6_bitCount_0f7a4_7 : decode cJ6_bitCount_0f7a4 7 = .ok (.iand, 1) := by decide +kernel
theorem dJ6_bitCount_0f7a4_8 : decode cJ6_bitCount_0f7a4 8 = .ok (.isub, 1) := by decide +kernel
theorem dJ6_bitCount_0f7a4_9 : decode cJ6_bitCount_0f7a4 9 = .ok (.istore_n 0, 1) := by decide +kernel
theorem dJ6_bitCount_0f7a4_10 : decode cJ6_bitCount_0f7a4 10 = .ok (.iload_n 0, 1) := by decide +kernel
theorem dJ6_bitCount_0f7a4_11 : decode cJ6_bitCount_0f7a4 11 = .ok (.ldc_w 266, 3) := by decide +kernel
theorem dJ6_bitCount_0f7a4_14 : decode cJ6_bitCount_0f7a4 14 = .ok (.iand, 1) := by decide +kernel
theorem dJ6_bitCount_0f7a4_15 : decode cJ6_bitCount_0f7a4 15 = .ok (.iload_n 0, 1) := by decide +kernel
theorem dJ6_bitCount_0f7a4_16 : decode cJ6_bitCount_0f7a4 16 = .ok (.iconst 2, 1) := by decide +kernel
theorem dJ6_bitCount_0f7a4_17 : decode cJ6_bitCount_0f7a4 17 = .ok (.iushr, 1) := by decide +kernel
theorem dJ6_bitCount_0f7a4_18 : decode cJ6_bitCount_0f7a4 18 = .ok (.ldc_w 266, 3) := by decide +kernel
theorem dJ6_bitCount_0f7a4_21 : decode cJ6_bitCount_0f7a4 21 = .ok (.iand, 1) := by decide +kernel
theorem dJ6_bitCount_0f7a4_22 : decode cJ6_bitCount_0f7a4 22 = .ok (.iadd, 1) := by decide +kernel
theorem dJ6_bitCount_0f7a4_23 : decode cJ6_bitCount_0f7a4 23 = .ok (.istore_n 0, 1) := by decide +kernel
theorem dJ6_bitCount_0f7a4_24 : decode cJ6_bitCount_0f7a4 24 = .ok (.iload_n 0, 1) := by decide +kernel
theorem dJ6_bitCount_0f7a4_25 : decode cJ6_bitCount_0f7a4 25 = .ok (.iload_n 0, 1) := by decide +kernel
theorem dJ6_bitCount_0f7a4_26 : decode cJ6_bitCount_0f7a4 26 = .ok (.iconst 4, 1) := by decide +kernel
theorem dJ6_bitCount_0f7a4_27 : decode cJ6_bitCount_0f7a4 27 = .ok (.iushr, 1) := by decide +kernel
theorem dJ6_bitCount_0f7a4_28 : decode cJ6_bitCount_0f7a4 28 = .ok (.iadd, 1) := by decide +kernel
theorem dJ6_bitCount_0f7a4_29 : decode cJ6_bitCount_0f7a4 29 = .ok (.ldc_w 267, 3) := by decide +kernel
theorem dJ6_bitCount_0f7a4_32 : decode cJ6_bitCount_0f7a4 32 = .ok (.iand, 1) := by decide +kernel
theorem dJ6_bitCount_0f7a4_33 : decode cJ6_bitCount_0f7a4 33 = .ok (.istore_n 0, 1) := by decide +kernel
theorem dJ6_bitCount_0f7a4_34 : decode cJ6_bitCount_0f7a4 34 = .ok (.iload_n 0, 1) := by decide +kernel
theorem dJ6_bitCount_0f7a4_35 : decode cJ6_bitCount_0f7a4 35 = .ok (.iload_n 0, 1) := by decide +kernel
theorem dJ6_bitCount_0f7a4_36 : decode cJ6_bitCount_0f7a4 36 = .ok (.bipush 8, 2) := by decide +kernel
theorem dJ6_bitCount_0f7a4_38 : decode cJ6_bitCount_0f7a4 38 = .ok (.iushr, 1) := by decide +kernel
theorem dJ6_bitCount_0f7a4_39 : decode cJ6_bitCount_0f7a4 39 = .ok (.iadd, 1) := by decide +kernel
theorem dJ6_bitCount_0f7a4_40 : decode cJ6_bitCount_0f7a4 40 = .ok (.istore_n 0, 1) := by decide +kernel
theorem dJ6_bitCount_0f7a4_41 : decode cJ6_bitCount_0f7a4 41 = .ok (.iload_n 0, 1) := by decide +kernel
theorem dJ6_bitCount_0f7a4_42 : decode cJ6_bitCount_0f7a4 42 = .ok (.iload_n 0, 1) := by decide +kernel
theorem dJ6_bitCount_0f7a4_43 : decode cJ6_bitCount_0f7a4 43 = .ok (.bipush 16, 2) := by decide +kernel
theorem dJ6_bitCount_0f7a4_45 : decode cJ6_bitCount_0f7a4 45 = .ok (.iushr, 1) := by decide +kernel
theorem dJ6_bitCount_0f7a4_46 : decode cJ6_bitCount_0f7a4 46 = .ok (.iadd, 1) := by decide +kernel
theorem dJ6_bitCount_0f7a4_47 : decode cJ6_bitCount_0f7a4 47 = .ok (.istore_n 0, 1) := by decide +kernel
theorem dJ6_bitCount_0f7a4_48 : decode cJ6_bitCount_0f7a4 48 = .ok (.iload_n 0, 1) := by decide +kernel
theorem dJ6_bitCount_0f7a4_49 : decode cJ6_bitCount_0f7a4 49 = .ok (.bipush 63, 2) := by decide +kernel
theorem dJ6_bitCount_0f7a4_51 : decode cJ6_bitCount_0f7a4 51 = .ok (.iand, 1) := by decide +kernel
theorem dJ6_bitCount_0f7a4_52 : decode cJ6_bitCount_0f7a4 52 = .ok (.ireturn, 1) := by decide +kernel
theorem dJ9_abs_0f7a4_0 : decode cJ9_abs_0f7a4 0 = .ok (.iload_n 0, 1) := by decide +kernel
theorem dJ9_abs_0f7a4_1 : decode cJ9_abs_0f7a4 1 = .ok (.ifCond .ge 8, 3) := by decide +kernel
theorem dJ9_abs_0f7a4_4 : decode cJ9_abs_0f7a4 4 = .ok (.iload_n 0, 1) := by decide +kernel
theorem dJ9_abs_0f7a4_5 : decode cJ9_abs_0f7a4 5 = .ok (.ineg, 1) := by decide +kernel
theorem dJ9_abs_0f7a4_6 : decode cJ9_abs_0f7a4 6 = .ok (.goto 4, 3) := by decide +kernel
theorem dJ9_abs_0f7a4_9 : decode cJ9_abs_0f7a4 9 = .ok (.iload_n 0, 1) := by decide +kernel
theorem dJ9_abs_0f7a4_10 : decode cJ9_abs_0f7a4 10 = .ok (.ireturn, 1) := by decide +kernel
theorem dJ9_min_7cf53_0 : decode cJ9_min_7cf53 0 = .ok (.iload_n 0, 1) := by decide +kernel
theorem dJ9_min_7cf53_1 : decode cJ9_min_7cf53 1 = .ok (.iload_n 1, 1) := by decide +kernel
theorem dJ9_min_7cf53_2 : decode cJ9_min_7cf53 2 = .ok (.if_icmp .gt 7, 3) := by decide +kernel
theorem dJ9_min_7cf53_5 : decode cJ9_min_7cf53 5 = .ok (.iload_n 0, 1) := by decide +kernel
theorem dJ9_min_7cf53_6 : decode cJ9_min_7cf53 6 = .ok (.goto 4, 3) := by decide +kernel
theorem dJ9_min_7cf53_9 : decode cJ9_min_7cf53 9 = .ok (.iload_n 1, 1) := by decide +kernel
theorem dJ9_min_7cf53_10 : decode cJ9_min_7cf53 10 = .ok (.ireturn, 1) := by decide +kernel
theorem dJ7_fill_53178_0 : decode cJ7_fill_53178 0 = .ok (.iconst 0, 1) := by decide +kernel
theorem dJ7_fill_53178_1 : decode cJ7_fill_53178 1 = .ok (.istore_n 2, 1) := by decide +kernel
theorem dJ7_fill_53178_2 : decode cJ7_fill_53178 2 = .ok (.aload_n 0, 1) := by decide +kernel
theorem dJ7_fill_53178_3 : decode cJ7_fill_53178 3 = .ok (.arraylength, 1) := by decide +kernel
theorem dJ7_fill_53178_4 : decode cJ7_fill_53178 4 = .ok (.istore_n 3, 1) := by decide +kernel
theorem dJ7_fill_53178_5 : decode cJ7_fill_53178 5 = .ok (.iload_n 2, 1) := by decide +kernel
theorem dJ7_fill_53178_6 : decode cJ7_fill_53178 6 = .ok (.iload_n 3, 1) := by decide +kernel
theorem dJ7_fill_53178_7 : decode cJ7_fill_53178 7 = .ok (.if_icmp .ge 13, 3) := by decide +kernel
theorem dJ7_fill_53178_10 : decode cJ7_fill_53178 10 = .ok (.aload_n 0, 1) := by decide +kernel
theorem dJ7_fill_53178_11 : decode cJ7_fill_53178 11 = .ok (.iload_n 2, 1) := by decide +kernel
theorem dJ7_fill_53178_12 : decode cJ7_fill_53178 12 = .ok (.iload_n 1, 1) := by decide +kernel
theorem dJ7_fill_53178_13 : decode cJ7_fill_53178 13 = .ok (.iastore, 1) := by decide +kernel
theorem dJ7_fill_53178_14 : decode cJ7_fill_53178 14 = .ok (.iinc 2 1, 3) := by decide +kernel
theorem dJ7_fill_53178_17 : decode cJ7_fill_53178 17 = .ok (.goto (-12), 3) := by decide +kernel
theorem dJ7_fill_53178_20 : decode cJ7_fill_53178 20 = .ok (.return_, 1) := by decide +kernel
set_option maxRecDepth 20000 in
theorem ggL_setWidth_X3_setWidth : GoodIn wsL_setWidth wsX3_setWidth := goodIn_ca (goodIn_r _ [6, 7, 8, 9, 10, 5, 11, 12, 13, 14, 15, 16, 17, 18, 19, 20, 21, 22, 23, 24, 25, 26, 27, 28, 29, 30, 31, 32, 33, 34, 35, 36, 37, 38, 39, 40, 41, 42, 43, 44, 45, 46, 47, 48, 49, 50, 51, 52, 53, 54, 55, 56, 57, 58, 59, 60, 61, 62, 63, 64, 65, 66, 67, 68, 69, 70, 71, 72, 73] (by decide +kernel) (by decide +kernel)) (goodIn_sub (fun _ h => List.mem_cons_of_mem _ (List.mem_append_right _ h)) (by decide +kernel))
set_option maxRecDepth 20000 in
theorem gL_setWidth_X3_setWidth : GoodIn wsL_setWidth (wsV RL 7 RX3 yX3_setWidth wsX3_setWidth) := goodIn_app (goodIn_of _ (by decide +kernel)) ggL_setWidth_X3_setWidth
theorem dL_setWidth_0 : decode cL_setWidth 0 = .ok (.aload_n 2, 1) := by decide +kernel
theorem dL_setWidth_1 : decode cL_setWidth 1 = .ok (.iconst 0, 1) := by decide +kernel
theorem dL_setWidth_2 : decode cL_setWidth 2 = .ok (.aload_n 0, 1) := by decide +kernel
theorem dL_setWidth_3 : decode cL_setWidth 3 = .ok (.iload_n 1, 1) := by decide +kernel
theorem dL_setWidth_4 : decode cL_setWidth 4 = .ok (.invokevirtual 7, 3) := by decide +kernel
theorem dL_setWidth_7 : decode cL_setWidth 7 = .ok (.i2l, 1) := by decide +kernel
theorem dL_setWidth_8 : decode cL_setWidth 8 = .ok (.lastore, 1) := by decide +kernel
theorem dL_setWidth_9 : decode cL_setWidth 9 = .ok (.goto 6, 3) := by decide +kernel
theorem dL_setWidth_12 : decode cL_setWidth 12 = .ok (.astore_n 3, 1) := by decide +kernel
theorem dL_setWidth_13 : decode cL_setWidth 13 = .ok (.iconst 1, 1) := by decide +kernel
theorem dL_setWidth_14 : decode cL_setWidth 14 = .ok (.ireturn, 1) := by decide +kernel
theorem dL_setWidth_15 : decode cL_setWidth 15 = .ok (.iconst 0, 1) := by decide +kernel
theorem dL_setWidth_16 : decode cL_setWidth 16 = .ok (.ireturn, 1) := by decide +kernel
set_option maxRecDepth 20000 in
theorem ggL_setCost_X3_setCost : GoodIn wsL_setCost wsX3_setCost := goodIn_ca (goodIn_r _ [6, 7, 8, 9, 10, 11, 5, 12, 13, 14, 15, 16, 17, 18, 19, 20, 21, 22, 23, 24, 25, 26, 27, 28, 29, 30, 31, 32, 33, 34, 35, 36, 37, 38, 39, 40, 41, 42, 43, 44, 45, 46, 47, 48, 49, 50, 51, 52] (by decide +kernel) (by decide +kernel)) (goodIn_sub (fun _ h => List.mem_cons_of_mem _ (List.mem_append_right _ h)) (by decide +kernel))
set_option maxRecDepth 20000 in
theorem gL_setCost_X3_setCost : GoodIn wsL_setCost (wsV RL 15 RX3 yX3_setCost wsX3_setCost) := goodIn_app (goodIn_of _ (by decide +kernel)) ggL_setCost_X3_setCost
theorem dL_setCost_0 : decode cL_setCost 0 = .ok (.aload_n 3, 1) := by decide +kernel
theorem dL_setCost_1 : decode cL_setCost 1 = .ok (.iconst 0, 1) := by decide +kernel
theorem dL_setCost_2 : decode cL_setCost 2 = .ok (.aload_n 0, 1) := by decide +kernel
theorem dL_setCost_3 : decode cL_setCost 3 = .ok (.iload_n 1, 1) := by decide +kernel
theorem dL_setCost_4 : decode cL_setCost 4 = .ok (.iload_n 2, 1) := by decide +kernel
theorem dL_setCost_5 : decode cL_setCost 5 = .ok (.invokevirtual 15, 3) := by decide +kernel
theorem dL_setCost_8 : decode cL_setCost 8 = .ok (.i2l, 1) := by decide +kernel
theorem dL_setCost_9 : decode cL_setCost 9 = .ok (.lastore, 1) := by decide +kernel
theorem dL_setCost_10 : decode cL_setCost 10 = .ok (.goto 7, 3) := by decide +kernel
theorem dL_setCost_13 : decode cL_setCost 13 = .ok (.astore 4, 2) := by decide +kernel
theorem dL_setCost_15 : decode cL_setCost 15 = .ok (.iconst 1, 1) := by decide +kernel
theorem dL_setCost_16 : decode cL_setCost 16 = .ok (.ireturn, 1) := by decide +kernel
theorem dL_setCost_17 : decode cL_setCost 17 = .ok (.iconst 0, 1) := by decide +kernel
theorem dL_setCost_18 : decode cL_setCost 18 = .ok (.ireturn, 1) := by decide +kernel
set_option maxRecDepth 20000 in
theorem ggL_flip_X3_flip : GoodIn wsL_flip wsX3_flip := goodIn_ca (goodIn_ca (goodIn_r _ [7, 8, 9, 10, 11, 12, 13, 6, 14, 15, 16, 17, 18, 19, 20, 21, 22, 23, 24, 25, 26, 27, 28, 29, 30, 31, 32, 33, 34, 35, 36, 37, 38, 39, 40, 41, 42, 43, 44, 45, 46, 47, 48, 49, 50, 51, 52, 53, 54, 55, 56, 57, 58, 59, 60, 61, 62, 63, 64, 65, 66, 67] (by decide +kernel) (by decide +kernel)) (goodIn_sub (fun _ h => List.mem_cons_of_mem _ (List.mem_append_left _ (List.mem_append_right _ h))) (by decide +kernel))) (goodIn_sub (fun _ h => List.mem_cons_of_mem _ (List.mem_append_right _ h)) (by decide +kernel))
set_option maxRecDepth 20000 in
theorem gL_flip_X3_flip : GoodIn wsL_flip (wsV RL 19 RX3 yX3_flip wsX3_flip) := goodIn_app (goodIn_of _ (by decide +kernel)) ggL_flip_X3_flip
theorem dL_flip_0 : decode cL_flip 0 = .ok (.aload_n 3, 1) := by decide +kernel
theorem dL_flip_1 : decode cL_flip 1 = .ok (.iconst 0, 1) := by decide +kernel
theorem dL_flip_2 : decode cL_flip 2 = .ok (.aload_n 0, 1) := by decide +kernel
theorem dL_flip_3 : decode cL_flip 3 = .ok (.iload_n 1, 1) := by decide +kernel
theorem dL_flip_4 : decode cL_flip 4 = .ok (.iload_n 2, 1) := by decide +kernel
theorem dL_flip_5 : decode cL_flip 5 = .ok (.invokevirtual 19, 3) := by decide +kernel
theorem dL_flip_8 : decode cL_flip 8 = .ok (.i2l, 1) := by decide +kernel
theorem dL_flip_9 : decode cL_flip 9 = .ok (.lastore, 1) := by decide +kernel
theorem dL_flip_10 : decode cL_flip 10 = .ok (.goto 11, 3) := by decide +kernel
theorem dL_flip_13 : decode cL_flip 13 = .ok (.astore 4, 2) := by decide +kernel
theorem dL_flip_15 : decode cL_flip 15 = .ok (.iconst 1, 1) := by decide +kernel
theorem dL_flip_16 : decode cL_flip 16 = .ok (.ireturn, 1) := by decide +kernel
theorem dL_flip_17 : decode cL_flip 17 = .ok (.astore 4, 2) := by decide +kernel
theorem dL_flip_19 : decode cL_flip 19 = .ok (.iconst 2, 1) := by decide +kernel
theorem dL_flip_20 : decode cL_flip 20 = .ok (.ireturn, 1) := by decide +kernel
theorem dL_flip_21 : decode cL_flip 21 = .ok (.iconst 0, 1) := by decide +kernel
theorem dL_flip_22 : decode cL_flip 22 = .ok (.ireturn, 1) := by decide +kernel
set_option maxRecDepth 20000 in
theorem ggL_repair_X3_repair : GoodIn wsL_repair wsX3_repair := goodIn_ca (goodIn_r _ [6, 7, 8, 9, 10, 11, 12, 5, 13, 14, 15, 16, 17, 18, 19, 20, 21, 22, 23, 24, 25, 26, 27, 28, 29, 30, 31, 32, 33, 34, 35, 36, 37, 38, 39, 40, 41, 42, 43, 44, 45, 46, 47, 48, 49, 50, 51, 52, 53, 54, 55, 56, 57, 58, 59, 60, 61, 62, 63, 64, 65, 66, 67, 68, 69, 70, 71, 72, 73, 74, 75] (by decide +kernel) (by decide +kernel)) (goodIn_sub (fun _ h => List.mem_cons_of_mem _ (List.mem_append_right _ h)) (by decide +kernel))
set_option maxRecDepth 20000 in
theorem gL_repair_X3_repair : GoodIn wsL_repair (wsV RL 24 RX3 yX3_repair wsX3_repair) := goodIn_app (goodIn_of _ (by decide +kernel)) ggL_repair_X3_repair
theorem dL_repair_0 : decode cL_repair 0 = .ok (.aload_n 2, 1) := by decide +kernel
theorem dL_repair_1 : decode cL_repair 1 = .ok (.iconst 0, 1) := by decide +kernel
theorem dL_repair_2 : decode cL_repair 2 = .ok (.aload_n 0, 1) := by decide +kernel
theorem dL_repair_3 : decode cL_repair 3 = .ok (.iload_n 1, 1) := by decide +kernel
theorem dL_repair_4 : decode cL_repair 4 = .ok (.invokevirtual 24, 3) := by decide +kernel
theorem dL_repair_7 : decode cL_repair 7 = .ok (.i2l, 1) := by decide +kernel
theorem dL_repair_8 : decode cL_repair 8 = .ok (.lastore, 1) := by decide +kernel
theorem dL_repair_9 : decode cL_repair 9 = .ok (.goto 6, 3) := by decide +kernel
theorem dL_repair_12 : decode cL_repair 12 = .ok (.astore_n 3, 1) := by decide +kernel
theorem dL_repair_13 : decode cL_repair 13 = .ok (.iconst 1, 1) := by decide +kernel
theorem dL_repair_14 : decode cL_repair 14 = .ok (.ireturn, 1) := by decide +kernel
theorem dL_repair_15 : decode cL_repair 15 = .ok (.iconst 0, 1) := by decide +kernel
theorem dL_repair_16 : decode cL_repair 16 = .ok (.ireturn, 1) := by decide +kernel
set_option maxRecDepth 20000 in
theorem ggL_setRegister_X3_setRegister : GoodIn wsL_setRegister wsX3_setRegister := goodIn_ca (goodIn_ca (goodIn_r _ [7, 8, 9, 10, 11, 12, 6, 13, 14, 15, 16, 17, 18, 19, 20, 21, 22, 23, 24, 25, 26, 27, 28, 29, 30, 31, 32, 33, 34, 35, 36, 37, 38, 39, 40, 41, 42, 43, 44, 45, 46, 47, 48, 49, 50, 51, 52, 53, 54, 55, 56, 57, 58, 59, 60, 61, 62, 63, 64, 65, 66] (by decide +kernel) (by decide +kernel)) (goodIn_sub (fun _ h => List.mem_cons_of_mem _ (List.mem_append_left _ (List.mem_append_right _ h))) (by decide +kernel))) (goodIn_sub (fun _ h => List.mem_cons_of_mem _ (List.mem_append_right _ h)) (by decide +kernel))
set_option maxRecDepth 20000 in
theorem gL_setRegister_X3_setRegister : GoodIn wsL_setRegister (wsV RL 27 RX3 yX3_setRegister wsX3_setRegister) := goodIn_app (goodIn_of _ (by decide +kernel)) ggL_setRegister_X3_setRegister
theorem dL_setRegister_0 : decode cL_setRegister 0 = .ok (.aload_n 3, 1) := by decide +kernel
theorem dL_setRegister_1 : decode cL_setRegister 1 = .ok (.iconst 0, 1) := by decide +kernel
theorem dL_setRegister_2 : decode cL_setRegister 2 = .ok (.aload_n 0, 1) := by decide +kernel
theorem dL_setRegister_3 : decode cL_setRegister 3 = .ok (.iload_n 1, 1) := by decide +kernel
theorem dL_setRegister_4 : decode cL_setRegister 4 = .ok (.iload_n 2, 1) := by decide +kernel
theorem dL_setRegister_5 : decode cL_setRegister 5 = .ok (.invokevirtual 27, 3) := by decide +kernel
theorem dL_setRegister_8 : decode cL_setRegister 8 = .ok (.i2l, 1) := by decide +kernel
theorem dL_setRegister_9 : decode cL_setRegister 9 = .ok (.lastore, 1) := by decide +kernel
theorem dL_setRegister_10 : decode cL_setRegister 10 = .ok (.goto 11, 3) := by decide +kernel
theorem dL_setRegister_13 : decode cL_setRegister 13 = .ok (.astore 4, 2) := by decide +kernel
theorem dL_setRegister_15 : decode cL_setRegister 15 = .ok (.iconst 1, 1) := by decide +kernel
theorem dL_setRegister_16 : decode cL_setRegister 16 = .ok (.ireturn, 1) := by decide +kernel
theorem dL_setRegister_17 : decode cL_setRegister 17 = .ok (.astore 4, 2) := by decide +kernel
theorem dL_setRegister_19 : decode cL_setRegister 19 = .ok (.iconst 2, 1) := by decide +kernel
theorem dL_setRegister_20 : decode cL_setRegister 20 = .ok (.ireturn, 1) := by decide +kernel
theorem dL_setRegister_21 : decode cL_setRegister 21 = .ok (.iconst 0, 1) := by decide +kernel
theorem dL_setRegister_22 : decode cL_setRegister 22 = .ok (.ireturn, 1) := by decide +kernel
set_option maxRecDepth 20000 in
theorem ggL_multiply_X3_multiply : GoodIn wsL_multiply wsX3_multiply := goodIn_ca (goodIn_r _ [6, 7, 8, 9, 10, 5, 11, 12, 13, 14, 15, 16, 17, 18, 19, 20, 21, 22, 23, 24, 25, 26, 27, 28, 29, 30, 31, 32, 33, 34, 35, 36, 37, 38, 39, 40, 41, 42, 43] (by decide +kernel) (by decide +kernel)) (goodIn_sub (fun _ h => List.mem_cons_of_mem _ (List.mem_append_right _ h)) (by decide +kernel))
set_option maxRecDepth 20000 in
theorem gL_multiply_X3_multiply : GoodIn wsL_multiply (wsV RL 30 RX3 yX3_multiply wsX3_multiply) := goodIn_app (goodIn_of _ (by decide +kernel)) ggL_multiply_X3_multiply
theorem dL_multiply_0 : decode cL_multiply 0 = .ok (.aload 4, 2) := by decide +kernel
theorem dL_multiply_2 : decode cL_multiply 2 = .ok (.iconst 0, 1) := by decide +kernel
theorem dL_multiply_3 : decode cL_multiply 3 = .ok (.aload_n 0, 1) := by decide +kernel
theorem dL_multiply_4 : decode cL_multiply 4 = .ok (.iload_n 1, 1) := by decide +kernel
theorem dL_multiply_5 : decode cL_multiply 5 = .ok (.iload_n 2, 1) := by decide +kernel
theorem dL_multiply_6 : decode cL_multiply 6 = .ok (.iload_n 3, 1) := by decide +kernel
theorem dL_multiply_7 : decode cL_multiply 7 = .ok (.invokevirtual 30, 3) := by decide +kernel
theorem dL_multiply_10 : decode cL_multiply 10 = .ok (.i2l, 1) := by decide +kernel
theorem dL_multiply_11 : decode cL_multiply 11 = .ok (.lastore, 1) := by decide +kernel
theorem dL_multiply_12 : decode cL_multiply 12 = .ok (.goto 7, 3) := by decide +kernel
theorem dL_multiply_15 : decode cL_multiply 15 = .ok (.astore 5, 2) := by decide +kernel
theorem dL_multiply_17 : decode cL_multiply 17 = .ok (.iconst 1, 1) := by decide +kernel
theorem dL_multiply_18 : decode cL_multiply 18 = .ok (.ireturn, 1) := by decide +kernel
theorem dL_multiply_19 : decode cL_multiply 19 = .ok (.iconst 0, 1) := by decide +kernel
theorem dL_multiply_20 : decode cL_multiply 20 = .ok (.ireturn, 1) := by decide +kernel
set_option maxRecDepth 20000 in
theorem ggL_cost_X3_cost : GoodIn wsL_cost wsX3_cost := goodIn_ca (goodIn_r _ [6, 7, 8, 9, 10, 5, 11, 12, 13, 14, 15, 16, 17, 18, 19, 20, 21, 22, 23, 24, 25, 26, 27, 28, 29, 30, 31, 32, 33, 34, 35, 36, 37, 38, 39, 40, 41, 42, 43, 44, 45, 46, 47, 48, 49, 50] (by decide +kernel) (by decide +kernel)) (goodIn_sub (fun _ h => List.mem_cons_of_mem _ (List.mem_append_right _ h)) (by decide +kernel))
set_option maxRecDepth 20000 in
theorem gL_cost_X3_cost : GoodIn wsL_cost (wsV RL 34 RX3 yX3_cost wsX3_cost) := goodIn_app (goodIn_of _ (by decide +kernel)) ggL_cost_X3_cost
theorem dL_cost_0 : decode cL_cost 0 = .ok (.aload 4, 2) := by decide +kernel
theorem dL_cost_2 : decode cL_cost 2 = .ok (.iconst 0, 1) := by decide +kernel
theorem dL_cost_3 : decode cL_cost 3 = .ok (.aload_n 0, 1) := by decide +kernel
theorem dL_cost_4 : decode cL_cost 4 = .ok (.iload_n 1, 1) := by decide +kernel
theorem dL_cost_5 : decode cL_cost 5 = .ok (.iload_n 2, 1) := by decide +kernel
theorem dL_cost_6 : decode cL_cost 6 = .ok (.iload_n 3, 1) := by decide +kernel
theorem dL_cost_7 : decode cL_cost 7 = .ok (.invokevirtual 34, 3) := by decide +kernel
theorem dL_cost_10 : decode cL_cost 10 = .ok (.i2l, 1) := by decide +kernel
theorem dL_cost_11 : decode cL_cost 11 = .ok (.lastore, 1) := by decide +kernel
theorem dL_cost_12 : decode cL_cost 12 = .ok (.goto 7, 3) := by decide +kernel
theorem dL_cost_15 : decode cL_cost 15 = .ok (.astore 5, 2) := by decide +kernel
theorem dL_cost_17 : decode cL_cost 17 = .ok (.iconst 1, 1) := by decide +kernel
theorem dL_cost_18 : decode cL_cost 18 = .ok (.ireturn, 1) := by decide +kernel
theorem dL_cost_19 : decode cL_cost 19 = .ok (.iconst 0, 1) := by decide +kernel
theorem dL_cost_20 : decode cL_cost 20 = .ok (.ireturn, 1) := by decide +kernel
set_option maxRecDepth 20000 in
theorem ggL_cheapest_X3_cheapest : GoodIn wsL_cheapest wsX3_cheapest := goodIn_ca (goodIn_r _ [6, 7, 8, 9, 10, 5, 11, 12, 13, 14, 15, 16, 17, 18, 19, 20, 21, 22, 23, 24, 25, 26, 27, 28, 29, 30, 31, 32, 33, 34, 35, 36, 37, 38, 39, 40, 41, 42, 43, 44, 45, 46, 47, 48, 49, 50, 51, 52, 53, 54, 55, 56, 57, 58, 59, 60] (by decide +kernel) (by decide +kernel)) (goodIn_sub (fun _ h => List.mem_cons_of_mem _ (List.mem_append_right _ h)) (by decide +kernel))
set_option maxRecDepth 20000 in
theorem gL_cheapest_X3_cheapest : GoodIn wsL_cheapest (wsV RL 37 RX3 yX3_cheapest wsX3_cheapest) := goodIn_app (goodIn_of _ (by decide +kernel)) ggL_cheapest_X3_cheapest
theorem dL_cheapest_0 : decode cL_cheapest 0 = .ok (.aload_n 3, 1) := by decide +kernel
theorem dL_cheapest_1 : decode cL_cheapest 1 = .ok (.iconst 0, 1) := by decide +kernel
theorem dL_cheapest_2 : decode cL_cheapest 2 = .ok (.aload_n 0, 1) := by decide +kernel
theorem dL_cheapest_3 : decode cL_cheapest 3 = .ok (.iload_n 1, 1) := by decide +kernel
theorem dL_cheapest_4 : decode cL_cheapest 4 = .ok (.iload_n 2, 1) := by decide +kernel
theorem dL_cheapest_5 : decode cL_cheapest 5 = .ok (.invokevirtual 37, 3) := by decide +kernel
theorem dL_cheapest_8 : decode cL_cheapest 8 = .ok (.i2l, 1) := by decide +kernel
theorem dL_cheapest_9 : decode cL_cheapest 9 = .ok (.lastore, 1) := by decide +kernel
theorem dL_cheapest_10 : decode cL_cheapest 10 = .ok (.goto 7, 3) := by decide +kernel
theorem dL_cheapest_13 : decode cL_cheapest 13 = .ok (.astore 4, 2) := by decide +kernel
theorem dL_cheapest_15 : decode cL_cheapest 15 = .ok (.iconst 1, 1) := by decide +kernel
theorem dL_cheapest_16 : decode cL_cheapest 16 = .ok (.ireturn, 1) := by decide +kernel
theorem dL_cheapest_17 : decode cL_cheapest 17 = .ok (.iconst 0, 1) := by decide +kernel
theorem dL_cheapest_18 : decode cL_cheapest 18 = .ok (.ireturn, 1) := by decide +kernel
set_option maxRecDepth 20000 in
theorem ggL_fraction_X3_fraction : GoodIn wsL_fraction wsX3_fraction := goodIn_ca (goodIn_r _ [6, 7, 8, 9, 10, 5, 11, 12, 13, 14, 15, 16, 17, 18, 19, 20, 21, 22, 23, 24, 25, 26, 27, 28, 29, 30, 31, 32, 33, 34, 35, 36, 37, 38, 39, 40, 41, 42, 43, 44, 45, 46] (by decide +kernel) (by decide +kernel)) (goodIn_sub (fun _ h => List.mem_cons_of_mem _ (List.mem_append_right _ h)) (by decide +kernel))
set_option maxRecDepth 20000 in
theorem gL_fraction_X3_fraction : GoodIn wsL_fraction (wsV RL 40 RX3 yX3_fraction wsX3_fraction) := goodIn_app (goodIn_of _ (by decide +kernel)) ggL_fraction_X3_fraction
theorem dL_fraction_0 : decode cL_fraction 0 = .ok (.aload 6, 2) := by decide +kernel
theorem dL_fraction_2 : decode cL_fraction 2 = .ok (.iconst 0, 1) := by decide +kernel
theorem dL_fraction_3 : decode cL_fraction 3 = .ok (.aload_n 0, 1) := by decide +kernel
theorem dL_fraction_4 : decode cL_fraction 4 = .ok (.iload_n 1, 1) := by decide +kernel
theorem dL_fraction_5 : decode cL_fraction 5 = .ok (.iload_n 2, 1) := by decide +kernel
theorem dL_fraction_6 : decode cL_fraction 6 = .ok (.iload_n 3, 1) := by decide +kernel
theorem dL_fraction_7 : decode cL_fraction 7 = .ok (.iload 4, 2) := by decide +kernel
theorem dL_fraction_9 : decode cL_fraction 9 = .ok (.iload 5, 2) := by decide +kernel
theorem dL_fraction_11 : decode cL_fraction 11 = .ok (.invokevirtual 40, 3) := by decide +kernel
theorem dL_fraction_14 : decode cL_fraction 14 = .ok (.i2l, 1) := by decide +kernel
theorem dL_fraction_15 : decode cL_fraction 15 = .ok (.lastore, 1) := by decide +kernel
theorem dL_fraction_16 : decode cL_fraction 16 = .ok (.goto 7, 3) := by decide +kernel
theorem dL_fraction_19 : decode cL_fraction 19 = .ok (.astore 7, 2) := by decide +kernel
theorem dL_fraction_21 : decode cL_fraction 21 = .ok (.iconst 1, 1) := by decide +kernel
theorem dL_fraction_22 : decode cL_fraction 22 = .ok (.ireturn, 1) := by decide +kernel
theorem dL_fraction_23 : decode cL_fraction 23 = .ok (.iconst 0, 1) := by decide +kernel
theorem dL_fraction_24 : decode cL_fraction 24 = .ok (.ireturn, 1) := by decide +kernel
set_option maxRecDepth 20000 in
theorem ggL_error_X3_error : GoodIn wsL_error wsX3_error := goodIn_ca (goodIn_r _ [6, 7, 8, 9, 10, 5, 11, 12, 13, 14, 15, 16, 17, 18, 19, 20, 21, 22, 23, 24, 25, 26, 27, 28, 29, 30, 31, 32, 33, 34, 35, 36, 37, 38, 39, 40, 41, 42, 43] (by decide +kernel) (by decide +kernel)) (goodIn_sub (fun _ h => List.mem_cons_of_mem _ (List.mem_append_right _ h)) (by decide +kernel))
set_option maxRecDepth 20000 in
theorem gL_error_X3_error : GoodIn wsL_error (wsV RL 44 RX3 yX3_error wsX3_error) := goodIn_app (goodIn_of _ (by decide +kernel)) ggL_error_X3_error
theorem dL_error_0 : decode cL_error 0 = .ok (.aload 5, 2) := by decide +kernel
theorem dL_error_2 : decode cL_error 2 = .ok (.iconst 0, 1) := by decide +kernel
theorem dL_error_3 : decode cL_error 3 = .ok (.aload_n 0, 1) := by decide +kernel
theorem dL_error_4 : decode cL_error 4 = .ok (.iload_n 1, 1) := by decide +kernel
theorem dL_error_5 : decode cL_error 5 = .ok (.iload_n 2, 1) := by decide +kernel
theorem dL_error_6 : decode cL_error 6 = .ok (.iload_n 3, 1) := by decide +kernel
theorem dL_error_7 : decode cL_error 7 = .ok (.iload 4, 2) := by decide +kernel
theorem dL_error_9 : decode cL_error 9 = .ok (.invokevirtual 44, 3) := by decide +kernel
theorem dL_error_12 : decode cL_error 12 = .ok (.dastore, 1) := by decide +kernel
theorem dL_error_13 : decode cL_error 13 = .ok (.goto 7, 3) := by decide +kernel
theorem dL_error_16 : decode cL_error 16 = .ok (.astore 6, 2) := by decide +kernel
theorem dL_error_18 : decode cL_error 18 = .ok (.iconst 1, 1) := by decide +kernel
theorem dL_error_19 : decode cL_error 19 = .ok (.ireturn, 1) := by decide +kernel
theorem dL_error_20 : decode cL_error 20 = .ok (.iconst 0, 1) := by decide +kernel
theorem dL_error_21 : decode cL_error 21 = .ok (.ireturn, 1) := by decide +kernel
set_option maxRecDepth 20000 in
theorem ggL_entry_X3_entry : GoodIn wsL_entry wsX3_entry := goodIn_ca (goodIn_ca (goodIn_r _ [7, 8, 9, 10, 11, 12, 6, 13, 14, 15, 16, 17, 18, 19, 20, 21, 22, 23, 24, 25, 26, 27, 28, 29, 30, 31, 32, 33, 34, 35, 36, 37, 38, 39, 40, 41, 42, 43, 44, 45, 46, 47, 48, 49, 50, 51, 52, 53, 54, 55, 56, 57, 58, 59, 60, 61, 62] (by decide +kernel) (by decide +kernel)) (goodIn_sub (fun _ h => List.mem_cons_of_mem _ (List.mem_append_left _ (List.mem_append_right _ h))) (by decide +kernel))) (goodIn_sub (fun _ h => List.mem_cons_of_mem _ (List.mem_append_right _ h)) (by decide +kernel))
set_option maxRecDepth 20000 in
theorem gL_entry_X3_entry : GoodIn wsL_entry (wsV RL 48 RX3 yX3_entry wsX3_entry) := goodIn_app (goodIn_of _ (by decide +kernel)) ggL_entry_X3_entry
theorem dL_entry_0 : decode cL_entry 0 = .ok (.aload_n 3, 1) := by decide +kernel
theorem dL_entry_1 : decode cL_entry 1 = .ok (.iconst 0, 1) := by decide +kernel
theorem dL_entry_2 : decode cL_entry 2 = .ok (.aload_n 0, 1) := by decide +kernel
theorem dL_entry_3 : decode cL_entry 3 = .ok (.iload_n 1, 1) := by decide +kernel
theorem dL_entry_4 : decode cL_entry 4 = .ok (.iload_n 2, 1) := by decide +kernel
theorem dL_entry_5 : decode cL_entry 5 = .ok (.invokevirtual 48, 3) := by decide +kernel
theorem dL_entry_8 : decode cL_entry 8 = .ok (.i2l, 1) := by decide +kernel
theorem dL_entry_9 : decode cL_entry 9 = .ok (.lastore, 1) := by decide +kernel
theorem dL_entry_10 : decode cL_entry 10 = .ok (.goto 11, 3) := by decide +kernel
theorem dL_entry_13 : decode cL_entry 13 = .ok (.astore 4, 2) := by decide +kernel
theorem dL_entry_15 : decode cL_entry 15 = .ok (.iconst 1, 1) := by decide +kernel
theorem dL_entry_16 : decode cL_entry 16 = .ok (.ireturn, 1) := by decide +kernel
theorem dL_entry_17 : decode cL_entry 17 = .ok (.astore 4, 2) := by decide +kernel
theorem dL_entry_19 : decode cL_entry 19 = .ok (.iconst 2, 1) := by decide +kernel
theorem dL_entry_20 : decode cL_entry 20 = .ok (.ireturn, 1) := by decide +kernel
theorem dL_entry_21 : decode cL_entry 21 = .ok (.iconst 0, 1) := by decide +kernel
theorem dL_entry_22 : decode cL_entry 22 = .ok (.ireturn, 1) := by decide +kernel
set_option maxRecDepth 20000 in
theorem ggL_register_X3_register : GoodIn wsL_register wsX3_register := goodIn_ca (goodIn_r _ [6, 7, 8, 9, 10, 5, 11, 12, 13, 14, 15, 16, 17, 18, 19, 20, 21, 22] (by decide +kernel) (by decide +kernel)) (goodIn_sub (fun _ h => List.mem_cons_of_mem _ (List.mem_append_right _ h)) (by decide +kernel))
set_option maxRecDepth 20000 in
theorem gL_register_X3_register : GoodIn wsL_register (wsV RL 51 RX3 yX3_register wsX3_register) := goodIn_app (goodIn_of _ (by decide +kernel)) ggL_register_X3_register
theorem dL_register_0 : decode cL_register 0 = .ok (.aload_n 2, 1) := by decide +kernel
theorem dL_register_1 : decode cL_register 1 = .ok (.iconst 0, 1) := by decide +kernel
theorem dL_register_2 : decode cL_register 2 = .ok (.aload_n 0, 1) := by decide +kernel
theorem dL_register_3 : decode cL_register 3 = .ok (.iload_n 1, 1) := by decide +kernel
theorem dL_register_4 : decode cL_register 4 = .ok (.invokevirtual 51, 3) := by decide +kernel
theorem dL_register_7 : decode cL_register 7 = .ok (.i2l, 1) := by decide +kernel
theorem dL_register_8 : decode cL_register 8 = .ok (.lastore, 1) := by decide +kernel
theorem dL_register_9 : decode cL_register 9 = .ok (.goto 6, 3) := by decide +kernel
theorem dL_register_12 : decode cL_register 12 = .ok (.astore_n 3, 1) := by decide +kernel
theorem dL_register_13 : decode cL_register 13 = .ok (.iconst 1, 1) := by decide +kernel
theorem dL_register_14 : decode cL_register 14 = .ok (.ireturn, 1) := by decide +kernel
theorem dL_register_15 : decode cL_register 15 = .ok (.iconst 0, 1) := by decide +kernel
theorem dL_register_16 : decode cL_register 16 = .ok (.ireturn, 1) := by decide +kernel
set_option maxRecDepth 20000 in
theorem ggL_value_X3_value : GoodIn wsL_value wsX3_value := goodIn_ca (goodIn_r _ [6, 7, 8, 9, 5, 10, 11, 12, 13, 14, 15, 16, 17, 18, 19, 20, 21, 22, 23, 24, 25, 26, 27, 28, 29, 30, 31, 32, 33, 34, 35, 36, 37, 38, 39, 40, 41, 42, 43, 44, 45, 46, 47, 48, 49, 50, 51, 52, 53, 54, 55, 56, 57, 58, 59, 60, 61, 62, 63, 64, 65, 66, 67, 68, 69] (by decide +kernel) (by decide +kernel)) (goodIn_sub (fun _ h => List.mem_cons_of_mem _ (List.mem_append_right _ h)) (by decide +kernel))
set_option maxRecDepth 20000 in
theorem gL_value_X3_value : GoodIn wsL_value (wsV RL 54 RX3 yX3_value wsX3_value) := goodIn_app (goodIn_of _ (by decide +kernel)) ggL_value_X3_value
theorem dL_value_0 : decode cL_value 0 = .ok (.aload_n 2, 1) := by decide +kernel
theorem dL_value_1 : decode cL_value 1 = .ok (.iconst 0, 1) := by decide +kernel
theorem dL_value_2 : decode cL_value 2 = .ok (.aload_n 0, 1) := by decide +kernel
theorem dL_value_3 : decode cL_value 3 = .ok (.iload_n 1, 1) := by decide +kernel
theorem dL_value_4 : decode cL_value 4 = .ok (.invokevirtual 54, 3) := by decide +kernel
theorem dL_value_7 : decode cL_value 7 = .ok (.i2l, 1) := by decide +kernel
theorem dL_value_8 : decode cL_value 8 = .ok (.lastore, 1) := by decide +kernel
theorem dL_value_9 : decode cL_value 9 = .ok (.goto 6, 3) := by decide +kernel
theorem dL_value_12 : decode cL_value 12 = .ok (.astore_n 3, 1) := by decide +kernel
theorem dL_value_13 : decode cL_value 13 = .ok (.iconst 1, 1) := by decide +kernel
theorem dL_value_14 : decode cL_value 14 = .ok (.ireturn, 1) := by decide +kernel
theorem dL_value_15 : decode cL_value 15 = .ok (.iconst 0, 1) := by decide +kernel
theorem dL_value_16 : decode cL_value 16 = .ok (.ireturn, 1) := by decide +kernel
set_option maxRecDepth 20000 in
theorem ggL_wrongPairsWith_X3_wrongPairsWith : GoodIn wsL_wrongPairsWith wsX3_wrongPairsWith := goodIn_ca (goodIn_r _ [6, 7, 8, 9, 10, 5, 11, 12, 13, 14, 15, 16, 17, 18, 19, 20, 21, 22, 23, 24, 25, 26, 27, 28, 29, 30, 31, 32, 33, 34, 35, 36, 37, 38, 39, 40, 41, 42, 43, 44, 45, 46, 47, 48, 49, 50, 51, 52, 53, 54, 55, 56, 57, 58, 59, 60, 61, 62] (by decide +kernel) (by decide +kernel)) (goodIn_sub (fun _ h => List.mem_cons_of_mem _ (List.mem_append_right _ h)) (by decide +kernel))
set_option maxRecDepth 20000 in
theorem gL_wrongPairsWith_X3_wrongPairsWith : GoodIn wsL_wrongPairsWith (wsV RL 57 RX3 yX3_wrongPairsWith wsX3_wrongPairsWith) := goodIn_app (goodIn_of _ (by decide +kernel)) ggL_wrongPairsWith_X3_wrongPairsWith
theorem dL_wrongPairsWith_0 : decode cL_wrongPairsWith 0 = .ok (.aload_n 2, 1) := by decide +kernel
theorem dL_wrongPairsWith_1 : decode cL_wrongPairsWith 1 = .ok (.iconst 0, 1) := by decide +kernel
theorem dL_wrongPairsWith_2 : decode cL_wrongPairsWith 2 = .ok (.aload_n 0, 1) := by decide +kernel
theorem dL_wrongPairsWith_3 : decode cL_wrongPairsWith 3 = .ok (.iload_n 1, 1) := by decide +kernel
theorem dL_wrongPairsWith_4 : decode cL_wrongPairsWith 4 = .ok (.invokevirtual 57, 3) := by decide +kernel
theorem dL_wrongPairsWith_7 : decode cL_wrongPairsWith 7 = .ok (.i2l, 1) := by decide +kernel
theorem dL_wrongPairsWith_8 : decode cL_wrongPairsWith 8 = .ok (.lastore, 1) := by decide +kernel
theorem dL_wrongPairsWith_9 : decode cL_wrongPairsWith 9 = .ok (.goto 6, 3) := by decide +kernel
theorem dL_wrongPairsWith_12 : decode cL_wrongPairsWith 12 = .ok (.astore_n 3, 1) := by decide +kernel
theorem dL_wrongPairsWith_13 : decode cL_wrongPairsWith 13 = .ok (.iconst 1, 1) := by decide +kernel
theorem dL_wrongPairsWith_14 : decode cL_wrongPairsWith 14 = .ok (.ireturn, 1) := by decide +kernel
theorem dL_wrongPairsWith_15 : decode cL_wrongPairsWith 15 = .ok (.iconst 0, 1) := by decide +kernel
theorem dL_wrongPairsWith_16 : decode cL_wrongPairsWith 16 = .ok (.ireturn, 1) := by decide +kernel
set_option maxRecDepth 20000 in
theorem ggL_cheaperPairs_X3_cheaperPairs : GoodIn wsL_cheaperPairs wsX3_cheaperPairs := goodIn_ca (goodIn_r _ [6, 7, 8, 9, 5, 10, 11, 12, 13, 14, 15, 16, 17, 18, 19, 20, 21, 22, 23, 24, 25, 26, 27, 28, 29, 30, 31, 32, 33, 34, 35, 36, 37, 38, 39, 40, 41, 42, 43, 44, 45, 46] (by decide +kernel) (by decide +kernel)) (goodIn_sub (fun _ h => List.mem_cons_of_mem _ (List.mem_append_right _ h)) (by decide +kernel))
set_option maxRecDepth 20000 in
theorem gL_cheaperPairs_X3_cheaperPairs : GoodIn wsL_cheaperPairs (wsV RL 60 RX3 yX3_cheaperPairs wsX3_cheaperPairs) := goodIn_app (goodIn_of _ (by decide +kernel)) ggL_cheaperPairs_X3_cheaperPairs
theorem dL_cheaperPairs_0 : decode cL_cheaperPairs 0 = .ok (.aload_n 3, 1) := by decide +kernel
theorem dL_cheaperPairs_1 : decode cL_cheaperPairs 1 = .ok (.iconst 0, 1) := by decide +kernel
theorem dL_cheaperPairs_2 : decode cL_cheaperPairs 2 = .ok (.aload_n 0, 1) := by decide +kernel
theorem dL_cheaperPairs_3 : decode cL_cheaperPairs 3 = .ok (.iload_n 1, 1) := by decide +kernel
theorem dL_cheaperPairs_4 : decode cL_cheaperPairs 4 = .ok (.iload_n 2, 1) := by decide +kernel
theorem dL_cheaperPairs_5 : decode cL_cheaperPairs 5 = .ok (.invokevirtual 60, 3) := by decide +kernel
theorem dL_cheaperPairs_8 : decode cL_cheaperPairs 8 = .ok (.i2l, 1) := by decide +kernel
theorem dL_cheaperPairs_9 : decode cL_cheaperPairs 9 = .ok (.lastore, 1) := by decide +kernel
theorem dL_cheaperPairs_10 : decode cL_cheaperPairs 10 = .ok (.goto 7, 3) := by decide +kernel
theorem dL_cheaperPairs_13 : decode cL_cheaperPairs 13 = .ok (.astore 4, 2) := by decide +kernel
theorem dL_cheaperPairs_15 : decode cL_cheaperPairs 15 = .ok (.iconst 1, 1) := by decide +kernel
theorem dL_cheaperPairs_16 : decode cL_cheaperPairs 16 = .ok (.ireturn, 1) := by decide +kernel
theorem dL_cheaperPairs_17 : decode cL_cheaperPairs 17 = .ok (.iconst 0, 1) := by decide +kernel
theorem dL_cheaperPairs_18 : decode cL_cheaperPairs 18 = .ok (.ireturn, 1) := by decide +kernel
set_option maxRecDepth 20000 in
theorem ggL_append_X3_append : GoodIn wsL_append wsX3_append := goodIn_ca (goodIn_ca (goodIn_r _ [7, 8, 9, 10, 11, 12, 13, 14, 6, 15, 16, 17, 18, 19, 20, 21, 22, 23, 24, 25, 26, 27, 28, 29, 30, 31, 32, 33, 34] (by decide +kernel) (by decide +kernel)) (goodIn_sub (fun _ h => List.mem_cons_of_mem _ (List.mem_append_left _ (List.mem_append_right _ h))) (by decide +kernel))) (goodIn_sub (fun _ h => List.mem_cons_of_mem _ (List.mem_append_right _ h)) (by decide +kernel))
set_option maxRecDepth 20000 in
theorem gL_append_X3_append : GoodIn wsL_append (wsV RL 63 RX3 yX3_append wsX3_append) := goodIn_app (goodIn_of _ (by decide +kernel)) ggL_append_X3_append
theorem dL_append_0 : decode cL_append 0 = .ok (.aload_n 2, 1) := by decide +kernel
theorem dL_append_1 : decode cL_append 1 = .ok (.iconst 0, 1) := by decide +kernel
theorem dL_append_2 : decode cL_append 2 = .ok (.aload_n 0, 1) := by decide +kernel
theorem dL_append_3 : decode cL_append 3 = .ok (.iload_n 1, 1) := by decide +kernel
theorem dL_append_4 : decode cL_append 4 = .ok (.invokevirtual 63, 3) := by decide +kernel
theorem dL_append_7 : decode cL_append 7 = .ok (.i2l, 1) := by decide +kernel
theorem dL_append_8 : decode cL_append 8 = .ok (.lastore, 1) := by decide +kernel
theorem dL_append_9 : decode cL_append 9 = .ok (.goto 9, 3) := by decide +kernel
theorem dL_append_12 : decode cL_append 12 = .ok (.astore_n 3, 1) := by decide +kernel
theorem dL_append_13 : decode cL_append 13 = .ok (.iconst 1, 1) := by decide +kernel
theorem dL_append_14 : decode cL_append 14 = .ok (.ireturn, 1) := by decide +kernel
theorem dL_append_15 : decode cL_append 15 = .ok (.astore_n 3, 1) := by decide +kernel
theorem dL_append_16 : decode cL_append 16 = .ok (.iconst 2, 1) := by decide +kernel
theorem dL_append_17 : decode cL_append 17 = .ok (.ireturn, 1) := by decide +kernel
theorem dL_append_18 : decode cL_append 18 = .ok (.iconst 0, 1) := by decide +kernel
theorem dL_append_19 : decode cL_append 19 = .ok (.ireturn, 1) := by decide +kernel
set_option maxRecDepth 20000 in
theorem ggL_undo_X3_undo : GoodIn wsL_undo wsX3_undo := goodIn_ca (goodIn_r _ [6, 7, 8, 9, 10, 11, 12, 13, 14, 15, 16, 17, 18, 19, 20, 21, 22, 23, 24, 25, 26, 27, 28, 29, 30, 31, 32, 33, 34, 35, 36, 37, 38, 39, 40, 41, 42, 43, 44, 45] (by decide +kernel) (by decide +kernel)) (goodIn_sub (fun _ h => List.mem_cons_of_mem _ (List.mem_append_right _ h)) (by decide +kernel))
set_option maxRecDepth 20000 in
theorem gL_undo_X3_undo : GoodIn wsL_undo (wsV RL 68 RX3 yX3_undo wsX3_undo) := goodIn_app (goodIn_of _ (by decide +kernel)) ggL_undo_X3_undo
theorem dL_undo_0 : decode cL_undo 0 = .ok (.aload_n 1, 1) := by decide +kernel
theorem dL_undo_1 : decode cL_undo 1 = .ok (.iconst 0, 1) := by decide +kernel
theorem dL_undo_2 : decode cL_undo 2 = .ok (.aload_n 0, 1) := by decide +kernel
theorem dL_undo_3 : decode cL_undo 3 = .ok (.invokevirtual 68, 3) := by decide +kernel
theorem dL_undo_6 : decode cL_undo 6 = .ok (.i2l, 1) := by decide +kernel
theorem dL_undo_7 : decode cL_undo 7 = .ok (.lastore, 1) := by decide +kernel
theorem dL_undo_8 : decode cL_undo 8 = .ok (.goto 6, 3) := by decide +kernel
theorem dL_undo_11 : decode cL_undo 11 = .ok (.astore_n 2, 1) := by decide +kernel
theorem dL_undo_12 : decode cL_undo 12 = .ok (.iconst 1, 1) := by decide +kernel
theorem dL_undo_13 : decode cL_undo 13 = .ok (.ireturn, 1) := by decide +kernel
theorem dL_undo_14 : decode cL_undo 14 = .ok (.iconst 0, 1) := by decide +kernel
theorem dL_undo_15 : decode cL_undo 15 = .ok (.ireturn, 1) := by decide +kernel
set_option maxRecDepth 20000 in
theorem ggL_law_X3_init : GoodIn wsL_law wsX3_init := goodIn_r _ [10, 11, 12, 13, 14, 15, 16, 17, 18, 19, 20, 21, 22, 23, 24, 25, 26, 27, 28, 29, 30, 31, 32, 33, 34, 35, 36, 37, 38, 39, 40, 41, 42, 43, 44, 45, 46, 47, 48, 49, 2, 50, 51, 52, 53, 54, 55, 56, 57, 58, 59, 60, 61, 62, 63, 64, 65, 66, 67, 68, 69, 70, 724, 725, 726, 727, 728, 709, 710, 711, 712, 729, 730, 731, 732, 733, 734, 735, 736, 737, 738, 739, 740, 741, 742, 743, 744] (by decide +kernel) (by decide +kernel)
set_option maxRecDepth 20000 in
theorem gL_law_X3_init : GoodIn wsL_law (wsX3_init) := ggL_law_X3_init
set_option maxRecDepth 20000 in
theorem ggL_law_X4_init : GoodIn wsL_law wsX4_init := goodIn_r _ [73, 74, 12, 13, 26, 75, 76, 6, 77, 78, 79, 80, 81, 82, 5, 83, 84, 85, 86, 87, 88, 89, 90, 91, 92, 93, 94, 95, 713, 714, 715, 716, 717, 718, 719, 720, 721, 722, 723] (by decide +kernel) (by decide +kernel)
set_option maxRecDepth 20000 in
theorem gL_law_X4_init : GoodIn wsL_law (wsX4_init) := ggL_law_X4_init
set_option maxRecDepth 20000 in
theorem ggL_law_L_setWidth : GoodIn wsL_law wsL_setWidth := goodIn_ca (goodIn_r _ [99, 100, 101, 102, 103, 2, 104, 21, 17, 105, 106, 107, 108, 109, 110, 111, 112, 20, 113, 60, 114, 115, 116, 117, 118, 119, 120, 121, 122, 16, 123, 39, 40, 32, 124, 125, 126, 127, 33, 34, 128, 129, 130, 131, 41, 42, 43, 44, 45, 46, 47, 48, 49, 50, 132, 36, 37, 38, 51, 52, 53, 54, 709, 710, 711, 712, 729, 730, 731, 724, 725, 726, 727, 728] (by decide +kernel) (by decide +kernel)) (goodIn_sub (fun _ h => List.mem_append_left _ (List.mem_append_left _ (List.mem_append_right _ h))) (by decide +kernel))
set_option maxRecDepth 20000 in
theorem gL_law_L_setWidth : GoodIn wsL_law (va_wsS RL 76 yL_setWidth wsL_setWidth) := goodIn_app (goodIn_of _ (by decide +kernel)) ggL_law_L_setWidth
set_option maxRecDepth 20000 in
theorem ggL_law_X4_setWidth : GoodIn wsL_law wsX4_setWidth := goodIn_r _ [136, 137, 138, 5, 139, 140, 141, 142, 143, 144, 145, 146, 147, 148, 149, 76, 77, 75, 84, 150, 151, 152, 153, 85, 86, 87, 88, 89, 90, 91, 92, 154, 155, 156, 157, 93, 94, 95, 158, 159, 160, 80, 81, 82, 83, 161, 162, 163, 164, 713, 714, 715, 716, 717, 718, 719, 720, 721, 722, 723] (by decide +kernel) (by decide +kernel)
set_option maxRecDepth 20000 in
theorem gL_law_X4_setWidth : GoodIn wsL_law (wsV RL 81 RX4 yX4_setWidth wsX4_setWidth) := goodIn_app (goodIn_of _ (by decide +kernel)) ggL_law_X4_setWidth
set_option maxRecDepth 20000 in
theorem ggL_law_X4_thrown : GoodIn wsL_law wsX4_thrown := goodIn_r _ [168, 144, 713, 714, 715, 716, 717, 718, 719, 720, 721, 722, 723] (by decide +kernel) (by decide +kernel)
set_option maxRecDepth 20000 in
theorem gL_law_X4_thrown : GoodIn wsL_law (wsV RL 82 RX4 yX4_thrown wsX4_thrown) := goodIn_app (goodIn_of _ (by decide +kernel)) ggL_law_X4_thrown
set_option maxRecDepth 20000 in
theorem ggL_law_L_setCost : GoodIn wsL_law wsL_setCost := goodIn_ca (goodIn_r _ [171, 100, 172, 173, 174, 2, 175, 21, 17, 176, 105, 106, 107, 108, 109, 110, 111, 112, 20, 113, 60, 114, 115, 116, 117, 118, 119, 120, 121, 122, 16, 123, 39, 40, 32, 124, 125, 126, 127, 33, 34, 709, 710, 711, 712, 724, 725, 726, 727, 728, 729, 730, 731] (by decide +kernel) (by decide +kernel)) (goodIn_sub (fun _ h => List.mem_append_left _ (List.mem_append_left _ (List.mem_append_right _ h))) (by decide +kernel))
set_option maxRecDepth 20000 in
theorem gL_law_L_setCost : GoodIn wsL_law (va_wsS RL 85 yL_setCost wsL_setCost) := goodIn_app (goodIn_of _ (by decide +kernel)) ggL_law_L_setCost
set_option maxRecDepth 20000 in
theorem ggL_law_X4_setCost : GoodIn wsL_law wsX4_setCost := goodIn_r _ [180, 75, 137, 138, 5, 139, 140, 141, 142, 143, 144, 145, 146, 147, 148, 149, 76, 77, 84, 161, 162, 163, 164, 713, 714, 715, 716, 717, 718, 719, 720, 721, 722, 723] (by decide +kernel) (by decide +kernel)
set_option maxRecDepth 20000 in
theorem gL_law_X4_setCost : GoodIn wsL_law (wsV RL 88 RX4 yX4_setCost wsX4_setCost) := goodIn_app (goodIn_of _ (by decide +kernel)) ggL_law_X4_setCost
set_option maxRecDepth 20000 in
theorem ggL_law_L_flip : GoodIn wsL_law wsL_flip := goodIn_ca (goodIn_ca (goodIn_r _ [183, 184, 100, 185, 186, 187, 2, 188, 21, 17, 189, 190, 191, 192, 193, 194, 195, 196, 42, 43, 16, 44, 45, 46, 47, 48, 39, 105, 106, 107, 108, 109, 110, 111, 112, 20, 113, 60, 114, 115, 116, 117, 118, 119, 120, 121, 122, 123, 40, 32, 124, 125, 126, 127, 33, 34, 709, 710, 711, 712, 724, 725, 726, 727, 728, 729, 730, 731] (by decide +kernel) (by decide +kernel)) (goodIn_sub (fun _ h => List.mem_append_left _ (List.mem_append_right _ h)) (by decide +kernel))) (goodIn_sub (fun _ h => List.mem_append_left _ (List.mem_append_left _ (List.mem_append_right _ h))) (by decide +kernel))
set_option maxRecDepth 20000 in
theorem gL_law_L_flip : GoodIn wsL_law (va_wsS RL 89 yL_flip wsL_flip) := goodIn_app (goodIn_of _ (by decide +kernel)) ggL_law_L_flip
set_option maxRecDepth 20000 in
theorem ggL_law_X4_flip : GoodIn wsL_law wsX4_flip := goodIn_r _ [200, 75, 201, 202, 203, 5, 204, 85, 86, 87, 88, 89, 90, 91, 92, 137, 138, 139, 140, 141, 142, 143, 144, 145, 146, 147, 148, 149, 76, 77, 84, 161, 162, 163, 164, 713, 714, 715, 716, 717, 718, 719, 720, 721, 722, 723] (by decide +kernel) (by decide +kernel)
set_option maxRecDepth 20000 in
theorem gL_law_X4_flip : GoodIn wsL_law (wsV RL 91 RX4 yX4_flip wsX4_flip) := goodIn_app (goodIn_of _ (by decide +kernel)) ggL_law_X4_flip
set_option maxRecDepth 20000 in
theorem ggL_law_L_repair : GoodIn wsL_law wsL_repair := goodIn_ca (goodIn_r _ [207, 184, 208, 209, 210, 2, 211, 21, 17, 189, 190, 191, 192, 193, 194, 195, 196, 42, 43, 16, 44, 45, 46, 47, 48, 39, 110, 111, 112, 20, 113, 60, 114, 115, 116, 117, 118, 119, 120, 121, 122, 123, 40, 32, 124, 125, 126, 127, 33, 34, 212, 213, 214, 215, 49, 50, 216, 217, 218, 219, 220, 221, 222, 223, 709, 710, 711, 712, 724, 725, 726, 727, 728, 729, 730, 731] (by decide +kernel) (by decide +kernel)) (goodIn_sub (fun _ h => List.mem_append_left _ (List.mem_append_right _ h)) (by decide +kernel))
set_option maxRecDepth 20000 in
theorem gL_law_L_repair : GoodIn wsL_law (va_wsS RL 92 yL_repair wsL_repair) := goodIn_app (goodIn_of _ (by decide +kernel)) ggL_law_L_repair
set_option maxRecDepth 20000 in
theorem ggL_law_X4_repair : GoodIn wsL_law wsX4_repair := goodIn_r _ [227, 75, 201, 202, 203, 5, 204, 85, 86, 87, 88, 89, 90, 91, 92, 137, 138, 139, 140, 141, 142, 143, 144, 145, 146, 147, 148, 149, 76, 77, 84, 154, 155, 156, 157, 93, 94, 95, 158, 159, 160, 161, 162, 163, 164, 713, 714, 715, 716, 717, 718, 719, 720, 721, 722, 723] (by decide +kernel) (by decide +kernel)
set_option maxRecDepth 20000 in
theorem gL_law_X4_repair : GoodIn wsL_law (wsV RL 94 RX4 yX4_repair wsX4_repair) := goodIn_app (goodIn_of _ (by decide +kernel)) ggL_law_X4_repair
set_option maxRecDepth 20000 in
theorem ggL_law_X3_repairByParity : GoodIn wsL_law wsX3_repairByParity := goodIn_r _ [231, 21, 17, 189, 110, 111, 112, 20, 113, 60, 114, 115, 116, 117, 118, 119, 120, 121, 122, 16, 123, 39, 40, 32, 124, 125, 126, 127, 33, 34, 196, 42, 43, 44, 45, 46, 47, 48, 232, 233, 234, 235, 236, 2, 237, 238, 217, 218, 219, 220, 221, 222, 49, 50, 223, 709, 710, 711, 712, 724, 725, 726, 727, 728, 729, 730, 731] (by decide +kernel) (by decide +kernel)
set_option maxRecDepth 20000 in
theorem gL_law_X3_repairByParity : GoodIn wsL_law (wsV RL 95 RX3 yX3_repairByParity wsX3_repairByParity) := goodIn_app (goodIn_of _ (by decide +kernel)) ggL_law_X3_repairByParity
set_option maxRecDepth 20000 in
theorem ggL_law_X4_repairByParity : GoodIn wsL_law wsX4_repairByParity := goodIn_r _ [242, 75, 145, 146, 147, 5, 148, 149, 76, 77, 84, 85, 86, 87, 88, 89, 90, 91, 92, 243, 244, 245, 246, 154, 155, 156, 157, 93, 94, 95, 158, 159, 160, 161, 162, 163, 164, 144, 713, 714, 715, 716, 717, 718, 719, 720, 721, 722, 723] (by decide +kernel) (by decide +kernel)
set_option maxRecDepth 20000 in
theorem gL_law_X4_repairByParity : GoodIn wsL_law (wsV RL 98 RX4 yX4_repairByParity wsX4_repairByParity) := goodIn_app (goodIn_of _ (by decide +kernel)) ggL_law_X4_repairByParity
set_option maxRecDepth 20000 in
theorem ggL_law_L_setRegister : GoodIn wsL_law wsL_setRegister := goodIn_ca (goodIn_ca (goodIn_r _ [249, 184, 100, 250, 251, 252, 2, 253, 21, 17, 254, 255, 256, 257, 194, 195, 258, 259, 260, 261, 262, 46, 47, 16, 48, 39, 105, 106, 107, 108, 109, 110, 111, 112, 20, 113, 60, 114, 115, 116, 117, 118, 119, 120, 121, 122, 123, 40, 32, 124, 125, 126, 127, 33, 34, 709, 710, 711, 712, 724, 725, 726, 727, 728, 729, 730, 731] (by decide +kernel) (by decide +kernel)) (goodIn_sub (fun _ h => List.mem_append_left _ (List.mem_append_right _ h)) (by decide +kernel))) (goodIn_sub (fun _ h => List.mem_append_left _ (List.mem_append_left _ (List.mem_append_right _ h))) (by decide +kernel))
set_option maxRecDepth 20000 in
theorem gL_law_L_setRegister : GoodIn wsL_law (va_wsS RL 99 yL_setRegister wsL_setRegister) := goodIn_app (goodIn_of _ (by decide +kernel)) ggL_law_L_setRegister
set_option maxRecDepth 20000 in
theorem ggL_law_X4_setRegister : GoodIn wsL_law wsX4_setRegister := goodIn_r _ [266, 75, 267, 268, 5, 269, 137, 138, 139, 140, 141, 142, 143, 144, 270, 271, 272, 273, 89, 90, 91, 92, 145, 146, 147, 148, 149, 76, 77, 84, 161, 162, 163, 164, 713, 714, 715, 716, 717, 718, 719, 720, 721, 722, 723] (by decide +kernel) (by decide +kernel)
set_option maxRecDepth 20000 in
theorem gL_law_X4_setRegister : GoodIn wsL_law (wsV RL 101 RX4 yX4_setRegister wsX4_setRegister) := goodIn_app (goodIn_of _ (by decide +kernel)) ggL_law_X4_setRegister
set_option maxRecDepth 20000 in
theorem ggL_law_X3_clearAccount : GoodIn wsL_law wsX3_clearAccount := goodIn_r _ [277, 21, 17, 278, 110, 111, 112, 20, 113, 60, 114, 115, 116, 117, 118, 119, 120, 121, 122, 16, 123, 39, 40, 32, 124, 125, 126, 127, 33, 34, 709, 710, 711, 712, 724, 725, 726, 727, 728, 729, 730, 731] (by decide +kernel) (by decide +kernel)
set_option maxRecDepth 20000 in
theorem gL_law_X3_clearAccount : GoodIn wsL_law (wsV RL 102 RX3 yX3_clearAccount wsX3_clearAccount) := goodIn_app (goodIn_of _ (by decide +kernel)) ggL_law_X3_clearAccount
set_option maxRecDepth 20000 in
theorem ggL_law_X4_clearAccount : GoodIn wsL_law wsX4_clearAccount := goodIn_r _ [282, 144, 84, 145, 146, 147, 5, 148, 149, 76, 77, 75, 713, 714, 715, 716, 717, 718, 719, 720, 721, 722, 723] (by decide +kernel) (by decide +kernel)
set_option maxRecDepth 20000 in
theorem gL_law_X4_clearAccount : GoodIn wsL_law (wsV RL 106 RX4 yX4_clearAccount wsX4_clearAccount) := goodIn_app (goodIn_of _ (by decide +kernel)) ggL_law_X4_clearAccount
set_option maxRecDepth 20000 in
theorem ggL_law_L_multiply : GoodIn wsL_law wsL_multiply := goodIn_ca (goodIn_r _ [285, 100, 286, 287, 288, 2, 289, 17, 258, 259, 260, 261, 262, 46, 47, 16, 48, 39, 105, 106, 107, 108, 109, 290, 291, 292, 293, 294, 295, 296, 33, 297, 298, 118, 299, 709, 710, 711, 712, 724, 725, 726, 727, 728] (by decide +kernel) (by decide +kernel)) (goodIn_sub (fun _ h => List.mem_append_left _ (List.mem_append_left _ (List.mem_append_right _ h))) (by decide +kernel))
set_option maxRecDepth 20000 in
theorem gL_law_L_multiply : GoodIn wsL_law (va_wsS RL 107 yL_multiply wsL_multiply) := goodIn_app (goodIn_of _ (by decide +kernel)) ggL_law_L_multiply
set_option maxRecDepth 20000 in
theorem ggL_law_X4_multiply : GoodIn wsL_law wsX4_multiply := goodIn_r _ [303, 304, 305, 306, 5, 307, 270, 271, 272, 273, 89, 90, 91, 92, 75, 137, 138, 139, 308, 309, 310, 311, 312, 313, 314, 315, 316, 317, 318, 319, 320, 321, 322, 323, 324, 325, 326, 327, 161, 162, 163, 164, 144, 140, 141, 142, 143, 713, 714, 715, 716, 717, 718, 719, 720, 721, 722, 723] (by decide +kernel) (by decide +kernel)
set_option maxRecDepth 20000 in
theorem gL_law_X4_multiply : GoodIn wsL_law (wsV RL 110 RX4 yX4_multiply wsX4_multiply) := goodIn_app (goodIn_of _ (by decide +kernel)) ggL_law_X4_multiply
set_option maxRecDepth 20000 in
theorem ggL_law_L_cost : GoodIn wsL_law wsL_cost := goodIn_ca (goodIn_r _ [330, 100, 331, 332, 333, 2, 334, 17, 258, 259, 260, 261, 262, 46, 47, 16, 48, 39, 105, 106, 107, 108, 109, 290, 291, 292, 335, 336, 337, 338, 32, 339, 340, 341, 342, 216, 217, 218, 219, 220, 221, 222, 709, 710, 711, 712, 724, 725, 726, 727, 728] (by decide +kernel) (by decide +kernel)) (goodIn_sub (fun _ h => List.mem_append_left _ (List.mem_append_left _ (List.mem_append_right _ h))) (by decide +kernel))
set_option maxRecDepth 20000 in
theorem gL_law_L_cost : GoodIn wsL_law (va_wsS RL 111 yL_cost wsL_cost) := goodIn_app (goodIn_of _ (by decide +kernel)) ggL_law_L_cost
set_option maxRecDepth 20000 in
theorem ggL_law_X4_cost : GoodIn wsL_law wsX4_cost := goodIn_r _ [346, 304, 305, 306, 5, 307, 270, 271, 272, 273, 89, 90, 91, 92, 75, 137, 138, 139, 308, 309, 310, 347, 348, 349, 350, 322, 323, 324, 325, 326, 327, 161, 162, 163, 164, 144, 140, 141, 142, 143, 713, 714, 715, 716, 717, 718, 719, 720, 721, 722, 723] (by decide +kernel) (by decide +kernel)
set_option maxRecDepth 20000 in
theorem gL_law_X4_cost : GoodIn wsL_law (wsV RL 113 RX4 yX4_cost wsX4_cost) := goodIn_app (goodIn_of _ (by decide +kernel)) ggL_law_X4_cost
set_option maxRecDepth 20000 in
theorem ggL_law_L_cheapest : GoodIn wsL_law wsL_cheapest := goodIn_ca (goodIn_r _ [353, 100, 354, 355, 356, 2, 357, 17, 258, 259, 260, 261, 262, 46, 47, 16, 48, 39, 105, 106, 107, 108, 109, 335, 336, 337, 338, 32, 339, 340, 341, 342, 216, 217, 218, 219, 220, 221, 222, 358, 359, 360, 361, 362, 294, 295, 296, 33, 297, 298, 118, 299, 709, 710, 711, 712, 724, 725, 726, 727, 728] (by decide +kernel) (by decide +kernel)) (goodIn_sub (fun _ h => List.mem_append_left _ (List.mem_append_left _ (List.mem_append_right _ h))) (by decide +kernel))
set_option maxRecDepth 20000 in
theorem gL_law_L_cheapest : GoodIn wsL_law (va_wsS RL 114 yL_cheapest wsL_cheapest) := goodIn_app (goodIn_of _ (by decide +kernel)) ggL_law_L_cheapest
set_option maxRecDepth 20000 in
theorem ggL_law_X4_cheapest : GoodIn wsL_law wsX4_cheapest := goodIn_r _ [366, 304, 305, 306, 5, 307, 270, 271, 272, 273, 89, 90, 91, 92, 75, 137, 138, 139, 367, 368, 369, 370, 347, 348, 349, 350, 322, 323, 324, 325, 326, 327, 315, 316, 317, 318, 161, 162, 163, 164, 144, 140, 141, 142, 143, 713, 714, 715, 716, 717, 718, 719, 720, 721, 722, 723] (by decide +kernel) (by decide +kernel)
set_option maxRecDepth 20000 in
theorem gL_law_X4_cheapest : GoodIn wsL_law (wsV RL 116 RX4 yX4_cheapest wsX4_cheapest) := goodIn_app (goodIn_of _ (by decide +kernel)) ggL_law_X4_cheapest
set_option maxRecDepth 20000 in
theorem ggL_law_L_fraction : GoodIn wsL_law wsL_fraction := goodIn_ca (goodIn_r _ [373, 100, 374, 375, 376, 2, 377, 17, 258, 259, 260, 261, 262, 46, 47, 16, 48, 39, 105, 106, 107, 108, 109, 290, 291, 292, 293, 294, 295, 296, 33, 297, 298, 118, 299, 378, 379, 380, 709, 710, 711, 712, 724, 725, 726, 727, 728] (by decide +kernel) (by decide +kernel)) (goodIn_sub (fun _ h => List.mem_append_left _ (List.mem_append_left _ (List.mem_append_right _ h))) (by decide +kernel))
set_option maxRecDepth 20000 in
theorem gL_law_L_fraction : GoodIn wsL_law (va_wsS RL 117 yL_fraction wsL_fraction) := goodIn_app (goodIn_of _ (by decide +kernel)) ggL_law_L_fraction
set_option maxRecDepth 20000 in
theorem ggL_law_X4_fraction : GoodIn wsL_law wsX4_fraction := goodIn_r _ [384, 304, 305, 306, 5, 307, 270, 271, 272, 273, 89, 90, 91, 92, 75, 137, 138, 139, 308, 309, 310, 385, 386, 387, 140, 141, 142, 143, 144, 311, 312, 313, 314, 315, 316, 317, 318, 319, 320, 321, 322, 323, 324, 325, 326, 327, 388, 389, 390, 161, 162, 163, 164, 713, 714, 715, 716, 717, 718, 719, 720, 721, 722, 723] (by decide +kernel) (by decide +kernel)
set_option maxRecDepth 20000 in
theorem gL_law_X4_fraction : GoodIn wsL_law (wsV RL 120 RX4 yX4_fraction wsX4_fraction) := goodIn_app (goodIn_of _ (by decide +kernel)) ggL_law_X4_fraction
set_option maxRecDepth 20000 in
theorem ggL_law_L_error : GoodIn wsL_law wsL_error := goodIn_ca (goodIn_r _ [393, 100, 394, 395, 396, 2, 397, 17, 258, 259, 260, 261, 262, 46, 47, 16, 48, 39, 105, 106, 107, 108, 109, 293, 294, 295, 296, 33, 297, 298, 118, 299, 378, 379, 380, 709, 710, 711, 712, 724, 725, 726, 727, 728] (by decide +kernel) (by decide +kernel)) (goodIn_sub (fun _ h => List.mem_append_left _ (List.mem_append_left _ (List.mem_append_right _ h))) (by decide +kernel))
set_option maxRecDepth 20000 in
theorem gL_law_L_error : GoodIn wsL_law (va_wsS RL 121 yL_error wsL_error) := goodIn_app (goodIn_of _ (by decide +kernel)) ggL_law_L_error
set_option maxRecDepth 20000 in
theorem ggL_law_X4_error : GoodIn wsL_law wsX4_error := goodIn_r _ [401, 144, 304, 305, 306, 5, 307, 270, 271, 272, 273, 89, 90, 91, 92, 75, 137, 138, 139, 385, 386, 387, 388, 389, 390, 713, 714, 715, 716, 717, 718, 719, 720, 721, 722, 723] (by decide +kernel) (by decide +kernel)
set_option maxRecDepth 20000 in
theorem gL_law_X4_error : GoodIn wsL_law (wsV RL 124 RX4 yX4_error wsX4_error) := goodIn_app (goodIn_of _ (by decide +kernel)) ggL_law_X4_error
set_option maxRecDepth 20000 in
theorem ggL_law_L_entry : GoodIn wsL_law wsL_entry := goodIn_ca (goodIn_ca (goodIn_r _ [404, 184, 100, 405, 406, 407, 2, 408, 17, 189, 190, 191, 192, 193, 194, 195, 196, 42, 43, 16, 44, 45, 46, 47, 48, 39, 105, 106, 107, 108, 109, 223, 49, 50, 409, 236, 237, 238, 217, 218, 219, 220, 221, 222, 232, 233, 234, 235, 33, 212, 213, 214, 215, 216, 709, 710, 711, 712, 724, 725, 726, 727, 728] (by decide +kernel) (by decide +kernel)) (goodIn_sub (fun _ h => List.mem_append_left _ (List.mem_append_right _ h)) (by decide +kernel))) (goodIn_sub (fun _ h => List.mem_append_left _ (List.mem_append_left _ (List.mem_append_right _ h))) (by decide +kernel))
set_option maxRecDepth 20000 in
theorem gL_law_L_entry : GoodIn wsL_law (va_wsS RL 125 yL_entry wsL_entry) := goodIn_app (goodIn_of _ (by decide +kernel)) ggL_law_L_entry
set_option maxRecDepth 20000 in
theorem ggL_law_X4_entry : GoodIn wsL_law wsX4_entry := goodIn_r _ [413, 75, 201, 202, 203, 5, 204, 85, 86, 87, 88, 89, 90, 91, 92, 137, 138, 139, 140, 141, 142, 143, 144, 161, 162, 163, 164, 93, 94, 95, 158, 159, 160, 243, 244, 245, 246, 154, 155, 156, 157, 713, 714, 715, 716, 717, 718, 719, 720, 721, 722, 723] (by decide +kernel) (by decide +kernel)
set_option maxRecDepth 20000 in
theorem gL_law_X4_entry : GoodIn wsL_law (wsV RL 127 RX4 yX4_entry wsX4_entry) := goodIn_app (goodIn_of _ (by decide +kernel)) ggL_law_X4_entry
set_option maxRecDepth 20000 in
theorem ggL_law_L_register : GoodIn wsL_law wsL_register := goodIn_ca (goodIn_r _ [416, 184, 417, 418, 419, 2, 420, 17, 254, 255, 256, 257, 194, 195, 709, 710, 711, 712, 724, 725, 726, 727, 728] (by decide +kernel) (by decide +kernel)) (goodIn_sub (fun _ h => List.mem_append_left _ (List.mem_append_right _ h)) (by decide +kernel))
set_option maxRecDepth 20000 in
theorem gL_law_L_register : GoodIn wsL_law (va_wsS RL 128 yL_register wsL_register) := goodIn_app (goodIn_of _ (by decide +kernel)) ggL_law_L_register
set_option maxRecDepth 20000 in
theorem ggL_law_X4_register : GoodIn wsL_law wsX4_register := goodIn_r _ [424, 75, 267, 268, 5, 269, 137, 138, 139, 161, 162, 163, 164, 144, 140, 141, 142, 143, 713, 714, 715, 716, 717, 718, 719, 720, 721, 722, 723] (by decide +kernel) (by decide +kernel)
set_option maxRecDepth 20000 in
theorem gL_law_X4_register : GoodIn wsL_law (wsV RL 130 RX4 yX4_register wsX4_register) := goodIn_app (goodIn_of _ (by decide +kernel)) ggL_law_X4_register
set_option maxRecDepth 20000 in
theorem ggL_law_L_value : GoodIn wsL_law wsL_value := goodIn_ca (goodIn_r _ [427, 100, 428, 429, 430, 2, 431, 17, 105, 106, 107, 108, 109, 432, 433, 434, 16, 435, 39, 32, 41, 42, 43, 44, 45, 46, 47, 48, 436, 129, 130, 131, 33, 49, 50, 437, 438, 439, 440, 441, 233, 234, 235, 236, 237, 238, 217, 218, 219, 220, 221, 222, 442, 443, 444, 445, 446, 213, 214, 215, 216, 709, 710, 711, 712, 724, 725, 726, 727, 728] (by decide +kernel) (by decide +kernel)) (goodIn_sub (fun _ h => List.mem_append_left _ (List.mem_append_left _ (List.mem_append_right _ h))) (by decide +kernel))
set_option maxRecDepth 20000 in
theorem gL_law_L_value : GoodIn wsL_law (va_wsS RL 131 yL_value wsL_value) := goodIn_app (goodIn_of _ (by decide +kernel)) ggL_law_L_value
set_option maxRecDepth 20000 in
theorem ggL_law_X4_value : GoodIn wsL_law wsX4_value := goodIn_r _ [450, 137, 138, 5, 139, 451, 452, 453, 454, 75, 85, 86, 87, 88, 89, 90, 91, 92, 150, 151, 152, 153, 154, 155, 156, 157, 93, 94, 95, 158, 159, 160, 455, 456, 457, 458, 243, 244, 245, 246, 459, 460, 461, 462, 161, 162, 163, 164, 144, 140, 141, 142, 143, 713, 714, 715, 716, 717, 718, 719, 720, 721, 722, 723] (by decide +kernel) (by decide +kernel)
set_option maxRecDepth 20000 in
theorem gL_law_X4_value : GoodIn wsL_law (wsV RL 133 RX4 yX4_value wsX4_value) := goodIn_app (goodIn_of _ (by decide +kernel)) ggL_law_X4_value
set_option maxRecDepth 20000 in
theorem ggL_law_X3_account : GoodIn wsL_law wsX3_account := goodIn_r _ [466, 17, 278, 709, 710, 711, 712, 724, 725, 726, 727, 728] (by decide +kernel) (by decide +kernel)
set_option maxRecDepth 20000 in
theorem gL_law_X3_account : GoodIn wsL_law (wsV RL 134 RX3 yX3_account wsX3_account) := goodIn_app (goodIn_of _ (by decide +kernel)) ggL_law_X3_account
set_option maxRecDepth 20000 in
theorem ggL_law_X4_account : GoodIn wsL_law wsX4_account := goodIn_r _ [470, 144, 84, 713, 714, 715, 716, 717, 718, 719, 720, 721, 722, 723] (by decide +kernel) (by decide +kernel)
set_option maxRecDepth 20000 in
theorem gL_law_X4_account : GoodIn wsL_law (wsV RL 137 RX4 yX4_account wsX4_account) := goodIn_app (goodIn_of _ (by decide +kernel)) ggL_law_X4_account
set_option maxRecDepth 20000 in
theorem ggL_law_X3_wrongPairs : GoodIn wsL_law wsX3_wrongPairs := goodIn_r _ [474, 475, 476, 477, 2, 478, 27, 17, 479, 52, 53, 54, 128, 129, 130, 16, 131, 33, 41, 42, 43, 44, 45, 46, 47, 48, 39, 49, 50, 262, 358, 359, 360, 361, 362, 294, 295, 296, 297, 298, 118, 299, 709, 710, 711, 712, 724, 725, 726, 727, 728] (by decide +kernel) (by decide +kernel)
set_option maxRecDepth 20000 in
theorem gL_law_X3_wrongPairs : GoodIn wsL_law (wsV RL 138 RX3 yX3_wrongPairs wsX3_wrongPairs) := goodIn_app (goodIn_of _ (by decide +kernel)) ggL_law_X3_wrongPairs
set_option maxRecDepth 20000 in
theorem ggL_law_X4_wrongPairs : GoodIn wsL_law wsX4_wrongPairs := goodIn_r _ [483, 484, 485, 486, 5, 487, 79, 85, 86, 87, 88, 89, 90, 91, 92, 75, 315, 316, 317, 318, 161, 162, 163, 164, 144, 713, 714, 715, 716, 717, 718, 719, 720, 721, 722, 723] (by decide +kernel) (by decide +kernel)
set_option maxRecDepth 20000 in
theorem gL_law_X4_wrongPairs : GoodIn wsL_law (wsV RL 141 RX4 yX4_wrongPairs wsX4_wrongPairs) := goodIn_app (goodIn_of _ (by decide +kernel)) ggL_law_X4_wrongPairs
set_option maxRecDepth 20000 in
theorem ggL_law_L_wrongPairsWith : GoodIn wsL_law wsL_wrongPairsWith := goodIn_ca (goodIn_r _ [490, 184, 491, 492, 493, 2, 494, 27, 190, 191, 192, 193, 194, 195, 17, 196, 42, 43, 16, 44, 45, 46, 47, 48, 39, 475, 476, 477, 478, 479, 52, 53, 54, 128, 129, 130, 131, 33, 41, 49, 50, 262, 358, 359, 360, 361, 362, 294, 295, 296, 297, 298, 118, 299, 709, 710, 711, 712, 724, 725, 726, 727, 728] (by decide +kernel) (by decide +kernel)) (goodIn_sub (fun _ h => List.mem_append_left _ (List.mem_append_right _ h)) (by decide +kernel))
set_option maxRecDepth 20000 in
theorem gL_law_L_wrongPairsWith : GoodIn wsL_law (va_wsS RL 142 yL_wrongPairsWith wsL_wrongPairsWith) := goodIn_app (goodIn_of _ (by decide +kernel)) ggL_law_L_wrongPairsWith
set_option maxRecDepth 20000 in
theorem ggL_law_X4_wrongPairsWith : GoodIn wsL_law wsX4_wrongPairsWith := goodIn_r _ [498, 79, 201, 202, 203, 5, 204, 85, 86, 87, 88, 89, 90, 91, 92, 75, 137, 138, 139, 140, 141, 142, 143, 144, 484, 485, 486, 487, 315, 316, 317, 318, 161, 162, 163, 164, 713, 714, 715, 716, 717, 718, 719, 720, 721, 722, 723] (by decide +kernel) (by decide +kernel)
set_option maxRecDepth 20000 in
theorem gL_law_X4_wrongPairsWith : GoodIn wsL_law (wsV RL 144 RX4 yX4_wrongPairsWith wsX4_wrongPairsWith) := goodIn_app (goodIn_of _ (by decide +kernel)) ggL_law_X4_wrongPairsWith
set_option maxRecDepth 20000 in
theorem ggL_law_X3_firstWrong : GoodIn wsL_law wsX3_firstWrong := goodIn_r _ [502, 17, 503, 504, 505, 16, 506, 436, 129, 130, 131, 33, 41, 42, 43, 44, 45, 46, 47, 48, 39, 49, 2, 50, 507, 359, 360, 361, 362, 294, 295, 296, 297, 298, 118, 299, 709, 710, 711, 712, 724, 725, 726, 727, 728] (by decide +kernel) (by decide +kernel)
set_option maxRecDepth 20000 in
theorem gL_law_X3_firstWrong : GoodIn wsL_law (wsV RL 145 RX3 yX3_firstWrong wsX3_firstWrong) := goodIn_app (goodIn_of _ (by decide +kernel)) ggL_law_X3_firstWrong
set_option maxRecDepth 20000 in
theorem ggL_law_X4_firstWrong : GoodIn wsL_law wsX4_firstWrong := goodIn_r _ [511, 512, 513, 514, 5, 515, 89, 90, 91, 92, 75, 315, 316, 317, 318, 161, 162, 163, 164, 144, 713, 714, 715, 716, 717, 718, 719, 720, 721, 722, 723] (by decide +kernel) (by decide +kernel)
set_option maxRecDepth 20000 in
theorem gL_law_X4_firstWrong : GoodIn wsL_law (wsV RL 148 RX4 yX4_firstWrong wsX4_firstWrong) := goodIn_app (goodIn_of _ (by decide +kernel)) ggL_law_X4_firstWrong
set_option maxRecDepth 20000 in
theorem ggL_law_X3_suspect : GoodIn wsL_law wsX3_suspect := goodIn_r _ [519, 17, 27, 475, 476, 477, 2, 478, 479, 52, 53, 54, 128, 129, 130, 16, 131, 33, 41, 42, 43, 44, 45, 46, 47, 48, 39, 49, 50, 262, 358, 359, 360, 361, 362, 294, 295, 296, 297, 298, 118, 299, 196, 709, 710, 711, 712, 724, 725, 726, 727, 728] (by decide +kernel) (by decide +kernel)
set_option maxRecDepth 20000 in
theorem gL_law_X3_suspect : GoodIn wsL_law (wsV RL 149 RX3 yX3_suspect wsX3_suspect) := goodIn_app (goodIn_of _ (by decide +kernel)) ggL_law_X3_suspect
set_option maxRecDepth 20000 in
theorem ggL_law_X4_suspect : GoodIn wsL_law wsX4_suspect := goodIn_r _ [523, 79, 484, 485, 486, 5, 487, 85, 86, 87, 88, 89, 90, 91, 92, 75, 315, 316, 317, 318, 161, 162, 163, 164, 144, 713, 714, 715, 716, 717, 718, 719, 720, 721, 722, 723] (by decide +kernel) (by decide +kernel)
set_option maxRecDepth 20000 in
theorem gL_law_X4_suspect : GoodIn wsL_law (wsV RL 152 RX4 yX4_suspect wsX4_suspect) := goodIn_app (goodIn_of _ (by decide +kernel)) ggL_law_X4_suspect
set_option maxRecDepth 20000 in
theorem ggL_law_L_cheaperPairs : GoodIn wsL_law wsL_cheaperPairs := goodIn_ca (goodIn_r _ [526, 100, 527, 528, 529, 2, 530, 17, 290, 291, 292, 105, 106, 107, 108, 109, 262, 46, 47, 16, 48, 39, 335, 336, 337, 338, 32, 339, 340, 341, 342, 216, 217, 218, 219, 220, 221, 222, 709, 710, 711, 712, 724, 725, 726, 727, 728] (by decide +kernel) (by decide +kernel)) (goodIn_sub (fun _ h => List.mem_append_left _ (List.mem_append_left _ (List.mem_append_right _ h))) (by decide +kernel))
set_option maxRecDepth 20000 in
theorem gL_law_L_cheaperPairs : GoodIn wsL_law (va_wsS RL 153 yL_cheaperPairs wsL_cheaperPairs) := goodIn_app (goodIn_of _ (by decide +kernel)) ggL_law_L_cheaperPairs
set_option maxRecDepth 20000 in
theorem ggL_law_X4_cheaperPairs : GoodIn wsL_law wsX4_cheaperPairs := goodIn_r _ [534, 308, 309, 5, 310, 137, 138, 139, 140, 141, 142, 143, 144, 89, 90, 91, 92, 75, 347, 348, 349, 350, 322, 323, 324, 325, 326, 327, 161, 162, 163, 164, 713, 714, 715, 716, 717, 718, 719, 720, 721, 722, 723] (by decide +kernel) (by decide +kernel)
set_option maxRecDepth 20000 in
theorem gL_law_X4_cheaperPairs : GoodIn wsL_law (wsV RL 155 RX4 yX4_cheaperPairs wsX4_cheaperPairs) := goodIn_app (goodIn_of _ (by decide +kernel)) ggL_law_X4_cheaperPairs
set_option maxRecDepth 20000 in
theorem ggL_law_L_append : GoodIn wsL_law wsL_append := goodIn_ca (goodIn_ca (goodIn_r _ [537, 100, 538, 539, 540, 541, 2, 542, 543, 544, 25, 545, 546, 105, 106, 107, 108, 109, 709, 710, 711, 712, 732, 733, 734, 735, 736, 737, 738, 739, 740, 741, 742, 743, 744] (by decide +kernel) (by decide +kernel)) (goodIn_sub (fun _ h => List.mem_append_right _ h) (by decide +kernel))) (goodIn_sub (fun _ h => List.mem_append_left _ (List.mem_append_left _ (List.mem_append_right _ h))) (by decide +kernel))
set_option maxRecDepth 20000 in
theorem gL_law_L_append : GoodIn wsL_law (va_wsS RL 156 yL_append wsL_append) := goodIn_app (goodIn_of _ (by decide +kernel)) ggL_law_L_append
set_option maxRecDepth 20000 in
theorem ggL_law_X4_append : GoodIn wsL_law wsX4_append := goodIn_r _ [550, 551, 78, 137, 138, 5, 139, 140, 141, 142, 143, 144, 161, 162, 163, 164, 713, 714, 715, 716, 717, 718, 719, 720, 721, 722, 723] (by decide +kernel) (by decide +kernel)
set_option maxRecDepth 20000 in
theorem gL_law_X4_append : GoodIn wsL_law (wsV RL 158 RX4 yX4_append wsX4_append) := goodIn_app (goodIn_of _ (by decide +kernel)) ggL_law_X4_append
set_option maxRecDepth 20000 in
theorem ggL_law_X3_clearText : GoodIn wsL_law wsX3_clearText := goodIn_r _ [555, 25, 545, 709, 710, 711, 712, 732, 733, 734, 735, 736, 737, 738, 739, 740, 741, 742, 743, 744] (by decide +kernel) (by decide +kernel)
set_option maxRecDepth 20000 in
theorem gL_law_X3_clearText : GoodIn wsL_law (wsV RL 159 RX3 yX3_clearText wsX3_clearText) := goodIn_app (goodIn_of _ (by decide +kernel)) ggL_law_X3_clearText
set_option maxRecDepth 20000 in
theorem ggL_law_X4_clearText : GoodIn wsL_law wsX4_clearText := goodIn_r _ [559, 551, 161, 162, 163, 5, 164, 144, 713, 714, 715, 716, 717, 718, 719, 720, 721, 722, 723] (by decide +kernel) (by decide +kernel)
set_option maxRecDepth 20000 in
theorem gL_law_X4_clearText : GoodIn wsL_law (wsV RL 162 RX4 yX4_clearText wsX4_clearText) := goodIn_app (goodIn_of _ (by decide +kernel)) ggL_law_X4_clearText
set_option maxRecDepth 20000 in
theorem ggL_law_X3_run : GoodIn wsL_law wsX3_run := goodIn_r _ [563, 25, 21, 17, 564, 565, 566, 567, 568, 278, 569, 570, 571, 24, 572, 573, 574, 575, 576, 577, 578, 579, 66, 580, 581, 582, 583, 584, 585, 586, 587, 588, 589, 590, 591, 592, 67, 593, 68, 594, 69, 70, 595, 596, 597, 598, 599, 600, 601, 602, 603, 604, 605, 606, 607, 608, 609, 610, 611, 612, 613, 614, 615, 616, 617, 110, 111, 112, 20, 113, 60, 114, 115, 116, 117, 118, 119, 120, 121, 122, 16, 123, 39, 40, 32, 124, 125, 126, 127, 33, 34, 618, 619, 620, 621, 45, 46, 47, 48, 622, 623, 624, 625, 626, 627, 628, 629, 362, 294, 295, 296, 297, 298, 299, 630, 631, 632, 633, 634, 336, 337, 338, 339, 340, 341, 342, 216, 217, 218, 219, 220, 221, 222, 709, 710, 711, 712, 732, 733, 734, 735, 736, 737, 738, 739, 740, 741, 742, 743, 744, 724, 725, 726, 727, 728, 729, 730, 731] (by decide +kernel) (by decide +kernel)
set_option maxRecDepth 20000 in
theorem gL_law_X3_run : GoodIn wsL_law (wsV RL 163 RX3 yX3_run wsX3_run) := goodIn_app (goodIn_of _ (by decide +kernel)) ggL_law_X3_run
set_option maxRecDepth 20000 in
theorem ggL_law_X4_run : GoodIn wsL_law wsX4_run := goodIn_r _ [638, 639, 551, 84, 640, 641, 642, 5, 643, 644, 645, 646, 647, 648, 649, 650, 651, 652, 653, 654, 655, 78, 137, 138, 139, 656, 657, 658, 659, 660, 661, 662, 663, 161, 162, 163, 164, 144, 145, 146, 147, 148, 149, 76, 77, 75, 664, 665, 666, 667, 89, 90, 91, 92, 668, 669, 670, 671, 315, 316, 317, 318, 319, 320, 321, 322, 323, 324, 325, 326, 327, 672, 673, 674, 675, 347, 348, 349, 350, 713, 714, 715, 716, 717, 718, 719, 720, 721, 722, 723] (by decide +kernel) (by decide +kernel)
set_option maxRecDepth 20000 in
theorem gL_law_X4_run : GoodIn wsL_law (wsV RL 166 RX4 yX4_run wsX4_run) := goodIn_app (goodIn_of _ (by decide +kernel)) ggL_law_X4_run
set_option maxRecDepth 20000 in
theorem ggL_law_L_undo : GoodIn wsL_law wsL_undo := goodIn_ca (goodIn_r _ [678, 538, 679, 680, 681, 2, 682, 543, 544, 21, 683, 17, 684, 685, 686, 20, 687, 114, 115, 60, 120, 121, 122, 16, 123, 39, 40, 32, 124, 125, 126, 127, 33, 34, 709, 710, 711, 712, 729, 730, 731, 724, 725, 726, 727, 728] (by decide +kernel) (by decide +kernel)) (goodIn_sub (fun _ h => List.mem_append_right _ h) (by decide +kernel))
set_option maxRecDepth 20000 in
theorem gL_law_L_undo : GoodIn wsL_law (va_wsS RL 167 yL_undo wsL_undo) := goodIn_app (goodIn_of _ (by decide +kernel)) ggL_law_L_undo
set_option maxRecDepth 20000 in
theorem ggL_law_X4_undo : GoodIn wsL_law wsX4_undo := goodIn_r _ [691, 149, 75, 76, 77, 84, 140, 141, 142, 5, 143, 144, 161, 162, 163, 164, 713, 714, 715, 716, 717, 718, 719, 720, 721, 722, 723] (by decide +kernel) (by decide +kernel)
set_option maxRecDepth 20000 in
theorem gL_law_X4_undo : GoodIn wsL_law (wsV RL 170 RX4 yX4_undo wsX4_undo) := goodIn_app (goodIn_of _ (by decide +kernel)) ggL_law_X4_undo
set_option maxRecDepth 20000 in
theorem ggL_law_X3_digest : GoodIn wsL_law wsX3_digest := goodIn_r _ [695, 696, 25, 545, 697, 17, 278, 254, 189, 21, 683, 432, 433, 434, 16, 435, 39, 32, 41, 42, 43, 44, 45, 46, 47, 48, 436, 129, 130, 131, 33, 49, 2, 50, 437, 438, 439, 440, 441, 233, 234, 235, 236, 237, 238, 217, 218, 219, 220, 221, 222, 442, 443, 444, 445, 446, 213, 214, 215, 216, 196, 503, 504, 505, 506, 507, 359, 360, 361, 362, 294, 295, 296, 297, 298, 118, 299, 709, 710, 711, 712, 732, 733, 734, 735, 736, 737, 738, 739, 740, 741, 742, 743, 744, 724, 725, 726, 727, 728, 729, 730, 731] (by decide +kernel) (by decide +kernel)
set_option maxRecDepth 20000 in
theorem gL_law_X3_digest : GoodIn wsL_law (wsV RL 171 RX3 yX3_digest wsX3_digest) := goodIn_app (goodIn_of _ (by decide +kernel)) ggL_law_X3_digest
set_option maxRecDepth 20000 in
theorem ggL_law_X4_digest : GoodIn wsL_law wsX4_digest := goodIn_r _ [701, 144, 702, 703, 551, 84, 75, 149, 704, 705, 706, 5, 707, 708, 451, 452, 453, 454, 85, 86, 87, 88, 89, 90, 91, 92, 150, 151, 152, 153, 154, 155, 156, 157, 93, 94, 95, 158, 159, 160, 455, 456, 457, 458, 243, 244, 245, 246, 459, 460, 461, 462, 512, 513, 514, 515, 315, 316, 317, 318, 713, 714, 715, 716, 717, 718, 719, 720, 721, 722, 723] (by decide +kernel) (by decide +kernel)
set_option maxRecDepth 20000 in
theorem gL_law_X4_digest : GoodIn wsL_law (wsV RL 174 RX4 yX4_digest wsX4_digest) := goodIn_app (goodIn_of _ (by decide +kernel)) ggL_law_X4_digest
theorem dL_law_0 : decode cL_law 0 = .ok (.new 8, 3) := by decide +kernel
theorem dL_law_3 : decode cL_law 3 = .ok (.dup, 1) := by decide +kernel
theorem dL_law_4 : decode cL_law 4 = .ok (.invokespecial 72, 3) := by decide +kernel
theorem dL_law_7 : decode cL_law 7 = .ok (.astore_n 1, 1) := by decide +kernel
theorem dL_law_8 : decode cL_law 8 = .ok (.new 73, 3) := by decide +kernel
theorem dL_law_11 : decode cL_law 11 = .ok (.dup, 1) := by decide +kernel
theorem dL_law_12 : decode cL_law 12 = .ok (.invokespecial 75, 3) := by decide +kernel
theorem dL_law_15 : decode cL_law 15 = .ok (.astore_n 2, 1) := by decide +kernel
theorem dL_law_16 : decode cL_law 16 = .ok (.iconst 1, 1) := by decide +kernel
theorem dL_law_17 : decode cL_law 17 = .ok (.newarray .long, 2) := by decide +kernel
theorem dL_law_19 : decode cL_law 19 = .ok (.astore_n 3, 1) := by decide +kernel
theorem dL_law_20 : decode cL_law 20 = .ok (.iconst 1, 1) := by decide +kernel
theorem dL_law_21 : decode cL_law 21 = .ok (.newarray .double, 2) := by decide +kernel
theorem dL_law_23 : decode cL_law 23 = .ok (.astore 4, 2) := by decide +kernel
theorem dL_law_25 : decode cL_law 25 = .ok (.iconst 0, 1) := by decide +kernel
theorem dL_law_26 : decode cL_law 26 = .ok (.istore 5, 2) := by decide +kernel
theorem dL_law_28 : decode cL_law 28 = .ok (.iload 5, 2) := by decide +kernel
theorem dL_law_30 : decode cL_law 30 = .ok (.aload_n 0, 1) := by decide +kernel
theorem dL_law_31 : decode cL_law 31 = .ok (.arraylength, 1) := by decide +kernel
theorem dL_law_32 : decode cL_law 32 = .ok (.bipush 6, 2) := by decide +kernel
theorem dL_law_34 : decode cL_law 34 = .ok (.isub, 1) := by decide +kernel
theorem dL_law_35 : decode cL_law 35 = .ok (.if_icmp .gt 1420, 3) := by decide +kernel
theorem dL_law_38 : decode cL_law 38 = .ok (.aload_n 0, 1) := by decide +kernel
theorem dL_law_39 : decode cL_law 39 = .ok (.iload 5, 2) := by decide +kernel
theorem dL_law_41 : decode cL_law 41 = .ok (.iaload, 1) := by decide +kernel
theorem dL_law_42 : decode cL_law 42 = .ok (.bipush 31, 2) := by decide +kernel
theorem dL_law_44 : decode cL_law 44 = .ok (.iand, 1) := by decide +kernel
theorem dL_law_45 : decode cL_law 45 = .ok (.tableswitch 1404 0 25 #[119, 175, 243, 311, 367, 380, 448, 462, 542, 622, 690, 794, 907, 975, 1031, 1087, 1101, 1114, 1170, 1183, 1196, 1264, 1320, 1333, 1346, 1390], 119) := by decide +kernel
theorem dL_law_164 : decode cL_law 164 = .ok (.aload_n 1, 1) := by decide +kernel
theorem dL_law_165 : decode cL_law 165 = .ok (.aload_n 0, 1) := by decide +kernel
theorem dL_law_166 : decode cL_law 166 = .ok (.iload 5, 2) := by decide +kernel
theorem dL_law_168 : decode cL_law 168 = .ok (.iconst 1, 1) := by decide +kernel
theorem dL_law_169 : decode cL_law 169 = .ok (.iadd, 1) := by decide +kernel
theorem dL_law_170 : decode cL_law 170 = .ok (.iaload, 1) := by decide +kernel
theorem dL_law_171 : decode cL_law 171 = .ok (.aload_n 3, 1) := by decide +kernel
theorem dL_law_172 : decode cL_law 172 = .ok (.invokestatic 76, 3) := by decide +kernel
theorem dL_law_175 : decode cL_law 175 = .ok (.istore 6, 2) := by decide +kernel
theorem dL_law_177 : decode cL_law 177 = .ok (.aload_n 2, 1) := by decide +kernel
theorem dL_law_178 : decode cL_law 178 = .ok (.aload_n 0, 1) := by decide +kernel
theorem dL_law_179 : decode cL_law 179 = .ok (.iload 5, 2) := by decide +kernel
theorem dL_law_181 : decode cL_law 181 = .ok (.iconst 1, 1) := by decide +kernel
theorem dL_law_182 : decode cL_law 182 = .ok (.iadd, 1) := by decide +kernel
theorem dL_law_183 : decode cL_law 183 = .ok (.iaload, 1) := by decide +kernel
theorem dL_law_184 : decode cL_law 184 = .ok (.invokevirtual 81, 3) := by decide +kernel
theorem dL_law_187 : decode cL_law 187 = .ok (.istore 7, 2) := by decide +kernel
theorem dL_law_189 : decode cL_law 189 = .ok (.aload_n 2, 1) := by decide +kernel
theorem dL_law_190 : decode cL_law 190 = .ok (.invokevirtual 82, 3) := by decide +kernel
theorem dL_law_193 : decode cL_law 193 = .ok (.iload 6, 2) := by decide +kernel
theorem dL_law_195 : decode cL_law 195 = .ok (.if_icmp .eq 5, 3) := by decide +kernel
theorem dL_law_198 : decode cL_law 198 = .ok (.iconst 0, 1) := by decide +kernel
theorem dL_law_199 : decode cL_law 199 = .ok (.ireturn, 1) := by decide +kernel
theorem dL_law_200 : decode cL_law 200 = .ok (.iload 6, 2) := by decide +kernel
theorem dL_law_202 : decode cL_law 202 = .ok (.ifCond .ne 15, 3) := by decide +kernel
theorem dL_law_205 : decode cL_law 205 = .ok (.aload_n 3, 1) := by decide +kernel
theorem dL_law_206 : decode cL_law 206 = .ok (.iconst 0, 1) := by decide +kernel
theorem dL_law_207 : decode cL_law 207 = .ok (.laload, 1) := by decide +kernel
theorem dL_law_208 : decode cL_law 208 = .ok (.iload 7, 2) := by decide +kernel
theorem dL_law_210 : decode cL_law 210 = .ok (.i2l, 1) := by decide +kernel
theorem dL_law_211 : decode cL_law 211 = .ok (.lcmp, 1) := by decide +kernel
theorem dL_law_212 : decode cL_law 212 = .ok (.ifCond .eq 5, 3) := by decide +kernel
theorem dL_law_215 : decode cL_law 215 = .ok (.iconst 0, 1) := by decide +kernel
theorem dL_law_216 : decode cL_law 216 = .ok (.ireturn, 1) := by decide +kernel
theorem dL_law_217 : decode cL_law 217 = .ok (.goto 1232, 3) := by decide +kernel
theorem dL_law_220 : decode cL_law 220 = .ok (.aload_n 1, 1) := by decide +kernel
theorem dL_law_221 : decode cL_law 221 = .ok (.aload_n 0, 1) := by decide +kernel
theorem dL_law_222 : decode cL_law 222 = .ok (.iload 5, 2) := by decide +kernel
theorem dL_law_224 : decode cL_law 224 = .ok (.iconst 1, 1) := by decide +kernel
theorem dL_law_225 : decode cL_law 225 = .ok (.iadd, 1) := by decide +kernel
theorem dL_law_226 : decode cL_law 226 = .ok (.iaload, 1) := by decide +kernel
theorem dL_law_227 : decode cL_law 227 = .ok (.aload_n 0, 1) := by decide +kernel
theorem dL_law_228 : decode cL_law 228 = .ok (.iload 5, 2) := by decide +kernel
theorem dL_law_230 : decode cL_law 230 = .ok (.iconst 2, 1) := by decide +kernel
theorem dL_law_231 : decode cL_law 231 = .ok (.iadd, 1) := by decide +kernel
theorem dL_law_232 : decode cL_law 232 = .ok (.iaload, 1) := by decide +kernel
theorem dL_law_233 : decode cL_law 233 = .ok (.aload_n 3, 1) := by decide +kernel
theorem dL_law_234 : decode cL_law 234 = .ok (.invokestatic 85, 3) := by decide +kernel
theorem dL_law_237 : decode cL_law 237 = .ok (.istore 6, 2) := by decide +kernel
theorem dL_law_239 : decode cL_law 239 = .ok (.aload_n 2, 1) := by decide +kernel
theorem dL_law_240 : decode cL_law 240 = .ok (.aload_n 0, 1) := by decide +kernel
theorem dL_law_241 : decode cL_law 241 = .ok (.iload 5, 2) := by decide +kernel
theorem dL_law_243 : decode cL_law 243 = .ok (.iconst 1, 1) := by decide +kernel
theorem dL_law_244 : decode cL_law 244 = .ok (.iadd, 1) := by decide +kernel
theorem dL_law_245 : decode cL_law 245 = .ok (.iaload, 1) := by decide +kernel
theorem dL_law_246 : decode cL_law 246 = .ok (.aload_n 0, 1) := by decide +kernel
theorem dL_law_247 : decode cL_law 247 = .ok (.iload 5, 2) := by decide +kernel
theorem dL_law_249 : decode cL_law 249 = .ok (.iconst 2, 1) := by decide +kernel
theorem dL_law_250 : decode cL_law 250 = .ok (.iadd, 1) := by decide +kernel
theorem dL_law_251 : decode cL_law 251 = .ok (.iaload, 1) := by decide +kernel
theorem dL_law_252 : decode cL_law 252 = .ok (.invokevirtual 88, 3) := by decide +kernel
theorem dL_law_255 : decode cL_law 255 = .ok (.istore 7, 2) := by decide +kernel
theorem dL_law_257 : decode cL_law 257 = .ok (.aload_n 2, 1) := by decide +kernel
theorem dL_law_258 : decode cL_law 258 = .ok (.invokevirtual 82, 3) := by decide +kernel
theorem dL_law_261 : decode cL_law 261 = .ok (.iload 6, 2) := by decide +kernel
theorem dL_law_263 : decode cL_law 263 = .ok (.if_icmp .eq 5, 3) := by decide +kernel
theorem dL_law_266 : decode cL_law 266 = .ok (.iconst 0, 1) := by decide +kernel
theorem dL_law_267 : decode cL_law 267 = .ok (.ireturn, 1) := by decide +kernel
theorem dL_law_268 : decode cL_law 268 = .ok (.iload 6, 2) := by decide +kernel
theorem dL_law_270 : decode cL_law 270 = .ok (.ifCond .ne 15, 3) := by decide +kernel
theorem dL_law_273 : decode cL_law 273 = .ok (.aload_n 3, 1) := by decide +kernel
theorem dL_law_274 : decode cL_law 274 = .ok (.iconst 0, 1) := by decide +kernel
theorem dL_law_275 : decode cL_law 275 = .ok (.laload, 1) := by decide +kernel
theorem dL_law_276 : decode cL_law 276 = .ok (.iload 7, 2) := by decide +kernel
theorem dL_law_278 : decode cL_law 278 = .ok (.i2l, 1) := by decide +kernel
theorem dL_law_279 : decode cL_law 279 = .ok (.lcmp, 1) := by decide +kernel
theorem dL_law_280 : decode cL_law 280 = .ok (.ifCond .eq 5, 3) := by decide +kernel
theorem dL_law_283 : decode cL_law 283 = .ok (.iconst 0, 1) := by decide +kernel
theorem dL_law_284 : decode cL_law 284 = .ok (.ireturn, 1) := by decide +kernel
theorem dL_law_285 : decode cL_law 285 = .ok (.goto 1164, 3) := by decide +kernel
theorem dL_law_288 : decode cL_law 288 = .ok (.aload_n 1, 1) := by decide +kernel
theorem dL_law_289 : decode cL_law 289 = .ok (.aload_n 0, 1) := by decide +kernel
theorem dL_law_290 : decode cL_law 290 = .ok (.iload 5, 2) := by decide +kernel
theorem dL_law_292 : decode cL_law 292 = .ok (.iconst 1, 1) := by decide +kernel
theorem dL_law_293 : decode cL_law 293 = .ok (.iadd, 1) := by decide +kernel
theorem dL_law_294 : decode cL_law 294 = .ok (.iaload, 1) := by decide +kernel
theorem dL_law_295 : decode cL_law 295 = .ok (.aload_n 0, 1) := by decide +kernel
theorem dL_law_296 : decode cL_law 296 = .ok (.iload 5, 2) := by decide +kernel
theorem dL_law_298 : decode cL_law 298 = .ok (.iconst 2, 1) := by decide +kernel
theorem dL_law_299 : decode cL_law 299 = .ok (.iadd, 1) := by decide +kernel
theorem dL_law_300 : decode cL_law 300 = .ok (.iaload, 1) := by decide +kernel
theorem dL_law_301 : decode cL_law 301 = .ok (.aload_n 3, 1) := by decide +kernel
theorem dL_law_302 : decode cL_law 302 = .ok (.invokestatic 89, 3) := by decide +kernel
theorem dL_law_305 : decode cL_law 305 = .ok (.istore 6, 2) := by decide +kernel
theorem dL_law_307 : decode cL_law 307 = .ok (.aload_n 2, 1) := by decide +kernel
theorem dL_law_308 : decode cL_law 308 = .ok (.aload_n 0, 1) := by decide +kernel
theorem dL_law_309 : decode cL_law 309 = .ok (.iload 5, 2) := by decide +kernel
theorem dL_law_311 : decode cL_law 311 = .ok (.iconst 1, 1) := by decide +kernel
theorem dL_law_312 : decode cL_law 312 = .ok (.iadd, 1) := by decide +kernel
theorem dL_law_313 : decode cL_law 313 = .ok (.iaload, 1) := by decide +kernel
theorem dL_law_314 : decode cL_law 314 = .ok (.aload_n 0, 1) := by decide +kernel
theorem dL_law_315 : decode cL_law 315 = .ok (.iload 5, 2) := by decide +kernel
theorem dL_law_317 : decode cL_law 317 = .ok (.iconst 2, 1) := by decide +kernel
theorem dL_law_318 : decode cL_law 318 = .ok (.iadd, 1) := by decide +kernel
theorem dL_law_319 : decode cL_law 319 = .ok (.iaload, 1) := by decide +kernel
theorem dL_law_320 : decode cL_law 320 = .ok (.invokevirtual 91, 3) := by decide +kernel
theorem dL_law_323 : decode cL_law 323 = .ok (.istore 7, 2) := by decide +kernel
theorem dL_law_325 : decode cL_law 325 = .ok (.aload_n 2, 1) := by decide +kernel
theorem dL_law_326 : decode cL_law 326 = .ok (.invokevirtual 82, 3) := by decide +kernel
theorem dL_law_329 : decode cL_law 329 = .ok (.iload 6, 2) := by decide +kernel
theorem dL_law_331 : decode cL_law 331 = .ok (.if_icmp .eq 5, 3) := by decide +kernel
theorem dL_law_334 : decode cL_law 334 = .ok (.iconst 0, 1) := by decide +kernel
theorem dL_law_335 : decode cL_law 335 = .ok (.ireturn, 1) := by decide +kernel
theorem dL_law_336 : decode cL_law 336 = .ok (.iload 6, 2) := by decide +kernel
theorem dL_law_338 : decode cL_law 338 = .ok (.ifCond .ne 15, 3) := by decide +kernel
theorem dL_law_341 : decode cL_law 341 = .ok (.aload_n 3, 1) := by decide +kernel
theorem dL_law_342 : decode cL_law 342 = .ok (.iconst 0, 1) := by decide +kernel
theorem dL_law_343 : decode cL_law 343 = .ok (.laload, 1) := by decide +kernel
theorem dL_law_344 : decode cL_law 344 = .ok (.iload 7, 2) := by decide +kernel
theorem dL_law_346 : decode cL_law 346 = .ok (.i2l, 1) := by decide +kernel
theorem dL_law_347 : decode cL_law 347 = .ok (.lcmp, 1) := by decide +kernel
theorem dL_law_348 : decode cL_law 348 = .ok (.ifCond .eq 5, 3) := by decide +kernel
theorem dL_law_351 : decode cL_law 351 = .ok (.iconst 0, 1) := by decide +kernel
theorem dL_law_352 : decode cL_law 352 = .ok (.ireturn, 1) := by decide +kernel
theorem dL_law_353 : decode cL_law 353 = .ok (.goto 1096, 3) := by decide +kernel
theorem dL_law_356 : decode cL_law 356 = .ok (.aload_n 1, 1) := by decide +kernel
theorem dL_law_357 : decode cL_law 357 = .ok (.aload_n 0, 1) := by decide +kernel
theorem dL_law_358 : decode cL_law 358 = .ok (.iload 5, 2) := by decide +kernel
theorem dL_law_360 : decode cL_law 360 = .ok (.iconst 1, 1) := by decide +kernel
theorem dL_law_361 : decode cL_law 361 = .ok (.iadd, 1) := by decide +kernel
theorem dL_law_362 : decode cL_law 362 = .ok (.iaload, 1) := by decide +kernel
theorem dL_law_363 : decode cL_law 363 = .ok (.aload_n 3, 1) := by decide +kernel
theorem dL_law_364 : decode cL_law 364 = .ok (.invokestatic 92, 3) := by decide +kernel
theorem dL_law_367 : decode cL_law 367 = .ok (.istore 6, 2) := by decide +kernel
theorem dL_law_369 : decode cL_law 369 = .ok (.aload_n 2, 1) := by decide +kernel
theorem dL_law_370 : decode cL_law 370 = .ok (.aload_n 0, 1) := by decide +kernel
theorem dL_law_371 : decode cL_law 371 = .ok (.iload 5, 2) := by decide +kernel
theorem dL_law_373 : decode cL_law 373 = .ok (.iconst 1, 1) := by decide +kernel
theorem dL_law_374 : decode cL_law 374 = .ok (.iadd, 1) := by decide +kernel
theorem dL_law_375 : decode cL_law 375 = .ok (.iaload, 1) := by decide +kernel
theorem dL_law_376 : decode cL_law 376 = .ok (.invokevirtual 94, 3) := by decide +kernel
theorem dL_law_379 : decode cL_law 379 = .ok (.istore 7, 2) := by decide +kernel
theorem dL_law_381 : decode cL_law 381 = .ok (.aload_n 2, 1) := by decide +kernel
theorem dL_law_382 : decode cL_law 382 = .ok (.invokevirtual 82, 3) := by decide +kernel
theorem dL_law_385 : decode cL_law 385 = .ok (.iload 6, 2) := by decide +kernel
theorem dL_law_387 : decode cL_law 387 = .ok (.if_icmp .eq 5, 3) := by decide +kernel
theorem dL_law_390 : decode cL_law 390 = .ok (.iconst 0, 1) := by decide +kernel
theorem dL_law_391 : decode cL_law 391 = .ok (.ireturn, 1) := by decide +kernel
theorem dL_law_392 : decode cL_law 392 = .ok (.iload 6, 2) := by decide +kernel
theorem dL_law_394 : decode cL_law 394 = .ok (.ifCond .ne 15, 3) := by decide +kernel
theorem dL_law_397 : decode cL_law 397 = .ok (.aload_n 3, 1) := by decide +kernel
theorem dL_law_398 : decode cL_law 398 = .ok (.iconst 0, 1) := by decide +kernel
theorem dL_law_399 : decode cL_law 399 = .ok (.laload, 1) := by decide +kernel
theorem dL_law_400 : decode cL_law 400 = .ok (.iload 7, 2) := by decide +kernel
theorem dL_law_402 : decode cL_law 402 = .ok (.i2l, 1) := by decide +kernel
theorem dL_law_403 : decode cL_law 403 = .ok (.lcmp, 1) := by decide +kernel
theorem dL_law_404 : decode cL_law 404 = .ok (.ifCond .eq 5, 3) := by decide +kernel
theorem dL_law_407 : decode cL_law 407 = .ok (.iconst 0, 1) := by decide +kernel
theorem dL_law_408 : decode cL_law 408 = .ok (.ireturn, 1) := by decide +kernel
theorem dL_law_409 : decode cL_law 409 = .ok (.goto 1040, 3) := by decide +kernel
theorem dL_law_412 : decode cL_law 412 = .ok (.aload_n 1, 1) := by decide +kernel
theorem dL_law_413 : decode cL_law 413 = .ok (.invokevirtual 95, 3) := by decide +kernel
theorem dL_law_416 : decode cL_law 416 = .ok (.aload_n 2, 1) := by decide +kernel
theorem dL_law_417 : decode cL_law 417 = .ok (.invokevirtual 98, 3) := by decide +kernel
theorem dL_law_420 : decode cL_law 420 = .ok (.if_icmp .eq 1029, 3) := by decide +kernel
theorem dL_law_423 : decode cL_law 423 = .ok (.iconst 0, 1) := by decide +kernel
theorem dL_law_424 : decode cL_law 424 = .ok (.ireturn, 1) := by decide +kernel
theorem dL_law_425 : decode cL_law 425 = .ok (.aload_n 1, 1) := by decide +kernel
theorem dL_law_426 : decode cL_law 426 = .ok (.aload_n 0, 1) := by decide +kernel
theorem dL_law_427 : decode cL_law 427 = .ok (.iload 5, 2) := by decide +kernel
theorem dL_law_429 : decode cL_law 429 = .ok (.iconst 1, 1) := by decide +kernel
theorem dL_law_430 : decode cL_law 430 = .ok (.iadd, 1) := by decide +kernel
theorem dL_law_431 : decode cL_law 431 = .ok (.iaload, 1) := by decide +kernel
theorem dL_law_432 : decode cL_law 432 = .ok (.aload_n 0, 1) := by decide +kernel
theorem dL_law_433 : decode cL_law 433 = .ok (.iload 5, 2) := by decide +kernel
theorem dL_law_435 : decode cL_law 435 = .ok (.iconst 2, 1) := by decide +kernel
theorem dL_law_436 : decode cL_law 436 = .ok (.iadd, 1) := by decide +kernel
theorem dL_law_437 : decode cL_law 437 = .ok (.iaload, 1) := by decide +kernel
theorem dL_law_438 : decode cL_law 438 = .ok (.aload_n 3, 1) := by decide +kernel
theorem dL_law_439 : decode cL_law 439 = .ok (.invokestatic 99, 3) := by decide +kernel
theorem dL_law_442 : decode cL_law 442 = .ok (.istore 6, 2) := by decide +kernel
theorem dL_law_444 : decode cL_law 444 = .ok (.aload_n 2, 1) := by decide +kernel
theorem dL_law_445 : decode cL_law 445 = .ok (.aload_n 0, 1) := by decide +kernel
theorem dL_law_446 : decode cL_law 446 = .ok (.iload 5, 2) := by decide +kernel
theorem dL_law_448 : decode cL_law 448 = .ok (.iconst 1, 1) := by decide +kernel
theorem dL_law_449 : decode cL_law 449 = .ok (.iadd, 1) := by decide +kernel
theorem dL_law_450 : decode cL_law 450 = .ok (.iaload, 1) := by decide +kernel
theorem dL_law_451 : decode cL_law 451 = .ok (.aload_n 0, 1) := by decide +kernel
theorem dL_law_452 : decode cL_law 452 = .ok (.iload 5, 2) := by decide +kernel
theorem dL_law_454 : decode cL_law 454 = .ok (.iconst 2, 1) := by decide +kernel
theorem dL_law_455 : decode cL_law 455 = .ok (.iadd, 1) := by decide +kernel
theorem dL_law_456 : decode cL_law 456 = .ok (.iaload, 1) := by decide +kernel
theorem dL_law_457 : decode cL_law 457 = .ok (.invokevirtual 101, 3) := by decide +kernel
theorem dL_law_460 : decode cL_law 460 = .ok (.istore 7, 2) := by decide +kernel
theorem dL_law_462 : decode cL_law 462 = .ok (.aload_n 2, 1) := by decide +kernel
theorem dL_law_463 : decode cL_law 463 = .ok (.invokevirtual 82, 3) := by decide +kernel
theorem dL_law_466 : decode cL_law 466 = .ok (.iload 6, 2) := by decide +kernel
theorem dL_law_468 : decode cL_law 468 = .ok (.if_icmp .eq 5, 3) := by decide +kernel
theorem dL_law_471 : decode cL_law 471 = .ok (.iconst 0, 1) := by decide +kernel
theorem dL_law_472 : decode cL_law 472 = .ok (.ireturn, 1) := by decide +kernel
theorem dL_law_473 : decode cL_law 473 = .ok (.iload 6, 2) := by decide +kernel
theorem dL_law_475 : decode cL_law 475 = .ok (.ifCond .ne 15, 3) := by decide +kernel
theorem dL_law_478 : decode cL_law 478 = .ok (.aload_n 3, 1) := by decide +kernel
theorem dL_law_479 : decode cL_law 479 = .ok (.iconst 0, 1) := by decide +kernel
theorem dL_law_480 : decode cL_law 480 = .ok (.laload, 1) := by decide +kernel
theorem dL_law_481 : decode cL_law 481 = .ok (.iload 7, 2) := by decide +kernel
theorem dL_law_483 : decode cL_law 483 = .ok (.i2l, 1) := by decide +kernel
theorem dL_law_484 : decode cL_law 484 = .ok (.lcmp, 1) := by decide +kernel
theorem dL_law_485 : decode cL_law 485 = .ok (.ifCond .eq 5, 3) := by decide +kernel
theorem dL_law_488 : decode cL_law 488 = .ok (.iconst 0, 1) := by decide +kernel
theorem dL_law_489 : decode cL_law 489 = .ok (.ireturn, 1) := by decide +kernel
theorem dL_law_490 : decode cL_law 490 = .ok (.goto 959, 3) := by decide +kernel
theorem dL_law_493 : decode cL_law 493 = .ok (.aload_n 1, 1) := by decide +kernel
theorem dL_law_494 : decode cL_law 494 = .ok (.invokevirtual 102, 3) := by decide +kernel
theorem dL_law_497 : decode cL_law 497 = .ok (.aload_n 2, 1) := by decide +kernel
theorem dL_law_498 : decode cL_law 498 = .ok (.invokevirtual 106, 3) := by decide +kernel
theorem dL_law_501 : decode cL_law 501 = .ok (.lcmp, 1) := by decide +kernel
theorem dL_law_502 : decode cL_law 502 = .ok (.ifCond .eq 947, 3) := by decide +kernel
theorem dL_law_505 : decode cL_law 505 = .ok (.iconst 0, 1) := by decide +kernel
theorem dL_law_506 : decode cL_law 506 = .ok (.ireturn, 1) := by decide +kernel
theorem dL_law_507 : decode cL_law 507 = .ok (.aload_n 1, 1) := by decide +kernel
theorem dL_law_508 : decode cL_law 508 = .ok (.aload_n 0, 1) := by decide +kernel
theorem dL_law_509 : decode cL_law 509 = .ok (.iload 5, 2) := by decide +kernel
theorem dL_law_511 : decode cL_law 511 = .ok (.iconst 1, 1) := by decide +kernel
theorem dL_law_512 : decode cL_law 512 = .ok (.iadd, 1) := by decide +kernel
theorem dL_law_513 : decode cL_law 513 = .ok (.iaload, 1) := by decide +kernel
theorem dL_law_514 : decode cL_law 514 = .ok (.aload_n 0, 1) := by decide +kernel
theorem dL_law_515 : decode cL_law 515 = .ok (.iload 5, 2) := by decide +kernel
theorem dL_law_517 : decode cL_law 517 = .ok (.iconst 2, 1) := by decide +kernel
theorem dL_law_518 : decode cL_law 518 = .ok (.iadd, 1) := by decide +kernel
theorem dL_law_519 : decode cL_law 519 = .ok (.iaload, 1) := by decide +kernel
theorem dL_law_520 : decode cL_law 520 = .ok (.aload_n 0, 1) := by decide +kernel
theorem dL_law_521 : decode cL_law 521 = .ok (.iload 5, 2) := by decide +kernel
theorem dL_law_523 : decode cL_law 523 = .ok (.iconst 3, 1) := by decide +kernel
theorem dL_law_524 : decode cL_law 524 = .ok (.iadd, 1) := by decide +kernel
theorem dL_law_525 : decode cL_law 525 = .ok (.iaload, 1) := by decide +kernel
theorem dL_law_526 : decode cL_law 526 = .ok (.aload_n 3, 1) := by decide +kernel
theorem dL_law_527 : decode cL_law 527 = .ok (.invokestatic 107, 3) := by decide +kernel
theorem dL_law_530 : decode cL_law 530 = .ok (.istore 6, 2) := by decide +kernel
theorem dL_law_532 : decode cL_law 532 = .ok (.aload_n 2, 1) := by decide +kernel
theorem dL_law_533 : decode cL_law 533 = .ok (.aload_n 0, 1) := by decide +kernel
theorem dL_law_534 : decode cL_law 534 = .ok (.iload 5, 2) := by decide +kernel
theorem dL_law_536 : decode cL_law 536 = .ok (.iconst 1, 1) := by decide +kernel
theorem dL_law_537 : decode cL_law 537 = .ok (.iadd, 1) := by decide +kernel
theorem dL_law_538 : decode cL_law 538 = .ok (.iaload, 1) := by decide +kernel
theorem dL_law_539 : decode cL_law 539 = .ok (.aload_n 0, 1) := by decide +kernel
theorem dL_law_540 : decode cL_law 540 = .ok (.iload 5, 2) := by decide +kernel
theorem dL_law_542 : decode cL_law 542 = .ok (.iconst 2, 1) := by decide +kernel
theorem dL_law_543 : decode cL_law 543 = .ok (.iadd, 1) := by decide +kernel
theorem dL_law_544 : decode cL_law 544 = .ok (.iaload, 1) := by decide +kernel
theorem dL_law_545 : decode cL_law 545 = .ok (.aload_n 0, 1) := by decide +kernel
theorem dL_law_546 : decode cL_law 546 = .ok (.iload 5, 2) := by decide +kernel
theorem dL_law_548 : decode cL_law 548 = .ok (.iconst 3, 1) := by decide +kernel
theorem dL_law_549 : decode cL_law 549 = .ok (.iadd, 1) := by decide +kernel
theorem dL_law_550 : decode cL_law 550 = .ok (.iaload, 1) := by decide +kernel
theorem dL_law_551 : decode cL_law 551 = .ok (.invokevirtual 110, 3) := by decide +kernel
theorem dL_law_554 : decode cL_law 554 = .ok (.istore 7, 2) := by decide +kernel
theorem dL_law_556 : decode cL_law 556 = .ok (.aload_n 2, 1) := by decide +kernel
theorem dL_law_557 : decode cL_law 557 = .ok (.invokevirtual 82, 3) := by decide +kernel
theorem dL_law_560 : decode cL_law 560 = .ok (.iload 6, 2) := by decide +kernel
theorem dL_law_562 : decode cL_law 562 = .ok (.if_icmp .eq 5, 3) := by decide +kernel
theorem dL_law_565 : decode cL_law 565 = .ok (.iconst 0, 1) := by decide +kernel
theorem dL_law_566 : decode cL_law 566 = .ok (.ireturn, 1) := by decide +kernel
theorem dL_law_567 : decode cL_law 567 = .ok (.iload 6, 2) := by decide +kernel
theorem dL_law_569 : decode cL_law 569 = .ok (.ifCond .ne 15, 3) := by decide +kernel
theorem dL_law_572 : decode cL_law 572 = .ok (.aload_n 3, 1) := by decide +kernel
theorem dL_law_573 : decode cL_law 573 = .ok (.iconst 0, 1) := by decide +kernel
theorem dL_law_574 : decode cL_law 574 = .ok (.laload, 1) := by decide +kernel
theorem dL_law_575 : decode cL_law 575 = .ok (.iload 7, 2) := by decide +kernel
theorem dL_law_577 : decode cL_law 577 = .ok (.i2l, 1) := by decide +kernel
theorem dL_law_578 : decode cL_law 578 = .ok (.lcmp, 1) := by decide +kernel
theorem dL_law_579 : decode cL_law 579 = .ok (.ifCond .eq 5, 3) := by decide +kernel
theorem dL_law_582 : decode cL_law 582 = .ok (.iconst 0, 1) := by decide +kernel
theorem dL_law_583 : decode cL_law 583 = .ok (.ireturn, 1) := by decide +kernel
theorem dL_law_584 : decode cL_law 584 = .ok (.goto 865, 3) := by decide +kernel
theorem dL_law_587 : decode cL_law 587 = .ok (.aload_n 1, 1) := by decide +kernel
theorem dL_law_588 : decode cL_law 588 = .ok (.aload_n 0, 1) := by decide +kernel
theorem dL_law_589 : decode cL_law 589 = .ok (.iload 5, 2) := by decide +kernel
theorem dL_law_591 : decode cL_law 591 = .ok (.iconst 1, 1) := by decide +kernel
theorem dL_law_592 : decode cL_law 592 = .ok (.iadd, 1) := by decide +kernel
theorem dL_law_593 : decode cL_law 593 = .ok (.iaload, 1) := by decide +kernel
theorem dL_law_594 : decode cL_law 594 = .ok (.aload_n 0, 1) := by decide +kernel
theorem dL_law_595 : decode cL_law 595 = .ok (.iload 5, 2) := by decide +kernel
theorem dL_law_597 : decode cL_law 597 = .ok (.iconst 2, 1) := by decide +kernel
theorem dL_law_598 : decode cL_law 598 = .ok (.iadd, 1) := by decide +kernel
theorem dL_law_599 : decode cL_law 599 = .ok (.iaload, 1) := by decide +kernel
theorem dL_law_600 : decode cL_law 600 = .ok (.aload_n 0, 1) := by decide +kernel
theorem dL_law_601 : decode cL_law 601 = .ok (.iload 5, 2) := by decide +kernel
theorem dL_law_603 : decode cL_law 603 = .ok (.iconst 3, 1) := by decide +kernel
theorem dL_law_604 : decode cL_law 604 = .ok (.iadd, 1) := by decide +kernel
theorem dL_law_605 : decode cL_law 605 = .ok (.iaload, 1) := by decide +kernel
theorem dL_law_606 : decode cL_law 606 = .ok (.aload_n 3, 1) := by decide +kernel
theorem dL_law_607 : decode cL_law 607 = .ok (.invokestatic 111, 3) := by decide +kernel
theorem dL_law_610 : decode cL_law 610 = .ok (.istore 6, 2) := by decide +kernel
theorem dL_law_612 : decode cL_law 612 = .ok (.aload_n 2, 1) := by decide +kernel
theorem dL_law_613 : decode cL_law 613 = .ok (.aload_n 0, 1) := by decide +kernel
theorem dL_law_614 : decode cL_law 614 = .ok (.iload 5, 2) := by decide +kernel
theorem dL_law_616 : decode cL_law 616 = .ok (.iconst 1, 1) := by decide +kernel
theorem dL_law_617 : decode cL_law 617 = .ok (.iadd, 1) := by decide +kernel
theorem dL_law_618 : decode cL_law 618 = .ok (.iaload, 1) := by decide +kernel
theorem dL_law_619 : decode cL_law 619 = .ok (.aload_n 0, 1) := by decide +kernel
theorem dL_law_620 : decode cL_law 620 = .ok (.iload 5, 2) := by decide +kernel
theorem dL_law_622 : decode cL_law 622 = .ok (.iconst 2, 1) := by decide +kernel
theorem dL_law_623 : decode cL_law 623 = .ok (.iadd, 1) := by decide +kernel
theorem dL_law_624 : decode cL_law 624 = .ok (.iaload, 1) := by decide +kernel
theorem dL_law_625 : decode cL_law 625 = .ok (.aload_n 0, 1) := by decide +kernel
theorem dL_law_626 : decode cL_law 626 = .ok (.iload 5, 2) := by decide +kernel
theorem dL_law_628 : decode cL_law 628 = .ok (.iconst 3, 1) := by decide +kernel
theorem dL_law_629 : decode cL_law 629 = .ok (.iadd, 1) := by decide +kernel
theorem dL_law_630 : decode cL_law 630 = .ok (.iaload, 1) := by decide +kernel
theorem dL_law_631 : decode cL_law 631 = .ok (.invokevirtual 113, 3) := by decide +kernel
theorem dL_law_634 : decode cL_law 634 = .ok (.istore 7, 2) := by decide +kernel
theorem dL_law_636 : decode cL_law 636 = .ok (.aload_n 2, 1) := by decide +kernel
theorem dL_law_637 : decode cL_law 637 = .ok (.invokevirtual 82, 3) := by decide +kernel
theorem dL_law_640 : decode cL_law 640 = .ok (.iload 6, 2) := by decide +kernel
theorem dL_law_642 : decode cL_law 642 = .ok (.if_icmp .eq 5, 3) := by decide +kernel
theorem dL_law_645 : decode cL_law 645 = .ok (.iconst 0, 1) := by decide +kernel
theorem dL_law_646 : decode cL_law 646 = .ok (.ireturn, 1) := by decide +kernel
theorem dL_law_647 : decode cL_law 647 = .ok (.iload 6, 2) := by decide +kernel
theorem dL_law_649 : decode cL_law 649 = .ok (.ifCond .ne 15, 3) := by decide +kernel
theorem dL_law_652 : decode cL_law 652 = .ok (.aload_n 3, 1) := by decide +kernel
theorem dL_law_653 : decode cL_law 653 = .ok (.iconst 0, 1) := by decide +kernel
theorem dL_law_654 : decode cL_law 654 = .ok (.laload, 1) := by decide +kernel
theorem dL_law_655 : decode cL_law 655 = .ok (.iload 7, 2) := by decide +kernel
theorem dL_law_657 : decode cL_law 657 = .ok (.i2l, 1) := by decide +kernel
theorem dL_law_658 : decode cL_law 658 = .ok (.lcmp, 1) := by decide +kernel
theorem dL_law_659 : decode cL_law 659 = .ok (.ifCond .eq 5, 3) := by decide +kernel
theorem dL_law_662 : decode cL_law 662 = .ok (.iconst 0, 1) := by decide +kernel
theorem dL_law_663 : decode cL_law 663 = .ok (.ireturn, 1) := by decide +kernel
theorem dL_law_664 : decode cL_law 664 = .ok (.goto 785, 3) := by decide +kernel
theorem dL_law_667 : decode cL_law 667 = .ok (.aload_n 1, 1) := by decide +kernel
theorem dL_law_668 : decode cL_law 668 = .ok (.aload_n 0, 1) := by decide +kernel
theorem dL_law_669 : decode cL_law 669 = .ok (.iload 5, 2) := by decide +kernel
theorem dL_law_671 : decode cL_law 671 = .ok (.iconst 1, 1) := by decide +kernel
theorem dL_law_672 : decode cL_law 672 = .ok (.iadd, 1) := by decide +kernel
theorem dL_law_673 : decode cL_law 673 = .ok (.iaload, 1) := by decide +kernel
theorem dL_law_674 : decode cL_law 674 = .ok (.aload_n 0, 1) := by decide +kernel
theorem dL_law_675 : decode cL_law 675 = .ok (.iload 5, 2) := by decide +kernel
theorem dL_law_677 : decode cL_law 677 = .ok (.iconst 2, 1) := by decide +kernel
theorem dL_law_678 : decode cL_law 678 = .ok (.iadd, 1) := by decide +kernel
theorem dL_law_679 : decode cL_law 679 = .ok (.iaload, 1) := by decide +kernel
theorem dL_law_680 : decode cL_law 680 = .ok (.aload_n 3, 1) := by decide +kernel
theorem dL_law_681 : decode cL_law 681 = .ok (.invokestatic 114, 3) := by decide +kernel
theorem dL_law_684 : decode cL_law 684 = .ok (.istore 6, 2) := by decide +kernel
theorem dL_law_686 : decode cL_law 686 = .ok (.aload_n 2, 1) := by decide +kernel
theorem dL_law_687 : decode cL_law 687 = .ok (.aload_n 0, 1) := by decide +kernel
theorem dL_law_688 : decode cL_law 688 = .ok (.iload 5, 2) := by decide +kernel
theorem dL_law_690 : decode cL_law 690 = .ok (.iconst 1, 1) := by decide +kernel
theorem dL_law_691 : decode cL_law 691 = .ok (.iadd, 1) := by decide +kernel
theorem dL_law_692 : decode cL_law 692 = .ok (.iaload, 1) := by decide +kernel
theorem dL_law_693 : decode cL_law 693 = .ok (.aload_n 0, 1) := by decide +kernel
theorem dL_law_694 : decode cL_law 694 = .ok (.iload 5, 2) := by decide +kernel
theorem dL_law_696 : decode cL_law 696 = .ok (.iconst 2, 1) := by decide +kernel
theorem dL_law_697 : decode cL_law 697 = .ok (.iadd, 1) := by decide +kernel
theorem dL_law_698 : decode cL_law 698 = .ok (.iaload, 1) := by decide +kernel
theorem dL_law_699 : decode cL_law 699 = .ok (.invokevirtual 116, 3) := by decide +kernel
theorem dL_law_702 : decode cL_law 702 = .ok (.istore 7, 2) := by decide +kernel
theorem dL_law_704 : decode cL_law 704 = .ok (.aload_n 2, 1) := by decide +kernel
theorem dL_law_705 : decode cL_law 705 = .ok (.invokevirtual 82, 3) := by decide +kernel
theorem dL_law_708 : decode cL_law 708 = .ok (.iload 6, 2) := by decide +kernel
theorem dL_law_710 : decode cL_law 710 = .ok (.if_icmp .eq 5, 3) := by decide +kernel
theorem dL_law_713 : decode cL_law 713 = .ok (.iconst 0, 1) := by decide +kernel
theorem dL_law_714 : decode cL_law 714 = .ok (.ireturn, 1) := by decide +kernel
theorem dL_law_715 : decode cL_law 715 = .ok (.iload 6, 2) := by decide +kernel
theorem dL_law_717 : decode cL_law 717 = .ok (.ifCond .ne 15, 3) := by decide +kernel
theorem dL_law_720 : decode cL_law 720 = .ok (.aload_n 3, 1) := by decide +kernel
theorem dL_law_721 : decode cL_law 721 = .ok (.iconst 0, 1) := by decide +kernel
theorem dL_law_722 : decode cL_law 722 = .ok (.laload, 1) := by decide +kernel
theorem dL_law_723 : decode cL_law 723 = .ok (.iload 7, 2) := by decide +kernel
theorem dL_law_725 : decode cL_law 725 = .ok (.i2l, 1) := by decide +kernel
theorem dL_law_726 : decode cL_law 726 = .ok (.lcmp, 1) := by decide +kernel
theorem dL_law_727 : decode cL_law 727 = .ok (.ifCond .eq 5, 3) := by decide +kernel
theorem dL_law_730 : decode cL_law 730 = .ok (.iconst 0, 1) := by decide +kernel
theorem dL_law_731 : decode cL_law 731 = .ok (.ireturn, 1) := by decide +kernel
theorem dL_law_732 : decode cL_law 732 = .ok (.goto 717, 3) := by decide +kernel
theorem dL_law_735 : decode cL_law 735 = .ok (.aload_n 1, 1) := by decide +kernel
theorem dL_law_736 : decode cL_law 736 = .ok (.aload_n 0, 1) := by decide +kernel
theorem dL_law_737 : decode cL_law 737 = .ok (.iload 5, 2) := by decide +kernel
theorem dL_law_739 : decode cL_law 739 = .ok (.iconst 1, 1) := by decide +kernel
theorem dL_law_740 : decode cL_law 740 = .ok (.iadd, 1) := by decide +kernel
theorem dL_law_741 : decode cL_law 741 = .ok (.iaload, 1) := by decide +kernel
theorem dL_law_742 : decode cL_law 742 = .ok (.aload_n 0, 1) := by decide +kernel
theorem dL_law_743 : decode cL_law 743 = .ok (.iload 5, 2) := by decide +kernel
theorem dL_law_745 : decode cL_law 745 = .ok (.iconst 2, 1) := by decide +kernel
theorem dL_law_746 : decode cL_law 746 = .ok (.iadd, 1) := by decide +kernel
theorem dL_law_747 : decode cL_law 747 = .ok (.iaload, 1) := by decide +kernel
theorem dL_law_748 : decode cL_law 748 = .ok (.aload_n 0, 1) := by decide +kernel
theorem dL_law_749 : decode cL_law 749 = .ok (.iload 5, 2) := by decide +kernel
theorem dL_law_751 : decode cL_law 751 = .ok (.iconst 3, 1) := by decide +kernel
theorem dL_law_752 : decode cL_law 752 = .ok (.iadd, 1) := by decide +kernel
theorem dL_law_753 : decode cL_law 753 = .ok (.iaload, 1) := by decide +kernel
theorem dL_law_754 : decode cL_law 754 = .ok (.aload_n 0, 1) := by decide +kernel
theorem dL_law_755 : decode cL_law 755 = .ok (.iload 5, 2) := by decide +kernel
theorem dL_law_757 : decode cL_law 757 = .ok (.iconst 4, 1) := by decide +kernel
theorem dL_law_758 : decode cL_law 758 = .ok (.iadd, 1) := by decide +kernel
theorem dL_law_759 : decode cL_law 759 = .ok (.iaload, 1) := by decide +kernel
theorem dL_law_760 : decode cL_law 760 = .ok (.aload_n 0, 1) := by decide +kernel
theorem dL_law_761 : decode cL_law 761 = .ok (.iload 5, 2) := by decide +kernel
theorem dL_law_763 : decode cL_law 763 = .ok (.iconst 5, 1) := by decide +kernel
theorem dL_law_764 : decode cL_law 764 = .ok (.iadd, 1) := by decide +kernel
theorem dL_law_765 : decode cL_law 765 = .ok (.iaload, 1) := by decide +kernel
theorem dL_law_766 : decode cL_law 766 = .ok (.aload_n 3, 1) := by decide +kernel
theorem dL_law_767 : decode cL_law 767 = .ok (.invokestatic 117, 3) := by decide +kernel
theorem dL_law_770 : decode cL_law 770 = .ok (.istore 6, 2) := by decide +kernel
theorem dL_law_772 : decode cL_law 772 = .ok (.aload_n 2, 1) := by decide +kernel
theorem dL_law_773 : decode cL_law 773 = .ok (.aload_n 0, 1) := by decide +kernel
theorem dL_law_774 : decode cL_law 774 = .ok (.iload 5, 2) := by decide +kernel
theorem dL_law_776 : decode cL_law 776 = .ok (.iconst 1, 1) := by decide +kernel
theorem dL_law_777 : decode cL_law 777 = .ok (.iadd, 1) := by decide +kernel
theorem dL_law_778 : decode cL_law 778 = .ok (.iaload, 1) := by decide +kernel
theorem dL_law_779 : decode cL_law 779 = .ok (.aload_n 0, 1) := by decide +kernel
theorem dL_law_780 : decode cL_law 780 = .ok (.iload 5, 2) := by decide +kernel
theorem dL_law_782 : decode cL_law 782 = .ok (.iconst 2, 1) := by decide +kernel
theorem dL_law_783 : decode cL_law 783 = .ok (.iadd, 1) := by decide +kernel
theorem dL_law_784 : decode cL_law 784 = .ok (.iaload, 1) := by decide +kernel
theorem dL_law_785 : decode cL_law 785 = .ok (.aload_n 0, 1) := by decide +kernel
theorem dL_law_786 : decode cL_law 786 = .ok (.iload 5, 2) := by decide +kernel
theorem dL_law_788 : decode cL_law 788 = .ok (.iconst 3, 1) := by decide +kernel
theorem dL_law_789 : decode cL_law 789 = .ok (.iadd, 1) := by decide +kernel
theorem dL_law_790 : decode cL_law 790 = .ok (.iaload, 1) := by decide +kernel
theorem dL_law_791 : decode cL_law 791 = .ok (.aload_n 0, 1) := by decide +kernel
theorem dL_law_792 : decode cL_law 792 = .ok (.iload 5, 2) := by decide +kernel
theorem dL_law_794 : decode cL_law 794 = .ok (.iconst 4, 1) := by decide +kernel
theorem dL_law_795 : decode cL_law 795 = .ok (.iadd, 1) := by decide +kernel
theorem dL_law_796 : decode cL_law 796 = .ok (.iaload, 1) := by decide +kernel
theorem dL_law_797 : decode cL_law 797 = .ok (.aload_n 0, 1) := by decide +kernel
theorem dL_law_798 : decode cL_law 798 = .ok (.iload 5, 2) := by decide +kernel
theorem dL_law_800 : decode cL_law 800 = .ok (.iconst 5, 1) := by decide +kernel
theorem dL_law_801 : decode cL_law 801 = .ok (.iadd, 1) := by decide +kernel
theorem dL_law_802 : decode cL_law 802 = .ok (.iaload, 1) := by decide +kernel
theorem dL_law_803 : decode cL_law 803 = .ok (.invokevirtual 120, 3) := by decide +kernel
theorem dL_law_806 : decode cL_law 806 = .ok (.istore 7, 2) := by decide +kernel
theorem dL_law_808 : decode cL_law 808 = .ok (.aload_n 2, 1) := by decide +kernel
theorem dL_law_809 : decode cL_law 809 = .ok (.invokevirtual 82, 3) := by decide +kernel
theorem dL_law_812 : decode cL_law 812 = .ok (.iload 6, 2) := by decide +kernel
theorem dL_law_814 : decode cL_law 814 = .ok (.if_icmp .eq 5, 3) := by decide +kernel
theorem dL_law_817 : decode cL_law 817 = .ok (.iconst 0, 1) := by decide +kernel
theorem dL_law_818 : decode cL_law 818 = .ok (.ireturn, 1) := by decide +kernel
theorem dL_law_819 : decode cL_law 819 = .ok (.iload 6, 2) := by decide +kernel
theorem dL_law_821 : decode cL_law 821 = .ok (.ifCond .ne 15, 3) := by decide +kernel
theorem dL_law_824 : decode cL_law 824 = .ok (.aload_n 3, 1) := by decide +kernel
theorem dL_law_825 : decode cL_law 825 = .ok (.iconst 0, 1) := by decide +kernel
theorem dL_law_826 : decode cL_law 826 = .ok (.laload, 1) := by decide +kernel
theorem dL_law_827 : decode cL_law 827 = .ok (.iload 7, 2) := by decide +kernel
theorem dL_law_829 : decode cL_law 829 = .ok (.i2l, 1) := by decide +kernel
theorem dL_law_830 : decode cL_law 830 = .ok (.lcmp, 1) := by decide +kernel
theorem dL_law_831 : decode cL_law 831 = .ok (.ifCond .eq 5, 3) := by decide +kernel
theorem dL_law_834 : decode cL_law 834 = .ok (.iconst 0, 1) := by decide +kernel
theorem dL_law_835 : decode cL_law 835 = .ok (.ireturn, 1) := by decide +kernel
theorem dL_law_836 : decode cL_law 836 = .ok (.goto 613, 3) := by decide +kernel
theorem dL_law_839 : decode cL_law 839 = .ok (.aload_n 1, 1) := by decide +kernel
theorem dL_law_840 : decode cL_law 840 = .ok (.aload_n 0, 1) := by decide +kernel
theorem dL_law_841 : decode cL_law 841 = .ok (.iload 5, 2) := by decide +kernel
theorem dL_law_843 : decode cL_law 843 = .ok (.iconst 1, 1) := by decide +kernel
theorem dL_law_844 : decode cL_law 844 = .ok (.iadd, 1) := by decide +kernel
theorem dL_law_845 : decode cL_law 845 = .ok (.iaload, 1) := by decide +kernel
theorem dL_law_846 : decode cL_law 846 = .ok (.aload_n 0, 1) := by decide +kernel
theorem dL_law_847 : decode cL_law 847 = .ok (.iload 5, 2) := by decide +kernel
theorem dL_law_849 : decode cL_law 849 = .ok (.iconst 2, 1) := by decide +kernel
theorem dL_law_850 : decode cL_law 850 = .ok (.iadd, 1) := by decide +kernel
theorem dL_law_851 : decode cL_law 851 = .ok (.iaload, 1) := by decide +kernel
theorem dL_law_852 : decode cL_law 852 = .ok (.aload_n 0, 1) := by decide +kernel
theorem dL_law_853 : decode cL_law 853 = .ok (.iload 5, 2) := by decide +kernel
theorem dL_law_855 : decode cL_law 855 = .ok (.iconst 3, 1) := by decide +kernel
theorem dL_law_856 : decode cL_law 856 = .ok (.iadd, 1) := by decide +kernel
theorem dL_law_857 : decode cL_law 857 = .ok (.iaload, 1) := by decide +kernel
theorem dL_law_858 : decode cL_law 858 = .ok (.aload_n 0, 1) := by decide +kernel
theorem dL_law_859 : decode cL_law 859 = .ok (.iload 5, 2) := by decide +kernel
theorem dL_law_861 : decode cL_law 861 = .ok (.iconst 4, 1) := by decide +kernel
theorem dL_law_862 : decode cL_law 862 = .ok (.iadd, 1) := by decide +kernel
theorem dL_law_863 : decode cL_law 863 = .ok (.iaload, 1) := by decide +kernel
theorem dL_law_864 : decode cL_law 864 = .ok (.aload 4, 2) := by decide +kernel
theorem dL_law_866 : decode cL_law 866 = .ok (.invokestatic 121, 3) := by decide +kernel
theorem dL_law_869 : decode cL_law 869 = .ok (.istore 6, 2) := by decide +kernel
theorem dL_law_871 : decode cL_law 871 = .ok (.aload_n 2, 1) := by decide +kernel
theorem dL_law_872 : decode cL_law 872 = .ok (.aload_n 0, 1) := by decide +kernel
theorem dL_law_873 : decode cL_law 873 = .ok (.iload 5, 2) := by decide +kernel
theorem dL_law_875 : decode cL_law 875 = .ok (.iconst 1, 1) := by decide +kernel
theorem dL_law_876 : decode cL_law 876 = .ok (.iadd, 1) := by decide +kernel
theorem dL_law_877 : decode cL_law 877 = .ok (.iaload, 1) := by decide +kernel
theorem dL_law_878 : decode cL_law 878 = .ok (.aload_n 0, 1) := by decide +kernel
theorem dL_law_879 : decode cL_law 879 = .ok (.iload 5, 2) := by decide +kernel
theorem dL_law_881 : decode cL_law 881 = .ok (.iconst 2, 1) := by decide +kernel
theorem dL_law_882 : decode cL_law 882 = .ok (.iadd, 1) := by decide +kernel
theorem dL_law_883 : decode cL_law 883 = .ok (.iaload, 1) := by decide +kernel
theorem dL_law_884 : decode cL_law 884 = .ok (.aload_n 0, 1) := by decide +kernel
theorem dL_law_885 : decode cL_law 885 = .ok (.iload 5, 2) := by decide +kernel
theorem dL_law_887 : decode cL_law 887 = .ok (.iconst 3, 1) := by decide +kernel
theorem dL_law_888 : decode cL_law 888 = .ok (.iadd, 1) := by decide +kernel
theorem dL_law_889 : decode cL_law 889 = .ok (.iaload, 1) := by decide +kernel
theorem dL_law_890 : decode cL_law 890 = .ok (.aload_n 0, 1) := by decide +kernel
theorem dL_law_891 : decode cL_law 891 = .ok (.iload 5, 2) := by decide +kernel
theorem dL_law_893 : decode cL_law 893 = .ok (.iconst 4, 1) := by decide +kernel
theorem dL_law_894 : decode cL_law 894 = .ok (.iadd, 1) := by decide +kernel
theorem dL_law_895 : decode cL_law 895 = .ok (.iaload, 1) := by decide +kernel
theorem dL_law_896 : decode cL_law 896 = .ok (.invokevirtual 124, 3) := by decide +kernel
theorem dL_law_899 : decode cL_law 899 = .ok (.dstore 7, 2) := by decide +kernel
theorem dL_law_901 : decode cL_law 901 = .ok (.aload_n 2, 1) := by decide +kernel
theorem dL_law_902 : decode cL_law 902 = .ok (.invokevirtual 82, 3) := by decide +kernel
theorem dL_law_905 : decode cL_law 905 = .ok (.iload 6, 2) := by decide +kernel
theorem dL_law_907 : decode cL_law 907 = .ok (.if_icmp .eq 5, 3) := by decide +kernel
theorem dL_law_910 : decode cL_law 910 = .ok (.iconst 0, 1) := by decide +kernel
theorem dL_law_911 : decode cL_law 911 = .ok (.ireturn, 1) := by decide +kernel
theorem dL_law_912 : decode cL_law 912 = .ok (.iload 6, 2) := by decide +kernel
theorem dL_law_914 : decode cL_law 914 = .ok (.ifCond .ne 35, 3) := by decide +kernel
theorem dL_law_917 : decode cL_law 917 = .ok (.aload 4, 2) := by decide +kernel
theorem dL_law_919 : decode cL_law 919 = .ok (.iconst 0, 1) := by decide +kernel
theorem dL_law_920 : decode cL_law 920 = .ok (.daload, 1) := by decide +kernel
theorem dL_law_921 : decode cL_law 921 = .ok (.dload 7, 2) := by decide +kernel
theorem dL_law_923 : decode cL_law 923 = .ok (.dcmp .l, 1) := by decide +kernel
theorem dL_law_924 : decode cL_law 924 = .ok (.ifCond .eq 25, 3) := by decide +kernel
theorem dL_law_927 : decode cL_law 927 = .ok (.aload 4, 2) := by decide +kernel
theorem dL_law_929 : decode cL_law 929 = .ok (.iconst 0, 1) := by decide +kernel
theorem dL_law_930 : decode cL_law 930 = .ok (.daload, 1) := by decide +kernel
theorem dL_law_931 : decode cL_law 931 = .ok (.aload 4, 2) := by decide +kernel
theorem dL_law_933 : decode cL_law 933 = .ok (.iconst 0, 1) := by decide +kernel
theorem dL_law_934 : decode cL_law 934 = .ok (.daload, 1) := by decide +kernel
theorem dL_law_935 : decode cL_law 935 = .ok (.dcmp .l, 1) := by decide +kernel
theorem dL_law_936 : decode cL_law 936 = .ok (.ifCond .eq 11, 3) := by decide +kernel
theorem dL_law_939 : decode cL_law 939 = .ok (.dload 7, 2) := by decide +kernel
theorem dL_law_941 : decode cL_law 941 = .ok (.dload 7, 2) := by decide +kernel
theorem dL_law_943 : decode cL_law 943 = .ok (.dcmp .l, 1) := by decide +kernel
theorem dL_law_944 : decode cL_law 944 = .ok (.ifCond .ne 5, 3) := by decide +kernel
theorem dL_law_947 : decode cL_law 947 = .ok (.iconst 0, 1) := by decide +kernel
theorem dL_law_948 : decode cL_law 948 = .ok (.ireturn, 1) := by decide +kernel
theorem dL_law_949 : decode cL_law 949 = .ok (.goto 500, 3) := by decide +kernel
theorem dL_law_952 : decode cL_law 952 = .ok (.aload_n 1, 1) := by decide +kernel
theorem dL_law_953 : decode cL_law 953 = .ok (.aload_n 0, 1) := by decide +kernel
theorem dL_law_954 : decode cL_law 954 = .ok (.iload 5, 2) := by decide +kernel
theorem dL_law_956 : decode cL_law 956 = .ok (.iconst 1, 1) := by decide +kernel
theorem dL_law_957 : decode cL_law 957 = .ok (.iadd, 1) := by decide +kernel
theorem dL_law_958 : decode cL_law 958 = .ok (.iaload, 1) := by decide +kernel
theorem dL_law_959 : decode cL_law 959 = .ok (.aload_n 0, 1) := by decide +kernel
theorem dL_law_960 : decode cL_law 960 = .ok (.iload 5, 2) := by decide +kernel
theorem dL_law_962 : decode cL_law 962 = .ok (.iconst 2, 1) := by decide +kernel
theorem dL_law_963 : decode cL_law 963 = .ok (.iadd, 1) := by decide +kernel
theorem dL_law_964 : decode cL_law 964 = .ok (.iaload, 1) := by decide +kernel
theorem dL_law_965 : decode cL_law 965 = .ok (.aload_n 3, 1) := by decide +kernel
theorem dL_law_966 : decode cL_law 966 = .ok (.invokestatic 125, 3) := by decide +kernel
theorem dL_law_969 : decode cL_law 969 = .ok (.istore 6, 2) := by decide +kernel
theorem dL_law_971 : decode cL_law 971 = .ok (.aload_n 2, 1) := by decide +kernel
theorem dL_law_972 : decode cL_law 972 = .ok (.aload_n 0, 1) := by decide +kernel
theorem dL_law_973 : decode cL_law 973 = .ok (.iload 5, 2) := by decide +kernel
theorem dL_law_975 : decode cL_law 975 = .ok (.iconst 1, 1) := by decide +kernel
theorem dL_law_976 : decode cL_law 976 = .ok (.iadd, 1) := by decide +kernel
theorem dL_law_977 : decode cL_law 977 = .ok (.iaload, 1) := by decide +kernel
theorem dL_law_978 : decode cL_law 978 = .ok (.aload_n 0, 1) := by decide +kernel
theorem dL_law_979 : decode cL_law 979 = .ok (.iload 5, 2) := by decide +kernel
theorem dL_law_981 : decode cL_law 981 = .ok (.iconst 2, 1) := by decide +kernel
theorem dL_law_982 : decode cL_law 982 = .ok (.iadd, 1) := by decide +kernel
theorem dL_law_983 : decode cL_law 983 = .ok (.iaload, 1) := by decide +kernel
theorem dL_law_984 : decode cL_law 984 = .ok (.invokevirtual 127, 3) := by decide +kernel
theorem dL_law_987 : decode cL_law 987 = .ok (.istore 7, 2) := by decide +kernel
theorem dL_law_989 : decode cL_law 989 = .ok (.aload_n 2, 1) := by decide +kernel
theorem dL_law_990 : decode cL_law 990 = .ok (.invokevirtual 82, 3) := by decide +kernel
theorem dL_law_993 : decode cL_law 993 = .ok (.iload 6, 2) := by decide +kernel
theorem dL_law_995 : decode cL_law 995 = .ok (.if_icmp .eq 5, 3) := by decide +kernel
theorem dL_law_998 : decode cL_law 998 = .ok (.iconst 0, 1) := by decide +kernel
theorem dL_law_999 : decode cL_law 999 = .ok (.ireturn, 1) := by decide +kernel
theorem dL_law_1000 : decode cL_law 1000 = .ok (.iload 6, 2) := by decide +kernel
theorem dL_law_1002 : decode cL_law 1002 = .ok (.ifCond .ne 15, 3) := by decide +kernel
theorem dL_law_1005 : decode cL_law 1005 = .ok (.aload_n 3, 1) := by decide +kernel
theorem dL_law_1006 : decode cL_law 1006 = .ok (.iconst 0, 1) := by decide +kernel
theorem dL_law_1007 : decode cL_law 1007 = .ok (.laload, 1) := by decide +kernel
theorem dL_law_1008 : decode cL_law 1008 = .ok (.iload 7, 2) := by decide +kernel
theorem dL_law_1010 : decode cL_law 1010 = .ok (.i2l, 1) := by decide +kernel
theorem dL_law_1011 : decode cL_law 1011 = .ok (.lcmp, 1) := by decide +kernel
theorem dL_law_1012 : decode cL_law 1012 = .ok (.ifCond .eq 5, 3) := by decide +kernel
theorem dL_law_1015 : decode cL_law 1015 = .ok (.iconst 0, 1) := by decide +kernel
theorem dL_law_1016 : decode cL_law 1016 = .ok (.ireturn, 1) := by decide +kernel
theorem dL_law_1017 : decode cL_law 1017 = .ok (.goto 432, 3) := by decide +kernel
theorem dL_law_1020 : decode cL_law 1020 = .ok (.aload_n 1, 1) := by decide +kernel
theorem dL_law_1021 : decode cL_law 1021 = .ok (.aload_n 0, 1) := by decide +kernel
theorem dL_law_1022 : decode cL_law 1022 = .ok (.iload 5, 2) := by decide +kernel
theorem dL_law_1024 : decode cL_law 1024 = .ok (.iconst 1, 1) := by decide +kernel
theorem dL_law_1025 : decode cL_law 1025 = .ok (.iadd, 1) := by decide +kernel
theorem dL_law_1026 : decode cL_law 1026 = .ok (.iaload, 1) := by decide +kernel
theorem dL_law_1027 : decode cL_law 1027 = .ok (.aload_n 3, 1) := by decide +kernel
theorem dL_law_1028 : decode cL_law 1028 = .ok (.invokestatic 128, 3) := by decide +kernel
theorem dL_law_1031 : decode cL_law 1031 = .ok (.istore 6, 2) := by decide +kernel
theorem dL_law_1033 : decode cL_law 1033 = .ok (.aload_n 2, 1) := by decide +kernel
theorem dL_law_1034 : decode cL_law 1034 = .ok (.aload_n 0, 1) := by decide +kernel
theorem dL_law_1035 : decode cL_law 1035 = .ok (.iload 5, 2) := by decide +kernel
theorem dL_law_1037 : decode cL_law 1037 = .ok (.iconst 1, 1) := by decide +kernel
theorem dL_law_1038 : decode cL_law 1038 = .ok (.iadd, 1) := by decide +kernel
theorem dL_law_1039 : decode cL_law 1039 = .ok (.iaload, 1) := by decide +kernel
theorem dL_law_1040 : decode cL_law 1040 = .ok (.invokevirtual 130, 3) := by decide +kernel
theorem dL_law_1043 : decode cL_law 1043 = .ok (.istore 7, 2) := by decide +kernel
theorem dL_law_1045 : decode cL_law 1045 = .ok (.aload_n 2, 1) := by decide +kernel
theorem dL_law_1046 : decode cL_law 1046 = .ok (.invokevirtual 82, 3) := by decide +kernel
theorem dL_law_1049 : decode cL_law 1049 = .ok (.iload 6, 2) := by decide +kernel
theorem dL_law_1051 : decode cL_law 1051 = .ok (.if_icmp .eq 5, 3) := by decide +kernel
theorem dL_law_1054 : decode cL_law 1054 = .ok (.iconst 0, 1) := by decide +kernel
theorem dL_law_1055 : decode cL_law 1055 = .ok (.ireturn, 1) := by decide +kernel
theorem dL_law_1056 : decode cL_law 1056 = .ok (.iload 6, 2) := by decide +kernel
theorem dL_law_1058 : decode cL_law 1058 = .ok (.ifCond .ne 15, 3) := by decide +kernel
theorem dL_law_1061 : decode cL_law 1061 = .ok (.aload_n 3, 1) := by decide +kernel
theorem dL_law_1062 : decode cL_law 1062 = .ok (.iconst 0, 1) := by decide +kernel
theorem dL_law_1063 : decode cL_law 1063 = .ok (.laload, 1) := by decide +kernel
theorem dL_law_1064 : decode cL_law 1064 = .ok (.iload 7, 2) := by decide +kernel
theorem dL_law_1066 : decode cL_law 1066 = .ok (.i2l, 1) := by decide +kernel
theorem dL_law_1067 : decode cL_law 1067 = .ok (.lcmp, 1) := by decide +kernel
theorem dL_law_1068 : decode cL_law 1068 = .ok (.ifCond .eq 5, 3) := by decide +kernel
theorem dL_law_1071 : decode cL_law 1071 = .ok (.iconst 0, 1) := by decide +kernel
theorem dL_law_1072 : decode cL_law 1072 = .ok (.ireturn, 1) := by decide +kernel
theorem dL_law_1073 : decode cL_law 1073 = .ok (.goto 376, 3) := by decide +kernel
theorem dL_law_1076 : decode cL_law 1076 = .ok (.aload_n 1, 1) := by decide +kernel
theorem dL_law_1077 : decode cL_law 1077 = .ok (.aload_n 0, 1) := by decide +kernel
theorem dL_law_1078 : decode cL_law 1078 = .ok (.iload 5, 2) := by decide +kernel
theorem dL_law_1080 : decode cL_law 1080 = .ok (.iconst 1, 1) := by decide +kernel
theorem dL_law_1081 : decode cL_law 1081 = .ok (.iadd, 1) := by decide +kernel
theorem dL_law_1082 : decode cL_law 1082 = .ok (.iaload, 1) := by decide +kernel
theorem dL_law_1083 : decode cL_law 1083 = .ok (.aload_n 3, 1) := by decide +kernel
theorem dL_law_1084 : decode cL_law 1084 = .ok (.invokestatic 131, 3) := by decide +kernel
theorem dL_law_1087 : decode cL_law 1087 = .ok (.istore 6, 2) := by decide +kernel
theorem dL_law_1089 : decode cL_law 1089 = .ok (.aload_n 2, 1) := by decide +kernel
theorem dL_law_1090 : decode cL_law 1090 = .ok (.aload_n 0, 1) := by decide +kernel
theorem dL_law_1091 : decode cL_law 1091 = .ok (.iload 5, 2) := by decide +kernel
theorem dL_law_1093 : decode cL_law 1093 = .ok (.iconst 1, 1) := by decide +kernel
theorem dL_law_1094 : decode cL_law 1094 = .ok (.iadd, 1) := by decide +kernel
theorem dL_law_1095 : decode cL_law 1095 = .ok (.iaload, 1) := by decide +kernel
theorem dL_law_1096 : decode cL_law 1096 = .ok (.invokevirtual 133, 3) := by decide +kernel
theorem dL_law_1099 : decode cL_law 1099 = .ok (.istore 7, 2) := by decide +kernel
theorem dL_law_1101 : decode cL_law 1101 = .ok (.aload_n 2, 1) := by decide +kernel
theorem dL_law_1102 : decode cL_law 1102 = .ok (.invokevirtual 82, 3) := by decide +kernel
theorem dL_law_1105 : decode cL_law 1105 = .ok (.iload 6, 2) := by decide +kernel
theorem dL_law_1107 : decode cL_law 1107 = .ok (.if_icmp .eq 5, 3) := by decide +kernel
theorem dL_law_1110 : decode cL_law 1110 = .ok (.iconst 0, 1) := by decide +kernel
theorem dL_law_1111 : decode cL_law 1111 = .ok (.ireturn, 1) := by decide +kernel
theorem dL_law_1112 : decode cL_law 1112 = .ok (.iload 6, 2) := by decide +kernel
theorem dL_law_1114 : decode cL_law 1114 = .ok (.ifCond .ne 15, 3) := by decide +kernel
theorem dL_law_1117 : decode cL_law 1117 = .ok (.aload_n 3, 1) := by decide +kernel
theorem dL_law_1118 : decode cL_law 1118 = .ok (.iconst 0, 1) := by decide +kernel
theorem dL_law_1119 : decode cL_law 1119 = .ok (.laload, 1) := by decide +kernel
theorem dL_law_1120 : decode cL_law 1120 = .ok (.iload 7, 2) := by decide +kernel
theorem dL_law_1122 : decode cL_law 1122 = .ok (.i2l, 1) := by decide +kernel
theorem dL_law_1123 : decode cL_law 1123 = .ok (.lcmp, 1) := by decide +kernel
theorem dL_law_1124 : decode cL_law 1124 = .ok (.ifCond .eq 5, 3) := by decide +kernel
theorem dL_law_1127 : decode cL_law 1127 = .ok (.iconst 0, 1) := by decide +kernel
theorem dL_law_1128 : decode cL_law 1128 = .ok (.ireturn, 1) := by decide +kernel
theorem dL_law_1129 : decode cL_law 1129 = .ok (.goto 320, 3) := by decide +kernel
theorem dL_law_1132 : decode cL_law 1132 = .ok (.aload_n 1, 1) := by decide +kernel
theorem dL_law_1133 : decode cL_law 1133 = .ok (.invokevirtual 134, 3) := by decide +kernel
theorem dL_law_1136 : decode cL_law 1136 = .ok (.aload_n 2, 1) := by decide +kernel
theorem dL_law_1137 : decode cL_law 1137 = .ok (.invokevirtual 137, 3) := by decide +kernel
theorem dL_law_1140 : decode cL_law 1140 = .ok (.lcmp, 1) := by decide +kernel
theorem dL_law_1141 : decode cL_law 1141 = .ok (.ifCond .eq 308, 3) := by decide +kernel
theorem dL_law_1144 : decode cL_law 1144 = .ok (.iconst 0, 1) := by decide +kernel
theorem dL_law_1145 : decode cL_law 1145 = .ok (.ireturn, 1) := by decide +kernel
theorem dL_law_1146 : decode cL_law 1146 = .ok (.aload_n 1, 1) := by decide +kernel
theorem dL_law_1147 : decode cL_law 1147 = .ok (.invokevirtual 138, 3) := by decide +kernel
theorem dL_law_1150 : decode cL_law 1150 = .ok (.aload_n 2, 1) := by decide +kernel
theorem dL_law_1151 : decode cL_law 1151 = .ok (.invokevirtual 141, 3) := by decide +kernel
theorem dL_law_1154 : decode cL_law 1154 = .ok (.if_icmp .eq 295, 3) := by decide +kernel
theorem dL_law_1157 : decode cL_law 1157 = .ok (.iconst 0, 1) := by decide +kernel
theorem dL_law_1158 : decode cL_law 1158 = .ok (.ireturn, 1) := by decide +kernel
theorem dL_law_1159 : decode cL_law 1159 = .ok (.aload_n 1, 1) := by decide +kernel
theorem dL_law_1160 : decode cL_law 1160 = .ok (.aload_n 0, 1) := by decide +kernel
theorem dL_law_1161 : decode cL_law 1161 = .ok (.iload 5, 2) := by decide +kernel
theorem dL_law_1163 : decode cL_law 1163 = .ok (.iconst 1, 1) := by decide +kernel
theorem dL_law_1164 : decode cL_law 1164 = .ok (.iadd, 1) := by decide +kernel
theorem dL_law_1165 : decode cL_law 1165 = .ok (.iaload, 1) := by decide +kernel
theorem dL_law_1166 : decode cL_law 1166 = .ok (.aload_n 3, 1) := by decide +kernel
theorem dL_law_1167 : decode cL_law 1167 = .ok (.invokestatic 142, 3) := by decide +kernel
theorem dL_law_1170 : decode cL_law 1170 = .ok (.istore 6, 2) := by decide +kernel
theorem dL_law_1172 : decode cL_law 1172 = .ok (.aload_n 2, 1) := by decide +kernel
theorem dL_law_1173 : decode cL_law 1173 = .ok (.aload_n 0, 1) := by decide +kernel
theorem dL_law_1174 : decode cL_law 1174 = .ok (.iload 5, 2) := by decide +kernel
theorem dL_law_1176 : decode cL_law 1176 = .ok (.iconst 1, 1) := by decide +kernel
theorem dL_law_1177 : decode cL_law 1177 = .ok (.iadd, 1) := by decide +kernel
theorem dL_law_1178 : decode cL_law 1178 = .ok (.iaload, 1) := by decide +kernel
theorem dL_law_1179 : decode cL_law 1179 = .ok (.invokevirtual 144, 3) := by decide +kernel
theorem dL_law_1182 : decode cL_law 1182 = .ok (.istore 7, 2) := by decide +kernel
theorem dL_law_1184 : decode cL_law 1184 = .ok (.aload_n 2, 1) := by decide +kernel
theorem dL_law_1185 : decode cL_law 1185 = .ok (.invokevirtual 82, 3) := by decide +kernel
theorem dL_law_1188 : decode cL_law 1188 = .ok (.iload 6, 2) := by decide +kernel
theorem dL_law_1190 : decode cL_law 1190 = .ok (.if_icmp .eq 5, 3) := by decide +kernel
theorem dL_law_1193 : decode cL_law 1193 = .ok (.iconst 0, 1) := by decide +kernel
theorem dL_law_1194 : decode cL_law 1194 = .ok (.ireturn, 1) := by decide +kernel
theorem dL_law_1195 : decode cL_law 1195 = .ok (.iload 6, 2) := by decide +kernel
theorem dL_law_1197 : decode cL_law 1197 = .ok (.ifCond .ne 15, 3) := by decide +kernel
theorem dL_law_1200 : decode cL_law 1200 = .ok (.aload_n 3, 1) := by decide +kernel
theorem dL_law_1201 : decode cL_law 1201 = .ok (.iconst 0, 1) := by decide +kernel
theorem dL_law_1202 : decode cL_law 1202 = .ok (.laload, 1) := by decide +kernel
theorem dL_law_1203 : decode cL_law 1203 = .ok (.iload 7, 2) := by decide +kernel
theorem dL_law_1205 : decode cL_law 1205 = .ok (.i2l, 1) := by decide +kernel
theorem dL_law_1206 : decode cL_law 1206 = .ok (.lcmp, 1) := by decide +kernel
theorem dL_law_1207 : decode cL_law 1207 = .ok (.ifCond .eq 5, 3) := by decide +kernel
theorem dL_law_1210 : decode cL_law 1210 = .ok (.iconst 0, 1) := by decide +kernel
theorem dL_law_1211 : decode cL_law 1211 = .ok (.ireturn, 1) := by decide +kernel
theorem dL_law_1212 : decode cL_law 1212 = .ok (.goto 237, 3) := by decide +kernel
theorem dL_law_1215 : decode cL_law 1215 = .ok (.aload_n 1, 1) := by decide +kernel
theorem dL_law_1216 : decode cL_law 1216 = .ok (.invokevirtual 145, 3) := by decide +kernel
theorem dL_law_1219 : decode cL_law 1219 = .ok (.aload_n 2, 1) := by decide +kernel
theorem dL_law_1220 : decode cL_law 1220 = .ok (.invokevirtual 148, 3) := by decide +kernel
theorem dL_law_1223 : decode cL_law 1223 = .ok (.if_icmp .eq 226, 3) := by decide +kernel
theorem dL_law_1226 : decode cL_law 1226 = .ok (.iconst 0, 1) := by decide +kernel
theorem dL_law_1227 : decode cL_law 1227 = .ok (.ireturn, 1) := by decide +kernel
theorem dL_law_1228 : decode cL_law 1228 = .ok (.aload_n 1, 1) := by decide +kernel
theorem dL_law_1229 : decode cL_law 1229 = .ok (.invokevirtual 149, 3) := by decide +kernel
theorem dL_law_1232 : decode cL_law 1232 = .ok (.aload_n 2, 1) := by decide +kernel
theorem dL_law_1233 : decode cL_law 1233 = .ok (.invokevirtual 152, 3) := by decide +kernel
theorem dL_law_1236 : decode cL_law 1236 = .ok (.if_icmp .eq 213, 3) := by decide +kernel
theorem dL_law_1239 : decode cL_law 1239 = .ok (.iconst 0, 1) := by decide +kernel
theorem dL_law_1240 : decode cL_law 1240 = .ok (.ireturn, 1) := by decide +kernel
theorem dL_law_1241 : decode cL_law 1241 = .ok (.aload_n 1, 1) := by decide +kernel
theorem dL_law_1242 : decode cL_law 1242 = .ok (.aload_n 0, 1) := by decide +kernel
theorem dL_law_1243 : decode cL_law 1243 = .ok (.iload 5, 2) := by decide +kernel
theorem dL_law_1245 : decode cL_law 1245 = .ok (.iconst 1, 1) := by decide +kernel
theorem dL_law_1246 : decode cL_law 1246 = .ok (.iadd, 1) := by decide +kernel
theorem dL_law_1247 : decode cL_law 1247 = .ok (.iaload, 1) := by decide +kernel
theorem dL_law_1248 : decode cL_law 1248 = .ok (.aload_n 0, 1) := by decide +kernel
theorem dL_law_1249 : decode cL_law 1249 = .ok (.iload 5, 2) := by decide +kernel
theorem dL_law_1251 : decode cL_law 1251 = .ok (.iconst 2, 1) := by decide +kernel
theorem dL_law_1252 : decode cL_law 1252 = .ok (.iadd, 1) := by decide +kernel
theorem dL_law_1253 : decode cL_law 1253 = .ok (.iaload, 1) := by decide +kernel
theorem dL_law_1254 : decode cL_law 1254 = .ok (.aload_n 3, 1) := by decide +kernel
theorem dL_law_1255 : decode cL_law 1255 = .ok (.invokestatic 153, 3) := by decide +kernel
theorem dL_law_1258 : decode cL_law 1258 = .ok (.istore 6, 2) := by decide +kernel
theorem dL_law_1260 : decode cL_law 1260 = .ok (.aload_n 2, 1) := by decide +kernel
theorem dL_law_1261 : decode cL_law 1261 = .ok (.aload_n 0, 1) := by decide +kernel
theorem dL_law_1262 : decode cL_law 1262 = .ok (.iload 5, 2) := by decide +kernel
theorem dL_law_1264 : decode cL_law 1264 = .ok (.iconst 1, 1) := by decide +kernel
theorem dL_law_1265 : decode cL_law 1265 = .ok (.iadd, 1) := by decide +kernel
theorem dL_law_1266 : decode cL_law 1266 = .ok (.iaload, 1) := by decide +kernel
theorem dL_law_1267 : decode cL_law 1267 = .ok (.aload_n 0, 1) := by decide +kernel
theorem dL_law_1268 : decode cL_law 1268 = .ok (.iload 5, 2) := by decide +kernel
theorem dL_law_1270 : decode cL_law 1270 = .ok (.iconst 2, 1) := by decide +kernel
theorem dL_law_1271 : decode cL_law 1271 = .ok (.iadd, 1) := by decide +kernel
theorem dL_law_1272 : decode cL_law 1272 = .ok (.iaload, 1) := by decide +kernel
theorem dL_law_1273 : decode cL_law 1273 = .ok (.invokevirtual 155, 3) := by decide +kernel
theorem dL_law_1276 : decode cL_law 1276 = .ok (.istore 7, 2) := by decide +kernel
theorem dL_law_1278 : decode cL_law 1278 = .ok (.aload_n 2, 1) := by decide +kernel
theorem dL_law_1279 : decode cL_law 1279 = .ok (.invokevirtual 82, 3) := by decide +kernel
theorem dL_law_1282 : decode cL_law 1282 = .ok (.iload 6, 2) := by decide +kernel
theorem dL_law_1284 : decode cL_law 1284 = .ok (.if_icmp .eq 5, 3) := by decide +kernel
theorem dL_law_1287 : decode cL_law 1287 = .ok (.iconst 0, 1) := by decide +kernel
theorem dL_law_1288 : decode cL_law 1288 = .ok (.ireturn, 1) := by decide +kernel
theorem dL_law_1289 : decode cL_law 1289 = .ok (.iload 6, 2) := by decide +kernel
theorem dL_law_1291 : decode cL_law 1291 = .ok (.ifCond .ne 15, 3) := by decide +kernel
theorem dL_law_1294 : decode cL_law 1294 = .ok (.aload_n 3, 1) := by decide +kernel
theorem dL_law_1295 : decode cL_law 1295 = .ok (.iconst 0, 1) := by decide +kernel
theorem dL_law_1296 : decode cL_law 1296 = .ok (.laload, 1) := by decide +kernel
theorem dL_law_1297 : decode cL_law 1297 = .ok (.iload 7, 2) := by decide +kernel
theorem dL_law_1299 : decode cL_law 1299 = .ok (.i2l, 1) := by decide +kernel
theorem dL_law_1300 : decode cL_law 1300 = .ok (.lcmp, 1) := by decide +kernel
theorem dL_law_1301 : decode cL_law 1301 = .ok (.ifCond .eq 5, 3) := by decide +kernel
theorem dL_law_1304 : decode cL_law 1304 = .ok (.iconst 0, 1) := by decide +kernel
theorem dL_law_1305 : decode cL_law 1305 = .ok (.ireturn, 1) := by decide +kernel
theorem dL_law_1306 : decode cL_law 1306 = .ok (.goto 143, 3) := by decide +kernel
theorem dL_law_1309 : decode cL_law 1309 = .ok (.aload_n 1, 1) := by decide +kernel
theorem dL_law_1310 : decode cL_law 1310 = .ok (.aload_n 0, 1) := by decide +kernel
theorem dL_law_1311 : decode cL_law 1311 = .ok (.iload 5, 2) := by decide +kernel
theorem dL_law_1313 : decode cL_law 1313 = .ok (.iconst 1, 1) := by decide +kernel
theorem dL_law_1314 : decode cL_law 1314 = .ok (.iadd, 1) := by decide +kernel
theorem dL_law_1315 : decode cL_law 1315 = .ok (.iaload, 1) := by decide +kernel
theorem dL_law_1316 : decode cL_law 1316 = .ok (.aload_n 3, 1) := by decide +kernel
theorem dL_law_1317 : decode cL_law 1317 = .ok (.invokestatic 156, 3) := by decide +kernel
theorem dL_law_1320 : decode cL_law 1320 = .ok (.istore 6, 2) := by decide +kernel
theorem dL_law_1322 : decode cL_law 1322 = .ok (.aload_n 2, 1) := by decide +kernel
theorem dL_law_1323 : decode cL_law 1323 = .ok (.aload_n 0, 1) := by decide +kernel
theorem dL_law_1324 : decode cL_law 1324 = .ok (.iload 5, 2) := by decide +kernel
theorem dL_law_1326 : decode cL_law 1326 = .ok (.iconst 1, 1) := by decide +kernel
theorem dL_law_1327 : decode cL_law 1327 = .ok (.iadd, 1) := by decide +kernel
theorem dL_law_1328 : decode cL_law 1328 = .ok (.iaload, 1) := by decide +kernel
theorem dL_law_1329 : decode cL_law 1329 = .ok (.invokevirtual 158, 3) := by decide +kernel
theorem dL_law_1332 : decode cL_law 1332 = .ok (.istore 7, 2) := by decide +kernel
theorem dL_law_1334 : decode cL_law 1334 = .ok (.aload_n 2, 1) := by decide +kernel
theorem dL_law_1335 : decode cL_law 1335 = .ok (.invokevirtual 82, 3) := by decide +kernel
theorem dL_law_1338 : decode cL_law 1338 = .ok (.iload 6, 2) := by decide +kernel
theorem dL_law_1340 : decode cL_law 1340 = .ok (.if_icmp .eq 5, 3) := by decide +kernel
theorem dL_law_1343 : decode cL_law 1343 = .ok (.iconst 0, 1) := by decide +kernel
theorem dL_law_1344 : decode cL_law 1344 = .ok (.ireturn, 1) := by decide +kernel
theorem dL_law_1345 : decode cL_law 1345 = .ok (.iload 6, 2) := by decide +kernel
theorem dL_law_1347 : decode cL_law 1347 = .ok (.ifCond .ne 15, 3) := by decide +kernel
theorem dL_law_1350 : decode cL_law 1350 = .ok (.aload_n 3, 1) := by decide +kernel
theorem dL_law_1351 : decode cL_law 1351 = .ok (.iconst 0, 1) := by decide +kernel
theorem dL_law_1352 : decode cL_law 1352 = .ok (.laload, 1) := by decide +kernel
theorem dL_law_1353 : decode cL_law 1353 = .ok (.iload 7, 2) := by decide +kernel
theorem dL_law_1355 : decode cL_law 1355 = .ok (.i2l, 1) := by decide +kernel
theorem dL_law_1356 : decode cL_law 1356 = .ok (.lcmp, 1) := by decide +kernel
theorem dL_law_1357 : decode cL_law 1357 = .ok (.ifCond .eq 5, 3) := by decide +kernel
theorem dL_law_1360 : decode cL_law 1360 = .ok (.iconst 0, 1) := by decide +kernel
theorem dL_law_1361 : decode cL_law 1361 = .ok (.ireturn, 1) := by decide +kernel
theorem dL_law_1362 : decode cL_law 1362 = .ok (.goto 87, 3) := by decide +kernel
theorem dL_law_1365 : decode cL_law 1365 = .ok (.aload_n 1, 1) := by decide +kernel
theorem dL_law_1366 : decode cL_law 1366 = .ok (.invokevirtual 159, 3) := by decide +kernel
theorem dL_law_1369 : decode cL_law 1369 = .ok (.aload_n 2, 1) := by decide +kernel
theorem dL_law_1370 : decode cL_law 1370 = .ok (.invokevirtual 162, 3) := by decide +kernel
theorem dL_law_1373 : decode cL_law 1373 = .ok (.if_icmp .eq 76, 3) := by decide +kernel
theorem dL_law_1376 : decode cL_law 1376 = .ok (.iconst 0, 1) := by decide +kernel
theorem dL_law_1377 : decode cL_law 1377 = .ok (.ireturn, 1) := by decide +kernel
theorem dL_law_1378 : decode cL_law 1378 = .ok (.aload_n 1, 1) := by decide +kernel
theorem dL_law_1379 : decode cL_law 1379 = .ok (.invokevirtual 163, 3) := by decide +kernel
theorem dL_law_1382 : decode cL_law 1382 = .ok (.aload_n 2, 1) := by decide +kernel
theorem dL_law_1383 : decode cL_law 1383 = .ok (.invokevirtual 166, 3) := by decide +kernel
theorem dL_law_1386 : decode cL_law 1386 = .ok (.if_icmp .eq 63, 3) := by decide +kernel
theorem dL_law_1389 : decode cL_law 1389 = .ok (.iconst 0, 1) := by decide +kernel
theorem dL_law_1390 : decode cL_law 1390 = .ok (.ireturn, 1) := by decide +kernel
theorem dL_law_1391 : decode cL_law 1391 = .ok (.aload_n 1, 1) := by decide +kernel
theorem dL_law_1392 : decode cL_law 1392 = .ok (.aload_n 3, 1) := by decide +kernel
theorem dL_law_1393 : decode cL_law 1393 = .ok (.invokestatic 167, 3) := by decide +kernel
theorem dL_law_1396 : decode cL_law 1396 = .ok (.istore 6, 2) := by decide +kernel
theorem dL_law_1398 : decode cL_law 1398 = .ok (.aload_n 2, 1) := by decide +kernel
theorem dL_law_1399 : decode cL_law 1399 = .ok (.invokevirtual 170, 3) := by decide +kernel
theorem dL_law_1402 : decode cL_law 1402 = .ok (.istore 7, 2) := by decide +kernel
theorem dL_law_1404 : decode cL_law 1404 = .ok (.aload_n 2, 1) := by decide +kernel
theorem dL_law_1405 : decode cL_law 1405 = .ok (.invokevirtual 82, 3) := by decide +kernel
theorem dL_law_1408 : decode cL_law 1408 = .ok (.iload 6, 2) := by decide +kernel
theorem dL_law_1410 : decode cL_law 1410 = .ok (.if_icmp .eq 5, 3) := by decide +kernel
theorem dL_law_1413 : decode cL_law 1413 = .ok (.iconst 0, 1) := by decide +kernel
theorem dL_law_1414 : decode cL_law 1414 = .ok (.ireturn, 1) := by decide +kernel
theorem dL_law_1415 : decode cL_law 1415 = .ok (.iload 6, 2) := by decide +kernel
theorem dL_law_1417 : decode cL_law 1417 = .ok (.ifCond .ne 15, 3) := by decide +kernel
theorem dL_law_1420 : decode cL_law 1420 = .ok (.aload_n 3, 1) := by decide +kernel
theorem dL_law_1421 : decode cL_law 1421 = .ok (.iconst 0, 1) := by decide +kernel
theorem dL_law_1422 : decode cL_law 1422 = .ok (.laload, 1) := by decide +kernel
theorem dL_law_1423 : decode cL_law 1423 = .ok (.iload 7, 2) := by decide +kernel
theorem dL_law_1425 : decode cL_law 1425 = .ok (.i2l, 1) := by decide +kernel
theorem dL_law_1426 : decode cL_law 1426 = .ok (.lcmp, 1) := by decide +kernel
theorem dL_law_1427 : decode cL_law 1427 = .ok (.ifCond .eq 5, 3) := by decide +kernel
theorem dL_law_1430 : decode cL_law 1430 = .ok (.iconst 0, 1) := by decide +kernel
theorem dL_law_1431 : decode cL_law 1431 = .ok (.ireturn, 1) := by decide +kernel
theorem dL_law_1432 : decode cL_law 1432 = .ok (.goto 17, 3) := by decide +kernel
theorem dL_law_1435 : decode cL_law 1435 = .ok (.aload_n 1, 1) := by decide +kernel
theorem dL_law_1436 : decode cL_law 1436 = .ok (.invokevirtual 171, 3) := by decide +kernel
theorem dL_law_1439 : decode cL_law 1439 = .ok (.aload_n 2, 1) := by decide +kernel
theorem dL_law_1440 : decode cL_law 1440 = .ok (.invokevirtual 174, 3) := by decide +kernel
theorem dL_law_1443 : decode cL_law 1443 = .ok (.lcmp, 1) := by decide +kernel
theorem dL_law_1444 : decode cL_law 1444 = .ok (.ifCond .eq 5, 3) := by decide +kernel
theorem dL_law_1447 : decode cL_law 1447 = .ok (.iconst 0, 1) := by decide +kernel
theorem dL_law_1448 : decode cL_law 1448 = .ok (.ireturn, 1) := by decide +kernel
theorem dL_law_1449 : decode cL_law 1449 = .ok (.iinc 5 6, 3) := by decide +kernel
theorem dL_law_1452 : decode cL_law 1452 = .ok (.goto (-1424), 3) := by decide +kernel
theorem dL_law_1455 : decode cL_law 1455 = .ok (.iconst 1, 1) := by decide +kernel
theorem dL_law_1456 : decode cL_law 1456 = .ok (.ireturn, 1) := by decide +kernel
abbrev vwCl : List vw_C := [(RX0, TX0, 3), (RX1, TX1, 13), (RX2, TX2, 5), (RX3, TX3, 4), (RX4, TX4, 11)]
