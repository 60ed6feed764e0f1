set_option maxRecDepth 20000 in
theorem gX9_loose_X9_isPiece : GoodIn wsX9_loose (wsV RX9 162 RX9 yX9_isPiece wsX9_isPiece) := goodIn_app (goodIn_of _ (by decide +kernel)) ggX9_loose_X9_isPiece
set_option maxRecDepth 20000 in
theorem ggX9_loose_X9_refuse : GoodIn wsX9_loose wsX9_refuse := goodIn_r _ [14, 15, 62, 63, 64, 65, 66, 67, 68, 69, 70, 71, 72, 73, 74, 75, 76, 77, 78, 79, 80, 81, 82, 83, 84, 85, 86, 87, 88, 89, 90, 91, 92, 93, 94, 95, 96, 97, 98] (by decide +kernel) (by decide +kernel)
set_option maxRecDepth 20000 in
theorem gX9_loose_X9_refuse : GoodIn wsX9_loose (wsV RX9 124 RX9 yX9_refuse wsX9_refuse) := goodIn_app (goodIn_of _ (by decide +kernel)) ggX9_loose_X9_refuse
set_option maxRecDepth 20000 in
theorem ggX9_loose_X9_isOff : GoodIn wsX9_loose wsX9_isOff := goodIn_r _ [19, 1, 62, 63, 64, 65, 66, 67, 68, 69, 70, 71, 72, 73, 74, 75, 76, 77, 78, 79, 80, 81, 82, 83, 84, 85, 86, 87, 88, 89, 90, 91, 92, 93, 94, 95, 96, 97, 98] (by decide +kernel) (by decide +kernel)
set_option maxRecDepth 20000 in
theorem gX9_loose_X9_isOff : GoodIn wsX9_loose (wsV RX9 166 RX9 yX9_isOff wsX9_isOff) := goodIn_app (goodIn_of _ (by decide +kernel)) ggX9_loose_X9_isOff
set_option maxRecDepth 20000 in
theorem ggX9_loose_X9_looseBy : GoodIn wsX9_loose wsX9_looseBy := goodIn_r _ [23, 24, 7, 25, 26, 27, 28, 29, 5, 30, 31, 32, 33, 34, 35, 36, 37, 38, 39, 40, 41, 42, 43, 44, 45, 46, 47, 48, 49, 50, 51, 52, 53, 54, 55, 56, 57, 58, 59, 60, 61, 62, 63, 64, 65, 66, 67, 68, 69, 70, 71, 72, 73, 74, 75, 76, 77, 78, 79, 80, 81, 82, 83, 84, 85, 86, 87, 88, 89, 90, 91, 92, 93, 94, 95, 96, 97, 98] (by decide +kernel) (by decide +kernel)
set_option maxRecDepth 20000 in
theorem gX9_loose_X9_looseBy : GoodIn wsX9_loose (wsV RX9 307 RX9 yX9_looseBy wsX9_looseBy) := goodIn_app (goodIn_of _ (by decide +kernel)) ggX9_loose_X9_looseBy
theorem dX9_loose_0 : decode cX9_loose 0 = .ok (.aload_n 0, 1) := by decide +kernel
theorem dX9_loose_1 : decode cX9_loose 1 = .ok (.iload_n 1, 1) := by decide +kernel
theorem dX9_loose_2 : decode cX9_loose 2 = .ok (.invokevirtual 162, 3) := by decide +kernel
theorem dX9_loose_5 : decode cX9_loose 5 = .ok (.ifCond .ne 10, 3) := by decide +kernel
theorem dX9_loose_8 : decode cX9_loose 8 = .ok (.aload_n 0, 1) := by decide +kernel
theorem dX9_loose_9 : decode cX9_loose 9 = .ok (.bipush (-2), 2) := by decide +kernel
theorem dX9_loose_11 : decode cX9_loose 11 = .ok (.invokevirtual 124, 3) := by decide +kernel
theorem dX9_loose_14 : decode cX9_loose 14 = .ok (.ireturn, 1) := by decide +kernel
theorem dX9_loose_15 : decode cX9_loose 15 = .ok (.aload_n 0, 1) := by decide +kernel
theorem dX9_loose_16 : decode cX9_loose 16 = .ok (.iload_n 1, 1) := by decide +kernel
theorem dX9_loose_17 : decode cX9_loose 17 = .ok (.invokevirtual 166, 3) := by decide +kernel
theorem dX9_loose_20 : decode cX9_loose 20 = .ok (.ifCond .eq 12, 3) := by decide +kernel
theorem dX9_loose_23 : decode cX9_loose 23 = .ok (.aload_n 0, 1) := by decide +kernel
theorem dX9_loose_24 : decode cX9_loose 24 = .ok (.bipush (-5), 2) := by decide +kernel
theorem dX9_loose_26 : decode cX9_loose 26 = .ok (.invokevirtual 124, 3) := by decide +kernel
theorem dX9_loose_29 : decode cX9_loose 29 = .ok (.goto 12, 3) := by decide +kernel
theorem dX9_loose_32 : decode cX9_loose 32 = .ok (.aload_n 0, 1) := by decide +kernel
theorem dX9_loose_33 : decode cX9_loose 33 = .ok (.iload_n 1, 1) := by decide +kernel
theorem dX9_loose_34 : decode cX9_loose 34 = .ok (.aload_n 0, 1) := by decide +kernel
theorem dX9_loose_35 : decode cX9_loose 35 = .ok (.getfield 97, 3) := by decide +kernel
theorem dX9_loose_38 : decode cX9_loose 38 = .ok (.invokevirtual 307, 3) := by decide +kernel
theorem dX9_loose_41 : decode cX9_loose 41 = .ok (.ireturn, 1) := by decide +kernel
set_option maxRecDepth 20000 in
theorem ggX9_bars_X9_in : GoodIn wsX9_bars wsX9_in := goodIn_r _ [7] (by decide +kernel) (by decide +kernel)
set_option maxRecDepth 20000 in
theorem gX9_bars_X9_in : GoodIn wsX9_bars (va_wsS RX9 90 yX9_in wsX9_in) := goodIn_app (goodIn_of _ (by decide +kernel)) ggX9_bars_X9_in
set_option maxRecDepth 20000 in
theorem ggX9_bars_X9_isPiece : GoodIn wsX9_bars wsX9_isPiece := goodIn_r _ [11, 2, 4, 5, 6, 7, 62, 63, 64, 65, 66, 67, 68, 69, 70, 71, 72, 73, 74, 75, 76, 77, 78, 79, 80, 81, 82, 83, 84, 85, 86, 87, 88, 89, 90, 91, 92, 93, 94, 95, 96, 97, 98] (by decide +kernel) (by decide +kernel)
set_option maxRecDepth 20000 in
theorem gX9_bars_X9_isPiece : GoodIn wsX9_bars (wsV RX9 162 RX9 yX9_isPiece wsX9_isPiece) := goodIn_app (goodIn_of _ (by decide +kernel)) ggX9_bars_X9_isPiece
set_option maxRecDepth 20000 in
theorem ggX9_bars_X9_refuse : GoodIn wsX9_bars wsX9_refuse := goodIn_r _ [15, 16, 62, 63, 64, 65, 66, 67, 68, 69, 70, 71, 72, 73, 74, 75, 76, 77, 78, 79, 80, 81, 82, 83, 84, 85, 86, 87, 88, 89, 90, 91, 92, 93, 94, 95, 96, 97, 98] (by decide +kernel) (by decide +kernel)
set_option maxRecDepth 20000 in
theorem gX9_bars_X9_refuse : GoodIn wsX9_bars (wsV RX9 124 RX9 yX9_refuse wsX9_refuse) := goodIn_app (goodIn_of _ (by decide +kernel)) ggX9_bars_X9_refuse
set_option maxRecDepth 20000 in
theorem ggX9_bars_X9_noMove : GoodIn wsX9_bars wsX9_noMove := goodIn_r _ [20, 1, 21, 4, 5, 6, 7, 12, 13, 14, 15, 16, 62, 63, 64, 65, 66, 67, 68, 69, 70, 71, 72, 73, 74, 75, 76, 77, 78, 79, 80, 81, 82, 83, 84, 85, 86, 87, 88, 89, 90, 91, 92, 93, 94, 95, 96, 97, 98] (by decide +kernel) (by decide +kernel)
set_option maxRecDepth 20000 in
theorem gX9_bars_X9_noMove : GoodIn wsX9_bars (wsV RX9 298 RX9 yX9_noMove wsX9_noMove) := goodIn_app (goodIn_of _ (by decide +kernel)) ggX9_bars_X9_noMove
set_option maxRecDepth 20000 in
theorem ggX9_bars_X9_isOff : GoodIn wsX9_bars wsX9_isOff := goodIn_r _ [25, 26, 62, 63, 64, 65, 66, 67, 68, 69, 70, 71, 72, 73, 74, 75, 76, 77, 78, 79, 80, 81, 82, 83, 84, 85, 86, 87, 88, 89, 90, 91, 92, 93, 94, 95, 96, 97, 98] (by decide +kernel) (by decide +kernel)
set_option maxRecDepth 20000 in
theorem gX9_bars_X9_isOff : GoodIn wsX9_bars (wsV RX9 166 RX9 yX9_isOff wsX9_isOff) := goodIn_app (goodIn_of _ (by decide +kernel)) ggX9_bars_X9_isOff
set_option maxRecDepth 20000 in
theorem ggX9_bars_X9_comesBy : GoodIn wsX9_bars wsX9_comesBy := goodIn_r _ [30, 31, 32, 33, 34, 35, 36, 6, 37, 38, 39, 40, 41, 42, 43, 44, 45, 46, 47, 48, 49, 50, 51, 52, 53, 54, 55, 56, 57, 58, 59, 60, 61, 62, 63, 64, 65, 66, 67, 68, 69, 70, 71, 72, 73, 74, 75, 76, 77, 78, 79, 80, 81, 82, 83, 84, 85, 86, 87, 88, 89, 90, 91, 92, 93, 94, 95, 96, 97, 98] (by decide +kernel) (by decide +kernel)
set_option maxRecDepth 20000 in
theorem gX9_bars_X9_comesBy : GoodIn wsX9_bars (wsV RX9 148 RX9 yX9_comesBy wsX9_comesBy) := goodIn_app (goodIn_of _ (by decide +kernel)) ggX9_bars_X9_comesBy
theorem dX9_bars_0 : decode cX9_bars 0 = .ok (.iload_n 1, 1) := by decide +kernel
theorem dX9_bars_1 : decode cX9_bars 1 = .ok (.i2l, 1) := by decide +kernel
theorem dX9_bars_2 : decode cX9_bars 2 = .ok (.lconst 0, 1) := by decide +kernel
theorem dX9_bars_3 : decode cX9_bars 3 = .ok (.ldc2_w 118, 3) := by decide +kernel
theorem dX9_bars_6 : decode cX9_bars 6 = .ok (.invokestatic 90, 3) := by decide +kernel
theorem dX9_bars_9 : decode cX9_bars 9 = .ok (.ifCond .eq 11, 3) := by decide +kernel
theorem dX9_bars_12 : decode cX9_bars 12 = .ok (.aload_n 0, 1) := by decide +kernel
theorem dX9_bars_13 : decode cX9_bars 13 = .ok (.iload_n 2, 1) := by decide +kernel
theorem dX9_bars_14 : decode cX9_bars 14 = .ok (.invokevirtual 162, 3) := by decide +kernel
theorem dX9_bars_17 : decode cX9_bars 17 = .ok (.ifCond .ne 10, 3) := by decide +kernel
theorem dX9_bars_20 : decode cX9_bars 20 = .ok (.aload_n 0, 1) := by decide +kernel
theorem dX9_bars_21 : decode cX9_bars 21 = .ok (.bipush (-2), 2) := by decide +kernel
theorem dX9_bars_23 : decode cX9_bars 23 = .ok (.invokevirtual 124, 3) := by decide +kernel
theorem dX9_bars_26 : decode cX9_bars 26 = .ok (.ireturn, 1) := by decide +kernel
theorem dX9_bars_27 : decode cX9_bars 27 = .ok (.aload_n 0, 1) := by decide +kernel
theorem dX9_bars_28 : decode cX9_bars 28 = .ok (.iload_n 1, 1) := by decide +kernel
theorem dX9_bars_29 : decode cX9_bars 29 = .ok (.invokevirtual 298, 3) := by decide +kernel
theorem dX9_bars_32 : decode cX9_bars 32 = .ok (.istore_n 3, 1) := by decide +kernel
theorem dX9_bars_33 : decode cX9_bars 33 = .ok (.iload_n 3, 1) := by decide +kernel
theorem dX9_bars_34 : decode cX9_bars 34 = .ok (.ifCond .eq 5, 3) := by decide +kernel
theorem dX9_bars_37 : decode cX9_bars 37 = .ok (.iload_n 3, 1) := by decide +kernel
theorem dX9_bars_38 : decode cX9_bars 38 = .ok (.ireturn, 1) := by decide +kernel
theorem dX9_bars_39 : decode cX9_bars 39 = .ok (.aload_n 0, 1) := by decide +kernel
theorem dX9_bars_40 : decode cX9_bars 40 = .ok (.iload_n 2, 1) := by decide +kernel
theorem dX9_bars_41 : decode cX9_bars 41 = .ok (.invokevirtual 166, 3) := by decide +kernel
theorem dX9_bars_44 : decode cX9_bars 44 = .ok (.ifCond .eq 10, 3) := by decide +kernel
theorem dX9_bars_47 : decode cX9_bars 47 = .ok (.aload_n 0, 1) := by decide +kernel
theorem dX9_bars_48 : decode cX9_bars 48 = .ok (.bipush (-5), 2) := by decide +kernel
theorem dX9_bars_50 : decode cX9_bars 50 = .ok (.invokevirtual 124, 3) := by decide +kernel
theorem dX9_bars_53 : decode cX9_bars 53 = .ok (.ireturn, 1) := by decide +kernel
theorem dX9_bars_54 : decode cX9_bars 54 = .ok (.iconst 0, 1) := by decide +kernel
theorem dX9_bars_55 : decode cX9_bars 55 = .ok (.istore 4, 2) := by decide +kernel
theorem dX9_bars_57 : decode cX9_bars 57 = .ok (.iconst 0, 1) := by decide +kernel
theorem dX9_bars_58 : decode cX9_bars 58 = .ok (.istore 5, 2) := by decide +kernel
theorem dX9_bars_60 : decode cX9_bars 60 = .ok (.iload 5, 2) := by decide +kernel
theorem dX9_bars_62 : decode cX9_bars 62 = .ok (.aload_n 0, 1) := by decide +kernel
theorem dX9_bars_63 : decode cX9_bars 63 = .ok (.getfield 94, 3) := by decide +kernel
theorem dX9_bars_66 : decode cX9_bars 66 = .ok (.if_icmp .ge 58, 3) := by decide +kernel
theorem dX9_bars_69 : decode cX9_bars 69 = .ok (.iload 4, 2) := by decide +kernel
theorem dX9_bars_71 : decode cX9_bars 71 = .ok (.iload 5, 2) := by decide +kernel
theorem dX9_bars_73 : decode cX9_bars 73 = .ok (.iload_n 2, 1) := by decide +kernel
theorem dX9_bars_74 : decode cX9_bars 74 = .ok (.if_icmp .eq 40, 3) := by decide +kernel
theorem dX9_bars_77 : decode cX9_bars 77 = .ok (.aload_n 0, 1) := by decide +kernel
theorem dX9_bars_78 : decode cX9_bars 78 = .ok (.iload 5, 2) := by decide +kernel
theorem dX9_bars_80 : decode cX9_bars 80 = .ok (.invokevirtual 166, 3) := by decide +kernel
theorem dX9_bars_83 : decode cX9_bars 83 = .ok (.ifCond .ne 31, 3) := by decide +kernel
theorem dX9_bars_86 : decode cX9_bars 86 = .ok (.aload_n 0, 1) := by decide +kernel
theorem dX9_bars_87 : decode cX9_bars 87 = .ok (.iload_n 1, 1) := by decide +kernel
theorem dX9_bars_88 : decode cX9_bars 88 = .ok (.aload_n 0, 1) := by decide +kernel
theorem dX9_bars_89 : decode cX9_bars 89 = .ok (.getfield 47, 3) := by decide +kernel
theorem dX9_bars_92 : decode cX9_bars 92 = .ok (.iload_n 2, 1) := by decide +kernel
theorem dX9_bars_93 : decode cX9_bars 93 = .ok (.laload, 1) := by decide +kernel
theorem dX9_bars_94 : decode cX9_bars 94 = .ok (.aload_n 0, 1) := by decide +kernel
theorem dX9_bars_95 : decode cX9_bars 95 = .ok (.getfield 47, 3) := by decide +kernel
theorem dX9_bars_98 : decode cX9_bars 98 = .ok (.iload 5, 2) := by decide +kernel
theorem dX9_bars_100 : decode cX9_bars 100 = .ok (.laload, 1) := by decide +kernel
theorem dX9_bars_101 : decode cX9_bars 101 = .ok (.invokevirtual 148, 3) := by decide +kernel
theorem dX9_bars_104 : decode cX9_bars 104 = .ok (.ifCond .ne 10, 3) := by decide +kernel
theorem dX9_bars_107 : decode cX9_bars 107 = .ok (.iconst 1, 1) := by decide +kernel
theorem dX9_bars_108 : decode cX9_bars 108 = .ok (.iload 5, 2) := by decide +kernel
theorem dX9_bars_110 : decode cX9_bars 110 = .ok (.ishl, 1) := by decide +kernel
theorem dX9_bars_111 : decode cX9_bars 111 = .ok (.goto 4, 3) := by decide +kernel
theorem dX9_bars_114 : decode cX9_bars 114 = .ok (.iconst 0, 1) := by decide +kernel
theorem dX9_bars_115 : decode cX9_bars 115 = .ok (.ior, 1) := by decide +kernel
theorem dX9_bars_116 : decode cX9_bars 116 = .ok (.istore 4, 2) := by decide +kernel
theorem dX9_bars_118 : decode cX9_bars 118 = .ok (.iinc 5 1, 3) := by decide +kernel
theorem dX9_bars_121 : decode cX9_bars 121 = .ok (.goto (-61), 3) := by decide +kernel
theorem dX9_bars_124 : decode cX9_bars 124 = .ok (.iload 4, 2) := by decide +kernel
theorem dX9_bars_126 : decode cX9_bars 126 = .ok (.ireturn, 1) := by decide +kernel
set_option maxRecDepth 20000 in
theorem ggX9_findOrder_X9_looseBy : GoodIn wsX9_findOrder wsX9_looseBy := goodIn_r _ [10, 11, 3, 12, 13, 14, 15, 16, 9, 17, 18, 19, 20, 21, 22, 23, 24, 25, 26, 27, 28, 29, 30, 31, 32, 33, 34, 35, 36, 37, 38, 39, 40, 41, 42, 43, 44, 45, 46, 47, 48, 49, 50, 51, 52, 53, 54, 55, 56, 57, 58, 59, 60, 61, 62, 63, 64, 65, 66, 67, 68, 69, 70, 71, 72, 73, 74, 75, 76, 77, 78, 79, 80, 81, 82, 83, 84, 85] (by decide +kernel) (by decide +kernel)
set_option maxRecDepth 20000 in
theorem gX9_findOrder_X9_looseBy : GoodIn wsX9_findOrder (wsV RX9 307 RX9 yX9_looseBy wsX9_looseBy) := goodIn_app (goodIn_of _ (by decide +kernel)) ggX9_findOrder_X9_looseBy
theorem dX9_findOrder_0 : decode cX9_findOrder 0 = .ok (.aload_n 0, 1) := by decide +kernel
theorem dX9_findOrder_1 : decode cX9_findOrder 1 = .ok (.getfield 97, 3) := by decide +kernel
theorem dX9_findOrder_4 : decode cX9_findOrder 4 = .ok (.istore_n 1, 1) := by decide +kernel
theorem dX9_findOrder_5 : decode cX9_findOrder 5 = .ok (.aload_n 0, 1) := by decide +kernel
theorem dX9_findOrder_6 : decode cX9_findOrder 6 = .ok (.iconst 0, 1) := by decide +kernel
theorem dX9_findOrder_7 : decode cX9_findOrder 7 = .ok (.putfield 310, 3) := by decide +kernel
theorem dX9_findOrder_10 : decode cX9_findOrder 10 = .ok (.iconst 1, 1) := by decide +kernel
theorem dX9_findOrder_11 : decode cX9_findOrder 11 = .ok (.istore_n 2, 1) := by decide +kernel
theorem dX9_findOrder_12 : decode cX9_findOrder 12 = .ok (.iload_n 2, 1) := by decide +kernel
theorem dX9_findOrder_13 : decode cX9_findOrder 13 = .ok (.ifCond .eq 90, 3) := by decide +kernel
theorem dX9_findOrder_16 : decode cX9_findOrder 16 = .ok (.iconst 0, 1) := by decide +kernel
theorem dX9_findOrder_17 : decode cX9_findOrder 17 = .ok (.istore_n 2, 1) := by decide +kernel
theorem dX9_findOrder_18 : decode cX9_findOrder 18 = .ok (.iconst 0, 1) := by decide +kernel
theorem dX9_findOrder_19 : decode cX9_findOrder 19 = .ok (.istore_n 3, 1) := by decide +kernel
theorem dX9_findOrder_20 : decode cX9_findOrder 20 = .ok (.iload_n 3, 1) := by decide +kernel
theorem dX9_findOrder_21 : decode cX9_findOrder 21 = .ok (.aload_n 0, 1) := by decide +kernel
theorem dX9_findOrder_22 : decode cX9_findOrder 22 = .ok (.getfield 94, 3) := by decide +kernel
theorem dX9_findOrder_25 : decode cX9_findOrder 25 = .ok (.if_icmp .ge 75, 3) := by decide +kernel
theorem dX9_findOrder_28 : decode cX9_findOrder 28 = .ok (.iload_n 2, 1) := by decide +kernel
theorem dX9_findOrder_29 : decode cX9_findOrder 29 = .ok (.ifCond .ne 71, 3) := by decide +kernel
theorem dX9_findOrder_32 : decode cX9_findOrder 32 = .ok (.iload_n 1, 1) := by decide +kernel
theorem dX9_findOrder_33 : decode cX9_findOrder 33 = .ok (.iload_n 3, 1) := by decide +kernel
theorem dX9_findOrder_34 : decode cX9_findOrder 34 = .ok (.ishr, 1) := by decide +kernel
theorem dX9_findOrder_35 : decode cX9_findOrder 35 = .ok (.iconst 1, 1) := by decide +kernel
theorem dX9_findOrder_36 : decode cX9_findOrder 36 = .ok (.iand, 1) := by decide +kernel
theorem dX9_findOrder_37 : decode cX9_findOrder 37 = .ok (.ifCond .eq 7, 3) := by decide +kernel
theorem dX9_findOrder_40 : decode cX9_findOrder 40 = .ok (.iconst (-1), 1) := by decide +kernel
theorem dX9_findOrder_41 : decode cX9_findOrder 41 = .ok (.goto 9, 3) := by decide +kernel
theorem dX9_findOrder_44 : decode cX9_findOrder 44 = .ok (.aload_n 0, 1) := by decide +kernel
theorem dX9_findOrder_45 : decode cX9_findOrder 45 = .ok (.iload_n 3, 1) := by decide +kernel
theorem dX9_findOrder_46 : decode cX9_findOrder 46 = .ok (.iload_n 1, 1) := by decide +kernel
theorem dX9_findOrder_47 : decode cX9_findOrder 47 = .ok (.invokevirtual 307, 3) := by decide +kernel
theorem dX9_findOrder_50 : decode cX9_findOrder 50 = .ok (.istore 4, 2) := by decide +kernel
theorem dX9_findOrder_52 : decode cX9_findOrder 52 = .ok (.iload 4, 2) := by decide +kernel
theorem dX9_findOrder_54 : decode cX9_findOrder 54 = .ok (.iconst (-1), 1) := by decide +kernel
theorem dX9_findOrder_55 : decode cX9_findOrder 55 = .ok (.if_icmp .eq 39, 3) := by decide +kernel
theorem dX9_findOrder_58 : decode cX9_findOrder 58 = .ok (.aload_n 0, 1) := by decide +kernel
theorem dX9_findOrder_59 : decode cX9_findOrder 59 = .ok (.getfield 62, 3) := by decide +kernel
theorem dX9_findOrder_62 : decode cX9_findOrder 62 = .ok (.aload_n 0, 1) := by decide +kernel
theorem dX9_findOrder_63 : decode cX9_findOrder 63 = .ok (.getfield 310, 3) := by decide +kernel
theorem dX9_findOrder_66 : decode cX9_findOrder 66 = .ok (.iload_n 3, 1) := by decide +kernel
theorem dX9_findOrder_67 : decode cX9_findOrder 67 = .ok (.iastore, 1) := by decide +kernel
theorem dX9_findOrder_68 : decode cX9_findOrder 68 = .ok (.aload_n 0, 1) := by decide +kernel
theorem dX9_findOrder_69 : decode cX9_findOrder 69 = .ok (.getfield 65, 3) := by decide +kernel
theorem dX9_findOrder_72 : decode cX9_findOrder 72 = .ok (.aload_n 0, 1) := by decide +kernel
theorem dX9_findOrder_73 : decode cX9_findOrder 73 = .ok (.dup, 1) := by decide +kernel
theorem dX9_findOrder_74 : decode cX9_findOrder 74 = .ok (.getfield 310, 3) := by decide +kernel
theorem dX9_findOrder_77 : decode cX9_findOrder 77 = .ok (.dup_x1, 1) := by decide +kernel
theorem dX9_findOrder_78 : decode cX9_findOrder 78 = .ok (.iconst 1, 1) := by decide +kernel
theorem dX9_findOrder_79 : decode cX9_findOrder 79 = .ok (.iadd, 1) := by decide +kernel
theorem dX9_findOrder_80 : decode cX9_findOrder 80 = .ok (.putfield 310, 3) := by decide +kernel
theorem dX9_findOrder_83 : decode cX9_findOrder 83 = .ok (.iload 4, 2) := by decide +kernel
theorem dX9_findOrder_85 : decode cX9_findOrder 85 = .ok (.iastore, 1) := by decide +kernel
theorem dX9_findOrder_86 : decode cX9_findOrder 86 = .ok (.iload_n 1, 1) := by decide +kernel
theorem dX9_findOrder_87 : decode cX9_findOrder 87 = .ok (.iconst 1, 1) := by decide +kernel
theorem dX9_findOrder_88 : decode cX9_findOrder 88 = .ok (.iload_n 3, 1) := by decide +kernel
theorem dX9_findOrder_89 : decode cX9_findOrder 89 = .ok (.ishl, 1) := by decide +kernel
theorem dX9_findOrder_90 : decode cX9_findOrder 90 = .ok (.ior, 1) := by decide +kernel
theorem dX9_findOrder_91 : decode cX9_findOrder 91 = .ok (.istore_n 1, 1) := by decide +kernel
theorem dX9_findOrder_92 : decode cX9_findOrder 92 = .ok (.iconst 1, 1) := by decide +kernel
theorem dX9_findOrder_93 : decode cX9_findOrder 93 = .ok (.istore_n 2, 1) := by decide +kernel
theorem dX9_findOrder_94 : decode cX9_findOrder 94 = .ok (.iinc 3 1, 3) := by decide +kernel
theorem dX9_findOrder_97 : decode cX9_findOrder 97 = .ok (.goto (-77), 3) := by decide +kernel
theorem dX9_findOrder_100 : decode cX9_findOrder 100 = .ok (.goto (-88), 3) := by decide +kernel
theorem dX9_findOrder_103 : decode cX9_findOrder 103 = .ok (.iconst 1, 1) := by decide +kernel
theorem dX9_findOrder_104 : decode cX9_findOrder 104 = .ok (.aload_n 0, 1) := by decide +kernel
theorem dX9_findOrder_105 : decode cX9_findOrder 105 = .ok (.getfield 94, 3) := by decide +kernel
theorem dX9_findOrder_108 : decode cX9_findOrder 108 = .ok (.ishl, 1) := by decide +kernel
theorem dX9_findOrder_109 : decode cX9_findOrder 109 = .ok (.iconst 1, 1) := by decide +kernel
theorem dX9_findOrder_110 : decode cX9_findOrder 110 = .ok (.isub, 1) := by decide +kernel
theorem dX9_findOrder_111 : decode cX9_findOrder 111 = .ok (.iload_n 1, 1) := by decide +kernel
theorem dX9_findOrder_112 : decode cX9_findOrder 112 = .ok (.iconst (-1), 1) := by decide +kernel
theorem dX9_findOrder_113 : decode cX9_findOrder 113 = .ok (.ixor, 1) := by decide +kernel
theorem dX9_findOrder_114 : decode cX9_findOrder 114 = .ok (.iand, 1) := by decide +kernel
theorem dX9_findOrder_115 : decode cX9_findOrder 115 = .ok (.ireturn, 1) := by decide +kernel
set_option maxRecDepth 20000 in
theorem ggX9_order_X9_in : GoodIn wsX9_order wsX9_in := goodIn_r _ [7] (by decide +kernel) (by decide +kernel)
set_option maxRecDepth 20000 in
theorem gX9_order_X9_in : GoodIn wsX9_order (va_wsS RX9 90 yX9_in wsX9_in) := goodIn_app (goodIn_of _ (by decide +kernel)) ggX9_order_X9_in
set_option maxRecDepth 20000 in
theorem ggX9_order_X9_refuse : GoodIn wsX9_order wsX9_refuse := goodIn_r _ [11, 12, 61, 62, 63, 64, 65, 66, 67, 68, 69, 70, 71, 72, 73, 74, 75, 76, 77, 78, 79, 80, 81, 82, 83, 84, 85, 86, 87, 88, 89, 90, 91, 92, 93, 94, 95, 96, 97] (by decide +kernel) (by decide +kernel)
set_option maxRecDepth 20000 in
theorem gX9_order_X9_refuse : GoodIn wsX9_order (wsV RX9 124 RX9 yX9_refuse wsX9_refuse) := goodIn_app (goodIn_of _ (by decide +kernel)) ggX9_order_X9_refuse
set_option maxRecDepth 20000 in
theorem ggX9_order_X9_findOrder : GoodIn wsX9_order wsX9_findOrder := goodIn_r _ [16, 17, 1, 18, 2, 3, 19, 20, 21, 6, 22, 23, 24, 25, 26, 27, 28, 29, 30, 31, 32, 33, 34, 35, 36, 37, 38, 39, 40, 41, 42, 43, 44, 45, 46, 47, 48, 49, 50, 51, 52, 53, 54, 55, 56, 57, 58, 59, 60, 61, 62, 63, 64, 65, 66, 67, 68, 69, 70, 71, 72, 73, 74, 75, 76, 77, 78, 79, 80, 81, 82, 83, 84, 85, 86, 87, 88, 89, 90, 91, 92, 93, 94, 95, 96, 97] (by decide +kernel) (by decide +kernel)
set_option maxRecDepth 20000 in
theorem gX9_order_X9_findOrder : GoodIn wsX9_order (wsV RX9 313 RX9 yX9_findOrder wsX9_findOrder) := goodIn_app (goodIn_of _ (by decide +kernel)) ggX9_order_X9_findOrder
theorem dX9_order_0 : decode cX9_order 0 = .ok (.iload_n 2, 1) := by decide +kernel
theorem dX9_order_1 : decode cX9_order 1 = .ok (.i2l, 1) := by decide +kernel
theorem dX9_order_2 : decode cX9_order 2 = .ok (.lconst 0, 1) := by decide +kernel
theorem dX9_order_3 : decode cX9_order 3 = .ok (.lconst 1, 1) := by decide +kernel
theorem dX9_order_4 : decode cX9_order 4 = .ok (.invokestatic 90, 3) := by decide +kernel
theorem dX9_order_7 : decode cX9_order 7 = .ok (.ifCond .ne 10, 3) := by decide +kernel
theorem dX9_order_10 : decode cX9_order 10 = .ok (.aload_n 0, 1) := by decide +kernel
theorem dX9_order_11 : decode cX9_order 11 = .ok (.bipush (-2), 2) := by decide +kernel
theorem dX9_order_13 : decode cX9_order 13 = .ok (.invokevirtual 124, 3) := by decide +kernel
theorem dX9_order_16 : decode cX9_order 16 = .ok (.ireturn, 1) := by decide +kernel
theorem dX9_order_17 : decode cX9_order 17 = .ok (.aload_n 0, 1) := by decide +kernel
theorem dX9_order_18 : decode cX9_order 18 = .ok (.invokevirtual 313, 3) := by decide +kernel
theorem dX9_order_21 : decode cX9_order 21 = .ok (.pop, 1) := by decide +kernel
theorem dX9_order_22 : decode cX9_order 22 = .ok (.iload_n 1, 1) := by decide +kernel
theorem dX9_order_23 : decode cX9_order 23 = .ok (.i2l, 1) := by decide +kernel
theorem dX9_order_24 : decode cX9_order 24 = .ok (.lconst 0, 1) := by decide +kernel
theorem dX9_order_25 : decode cX9_order 25 = .ok (.aload_n 0, 1) := by decide +kernel
theorem dX9_order_26 : decode cX9_order 26 = .ok (.getfield 310, 3) := by decide +kernel
theorem dX9_order_29 : decode cX9_order 29 = .ok (.iconst 1, 1) := by decide +kernel
theorem dX9_order_30 : decode cX9_order 30 = .ok (.isub, 1) := by decide +kernel
theorem dX9_order_31 : decode cX9_order 31 = .ok (.i2l, 1) := by decide +kernel
theorem dX9_order_32 : decode cX9_order 32 = .ok (.invokestatic 90, 3) := by decide +kernel
theorem dX9_order_35 : decode cX9_order 35 = .ok (.ifCond .ne 7, 3) := by decide +kernel
theorem dX9_order_38 : decode cX9_order 38 = .ok (.iconst (-1), 1) := by decide +kernel
theorem dX9_order_39 : decode cX9_order 39 = .ok (.goto 22, 3) := by decide +kernel
theorem dX9_order_42 : decode cX9_order 42 = .ok (.iload_n 2, 1) := by decide +kernel
theorem dX9_order_43 : decode cX9_order 43 = .ok (.ifCond .ne 12, 3) := by decide +kernel
theorem dX9_order_46 : decode cX9_order 46 = .ok (.aload_n 0, 1) := by decide +kernel
theorem dX9_order_47 : decode cX9_order 47 = .ok (.getfield 62, 3) := by decide +kernel
theorem dX9_order_50 : decode cX9_order 50 = .ok (.iload_n 1, 1) := by decide +kernel
theorem dX9_order_51 : decode cX9_order 51 = .ok (.iaload, 1) := by decide +kernel
theorem dX9_order_52 : decode cX9_order 52 = .ok (.goto 9, 3) := by decide +kernel
theorem dX9_order_55 : decode cX9_order 55 = .ok (.aload_n 0, 1) := by decide +kernel
theorem dX9_order_56 : decode cX9_order 56 = .ok (.getfield 65, 3) := by decide +kernel
theorem dX9_order_59 : decode cX9_order 59 = .ok (.iload_n 1, 1) := by decide +kernel
theorem dX9_order_60 : decode cX9_order 60 = .ok (.iaload, 1) := by decide +kernel
theorem dX9_order_61 : decode cX9_order 61 = .ok (.ireturn, 1) := by decide +kernel
set_option maxRecDepth 20000 in
theorem ggX9_ring_X9_findOrder : GoodIn wsX9_ring wsX9_findOrder := goodIn_r _ [5, 6, 7, 8, 9, 10, 11, 12, 13, 4, 14, 15, 16, 17, 18, 19, 20, 21, 22, 23, 24, 25, 26, 27, 28, 29, 30, 31, 32, 33, 34, 35, 36, 37, 38, 39, 40, 41, 42, 43, 44, 45, 46, 47, 48, 49, 50, 51, 52, 53, 54, 55, 56, 57, 58, 59, 60, 61, 62, 63, 64, 65, 66, 67, 68, 69, 70, 71, 72, 73, 74, 75, 76, 77, 78, 79, 80, 81, 82, 83, 84, 85, 86, 87, 88, 89] (by decide +kernel) (by decide +kernel)
set_option maxRecDepth 20000 in
theorem gX9_ring_X9_findOrder : GoodIn wsX9_ring (wsV RX9 313 RX9 yX9_findOrder wsX9_findOrder) := goodIn_app (goodIn_of _ (by decide +kernel)) ggX9_ring_X9_findOrder
theorem dX9_ring_0 : decode cX9_ring 0 = .ok (.aload_n 0, 1) := by decide +kernel
theorem dX9_ring_1 : decode cX9_ring 1 = .ok (.invokevirtual 313, 3) := by decide +kernel
theorem dX9_ring_4 : decode cX9_ring 4 = .ok (.ireturn, 1) := by decide +kernel
set_option maxRecDepth 20000 in
theorem ggX9_freeOf_X9_from : GoodIn wsX9_freeOf wsX9_from := goodIn_r _ [5, 6, 7, 8, 9, 4, 10, 14, 15, 16, 17, 18, 19, 20, 21, 22, 23, 24, 25, 26, 27, 28, 29, 30, 31, 32, 33, 34, 35, 36, 37, 38, 39, 40, 41, 42, 43, 44, 45, 46, 47, 48, 49, 50] (by decide +kernel) (by decide +kernel)
set_option maxRecDepth 20000 in
theorem gX9_freeOf_X9_from : GoodIn wsX9_freeOf (wsV RX9 279 RX9 yX9_from wsX9_from) := goodIn_app (goodIn_of _ (by decide +kernel)) ggX9_freeOf_X9_from
set_option maxRecDepth 20000 in
theorem ggX9_freeOf_X9_has : GoodIn wsX9_freeOf wsX9_has := goodIn_r _ [13] (by decide +kernel) (by decide +kernel)
set_option maxRecDepth 20000 in
theorem gX9_freeOf_X9_has : GoodIn wsX9_freeOf (va_wsS RX9 110 yX9_has wsX9_has) := goodIn_app (goodIn_of _ (by decide +kernel)) ggX9_freeOf_X9_has
theorem dX9_freeOf_0 : decode cX9_freeOf 0 = .ok (.iconst 0, 1) := by decide +kernel
theorem dX9_freeOf_1 : decode cX9_freeOf 1 = .ok (.istore 4, 2) := by decide +kernel
theorem dX9_freeOf_3 : decode cX9_freeOf 3 = .ok (.iconst 0, 1) := by decide +kernel
theorem dX9_freeOf_4 : decode cX9_freeOf 4 = .ok (.istore 5, 2) := by decide +kernel
theorem dX9_freeOf_6 : decode cX9_freeOf 6 = .ok (.iload 5, 2) := by decide +kernel
theorem dX9_freeOf_8 : decode cX9_freeOf 8 = .ok (.bipush 6, 2) := by decide +kernel
theorem dX9_freeOf_10 : decode cX9_freeOf 10 = .ok (.if_icmp .ge 77, 3) := by decide +kernel
theorem dX9_freeOf_13 : decode cX9_freeOf 13 = .ok (.iconst 1, 1) := by decide +kernel
theorem dX9_freeOf_14 : decode cX9_freeOf 14 = .ok (.istore 6, 2) := by decide +kernel
theorem dX9_freeOf_16 : decode cX9_freeOf 16 = .ok (.aload_n 0, 1) := by decide +kernel
theorem dX9_freeOf_17 : decode cX9_freeOf 17 = .ok (.iload_n 1, 1) := by decide +kernel
theorem dX9_freeOf_18 : decode cX9_freeOf 18 = .ok (.iload 5, 2) := by decide +kernel
theorem dX9_freeOf_20 : decode cX9_freeOf 20 = .ok (.invokevirtual 279, 3) := by decide +kernel
theorem dX9_freeOf_23 : decode cX9_freeOf 23 = .ok (.istore 7, 2) := by decide +kernel
theorem dX9_freeOf_25 : decode cX9_freeOf 25 = .ok (.iload 7, 2) := by decide +kernel
theorem dX9_freeOf_27 : decode cX9_freeOf 27 = .ok (.iconst (-1), 1) := by decide +kernel
theorem dX9_freeOf_28 : decode cX9_freeOf 28 = .ok (.if_icmp .eq 35, 3) := by decide +kernel
theorem dX9_freeOf_31 : decode cX9_freeOf 31 = .ok (.iload 6, 2) := by decide +kernel
theorem dX9_freeOf_33 : decode cX9_freeOf 33 = .ok (.lload_n 2, 1) := by decide +kernel
theorem dX9_freeOf_34 : decode cX9_freeOf 34 = .ok (.iload 7, 2) := by decide +kernel
theorem dX9_freeOf_36 : decode cX9_freeOf 36 = .ok (.invokestatic 110, 3) := by decide +kernel
theorem dX9_freeOf_39 : decode cX9_freeOf 39 = .ok (.ifCond .ne 7, 3) := by decide +kernel
theorem dX9_freeOf_42 : decode cX9_freeOf 42 = .ok (.iconst 1, 1) := by decide +kernel
theorem dX9_freeOf_43 : decode cX9_freeOf 43 = .ok (.goto 4, 3) := by decide +kernel
theorem dX9_freeOf_46 : decode cX9_freeOf 46 = .ok (.iconst 0, 1) := by decide +kernel
theorem dX9_freeOf_47 : decode cX9_freeOf 47 = .ok (.iand, 1) := by decide +kernel
theorem dX9_freeOf_48 : decode cX9_freeOf 48 = .ok (.istore 6, 2) := by decide +kernel
theorem dX9_freeOf_50 : decode cX9_freeOf 50 = .ok (.aload_n 0, 1) := by decide +kernel
theorem dX9_freeOf_51 : decode cX9_freeOf 51 = .ok (.iload 7, 2) := by decide +kernel
theorem dX9_freeOf_53 : decode cX9_freeOf 53 = .ok (.iload 5, 2) := by decide +kernel
theorem dX9_freeOf_55 : decode cX9_freeOf 55 = .ok (.invokevirtual 279, 3) := by decide +kernel
theorem dX9_freeOf_58 : decode cX9_freeOf 58 = .ok (.istore 7, 2) := by decide +kernel
theorem dX9_freeOf_60 : decode cX9_freeOf 60 = .ok (.goto (-35), 3) := by decide +kernel
theorem dX9_freeOf_63 : decode cX9_freeOf 63 = .ok (.iload 4, 2) := by decide +kernel
theorem dX9_freeOf_65 : decode cX9_freeOf 65 = .ok (.iload 6, 2) := by decide +kernel
theorem dX9_freeOf_67 : decode cX9_freeOf 67 = .ok (.ifCond .eq 10, 3) := by decide +kernel
theorem dX9_freeOf_70 : decode cX9_freeOf 70 = .ok (.iconst 1, 1) := by decide +kernel
theorem dX9_freeOf_71 : decode cX9_freeOf 71 = .ok (.iload 5, 2) := by decide +kernel
theorem dX9_freeOf_73 : decode cX9_freeOf 73 = .ok (.ishl, 1) := by decide +kernel
theorem dX9_freeOf_74 : decode cX9_freeOf 74 = .ok (.goto 4, 3) := by decide +kernel
theorem dX9_freeOf_77 : decode cX9_freeOf 77 = .ok (.iconst 0, 1) := by decide +kernel
theorem dX9_freeOf_78 : decode cX9_freeOf 78 = .ok (.ior, 1) := by decide +kernel
theorem dX9_freeOf_79 : decode cX9_freeOf 79 = .ok (.istore 4, 2) := by decide +kernel
theorem dX9_freeOf_81 : decode cX9_freeOf 81 = .ok (.iinc 5 1, 3) := by decide +kernel
theorem dX9_freeOf_84 : decode cX9_freeOf 84 = .ok (.goto (-78), 3) := by decide +kernel
theorem dX9_freeOf_87 : decode cX9_freeOf 87 = .ok (.iload 4, 2) := by decide +kernel
theorem dX9_freeOf_89 : decode cX9_freeOf 89 = .ok (.ireturn, 1) := by decide +kernel
set_option maxRecDepth 20000 in
theorem ggX9_free_X9_isCube : GoodIn wsX9_free wsX9_isCube := goodIn_r _ [6, 7, 8, 9, 5, 10, 11, 12, 13, 14, 35, 36, 37, 38, 39, 40, 41, 42, 43, 44, 45, 46, 47, 48, 49, 50, 51, 52, 53, 54, 55, 56, 57, 58, 59, 60, 61, 62, 63, 64, 65, 66, 67, 68, 69, 70, 71] (by decide +kernel) (by decide +kernel)
set_option maxRecDepth 20000 in
theorem gX9_free_X9_isCube : GoodIn wsX9_free (wsV RX9 169 RX9 yX9_isCube wsX9_isCube) := goodIn_app (goodIn_of _ (by decide +kernel)) ggX9_free_X9_isCube
set_option maxRecDepth 20000 in
theorem ggX9_free_X9_refuse : GoodIn wsX9_free wsX9_refuse := goodIn_r _ [18, 19, 35, 36, 37, 38, 39, 40, 41, 42, 43, 44, 45, 46, 47, 48, 49, 50, 51, 52, 53, 54, 55, 56, 57, 58, 59, 60, 61, 62, 63, 64, 65, 66, 67, 68, 69, 70, 71] (by decide +kernel) (by decide +kernel)
set_option maxRecDepth 20000 in
theorem gX9_free_X9_refuse : GoodIn wsX9_free (wsV RX9 124 RX9 yX9_refuse wsX9_refuse) := goodIn_app (goodIn_of _ (by decide +kernel)) ggX9_free_X9_refuse
set_option maxRecDepth 20000 in
theorem ggX9_free_X9_has : GoodIn wsX9_free wsX9_has := goodIn_r _ [22] (by decide +kernel) (by decide +kernel)
set_option maxRecDepth 20000 in
theorem gX9_free_X9_has : GoodIn wsX9_free (va_wsS RX9 110 yX9_has wsX9_has) := goodIn_app (goodIn_of _ (by decide +kernel)) ggX9_free_X9_has
set_option maxRecDepth 20000 in
theorem ggX9_free_X9_freeOf : GoodIn wsX9_free wsX9_freeOf := goodIn_r _ [26, 27, 28, 29, 5, 30, 11, 31, 32, 33, 34, 20, 21, 22, 35, 36, 37, 38, 39, 40, 41, 42, 43, 44, 45, 46, 47, 48, 49, 50, 51, 52, 53, 54, 55, 56, 57, 58, 59, 60, 61, 62, 63, 64, 65, 66, 67, 68, 69, 70, 71] (by decide +kernel) (by decide +kernel)
set_option maxRecDepth 20000 in
theorem gX9_free_X9_freeOf : GoodIn wsX9_free (wsV RX9 316 RX9 yX9_freeOf wsX9_freeOf) := goodIn_app (goodIn_of _ (by decide +kernel)) ggX9_free_X9_freeOf
theorem dX9_free_0 : decode cX9_free 0 = .ok (.aload_n 0, 1) := by decide +kernel
theorem dX9_free_1 : decode cX9_free 1 = .ok (.iload_n 1, 1) := by decide +kernel
theorem dX9_free_2 : decode cX9_free 2 = .ok (.invokevirtual 169, 3) := by decide +kernel
theorem dX9_free_5 : decode cX9_free 5 = .ok (.ifCond .ne 10, 3) := by decide +kernel
theorem dX9_free_8 : decode cX9_free 8 = .ok (.aload_n 0, 1) := by decide +kernel
theorem dX9_free_9 : decode cX9_free 9 = .ok (.bipush (-2), 2) := by decide +kernel
theorem dX9_free_11 : decode cX9_free 11 = .ok (.invokevirtual 124, 3) := by decide +kernel
theorem dX9_free_14 : decode cX9_free 14 = .ok (.ireturn, 1) := by decide +kernel
theorem dX9_free_15 : decode cX9_free 15 = .ok (.aload_n 0, 1) := by decide +kernel
theorem dX9_free_16 : decode cX9_free 16 = .ok (.getfield 106, 3) := by decide +kernel
theorem dX9_free_19 : decode cX9_free 19 = .ok (.iload_n 1, 1) := by decide +kernel
theorem dX9_free_20 : decode cX9_free 20 = .ok (.invokestatic 110, 3) := by decide +kernel
theorem dX9_free_23 : decode cX9_free 23 = .ok (.ifCond .eq 12, 3) := by decide +kernel
theorem dX9_free_26 : decode cX9_free 26 = .ok (.aload_n 0, 1) := by decide +kernel
theorem dX9_free_27 : decode cX9_free 27 = .ok (.bipush (-5), 2) := by decide +kernel
theorem dX9_free_29 : decode cX9_free 29 = .ok (.invokevirtual 124, 3) := by decide +kernel
theorem dX9_free_32 : decode cX9_free 32 = .ok (.goto 12, 3) := by decide +kernel
theorem dX9_free_35 : decode cX9_free 35 = .ok (.aload_n 0, 1) := by decide +kernel
theorem dX9_free_36 : decode cX9_free 36 = .ok (.iload_n 1, 1) := by decide +kernel
theorem dX9_free_37 : decode cX9_free 37 = .ok (.aload_n 0, 1) := by decide +kernel
theorem dX9_free_38 : decode cX9_free 38 = .ok (.getfield 106, 3) := by decide +kernel
theorem dX9_free_41 : decode cX9_free 41 = .ok (.invokevirtual 316, 3) := by decide +kernel
theorem dX9_free_44 : decode cX9_free 44 = .ok (.ireturn, 1) := by decide +kernel
set_option maxRecDepth 20000 in
theorem ggX9_findFree_X9_many : GoodIn wsX9_findFree wsX9_many := goodIn_r _ [6, 7, 23, 24, 25, 26, 27, 28, 29, 30, 31, 32, 33, 34, 35, 36, 37, 38, 39, 40, 41, 42, 43, 44, 45, 46, 47, 48, 49, 50, 51, 52, 53, 54, 55, 56, 57, 58, 59] (by decide +kernel) (by decide +kernel)
set_option maxRecDepth 20000 in
theorem gX9_findFree_X9_many : GoodIn wsX9_findFree (wsV RX9 86 RX9 yX9_many wsX9_many) := goodIn_app (goodIn_of _ (by decide +kernel)) ggX9_findFree_X9_many
set_option maxRecDepth 20000 in
theorem ggX9_findFree_X9_has : GoodIn wsX9_findFree wsX9_has := goodIn_r _ [10] (by decide +kernel) (by decide +kernel)
set_option maxRecDepth 20000 in
theorem gX9_findFree_X9_has : GoodIn wsX9_findFree (va_wsS RX9 110 yX9_has wsX9_has) := goodIn_app (goodIn_of _ (by decide +kernel)) ggX9_findFree_X9_has
set_option maxRecDepth 20000 in
theorem ggX9_findFree_X9_freeOf : GoodIn wsX9_findFree wsX9_freeOf := goodIn_r _ [14, 15, 16, 17, 5, 18, 7, 19, 20, 21, 22, 8, 9, 10, 23, 24, 25, 26, 27, 28, 29, 30, 31, 32, 33, 34, 35, 36, 37, 38, 39, 40, 41, 42, 43, 44, 45, 46, 47, 48, 49, 50, 51, 52, 53, 54, 55, 56, 57, 58, 59] (by decide +kernel) (by decide +kernel)
set_option maxRecDepth 20000 in
theorem gX9_findFree_X9_freeOf : GoodIn wsX9_findFree (wsV RX9 316 RX9 yX9_freeOf wsX9_freeOf) := goodIn_app (goodIn_of _ (by decide +kernel)) ggX9_findFree_X9_freeOf
theorem dX9_findFree_0 : decode cX9_findFree 0 = .ok (.iconst 0, 1) := by decide +kernel
theorem dX9_findFree_1 : decode cX9_findFree 1 = .ok (.istore_n 3, 1) := by decide +kernel
theorem dX9_findFree_2 : decode cX9_findFree 2 = .ok (.iload_n 3, 1) := by decide +kernel
theorem dX9_findFree_3 : decode cX9_findFree 3 = .ok (.aload_n 0, 1) := by decide +kernel
theorem dX9_findFree_4 : decode cX9_findFree 4 = .ok (.invokevirtual 86, 3) := by decide +kernel
theorem dX9_findFree_7 : decode cX9_findFree 7 = .ok (.if_icmp .ge 33, 3) := by decide +kernel
theorem dX9_findFree_10 : decode cX9_findFree 10 = .ok (.aload_n 0, 1) := by decide +kernel
theorem dX9_findFree_11 : decode cX9_findFree 11 = .ok (.getfield 68, 3) := by decide +kernel
theorem dX9_findFree_14 : decode cX9_findFree 14 = .ok (.iload_n 3, 1) := by decide +kernel
theorem dX9_findFree_15 : decode cX9_findFree 15 = .ok (.lload_n 1, 1) := by decide +kernel
theorem dX9_findFree_16 : decode cX9_findFree 16 = .ok (.iload_n 3, 1) := by decide +kernel
theorem dX9_findFree_17 : decode cX9_findFree 17 = .ok (.invokestatic 110, 3) := by decide +kernel
theorem dX9_findFree_20 : decode cX9_findFree 20 = .ok (.ifCond .eq 7, 3) := by decide +kernel
theorem dX9_findFree_23 : decode cX9_findFree 23 = .ok (.iconst (-1), 1) := by decide +kernel
theorem dX9_findFree_24 : decode cX9_findFree 24 = .ok (.goto 9, 3) := by decide +kernel
theorem dX9_findFree_27 : decode cX9_findFree 27 = .ok (.aload_n 0, 1) := by decide +kernel
theorem dX9_findFree_28 : decode cX9_findFree 28 = .ok (.iload_n 3, 1) := by decide +kernel
theorem dX9_findFree_29 : decode cX9_findFree 29 = .ok (.lload_n 1, 1) := by decide +kernel
theorem dX9_findFree_30 : decode cX9_findFree 30 = .ok (.invokevirtual 316, 3) := by decide +kernel
theorem dX9_findFree_33 : decode cX9_findFree 33 = .ok (.iastore, 1) := by decide +kernel
theorem dX9_findFree_34 : decode cX9_findFree 34 = .ok (.iinc 3 1, 3) := by decide +kernel
theorem dX9_findFree_37 : decode cX9_findFree 37 = .ok (.goto (-35), 3) := by decide +kernel
theorem dX9_findFree_40 : decode cX9_findFree 40 = .ok (.return_, 1) := by decide +kernel
set_option maxRecDepth 20000 in
theorem ggX9_never_X9_findFree : GoodIn wsX9_never wsX9_findFree := goodIn_r _ [7, 2, 8, 9, 10, 6, 11, 12, 13, 14, 15, 16, 17, 18, 19, 20, 21, 22, 23, 24, 25, 26, 27, 28, 29, 30, 31, 32, 33, 34, 35, 36, 37, 38, 39, 40, 41, 42, 43, 44, 45, 46, 47, 48, 49, 50, 51, 52, 53, 54, 55, 56, 57, 58, 59, 60, 61, 62, 63, 64] (by decide +kernel) (by decide +kernel)
set_option maxRecDepth 20000 in
theorem gX9_never_X9_findFree : GoodIn wsX9_never (wsV RX9 319 RX9 yX9_findFree wsX9_findFree) := goodIn_app (goodIn_of _ (by decide +kernel)) ggX9_never_X9_findFree
set_option maxRecDepth 20000 in
theorem ggX9_never_X9_many : GoodIn wsX9_never wsX9_many := goodIn_r _ [11, 12, 28, 29, 30, 31, 32, 33, 34, 35, 36, 37, 38, 39, 40, 41, 42, 43, 44, 45, 46, 47, 48, 49, 50, 51, 52, 53, 54, 55, 56, 57, 58, 59, 60, 61, 62, 63, 64] (by decide +kernel) (by decide +kernel)
set_option maxRecDepth 20000 in
theorem gX9_never_X9_many : GoodIn wsX9_never (wsV RX9 86 RX9 yX9_many wsX9_many) := goodIn_app (goodIn_of _ (by decide +kernel)) ggX9_never_X9_many
theorem dX9_never_0 : decode cX9_never 0 = .ok (.aload_n 0, 1) := by decide +kernel
theorem dX9_never_1 : decode cX9_never 1 = .ok (.aload_n 0, 1) := by decide +kernel
theorem dX9_never_2 : decode cX9_never 2 = .ok (.getfield 106, 3) := by decide +kernel
theorem dX9_never_5 : decode cX9_never 5 = .ok (.invokevirtual 319, 3) := by decide +kernel
theorem dX9_never_8 : decode cX9_never 8 = .ok (.lconst 0, 1) := by decide +kernel
theorem dX9_never_9 : decode cX9_never 9 = .ok (.lstore_n 1, 1) := by decide +kernel
theorem dX9_never_10 : decode cX9_never 10 = .ok (.iconst 0, 1) := by decide +kernel
theorem dX9_never_11 : decode cX9_never 11 = .ok (.istore_n 3, 1) := by decide +kernel
theorem dX9_never_12 : decode cX9_never 12 = .ok (.iload_n 3, 1) := by decide +kernel
theorem dX9_never_13 : decode cX9_never 13 = .ok (.aload_n 0, 1) := by decide +kernel
theorem dX9_never_14 : decode cX9_never 14 = .ok (.invokevirtual 86, 3) := by decide +kernel
theorem dX9_never_17 : decode cX9_never 17 = .ok (.if_icmp .ge 28, 3) := by decide +kernel
theorem dX9_never_20 : decode cX9_never 20 = .ok (.lload_n 1, 1) := by decide +kernel
theorem dX9_never_21 : decode cX9_never 21 = .ok (.aload_n 0, 1) := by decide +kernel
theorem dX9_never_22 : decode cX9_never 22 = .ok (.getfield 68, 3) := by decide +kernel
theorem dX9_never_25 : decode cX9_never 25 = .ok (.iload_n 3, 1) := by decide +kernel
theorem dX9_never_26 : decode cX9_never 26 = .ok (.iaload, 1) := by decide +kernel
theorem dX9_never_27 : decode cX9_never 27 = .ok (.ifCond .ne 9, 3) := by decide +kernel
theorem dX9_never_30 : decode cX9_never 30 = .ok (.lconst 1, 1) := by decide +kernel
theorem dX9_never_31 : decode cX9_never 31 = .ok (.iload_n 3, 1) := by decide +kernel
theorem dX9_never_32 : decode cX9_never 32 = .ok (.lshl, 1) := by decide +kernel
theorem dX9_never_33 : decode cX9_never 33 = .ok (.goto 4, 3) := by decide +kernel
theorem dX9_never_36 : decode cX9_never 36 = .ok (.lconst 0, 1) := by decide +kernel
theorem dX9_never_37 : decode cX9_never 37 = .ok (.lor, 1) := by decide +kernel
theorem dX9_never_38 : decode cX9_never 38 = .ok (.lstore_n 1, 1) := by decide +kernel
theorem dX9_never_39 : decode cX9_never 39 = .ok (.iinc 3 1, 3) := by decide +kernel
theorem dX9_never_42 : decode cX9_never 42 = .ok (.goto (-30), 3) := by decide +kernel
theorem dX9_never_45 : decode cX9_never 45 = .ok (.lload_n 1, 1) := by decide +kernel
theorem dX9_never_46 : decode cX9_never 46 = .ok (.lreturn, 1) := by decide +kernel
set_option maxRecDepth 20000 in
theorem ggX9_doServe_X9_many : GoodIn wsX9_doServe wsX9_many := goodIn_r _ [6, 7, 8, 9, 10, 11, 12, 13, 14, 15, 16, 17, 18, 19, 20, 21, 22, 23, 24, 25, 26, 27, 28, 29, 30, 31, 32, 33, 34, 35, 36, 37, 38, 39, 40, 41, 42, 43, 44] (by decide +kernel) (by decide +kernel)
set_option maxRecDepth 20000 in
theorem gX9_doServe_X9_many : GoodIn wsX9_doServe (wsV RX9 86 RX9 yX9_many wsX9_many) := goodIn_app (goodIn_of _ (by decide +kernel)) ggX9_doServe_X9_many
theorem dX9_doServe_0 : decode cX9_doServe 0 = .ok (.iconst 0, 1) := by decide +kernel
theorem dX9_doServe_1 : decode cX9_doServe 1 = .ok (.istore_n 2, 1) := by decide +kernel
theorem dX9_doServe_2 : decode cX9_doServe 2 = .ok (.iload_n 2, 1) := by decide +kernel
theorem dX9_doServe_3 : decode cX9_doServe 3 = .ok (.aload_n 0, 1) := by decide +kernel
theorem dX9_doServe_4 : decode cX9_doServe 4 = .ok (.invokevirtual 86, 3) := by decide +kernel
theorem dX9_doServe_7 : decode cX9_doServe 7 = .ok (.if_icmp .ge 32, 3) := by decide +kernel
theorem dX9_doServe_10 : decode cX9_doServe 10 = .ok (.aload_n 0, 1) := by decide +kernel
theorem dX9_doServe_11 : decode cX9_doServe 11 = .ok (.getfield 68, 3) := by decide +kernel
theorem dX9_doServe_14 : decode cX9_doServe 14 = .ok (.iload_n 2, 1) := by decide +kernel
theorem dX9_doServe_15 : decode cX9_doServe 15 = .ok (.iaload, 1) := by decide +kernel
theorem dX9_doServe_16 : decode cX9_doServe 16 = .ok (.iconst (-1), 1) := by decide +kernel
theorem dX9_doServe_17 : decode cX9_doServe 17 = .ok (.if_icmp .eq 16, 3) := by decide +kernel
theorem dX9_doServe_20 : decode cX9_doServe 20 = .ok (.aload_n 0, 1) := by decide +kernel
theorem dX9_doServe_21 : decode cX9_doServe 21 = .ok (.getfield 68, 3) := by decide +kernel
theorem dX9_doServe_24 : decode cX9_doServe 24 = .ok (.iload_n 2, 1) := by decide +kernel
theorem dX9_doServe_25 : decode cX9_doServe 25 = .ok (.iaload, 1) := by decide +kernel
theorem dX9_doServe_26 : decode cX9_doServe 26 = .ok (.iload_n 1, 1) := by decide +kernel
theorem dX9_doServe_27 : decode cX9_doServe 27 = .ok (.iand, 1) := by decide +kernel
theorem dX9_doServe_28 : decode cX9_doServe 28 = .ok (.ifCond .ne 5, 3) := by decide +kernel
theorem dX9_doServe_31 : decode cX9_doServe 31 = .ok (.iconst 0, 1) := by decide +kernel
theorem dX9_doServe_32 : decode cX9_doServe 32 = .ok (.ireturn, 1) := by decide +kernel
theorem dX9_doServe_33 : decode cX9_doServe 33 = .ok (.iinc 2 1, 3) := by decide +kernel
theorem dX9_doServe_36 : decode cX9_doServe 36 = .ok (.goto (-34), 3) := by decide +kernel
theorem dX9_doServe_39 : decode cX9_doServe 39 = .ok (.iconst 1, 1) := by decide +kernel
theorem dX9_doServe_40 : decode cX9_doServe 40 = .ok (.ireturn, 1) := by decide +kernel
set_option maxRecDepth 20000 in
theorem ggX9_serves_X9_in : GoodIn wsX9_serves wsX9_in := goodIn_r _ [6] (by decide +kernel) (by decide +kernel)
set_option maxRecDepth 20000 in
theorem gX9_serves_X9_in : GoodIn wsX9_serves (va_wsS RX9 90 yX9_in wsX9_in) := goodIn_app (goodIn_of _ (by decide +kernel)) ggX9_serves_X9_in
set_option maxRecDepth 20000 in
theorem ggX9_serves_X9_refuse : GoodIn wsX9_serves wsX9_refuse := goodIn_r _ [10, 11, 41, 42, 43, 44, 45, 46, 47, 48, 49, 50, 51, 52, 53, 54, 55, 56, 57, 58, 59, 60, 61, 62, 63, 64, 65, 66, 67, 68, 69, 70, 71, 72, 73, 74, 75, 76, 77] (by decide +kernel) (by decide +kernel)
set_option maxRecDepth 20000 in
theorem gX9_serves_X9_refuse : GoodIn wsX9_serves (wsV RX9 124 RX9 yX9_refuse wsX9_refuse) := goodIn_app (goodIn_of _ (by decide +kernel)) ggX9_serves_X9_refuse
set_option maxRecDepth 20000 in
theorem ggX9_serves_X9_findFree : GoodIn wsX9_serves wsX9_findFree := goodIn_r _ [15, 16, 17, 18, 19, 5, 20, 21, 22, 23, 24, 25, 26, 27, 28, 29, 30, 31, 32, 33, 34, 35, 36, 41, 42, 43, 44, 45, 46, 47, 48, 49, 50, 51, 52, 53, 54, 55, 56, 57, 58, 59, 60, 61, 62, 63, 64, 65, 66, 67, 68, 69, 70, 71, 72, 73, 74, 75, 76, 77] (by decide +kernel) (by decide +kernel)
set_option maxRecDepth 20000 in
theorem gX9_serves_X9_findFree : GoodIn wsX9_serves (wsV RX9 319 RX9 yX9_findFree wsX9_findFree) := goodIn_app (goodIn_of _ (by decide +kernel)) ggX9_serves_X9_findFree
set_option maxRecDepth 20000 in
theorem ggX9_serves_X9_doServe : GoodIn wsX9_serves wsX9_doServe := goodIn_r _ [40, 16, 17, 18, 19, 5, 20, 21, 41, 42, 43, 44, 45, 46, 47, 48, 49, 50, 51, 52, 53, 54, 55, 56, 57, 58, 59, 60, 61, 62, 63, 64, 65, 66, 67, 68, 69, 70, 71, 72, 73, 74, 75, 76, 77] (by decide +kernel) (by decide +kernel)
set_option maxRecDepth 20000 in
theorem gX9_serves_X9_doServe : GoodIn wsX9_serves (wsV RX9 325 RX9 yX9_doServe wsX9_doServe) := goodIn_app (goodIn_of _ (by decide +kernel)) ggX9_serves_X9_doServe
theorem dX9_serves_0 : decode cX9_serves 0 = .ok (.iload_n 1, 1) := by decide +kernel
theorem dX9_serves_1 : decode cX9_serves 1 = .ok (.i2l, 1) := by decide +kernel
theorem dX9_serves_2 : decode cX9_serves 2 = .ok (.lconst 0, 1) := by decide +kernel
theorem dX9_serves_3 : decode cX9_serves 3 = .ok (.ldc2_w 323, 3) := by decide +kernel
theorem dX9_serves_6 : decode cX9_serves 6 = .ok (.invokestatic 90, 3) := by decide +kernel
theorem dX9_serves_9 : decode cX9_serves 9 = .ok (.ifCond .ne 10, 3) := by decide +kernel
theorem dX9_serves_12 : decode cX9_serves 12 = .ok (.aload_n 0, 1) := by decide +kernel
theorem dX9_serves_13 : decode cX9_serves 13 = .ok (.bipush (-2), 2) := by decide +kernel
theorem dX9_serves_15 : decode cX9_serves 15 = .ok (.invokevirtual 124, 3) := by decide +kernel
theorem dX9_serves_18 : decode cX9_serves 18 = .ok (.ireturn, 1) := by decide +kernel
theorem dX9_serves_19 : decode cX9_serves 19 = .ok (.aload_n 0, 1) := by decide +kernel
theorem dX9_serves_20 : decode cX9_serves 20 = .ok (.aload_n 0, 1) := by decide +kernel
theorem dX9_serves_21 : decode cX9_serves 21 = .ok (.getfield 106, 3) := by decide +kernel
theorem dX9_serves_24 : decode cX9_serves 24 = .ok (.invokevirtual 319, 3) := by decide +kernel
theorem dX9_serves_27 : decode cX9_serves 27 = .ok (.aload_n 0, 1) := by decide +kernel
theorem dX9_serves_28 : decode cX9_serves 28 = .ok (.iload_n 1, 1) := by decide +kernel
theorem dX9_serves_29 : decode cX9_serves 29 = .ok (.invokevirtual 325, 3) := by decide +kernel
theorem dX9_serves_32 : decode cX9_serves 32 = .ok (.ifCond .eq 7, 3) := by decide +kernel
theorem dX9_serves_35 : decode cX9_serves 35 = .ok (.iconst 1, 1) := by decide +kernel
theorem dX9_serves_36 : decode cX9_serves 36 = .ok (.goto 4, 3) := by decide +kernel
theorem dX9_serves_39 : decode cX9_serves 39 = .ok (.iconst 0, 1) := by decide +kernel
theorem dX9_serves_40 : decode cX9_serves 40 = .ok (.ireturn, 1) := by decide +kernel
set_option maxRecDepth 20000 in
theorem ggX9_fewestFound_X9_doServe : GoodIn wsX9_fewestFound wsX9_doServe := goodIn_r _ [5, 6, 7, 8, 9, 4, 10, 11, 18, 19, 20, 21, 22, 23, 24, 25, 26, 27, 28, 29, 30, 31, 32, 33, 34, 35, 36, 37, 38, 39, 40, 41, 42, 43, 44, 45, 46, 47, 48, 49, 50, 51, 52, 53, 54] (by decide +kernel) (by decide +kernel)
set_option maxRecDepth 20000 in
theorem gX9_fewestFound_X9_doServe : GoodIn wsX9_fewestFound (wsV RX9 325 RX9 yX9_doServe wsX9_doServe) := goodIn_app (goodIn_of _ (by decide +kernel)) ggX9_fewestFound_X9_doServe
set_option maxRecDepth 20000 in
theorem ggX9_fewestFound_X9_bits : GoodIn wsX9_fewestFound wsX9_bits := goodIn_r _ [14, 15, 16, 4, 17] (by decide +kernel) (by decide +kernel)
set_option maxRecDepth 20000 in
theorem gX9_fewestFound_X9_bits : GoodIn wsX9_fewestFound (va_wsS RX9 158 yX9_bits wsX9_bits) := goodIn_app (goodIn_of _ (by decide +kernel)) ggX9_fewestFound_X9_bits
theorem dX9_fewestFound_0 : decode cX9_fewestFound 0 = .ok (.iconst (-1), 1) := by decide +kernel
theorem dX9_fewestFound_1 : decode cX9_fewestFound 1 = .ok (.istore_n 1, 1) := by decide +kernel
theorem dX9_fewestFound_2 : decode cX9_fewestFound 2 = .ok (.iconst 0, 1) := by decide +kernel
theorem dX9_fewestFound_3 : decode cX9_fewestFound 3 = .ok (.istore_n 2, 1) := by decide +kernel
theorem dX9_fewestFound_4 : decode cX9_fewestFound 4 = .ok (.iload_n 2, 1) := by decide +kernel
theorem dX9_fewestFound_5 : decode cX9_fewestFound 5 = .ok (.bipush 64, 2) := by decide +kernel
theorem dX9_fewestFound_7 : decode cX9_fewestFound 7 = .ok (.if_icmp .ge 37, 3) := by decide +kernel
theorem dX9_fewestFound_10 : decode cX9_fewestFound 10 = .ok (.aload_n 0, 1) := by decide +kernel
theorem dX9_fewestFound_11 : decode cX9_fewestFound 11 = .ok (.iload_n 2, 1) := by decide +kernel
theorem dX9_fewestFound_12 : decode cX9_fewestFound 12 = .ok (.invokevirtual 325, 3) := by decide +kernel
theorem dX9_fewestFound_15 : decode cX9_fewestFound 15 = .ok (.ifCond .eq 23, 3) := by decide +kernel
theorem dX9_fewestFound_18 : decode cX9_fewestFound 18 = .ok (.iload_n 1, 1) := by decide +kernel
theorem dX9_fewestFound_19 : decode cX9_fewestFound 19 = .ok (.iconst (-1), 1) := by decide +kernel
theorem dX9_fewestFound_20 : decode cX9_fewestFound 20 = .ok (.if_icmp .eq 16, 3) := by decide +kernel
theorem dX9_fewestFound_23 : decode cX9_fewestFound 23 = .ok (.iload_n 2, 1) := by decide +kernel
theorem dX9_fewestFound_24 : decode cX9_fewestFound 24 = .ok (.i2l, 1) := by decide +kernel
theorem dX9_fewestFound_25 : decode cX9_fewestFound 25 = .ok (.invokestatic 158, 3) := by decide +kernel
theorem dX9_fewestFound_28 : decode cX9_fewestFound 28 = .ok (.iload_n 1, 1) := by decide +kernel
theorem dX9_fewestFound_29 : decode cX9_fewestFound 29 = .ok (.i2l, 1) := by decide +kernel
theorem dX9_fewestFound_30 : decode cX9_fewestFound 30 = .ok (.invokestatic 158, 3) := by decide +kernel
theorem dX9_fewestFound_33 : decode cX9_fewestFound 33 = .ok (.if_icmp .ge 5, 3) := by decide +kernel
theorem dX9_fewestFound_36 : decode cX9_fewestFound 36 = .ok (.iload_n 2, 1) := by decide +kernel
theorem dX9_fewestFound_37 : decode cX9_fewestFound 37 = .ok (.istore_n 1, 1) := by decide +kernel
theorem dX9_fewestFound_38 : decode cX9_fewestFound 38 = .ok (.iinc 2 1, 3) := by decide +kernel
theorem dX9_fewestFound_41 : decode cX9_fewestFound 41 = .ok (.goto (-37), 3) := by decide +kernel
theorem dX9_fewestFound_44 : decode cX9_fewestFound 44 = .ok (.iload_n 1, 1) := by decide +kernel
theorem dX9_fewestFound_45 : decode cX9_fewestFound 45 = .ok (.ireturn, 1) := by decide +kernel
set_option maxRecDepth 20000 in
theorem ggX9_fewest_X9_findFree : GoodIn wsX9_fewest wsX9_findFree := goodIn_r _ [6, 7, 8, 9, 10, 5, 11, 12, 13, 14, 15, 16, 17, 18, 19, 20, 21, 22, 23, 24, 25, 26, 27, 44, 45, 46, 47, 48, 49, 50, 51, 52, 53, 54, 55, 56, 57, 58, 59, 60, 61, 62, 63, 64, 65, 66, 67, 68, 69, 70, 71, 72, 73, 74, 75, 76, 77, 78, 79, 80] (by decide +kernel) (by decide +kernel)
set_option maxRecDepth 20000 in
theorem gX9_fewest_X9_findFree : GoodIn wsX9_fewest (wsV RX9 319 RX9 yX9_findFree wsX9_findFree) := goodIn_app (goodIn_of _ (by decide +kernel)) ggX9_fewest_X9_findFree
set_option maxRecDepth 20000 in
theorem ggX9_fewest_X9_fewestFound : GoodIn wsX9_fewest wsX9_fewestFound := goodIn_r _ [31, 32, 33, 34, 5, 35, 7, 8, 9, 10, 11, 12, 36, 37, 38, 13, 14, 15, 44, 45, 46, 47, 48, 49, 50, 51, 52, 53, 54, 55, 56, 57, 58, 59, 60, 61, 62, 63, 64, 65, 66, 67, 68, 69, 70, 71, 72, 73, 74, 75, 76, 77, 78, 79, 80] (by decide +kernel) (by decide +kernel)
set_option maxRecDepth 20000 in
theorem gX9_fewest_X9_fewestFound : GoodIn wsX9_fewest (wsV RX9 328 RX9 yX9_fewestFound wsX9_fewestFound) := goodIn_app (goodIn_of _ (by decide +kernel)) ggX9_fewest_X9_fewestFound
set_option maxRecDepth 20000 in
theorem ggX9_fewest_X9_refuse : GoodIn wsX9_fewest wsX9_refuse := goodIn_r _ [42, 43, 44, 45, 46, 47, 48, 49, 50, 51, 52, 53, 54, 55, 56, 57, 58, 59, 60, 61, 62, 63, 64, 65, 66, 67, 68, 69, 70, 71, 72, 73, 74, 75, 76, 77, 78, 79, 80] (by decide +kernel) (by decide +kernel)
set_option maxRecDepth 20000 in
theorem gX9_fewest_X9_refuse : GoodIn wsX9_fewest (wsV RX9 124 RX9 yX9_refuse wsX9_refuse) := goodIn_app (goodIn_of _ (by decide +kernel)) ggX9_fewest_X9_refuse
theorem dX9_fewest_0 : decode cX9_fewest 0 = .ok (.aload_n 0, 1) := by decide +kernel
theorem dX9_fewest_1 : decode cX9_fewest 1 = .ok (.aload_n 0, 1) := by decide +kernel
theorem dX9_fewest_2 : decode cX9_fewest 2 = .ok (.getfield 106, 3) := by decide +kernel
theorem dX9_fewest_5 : decode cX9_fewest 5 = .ok (.invokevirtual 319, 3) := by decide +kernel
theorem dX9_fewest_8 : decode cX9_fewest 8 = .ok (.aload_n 0, 1) := by decide +kernel
theorem dX9_fewest_9 : decode cX9_fewest 9 = .ok (.invokevirtual 328, 3) := by decide +kernel
theorem dX9_fewest_12 : decode cX9_fewest 12 = .ok (.istore_n 1, 1) := by decide +kernel
theorem dX9_fewest_13 : decode cX9_fewest 13 = .ok (.iload_n 1, 1) := by decide +kernel
theorem dX9_fewest_14 : decode cX9_fewest 14 = .ok (.iconst (-1), 1) := by decide +kernel
theorem dX9_fewest_15 : decode cX9_fewest 15 = .ok (.if_icmp .ne 12, 3) := by decide +kernel
theorem dX9_fewest_18 : decode cX9_fewest 18 = .ok (.aload_n 0, 1) := by decide +kernel
theorem dX9_fewest_19 : decode cX9_fewest 19 = .ok (.bipush (-5), 2) := by decide +kernel
theorem dX9_fewest_21 : decode cX9_fewest 21 = .ok (.invokevirtual 124, 3) := by decide +kernel
theorem dX9_fewest_24 : decode cX9_fewest 24 = .ok (.goto 4, 3) := by decide +kernel
theorem dX9_fewest_27 : decode cX9_fewest 27 = .ok (.iload_n 1, 1) := by decide +kernel
theorem dX9_fewest_28 : decode cX9_fewest 28 = .ok (.ireturn, 1) := by decide +kernel
set_option maxRecDepth 20000 in
theorem ggX9_findWays_X9_many : GoodIn wsX9_findWays wsX9_many := goodIn_r _ [7, 8, 9, 10, 11, 12, 13, 14, 15, 16, 17, 18, 19, 20, 21, 22, 23, 24, 25, 26, 27, 28, 29, 30, 31, 32, 33, 34, 35, 36, 37, 38, 39, 40, 41, 42, 43, 44, 45] (by decide +kernel) (by decide +kernel)
set_option maxRecDepth 20000 in
theorem gX9_findWays_X9_many : GoodIn wsX9_findWays (wsV RX9 86 RX9 yX9_many wsX9_many) := goodIn_app (goodIn_of _ (by decide +kernel)) ggX9_findWays_X9_many
theorem dX9_findWays_0 : decode cX9_findWays 0 = .ok (.iconst 0, 1) := by decide +kernel
theorem dX9_findWays_1 : decode cX9_findWays 1 = .ok (.istore_n 2, 1) := by decide +kernel
theorem dX9_findWays_2 : decode cX9_findWays 2 = .ok (.iload_n 2, 1) := by decide +kernel
theorem dX9_findWays_3 : decode cX9_findWays 3 = .ok (.aload_n 0, 1) := by decide +kernel
theorem dX9_findWays_4 : decode cX9_findWays 4 = .ok (.invokevirtual 86, 3) := by decide +kernel
theorem dX9_findWays_7 : decode cX9_findWays 7 = .ok (.if_icmp .ge 69, 3) := by decide +kernel
theorem dX9_findWays_10 : decode cX9_findWays 10 = .ok (.aload_n 0, 1) := by decide +kernel
theorem dX9_findWays_11 : decode cX9_findWays 11 = .ok (.getfield 71, 3) := by decide +kernel
theorem dX9_findWays_14 : decode cX9_findWays 14 = .ok (.iload_n 2, 1) := by decide +kernel
theorem dX9_findWays_15 : decode cX9_findWays 15 = .ok (.iconst (-1), 1) := by decide +kernel
theorem dX9_findWays_16 : decode cX9_findWays 16 = .ok (.iastore, 1) := by decide +kernel
theorem dX9_findWays_17 : decode cX9_findWays 17 = .ok (.iconst 5, 1) := by decide +kernel
theorem dX9_findWays_18 : decode cX9_findWays 18 = .ok (.istore_n 3, 1) := by decide +kernel
theorem dX9_findWays_19 : decode cX9_findWays 19 = .ok (.iload_n 3, 1) := by decide +kernel
theorem dX9_findWays_20 : decode cX9_findWays 20 = .ok (.ifCond .lt 50, 3) := by decide +kernel
theorem dX9_findWays_23 : decode cX9_findWays 23 = .ok (.aload_n 0, 1) := by decide +kernel
theorem dX9_findWays_24 : decode cX9_findWays 24 = .ok (.getfield 68, 3) := by decide +kernel
theorem dX9_findWays_27 : decode cX9_findWays 27 = .ok (.iload_n 2, 1) := by decide +kernel
theorem dX9_findWays_28 : decode cX9_findWays 28 = .ok (.iaload, 1) := by decide +kernel
theorem dX9_findWays_29 : decode cX9_findWays 29 = .ok (.iconst (-1), 1) := by decide +kernel
theorem dX9_findWays_30 : decode cX9_findWays 30 = .ok (.if_icmp .eq 40, 3) := by decide +kernel
theorem dX9_findWays_33 : decode cX9_findWays 33 = .ok (.aload_n 0, 1) := by decide +kernel
theorem dX9_findWays_34 : decode cX9_findWays 34 = .ok (.getfield 71, 3) := by decide +kernel
theorem dX9_findWays_37 : decode cX9_findWays 37 = .ok (.iload_n 2, 1) := by decide +kernel
theorem dX9_findWays_38 : decode cX9_findWays 38 = .ok (.aload_n 0, 1) := by decide +kernel
theorem dX9_findWays_39 : decode cX9_findWays 39 = .ok (.getfield 68, 3) := by decide +kernel
theorem dX9_findWays_42 : decode cX9_findWays 42 = .ok (.iload_n 2, 1) := by decide +kernel
theorem dX9_findWays_43 : decode cX9_findWays 43 = .ok (.iaload, 1) := by decide +kernel
theorem dX9_findWays_44 : decode cX9_findWays 44 = .ok (.iload_n 1, 1) := by decide +kernel
theorem dX9_findWays_45 : decode cX9_findWays 45 = .ok (.iand, 1) := by decide +kernel
theorem dX9_findWays_46 : decode cX9_findWays 46 = .ok (.iconst 1, 1) := by decide +kernel
theorem dX9_findWays_47 : decode cX9_findWays 47 = .ok (.iload_n 3, 1) := by decide +kernel
theorem dX9_findWays_48 : decode cX9_findWays 48 = .ok (.ishl, 1) := by decide +kernel
theorem dX9_findWays_49 : decode cX9_findWays 49 = .ok (.iand, 1) := by decide +kernel
theorem dX9_findWays_50 : decode cX9_findWays 50 = .ok (.ifCond .eq 7, 3) := by decide +kernel
theorem dX9_findWays_53 : decode cX9_findWays 53 = .ok (.iload_n 3, 1) := by decide +kernel
theorem dX9_findWays_54 : decode cX9_findWays 54 = .ok (.goto 9, 3) := by decide +kernel
theorem dX9_findWays_57 : decode cX9_findWays 57 = .ok (.aload_n 0, 1) := by decide +kernel
theorem dX9_findWays_58 : decode cX9_findWays 58 = .ok (.getfield 71, 3) := by decide +kernel
theorem dX9_findWays_61 : decode cX9_findWays 61 = .ok (.iload_n 2, 1) := by decide +kernel
theorem dX9_findWays_62 : decode cX9_findWays 62 = .ok (.iaload, 1) := by decide +kernel
theorem dX9_findWays_63 : decode cX9_findWays 63 = .ok (.iastore, 1) := by decide +kernel
theorem dX9_findWays_64 : decode cX9_findWays 64 = .ok (.iinc 3 (-1), 3) := by decide +kernel
theorem dX9_findWays_67 : decode cX9_findWays 67 = .ok (.goto (-48), 3) := by decide +kernel
theorem dX9_findWays_70 : decode cX9_findWays 70 = .ok (.iinc 2 1, 3) := by decide +kernel
theorem dX9_findWays_73 : decode cX9_findWays 73 = .ok (.goto (-71), 3) := by decide +kernel
theorem dX9_findWays_76 : decode cX9_findWays 76 = .ok (.return_, 1) := by decide +kernel
set_option maxRecDepth 20000 in
theorem ggX9_seam_X9_many : GoodIn wsX9_seam wsX9_many := goodIn_r _ [7, 8, 17, 18, 19, 20, 21, 22, 23, 24, 25, 26, 27, 28, 29, 30, 31, 32, 33, 34, 35, 36, 37, 38, 39, 40, 41, 42, 43, 44, 45, 46, 47, 48, 49, 50, 51, 52, 53] (by decide +kernel) (by decide +kernel)
set_option maxRecDepth 20000 in
theorem gX9_seam_X9_many : GoodIn wsX9_seam (wsV RX9 86 RX9 yX9_many wsX9_many) := goodIn_app (goodIn_of _ (by decide +kernel)) ggX9_seam_X9_many
set_option maxRecDepth 20000 in
theorem ggX9_seam_X9_from : GoodIn wsX9_seam wsX9_from := goodIn_r _ [12, 8, 13, 14, 15, 6, 16, 17, 18, 19, 20, 21, 22, 23, 24, 25, 26, 27, 28, 29, 30, 31, 32, 33, 34, 35, 36, 37, 38, 39, 40, 41, 42, 43, 44, 45, 46, 47, 48, 49, 50, 51, 52, 53] (by decide +kernel) (by decide +kernel)
set_option maxRecDepth 20000 in
theorem gX9_seam_X9_from : GoodIn wsX9_seam (wsV RX9 279 RX9 yX9_from wsX9_from) := goodIn_app (goodIn_of _ (by decide +kernel)) ggX9_seam_X9_from
theorem dX9_seam_0 : decode cX9_seam 0 = .ok (.iconst 0, 1) := by decide +kernel
theorem dX9_seam_1 : decode cX9_seam 1 = .ok (.istore_n 1, 1) := by decide +kernel
theorem dX9_seam_2 : decode cX9_seam 2 = .ok (.iconst 0, 1) := by decide +kernel
theorem dX9_seam_3 : decode cX9_seam 3 = .ok (.istore_n 2, 1) := by decide +kernel
theorem dX9_seam_4 : decode cX9_seam 4 = .ok (.iload_n 2, 1) := by decide +kernel
theorem dX9_seam_5 : decode cX9_seam 5 = .ok (.aload_n 0, 1) := by decide +kernel
theorem dX9_seam_6 : decode cX9_seam 6 = .ok (.invokevirtual 86, 3) := by decide +kernel
theorem dX9_seam_9 : decode cX9_seam 9 = .ok (.if_icmp .ge 107, 3) := by decide +kernel
theorem dX9_seam_12 : decode cX9_seam 12 = .ok (.iconst 0, 1) := by decide +kernel
theorem dX9_seam_13 : decode cX9_seam 13 = .ok (.istore_n 3, 1) := by decide +kernel
theorem dX9_seam_14 : decode cX9_seam 14 = .ok (.iload_n 3, 1) := by decide +kernel
theorem dX9_seam_15 : decode cX9_seam 15 = .ok (.bipush 6, 2) := by decide +kernel
theorem dX9_seam_17 : decode cX9_seam 17 = .ok (.if_icmp .ge 93, 3) := by decide +kernel
theorem dX9_seam_20 : decode cX9_seam 20 = .ok (.aload_n 0, 1) := by decide +kernel
theorem dX9_seam_21 : decode cX9_seam 21 = .ok (.iload_n 2, 1) := by decide +kernel
theorem dX9_seam_22 : decode cX9_seam 22 = .ok (.iload_n 3, 1) := by decide +kernel
theorem dX9_seam_23 : decode cX9_seam 23 = .ok (.invokevirtual 279, 3) := by decide +kernel
theorem dX9_seam_26 : decode cX9_seam 26 = .ok (.istore 4, 2) := by decide +kernel
theorem dX9_seam_28 : decode cX9_seam 28 = .ok (.iload 4, 2) := by decide +kernel
theorem dX9_seam_30 : decode cX9_seam 30 = .ok (.iconst (-1), 1) := by decide +kernel
theorem dX9_seam_31 : decode cX9_seam 31 = .ok (.if_icmp .eq 44, 3) := by decide +kernel
theorem dX9_seam_34 : decode cX9_seam 34 = .ok (.aload_n 0, 1) := by decide +kernel
theorem dX9_seam_35 : decode cX9_seam 35 = .ok (.getfield 71, 3) := by decide +kernel
theorem dX9_seam_38 : decode cX9_seam 38 = .ok (.iload_n 2, 1) := by decide +kernel
theorem dX9_seam_39 : decode cX9_seam 39 = .ok (.iaload, 1) := by decide +kernel
theorem dX9_seam_40 : decode cX9_seam 40 = .ok (.iconst (-1), 1) := by decide +kernel
theorem dX9_seam_41 : decode cX9_seam 41 = .ok (.if_icmp .eq 34, 3) := by decide +kernel
theorem dX9_seam_44 : decode cX9_seam 44 = .ok (.aload_n 0, 1) := by decide +kernel
theorem dX9_seam_45 : decode cX9_seam 45 = .ok (.getfield 71, 3) := by decide +kernel
theorem dX9_seam_48 : decode cX9_seam 48 = .ok (.iload 4, 2) := by decide +kernel
theorem dX9_seam_50 : decode cX9_seam 50 = .ok (.iaload, 1) := by decide +kernel
theorem dX9_seam_51 : decode cX9_seam 51 = .ok (.iconst (-1), 1) := by decide +kernel
theorem dX9_seam_52 : decode cX9_seam 52 = .ok (.if_icmp .eq 23, 3) := by decide +kernel
theorem dX9_seam_55 : decode cX9_seam 55 = .ok (.aload_n 0, 1) := by decide +kernel
theorem dX9_seam_56 : decode cX9_seam 56 = .ok (.getfield 71, 3) := by decide +kernel
theorem dX9_seam_59 : decode cX9_seam 59 = .ok (.iload_n 2, 1) := by decide +kernel
theorem dX9_seam_60 : decode cX9_seam 60 = .ok (.iaload, 1) := by decide +kernel
theorem dX9_seam_61 : decode cX9_seam 61 = .ok (.aload_n 0, 1) := by decide +kernel
theorem dX9_seam_62 : decode cX9_seam 62 = .ok (.getfield 71, 3) := by decide +kernel
theorem dX9_seam_65 : decode cX9_seam 65 = .ok (.iload 4, 2) := by decide +kernel
theorem dX9_seam_67 : decode cX9_seam 67 = .ok (.iaload, 1) := by decide +kernel
theorem dX9_seam_68 : decode cX9_seam 68 = .ok (.if_icmp .eq 7, 3) := by decide +kernel
theorem dX9_seam_71 : decode cX9_seam 71 = .ok (.iconst 1, 1) := by decide +kernel
theorem dX9_seam_72 : decode cX9_seam 72 = .ok (.goto 4, 3) := by decide +kernel
theorem dX9_seam_75 : decode cX9_seam 75 = .ok (.iconst 0, 1) := by decide +kernel
theorem dX9_seam_76 : decode cX9_seam 76 = .ok (.istore 5, 2) := by decide +kernel
theorem dX9_seam_78 : decode cX9_seam 78 = .ok (.iload_n 1, 1) := by decide +kernel
theorem dX9_seam_79 : decode cX9_seam 79 = .ok (.iload 5, 2) := by decide +kernel
theorem dX9_seam_81 : decode cX9_seam 81 = .ok (.ifCond .eq 20, 3) := by decide +kernel
theorem dX9_seam_84 : decode cX9_seam 84 = .ok (.aload_n 0, 1) := by decide +kernel
theorem dX9_seam_85 : decode cX9_seam 85 = .ok (.getfield 50, 3) := by decide +kernel
theorem dX9_seam_88 : decode cX9_seam 88 = .ok (.iload_n 2, 1) := by decide +kernel
theorem dX9_seam_89 : decode cX9_seam 89 = .ok (.iaload, 1) := by decide +kernel
theorem dX9_seam_90 : decode cX9_seam 90 = .ok (.aload_n 0, 1) := by decide +kernel
theorem dX9_seam_91 : decode cX9_seam 91 = .ok (.getfield 50, 3) := by decide +kernel
theorem dX9_seam_94 : decode cX9_seam 94 = .ok (.iload 4, 2) := by decide +kernel
theorem dX9_seam_96 : decode cX9_seam 96 = .ok (.iaload, 1) := by decide +kernel
theorem dX9_seam_97 : decode cX9_seam 97 = .ok (.iadd, 1) := by decide +kernel
theorem dX9_seam_98 : decode cX9_seam 98 = .ok (.goto 4, 3) := by decide +kernel
theorem dX9_seam_101 : decode cX9_seam 101 = .ok (.iconst 0, 1) := by decide +kernel
theorem dX9_seam_102 : decode cX9_seam 102 = .ok (.iadd, 1) := by decide +kernel
theorem dX9_seam_103 : decode cX9_seam 103 = .ok (.istore_n 1, 1) := by decide +kernel
theorem dX9_seam_104 : decode cX9_seam 104 = .ok (.iinc 3 2, 3) := by decide +kernel
theorem dX9_seam_107 : decode cX9_seam 107 = .ok (.goto (-93), 3) := by decide +kernel
theorem dX9_seam_110 : decode cX9_seam 110 = .ok (.iinc 2 1, 3) := by decide +kernel
theorem dX9_seam_113 : decode cX9_seam 113 = .ok (.goto (-109), 3) := by decide +kernel
theorem dX9_seam_116 : decode cX9_seam 116 = .ok (.iload_n 1, 1) := by decide +kernel
theorem dX9_seam_117 : decode cX9_seam 117 = .ok (.ireturn, 1) := by decide +kernel
set_option maxRecDepth 20000 in
theorem ggX9_findParts_X9_empty : GoodIn wsX9_findParts wsX9_empty := goodIn_r _ [8, 9, 3, 10, 11, 12, 7, 13, 14, 15, 16, 17, 18, 34, 35, 36, 37, 38, 39, 40, 41, 42, 43, 44, 45, 46, 47, 48, 49, 50, 51, 52, 53, 54, 55, 56, 57, 58, 59, 60, 61, 62, 63, 64, 65, 66, 67, 68, 69, 70] (by decide +kernel) (by decide +kernel)
set_option maxRecDepth 20000 in
theorem gX9_findParts_X9_empty : GoodIn wsX9_findParts (wsV RX9 141 RX9 yX9_empty wsX9_empty) := goodIn_app (goodIn_of _ (by decide +kernel)) ggX9_findParts_X9_empty
set_option maxRecDepth 20000 in
theorem ggX9_findParts_X9_many : GoodIn wsX9_findParts wsX9_many := goodIn_r _ [18, 14, 34, 35, 36, 37, 38, 39, 40, 41, 42, 43, 44, 45, 46, 47, 48, 49, 50, 51, 52, 53, 54, 55, 56, 57, 58, 59, 60, 61, 62, 63, 64, 65, 66, 67, 68, 69, 70] (by decide +kernel) (by decide +kernel)
set_option maxRecDepth 20000 in
theorem gX9_findParts_X9_many : GoodIn wsX9_findParts (wsV RX9 86 RX9 yX9_many wsX9_many) := goodIn_app (goodIn_of _ (by decide +kernel)) ggX9_findParts_X9_many
set_option maxRecDepth 20000 in
theorem ggX9_findParts_X9_has : GoodIn wsX9_findParts wsX9_has := goodIn_r _ [21] (by decide +kernel) (by decide +kernel)
set_option maxRecDepth 20000 in
theorem gX9_findParts_X9_has : GoodIn wsX9_findParts (va_wsS RX9 110 yX9_has wsX9_has) := goodIn_app (goodIn_of _ (by decide +kernel)) ggX9_findParts_X9_has
set_option maxRecDepth 20000 in
theorem ggX9_findParts_X9_hang : GoodIn wsX9_findParts wsX9_hang := goodIn_r _ [25, 15, 16, 17, 7, 18, 14, 19, 20, 21, 26, 27, 28, 29, 30, 31, 32, 33, 34, 35, 36, 37, 38, 39, 40, 41, 42, 43, 44, 45, 46, 47, 48, 49, 50, 51, 52, 53, 54, 55, 56, 57, 58, 59, 60, 61, 62, 63, 64, 65, 66, 67, 68, 69, 70] (by decide +kernel) (by decide +kernel)
set_option maxRecDepth 20000 in
theorem gX9_findParts_X9_hang : GoodIn wsX9_findParts (wsV RX9 282 RX9 yX9_hang wsX9_hang) := goodIn_app (goodIn_of _ (by decide +kernel)) ggX9_findParts_X9_hang
theorem dX9_findParts_0 : decode cX9_findParts 0 = .ok (.aload_n 0, 1) := by decide +kernel
theorem dX9_findParts_1 : decode cX9_findParts 1 = .ok (.invokevirtual 141, 3) := by decide +kernel
theorem dX9_findParts_4 : decode cX9_findParts 4 = .ok (.lstore_n 1, 1) := by decide +kernel
theorem dX9_findParts_5 : decode cX9_findParts 5 = .ok (.iconst 0, 1) := by decide +kernel
theorem dX9_findParts_6 : decode cX9_findParts 6 = .ok (.istore_n 3, 1) := by decide +kernel
theorem dX9_findParts_7 : decode cX9_findParts 7 = .ok (.iconst 0, 1) := by decide +kernel
theorem dX9_findParts_8 : decode cX9_findParts 8 = .ok (.istore 4, 2) := by decide +kernel
theorem dX9_findParts_10 : decode cX9_findParts 10 = .ok (.iload 4, 2) := by decide +kernel
theorem dX9_findParts_12 : decode cX9_findParts 12 = .ok (.aload_n 0, 1) := by decide +kernel
theorem dX9_findParts_13 : decode cX9_findParts 13 = .ok (.invokevirtual 86, 3) := by decide +kernel
theorem dX9_findParts_16 : decode cX9_findParts 16 = .ok (.if_icmp .ge 111, 3) := by decide +kernel
theorem dX9_findParts_19 : decode cX9_findParts 19 = .ok (.lload_n 1, 1) := by decide +kernel
theorem dX9_findParts_20 : decode cX9_findParts 20 = .ok (.iload 4, 2) := by decide +kernel
theorem dX9_findParts_22 : decode cX9_findParts 22 = .ok (.invokestatic 110, 3) := by decide +kernel
theorem dX9_findParts_25 : decode cX9_findParts 25 = .ok (.ifCond .eq 96, 3) := by decide +kernel
theorem dX9_findParts_28 : decode cX9_findParts 28 = .ok (.lconst 0, 1) := by decide +kernel
theorem dX9_findParts_29 : decode cX9_findParts 29 = .ok (.lstore 5, 2) := by decide +kernel
theorem dX9_findParts_31 : decode cX9_findParts 31 = .ok (.iconst 0, 1) := by decide +kernel
theorem dX9_findParts_32 : decode cX9_findParts 32 = .ok (.istore 7, 2) := by decide +kernel
theorem dX9_findParts_34 : decode cX9_findParts 34 = .ok (.iload 7, 2) := by decide +kernel
theorem dX9_findParts_36 : decode cX9_findParts 36 = .ok (.aload_n 0, 1) := by decide +kernel
theorem dX9_findParts_37 : decode cX9_findParts 37 = .ok (.invokevirtual 86, 3) := by decide +kernel
theorem dX9_findParts_40 : decode cX9_findParts 40 = .ok (.if_icmp .ge 51, 3) := by decide +kernel
theorem dX9_findParts_43 : decode cX9_findParts 43 = .ok (.lload 5, 2) := by decide +kernel
theorem dX9_findParts_45 : decode cX9_findParts 45 = .ok (.aload_n 0, 1) := by decide +kernel
theorem dX9_findParts_46 : decode cX9_findParts 46 = .ok (.getfield 71, 3) := by decide +kernel
theorem dX9_findParts_49 : decode cX9_findParts 49 = .ok (.iload 7, 2) := by decide +kernel
theorem dX9_findParts_51 : decode cX9_findParts 51 = .ok (.iaload, 1) := by decide +kernel
theorem dX9_findParts_52 : decode cX9_findParts 52 = .ok (.aload_n 0, 1) := by decide +kernel
theorem dX9_findParts_53 : decode cX9_findParts 53 = .ok (.getfield 71, 3) := by decide +kernel
theorem dX9_findParts_56 : decode cX9_findParts 56 = .ok (.iload 4, 2) := by decide +kernel
theorem dX9_findParts_58 : decode cX9_findParts 58 = .ok (.iaload, 1) := by decide +kernel
theorem dX9_findParts_59 : decode cX9_findParts 59 = .ok (.if_icmp .ne 22, 3) := by decide +kernel
theorem dX9_findParts_62 : decode cX9_findParts 62 = .ok (.aload_n 0, 1) := by decide +kernel
theorem dX9_findParts_63 : decode cX9_findParts 63 = .ok (.invokevirtual 141, 3) := by decide +kernel
theorem dX9_findParts_66 : decode cX9_findParts 66 = .ok (.iload 7, 2) := by decide +kernel
theorem dX9_findParts_68 : decode cX9_findParts 68 = .ok (.invokestatic 110, 3) := by decide +kernel
theorem dX9_findParts_71 : decode cX9_findParts 71 = .ok (.ifCond .eq 10, 3) := by decide +kernel
theorem dX9_findParts_74 : decode cX9_findParts 74 = .ok (.lconst 1, 1) := by decide +kernel
theorem dX9_findParts_75 : decode cX9_findParts 75 = .ok (.iload 7, 2) := by decide +kernel
theorem dX9_findParts_77 : decode cX9_findParts 77 = .ok (.lshl, 1) := by decide +kernel
theorem dX9_findParts_78 : decode cX9_findParts 78 = .ok (.goto 4, 3) := by decide +kernel
theorem dX9_findParts_81 : decode cX9_findParts 81 = .ok (.lconst 0, 1) := by decide +kernel
theorem dX9_findParts_82 : decode cX9_findParts 82 = .ok (.lor, 1) := by decide +kernel
theorem dX9_findParts_83 : decode cX9_findParts 83 = .ok (.lstore 5, 2) := by decide +kernel
theorem dX9_findParts_85 : decode cX9_findParts 85 = .ok (.iinc 7 1, 3) := by decide +kernel
theorem dX9_findParts_88 : decode cX9_findParts 88 = .ok (.goto (-54), 3) := by decide +kernel
theorem dX9_findParts_91 : decode cX9_findParts 91 = .ok (.aload_n 0, 1) := by decide +kernel
theorem dX9_findParts_92 : decode cX9_findParts 92 = .ok (.getfield 74, 3) := by decide +kernel
theorem dX9_findParts_95 : decode cX9_findParts 95 = .ok (.iload_n 3, 1) := by decide +kernel
theorem dX9_findParts_96 : decode cX9_findParts 96 = .ok (.aload_n 0, 1) := by decide +kernel
theorem dX9_findParts_97 : decode cX9_findParts 97 = .ok (.iload 4, 2) := by decide +kernel
theorem dX9_findParts_99 : decode cX9_findParts 99 = .ok (.lload 5, 2) := by decide +kernel
theorem dX9_findParts_101 : decode cX9_findParts 101 = .ok (.invokevirtual 282, 3) := by decide +kernel
theorem dX9_findParts_104 : decode cX9_findParts 104 = .ok (.lastore, 1) := by decide +kernel
theorem dX9_findParts_105 : decode cX9_findParts 105 = .ok (.lload_n 1, 1) := by decide +kernel
theorem dX9_findParts_106 : decode cX9_findParts 106 = .ok (.aload_n 0, 1) := by decide +kernel
theorem dX9_findParts_107 : decode cX9_findParts 107 = .ok (.getfield 74, 3) := by decide +kernel
theorem dX9_findParts_110 : decode cX9_findParts 110 = .ok (.iload_n 3, 1) := by decide +kernel
theorem dX9_findParts_111 : decode cX9_findParts 111 = .ok (.laload, 1) := by decide +kernel
theorem dX9_findParts_112 : decode cX9_findParts 112 = .ok (.ldc2_w 100, 3) := by decide +kernel
theorem dX9_findParts_115 : decode cX9_findParts 115 = .ok (.lxor, 1) := by decide +kernel
theorem dX9_findParts_116 : decode cX9_findParts 116 = .ok (.land, 1) := by decide +kernel
theorem dX9_findParts_117 : decode cX9_findParts 117 = .ok (.lstore_n 1, 1) := by decide +kernel
theorem dX9_findParts_118 : decode cX9_findParts 118 = .ok (.iinc 3 1, 3) := by decide +kernel
theorem dX9_findParts_121 : decode cX9_findParts 121 = .ok (.iinc 4 1, 3) := by decide +kernel
theorem dX9_findParts_124 : decode cX9_findParts 124 = .ok (.goto (-114), 3) := by decide +kernel
theorem dX9_findParts_127 : decode cX9_findParts 127 = .ok (.iload_n 3, 1) := by decide +kernel
theorem dX9_findParts_128 : decode cX9_findParts 128 = .ok (.ireturn, 1) := by decide +kernel
set_option maxRecDepth 20000 in
theorem ggX9_parted_X9_in : GoodIn wsX9_parted wsX9_in := goodIn_r _ [6] (by decide +kernel) (by decide +kernel)
set_option maxRecDepth 20000 in
theorem gX9_parted_X9_in : GoodIn wsX9_parted (va_wsS RX9 90 yX9_in wsX9_in) := goodIn_app (goodIn_of _ (by decide +kernel)) ggX9_parted_X9_in
set_option maxRecDepth 20000 in
theorem ggX9_parted_X9_refuse : GoodIn wsX9_parted wsX9_refuse := goodIn_r _ [10, 11, 69, 70, 71, 72, 73, 74, 75, 76, 77, 78, 79, 80, 81, 82, 83, 84, 85, 86, 87, 88, 89, 90, 91, 92, 93, 94, 95, 96, 97, 98, 99, 100, 101, 102, 103, 104, 105] (by decide +kernel) (by decide +kernel)
set_option maxRecDepth 20000 in
theorem gX9_parted_X9_refuse : GoodIn wsX9_parted (wsV RX9 124 RX9 yX9_refuse wsX9_refuse) := goodIn_app (goodIn_of _ (by decide +kernel)) ggX9_parted_X9_refuse
set_option maxRecDepth 20000 in
theorem ggX9_parted_X9_findFree : GoodIn wsX9_parted wsX9_findFree := goodIn_r _ [15, 16, 17, 18, 19, 5, 20, 21, 22, 23, 24, 25, 26, 27, 28, 29, 30, 31, 32, 33, 34, 35, 36, 69, 70, 71, 72, 73, 74, 75, 76, 77, 78, 79, 80, 81, 82, 83, 84, 85, 86, 87, 88, 89, 90, 91, 92, 93, 94, 95, 96, 97, 98, 99, 100, 101, 102, 103, 104, 105] (by decide +kernel) (by decide +kernel)
set_option maxRecDepth 20000 in
theorem gX9_parted_X9_findFree : GoodIn wsX9_parted (wsV RX9 319 RX9 yX9_findFree wsX9_findFree) := goodIn_app (goodIn_of _ (by decide +kernel)) ggX9_parted_X9_findFree
set_option maxRecDepth 20000 in
theorem ggX9_parted_X9_doServe : GoodIn wsX9_parted wsX9_doServe := goodIn_r _ [40, 16, 17, 18, 19, 5, 20, 21, 69, 70, 71, 72, 73, 74, 75, 76, 77, 78, 79, 80, 81, 82, 83, 84, 85, 86, 87, 88, 89, 90, 91, 92, 93, 94, 95, 96, 97, 98, 99, 100, 101, 102, 103, 104, 105] (by decide +kernel) (by decide +kernel)
set_option maxRecDepth 20000 in
theorem gX9_parted_X9_doServe : GoodIn wsX9_parted (wsV RX9 325 RX9 yX9_doServe wsX9_doServe) := goodIn_app (goodIn_of _ (by decide +kernel)) ggX9_parted_X9_doServe
set_option maxRecDepth 20000 in
theorem ggX9_parted_X9_findWays : GoodIn wsX9_parted wsX9_findWays := goodIn_r _ [44, 45, 16, 17, 18, 19, 5, 20, 21, 69, 70, 71, 72, 73, 74, 75, 76, 77, 78, 79, 80, 81, 82, 83, 84, 85, 86, 87, 88, 89, 90, 91, 92, 93, 94, 95, 96, 97, 98, 99, 100, 101, 102, 103, 104, 105] (by decide +kernel) (by decide +kernel)
set_option maxRecDepth 20000 in
theorem gX9_parted_X9_findWays : GoodIn wsX9_parted (wsV RX9 331 RX9 yX9_findWays wsX9_findWays) := goodIn_app (goodIn_of _ (by decide +kernel)) ggX9_parted_X9_findWays
set_option maxRecDepth 20000 in
theorem ggX9_parted_X9_findParts : GoodIn wsX9_parted wsX9_findParts := goodIn_r _ [49, 45, 50, 51, 52, 53, 54, 5, 55, 2, 56, 57, 58, 59, 21, 17, 18, 19, 20, 22, 23, 24, 60, 61, 62, 63, 29, 30, 31, 32, 33, 34, 35, 36, 69, 70, 71, 72, 73, 74, 75, 76, 77, 78, 79, 80, 81, 82, 83, 84, 85, 86, 87, 88, 89, 90, 91, 92, 93, 94, 95, 96, 97, 98, 99, 100, 101, 102, 103, 104, 105] (by decide +kernel) (by decide +kernel)
set_option maxRecDepth 20000 in
theorem gX9_parted_X9_findParts : GoodIn wsX9_parted (wsV RX9 334 RX9 yX9_findParts wsX9_findParts) := goodIn_app (goodIn_of _ (by decide +kernel)) ggX9_parted_X9_findParts
set_option maxRecDepth 20000 in
theorem ggX9_parted_X9_seam : GoodIn wsX9_parted wsX9_seam := goodIn_r _ [67, 45, 68, 17, 18, 19, 5, 20, 21, 29, 30, 31, 32, 33, 34, 35, 36, 69, 70, 71, 72, 73, 74, 75, 76, 77, 78, 79, 80, 81, 82, 83, 84, 85, 86, 87, 88, 89, 90, 91, 92, 93, 94, 95, 96, 97, 98, 99, 100, 101, 102, 103, 104, 105] (by decide +kernel) (by decide +kernel)
set_option maxRecDepth 20000 in
theorem gX9_parted_X9_seam : GoodIn wsX9_parted (wsV RX9 337 RX9 yX9_seam wsX9_seam) := goodIn_app (goodIn_of _ (by decide +kernel)) ggX9_parted_X9_seam
theorem dX9_parted_0 : decode cX9_parted 0 = .ok (.iload_n 1, 1) := by decide +kernel
theorem dX9_parted_1 : decode cX9_parted 1 = .ok (.i2l, 1) := by decide +kernel
theorem dX9_parted_2 : decode cX9_parted 2 = .ok (.lconst 0, 1) := by decide +kernel
theorem dX9_parted_3 : decode cX9_parted 3 = .ok (.ldc2_w 323, 3) := by decide +kernel
theorem dX9_parted_6 : decode cX9_parted 6 = .ok (.invokestatic 90, 3) := by decide +kernel
theorem dX9_parted_9 : decode cX9_parted 9 = .ok (.ifCond .eq 13, 3) := by decide +kernel
theorem dX9_parted_12 : decode cX9_parted 12 = .ok (.iload_n 2, 1) := by decide +kernel
theorem dX9_parted_13 : decode cX9_parted 13 = .ok (.i2l, 1) := by decide +kernel
theorem dX9_parted_14 : decode cX9_parted 14 = .ok (.lconst 0, 1) := by decide +kernel
theorem dX9_parted_15 : decode cX9_parted 15 = .ok (.lconst 1, 1) := by decide +kernel
theorem dX9_parted_16 : decode cX9_parted 16 = .ok (.invokestatic 90, 3) := by decide +kernel
theorem dX9_parted_19 : decode cX9_parted 19 = .ok (.ifCond .ne 10, 3) := by decide +kernel
theorem dX9_parted_22 : decode cX9_parted 22 = .ok (.aload_n 0, 1) := by decide +kernel
theorem dX9_parted_23 : decode cX9_parted 23 = .ok (.bipush (-2), 2) := by decide +kernel
theorem dX9_parted_25 : decode cX9_parted 25 = .ok (.invokevirtual 124, 3) := by decide +kernel
theorem dX9_parted_28 : decode cX9_parted 28 = .ok (.ireturn, 1) := by decide +kernel
theorem dX9_parted_29 : decode cX9_parted 29 = .ok (.aload_n 0, 1) := by decide +kernel
theorem dX9_parted_30 : decode cX9_parted 30 = .ok (.aload_n 0, 1) := by decide +kernel
theorem dX9_parted_31 : decode cX9_parted 31 = .ok (.getfield 106, 3) := by decide +kernel
theorem dX9_parted_34 : decode cX9_parted 34 = .ok (.invokevirtual 319, 3) := by decide +kernel
theorem dX9_parted_37 : decode cX9_parted 37 = .ok (.aload_n 0, 1) := by decide +kernel
theorem dX9_parted_38 : decode cX9_parted 38 = .ok (.iload_n 1, 1) := by decide +kernel
theorem dX9_parted_39 : decode cX9_parted 39 = .ok (.invokevirtual 325, 3) := by decide +kernel
theorem dX9_parted_42 : decode cX9_parted 42 = .ok (.ifCond .ne 10, 3) := by decide +kernel
theorem dX9_parted_45 : decode cX9_parted 45 = .ok (.aload_n 0, 1) := by decide +kernel
theorem dX9_parted_46 : decode cX9_parted 46 = .ok (.bipush (-5), 2) := by decide +kernel
theorem dX9_parted_48 : decode cX9_parted 48 = .ok (.invokevirtual 124, 3) := by decide +kernel
theorem dX9_parted_51 : decode cX9_parted 51 = .ok (.ireturn, 1) := by decide +kernel
theorem dX9_parted_52 : decode cX9_parted 52 = .ok (.aload_n 0, 1) := by decide +kernel
theorem dX9_parted_53 : decode cX9_parted 53 = .ok (.iload_n 1, 1) := by decide +kernel
theorem dX9_parted_54 : decode cX9_parted 54 = .ok (.invokevirtual 331, 3) := by decide +kernel
theorem dX9_parted_57 : decode cX9_parted 57 = .ok (.iload_n 2, 1) := by decide +kernel
theorem dX9_parted_58 : decode cX9_parted 58 = .ok (.ifCond .ne 10, 3) := by decide +kernel
theorem dX9_parted_61 : decode cX9_parted 61 = .ok (.aload_n 0, 1) := by decide +kernel
theorem dX9_parted_62 : decode cX9_parted 62 = .ok (.invokevirtual 334, 3) := by decide +kernel
theorem dX9_parted_65 : decode cX9_parted 65 = .ok (.goto 7, 3) := by decide +kernel
theorem dX9_parted_68 : decode cX9_parted 68 = .ok (.aload_n 0, 1) := by decide +kernel
theorem dX9_parted_69 : decode cX9_parted 69 = .ok (.invokevirtual 337, 3) := by decide +kernel
theorem dX9_parted_72 : decode cX9_parted 72 = .ok (.ireturn, 1) := by decide +kernel
set_option maxRecDepth 20000 in
theorem ggX9_hidden_X9_findFree : GoodIn wsX9_hidden wsX9_findFree := goodIn_r _ [6, 7, 8, 9, 10, 5, 11, 12, 13, 14, 15, 16, 17, 18, 19, 20, 21, 22, 23, 24, 25, 26, 27, 47, 48, 49, 50, 51, 52, 53, 54, 55, 56, 57, 58, 59, 60, 61, 62, 63, 64, 65, 66, 67, 68, 69, 70, 71, 72, 73, 74, 75, 76, 77, 78, 79, 80, 81, 82, 83] (by decide +kernel) (by decide +kernel)
set_option maxRecDepth 20000 in
theorem gX9_hidden_X9_findFree : GoodIn wsX9_hidden (wsV RX9 319 RX9 yX9_findFree wsX9_findFree) := goodIn_app (goodIn_of _ (by decide +kernel)) ggX9_hidden_X9_findFree
set_option maxRecDepth 20000 in
theorem ggX9_hidden_X9_doServe : GoodIn wsX9_hidden wsX9_doServe := goodIn_r _ [31, 7, 8, 9, 10, 5, 11, 12, 47, 48, 49, 50, 51, 52, 53, 54, 55, 56, 57, 58, 59, 60, 61, 62, 63, 64, 65, 66, 67, 68, 69, 70, 71, 72, 73, 74, 75, 76, 77, 78, 79, 80, 81, 82, 83] (by decide +kernel) (by decide +kernel)
set_option maxRecDepth 20000 in
theorem gX9_hidden_X9_doServe : GoodIn wsX9_hidden (wsV RX9 325 RX9 yX9_doServe wsX9_doServe) := goodIn_app (goodIn_of _ (by decide +kernel)) ggX9_hidden_X9_doServe
set_option maxRecDepth 20000 in
theorem ggX9_hidden_X9_findWays : GoodIn wsX9_hidden wsX9_findWays := goodIn_r _ [35, 36, 7, 8, 9, 10, 5, 11, 12, 47, 48, 49, 50, 51, 52, 53, 54, 55, 56, 57, 58, 59, 60, 61, 62, 63, 64, 65, 66, 67, 68, 69, 70, 71, 72, 73, 74, 75, 76, 77, 78, 79, 80, 81, 82, 83] (by decide +kernel) (by decide +kernel)
set_option maxRecDepth 20000 in
theorem gX9_hidden_X9_findWays : GoodIn wsX9_hidden (wsV RX9 331 RX9 yX9_findWays wsX9_findWays) := goodIn_app (goodIn_of _ (by decide +kernel)) ggX9_hidden_X9_findWays
set_option maxRecDepth 20000 in
theorem ggX9_hidden_X9_seam : GoodIn wsX9_hidden wsX9_seam := goodIn_r _ [40, 36, 41, 8, 9, 10, 5, 11, 12, 20, 21, 22, 23, 24, 25, 26, 27, 47, 48, 49, 50, 51, 52, 53, 54, 55, 56, 57, 58, 59, 60, 61, 62, 63, 64, 65, 66, 67, 68, 69, 70, 71, 72, 73, 74, 75, 76, 77, 78, 79, 80, 81, 82, 83] (by decide +kernel) (by decide +kernel)
set_option maxRecDepth 20000 in
theorem gX9_hidden_X9_seam : GoodIn wsX9_hidden (wsV RX9 337 RX9 yX9_seam wsX9_seam) := goodIn_app (goodIn_of _ (by decide +kernel)) ggX9_hidden_X9_seam
set_option maxRecDepth 20000 in
theorem ggX9_hidden_X9_refuse : GoodIn wsX9_hidden wsX9_refuse := goodIn_r _ [45, 46, 47, 48, 49, 50, 51, 52, 53, 54, 55, 56, 57, 58, 59, 60, 61, 62, 63, 64, 65, 66, 67, 68, 69, 70, 71, 72, 73, 74, 75, 76, 77, 78, 79, 80, 81, 82, 83] (by decide +kernel) (by decide +kernel)
set_option maxRecDepth 20000 in
theorem gX9_hidden_X9_refuse : GoodIn wsX9_hidden (wsV RX9 124 RX9 yX9_refuse wsX9_refuse) := goodIn_app (goodIn_of _ (by decide +kernel)) ggX9_hidden_X9_refuse
theorem dX9_hidden_0 : decode cX9_hidden 0 = .ok (.aload_n 0, 1) := by decide +kernel
theorem dX9_hidden_1 : decode cX9_hidden 1 = .ok (.aload_n 0, 1) := by decide +kernel
theorem dX9_hidden_2 : decode cX9_hidden 2 = .ok (.getfield 106, 3) := by decide +kernel
theorem dX9_hidden_5 : decode cX9_hidden 5 = .ok (.invokevirtual 319, 3) := by decide +kernel
theorem dX9_hidden_8 : decode cX9_hidden 8 = .ok (.iconst (-1), 1) := by decide +kernel
theorem dX9_hidden_9 : decode cX9_hidden 9 = .ok (.istore_n 1, 1) := by decide +kernel
theorem dX9_hidden_10 : decode cX9_hidden 10 = .ok (.iconst 0, 1) := by decide +kernel
theorem dX9_hidden_11 : decode cX9_hidden 11 = .ok (.istore_n 2, 1) := by decide +kernel
theorem dX9_hidden_12 : decode cX9_hidden 12 = .ok (.iconst 0, 1) := by decide +kernel
theorem dX9_hidden_13 : decode cX9_hidden 13 = .ok (.istore_n 3, 1) := by decide +kernel
theorem dX9_hidden_14 : decode cX9_hidden 14 = .ok (.iload_n 3, 1) := by decide +kernel
theorem dX9_hidden_15 : decode cX9_hidden 15 = .ok (.bipush 64, 2) := by decide +kernel
theorem dX9_hidden_17 : decode cX9_hidden 17 = .ok (.if_icmp .ge 44, 3) := by decide +kernel
theorem dX9_hidden_20 : decode cX9_hidden 20 = .ok (.aload_n 0, 1) := by decide +kernel
theorem dX9_hidden_21 : decode cX9_hidden 21 = .ok (.iload_n 3, 1) := by decide +kernel
theorem dX9_hidden_22 : decode cX9_hidden 22 = .ok (.invokevirtual 325, 3) := by decide +kernel
theorem dX9_hidden_25 : decode cX9_hidden 25 = .ok (.ifCond .eq 30, 3) := by decide +kernel
theorem dX9_hidden_28 : decode cX9_hidden 28 = .ok (.aload_n 0, 1) := by decide +kernel
theorem dX9_hidden_29 : decode cX9_hidden 29 = .ok (.iload_n 3, 1) := by decide +kernel
theorem dX9_hidden_30 : decode cX9_hidden 30 = .ok (.invokevirtual 331, 3) := by decide +kernel
theorem dX9_hidden_33 : decode cX9_hidden 33 = .ok (.aload_n 0, 1) := by decide +kernel
theorem dX9_hidden_34 : decode cX9_hidden 34 = .ok (.invokevirtual 337, 3) := by decide +kernel
theorem dX9_hidden_37 : decode cX9_hidden 37 = .ok (.istore 4, 2) := by decide +kernel
theorem dX9_hidden_39 : decode cX9_hidden 39 = .ok (.iload_n 1, 1) := by decide +kernel
theorem dX9_hidden_40 : decode cX9_hidden 40 = .ok (.iconst (-1), 1) := by decide +kernel
theorem dX9_hidden_41 : decode cX9_hidden 41 = .ok (.if_icmp .eq 9, 3) := by decide +kernel
theorem dX9_hidden_44 : decode cX9_hidden 44 = .ok (.iload 4, 2) := by decide +kernel
theorem dX9_hidden_46 : decode cX9_hidden 46 = .ok (.iload_n 2, 1) := by decide +kernel
theorem dX9_hidden_47 : decode cX9_hidden 47 = .ok (.if_icmp .ge 8, 3) := by decide +kernel
theorem dX9_hidden_50 : decode cX9_hidden 50 = .ok (.iload_n 3, 1) := by decide +kernel
theorem dX9_hidden_51 : decode cX9_hidden 51 = .ok (.istore_n 1, 1) := by decide +kernel
theorem dX9_hidden_52 : decode cX9_hidden 52 = .ok (.iload 4, 2) := by decide +kernel
theorem dX9_hidden_54 : decode cX9_hidden 54 = .ok (.istore_n 2, 1) := by decide +kernel
theorem dX9_hidden_55 : decode cX9_hidden 55 = .ok (.iinc 3 1, 3) := by decide +kernel
theorem dX9_hidden_58 : decode cX9_hidden 58 = .ok (.goto (-44), 3) := by decide +kernel
theorem dX9_hidden_61 : decode cX9_hidden 61 = .ok (.iload_n 1, 1) := by decide +kernel
theorem dX9_hidden_62 : decode cX9_hidden 62 = .ok (.iconst (-1), 1) := by decide +kernel
theorem dX9_hidden_63 : decode cX9_hidden 63 = .ok (.if_icmp .ne 12, 3) := by decide +kernel
theorem dX9_hidden_66 : decode cX9_hidden 66 = .ok (.aload_n 0, 1) := by decide +kernel
theorem dX9_hidden_67 : decode cX9_hidden 67 = .ok (.bipush (-5), 2) := by decide +kernel
theorem dX9_hidden_69 : decode cX9_hidden 69 = .ok (.invokevirtual 124, 3) := by decide +kernel
theorem dX9_hidden_72 : decode cX9_hidden 72 = .ok (.goto 4, 3) := by decide +kernel
theorem dX9_hidden_75 : decode cX9_hidden 75 = .ok (.iload_n 1, 1) := by decide +kernel
theorem dX9_hidden_76 : decode cX9_hidden 76 = .ok (.ireturn, 1) := by decide +kernel
set_option maxRecDepth 20000 in
theorem ggX9_make_X9_in : GoodIn wsX9_make wsX9_in := goodIn_r _ [10] (by decide +kernel) (by decide +kernel)
set_option maxRecDepth 20000 in
theorem gX9_make_X9_in : GoodIn wsX9_make (va_wsS RX9 90 yX9_in wsX9_in) := goodIn_app (goodIn_of _ (by decide +kernel)) ggX9_make_X9_in
set_option maxRecDepth 20000 in
theorem ggX9_make_X9_refuse : GoodIn wsX9_make wsX9_refuse := goodIn_r _ [14, 15, 67, 68, 69, 70, 71, 72, 73, 74, 75, 76, 77, 78, 79, 80, 81, 82, 83, 84, 85, 86, 87, 88, 89, 90, 91, 92, 93, 94, 95, 96, 97, 98, 99, 100, 101, 102, 103] (by decide +kernel) (by decide +kernel)
set_option maxRecDepth 20000 in
theorem gX9_make_X9_refuse : GoodIn wsX9_make (wsV RX9 124 RX9 yX9_refuse wsX9_refuse) := goodIn_app (goodIn_of _ (by decide +kernel)) ggX9_make_X9_refuse
set_option maxRecDepth 20000 in
theorem ggX9_make_X9_findFree : GoodIn wsX9_make wsX9_findFree := goodIn_r _ [19, 20, 21, 22, 23, 9, 24, 25, 26, 27, 28, 29, 30, 31, 32, 33, 34, 35, 36, 37, 38, 39, 40, 67, 68, 69, 70, 71, 72, 73, 74, 75, 76, 77, 78, 79, 80, 81, 82, 83, 84, 85, 86, 87, 88, 89, 90, 91, 92, 93, 94, 95, 96, 97, 98, 99, 100, 101, 102, 103] (by decide +kernel) (by decide +kernel)
set_option maxRecDepth 20000 in
theorem gX9_make_X9_findFree : GoodIn wsX9_make (wsV RX9 319 RX9 yX9_findFree wsX9_findFree) := goodIn_app (goodIn_of _ (by decide +kernel)) ggX9_make_X9_findFree
set_option maxRecDepth 20000 in
theorem ggX9_make_X9_doServe : GoodIn wsX9_make wsX9_doServe := goodIn_r _ [44, 20, 21, 22, 23, 9, 24, 25, 67, 68, 69, 70, 71, 72, 73, 74, 75, 76, 77, 78, 79, 80, 81, 82, 83, 84, 85, 86, 87, 88, 89, 90, 91, 92, 93, 94, 95, 96, 97, 98, 99, 100, 101, 102, 103] (by decide +kernel) (by decide +kernel)
set_option maxRecDepth 20000 in
theorem gX9_make_X9_doServe : GoodIn wsX9_make (wsV RX9 325 RX9 yX9_doServe wsX9_doServe) := goodIn_app (goodIn_of _ (by decide +kernel)) ggX9_make_X9_doServe
set_option maxRecDepth 20000 in
theorem ggX9_make_X9_findWays : GoodIn wsX9_make wsX9_findWays := goodIn_r _ [48, 49, 20, 21, 22, 23, 9, 24, 25, 67, 68, 69, 70, 71, 72, 73, 74, 75, 76, 77, 78, 79, 80, 81, 82, 83, 84, 85, 86, 87, 88, 89, 90, 91, 92, 93, 94, 95, 96, 97, 98, 99, 100, 101, 102, 103] (by decide +kernel) (by decide +kernel)
set_option maxRecDepth 20000 in
theorem gX9_make_X9_findWays : GoodIn wsX9_make (wsV RX9 331 RX9 yX9_findWays wsX9_findWays) := goodIn_app (goodIn_of _ (by decide +kernel)) ggX9_make_X9_findWays
set_option maxRecDepth 20000 in
theorem ggX9_make_X9_findParts : GoodIn wsX9_make wsX9_findParts := goodIn_r _ [53, 49, 4, 54, 55, 56, 57, 9, 58, 2, 59, 60, 61, 62, 25, 21, 22, 23, 24, 26, 27, 28, 63, 64, 65, 66, 33, 34, 35, 36, 37, 38, 39, 40, 67, 68, 69, 70, 71, 72, 73, 74, 75, 76, 77, 78, 79, 80, 81, 82, 83, 84, 85, 86, 87, 88, 89, 90, 91, 92, 93, 94, 95, 96, 97, 98, 99, 100, 101, 102, 103] (by decide +kernel) (by decide +kernel)
set_option maxRecDepth 20000 in
theorem gX9_make_X9_findParts : GoodIn wsX9_make (wsV RX9 334 RX9 yX9_findParts wsX9_findParts) := goodIn_app (goodIn_of _ (by decide +kernel)) ggX9_make_X9_findParts
theorem dX9_make_0 : decode cX9_make 0 = .ok (.iload_n 1, 1) := by decide +kernel
theorem dX9_make_1 : decode cX9_make 1 = .ok (.i2l, 1) := by decide +kernel
theorem dX9_make_2 : decode cX9_make 2 = .ok (.lconst 0, 1) := by decide +kernel
theorem dX9_make_3 : decode cX9_make 3 = .ok (.ldc2_w 323, 3) := by decide +kernel
theorem dX9_make_6 : decode cX9_make 6 = .ok (.invokestatic 90, 3) := by decide +kernel
theorem dX9_make_9 : decode cX9_make 9 = .ok (.ifCond .ne 10, 3) := by decide +kernel
theorem dX9_make_12 : decode cX9_make 12 = .ok (.aload_n 0, 1) := by decide +kernel
theorem dX9_make_13 : decode cX9_make 13 = .ok (.bipush (-2), 2) := by decide +kernel
theorem dX9_make_15 : decode cX9_make 15 = .ok (.invokevirtual 124, 3) := by decide +kernel
theorem dX9_make_18 : decode cX9_make 18 = .ok (.ireturn, 1) := by decide +kernel
theorem dX9_make_19 : decode cX9_make 19 = .ok (.aload_n 0, 1) := by decide +kernel
theorem dX9_make_20 : decode cX9_make 20 = .ok (.aload_n 0, 1) := by decide +kernel
theorem dX9_make_21 : decode cX9_make 21 = .ok (.getfield 106, 3) := by decide +kernel
theorem dX9_make_24 : decode cX9_make 24 = .ok (.invokevirtual 319, 3) := by decide +kernel
theorem dX9_make_27 : decode cX9_make 27 = .ok (.aload_n 0, 1) := by decide +kernel
theorem dX9_make_28 : decode cX9_make 28 = .ok (.iload_n 1, 1) := by decide +kernel
theorem dX9_make_29 : decode cX9_make 29 = .ok (.invokevirtual 325, 3) := by decide +kernel
theorem dX9_make_32 : decode cX9_make 32 = .ok (.ifCond .ne 10, 3) := by decide +kernel
theorem dX9_make_35 : decode cX9_make 35 = .ok (.aload_n 0, 1) := by decide +kernel
theorem dX9_make_36 : decode cX9_make 36 = .ok (.bipush (-5), 2) := by decide +kernel
theorem dX9_make_38 : decode cX9_make 38 = .ok (.invokevirtual 124, 3) := by decide +kernel
theorem dX9_make_41 : decode cX9_make 41 = .ok (.ireturn, 1) := by decide +kernel
theorem dX9_make_42 : decode cX9_make 42 = .ok (.aload_n 0, 1) := by decide +kernel
theorem dX9_make_43 : decode cX9_make 43 = .ok (.iload_n 1, 1) := by decide +kernel
theorem dX9_make_44 : decode cX9_make 44 = .ok (.invokevirtual 331, 3) := by decide +kernel
theorem dX9_make_47 : decode cX9_make 47 = .ok (.aload_n 0, 1) := by decide +kernel
theorem dX9_make_48 : decode cX9_make 48 = .ok (.invokevirtual 334, 3) := by decide +kernel
theorem dX9_make_51 : decode cX9_make 51 = .ok (.istore_n 2, 1) := by decide +kernel
theorem dX9_make_52 : decode cX9_make 52 = .ok (.iload_n 2, 1) := by decide +kernel
theorem dX9_make_53 : decode cX9_make 53 = .ok (.bipush 8, 2) := by decide +kernel
theorem dX9_make_55 : decode cX9_make 55 = .ok (.if_icmp .le 10, 3) := by decide +kernel
theorem dX9_make_58 : decode cX9_make 58 = .ok (.aload_n 0, 1) := by decide +kernel
theorem dX9_make_59 : decode cX9_make 59 = .ok (.bipush (-6), 2) := by decide +kernel
theorem dX9_make_61 : decode cX9_make 61 = .ok (.invokevirtual 124, 3) := by decide +kernel
theorem dX9_make_64 : decode cX9_make 64 = .ok (.ireturn, 1) := by decide +kernel
theorem dX9_make_65 : decode cX9_make 65 = .ok (.iconst 0, 1) := by decide +kernel
theorem dX9_make_66 : decode cX9_make 66 = .ok (.istore_n 3, 1) := by decide +kernel
theorem dX9_make_67 : decode cX9_make 67 = .ok (.iload_n 3, 1) := by decide +kernel
theorem dX9_make_68 : decode cX9_make 68 = .ok (.iload_n 2, 1) := by decide +kernel
theorem dX9_make_69 : decode cX9_make 69 = .ok (.if_icmp .ge 21, 3) := by decide +kernel
theorem dX9_make_72 : decode cX9_make 72 = .ok (.aload_n 0, 1) := by decide +kernel
theorem dX9_make_73 : decode cX9_make 73 = .ok (.getfield 47, 3) := by decide +kernel
theorem dX9_make_76 : decode cX9_make 76 = .ok (.iload_n 3, 1) := by decide +kernel
theorem dX9_make_77 : decode cX9_make 77 = .ok (.aload_n 0, 1) := by decide +kernel
theorem dX9_make_78 : decode cX9_make 78 = .ok (.getfield 74, 3) := by decide +kernel
theorem dX9_make_81 : decode cX9_make 81 = .ok (.iload_n 3, 1) := by decide +kernel
theorem dX9_make_82 : decode cX9_make 82 = .ok (.laload, 1) := by decide +kernel
theorem dX9_make_83 : decode cX9_make 83 = .ok (.lastore, 1) := by decide +kernel
theorem dX9_make_84 : decode cX9_make 84 = .ok (.iinc 3 1, 3) := by decide +kernel
theorem dX9_make_87 : decode cX9_make 87 = .ok (.goto (-20), 3) := by decide +kernel
theorem dX9_make_90 : decode cX9_make 90 = .ok (.aload_n 0, 1) := by decide +kernel
theorem dX9_make_91 : decode cX9_make 91 = .ok (.iload_n 2, 1) := by decide +kernel
theorem dX9_make_92 : decode cX9_make 92 = .ok (.putfield 94, 3) := by decide +kernel
theorem dX9_make_95 : decode cX9_make 95 = .ok (.aload_n 0, 1) := by decide +kernel
theorem dX9_make_96 : decode cX9_make 96 = .ok (.iconst 0, 1) := by decide +kernel
theorem dX9_make_97 : decode cX9_make 97 = .ok (.putfield 97, 3) := by decide +kernel
theorem dX9_make_100 : decode cX9_make 100 = .ok (.iload_n 2, 1) := by decide +kernel
theorem dX9_make_101 : decode cX9_make 101 = .ok (.ireturn, 1) := by decide +kernel
set_option maxRecDepth 20000 in
theorem ggX9_halves_X9_in : GoodIn wsX9_halves wsX9_in := goodIn_r _ [8] (by decide +kernel) (by decide +kernel)
set_option maxRecDepth 20000 in
theorem gX9_halves_X9_in : GoodIn wsX9_halves (va_wsS RX9 90 yX9_in wsX9_in) := goodIn_app (goodIn_of _ (by decide +kernel)) ggX9_halves_X9_in
set_option maxRecDepth 20000 in
theorem ggX9_halves_X9_refuse : GoodIn wsX9_halves wsX9_refuse := goodIn_r _ [12, 13, 37, 38, 39, 40, 41, 42, 43, 44, 45, 46, 47, 48, 49, 50, 51, 52, 53, 54, 55, 56, 57, 58, 59, 60, 61, 62, 63, 64, 65, 66, 67, 68, 69, 70, 71, 72, 73] (by decide +kernel) (by decide +kernel)
set_option maxRecDepth 20000 in
theorem gX9_halves_X9_refuse : GoodIn wsX9_halves (wsV RX9 124 RX9 yX9_refuse wsX9_refuse) := goodIn_app (goodIn_of _ (by decide +kernel)) ggX9_halves_X9_refuse
set_option maxRecDepth 20000 in
theorem ggX9_halves_X9_findFree : GoodIn wsX9_halves wsX9_findFree := goodIn_r _ [17, 4, 18, 19, 20, 7, 21, 3, 22, 23, 24, 25, 26, 27, 28, 29, 30, 31, 32, 33, 34, 35, 36, 37, 38, 39, 40, 41, 42, 43, 44, 45, 46, 47, 48, 49, 50, 51, 52, 53, 54, 55, 56, 57, 58, 59, 60, 61, 62, 63, 64, 65, 66, 67, 68, 69, 70, 71, 72, 73] (by decide +kernel) (by decide +kernel)
set_option maxRecDepth 20000 in
theorem gX9_halves_X9_findFree : GoodIn wsX9_halves (wsV RX9 319 RX9 yX9_findFree wsX9_findFree) := goodIn_app (goodIn_of _ (by decide +kernel)) ggX9_halves_X9_findFree
set_option maxRecDepth 20000 in
theorem ggX9_halves_X9_many : GoodIn wsX9_halves wsX9_many := goodIn_r _ [21, 3, 37, 38, 39, 40, 41, 42, 43, 44, 45, 46, 47, 48, 49, 50, 51, 52, 53, 54, 55, 56, 57, 58, 59, 60, 61, 62, 63, 64, 65, 66, 67, 68, 69, 70, 71, 72, 73] (by decide +kernel) (by decide +kernel)
set_option maxRecDepth 20000 in
theorem gX9_halves_X9_many : GoodIn wsX9_halves (wsV RX9 86 RX9 yX9_many wsX9_many) := goodIn_app (goodIn_of _ (by decide +kernel)) ggX9_halves_X9_many
set_option maxRecDepth 20000 in
theorem ggX9_halves_X9_sideOf : GoodIn wsX9_halves wsX9_sideOf := goodIn_r _ [36, 3, 37, 38, 39, 40, 41, 42, 43, 44, 45, 46, 47, 48, 49, 50, 51, 52, 53, 54, 55, 56, 57, 58, 59, 60, 61, 62, 63, 64, 65, 66, 67, 68, 69, 70, 71, 72, 73] (by decide +kernel) (by decide +kernel)
set_option maxRecDepth 20000 in
theorem gX9_halves_X9_sideOf : GoodIn wsX9_halves (wsV RX9 114 RX9 yX9_sideOf wsX9_sideOf) := goodIn_app (goodIn_of _ (by decide +kernel)) ggX9_halves_X9_sideOf
theorem dX9_halves_0 : decode cX9_halves 0 = .ok (.iload_n 1, 1) := by decide +kernel
theorem dX9_halves_1 : decode cX9_halves 1 = .ok (.i2l, 1) := by decide +kernel
theorem dX9_halves_2 : decode cX9_halves 2 = .ok (.lconst 0, 1) := by decide +kernel
theorem dX9_halves_3 : decode cX9_halves 3 = .ok (.ldc2_w 152, 3) := by decide +kernel
theorem dX9_halves_6 : decode cX9_halves 6 = .ok (.invokestatic 90, 3) := by decide +kernel
theorem dX9_halves_9 : decode cX9_halves 9 = .ok (.ifCond .ne 10, 3) := by decide +kernel
theorem dX9_halves_12 : decode cX9_halves 12 = .ok (.aload_n 0, 1) := by decide +kernel
theorem dX9_halves_13 : decode cX9_halves 13 = .ok (.bipush (-2), 2) := by decide +kernel
theorem dX9_halves_15 : decode cX9_halves 15 = .ok (.invokevirtual 124, 3) := by decide +kernel
theorem dX9_halves_18 : decode cX9_halves 18 = .ok (.ireturn, 1) := by decide +kernel
theorem dX9_halves_19 : decode cX9_halves 19 = .ok (.aload_n 0, 1) := by decide +kernel
theorem dX9_halves_20 : decode cX9_halves 20 = .ok (.aload_n 0, 1) := by decide +kernel
theorem dX9_halves_21 : decode cX9_halves 21 = .ok (.getfield 106, 3) := by decide +kernel
theorem dX9_halves_24 : decode cX9_halves 24 = .ok (.invokevirtual 319, 3) := by decide +kernel
theorem dX9_halves_27 : decode cX9_halves 27 = .ok (.iconst 0, 1) := by decide +kernel
theorem dX9_halves_28 : decode cX9_halves 28 = .ok (.istore_n 2, 1) := by decide +kernel
theorem dX9_halves_29 : decode cX9_halves 29 = .ok (.iconst 0, 1) := by decide +kernel
theorem dX9_halves_30 : decode cX9_halves 30 = .ok (.istore_n 3, 1) := by decide +kernel
theorem dX9_halves_31 : decode cX9_halves 31 = .ok (.iload_n 3, 1) := by decide +kernel
theorem dX9_halves_32 : decode cX9_halves 32 = .ok (.aload_n 0, 1) := by decide +kernel
theorem dX9_halves_33 : decode cX9_halves 33 = .ok (.getfield 43, 3) := by decide +kernel
theorem dX9_halves_36 : decode cX9_halves 36 = .ok (.if_icmp .gt 103, 3) := by decide +kernel
theorem dX9_halves_39 : decode cX9_halves 39 = .ok (.iconst 1, 1) := by decide +kernel
theorem dX9_halves_40 : decode cX9_halves 40 = .ok (.istore 4, 2) := by decide +kernel
theorem dX9_halves_42 : decode cX9_halves 42 = .ok (.iconst 0, 1) := by decide +kernel
theorem dX9_halves_43 : decode cX9_halves 43 = .ok (.istore 5, 2) := by decide +kernel
theorem dX9_halves_45 : decode cX9_halves 45 = .ok (.iload 5, 2) := by decide +kernel
theorem dX9_halves_47 : decode cX9_halves 47 = .ok (.aload_n 0, 1) := by decide +kernel
theorem dX9_halves_48 : decode cX9_halves 48 = .ok (.invokevirtual 86, 3) := by decide +kernel
theorem dX9_halves_51 : decode cX9_halves 51 = .ok (.if_icmp .ge 67, 3) := by decide +kernel
theorem dX9_halves_54 : decode cX9_halves 54 = .ok (.iconst 2, 1) := by decide +kernel
theorem dX9_halves_55 : decode cX9_halves 55 = .ok (.iload_n 1, 1) := by decide +kernel
theorem dX9_halves_56 : decode cX9_halves 56 = .ok (.imul, 1) := by decide +kernel
theorem dX9_halves_57 : decode cX9_halves 57 = .ok (.aload_n 0, 1) := by decide +kernel
theorem dX9_halves_58 : decode cX9_halves 58 = .ok (.iload 5, 2) := by decide +kernel
theorem dX9_halves_60 : decode cX9_halves 60 = .ok (.iload_n 1, 1) := by decide +kernel
theorem dX9_halves_61 : decode cX9_halves 61 = .ok (.invokevirtual 114, 3) := by decide +kernel
theorem dX9_halves_64 : decode cX9_halves 64 = .ok (.iload_n 3, 1) := by decide +kernel
theorem dX9_halves_65 : decode cX9_halves 65 = .ok (.if_icmp .ge 7, 3) := by decide +kernel
theorem dX9_halves_68 : decode cX9_halves 68 = .ok (.iconst 1, 1) := by decide +kernel
theorem dX9_halves_69 : decode cX9_halves 69 = .ok (.goto 4, 3) := by decide +kernel
theorem dX9_halves_72 : decode cX9_halves 72 = .ok (.iconst 0, 1) := by decide +kernel
theorem dX9_halves_73 : decode cX9_halves 73 = .ok (.iadd, 1) := by decide +kernel
theorem dX9_halves_74 : decode cX9_halves 74 = .ok (.istore 6, 2) := by decide +kernel
theorem dX9_halves_76 : decode cX9_halves 76 = .ok (.iload 4, 2) := by decide +kernel
theorem dX9_halves_78 : decode cX9_halves 78 = .ok (.aload_n 0, 1) := by decide +kernel
theorem dX9_halves_79 : decode cX9_halves 79 = .ok (.getfield 68, 3) := by decide +kernel
theorem dX9_halves_82 : decode cX9_halves 82 = .ok (.iload 5, 2) := by decide +kernel
theorem dX9_halves_84 : decode cX9_halves 84 = .ok (.iaload, 1) := by decide +kernel
theorem dX9_halves_85 : decode cX9_halves 85 = .ok (.iconst (-1), 1) := by decide +kernel
theorem dX9_halves_86 : decode cX9_halves 86 = .ok (.if_icmp .eq 18, 3) := by decide +kernel
theorem dX9_halves_89 : decode cX9_halves 89 = .ok (.aload_n 0, 1) := by decide +kernel
theorem dX9_halves_90 : decode cX9_halves 90 = .ok (.getfield 68, 3) := by decide +kernel
theorem dX9_halves_93 : decode cX9_halves 93 = .ok (.iload 5, 2) := by decide +kernel
theorem dX9_halves_95 : decode cX9_halves 95 = .ok (.iaload, 1) := by decide +kernel
theorem dX9_halves_96 : decode cX9_halves 96 = .ok (.iload 6, 2) := by decide +kernel
theorem dX9_halves_98 : decode cX9_halves 98 = .ok (.ishr, 1) := by decide +kernel
theorem dX9_halves_99 : decode cX9_halves 99 = .ok (.iconst 1, 1) := by decide +kernel
theorem dX9_halves_100 : decode cX9_halves 100 = .ok (.iand, 1) := by decide +kernel
theorem dX9_halves_101 : decode cX9_halves 101 = .ok (.ifCond .eq 7, 3) := by decide +kernel
theorem dX9_halves_104 : decode cX9_halves 104 = .ok (.iconst 1, 1) := by decide +kernel
theorem dX9_halves_105 : decode cX9_halves 105 = .ok (.goto 4, 3) := by decide +kernel
theorem dX9_halves_108 : decode cX9_halves 108 = .ok (.iconst 0, 1) := by decide +kernel
theorem dX9_halves_109 : decode cX9_halves 109 = .ok (.iand, 1) := by decide +kernel
theorem dX9_halves_110 : decode cX9_halves 110 = .ok (.istore 4, 2) := by decide +kernel
theorem dX9_halves_112 : decode cX9_halves 112 = .ok (.iinc 5 1, 3) := by decide +kernel
theorem dX9_halves_115 : decode cX9_halves 115 = .ok (.goto (-70), 3) := by decide +kernel
theorem dX9_halves_118 : decode cX9_halves 118 = .ok (.iload_n 2, 1) := by decide +kernel
theorem dX9_halves_119 : decode cX9_halves 119 = .ok (.iload 4, 2) := by decide +kernel
theorem dX9_halves_121 : decode cX9_halves 121 = .ok (.ifCond .eq 9, 3) := by decide +kernel
theorem dX9_halves_124 : decode cX9_halves 124 = .ok (.iconst 1, 1) := by decide +kernel
theorem dX9_halves_125 : decode cX9_halves 125 = .ok (.iload_n 3, 1) := by decide +kernel
theorem dX9_halves_126 : decode cX9_halves 126 = .ok (.ishl, 1) := by decide +kernel
theorem dX9_halves_127 : decode cX9_halves 127 = .ok (.goto 4, 3) := by decide +kernel
theorem dX9_halves_130 : decode cX9_halves 130 = .ok (.iconst 0, 1) := by decide +kernel
theorem dX9_halves_131 : decode cX9_halves 131 = .ok (.ior, 1) := by decide +kernel
theorem dX9_halves_132 : decode cX9_halves 132 = .ok (.istore_n 2, 1) := by decide +kernel
theorem dX9_halves_133 : decode cX9_halves 133 = .ok (.iinc 3 1, 3) := by decide +kernel
theorem dX9_halves_136 : decode cX9_halves 136 = .ok (.goto (-105), 3) := by decide +kernel
theorem dX9_halves_139 : decode cX9_halves 139 = .ok (.iload_n 2, 1) := by decide +kernel
theorem dX9_halves_140 : decode cX9_halves 140 = .ok (.ireturn, 1) := by decide +kernel
set_option maxRecDepth 20000 in
theorem ggX9_line_X9_in : GoodIn wsX9_line wsX9_in := goodIn_r _ [6] (by decide +kernel) (by decide +kernel)
set_option maxRecDepth 20000 in
theorem gX9_line_X9_in : GoodIn wsX9_line (va_wsS RX9 90 yX9_in wsX9_in) := goodIn_app (goodIn_of _ (by decide +kernel)) ggX9_line_X9_in
set_option maxRecDepth 20000 in
theorem ggX9_line_X9_refuse : GoodIn wsX9_line wsX9_refuse := goodIn_r _ [10, 11, 28, 29, 30, 31, 32, 33, 34, 35, 36, 37, 38, 39, 40, 41, 42, 43, 44, 45, 46, 47, 48, 49, 50, 51, 52, 53, 54, 55, 56, 57, 58, 59, 60, 61, 62, 63, 64] (by decide +kernel) (by decide +kernel)
set_option maxRecDepth 20000 in
theorem gX9_line_X9_refuse : GoodIn wsX9_line (wsV RX9 124 RX9 yX9_refuse wsX9_refuse) := goodIn_app (goodIn_of _ (by decide +kernel)) ggX9_line_X9_refuse
set_option maxRecDepth 20000 in
theorem ggX9_line_X9_many : GoodIn wsX9_line wsX9_many := goodIn_r _ [15, 16, 28, 29, 30, 31, 32, 33, 34, 35, 36, 37, 38, 39, 40, 41, 42, 43, 44, 45, 46, 47, 48, 49, 50, 51, 52, 53, 54, 55, 56, 57, 58, 59, 60, 61, 62, 63, 64] (by decide +kernel) (by decide +kernel)
set_option maxRecDepth 20000 in
theorem gX9_line_X9_many : GoodIn wsX9_line (wsV RX9 86 RX9 yX9_many wsX9_many) := goodIn_app (goodIn_of _ (by decide +kernel)) ggX9_line_X9_many
set_option maxRecDepth 20000 in
theorem ggX9_line_X9_from : GoodIn wsX9_line wsX9_from := goodIn_r _ [20, 16, 21, 22, 23, 5, 24, 28, 29, 30, 31, 32, 33, 34, 35, 36, 37, 38, 39, 40, 41, 42, 43, 44, 45, 46, 47, 48, 49, 50, 51, 52, 53, 54, 55, 56, 57, 58, 59, 60, 61, 62, 63, 64] (by decide +kernel) (by decide +kernel)
set_option maxRecDepth 20000 in
theorem gX9_line_X9_from : GoodIn wsX9_line (wsV RX9 279 RX9 yX9_from wsX9_from) := goodIn_app (goodIn_of _ (by decide +kernel)) ggX9_line_X9_from
set_option maxRecDepth 20000 in
theorem ggX9_line_X9_has : GoodIn wsX9_line wsX9_has := goodIn_r _ [27] (by decide +kernel) (by decide +kernel)
set_option maxRecDepth 20000 in
theorem gX9_line_X9_has : GoodIn wsX9_line (va_wsS RX9 110 yX9_has wsX9_has) := goodIn_app (goodIn_of _ (by decide +kernel)) ggX9_line_X9_has
theorem dX9_line_0 : decode cX9_line 0 = .ok (.iload_n 1, 1) := by decide +kernel
theorem dX9_line_1 : decode cX9_line 1 = .ok (.i2l, 1) := by decide +kernel
theorem dX9_line_2 : decode cX9_line 2 = .ok (.lconst 0, 1) := by decide +kernel
theorem dX9_line_3 : decode cX9_line 3 = .ok (.ldc2_w 152, 3) := by decide +kernel
theorem dX9_line_6 : decode cX9_line 6 = .ok (.invokestatic 90, 3) := by decide +kernel
theorem dX9_line_9 : decode cX9_line 9 = .ok (.ifCond .ne 10, 3) := by decide +kernel
theorem dX9_line_12 : decode cX9_line 12 = .ok (.aload_n 0, 1) := by decide +kernel
theorem dX9_line_13 : decode cX9_line 13 = .ok (.bipush (-2), 2) := by decide +kernel
theorem dX9_line_15 : decode cX9_line 15 = .ok (.invokevirtual 124, 3) := by decide +kernel
theorem dX9_line_18 : decode cX9_line 18 = .ok (.ireturn, 1) := by decide +kernel
theorem dX9_line_19 : decode cX9_line 19 = .ok (.iconst 0, 1) := by decide +kernel
theorem dX9_line_20 : decode cX9_line 20 = .ok (.istore_n 2, 1) := by decide +kernel
theorem dX9_line_21 : decode cX9_line 21 = .ok (.iload_n 2, 1) := by decide +kernel
theorem dX9_line_22 : decode cX9_line 22 = .ok (.aload_n 0, 1) := by decide +kernel
theorem dX9_line_23 : decode cX9_line 23 = .ok (.invokevirtual 86, 3) := by decide +kernel
theorem dX9_line_26 : decode cX9_line 26 = .ok (.if_icmp .ge 126, 3) := by decide +kernel
theorem dX9_line_29 : decode cX9_line 29 = .ok (.iconst 0, 1) := by decide +kernel
theorem dX9_line_30 : decode cX9_line 30 = .ok (.istore_n 3, 1) := by decide +kernel
theorem dX9_line_31 : decode cX9_line 31 = .ok (.iconst 0, 1) := by decide +kernel
theorem dX9_line_32 : decode cX9_line 32 = .ok (.istore 4, 2) := by decide +kernel
theorem dX9_line_34 : decode cX9_line 34 = .ok (.aload_n 0, 1) := by decide +kernel
theorem dX9_line_35 : decode cX9_line 35 = .ok (.iload_n 2, 1) := by decide +kernel
theorem dX9_line_36 : decode cX9_line 36 = .ok (.iconst 2, 1) := by decide +kernel
theorem dX9_line_37 : decode cX9_line 37 = .ok (.iload_n 1, 1) := by decide +kernel
theorem dX9_line_38 : decode cX9_line 38 = .ok (.imul, 1) := by decide +kernel
theorem dX9_line_39 : decode cX9_line 39 = .ok (.invokevirtual 279, 3) := by decide +kernel
theorem dX9_line_42 : decode cX9_line 42 = .ok (.istore 5, 2) := by decide +kernel
theorem dX9_line_44 : decode cX9_line 44 = .ok (.iload 5, 2) := by decide +kernel
theorem dX9_line_46 : decode cX9_line 46 = .ok (.iconst (-1), 1) := by decide +kernel
theorem dX9_line_47 : decode cX9_line 47 = .ok (.if_icmp .eq 29, 3) := by decide +kernel
theorem dX9_line_50 : decode cX9_line 50 = .ok (.iload_n 3, 1) := by decide +kernel
theorem dX9_line_51 : decode cX9_line 51 = .ok (.aload_n 0, 1) := by decide +kernel
theorem dX9_line_52 : decode cX9_line 52 = .ok (.getfield 106, 3) := by decide +kernel
theorem dX9_line_55 : decode cX9_line 55 = .ok (.iload 5, 2) := by decide +kernel
theorem dX9_line_57 : decode cX9_line 57 = .ok (.invokestatic 110, 3) := by decide +kernel
theorem dX9_line_60 : decode cX9_line 60 = .ok (.ior, 1) := by decide +kernel
theorem dX9_line_61 : decode cX9_line 61 = .ok (.istore_n 3, 1) := by decide +kernel
theorem dX9_line_62 : decode cX9_line 62 = .ok (.aload_n 0, 1) := by decide +kernel
theorem dX9_line_63 : decode cX9_line 63 = .ok (.iload 5, 2) := by decide +kernel
theorem dX9_line_65 : decode cX9_line 65 = .ok (.iconst 2, 1) := by decide +kernel
theorem dX9_line_66 : decode cX9_line 66 = .ok (.iload_n 1, 1) := by decide +kernel
theorem dX9_line_67 : decode cX9_line 67 = .ok (.imul, 1) := by decide +kernel
theorem dX9_line_68 : decode cX9_line 68 = .ok (.invokevirtual 279, 3) := by decide +kernel
theorem dX9_line_71 : decode cX9_line 71 = .ok (.istore 5, 2) := by decide +kernel
theorem dX9_line_73 : decode cX9_line 73 = .ok (.goto (-29), 3) := by decide +kernel
theorem dX9_line_76 : decode cX9_line 76 = .ok (.aload_n 0, 1) := by decide +kernel
theorem dX9_line_77 : decode cX9_line 77 = .ok (.iload_n 2, 1) := by decide +kernel
theorem dX9_line_78 : decode cX9_line 78 = .ok (.iconst 2, 1) := by decide +kernel
theorem dX9_line_79 : decode cX9_line 79 = .ok (.iload_n 1, 1) := by decide +kernel
theorem dX9_line_80 : decode cX9_line 80 = .ok (.imul, 1) := by decide +kernel
theorem dX9_line_81 : decode cX9_line 81 = .ok (.iconst 1, 1) := by decide +kernel
theorem dX9_line_82 : decode cX9_line 82 = .ok (.iadd, 1) := by decide +kernel
theorem dX9_line_83 : decode cX9_line 83 = .ok (.invokevirtual 279, 3) := by decide +kernel
theorem dX9_line_86 : decode cX9_line 86 = .ok (.istore 5, 2) := by decide +kernel
theorem dX9_line_88 : decode cX9_line 88 = .ok (.iload 5, 2) := by decide +kernel
theorem dX9_line_90 : decode cX9_line 90 = .ok (.iconst (-1), 1) := by decide +kernel
theorem dX9_line_91 : decode cX9_line 91 = .ok (.if_icmp .eq 33, 3) := by decide +kernel
theorem dX9_line_94 : decode cX9_line 94 = .ok (.iload 4, 2) := by decide +kernel
theorem dX9_line_96 : decode cX9_line 96 = .ok (.aload_n 0, 1) := by decide +kernel
theorem dX9_line_97 : decode cX9_line 97 = .ok (.getfield 106, 3) := by decide +kernel
theorem dX9_line_100 : decode cX9_line 100 = .ok (.iload 5, 2) := by decide +kernel
theorem dX9_line_102 : decode cX9_line 102 = .ok (.invokestatic 110, 3) := by decide +kernel
theorem dX9_line_105 : decode cX9_line 105 = .ok (.ior, 1) := by decide +kernel
theorem dX9_line_106 : decode cX9_line 106 = .ok (.istore 4, 2) := by decide +kernel
theorem dX9_line_108 : decode cX9_line 108 = .ok (.aload_n 0, 1) := by decide +kernel
theorem dX9_line_109 : decode cX9_line 109 = .ok (.iload 5, 2) := by decide +kernel
theorem dX9_line_111 : decode cX9_line 111 = .ok (.iconst 2, 1) := by decide +kernel
theorem dX9_line_112 : decode cX9_line 112 = .ok (.iload_n 1, 1) := by decide +kernel
theorem dX9_line_113 : decode cX9_line 113 = .ok (.imul, 1) := by decide +kernel
theorem dX9_line_114 : decode cX9_line 114 = .ok (.iconst 1, 1) := by decide +kernel
theorem dX9_line_115 : decode cX9_line 115 = .ok (.iadd, 1) := by decide +kernel
theorem dX9_line_116 : decode cX9_line 116 = .ok (.invokevirtual 279, 3) := by decide +kernel
theorem dX9_line_119 : decode cX9_line 119 = .ok (.istore 5, 2) := by decide +kernel
theorem dX9_line_121 : decode cX9_line 121 = .ok (.goto (-33), 3) := by decide +kernel
theorem dX9_line_124 : decode cX9_line 124 = .ok (.aload_n 0, 1) := by decide +kernel
theorem dX9_line_125 : decode cX9_line 125 = .ok (.getfield 106, 3) := by decide +kernel
theorem dX9_line_128 : decode cX9_line 128 = .ok (.iload_n 2, 1) := by decide +kernel
theorem dX9_line_129 : decode cX9_line 129 = .ok (.invokestatic 110, 3) := by decide +kernel
theorem dX9_line_132 : decode cX9_line 132 = .ok (.ifCond .ne 14, 3) := by decide +kernel
theorem dX9_line_135 : decode cX9_line 135 = .ok (.iload_n 3, 1) := by decide +kernel
theorem dX9_line_136 : decode cX9_line 136 = .ok (.ifCond .eq 10, 3) := by decide +kernel
theorem dX9_line_139 : decode cX9_line 139 = .ok (.iload 4, 2) := by decide +kernel
theorem dX9_line_141 : decode cX9_line 141 = .ok (.ifCond .eq 5, 3) := by decide +kernel
theorem dX9_line_144 : decode cX9_line 144 = .ok (.iconst 0, 1) := by decide +kernel
theorem dX9_line_145 : decode cX9_line 145 = .ok (.ireturn, 1) := by decide +kernel
theorem dX9_line_146 : decode cX9_line 146 = .ok (.iinc 2 1, 3) := by decide +kernel
theorem dX9_line_149 : decode cX9_line 149 = .ok (.goto (-128), 3) := by decide +kernel
theorem dX9_line_152 : decode cX9_line 152 = .ok (.iconst 1, 1) := by decide +kernel
theorem dX9_line_153 : decode cX9_line 153 = .ok (.ireturn, 1) := by decide +kernel
set_option maxRecDepth 20000 in
theorem ggX9_needs_X9_findFree : GoodIn wsX9_needs wsX9_findFree := goodIn_r _ [5, 6, 7, 8, 9, 4, 10, 11, 12, 13, 14, 15, 16, 17, 18, 19, 20, 21, 22, 23, 24, 25, 26, 38, 39, 40, 41, 42, 43, 44, 45, 46, 47, 48, 49, 50, 51, 52, 53, 54, 55, 56, 57, 58, 59, 60, 61, 62, 63, 64, 65, 66, 67, 68, 69, 70, 71, 72, 73, 74] (by decide +kernel) (by decide +kernel)
set_option maxRecDepth 20000 in
theorem gX9_needs_X9_findFree : GoodIn wsX9_needs (wsV RX9 319 RX9 yX9_findFree wsX9_findFree) := goodIn_app (goodIn_of _ (by decide +kernel)) ggX9_needs_X9_findFree
set_option maxRecDepth 20000 in
theorem ggX9_needs_X9_fewestFound : GoodIn wsX9_needs wsX9_fewestFound := goodIn_r _ [30, 31, 32, 33, 4, 34, 6, 7, 8, 9, 10, 11, 35, 36, 37, 12, 13, 14, 38, 39, 40, 41, 42, 43, 44, 45, 46, 47, 48, 49, 50, 51, 52, 53, 54, 55, 56, 57, 58, 59, 60, 61, 62, 63, 64, 65, 66, 67, 68, 69, 70, 71, 72, 73, 74] (by decide +kernel) (by decide +kernel)
set_option maxRecDepth 20000 in
theorem gX9_needs_X9_fewestFound : GoodIn wsX9_needs (wsV RX9 328 RX9 yX9_fewestFound wsX9_fewestFound) := goodIn_app (goodIn_of _ (by decide +kernel)) ggX9_needs_X9_fewestFound
set_option maxRecDepth 20000 in
theorem ggX9_needs_X9_bits : GoodIn wsX9_needs wsX9_bits := goodIn_r _ [37, 12, 13, 4, 14] (by decide +kernel) (by decide +kernel)
set_option maxRecDepth 20000 in
theorem gX9_needs_X9_bits : GoodIn wsX9_needs (va_wsS RX9 158 yX9_bits wsX9_bits) := goodIn_app (goodIn_of _ (by decide +kernel)) ggX9_needs_X9_bits
theorem dX9_needs_0 : decode cX9_needs 0 = .ok (.aload_n 0, 1) := by decide +kernel
theorem dX9_needs_1 : decode cX9_needs 1 = .ok (.lload_n 1, 1) := by decide +kernel
theorem dX9_needs_2 : decode cX9_needs 2 = .ok (.invokevirtual 319, 3) := by decide +kernel
theorem dX9_needs_5 : decode cX9_needs 5 = .ok (.aload_n 0, 1) := by decide +kernel
theorem dX9_needs_6 : decode cX9_needs 6 = .ok (.invokevirtual 328, 3) := by decide +kernel
theorem dX9_needs_9 : decode cX9_needs 9 = .ok (.istore_n 3, 1) := by decide +kernel
theorem dX9_needs_10 : decode cX9_needs 10 = .ok (.iload_n 3, 1) := by decide +kernel
theorem dX9_needs_11 : decode cX9_needs 11 = .ok (.iconst (-1), 1) := by decide +kernel
theorem dX9_needs_12 : decode cX9_needs 12 = .ok (.if_icmp .ne 8, 3) := by decide +kernel
theorem dX9_needs_15 : decode cX9_needs 15 = .ok (.bipush 9, 2) := by decide +kernel
theorem dX9_needs_17 : decode cX9_needs 17 = .ok (.goto 8, 3) := by decide +kernel
theorem dX9_needs_20 : decode cX9_needs 20 = .ok (.iload_n 3, 1) := by decide +kernel
theorem dX9_needs_21 : decode cX9_needs 21 = .ok (.i2l, 1) := by decide +kernel
theorem dX9_needs_22 : decode cX9_needs 22 = .ok (.invokestatic 158, 3) := by decide +kernel
theorem dX9_needs_25 : decode cX9_needs 25 = .ok (.ireturn, 1) := by decide +kernel
set_option maxRecDepth 20000 in
theorem ggX9_cutOf_X9_many : GoodIn wsX9_cutOf wsX9_many := goodIn_r _ [7, 8, 44, 45, 46, 47, 48, 49, 50, 51, 52, 53, 54, 55, 56, 57, 58, 59, 60, 61, 62, 63, 64, 65, 66, 67, 68, 69, 70, 71, 72, 73, 74, 75, 76, 77, 78, 79, 80] (by decide +kernel) (by decide +kernel)
set_option maxRecDepth 20000 in
theorem gX9_cutOf_X9_many : GoodIn wsX9_cutOf (wsV RX9 86 RX9 yX9_many wsX9_many) := goodIn_app (goodIn_of _ (by decide +kernel)) ggX9_cutOf_X9_many
set_option maxRecDepth 20000 in
theorem ggX9_cutOf_X9_has : GoodIn wsX9_cutOf wsX9_has := goodIn_r _ [11] (by decide +kernel) (by decide +kernel)
set_option maxRecDepth 20000 in
theorem gX9_cutOf_X9_has : GoodIn wsX9_cutOf (va_wsS RX9 110 yX9_has wsX9_has) := goodIn_app (goodIn_of _ (by decide +kernel)) ggX9_cutOf_X9_has
set_option maxRecDepth 20000 in
theorem ggX9_cutOf_X9_sideOf : GoodIn wsX9_cutOf wsX9_sideOf := goodIn_r _ [15, 8, 44, 45, 46, 47, 48, 49, 50, 51, 52, 53, 54, 55, 56, 57, 58, 59, 60, 61, 62, 63, 64, 65, 66, 67, 68, 69, 70, 71, 72, 73, 74, 75, 76, 77, 78, 79, 80] (by decide +kernel) (by decide +kernel)
set_option maxRecDepth 20000 in
theorem gX9_cutOf_X9_sideOf : GoodIn wsX9_cutOf (wsV RX9 114 RX9 yX9_sideOf wsX9_sideOf) := goodIn_app (goodIn_of _ (by decide +kernel)) ggX9_cutOf_X9_sideOf
set_option maxRecDepth 20000 in
theorem ggX9_cutOf_X9_needs : GoodIn wsX9_cutOf wsX9_needs := goodIn_r _ [19, 20, 21, 22, 6, 23, 24, 3, 4, 5, 7, 8, 9, 10, 11, 25, 26, 27, 28, 29, 30, 31, 32, 12, 13, 14, 15, 33, 34, 35, 36, 37, 38, 39, 40, 41, 42, 43, 44, 45, 46, 47, 48, 49, 50, 51, 52, 53, 54, 55, 56, 57, 58, 59, 60, 61, 62, 63, 64, 65, 66, 67, 68, 69, 70, 71, 72, 73, 74, 75, 76, 77, 78, 79, 80] (by decide +kernel) (by decide +kernel)
set_option maxRecDepth 20000 in
theorem gX9_cutOf_X9_needs : GoodIn wsX9_cutOf (wsV RX9 340 RX9 yX9_needs wsX9_needs) := goodIn_app (goodIn_of _ (by decide +kernel)) ggX9_cutOf_X9_needs
theorem dX9_cutOf_0 : decode cX9_cutOf 0 = .ok (.lconst 0, 1) := by decide +kernel
theorem dX9_cutOf_1 : decode cX9_cutOf 1 = .ok (.lstore_n 3, 1) := by decide +kernel
theorem dX9_cutOf_2 : decode cX9_cutOf 2 = .ok (.iconst 0, 1) := by decide +kernel
theorem dX9_cutOf_3 : decode cX9_cutOf 3 = .ok (.istore 5, 2) := by decide +kernel
theorem dX9_cutOf_5 : decode cX9_cutOf 5 = .ok (.iload 5, 2) := by decide +kernel
theorem dX9_cutOf_7 : decode cX9_cutOf 7 = .ok (.aload_n 0, 1) := by decide +kernel
theorem dX9_cutOf_8 : decode cX9_cutOf 8 = .ok (.invokevirtual 86, 3) := by decide +kernel
theorem dX9_cutOf_11 : decode cX9_cutOf 11 = .ok (.if_icmp .ge 43, 3) := by decide +kernel
theorem dX9_cutOf_14 : decode cX9_cutOf 14 = .ok (.lload_n 3, 1) := by decide +kernel
theorem dX9_cutOf_15 : decode cX9_cutOf 15 = .ok (.aload_n 0, 1) := by decide +kernel
theorem dX9_cutOf_16 : decode cX9_cutOf 16 = .ok (.getfield 106, 3) := by decide +kernel
theorem dX9_cutOf_19 : decode cX9_cutOf 19 = .ok (.iload 5, 2) := by decide +kernel
theorem dX9_cutOf_21 : decode cX9_cutOf 21 = .ok (.invokestatic 110, 3) := by decide +kernel
theorem dX9_cutOf_24 : decode cX9_cutOf 24 = .ok (.ifCond .eq 21, 3) := by decide +kernel
theorem dX9_cutOf_27 : decode cX9_cutOf 27 = .ok (.aload_n 0, 1) := by decide +kernel
theorem dX9_cutOf_28 : decode cX9_cutOf 28 = .ok (.iload 5, 2) := by decide +kernel
theorem dX9_cutOf_30 : decode cX9_cutOf 30 = .ok (.iload_n 1, 1) := by decide +kernel
theorem dX9_cutOf_31 : decode cX9_cutOf 31 = .ok (.invokevirtual 114, 3) := by decide +kernel
theorem dX9_cutOf_34 : decode cX9_cutOf 34 = .ok (.iload_n 2, 1) := by decide +kernel
theorem dX9_cutOf_35 : decode cX9_cutOf 35 = .ok (.if_icmp .ge 10, 3) := by decide +kernel
theorem dX9_cutOf_38 : decode cX9_cutOf 38 = .ok (.lconst 1, 1) := by decide +kernel
theorem dX9_cutOf_39 : decode cX9_cutOf 39 = .ok (.iload 5, 2) := by decide +kernel
theorem dX9_cutOf_41 : decode cX9_cutOf 41 = .ok (.lshl, 1) := by decide +kernel
theorem dX9_cutOf_42 : decode cX9_cutOf 42 = .ok (.goto 4, 3) := by decide +kernel
theorem dX9_cutOf_45 : decode cX9_cutOf 45 = .ok (.lconst 0, 1) := by decide +kernel
theorem dX9_cutOf_46 : decode cX9_cutOf 46 = .ok (.lor, 1) := by decide +kernel
theorem dX9_cutOf_47 : decode cX9_cutOf 47 = .ok (.lstore_n 3, 1) := by decide +kernel
theorem dX9_cutOf_48 : decode cX9_cutOf 48 = .ok (.iinc 5 1, 3) := by decide +kernel
theorem dX9_cutOf_51 : decode cX9_cutOf 51 = .ok (.goto (-46), 3) := by decide +kernel
theorem dX9_cutOf_54 : decode cX9_cutOf 54 = .ok (.aload_n 0, 1) := by decide +kernel
theorem dX9_cutOf_55 : decode cX9_cutOf 55 = .ok (.lload_n 3, 1) := by decide +kernel
theorem dX9_cutOf_56 : decode cX9_cutOf 56 = .ok (.invokevirtual 340, 3) := by decide +kernel
theorem dX9_cutOf_59 : decode cX9_cutOf 59 = .ok (.aload_n 0, 1) := by decide +kernel
theorem dX9_cutOf_60 : decode cX9_cutOf 60 = .ok (.aload_n 0, 1) := by decide +kernel
theorem dX9_cutOf_61 : decode cX9_cutOf 61 = .ok (.getfield 106, 3) := by decide +kernel
theorem dX9_cutOf_64 : decode cX9_cutOf 64 = .ok (.lload_n 3, 1) := by decide +kernel
theorem dX9_cutOf_65 : decode cX9_cutOf 65 = .ok (.ldc2_w 100, 3) := by decide +kernel
theorem dX9_cutOf_68 : decode cX9_cutOf 68 = .ok (.lxor, 1) := by decide +kernel
theorem dX9_cutOf_69 : decode cX9_cutOf 69 = .ok (.land, 1) := by decide +kernel
theorem dX9_cutOf_70 : decode cX9_cutOf 70 = .ok (.invokevirtual 340, 3) := by decide +kernel
theorem dX9_cutOf_73 : decode cX9_cutOf 73 = .ok (.iadd, 1) := by decide +kernel
theorem dX9_cutOf_74 : decode cX9_cutOf 74 = .ok (.ireturn, 1) := by decide +kernel
set_option maxRecDepth 20000 in
theorem ggX9_cut_X9_in : GoodIn wsX9_cut wsX9_in := goodIn_r _ [6] (by decide +kernel) (by decide +kernel)
set_option maxRecDepth 20000 in
theorem gX9_cut_X9_in : GoodIn wsX9_cut (va_wsS RX9 90 yX9_in wsX9_in) := goodIn_app (goodIn_of _ (by decide +kernel)) ggX9_cut_X9_in
set_option maxRecDepth 20000 in
theorem ggX9_cut_X9_cutOf : GoodIn wsX9_cut wsX9_cutOf := goodIn_r _ [10, 11, 12, 13, 14, 15, 5, 16, 2, 17, 18, 19, 20, 21, 22, 23, 24, 25, 26, 27, 28, 29, 30, 31, 32, 33, 34, 35, 36, 37, 38, 39, 40, 41, 42, 43, 44, 45, 46, 47, 48, 49, 50, 51, 57, 58, 59, 60, 61, 62, 63, 64, 65, 66, 67, 68, 69, 70, 71, 72, 73, 74, 75, 76, 77, 78, 79, 80, 81, 82, 83, 84, 85, 86, 87, 88, 89, 90, 91, 92, 93] (by decide +kernel) (by decide +kernel)
set_option maxRecDepth 20000 in
theorem gX9_cut_X9_cutOf : GoodIn wsX9_cut (wsV RX9 343 RX9 yX9_cutOf wsX9_cutOf) := goodIn_app (goodIn_of _ (by decide +kernel)) ggX9_cut_X9_cutOf
set_option maxRecDepth 20000 in
theorem ggX9_cut_X9_refuse : GoodIn wsX9_cut wsX9_refuse := goodIn_r _ [55, 56, 57, 58, 59, 60, 61, 62, 63, 64, 65, 66, 67, 68, 69, 70, 71, 72, 73, 74, 75, 76, 77, 78, 79, 80, 81, 82, 83, 84, 85, 86, 87, 88, 89, 90, 91, 92, 93] (by decide +kernel) (by decide +kernel)
set_option maxRecDepth 20000 in
theorem gX9_cut_X9_refuse : GoodIn wsX9_cut (wsV RX9 124 RX9 yX9_refuse wsX9_refuse) := goodIn_app (goodIn_of _ (by decide +kernel)) ggX9_cut_X9_refuse
theorem dX9_cut_0 : decode cX9_cut 0 = .ok (.iload_n 1, 1) := by decide +kernel
theorem dX9_cut_1 : decode cX9_cut 1 = .ok (.i2l, 1) := by decide +kernel
theorem dX9_cut_2 : decode cX9_cut 2 = .ok (.lconst 0, 1) := by decide +kernel
theorem dX9_cut_3 : decode cX9_cut 3 = .ok (.ldc2_w 152, 3) := by decide +kernel
theorem dX9_cut_6 : decode cX9_cut 6 = .ok (.invokestatic 90, 3) := by decide +kernel
theorem dX9_cut_9 : decode cX9_cut 9 = .ok (.ifCond .eq 28, 3) := by decide +kernel
theorem dX9_cut_12 : decode cX9_cut 12 = .ok (.iload_n 2, 1) := by decide +kernel
theorem dX9_cut_13 : decode cX9_cut 13 = .ok (.i2l, 1) := by decide +kernel
theorem dX9_cut_14 : decode cX9_cut 14 = .ok (.lconst 1, 1) := by decide +kernel
theorem dX9_cut_15 : decode cX9_cut 15 = .ok (.aload_n 0, 1) := by decide +kernel
theorem dX9_cut_16 : decode cX9_cut 16 = .ok (.getfield 43, 3) := by decide +kernel
theorem dX9_cut_19 : decode cX9_cut 19 = .ok (.iconst 1, 1) := by decide +kernel
theorem dX9_cut_20 : decode cX9_cut 20 = .ok (.isub, 1) := by decide +kernel
theorem dX9_cut_21 : decode cX9_cut 21 = .ok (.i2l, 1) := by decide +kernel
theorem dX9_cut_22 : decode cX9_cut 22 = .ok (.invokestatic 90, 3) := by decide +kernel
theorem dX9_cut_25 : decode cX9_cut 25 = .ok (.ifCond .eq 12, 3) := by decide +kernel
theorem dX9_cut_28 : decode cX9_cut 28 = .ok (.aload_n 0, 1) := by decide +kernel
theorem dX9_cut_29 : decode cX9_cut 29 = .ok (.iload_n 1, 1) := by decide +kernel
theorem dX9_cut_30 : decode cX9_cut 30 = .ok (.iload_n 2, 1) := by decide +kernel
theorem dX9_cut_31 : decode cX9_cut 31 = .ok (.invokevirtual 343, 3) := by decide +kernel
theorem dX9_cut_34 : decode cX9_cut 34 = .ok (.goto 9, 3) := by decide +kernel
theorem dX9_cut_37 : decode cX9_cut 37 = .ok (.aload_n 0, 1) := by decide +kernel
theorem dX9_cut_38 : decode cX9_cut 38 = .ok (.bipush (-2), 2) := by decide +kernel
theorem dX9_cut_40 : decode cX9_cut 40 = .ok (.invokevirtual 124, 3) := by decide +kernel
theorem dX9_cut_43 : decode cX9_cut 43 = .ok (.ireturn, 1) := by decide +kernel
set_option maxRecDepth 20000 in
theorem ggX9_best_X9_cutOf : GoodIn wsX9_best wsX9_cutOf := goodIn_r _ [6, 7, 8, 9, 10, 11, 5, 12, 1, 13, 14, 15, 16, 17, 18, 19, 20, 21, 22, 23, 24, 25, 26, 27, 28, 29, 30, 31, 32, 33, 34, 35, 36, 37, 38, 39, 40, 41, 42, 43, 44, 45, 46, 47, 48, 49, 50, 51, 52, 53, 54, 55, 56, 57, 58, 59, 60, 61, 62, 63, 64, 65, 66, 67, 68, 69, 70, 71, 72, 73, 74, 75, 76, 77, 78, 79, 80, 81, 82, 83, 84] (by decide +kernel) (by decide +kernel)
set_option maxRecDepth 20000 in
theorem gX9_best_X9_cutOf : GoodIn wsX9_best (wsV RX9 343 RX9 yX9_cutOf wsX9_cutOf) := goodIn_app (goodIn_of _ (by decide +kernel)) ggX9_best_X9_cutOf
theorem dX9_best_0 : decode cX9_best 0 = .ok (.iconst (-1), 1) := by decide +kernel
theorem dX9_best_1 : decode cX9_best 1 = .ok (.istore_n 1, 1) := by decide +kernel
theorem dX9_best_2 : decode cX9_best 2 = .ok (.iconst 0, 1) := by decide +kernel
theorem dX9_best_3 : decode cX9_best 3 = .ok (.istore_n 2, 1) := by decide +kernel
theorem dX9_best_4 : decode cX9_best 4 = .ok (.iconst 0, 1) := by decide +kernel
theorem dX9_best_5 : decode cX9_best 5 = .ok (.istore_n 3, 1) := by decide +kernel
theorem dX9_best_6 : decode cX9_best 6 = .ok (.iload_n 3, 1) := by decide +kernel
theorem dX9_best_7 : decode cX9_best 7 = .ok (.iconst 3, 1) := by decide +kernel
theorem dX9_best_8 : decode cX9_best 8 = .ok (.if_icmp .ge 58, 3) := by decide +kernel
theorem dX9_best_11 : decode cX9_best 11 = .ok (.iconst 1, 1) := by decide +kernel
theorem dX9_best_12 : decode cX9_best 12 = .ok (.istore 4, 2) := by decide +kernel
theorem dX9_best_14 : decode cX9_best 14 = .ok (.iload 4, 2) := by decide +kernel
theorem dX9_best_16 : decode cX9_best 16 = .ok (.aload_n 0, 1) := by decide +kernel
theorem dX9_best_17 : decode cX9_best 17 = .ok (.getfield 43, 3) := by decide +kernel
theorem dX9_best_20 : decode cX9_best 20 = .ok (.if_icmp .ge 40, 3) := by decide +kernel
theorem dX9_best_23 : decode cX9_best 23 = .ok (.aload_n 0, 1) := by decide +kernel
theorem dX9_best_24 : decode cX9_best 24 = .ok (.iload_n 3, 1) := by decide +kernel
theorem dX9_best_25 : decode cX9_best 25 = .ok (.iload 4, 2) := by decide +kernel
theorem dX9_best_27 : decode cX9_best 27 = .ok (.invokevirtual 343, 3) := by decide +kernel
theorem dX9_best_30 : decode cX9_best 30 = .ok (.istore 5, 2) := by decide +kernel
theorem dX9_best_32 : decode cX9_best 32 = .ok (.iload_n 1, 1) := by decide +kernel
theorem dX9_best_33 : decode cX9_best 33 = .ok (.iconst (-1), 1) := by decide +kernel
theorem dX9_best_34 : decode cX9_best 34 = .ok (.if_icmp .eq 9, 3) := by decide +kernel
theorem dX9_best_37 : decode cX9_best 37 = .ok (.iload 5, 2) := by decide +kernel
theorem dX9_best_39 : decode cX9_best 39 = .ok (.iload_n 2, 1) := by decide +kernel
theorem dX9_best_40 : decode cX9_best 40 = .ok (.if_icmp .ge 14, 3) := by decide +kernel
theorem dX9_best_43 : decode cX9_best 43 = .ok (.bipush 10, 2) := by decide +kernel
theorem dX9_best_45 : decode cX9_best 45 = .ok (.iload_n 3, 1) := by decide +kernel
theorem dX9_best_46 : decode cX9_best 46 = .ok (.imul, 1) := by decide +kernel
theorem dX9_best_47 : decode cX9_best 47 = .ok (.iload 4, 2) := by decide +kernel
theorem dX9_best_49 : decode cX9_best 49 = .ok (.iadd, 1) := by decide +kernel
theorem dX9_best_50 : decode cX9_best 50 = .ok (.istore_n 1, 1) := by decide +kernel
theorem dX9_best_51 : decode cX9_best 51 = .ok (.iload 5, 2) := by decide +kernel
theorem dX9_best_53 : decode cX9_best 53 = .ok (.istore_n 2, 1) := by decide +kernel
theorem dX9_best_54 : decode cX9_best 54 = .ok (.iinc 4 1, 3) := by decide +kernel
theorem dX9_best_57 : decode cX9_best 57 = .ok (.goto (-43), 3) := by decide +kernel
theorem dX9_best_60 : decode cX9_best 60 = .ok (.iinc 3 1, 3) := by decide +kernel
theorem dX9_best_63 : decode cX9_best 63 = .ok (.goto (-57), 3) := by decide +kernel
theorem dX9_best_66 : decode cX9_best 66 = .ok (.iload_n 1, 1) := by decide +kernel
theorem dX9_best_67 : decode cX9_best 67 = .ok (.ireturn, 1) := by decide +kernel
set_option maxRecDepth 20000 in
theorem ggX9_slide_X9_in : GoodIn wsX9_slide wsX9_in := goodIn_r _ [9] (by decide +kernel) (by decide +kernel)
set_option maxRecDepth 20000 in
theorem gX9_slide_X9_in : GoodIn wsX9_slide (va_wsS RX9 90 yX9_in wsX9_in) := goodIn_app (goodIn_of _ (by decide +kernel)) ggX9_slide_X9_in
set_option maxRecDepth 20000 in
theorem ggX9_slide_X9_refuse : GoodIn wsX9_slide wsX9_refuse := goodIn_r _ [13, 14, 45, 46, 47, 48, 49, 50, 51, 52, 53, 54, 55, 56, 57, 58, 59, 60, 61, 62, 63, 64, 65, 66, 67, 68, 69, 70, 71, 72, 73, 74, 75, 76, 77, 78, 79, 80, 81] (by decide +kernel) (by decide +kernel)
set_option maxRecDepth 20000 in
theorem gX9_slide_X9_refuse : GoodIn wsX9_slide (wsV RX9 124 RX9 yX9_refuse wsX9_refuse) := goodIn_app (goodIn_of _ (by decide +kernel)) ggX9_slide_X9_refuse
set_option maxRecDepth 20000 in
theorem ggX9_slide_X9_noMove : GoodIn wsX9_slide wsX9_noMove := goodIn_r _ [18, 1, 19, 6, 7, 8, 9, 10, 11, 12, 13, 14, 45, 46, 47, 48, 49, 50, 51, 52, 53, 54, 55, 56, 57, 58, 59, 60, 61, 62, 63, 64, 65, 66, 67, 68, 69, 70, 71, 72, 73, 74, 75, 76, 77, 78, 79, 80, 81] (by decide +kernel) (by decide +kernel)
set_option maxRecDepth 20000 in
theorem gX9_slide_X9_noMove : GoodIn wsX9_slide (wsV RX9 298 RX9 yX9_noMove wsX9_noMove) := goodIn_app (goodIn_of _ (by decide +kernel)) ggX9_slide_X9_noMove
set_option maxRecDepth 20000 in
theorem ggX9_slide_X9_block : GoodIn wsX9_slide wsX9_block := goodIn_r _ [23, 24, 25, 26, 27, 28, 8, 29, 45, 46, 47, 48, 49, 50, 51, 52, 53, 54, 55, 56, 57, 58, 59, 60, 61, 62, 63, 64, 65, 66, 67, 68, 69, 70, 71, 72, 73, 74, 75, 76, 77, 78, 79, 80, 81] (by decide +kernel) (by decide +kernel)
set_option maxRecDepth 20000 in
theorem gX9_slide_X9_block : GoodIn wsX9_slide (wsV RX9 102 RX9 yX9_block wsX9_block) := goodIn_app (goodIn_of _ (by decide +kernel)) ggX9_slide_X9_block
set_option maxRecDepth 20000 in
theorem ggX9_slide_X9_onFrom : GoodIn wsX9_slide wsX9_onFrom := goodIn_r _ [33, 26, 27, 28, 8, 29, 24, 34, 35, 36, 37, 38, 39, 40, 41, 42, 43, 44, 45, 46, 47, 48, 49, 50, 51, 52, 53, 54, 55, 56, 57, 58, 59, 60, 61, 62, 63, 64, 65, 66, 67, 68, 69, 70, 71, 72, 73, 74, 75, 76, 77, 78, 79, 80, 81] (by decide +kernel) (by decide +kernel)
set_option maxRecDepth 20000 in
theorem gX9_slide_X9_onFrom : GoodIn wsX9_slide (wsV RX9 294 RX9 yX9_onFrom wsX9_onFrom) := goodIn_app (goodIn_of _ (by decide +kernel)) ggX9_slide_X9_onFrom
theorem dX9_slide_0 : decode cX9_slide 0 = .ok (.iload_n 1, 1) := by decide +kernel
theorem dX9_slide_1 : decode cX9_slide 1 = .ok (.i2l, 1) := by decide +kernel
theorem dX9_slide_2 : decode cX9_slide 2 = .ok (.lconst 0, 1) := by decide +kernel
theorem dX9_slide_3 : decode cX9_slide 3 = .ok (.ldc2_w 118, 3) := by decide +kernel
theorem dX9_slide_6 : decode cX9_slide 6 = .ok (.invokestatic 90, 3) := by decide +kernel
theorem dX9_slide_9 : decode cX9_slide 9 = .ok (.ifCond .eq 16, 3) := by decide +kernel
theorem dX9_slide_12 : decode cX9_slide 12 = .ok (.iload 4, 2) := by decide +kernel
theorem dX9_slide_14 : decode cX9_slide 14 = .ok (.i2l, 1) := by decide +kernel
theorem dX9_slide_15 : decode cX9_slide 15 = .ok (.lconst 0, 1) := by decide +kernel
theorem dX9_slide_16 : decode cX9_slide 16 = .ok (.ldc2_w 172, 3) := by decide +kernel
theorem dX9_slide_19 : decode cX9_slide 19 = .ok (.invokestatic 90, 3) := by decide +kernel
theorem dX9_slide_22 : decode cX9_slide 22 = .ok (.ifCond .ne 11, 3) := by decide +kernel
theorem dX9_slide_25 : decode cX9_slide 25 = .ok (.aload_n 0, 1) := by decide +kernel
theorem dX9_slide_26 : decode cX9_slide 26 = .ok (.bipush (-2), 2) := by decide +kernel
theorem dX9_slide_28 : decode cX9_slide 28 = .ok (.invokevirtual 124, 3) := by decide +kernel
theorem dX9_slide_31 : decode cX9_slide 31 = .ok (.i2l, 1) := by decide +kernel
theorem dX9_slide_32 : decode cX9_slide 32 = .ok (.lreturn, 1) := by decide +kernel
theorem dX9_slide_33 : decode cX9_slide 33 = .ok (.aload_n 0, 1) := by decide +kernel
theorem dX9_slide_34 : decode cX9_slide 34 = .ok (.iload_n 1, 1) := by decide +kernel
theorem dX9_slide_35 : decode cX9_slide 35 = .ok (.invokevirtual 298, 3) := by decide +kernel
theorem dX9_slide_38 : decode cX9_slide 38 = .ok (.istore 5, 2) := by decide +kernel
theorem dX9_slide_40 : decode cX9_slide 40 = .ok (.iload 5, 2) := by decide +kernel
theorem dX9_slide_42 : decode cX9_slide 42 = .ok (.ifCond .eq 7, 3) := by decide +kernel
theorem dX9_slide_45 : decode cX9_slide 45 = .ok (.iload 5, 2) := by decide +kernel
theorem dX9_slide_47 : decode cX9_slide 47 = .ok (.i2l, 1) := by decide +kernel
theorem dX9_slide_48 : decode cX9_slide 48 = .ok (.lreturn, 1) := by decide +kernel
theorem dX9_slide_49 : decode cX9_slide 49 = .ok (.aload_n 0, 1) := by decide +kernel
theorem dX9_slide_50 : decode cX9_slide 50 = .ok (.getfield 28, 3) := by decide +kernel
theorem dX9_slide_53 : decode cX9_slide 53 = .ok (.iload_n 1, 1) := by decide +kernel
theorem dX9_slide_54 : decode cX9_slide 54 = .ok (.iaload, 1) := by decide +kernel
theorem dX9_slide_55 : decode cX9_slide 55 = .ok (.iconst 2, 1) := by decide +kernel
theorem dX9_slide_56 : decode cX9_slide 56 = .ok (.if_icmp .ne 7, 3) := by decide +kernel
theorem dX9_slide_59 : decode cX9_slide 59 = .ok (.iconst 1, 1) := by decide +kernel
theorem dX9_slide_60 : decode cX9_slide 60 = .ok (.goto 19, 3) := by decide +kernel
theorem dX9_slide_63 : decode cX9_slide 63 = .ok (.aload_n 0, 1) := by decide +kernel
theorem dX9_slide_64 : decode cX9_slide 64 = .ok (.getfield 28, 3) := by decide +kernel
theorem dX9_slide_67 : decode cX9_slide 67 = .ok (.iload_n 1, 1) := by decide +kernel
theorem dX9_slide_68 : decode cX9_slide 68 = .ok (.iaload, 1) := by decide +kernel
theorem dX9_slide_69 : decode cX9_slide 69 = .ok (.iconst 5, 1) := by decide +kernel
theorem dX9_slide_70 : decode cX9_slide 70 = .ok (.if_icmp .ne 7, 3) := by decide +kernel
theorem dX9_slide_73 : decode cX9_slide 73 = .ok (.iconst 2, 1) := by decide +kernel
theorem dX9_slide_74 : decode cX9_slide 74 = .ok (.goto 5, 3) := by decide +kernel
theorem dX9_slide_77 : decode cX9_slide 77 = .ok (.bipush 9, 2) := by decide +kernel
theorem dX9_slide_79 : decode cX9_slide 79 = .ok (.istore 6, 2) := by decide +kernel
theorem dX9_slide_81 : decode cX9_slide 81 = .ok (.lload_n 2, 1) := by decide +kernel
theorem dX9_slide_82 : decode cX9_slide 82 = .ok (.aload_n 0, 1) := by decide +kernel
theorem dX9_slide_83 : decode cX9_slide 83 = .ok (.invokevirtual 102, 3) := by decide +kernel
theorem dX9_slide_86 : decode cX9_slide 86 = .ok (.land, 1) := by decide +kernel
theorem dX9_slide_87 : decode cX9_slide 87 = .ok (.lstore 7, 2) := by decide +kernel
theorem dX9_slide_89 : decode cX9_slide 89 = .ok (.iconst 0, 1) := by decide +kernel
theorem dX9_slide_90 : decode cX9_slide 90 = .ok (.istore 9, 2) := by decide +kernel
theorem dX9_slide_92 : decode cX9_slide 92 = .ok (.iload 9, 2) := by decide +kernel
theorem dX9_slide_94 : decode cX9_slide 94 = .ok (.iload 4, 2) := by decide +kernel
theorem dX9_slide_96 : decode cX9_slide 96 = .ok (.if_icmp .ge 39, 3) := by decide +kernel
theorem dX9_slide_99 : decode cX9_slide 99 = .ok (.aload_n 0, 1) := by decide +kernel
theorem dX9_slide_100 : decode cX9_slide 100 = .ok (.lload 7, 2) := by decide +kernel
theorem dX9_slide_102 : decode cX9_slide 102 = .ok (.iload 9, 2) := by decide +kernel
theorem dX9_slide_104 : decode cX9_slide 104 = .ok (.iload 6, 2) := by decide +kernel
theorem dX9_slide_106 : decode cX9_slide 106 = .ok (.if_icmp .ge 12, 3) := by decide +kernel
theorem dX9_slide_109 : decode cX9_slide 109 = .ok (.aload_n 0, 1) := by decide +kernel
theorem dX9_slide_110 : decode cX9_slide 110 = .ok (.getfield 31, 3) := by decide +kernel
theorem dX9_slide_113 : decode cX9_slide 113 = .ok (.iload_n 1, 1) := by decide +kernel
theorem dX9_slide_114 : decode cX9_slide 114 = .ok (.iaload, 1) := by decide +kernel
theorem dX9_slide_115 : decode cX9_slide 115 = .ok (.goto 9, 3) := by decide +kernel
theorem dX9_slide_118 : decode cX9_slide 118 = .ok (.aload_n 0, 1) := by decide +kernel
theorem dX9_slide_119 : decode cX9_slide 119 = .ok (.getfield 34, 3) := by decide +kernel
theorem dX9_slide_122 : decode cX9_slide 122 = .ok (.iload_n 1, 1) := by decide +kernel
theorem dX9_slide_123 : decode cX9_slide 123 = .ok (.iaload, 1) := by decide +kernel
theorem dX9_slide_124 : decode cX9_slide 124 = .ok (.invokevirtual 294, 3) := by decide +kernel
theorem dX9_slide_127 : decode cX9_slide 127 = .ok (.lstore 7, 2) := by decide +kernel
theorem dX9_slide_129 : decode cX9_slide 129 = .ok (.iinc 9 1, 3) := by decide +kernel
theorem dX9_slide_132 : decode cX9_slide 132 = .ok (.goto (-40), 3) := by decide +kernel
theorem dX9_slide_135 : decode cX9_slide 135 = .ok (.lload 7, 2) := by decide +kernel
theorem dX9_slide_137 : decode cX9_slide 137 = .ok (.lreturn, 1) := by decide +kernel
set_option maxRecDepth 20000 in
theorem ggX9_rowOf_X9_from : GoodIn wsX9_rowOf wsX9_from := goodIn_r _ [5, 6, 7, 8, 9, 4, 10, 11, 12, 13, 14, 15, 16, 17, 18, 19, 20, 21, 22, 23, 24, 25, 26, 27, 28, 29, 30, 31, 32, 33, 34, 35, 36, 37, 38, 39, 40, 41, 42, 43, 44, 45, 46, 47] (by decide +kernel) (by decide +kernel)
set_option maxRecDepth 20000 in
theorem gX9_rowOf_X9_from : GoodIn wsX9_rowOf (wsV RX9 279 RX9 yX9_from wsX9_from) := goodIn_app (goodIn_of _ (by decide +kernel)) ggX9_rowOf_X9_from
theorem dX9_rowOf_0 : decode cX9_rowOf 0 = .ok (.lconst 1, 1) := by decide +kernel
theorem dX9_rowOf_1 : decode cX9_rowOf 1 = .ok (.iload_n 1, 1) := by decide +kernel
theorem dX9_rowOf_2 : decode cX9_rowOf 2 = .ok (.lshl, 1) := by decide +kernel
theorem dX9_rowOf_3 : decode cX9_rowOf 3 = .ok (.lstore_n 3, 1) := by decide +kernel
theorem dX9_rowOf_4 : decode cX9_rowOf 4 = .ok (.iconst 2, 1) := by decide +kernel
theorem dX9_rowOf_5 : decode cX9_rowOf 5 = .ok (.iload_n 2, 1) := by decide +kernel
theorem dX9_rowOf_6 : decode cX9_rowOf 6 = .ok (.imul, 1) := by decide +kernel
theorem dX9_rowOf_7 : decode cX9_rowOf 7 = .ok (.istore 5, 2) := by decide +kernel
theorem dX9_rowOf_9 : decode cX9_rowOf 9 = .ok (.iload 5, 2) := by decide +kernel
theorem dX9_rowOf_11 : decode cX9_rowOf 11 = .ok (.iconst 2, 1) := by decide +kernel
theorem dX9_rowOf_12 : decode cX9_rowOf 12 = .ok (.iload_n 2, 1) := by decide +kernel
theorem dX9_rowOf_13 : decode cX9_rowOf 13 = .ok (.imul, 1) := by decide +kernel
theorem dX9_rowOf_14 : decode cX9_rowOf 14 = .ok (.iconst 1, 1) := by decide +kernel
theorem dX9_rowOf_15 : decode cX9_rowOf 15 = .ok (.iadd, 1) := by decide +kernel
theorem dX9_rowOf_16 : decode cX9_rowOf 16 = .ok (.if_icmp .gt 44, 3) := by decide +kernel
theorem dX9_rowOf_19 : decode cX9_rowOf 19 = .ok (.aload_n 0, 1) := by decide +kernel
theorem dX9_rowOf_20 : decode cX9_rowOf 20 = .ok (.iload_n 1, 1) := by decide +kernel
theorem dX9_rowOf_21 : decode cX9_rowOf 21 = .ok (.iload 5, 2) := by decide +kernel
theorem dX9_rowOf_23 : decode cX9_rowOf 23 = .ok (.invokevirtual 279, 3) := by decide +kernel
theorem dX9_rowOf_26 : decode cX9_rowOf 26 = .ok (.istore 6, 2) := by decide +kernel
theorem dX9_rowOf_28 : decode cX9_rowOf 28 = .ok (.iload 6, 2) := by decide +kernel
theorem dX9_rowOf_30 : decode cX9_rowOf 30 = .ok (.iconst (-1), 1) := by decide +kernel
theorem dX9_rowOf_31 : decode cX9_rowOf 31 = .ok (.if_icmp .eq 23, 3) := by decide +kernel
theorem dX9_rowOf_34 : decode cX9_rowOf 34 = .ok (.lload_n 3, 1) := by decide +kernel
theorem dX9_rowOf_35 : decode cX9_rowOf 35 = .ok (.lconst 1, 1) := by decide +kernel
theorem dX9_rowOf_36 : decode cX9_rowOf 36 = .ok (.iload 6, 2) := by decide +kernel
theorem dX9_rowOf_38 : decode cX9_rowOf 38 = .ok (.lshl, 1) := by decide +kernel
theorem dX9_rowOf_39 : decode cX9_rowOf 39 = .ok (.lor, 1) := by decide +kernel
theorem dX9_rowOf_40 : decode cX9_rowOf 40 = .ok (.lstore_n 3, 1) := by decide +kernel
theorem dX9_rowOf_41 : decode cX9_rowOf 41 = .ok (.aload_n 0, 1) := by decide +kernel
theorem dX9_rowOf_42 : decode cX9_rowOf 42 = .ok (.iload 6, 2) := by decide +kernel
theorem dX9_rowOf_44 : decode cX9_rowOf 44 = .ok (.iload 5, 2) := by decide +kernel
theorem dX9_rowOf_46 : decode cX9_rowOf 46 = .ok (.invokevirtual 279, 3) := by decide +kernel
theorem dX9_rowOf_49 : decode cX9_rowOf 49 = .ok (.istore 6, 2) := by decide +kernel
theorem dX9_rowOf_51 : decode cX9_rowOf 51 = .ok (.goto (-23), 3) := by decide +kernel
theorem dX9_rowOf_54 : decode cX9_rowOf 54 = .ok (.iinc 5 1, 3) := by decide +kernel
theorem dX9_rowOf_57 : decode cX9_rowOf 57 = .ok (.goto (-48), 3) := by decide +kernel
theorem dX9_rowOf_60 : decode cX9_rowOf 60 = .ok (.lload_n 3, 1) := by decide +kernel
theorem dX9_rowOf_61 : decode cX9_rowOf 61 = .ok (.lreturn, 1) := by decide +kernel
set_option maxRecDepth 20000 in
theorem ggX9_tunnels_X9_in : GoodIn wsX9_tunnels wsX9_in := goodIn_r _ [6] (by decide +kernel) (by decide +kernel)
set_option maxRecDepth 20000 in
theorem gX9_tunnels_X9_in : GoodIn wsX9_tunnels (va_wsS RX9 90 yX9_in wsX9_in) := goodIn_app (goodIn_of _ (by decide +kernel)) ggX9_tunnels_X9_in
set_option maxRecDepth 20000 in
theorem ggX9_tunnels_X9_refuse : GoodIn wsX9_tunnels wsX9_refuse := goodIn_r _ [10, 11, 29, 30, 31, 32, 33, 34, 35, 36, 37, 38, 39, 40, 41, 42, 43, 44, 45, 46, 47, 48, 49, 50, 51, 52, 53, 54, 55, 56, 57, 58, 59, 60, 61, 62, 63, 64, 65] (by decide +kernel) (by decide +kernel)
set_option maxRecDepth 20000 in
theorem gX9_tunnels_X9_refuse : GoodIn wsX9_tunnels (wsV RX9 124 RX9 yX9_refuse wsX9_refuse) := goodIn_app (goodIn_of _ (by decide +kernel)) ggX9_tunnels_X9_refuse
set_option maxRecDepth 20000 in
theorem ggX9_tunnels_X9_many : GoodIn wsX9_tunnels wsX9_many := goodIn_r _ [15, 16, 29, 30, 31, 32, 33, 34, 35, 36, 37, 38, 39, 40, 41, 42, 43, 44, 45, 46, 47, 48, 49, 50, 51, 52, 53, 54, 55, 56, 57, 58, 59, 60, 61, 62, 63, 64, 65] (by decide +kernel) (by decide +kernel)
set_option maxRecDepth 20000 in
theorem gX9_tunnels_X9_many : GoodIn wsX9_tunnels (wsV RX9 86 RX9 yX9_many wsX9_many) := goodIn_app (goodIn_of _ (by decide +kernel)) ggX9_tunnels_X9_many
set_option maxRecDepth 20000 in
theorem ggX9_tunnels_X9_sideOf : GoodIn wsX9_tunnels wsX9_sideOf := goodIn_r _ [20, 16, 29, 30, 31, 32, 33, 34, 35, 36, 37, 38, 39, 40, 41, 42, 43, 44, 45, 46, 47, 48, 49, 50, 51, 52, 53, 54, 55, 56, 57, 58, 59, 60, 61, 62, 63, 64, 65] (by decide +kernel) (by decide +kernel)
set_option maxRecDepth 20000 in
theorem gX9_tunnels_X9_sideOf : GoodIn wsX9_tunnels (wsV RX9 114 RX9 yX9_sideOf wsX9_sideOf) := goodIn_app (goodIn_of _ (by decide +kernel)) ggX9_tunnels_X9_sideOf
set_option maxRecDepth 20000 in
theorem ggX9_tunnels_X9_rowOf : GoodIn wsX9_tunnels wsX9_rowOf := goodIn_r _ [24, 25, 26, 27, 5, 28, 16, 17, 18, 19, 20, 29, 30, 31, 32, 33, 34, 35, 36, 37, 38, 39, 40, 41, 42, 43, 44, 45, 46, 47, 48, 49, 50, 51, 52, 53, 54, 55, 56, 57, 58, 59, 60, 61, 62, 63, 64, 65] (by decide +kernel) (by decide +kernel)
set_option maxRecDepth 20000 in
theorem gX9_tunnels_X9_rowOf : GoodIn wsX9_tunnels (wsV RX9 346 RX9 yX9_rowOf wsX9_rowOf) := goodIn_app (goodIn_of _ (by decide +kernel)) ggX9_tunnels_X9_rowOf
theorem dX9_tunnels_0 : decode cX9_tunnels 0 = .ok (.iload_n 1, 1) := by decide +kernel
theorem dX9_tunnels_1 : decode cX9_tunnels 1 = .ok (.i2l, 1) := by decide +kernel
theorem dX9_tunnels_2 : decode cX9_tunnels 2 = .ok (.lconst 0, 1) := by decide +kernel
theorem dX9_tunnels_3 : decode cX9_tunnels 3 = .ok (.ldc2_w 152, 3) := by decide +kernel
theorem dX9_tunnels_6 : decode cX9_tunnels 6 = .ok (.invokestatic 90, 3) := by decide +kernel
theorem dX9_tunnels_9 : decode cX9_tunnels 9 = .ok (.ifCond .ne 10, 3) := by decide +kernel
theorem dX9_tunnels_12 : decode cX9_tunnels 12 = .ok (.aload_n 0, 1) := by decide +kernel
theorem dX9_tunnels_13 : decode cX9_tunnels 13 = .ok (.bipush (-2), 2) := by decide +kernel
theorem dX9_tunnels_15 : decode cX9_tunnels 15 = .ok (.invokevirtual 124, 3) := by decide +kernel
theorem dX9_tunnels_18 : decode cX9_tunnels 18 = .ok (.ireturn, 1) := by decide +kernel
theorem dX9_tunnels_19 : decode cX9_tunnels 19 = .ok (.iconst 0, 1) := by decide +kernel
theorem dX9_tunnels_20 : decode cX9_tunnels 20 = .ok (.istore_n 2, 1) := by decide +kernel
theorem dX9_tunnels_21 : decode cX9_tunnels 21 = .ok (.iconst 0, 1) := by decide +kernel
theorem dX9_tunnels_22 : decode cX9_tunnels 22 = .ok (.istore_n 3, 1) := by decide +kernel
theorem dX9_tunnels_23 : decode cX9_tunnels 23 = .ok (.iload_n 3, 1) := by decide +kernel
theorem dX9_tunnels_24 : decode cX9_tunnels 24 = .ok (.aload_n 0, 1) := by decide +kernel
theorem dX9_tunnels_25 : decode cX9_tunnels 25 = .ok (.invokevirtual 86, 3) := by decide +kernel
theorem dX9_tunnels_28 : decode cX9_tunnels 28 = .ok (.if_icmp .ge 42, 3) := by decide +kernel
theorem dX9_tunnels_31 : decode cX9_tunnels 31 = .ok (.iload_n 2, 1) := by decide +kernel
theorem dX9_tunnels_32 : decode cX9_tunnels 32 = .ok (.aload_n 0, 1) := by decide +kernel
theorem dX9_tunnels_33 : decode cX9_tunnels 33 = .ok (.iload_n 3, 1) := by decide +kernel
theorem dX9_tunnels_34 : decode cX9_tunnels 34 = .ok (.iload_n 1, 1) := by decide +kernel
theorem dX9_tunnels_35 : decode cX9_tunnels 35 = .ok (.invokevirtual 114, 3) := by decide +kernel
theorem dX9_tunnels_38 : decode cX9_tunnels 38 = .ok (.ifCond .ne 23, 3) := by decide +kernel
theorem dX9_tunnels_41 : decode cX9_tunnels 41 = .ok (.aload_n 0, 1) := by decide +kernel
theorem dX9_tunnels_42 : decode cX9_tunnels 42 = .ok (.iload_n 3, 1) := by decide +kernel
theorem dX9_tunnels_43 : decode cX9_tunnels 43 = .ok (.iload_n 1, 1) := by decide +kernel
theorem dX9_tunnels_44 : decode cX9_tunnels 44 = .ok (.invokevirtual 346, 3) := by decide +kernel
theorem dX9_tunnels_47 : decode cX9_tunnels 47 = .ok (.aload_n 0, 1) := by decide +kernel
theorem dX9_tunnels_48 : decode cX9_tunnels 48 = .ok (.getfield 106, 3) := by decide +kernel
theorem dX9_tunnels_51 : decode cX9_tunnels 51 = .ok (.land, 1) := by decide +kernel
theorem dX9_tunnels_52 : decode cX9_tunnels 52 = .ok (.lconst 0, 1) := by decide +kernel
theorem dX9_tunnels_53 : decode cX9_tunnels 53 = .ok (.lcmp, 1) := by decide +kernel
theorem dX9_tunnels_54 : decode cX9_tunnels 54 = .ok (.ifCond .ne 7, 3) := by decide +kernel
theorem dX9_tunnels_57 : decode cX9_tunnels 57 = .ok (.iconst 1, 1) := by decide +kernel
theorem dX9_tunnels_58 : decode cX9_tunnels 58 = .ok (.goto 4, 3) := by decide +kernel
theorem dX9_tunnels_61 : decode cX9_tunnels 61 = .ok (.iconst 0, 1) := by decide +kernel
theorem dX9_tunnels_62 : decode cX9_tunnels 62 = .ok (.iadd, 1) := by decide +kernel
theorem dX9_tunnels_63 : decode cX9_tunnels 63 = .ok (.istore_n 2, 1) := by decide +kernel
theorem dX9_tunnels_64 : decode cX9_tunnels 64 = .ok (.iinc 3 1, 3) := by decide +kernel
theorem dX9_tunnels_67 : decode cX9_tunnels 67 = .ok (.goto (-44), 3) := by decide +kernel
theorem dX9_tunnels_70 : decode cX9_tunnels 70 = .ok (.iload_n 2, 1) := by decide +kernel
theorem dX9_tunnels_71 : decode cX9_tunnels 71 = .ok (.ireturn, 1) := by decide +kernel
set_option maxRecDepth 20000 in
theorem ggX9_needed_X9_partsOf : GoodIn wsX9_needed wsX9_partsOf := goodIn_r _ [7, 2, 8, 9, 10, 6, 11, 12, 13, 14, 15, 16, 17, 18, 19, 20, 21, 22, 23, 24, 25, 26, 27, 28, 29, 30, 31, 32, 33, 34, 35, 36, 37, 38, 39, 40, 41, 42, 43, 44, 45, 46, 47, 48, 49, 50, 51, 52, 53, 54, 55, 56, 57, 58, 59, 60, 61, 62, 63, 64] (by decide +kernel) (by decide +kernel)
set_option maxRecDepth 20000 in
theorem gX9_needed_X9_partsOf : GoodIn wsX9_needed (wsV RX9 285 RX9 yX9_partsOf wsX9_partsOf) := goodIn_app (goodIn_of _ (by decide +kernel)) ggX9_needed_X9_partsOf
set_option maxRecDepth 20000 in
theorem ggX9_needed_X9_many : GoodIn wsX9_needed wsX9_many := goodIn_r _ [11, 12, 28, 29, 30, 31, 32, 33, 34, 35, 36, 37, 38, 39, 40, 41, 42, 43, 44, 45, 46, 47, 48, 49, 50, 51, 52, 53, 54, 55, 56, 57, 58, 59, 60, 61, 62, 63, 64] (by decide +kernel) (by decide +kernel)
set_option maxRecDepth 20000 in
theorem gX9_needed_X9_many : GoodIn wsX9_needed (wsV RX9 86 RX9 yX9_many wsX9_many) := goodIn_app (goodIn_of _ (by decide +kernel)) ggX9_needed_X9_many
set_option maxRecDepth 20000 in
theorem ggX9_needed_X9_has : GoodIn wsX9_needed wsX9_has := goodIn_r _ [15] (by decide +kernel) (by decide +kernel)
set_option maxRecDepth 20000 in
theorem gX9_needed_X9_has : GoodIn wsX9_needed (va_wsS RX9 110 yX9_has wsX9_has) := goodIn_app (goodIn_of _ (by decide +kernel)) ggX9_needed_X9_has
theorem dX9_needed_0 : decode cX9_needed 0 = .ok (.aload_n 0, 1) := by decide +kernel
theorem dX9_needed_1 : decode cX9_needed 1 = .ok (.aload_n 0, 1) := by decide +kernel
theorem dX9_needed_2 : decode cX9_needed 2 = .ok (.getfield 106, 3) := by decide +kernel
theorem dX9_needed_5 : decode cX9_needed 5 = .ok (.invokevirtual 285, 3) := by decide +kernel
theorem dX9_needed_8 : decode cX9_needed 8 = .ok (.istore_n 1, 1) := by decide +kernel
theorem dX9_needed_9 : decode cX9_needed 9 = .ok (.lconst 0, 1) := by decide +kernel
theorem dX9_needed_10 : decode cX9_needed 10 = .ok (.lstore_n 2, 1) := by decide +kernel
theorem dX9_needed_11 : decode cX9_needed 11 = .ok (.iconst 0, 1) := by decide +kernel
theorem dX9_needed_12 : decode cX9_needed 12 = .ok (.istore 4, 2) := by decide +kernel
theorem dX9_needed_14 : decode cX9_needed 14 = .ok (.iload 4, 2) := by decide +kernel
theorem dX9_needed_16 : decode cX9_needed 16 = .ok (.aload_n 0, 1) := by decide +kernel
theorem dX9_needed_17 : decode cX9_needed 17 = .ok (.invokevirtual 86, 3) := by decide +kernel
theorem dX9_needed_20 : decode cX9_needed 20 = .ok (.if_icmp .ge 53, 3) := by decide +kernel
theorem dX9_needed_23 : decode cX9_needed 23 = .ok (.lload_n 2, 1) := by decide +kernel
theorem dX9_needed_24 : decode cX9_needed 24 = .ok (.aload_n 0, 1) := by decide +kernel
theorem dX9_needed_25 : decode cX9_needed 25 = .ok (.getfield 106, 3) := by decide +kernel
theorem dX9_needed_28 : decode cX9_needed 28 = .ok (.iload 4, 2) := by decide +kernel
theorem dX9_needed_30 : decode cX9_needed 30 = .ok (.invokestatic 110, 3) := by decide +kernel
theorem dX9_needed_33 : decode cX9_needed 33 = .ok (.ifCond .eq 31, 3) := by decide +kernel
theorem dX9_needed_36 : decode cX9_needed 36 = .ok (.aload_n 0, 1) := by decide +kernel
theorem dX9_needed_37 : decode cX9_needed 37 = .ok (.aload_n 0, 1) := by decide +kernel
theorem dX9_needed_38 : decode cX9_needed 38 = .ok (.getfield 106, 3) := by decide +kernel
theorem dX9_needed_41 : decode cX9_needed 41 = .ok (.lconst 1, 1) := by decide +kernel
theorem dX9_needed_42 : decode cX9_needed 42 = .ok (.iload 4, 2) := by decide +kernel
theorem dX9_needed_44 : decode cX9_needed 44 = .ok (.lshl, 1) := by decide +kernel
theorem dX9_needed_45 : decode cX9_needed 45 = .ok (.ldc2_w 100, 3) := by decide +kernel
theorem dX9_needed_48 : decode cX9_needed 48 = .ok (.lxor, 1) := by decide +kernel
theorem dX9_needed_49 : decode cX9_needed 49 = .ok (.land, 1) := by decide +kernel
theorem dX9_needed_50 : decode cX9_needed 50 = .ok (.invokevirtual 285, 3) := by decide +kernel
theorem dX9_needed_53 : decode cX9_needed 53 = .ok (.iload_n 1, 1) := by decide +kernel
theorem dX9_needed_54 : decode cX9_needed 54 = .ok (.if_icmp .le 10, 3) := by decide +kernel
theorem dX9_needed_57 : decode cX9_needed 57 = .ok (.lconst 1, 1) := by decide +kernel
theorem dX9_needed_58 : decode cX9_needed 58 = .ok (.iload 4, 2) := by decide +kernel
theorem dX9_needed_60 : decode cX9_needed 60 = .ok (.lshl, 1) := by decide +kernel
theorem dX9_needed_61 : decode cX9_needed 61 = .ok (.goto 4, 3) := by decide +kernel
theorem dX9_needed_64 : decode cX9_needed 64 = .ok (.lconst 0, 1) := by decide +kernel
theorem dX9_needed_65 : decode cX9_needed 65 = .ok (.lor, 1) := by decide +kernel
theorem dX9_needed_66 : decode cX9_needed 66 = .ok (.lstore_n 2, 1) := by decide +kernel
theorem dX9_needed_67 : decode cX9_needed 67 = .ok (.iinc 4 1, 3) := by decide +kernel
theorem dX9_needed_70 : decode cX9_needed 70 = .ok (.goto (-56), 3) := by decide +kernel
theorem dX9_needed_73 : decode cX9_needed 73 = .ok (.lload_n 2, 1) := by decide +kernel
theorem dX9_needed_74 : decode cX9_needed 74 = .ok (.lreturn, 1) := by decide +kernel
theorem dX9_cubeAt_0 : decode cX9_cubeAt 0 = .ok (.iload_n 1, 1) := by decide +kernel
theorem dX9_cubeAt_1 : decode cX9_cubeAt 1 = .ok (.aload_n 0, 1) := by decide +kernel
theorem dX9_cubeAt_2 : decode cX9_cubeAt 2 = .ok (.getfield 43, 3) := by decide +kernel
theorem dX9_cubeAt_5 : decode cX9_cubeAt 5 = .ok (.iload_n 2, 1) := by decide +kernel
theorem dX9_cubeAt_6 : decode cX9_cubeAt 6 = .ok (.imul, 1) := by decide +kernel
theorem dX9_cubeAt_7 : decode cX9_cubeAt 7 = .ok (.iadd, 1) := by decide +kernel
theorem dX9_cubeAt_8 : decode cX9_cubeAt 8 = .ok (.aload_n 0, 1) := by decide +kernel
theorem dX9_cubeAt_9 : decode cX9_cubeAt 9 = .ok (.getfield 43, 3) := by decide +kernel
theorem dX9_cubeAt_12 : decode cX9_cubeAt 12 = .ok (.aload_n 0, 1) := by decide +kernel
theorem dX9_cubeAt_13 : decode cX9_cubeAt 13 = .ok (.getfield 43, 3) := by decide +kernel
theorem dX9_cubeAt_16 : decode cX9_cubeAt 16 = .ok (.imul, 1) := by decide +kernel
theorem dX9_cubeAt_17 : decode cX9_cubeAt 17 = .ok (.iload_n 3, 1) := by decide +kernel
theorem dX9_cubeAt_18 : decode cX9_cubeAt 18 = .ok (.imul, 1) := by decide +kernel
theorem dX9_cubeAt_19 : decode cX9_cubeAt 19 = .ok (.iadd, 1) := by decide +kernel
theorem dX9_cubeAt_20 : decode cX9_cubeAt 20 = .ok (.ireturn, 1) := by decide +kernel
set_option maxRecDepth 20000 in
theorem ggX9_imageOf_X9_sideOf : GoodIn wsX9_imageOf wsX9_sideOf := goodIn_r _ [7, 2, 12, 13, 14, 15, 16, 17, 18, 19, 20, 21, 22, 23, 24, 25, 26, 27, 28, 29, 30, 31, 32, 33, 34, 35, 36, 37, 38, 39, 40, 41, 42, 43, 44, 45, 46, 47, 48] (by decide +kernel) (by decide +kernel)
set_option maxRecDepth 20000 in
theorem gX9_imageOf_X9_sideOf : GoodIn wsX9_imageOf (wsV RX9 114 RX9 yX9_sideOf wsX9_sideOf) := goodIn_app (goodIn_of _ (by decide +kernel)) ggX9_imageOf_X9_sideOf
set_option maxRecDepth 20000 in
theorem ggX9_imageOf_X9_cubeAt : GoodIn wsX9_imageOf wsX9_cubeAt := goodIn_r _ [11, 2, 12, 13, 14, 15, 16, 17, 18, 19, 20, 21, 22, 23, 24, 25, 26, 27, 28, 29, 30, 31, 32, 33, 34, 35, 36, 37, 38, 39, 40, 41, 42, 43, 44, 45, 46, 47, 48] (by decide +kernel) (by decide +kernel)
set_option maxRecDepth 20000 in
theorem gX9_imageOf_X9_cubeAt : GoodIn wsX9_imageOf (wsV RX9 350 RX9 yX9_cubeAt wsX9_cubeAt) := goodIn_app (goodIn_of _ (by decide +kernel)) ggX9_imageOf_X9_cubeAt
theorem dX9_imageOf_0 : decode cX9_imageOf 0 = .ok (.iconst 0, 1) := by decide +kernel
theorem dX9_imageOf_1 : decode cX9_imageOf 1 = .ok (.istore 4, 2) := by decide +kernel
theorem dX9_imageOf_3 : decode cX9_imageOf 3 = .ok (.iload 4, 2) := by decide +kernel
theorem dX9_imageOf_5 : decode cX9_imageOf 5 = .ok (.iconst 3, 1) := by decide +kernel
theorem dX9_imageOf_6 : decode cX9_imageOf 6 = .ok (.if_icmp .ge 23, 3) := by decide +kernel
theorem dX9_imageOf_9 : decode cX9_imageOf 9 = .ok (.aload_n 0, 1) := by decide +kernel
theorem dX9_imageOf_10 : decode cX9_imageOf 10 = .ok (.getfield 77, 3) := by decide +kernel
theorem dX9_imageOf_13 : decode cX9_imageOf 13 = .ok (.iload 4, 2) := by decide +kernel
theorem dX9_imageOf_15 : decode cX9_imageOf 15 = .ok (.aload_n 0, 1) := by decide +kernel
theorem dX9_imageOf_16 : decode cX9_imageOf 16 = .ok (.iload_n 1, 1) := by decide +kernel
theorem dX9_imageOf_17 : decode cX9_imageOf 17 = .ok (.iload 4, 2) := by decide +kernel
theorem dX9_imageOf_19 : decode cX9_imageOf 19 = .ok (.invokevirtual 114, 3) := by decide +kernel
theorem dX9_imageOf_22 : decode cX9_imageOf 22 = .ok (.iastore, 1) := by decide +kernel
theorem dX9_imageOf_23 : decode cX9_imageOf 23 = .ok (.iinc 4 1, 3) := by decide +kernel
theorem dX9_imageOf_26 : decode cX9_imageOf 26 = .ok (.goto (-23), 3) := by decide +kernel
theorem dX9_imageOf_29 : decode cX9_imageOf 29 = .ok (.iload_n 3, 1) := by decide +kernel
theorem dX9_imageOf_30 : decode cX9_imageOf 30 = .ok (.ifCond .eq 68, 3) := by decide +kernel
theorem dX9_imageOf_33 : decode cX9_imageOf 33 = .ok (.iload_n 2, 1) := by decide +kernel
theorem dX9_imageOf_34 : decode cX9_imageOf 34 = .ok (.ifCond .ne 7, 3) := by decide +kernel
theorem dX9_imageOf_37 : decode cX9_imageOf 37 = .ok (.iconst 1, 1) := by decide +kernel
theorem dX9_imageOf_38 : decode cX9_imageOf 38 = .ok (.goto 4, 3) := by decide +kernel
theorem dX9_imageOf_41 : decode cX9_imageOf 41 = .ok (.iconst 0, 1) := by decide +kernel
theorem dX9_imageOf_42 : decode cX9_imageOf 42 = .ok (.istore 4, 2) := by decide +kernel
theorem dX9_imageOf_44 : decode cX9_imageOf 44 = .ok (.iload_n 2, 1) := by decide +kernel
theorem dX9_imageOf_45 : decode cX9_imageOf 45 = .ok (.iconst 2, 1) := by decide +kernel
theorem dX9_imageOf_46 : decode cX9_imageOf 46 = .ok (.if_icmp .ne 7, 3) := by decide +kernel
theorem dX9_imageOf_49 : decode cX9_imageOf 49 = .ok (.iconst 1, 1) := by decide +kernel
theorem dX9_imageOf_50 : decode cX9_imageOf 50 = .ok (.goto 4, 3) := by decide +kernel
theorem dX9_imageOf_53 : decode cX9_imageOf 53 = .ok (.iconst 2, 1) := by decide +kernel
theorem dX9_imageOf_54 : decode cX9_imageOf 54 = .ok (.istore 5, 2) := by decide +kernel
theorem dX9_imageOf_56 : decode cX9_imageOf 56 = .ok (.aload_n 0, 1) := by decide +kernel
theorem dX9_imageOf_57 : decode cX9_imageOf 57 = .ok (.getfield 77, 3) := by decide +kernel
theorem dX9_imageOf_60 : decode cX9_imageOf 60 = .ok (.iload 4, 2) := by decide +kernel
theorem dX9_imageOf_62 : decode cX9_imageOf 62 = .ok (.iaload, 1) := by decide +kernel
theorem dX9_imageOf_63 : decode cX9_imageOf 63 = .ok (.istore 6, 2) := by decide +kernel
theorem dX9_imageOf_65 : decode cX9_imageOf 65 = .ok (.aload_n 0, 1) := by decide +kernel
theorem dX9_imageOf_66 : decode cX9_imageOf 66 = .ok (.getfield 77, 3) := by decide +kernel
theorem dX9_imageOf_69 : decode cX9_imageOf 69 = .ok (.iload 4, 2) := by decide +kernel
theorem dX9_imageOf_71 : decode cX9_imageOf 71 = .ok (.aload_n 0, 1) := by decide +kernel
theorem dX9_imageOf_72 : decode cX9_imageOf 72 = .ok (.getfield 77, 3) := by decide +kernel
theorem dX9_imageOf_75 : decode cX9_imageOf 75 = .ok (.iload 5, 2) := by decide +kernel
theorem dX9_imageOf_77 : decode cX9_imageOf 77 = .ok (.iaload, 1) := by decide +kernel
theorem dX9_imageOf_78 : decode cX9_imageOf 78 = .ok (.iastore, 1) := by decide +kernel
theorem dX9_imageOf_79 : decode cX9_imageOf 79 = .ok (.aload_n 0, 1) := by decide +kernel
theorem dX9_imageOf_80 : decode cX9_imageOf 80 = .ok (.getfield 77, 3) := by decide +kernel
theorem dX9_imageOf_83 : decode cX9_imageOf 83 = .ok (.iload 5, 2) := by decide +kernel
theorem dX9_imageOf_85 : decode cX9_imageOf 85 = .ok (.aload_n 0, 1) := by decide +kernel
theorem dX9_imageOf_86 : decode cX9_imageOf 86 = .ok (.getfield 43, 3) := by decide +kernel
theorem dX9_imageOf_89 : decode cX9_imageOf 89 = .ok (.iconst 1, 1) := by decide +kernel
theorem dX9_imageOf_90 : decode cX9_imageOf 90 = .ok (.isub, 1) := by decide +kernel
theorem dX9_imageOf_91 : decode cX9_imageOf 91 = .ok (.iload 6, 2) := by decide +kernel
theorem dX9_imageOf_93 : decode cX9_imageOf 93 = .ok (.isub, 1) := by decide +kernel
theorem dX9_imageOf_94 : decode cX9_imageOf 94 = .ok (.iastore, 1) := by decide +kernel
theorem dX9_imageOf_95 : decode cX9_imageOf 95 = .ok (.goto 22, 3) := by decide +kernel
theorem dX9_imageOf_98 : decode cX9_imageOf 98 = .ok (.aload_n 0, 1) := by decide +kernel
theorem dX9_imageOf_99 : decode cX9_imageOf 99 = .ok (.getfield 77, 3) := by decide +kernel
theorem dX9_imageOf_102 : decode cX9_imageOf 102 = .ok (.iload_n 2, 1) := by decide +kernel
