theorem dX9_piece_53 : decode cX9_piece 53 = .ok (.dup_x1, 1) := by decide +kernel
theorem dX9_piece_54 : decode cX9_piece 54 = .ok (.iconst 1, 1) := by decide +kernel
theorem dX9_piece_55 : decode cX9_piece 55 = .ok (.iadd, 1) := by decide +kernel
theorem dX9_piece_56 : decode cX9_piece 56 = .ok (.putfield 94, 3) := by decide +kernel
theorem dX9_piece_59 : decode cX9_piece 59 = .ok (.ireturn, 1) := by decide +kernel
set_option maxRecDepth 20000 in
theorem ggX9_alter_X9_isPiece : GoodIn wsX9_alter wsX9_isPiece := goodIn_r _ [6, 7, 8, 9, 5, 10, 37, 38, 39, 40, 41, 42, 43, 44, 45, 46, 47, 48, 49, 50, 51, 52, 53, 54, 55, 56, 57, 58, 59, 60, 61, 62, 63, 64, 65, 66, 67, 68, 69, 70, 71, 72, 73] (by decide +kernel) (by decide +kernel)
set_option maxRecDepth 20000 in
theorem gX9_alter_X9_isPiece : GoodIn wsX9_alter (wsV RX9 162 RX9 yX9_isPiece wsX9_isPiece) := goodIn_app (goodIn_of _ (by decide +kernel)) ggX9_alter_X9_isPiece
set_option maxRecDepth 20000 in
theorem ggX9_alter_X9_refuse : GoodIn wsX9_alter wsX9_refuse := goodIn_r _ [14, 15, 37, 38, 39, 40, 41, 42, 43, 44, 45, 46, 47, 48, 49, 50, 51, 52, 53, 54, 55, 56, 57, 58, 59, 60, 61, 62, 63, 64, 65, 66, 67, 68, 69, 70, 71, 72, 73] (by decide +kernel) (by decide +kernel)
set_option maxRecDepth 20000 in
theorem gX9_alter_X9_refuse : GoodIn wsX9_alter (wsV RX9 124 RX9 yX9_refuse wsX9_refuse) := goodIn_app (goodIn_of _ (by decide +kernel)) ggX9_alter_X9_refuse
set_option maxRecDepth 20000 in
theorem ggX9_alter_X9_isOff : GoodIn wsX9_alter wsX9_isOff := goodIn_r _ [19, 20, 37, 38, 39, 40, 41, 42, 43, 44, 45, 46, 47, 48, 49, 50, 51, 52, 53, 54, 55, 56, 57, 58, 59, 60, 61, 62, 63, 64, 65, 66, 67, 68, 69, 70, 71, 72, 73] (by decide +kernel) (by decide +kernel)
set_option maxRecDepth 20000 in
theorem gX9_alter_X9_isOff : GoodIn wsX9_alter (wsV RX9 166 RX9 yX9_isOff wsX9_isOff) := goodIn_app (goodIn_of _ (by decide +kernel)) ggX9_alter_X9_isOff
set_option maxRecDepth 20000 in
theorem ggX9_alter_X9_bits : GoodIn wsX9_alter wsX9_bits := goodIn_r _ [23, 24, 25, 5, 26] (by decide +kernel) (by decide +kernel)
set_option maxRecDepth 20000 in
theorem gX9_alter_X9_bits : GoodIn wsX9_alter (va_wsS RX9 158 yX9_bits wsX9_bits) := goodIn_app (goodIn_of _ (by decide +kernel)) ggX9_alter_X9_bits
set_option maxRecDepth 20000 in
theorem ggX9_alter_X9_block : GoodIn wsX9_alter wsX9_block := goodIn_r _ [30, 31, 32, 33, 34, 35, 5, 36, 37, 38, 39, 40, 41, 42, 43, 44, 45, 46, 47, 48, 49, 50, 51, 52, 53, 54, 55, 56, 57, 58, 59, 60, 61, 62, 63, 64, 65, 66, 67, 68, 69, 70, 71, 72, 73] (by decide +kernel) (by decide +kernel)
set_option maxRecDepth 20000 in
theorem gX9_alter_X9_block : GoodIn wsX9_alter (wsV RX9 102 RX9 yX9_block wsX9_block) := goodIn_app (goodIn_of _ (by decide +kernel)) ggX9_alter_X9_block
theorem dX9_alter_0 : decode cX9_alter 0 = .ok (.aload_n 0, 1) := by decide +kernel
theorem dX9_alter_1 : decode cX9_alter 1 = .ok (.iload_n 1, 1) := by decide +kernel
theorem dX9_alter_2 : decode cX9_alter 2 = .ok (.invokevirtual 162, 3) := by decide +kernel
theorem dX9_alter_5 : decode cX9_alter 5 = .ok (.ifCond .ne 10, 3) := by decide +kernel
theorem dX9_alter_8 : decode cX9_alter 8 = .ok (.aload_n 0, 1) := by decide +kernel
theorem dX9_alter_9 : decode cX9_alter 9 = .ok (.bipush (-2), 2) := by decide +kernel
theorem dX9_alter_11 : decode cX9_alter 11 = .ok (.invokevirtual 124, 3) := by decide +kernel
theorem dX9_alter_14 : decode cX9_alter 14 = .ok (.ireturn, 1) := by decide +kernel
theorem dX9_alter_15 : decode cX9_alter 15 = .ok (.aload_n 0, 1) := by decide +kernel
theorem dX9_alter_16 : decode cX9_alter 16 = .ok (.iload_n 1, 1) := by decide +kernel
theorem dX9_alter_17 : decode cX9_alter 17 = .ok (.invokevirtual 166, 3) := by decide +kernel
theorem dX9_alter_20 : decode cX9_alter 20 = .ok (.ifCond .eq 10, 3) := by decide +kernel
theorem dX9_alter_23 : decode cX9_alter 23 = .ok (.aload_n 0, 1) := by decide +kernel
theorem dX9_alter_24 : decode cX9_alter 24 = .ok (.bipush (-5), 2) := by decide +kernel
theorem dX9_alter_26 : decode cX9_alter 26 = .ok (.invokevirtual 124, 3) := by decide +kernel
theorem dX9_alter_29 : decode cX9_alter 29 = .ok (.ireturn, 1) := by decide +kernel
theorem dX9_alter_30 : decode cX9_alter 30 = .ok (.aload_n 0, 1) := by decide +kernel
theorem dX9_alter_31 : decode cX9_alter 31 = .ok (.getfield 47, 3) := by decide +kernel
theorem dX9_alter_34 : decode cX9_alter 34 = .ok (.iload_n 1, 1) := by decide +kernel
theorem dX9_alter_35 : decode cX9_alter 35 = .ok (.laload, 1) := by decide +kernel
theorem dX9_alter_36 : decode cX9_alter 36 = .ok (.invokestatic 158, 3) := by decide +kernel
theorem dX9_alter_39 : decode cX9_alter 39 = .ok (.istore 4, 2) := by decide +kernel
theorem dX9_alter_41 : decode cX9_alter 41 = .ok (.aload_n 0, 1) := by decide +kernel
theorem dX9_alter_42 : decode cX9_alter 42 = .ok (.getfield 47, 3) := by decide +kernel
theorem dX9_alter_45 : decode cX9_alter 45 = .ok (.iload_n 1, 1) := by decide +kernel
theorem dX9_alter_46 : decode cX9_alter 46 = .ok (.lload_n 2, 1) := by decide +kernel
theorem dX9_alter_47 : decode cX9_alter 47 = .ok (.aload_n 0, 1) := by decide +kernel
theorem dX9_alter_48 : decode cX9_alter 48 = .ok (.invokevirtual 102, 3) := by decide +kernel
theorem dX9_alter_51 : decode cX9_alter 51 = .ok (.land, 1) := by decide +kernel
theorem dX9_alter_52 : decode cX9_alter 52 = .ok (.lastore, 1) := by decide +kernel
theorem dX9_alter_53 : decode cX9_alter 53 = .ok (.iload 4, 2) := by decide +kernel
theorem dX9_alter_55 : decode cX9_alter 55 = .ok (.ireturn, 1) := by decide +kernel
set_option maxRecDepth 20000 in
theorem ggX9_ask_X9_isCube : GoodIn wsX9_ask wsX9_isCube := goodIn_r _ [11, 12, 13, 14, 10, 15, 16, 17, 18, 19, 25, 26, 27, 28, 29, 30, 31, 32, 33, 34, 35, 36, 37, 38, 39, 40, 41, 42, 43, 44, 45, 46, 47, 48, 49, 50, 51, 52, 53, 54, 55, 56, 57, 58, 59, 60, 61] (by decide +kernel) (by decide +kernel)
set_option maxRecDepth 20000 in
theorem gX9_ask_X9_isCube : GoodIn wsX9_ask (wsV RX9 169 RX9 yX9_isCube wsX9_isCube) := goodIn_app (goodIn_of _ (by decide +kernel)) ggX9_ask_X9_isCube
set_option maxRecDepth 20000 in
theorem ggX9_ask_X9_in : GoodIn wsX9_ask wsX9_in := goodIn_r _ [19] (by decide +kernel) (by decide +kernel)
set_option maxRecDepth 20000 in
theorem gX9_ask_X9_in : GoodIn wsX9_ask (va_wsS RX9 90 yX9_in wsX9_in) := goodIn_app (goodIn_of _ (by decide +kernel)) ggX9_ask_X9_in
set_option maxRecDepth 20000 in
theorem ggX9_ask_X9_refuse : GoodIn wsX9_ask wsX9_refuse := goodIn_r _ [23, 24, 25, 26, 27, 28, 29, 30, 31, 32, 33, 34, 35, 36, 37, 38, 39, 40, 41, 42, 43, 44, 45, 46, 47, 48, 49, 50, 51, 52, 53, 54, 55, 56, 57, 58, 59, 60, 61] (by decide +kernel) (by decide +kernel)
set_option maxRecDepth 20000 in
theorem gX9_ask_X9_refuse : GoodIn wsX9_ask (wsV RX9 124 RX9 yX9_refuse wsX9_refuse) := goodIn_app (goodIn_of _ (by decide +kernel)) ggX9_ask_X9_refuse
theorem dX9_ask_0 : decode cX9_ask 0 = .ok (.iload_n 1, 1) := by decide +kernel
theorem dX9_ask_1 : decode cX9_ask 1 = .ok (.tableswitch 138 0 2 #[27, 72, 105], 27) := by decide +kernel
theorem dX9_ask_28 : decode cX9_ask 28 = .ok (.aload_n 0, 1) := by decide +kernel
theorem dX9_ask_29 : decode cX9_ask 29 = .ok (.iload_n 2, 1) := by decide +kernel
theorem dX9_ask_30 : decode cX9_ask 30 = .ok (.invokevirtual 169, 3) := by decide +kernel
theorem dX9_ask_33 : decode cX9_ask 33 = .ok (.ifCond .eq 15, 3) := by decide +kernel
theorem dX9_ask_36 : decode cX9_ask 36 = .ok (.iload_n 3, 1) := by decide +kernel
theorem dX9_ask_37 : decode cX9_ask 37 = .ok (.i2l, 1) := by decide +kernel
theorem dX9_ask_38 : decode cX9_ask 38 = .ok (.lconst 0, 1) := by decide +kernel
theorem dX9_ask_39 : decode cX9_ask 39 = .ok (.ldc2_w 172, 3) := by decide +kernel
theorem dX9_ask_42 : decode cX9_ask 42 = .ok (.invokestatic 90, 3) := by decide +kernel
theorem dX9_ask_45 : decode cX9_ask 45 = .ok (.ifCond .ne 10, 3) := by decide +kernel
theorem dX9_ask_48 : decode cX9_ask 48 = .ok (.aload_n 0, 1) := by decide +kernel
theorem dX9_ask_49 : decode cX9_ask 49 = .ok (.bipush (-2), 2) := by decide +kernel
theorem dX9_ask_51 : decode cX9_ask 51 = .ok (.invokevirtual 124, 3) := by decide +kernel
theorem dX9_ask_54 : decode cX9_ask 54 = .ok (.ireturn, 1) := by decide +kernel
theorem dX9_ask_55 : decode cX9_ask 55 = .ok (.aload_n 0, 1) := by decide +kernel
theorem dX9_ask_56 : decode cX9_ask 56 = .ok (.getfield 50, 3) := by decide +kernel
theorem dX9_ask_59 : decode cX9_ask 59 = .ok (.iload_n 2, 1) := by decide +kernel
theorem dX9_ask_60 : decode cX9_ask 60 = .ok (.iaload, 1) := by decide +kernel
theorem dX9_ask_61 : decode cX9_ask 61 = .ok (.istore 4, 2) := by decide +kernel
theorem dX9_ask_63 : decode cX9_ask 63 = .ok (.aload_n 0, 1) := by decide +kernel
theorem dX9_ask_64 : decode cX9_ask 64 = .ok (.getfield 50, 3) := by decide +kernel
theorem dX9_ask_67 : decode cX9_ask 67 = .ok (.iload_n 2, 1) := by decide +kernel
theorem dX9_ask_68 : decode cX9_ask 68 = .ok (.iload_n 3, 1) := by decide +kernel
theorem dX9_ask_69 : decode cX9_ask 69 = .ok (.iastore, 1) := by decide +kernel
theorem dX9_ask_70 : decode cX9_ask 70 = .ok (.iload 4, 2) := by decide +kernel
theorem dX9_ask_72 : decode cX9_ask 72 = .ok (.ireturn, 1) := by decide +kernel
theorem dX9_ask_73 : decode cX9_ask 73 = .ok (.iload_n 3, 1) := by decide +kernel
theorem dX9_ask_74 : decode cX9_ask 74 = .ok (.i2l, 1) := by decide +kernel
theorem dX9_ask_75 : decode cX9_ask 75 = .ok (.lconst 1, 1) := by decide +kernel
theorem dX9_ask_76 : decode cX9_ask 76 = .ok (.ldc2_w 174, 3) := by decide +kernel
theorem dX9_ask_79 : decode cX9_ask 79 = .ok (.invokestatic 90, 3) := by decide +kernel
theorem dX9_ask_82 : decode cX9_ask 82 = .ok (.ifCond .ne 10, 3) := by decide +kernel
theorem dX9_ask_85 : decode cX9_ask 85 = .ok (.aload_n 0, 1) := by decide +kernel
theorem dX9_ask_86 : decode cX9_ask 86 = .ok (.bipush (-2), 2) := by decide +kernel
theorem dX9_ask_88 : decode cX9_ask 88 = .ok (.invokevirtual 124, 3) := by decide +kernel
theorem dX9_ask_91 : decode cX9_ask 91 = .ok (.ireturn, 1) := by decide +kernel
theorem dX9_ask_92 : decode cX9_ask 92 = .ok (.aload_n 0, 1) := by decide +kernel
theorem dX9_ask_93 : decode cX9_ask 93 = .ok (.getfield 53, 3) := by decide +kernel
theorem dX9_ask_96 : decode cX9_ask 96 = .ok (.istore 4, 2) := by decide +kernel
theorem dX9_ask_98 : decode cX9_ask 98 = .ok (.aload_n 0, 1) := by decide +kernel
theorem dX9_ask_99 : decode cX9_ask 99 = .ok (.iload_n 3, 1) := by decide +kernel
theorem dX9_ask_100 : decode cX9_ask 100 = .ok (.putfield 53, 3) := by decide +kernel
theorem dX9_ask_103 : decode cX9_ask 103 = .ok (.iload 4, 2) := by decide +kernel
theorem dX9_ask_105 : decode cX9_ask 105 = .ok (.ireturn, 1) := by decide +kernel
theorem dX9_ask_106 : decode cX9_ask 106 = .ok (.iload_n 3, 1) := by decide +kernel
theorem dX9_ask_107 : decode cX9_ask 107 = .ok (.i2l, 1) := by decide +kernel
theorem dX9_ask_108 : decode cX9_ask 108 = .ok (.lconst 1, 1) := by decide +kernel
theorem dX9_ask_109 : decode cX9_ask 109 = .ok (.ldc2_w 176, 3) := by decide +kernel
theorem dX9_ask_112 : decode cX9_ask 112 = .ok (.invokestatic 90, 3) := by decide +kernel
theorem dX9_ask_115 : decode cX9_ask 115 = .ok (.ifCond .ne 10, 3) := by decide +kernel
theorem dX9_ask_118 : decode cX9_ask 118 = .ok (.aload_n 0, 1) := by decide +kernel
theorem dX9_ask_119 : decode cX9_ask 119 = .ok (.bipush (-2), 2) := by decide +kernel
theorem dX9_ask_121 : decode cX9_ask 121 = .ok (.invokevirtual 124, 3) := by decide +kernel
theorem dX9_ask_124 : decode cX9_ask 124 = .ok (.ireturn, 1) := by decide +kernel
theorem dX9_ask_125 : decode cX9_ask 125 = .ok (.aload_n 0, 1) := by decide +kernel
theorem dX9_ask_126 : decode cX9_ask 126 = .ok (.getfield 56, 3) := by decide +kernel
theorem dX9_ask_129 : decode cX9_ask 129 = .ok (.istore 4, 2) := by decide +kernel
theorem dX9_ask_131 : decode cX9_ask 131 = .ok (.aload_n 0, 1) := by decide +kernel
theorem dX9_ask_132 : decode cX9_ask 132 = .ok (.iload_n 3, 1) := by decide +kernel
theorem dX9_ask_133 : decode cX9_ask 133 = .ok (.putfield 56, 3) := by decide +kernel
theorem dX9_ask_136 : decode cX9_ask 136 = .ok (.iload 4, 2) := by decide +kernel
theorem dX9_ask_138 : decode cX9_ask 138 = .ok (.ireturn, 1) := by decide +kernel
theorem dX9_ask_139 : decode cX9_ask 139 = .ok (.aload_n 0, 1) := by decide +kernel
theorem dX9_ask_140 : decode cX9_ask 140 = .ok (.bipush (-2), 2) := by decide +kernel
theorem dX9_ask_142 : decode cX9_ask 142 = .ok (.invokevirtual 124, 3) := by decide +kernel
theorem dX9_ask_145 : decode cX9_ask 145 = .ok (.ireturn, 1) := by decide +kernel
set_option maxRecDepth 20000 in
theorem ggX9_feed_X9_in : GoodIn wsX9_feed wsX9_in := goodIn_r _ [7] (by decide +kernel) (by decide +kernel)
set_option maxRecDepth 20000 in
theorem gX9_feed_X9_in : GoodIn wsX9_feed (va_wsS RX9 90 yX9_in wsX9_in) := goodIn_app (goodIn_of _ (by decide +kernel)) ggX9_feed_X9_in
set_option maxRecDepth 20000 in
theorem ggX9_feed_X9_refuse : GoodIn wsX9_feed wsX9_refuse := goodIn_r _ [11, 12, 13, 14, 15, 16, 17, 18, 19, 20, 21, 22, 23, 24, 25, 26, 27, 28, 29, 30, 31, 32, 33, 34, 35, 36, 37, 38, 39, 40, 41, 42, 43, 44, 45, 46, 47, 48, 49] (by decide +kernel) (by decide +kernel)
set_option maxRecDepth 20000 in
theorem gX9_feed_X9_refuse : GoodIn wsX9_feed (wsV RX9 124 RX9 yX9_refuse wsX9_refuse) := goodIn_app (goodIn_of _ (by decide +kernel)) ggX9_feed_X9_refuse
theorem dX9_feed_0 : decode cX9_feed 0 = .ok (.iload_n 2, 1) := by decide +kernel
theorem dX9_feed_1 : decode cX9_feed 1 = .ok (.i2l, 1) := by decide +kernel
theorem dX9_feed_2 : decode cX9_feed 2 = .ok (.lconst 1, 1) := by decide +kernel
theorem dX9_feed_3 : decode cX9_feed 3 = .ok (.ldc2_w 120, 3) := by decide +kernel
theorem dX9_feed_6 : decode cX9_feed 6 = .ok (.invokestatic 90, 3) := by decide +kernel
theorem dX9_feed_9 : decode cX9_feed 9 = .ok (.ifCond .ne 10, 3) := by decide +kernel
theorem dX9_feed_12 : decode cX9_feed 12 = .ok (.aload_n 0, 1) := by decide +kernel
theorem dX9_feed_13 : decode cX9_feed 13 = .ok (.bipush (-2), 2) := by decide +kernel
theorem dX9_feed_15 : decode cX9_feed 15 = .ok (.invokevirtual 124, 3) := by decide +kernel
theorem dX9_feed_18 : decode cX9_feed 18 = .ok (.ireturn, 1) := by decide +kernel
theorem dX9_feed_19 : decode cX9_feed 19 = .ok (.iload_n 2, 1) := by decide +kernel
theorem dX9_feed_20 : decode cX9_feed 20 = .ok (.sipush 250, 3) := by decide +kernel
theorem dX9_feed_23 : decode cX9_feed 23 = .ok (.aload_n 0, 1) := by decide +kernel
theorem dX9_feed_24 : decode cX9_feed 24 = .ok (.getfield 178, 3) := by decide +kernel
theorem dX9_feed_27 : decode cX9_feed 27 = .ok (.isub, 1) := by decide +kernel
theorem dX9_feed_28 : decode cX9_feed 28 = .ok (.if_icmp .le 10, 3) := by decide +kernel
theorem dX9_feed_31 : decode cX9_feed 31 = .ok (.aload_n 0, 1) := by decide +kernel
theorem dX9_feed_32 : decode cX9_feed 32 = .ok (.bipush (-6), 2) := by decide +kernel
theorem dX9_feed_34 : decode cX9_feed 34 = .ok (.invokevirtual 124, 3) := by decide +kernel
theorem dX9_feed_37 : decode cX9_feed 37 = .ok (.ireturn, 1) := by decide +kernel
theorem dX9_feed_38 : decode cX9_feed 38 = .ok (.iload_n 2, 1) := by decide +kernel
theorem dX9_feed_39 : decode cX9_feed 39 = .ok (.iconst 1, 1) := by decide +kernel
theorem dX9_feed_40 : decode cX9_feed 40 = .ok (.isub, 1) := by decide +kernel
theorem dX9_feed_41 : decode cX9_feed 41 = .ok (.istore_n 3, 1) := by decide +kernel
theorem dX9_feed_42 : decode cX9_feed 42 = .ok (.iload_n 3, 1) := by decide +kernel
theorem dX9_feed_43 : decode cX9_feed 43 = .ok (.ifCond .lt 35, 3) := by decide +kernel
theorem dX9_feed_46 : decode cX9_feed 46 = .ok (.aload_n 0, 1) := by decide +kernel
theorem dX9_feed_47 : decode cX9_feed 47 = .ok (.getfield 37, 3) := by decide +kernel
theorem dX9_feed_50 : decode cX9_feed 50 = .ok (.aload_n 0, 1) := by decide +kernel
theorem dX9_feed_51 : decode cX9_feed 51 = .ok (.dup, 1) := by decide +kernel
theorem dX9_feed_52 : decode cX9_feed 52 = .ok (.getfield 178, 3) := by decide +kernel
theorem dX9_feed_55 : decode cX9_feed 55 = .ok (.dup_x1, 1) := by decide +kernel
theorem dX9_feed_56 : decode cX9_feed 56 = .ok (.iconst 1, 1) := by decide +kernel
theorem dX9_feed_57 : decode cX9_feed 57 = .ok (.iadd, 1) := by decide +kernel
theorem dX9_feed_58 : decode cX9_feed 58 = .ok (.putfield 178, 3) := by decide +kernel
theorem dX9_feed_61 : decode cX9_feed 61 = .ok (.iload_n 1, 1) := by decide +kernel
theorem dX9_feed_62 : decode cX9_feed 62 = .ok (.bipush 8, 2) := by decide +kernel
theorem dX9_feed_64 : decode cX9_feed 64 = .ok (.iload_n 3, 1) := by decide +kernel
theorem dX9_feed_65 : decode cX9_feed 65 = .ok (.imul, 1) := by decide +kernel
theorem dX9_feed_66 : decode cX9_feed 66 = .ok (.ishr, 1) := by decide +kernel
theorem dX9_feed_67 : decode cX9_feed 67 = .ok (.sipush 255, 3) := by decide +kernel
theorem dX9_feed_70 : decode cX9_feed 70 = .ok (.iand, 1) := by decide +kernel
theorem dX9_feed_71 : decode cX9_feed 71 = .ok (.iastore, 1) := by decide +kernel
theorem dX9_feed_72 : decode cX9_feed 72 = .ok (.iinc 3 (-1), 3) := by decide +kernel
theorem dX9_feed_75 : decode cX9_feed 75 = .ok (.goto (-33), 3) := by decide +kernel
theorem dX9_feed_78 : decode cX9_feed 78 = .ok (.aload_n 0, 1) := by decide +kernel
theorem dX9_feed_79 : decode cX9_feed 79 = .ok (.getfield 178, 3) := by decide +kernel
theorem dX9_feed_82 : decode cX9_feed 82 = .ok (.ireturn, 1) := by decide +kernel
theorem dX9_wipe_0 : decode cX9_wipe 0 = .ok (.aload_n 0, 1) := by decide +kernel
theorem dX9_wipe_1 : decode cX9_wipe 1 = .ok (.getfield 178, 3) := by decide +kernel
theorem dX9_wipe_4 : decode cX9_wipe 4 = .ok (.istore_n 1, 1) := by decide +kernel
theorem dX9_wipe_5 : decode cX9_wipe 5 = .ok (.aload_n 0, 1) := by decide +kernel
theorem dX9_wipe_6 : decode cX9_wipe 6 = .ok (.iconst 0, 1) := by decide +kernel
theorem dX9_wipe_7 : decode cX9_wipe 7 = .ok (.putfield 178, 3) := by decide +kernel
theorem dX9_wipe_10 : decode cX9_wipe 10 = .ok (.iload_n 1, 1) := by decide +kernel
theorem dX9_wipe_11 : decode cX9_wipe 11 = .ok (.ireturn, 1) := by decide +kernel
theorem dX9_isLetter_0 : decode cX9_isLetter 0 = .ok (.iload_n 0, 1) := by decide +kernel
theorem dX9_isLetter_1 : decode cX9_isLetter 1 = .ok (.bipush 97, 2) := by decide +kernel
theorem dX9_isLetter_3 : decode cX9_isLetter 3 = .ok (.if_icmp .lt 13, 3) := by decide +kernel
theorem dX9_isLetter_6 : decode cX9_isLetter 6 = .ok (.iload_n 0, 1) := by decide +kernel
theorem dX9_isLetter_7 : decode cX9_isLetter 7 = .ok (.bipush 122, 2) := by decide +kernel
theorem dX9_isLetter_9 : decode cX9_isLetter 9 = .ok (.if_icmp .gt 7, 3) := by decide +kernel
theorem dX9_isLetter_12 : decode cX9_isLetter 12 = .ok (.iconst 1, 1) := by decide +kernel
theorem dX9_isLetter_13 : decode cX9_isLetter 13 = .ok (.goto 4, 3) := by decide +kernel
theorem dX9_isLetter_16 : decode cX9_isLetter 16 = .ok (.iconst 0, 1) := by decide +kernel
theorem dX9_isLetter_17 : decode cX9_isLetter 17 = .ok (.ireturn, 1) := by decide +kernel
theorem dX9_isDigit_0 : decode cX9_isDigit 0 = .ok (.iload_n 0, 1) := by decide +kernel
theorem dX9_isDigit_1 : decode cX9_isDigit 1 = .ok (.bipush 48, 2) := by decide +kernel
theorem dX9_isDigit_3 : decode cX9_isDigit 3 = .ok (.if_icmp .lt 13, 3) := by decide +kernel
theorem dX9_isDigit_6 : decode cX9_isDigit 6 = .ok (.iload_n 0, 1) := by decide +kernel
theorem dX9_isDigit_7 : decode cX9_isDigit 7 = .ok (.bipush 57, 2) := by decide +kernel
theorem dX9_isDigit_9 : decode cX9_isDigit 9 = .ok (.if_icmp .gt 7, 3) := by decide +kernel
theorem dX9_isDigit_12 : decode cX9_isDigit 12 = .ok (.iconst 1, 1) := by decide +kernel
theorem dX9_isDigit_13 : decode cX9_isDigit 13 = .ok (.goto 4, 3) := by decide +kernel
theorem dX9_isDigit_16 : decode cX9_isDigit 16 = .ok (.iconst 0, 1) := by decide +kernel
theorem dX9_isDigit_17 : decode cX9_isDigit 17 = .ok (.ireturn, 1) := by decide +kernel
set_option maxRecDepth 20000 in
theorem ggX9_look_X9_isLetter : GoodIn wsX9_look wsX9_isLetter := goodIn_r _ [13] (by decide +kernel) (by decide +kernel)
set_option maxRecDepth 20000 in
theorem gX9_look_X9_isLetter : GoodIn wsX9_look (va_wsS RX9 193 yX9_isLetter wsX9_isLetter) := goodIn_app (goodIn_of _ (by decide +kernel)) ggX9_look_X9_isLetter
set_option maxRecDepth 20000 in
theorem ggX9_look_X9_isDigit : GoodIn wsX9_look wsX9_isDigit := goodIn_r _ [16] (by decide +kernel) (by decide +kernel)
set_option maxRecDepth 20000 in
theorem gX9_look_X9_isDigit : GoodIn wsX9_look (va_wsS RX9 196 yX9_isDigit wsX9_isDigit) := goodIn_app (goodIn_of _ (by decide +kernel)) ggX9_look_X9_isDigit
theorem dX9_look_0 : decode cX9_look 0 = .ok (.aload_n 0, 1) := by decide +kernel
theorem dX9_look_1 : decode cX9_look 1 = .ok (.getfield 181, 3) := by decide +kernel
theorem dX9_look_4 : decode cX9_look 4 = .ok (.aload_n 0, 1) := by decide +kernel
theorem dX9_look_5 : decode cX9_look 5 = .ok (.getfield 178, 3) := by decide +kernel
theorem dX9_look_8 : decode cX9_look 8 = .ok (.if_icmp .ge 30, 3) := by decide +kernel
theorem dX9_look_11 : decode cX9_look 11 = .ok (.aload_n 0, 1) := by decide +kernel
theorem dX9_look_12 : decode cX9_look 12 = .ok (.getfield 37, 3) := by decide +kernel
theorem dX9_look_15 : decode cX9_look 15 = .ok (.aload_n 0, 1) := by decide +kernel
theorem dX9_look_16 : decode cX9_look 16 = .ok (.getfield 181, 3) := by decide +kernel
theorem dX9_look_19 : decode cX9_look 19 = .ok (.iaload, 1) := by decide +kernel
theorem dX9_look_20 : decode cX9_look 20 = .ok (.bipush 32, 2) := by decide +kernel
theorem dX9_look_22 : decode cX9_look 22 = .ok (.if_icmp .ne 16, 3) := by decide +kernel
theorem dX9_look_25 : decode cX9_look 25 = .ok (.aload_n 0, 1) := by decide +kernel
theorem dX9_look_26 : decode cX9_look 26 = .ok (.dup, 1) := by decide +kernel
theorem dX9_look_27 : decode cX9_look 27 = .ok (.getfield 181, 3) := by decide +kernel
theorem dX9_look_30 : decode cX9_look 30 = .ok (.iconst 1, 1) := by decide +kernel
theorem dX9_look_31 : decode cX9_look 31 = .ok (.iadd, 1) := by decide +kernel
theorem dX9_look_32 : decode cX9_look 32 = .ok (.putfield 181, 3) := by decide +kernel
theorem dX9_look_35 : decode cX9_look 35 = .ok (.goto (-35), 3) := by decide +kernel
theorem dX9_look_38 : decode cX9_look 38 = .ok (.aload_n 0, 1) := by decide +kernel
theorem dX9_look_39 : decode cX9_look 39 = .ok (.aload_n 0, 1) := by decide +kernel
theorem dX9_look_40 : decode cX9_look 40 = .ok (.getfield 181, 3) := by decide +kernel
theorem dX9_look_43 : decode cX9_look 43 = .ok (.putfield 184, 3) := by decide +kernel
theorem dX9_look_46 : decode cX9_look 46 = .ok (.aload_n 0, 1) := by decide +kernel
theorem dX9_look_47 : decode cX9_look 47 = .ok (.lconst 0, 1) := by decide +kernel
theorem dX9_look_48 : decode cX9_look 48 = .ok (.putfield 187, 3) := by decide +kernel
theorem dX9_look_51 : decode cX9_look 51 = .ok (.aload_n 0, 1) := by decide +kernel
theorem dX9_look_52 : decode cX9_look 52 = .ok (.getfield 181, 3) := by decide +kernel
theorem dX9_look_55 : decode cX9_look 55 = .ok (.aload_n 0, 1) := by decide +kernel
theorem dX9_look_56 : decode cX9_look 56 = .ok (.getfield 178, 3) := by decide +kernel
theorem dX9_look_59 : decode cX9_look 59 = .ok (.if_icmp .ne 11, 3) := by decide +kernel
theorem dX9_look_62 : decode cX9_look 62 = .ok (.aload_n 0, 1) := by decide +kernel
theorem dX9_look_63 : decode cX9_look 63 = .ok (.iconst 0, 1) := by decide +kernel
theorem dX9_look_64 : decode cX9_look 64 = .ok (.putfield 190, 3) := by decide +kernel
theorem dX9_look_67 : decode cX9_look 67 = .ok (.goto 200, 3) := by decide +kernel
theorem dX9_look_70 : decode cX9_look 70 = .ok (.aload_n 0, 1) := by decide +kernel
theorem dX9_look_71 : decode cX9_look 71 = .ok (.getfield 37, 3) := by decide +kernel
theorem dX9_look_74 : decode cX9_look 74 = .ok (.aload_n 0, 1) := by decide +kernel
theorem dX9_look_75 : decode cX9_look 75 = .ok (.getfield 181, 3) := by decide +kernel
theorem dX9_look_78 : decode cX9_look 78 = .ok (.iaload, 1) := by decide +kernel
theorem dX9_look_79 : decode cX9_look 79 = .ok (.invokestatic 193, 3) := by decide +kernel
theorem dX9_look_82 : decode cX9_look 82 = .ok (.ifCond .eq 47, 3) := by decide +kernel
theorem dX9_look_85 : decode cX9_look 85 = .ok (.aload_n 0, 1) := by decide +kernel
theorem dX9_look_86 : decode cX9_look 86 = .ok (.iconst 1, 1) := by decide +kernel
theorem dX9_look_87 : decode cX9_look 87 = .ok (.putfield 190, 3) := by decide +kernel
theorem dX9_look_90 : decode cX9_look 90 = .ok (.aload_n 0, 1) := by decide +kernel
theorem dX9_look_91 : decode cX9_look 91 = .ok (.getfield 181, 3) := by decide +kernel
theorem dX9_look_94 : decode cX9_look 94 = .ok (.aload_n 0, 1) := by decide +kernel
theorem dX9_look_95 : decode cX9_look 95 = .ok (.getfield 178, 3) := by decide +kernel
theorem dX9_look_98 : decode cX9_look 98 = .ok (.if_icmp .ge 169, 3) := by decide +kernel
theorem dX9_look_101 : decode cX9_look 101 = .ok (.aload_n 0, 1) := by decide +kernel
theorem dX9_look_102 : decode cX9_look 102 = .ok (.getfield 37, 3) := by decide +kernel
theorem dX9_look_105 : decode cX9_look 105 = .ok (.aload_n 0, 1) := by decide +kernel
theorem dX9_look_106 : decode cX9_look 106 = .ok (.getfield 181, 3) := by decide +kernel
theorem dX9_look_109 : decode cX9_look 109 = .ok (.iaload, 1) := by decide +kernel
theorem dX9_look_110 : decode cX9_look 110 = .ok (.invokestatic 193, 3) := by decide +kernel
theorem dX9_look_113 : decode cX9_look 113 = .ok (.ifCond .eq 154, 3) := by decide +kernel
theorem dX9_look_116 : decode cX9_look 116 = .ok (.aload_n 0, 1) := by decide +kernel
theorem dX9_look_117 : decode cX9_look 117 = .ok (.dup, 1) := by decide +kernel
theorem dX9_look_118 : decode cX9_look 118 = .ok (.getfield 181, 3) := by decide +kernel
theorem dX9_look_121 : decode cX9_look 121 = .ok (.iconst 1, 1) := by decide +kernel
theorem dX9_look_122 : decode cX9_look 122 = .ok (.iadd, 1) := by decide +kernel
theorem dX9_look_123 : decode cX9_look 123 = .ok (.putfield 181, 3) := by decide +kernel
theorem dX9_look_126 : decode cX9_look 126 = .ok (.goto (-36), 3) := by decide +kernel
theorem dX9_look_129 : decode cX9_look 129 = .ok (.aload_n 0, 1) := by decide +kernel
theorem dX9_look_130 : decode cX9_look 130 = .ok (.getfield 37, 3) := by decide +kernel
theorem dX9_look_133 : decode cX9_look 133 = .ok (.aload_n 0, 1) := by decide +kernel
theorem dX9_look_134 : decode cX9_look 134 = .ok (.getfield 181, 3) := by decide +kernel
theorem dX9_look_137 : decode cX9_look 137 = .ok (.iaload, 1) := by decide +kernel
theorem dX9_look_138 : decode cX9_look 138 = .ok (.invokestatic 196, 3) := by decide +kernel
theorem dX9_look_141 : decode cX9_look 141 = .ok (.ifCond .eq 93, 3) := by decide +kernel
theorem dX9_look_144 : decode cX9_look 144 = .ok (.aload_n 0, 1) := by decide +kernel
theorem dX9_look_145 : decode cX9_look 145 = .ok (.iconst 2, 1) := by decide +kernel
theorem dX9_look_146 : decode cX9_look 146 = .ok (.putfield 190, 3) := by decide +kernel
theorem dX9_look_149 : decode cX9_look 149 = .ok (.aload_n 0, 1) := by decide +kernel
theorem dX9_look_150 : decode cX9_look 150 = .ok (.getfield 181, 3) := by decide +kernel
theorem dX9_look_153 : decode cX9_look 153 = .ok (.aload_n 0, 1) := by decide +kernel
theorem dX9_look_154 : decode cX9_look 154 = .ok (.getfield 178, 3) := by decide +kernel
theorem dX9_look_157 : decode cX9_look 157 = .ok (.if_icmp .ge 110, 3) := by decide +kernel
theorem dX9_look_160 : decode cX9_look 160 = .ok (.aload_n 0, 1) := by decide +kernel
theorem dX9_look_161 : decode cX9_look 161 = .ok (.getfield 37, 3) := by decide +kernel
theorem dX9_look_164 : decode cX9_look 164 = .ok (.aload_n 0, 1) := by decide +kernel
theorem dX9_look_165 : decode cX9_look 165 = .ok (.getfield 181, 3) := by decide +kernel
theorem dX9_look_168 : decode cX9_look 168 = .ok (.iaload, 1) := by decide +kernel
theorem dX9_look_169 : decode cX9_look 169 = .ok (.invokestatic 196, 3) := by decide +kernel
theorem dX9_look_172 : decode cX9_look 172 = .ok (.ifCond .eq 95, 3) := by decide +kernel
theorem dX9_look_175 : decode cX9_look 175 = .ok (.aload_n 0, 1) := by decide +kernel
theorem dX9_look_176 : decode cX9_look 176 = .ok (.aload_n 0, 1) := by decide +kernel
theorem dX9_look_177 : decode cX9_look 177 = .ok (.getfield 181, 3) := by decide +kernel
theorem dX9_look_180 : decode cX9_look 180 = .ok (.aload_n 0, 1) := by decide +kernel
theorem dX9_look_181 : decode cX9_look 181 = .ok (.getfield 184, 3) := by decide +kernel
theorem dX9_look_184 : decode cX9_look 184 = .ok (.isub, 1) := by decide +kernel
theorem dX9_look_185 : decode cX9_look 185 = .ok (.iconst 3, 1) := by decide +kernel
theorem dX9_look_186 : decode cX9_look 186 = .ok (.if_icmp .ge 29, 3) := by decide +kernel
theorem dX9_look_189 : decode cX9_look 189 = .ok (.aload_n 0, 1) := by decide +kernel
theorem dX9_look_190 : decode cX9_look 190 = .ok (.getfield 187, 3) := by decide +kernel
theorem dX9_look_193 : decode cX9_look 193 = .ok (.ldc2_w 199, 3) := by decide +kernel
theorem dX9_look_196 : decode cX9_look 196 = .ok (.lmul, 1) := by decide +kernel
theorem dX9_look_197 : decode cX9_look 197 = .ok (.aload_n 0, 1) := by decide +kernel
theorem dX9_look_198 : decode cX9_look 198 = .ok (.getfield 37, 3) := by decide +kernel
theorem dX9_look_201 : decode cX9_look 201 = .ok (.aload_n 0, 1) := by decide +kernel
theorem dX9_look_202 : decode cX9_look 202 = .ok (.getfield 181, 3) := by decide +kernel
theorem dX9_look_205 : decode cX9_look 205 = .ok (.iaload, 1) := by decide +kernel
theorem dX9_look_206 : decode cX9_look 206 = .ok (.i2l, 1) := by decide +kernel
theorem dX9_look_207 : decode cX9_look 207 = .ok (.ladd, 1) := by decide +kernel
theorem dX9_look_208 : decode cX9_look 208 = .ok (.ldc2_w 201, 3) := by decide +kernel
theorem dX9_look_211 : decode cX9_look 211 = .ok (.lsub, 1) := by decide +kernel
theorem dX9_look_212 : decode cX9_look 212 = .ok (.goto 6, 3) := by decide +kernel
theorem dX9_look_215 : decode cX9_look 215 = .ok (.ldc2_w 203, 3) := by decide +kernel
theorem dX9_look_218 : decode cX9_look 218 = .ok (.putfield 187, 3) := by decide +kernel
theorem dX9_look_221 : decode cX9_look 221 = .ok (.aload_n 0, 1) := by decide +kernel
theorem dX9_look_222 : decode cX9_look 222 = .ok (.dup, 1) := by decide +kernel
theorem dX9_look_223 : decode cX9_look 223 = .ok (.getfield 181, 3) := by decide +kernel
theorem dX9_look_226 : decode cX9_look 226 = .ok (.iconst 1, 1) := by decide +kernel
theorem dX9_look_227 : decode cX9_look 227 = .ok (.iadd, 1) := by decide +kernel
theorem dX9_look_228 : decode cX9_look 228 = .ok (.putfield 181, 3) := by decide +kernel
theorem dX9_look_231 : decode cX9_look 231 = .ok (.goto (-82), 3) := by decide +kernel
theorem dX9_look_234 : decode cX9_look 234 = .ok (.aload_n 0, 1) := by decide +kernel
theorem dX9_look_235 : decode cX9_look 235 = .ok (.aload_n 0, 1) := by decide +kernel
theorem dX9_look_236 : decode cX9_look 236 = .ok (.getfield 37, 3) := by decide +kernel
theorem dX9_look_239 : decode cX9_look 239 = .ok (.aload_n 0, 1) := by decide +kernel
theorem dX9_look_240 : decode cX9_look 240 = .ok (.getfield 181, 3) := by decide +kernel
theorem dX9_look_243 : decode cX9_look 243 = .ok (.iaload, 1) := by decide +kernel
theorem dX9_look_244 : decode cX9_look 244 = .ok (.bipush 59, 2) := by decide +kernel
theorem dX9_look_246 : decode cX9_look 246 = .ok (.if_icmp .ne 7, 3) := by decide +kernel
theorem dX9_look_249 : decode cX9_look 249 = .ok (.iconst 3, 1) := by decide +kernel
theorem dX9_look_250 : decode cX9_look 250 = .ok (.goto 4, 3) := by decide +kernel
theorem dX9_look_253 : decode cX9_look 253 = .ok (.iconst 4, 1) := by decide +kernel
theorem dX9_look_254 : decode cX9_look 254 = .ok (.putfield 190, 3) := by decide +kernel
theorem dX9_look_257 : decode cX9_look 257 = .ok (.aload_n 0, 1) := by decide +kernel
theorem dX9_look_258 : decode cX9_look 258 = .ok (.dup, 1) := by decide +kernel
theorem dX9_look_259 : decode cX9_look 259 = .ok (.getfield 181, 3) := by decide +kernel
theorem dX9_look_262 : decode cX9_look 262 = .ok (.iconst 1, 1) := by decide +kernel
theorem dX9_look_263 : decode cX9_look 263 = .ok (.iadd, 1) := by decide +kernel
theorem dX9_look_264 : decode cX9_look 264 = .ok (.putfield 181, 3) := by decide +kernel
theorem dX9_look_267 : decode cX9_look 267 = .ok (.return_, 1) := by decide +kernel
theorem dX9_isWrong_0 : decode cX9_isWrong 0 = .ok (.aload_n 0, 1) := by decide +kernel
theorem dX9_isWrong_1 : decode cX9_isWrong 1 = .ok (.aload_n 0, 1) := by decide +kernel
theorem dX9_isWrong_2 : decode cX9_isWrong 2 = .ok (.getfield 184, 3) := by decide +kernel
theorem dX9_isWrong_5 : decode cX9_isWrong 5 = .ok (.putfield 205, 3) := by decide +kernel
theorem dX9_isWrong_8 : decode cX9_isWrong 8 = .ok (.iconst 0, 1) := by decide +kernel
theorem dX9_isWrong_9 : decode cX9_isWrong 9 = .ok (.ireturn, 1) := by decide +kernel
set_option maxRecDepth 20000 in
theorem ggX9_isWord_J0_length_8abf5 : GoodIn wsX9_isWord wsJ0_length_8abf5 := goodIn_r _ [9, 10, 11, 12, 13, 8, 14, 15, 16] (by decide +kernel) (by decide +kernel)
set_option maxRecDepth 20000 in
theorem gX9_isWord_J0_length_8abf5 : GoodIn wsX9_isWord (wsV RX9 208 RJ0 yJ0_length_8abf5 wsJ0_length_8abf5) := goodIn_app (goodIn_of _ (by decide +kernel)) ggX9_isWord_J0_length_8abf5
set_option maxRecDepth 20000 in
theorem ggX9_isWord_J0_charAt_5068e : GoodIn wsX9_isWord wsJ0_charAt_5068e := goodIn_r _ [20, 10, 21, 22, 23, 8, 24, 15, 16, 25, 26, 27, 28, 29, 30, 31, 32, 33, 34, 35, 36, 37, 38, 39, 40, 41, 42, 43, 44, 45, 46, 47, 48, 49, 50, 51, 52, 53] (by decide +kernel) (by decide +kernel)
set_option maxRecDepth 20000 in
theorem gX9_isWord_J0_charAt_5068e : GoodIn wsX9_isWord (wsV RX9 213 RJ0 yJ0_charAt_5068e wsJ0_charAt_5068e) := goodIn_app (goodIn_of _ (by decide +kernel)) ggX9_isWord_J0_charAt_5068e
theorem dX9_isWord_0 : decode cX9_isWord 0 = .ok (.aload_n 0, 1) := by decide +kernel
theorem dX9_isWord_1 : decode cX9_isWord 1 = .ok (.getfield 190, 3) := by decide +kernel
theorem dX9_isWord_4 : decode cX9_isWord 4 = .ok (.iconst 1, 1) := by decide +kernel
theorem dX9_isWord_5 : decode cX9_isWord 5 = .ok (.if_icmp .ne 19, 3) := by decide +kernel
theorem dX9_isWord_8 : decode cX9_isWord 8 = .ok (.aload_n 0, 1) := by decide +kernel
theorem dX9_isWord_9 : decode cX9_isWord 9 = .ok (.getfield 181, 3) := by decide +kernel
theorem dX9_isWord_12 : decode cX9_isWord 12 = .ok (.aload_n 0, 1) := by decide +kernel
theorem dX9_isWord_13 : decode cX9_isWord 13 = .ok (.getfield 184, 3) := by decide +kernel
theorem dX9_isWord_16 : decode cX9_isWord 16 = .ok (.isub, 1) := by decide +kernel
theorem dX9_isWord_17 : decode cX9_isWord 17 = .ok (.aload_n 1, 1) := by decide +kernel
theorem dX9_isWord_18 : decode cX9_isWord 18 = .ok (.invokevirtual 208, 3) := by decide +kernel
theorem dX9_isWord_21 : decode cX9_isWord 21 = .ok (.if_icmp .eq 5, 3) := by decide +kernel
theorem dX9_isWord_24 : decode cX9_isWord 24 = .ok (.iconst 0, 1) := by decide +kernel
theorem dX9_isWord_25 : decode cX9_isWord 25 = .ok (.ireturn, 1) := by decide +kernel
theorem dX9_isWord_26 : decode cX9_isWord 26 = .ok (.iconst 0, 1) := by decide +kernel
theorem dX9_isWord_27 : decode cX9_isWord 27 = .ok (.istore_n 2, 1) := by decide +kernel
theorem dX9_isWord_28 : decode cX9_isWord 28 = .ok (.iload_n 2, 1) := by decide +kernel
theorem dX9_isWord_29 : decode cX9_isWord 29 = .ok (.aload_n 1, 1) := by decide +kernel
theorem dX9_isWord_30 : decode cX9_isWord 30 = .ok (.invokevirtual 208, 3) := by decide +kernel
theorem dX9_isWord_33 : decode cX9_isWord 33 = .ok (.if_icmp .ge 30, 3) := by decide +kernel
theorem dX9_isWord_36 : decode cX9_isWord 36 = .ok (.aload_n 0, 1) := by decide +kernel
theorem dX9_isWord_37 : decode cX9_isWord 37 = .ok (.getfield 37, 3) := by decide +kernel
theorem dX9_isWord_40 : decode cX9_isWord 40 = .ok (.aload_n 0, 1) := by decide +kernel
theorem dX9_isWord_41 : decode cX9_isWord 41 = .ok (.getfield 184, 3) := by decide +kernel
theorem dX9_isWord_44 : decode cX9_isWord 44 = .ok (.iload_n 2, 1) := by decide +kernel
theorem dX9_isWord_45 : decode cX9_isWord 45 = .ok (.iadd, 1) := by decide +kernel
theorem dX9_isWord_46 : decode cX9_isWord 46 = .ok (.iaload, 1) := by decide +kernel
theorem dX9_isWord_47 : decode cX9_isWord 47 = .ok (.aload_n 1, 1) := by decide +kernel
theorem dX9_isWord_48 : decode cX9_isWord 48 = .ok (.iload_n 2, 1) := by decide +kernel
theorem dX9_isWord_49 : decode cX9_isWord 49 = .ok (.invokevirtual 213, 3) := by decide +kernel
theorem dX9_isWord_52 : decode cX9_isWord 52 = .ok (.if_icmp .eq 5, 3) := by decide +kernel
theorem dX9_isWord_55 : decode cX9_isWord 55 = .ok (.iconst 0, 1) := by decide +kernel
theorem dX9_isWord_56 : decode cX9_isWord 56 = .ok (.ireturn, 1) := by decide +kernel
theorem dX9_isWord_57 : decode cX9_isWord 57 = .ok (.iinc 2 1, 3) := by decide +kernel
theorem dX9_isWord_60 : decode cX9_isWord 60 = .ok (.goto (-32), 3) := by decide +kernel
theorem dX9_isWord_63 : decode cX9_isWord 63 = .ok (.iconst 1, 1) := by decide +kernel
theorem dX9_isWord_64 : decode cX9_isWord 64 = .ok (.ireturn, 1) := by decide +kernel
set_option maxRecDepth 20000 in
theorem ggX9_number_X9_in : GoodIn wsX9_number wsX9_in := goodIn_r _ [7] (by decide +kernel) (by decide +kernel)
set_option maxRecDepth 20000 in
theorem gX9_number_X9_in : GoodIn wsX9_number (va_wsS RX9 90 yX9_in wsX9_in) := goodIn_app (goodIn_of _ (by decide +kernel)) ggX9_number_X9_in
set_option maxRecDepth 20000 in
theorem ggX9_number_X9_isWrong : GoodIn wsX9_number wsX9_isWrong := goodIn_r _ [11, 12, 13, 30, 31, 32, 33, 34, 35, 36, 37, 38, 39, 40, 41, 42, 43, 44, 45, 46, 47, 48, 49, 50, 51, 52, 53, 54, 55, 56, 57, 58, 59, 60, 61, 62, 63, 64, 65, 66] (by decide +kernel) (by decide +kernel)
set_option maxRecDepth 20000 in
theorem gX9_number_X9_isWrong : GoodIn wsX9_number (wsV RX9 217 RX9 yX9_isWrong wsX9_isWrong) := goodIn_app (goodIn_of _ (by decide +kernel)) ggX9_number_X9_isWrong
set_option maxRecDepth 20000 in
theorem ggX9_number_X9_look : GoodIn wsX9_number wsX9_look := goodIn_r _ [17, 18, 19, 20, 12, 2, 1, 21, 22, 23, 24, 25, 6, 26, 27, 28, 29, 30, 31, 32, 33, 34, 35, 36, 37, 38, 39, 40, 41, 42, 43, 44, 45, 46, 47, 48, 49, 50, 51, 52, 53, 54, 55, 56, 57, 58, 59, 60, 61, 62, 63, 64, 65, 66] (by decide +kernel) (by decide +kernel)
set_option maxRecDepth 20000 in
theorem gX9_number_X9_look : GoodIn wsX9_number (wsV RX9 221 RX9 yX9_look wsX9_look) := goodIn_app (goodIn_of _ (by decide +kernel)) ggX9_number_X9_look
theorem dX9_number_0 : decode cX9_number 0 = .ok (.aload_n 0, 1) := by decide +kernel
theorem dX9_number_1 : decode cX9_number 1 = .ok (.getfield 190, 3) := by decide +kernel
theorem dX9_number_4 : decode cX9_number 4 = .ok (.iconst 2, 1) := by decide +kernel
theorem dX9_number_5 : decode cX9_number 5 = .ok (.if_icmp .ne 17, 3) := by decide +kernel
theorem dX9_number_8 : decode cX9_number 8 = .ok (.aload_n 0, 1) := by decide +kernel
theorem dX9_number_9 : decode cX9_number 9 = .ok (.getfield 187, 3) := by decide +kernel
theorem dX9_number_12 : decode cX9_number 12 = .ok (.iload_n 2, 1) := by decide +kernel
theorem dX9_number_13 : decode cX9_number 13 = .ok (.i2l, 1) := by decide +kernel
theorem dX9_number_14 : decode cX9_number 14 = .ok (.iload_n 3, 1) := by decide +kernel
theorem dX9_number_15 : decode cX9_number 15 = .ok (.i2l, 1) := by decide +kernel
theorem dX9_number_16 : decode cX9_number 16 = .ok (.invokestatic 90, 3) := by decide +kernel
theorem dX9_number_19 : decode cX9_number 19 = .ok (.ifCond .ne 8, 3) := by decide +kernel
theorem dX9_number_22 : decode cX9_number 22 = .ok (.aload_n 0, 1) := by decide +kernel
theorem dX9_number_23 : decode cX9_number 23 = .ok (.invokevirtual 217, 3) := by decide +kernel
theorem dX9_number_26 : decode cX9_number 26 = .ok (.ireturn, 1) := by decide +kernel
theorem dX9_number_27 : decode cX9_number 27 = .ok (.aload_n 0, 1) := by decide +kernel
theorem dX9_number_28 : decode cX9_number 28 = .ok (.getfield 59, 3) := by decide +kernel
theorem dX9_number_31 : decode cX9_number 31 = .ok (.iload_n 1, 1) := by decide +kernel
theorem dX9_number_32 : decode cX9_number 32 = .ok (.aload_n 0, 1) := by decide +kernel
theorem dX9_number_33 : decode cX9_number 33 = .ok (.getfield 187, 3) := by decide +kernel
theorem dX9_number_36 : decode cX9_number 36 = .ok (.l2i, 1) := by decide +kernel
theorem dX9_number_37 : decode cX9_number 37 = .ok (.iastore, 1) := by decide +kernel
theorem dX9_number_38 : decode cX9_number 38 = .ok (.aload_n 0, 1) := by decide +kernel
theorem dX9_number_39 : decode cX9_number 39 = .ok (.invokevirtual 221, 3) := by decide +kernel
theorem dX9_number_42 : decode cX9_number 42 = .ok (.iconst 1, 1) := by decide +kernel
theorem dX9_number_43 : decode cX9_number 43 = .ok (.ireturn, 1) := by decide +kernel
set_option maxRecDepth 20000 in
theorem ggX9_tells_X9_isWord : GoodIn wsX9_tells wsX9_isWord := goodIn_r _ [5, 6, 7, 8, 9, 10, 11, 12, 13, 14, 15, 16, 17, 18, 19, 20, 21, 22, 23, 24, 25, 26, 27, 28, 29, 30, 31, 32, 33, 34, 35, 36, 37, 38, 39, 40, 41, 42, 43, 44, 45, 46, 47, 48, 49, 50, 51, 52, 53, 54, 55, 56, 57, 58, 87, 88, 89, 90, 91, 92, 93, 94, 95, 96, 97, 98, 99, 100, 101, 102, 103, 104, 105, 106, 107, 108, 109, 110, 111, 112, 113, 114, 115, 116, 117, 118, 119, 120, 121, 122, 123] (by decide +kernel) (by decide +kernel)
set_option maxRecDepth 20000 in
theorem gX9_tells_X9_isWord : GoodIn wsX9_tells (wsV RX9 224 RX9 yX9_isWord wsX9_isWord) := goodIn_app (goodIn_of _ (by decide +kernel)) ggX9_tells_X9_isWord
set_option maxRecDepth 20000 in
theorem ggX9_tells_X9_isWrong : GoodIn wsX9_tells wsX9_isWrong := goodIn_r _ [62, 8, 63, 87, 88, 89, 90, 91, 92, 93, 94, 95, 96, 97, 98, 99, 100, 101, 102, 103, 104, 105, 106, 107, 108, 109, 110, 111, 112, 113, 114, 115, 116, 117, 118, 119, 120, 121, 122, 123] (by decide +kernel) (by decide +kernel)
set_option maxRecDepth 20000 in
theorem gX9_tells_X9_isWrong : GoodIn wsX9_tells (wsV RX9 217 RX9 yX9_isWrong wsX9_isWrong) := goodIn_app (goodIn_of _ (by decide +kernel)) ggX9_tells_X9_isWrong
set_option maxRecDepth 20000 in
theorem ggX9_tells_X9_look : GoodIn wsX9_tells wsX9_look := goodIn_r _ [67, 7, 68, 9, 8, 69, 6, 70, 71, 72, 73, 74, 4, 75, 76, 77, 78, 87, 88, 89, 90, 91, 92, 93, 94, 95, 96, 97, 98, 99, 100, 101, 102, 103, 104, 105, 106, 107, 108, 109, 110, 111, 112, 113, 114, 115, 116, 117, 118, 119, 120, 121, 122, 123] (by decide +kernel) (by decide +kernel)
set_option maxRecDepth 20000 in
theorem gX9_tells_X9_look : GoodIn wsX9_tells (wsV RX9 221 RX9 yX9_look wsX9_look) := goodIn_app (goodIn_of _ (by decide +kernel)) ggX9_tells_X9_look
set_option maxRecDepth 20000 in
theorem ggX9_tells_X9_number : GoodIn wsX9_tells wsX9_number := goodIn_r _ [82, 6, 69, 83, 84, 85, 4, 86, 59, 60, 61, 62, 8, 63, 64, 65, 66, 67, 7, 68, 9, 70, 71, 72, 73, 74, 75, 76, 77, 78, 87, 88, 89, 90, 91, 92, 93, 94, 95, 96, 97, 98, 99, 100, 101, 102, 103, 104, 105, 106, 107, 108, 109, 110, 111, 112, 113, 114, 115, 116, 117, 118, 119, 120, 121, 122, 123] (by decide +kernel) (by decide +kernel)
set_option maxRecDepth 20000 in
theorem gX9_tells_X9_number : GoodIn wsX9_tells (wsV RX9 228 RX9 yX9_number wsX9_number) := goodIn_app (goodIn_of _ (by decide +kernel)) ggX9_tells_X9_number
theorem dX9_tells_0 : decode cX9_tells 0 = .ok (.aload_n 0, 1) := by decide +kernel
theorem dX9_tells_1 : decode cX9_tells 1 = .ok (.aload_n 1, 1) := by decide +kernel
theorem dX9_tells_2 : decode cX9_tells 2 = .ok (.invokevirtual 224, 3) := by decide +kernel
theorem dX9_tells_5 : decode cX9_tells 5 = .ok (.ifCond .ne 8, 3) := by decide +kernel
theorem dX9_tells_8 : decode cX9_tells 8 = .ok (.aload_n 0, 1) := by decide +kernel
theorem dX9_tells_9 : decode cX9_tells 9 = .ok (.invokevirtual 217, 3) := by decide +kernel
theorem dX9_tells_12 : decode cX9_tells 12 = .ok (.ireturn, 1) := by decide +kernel
theorem dX9_tells_13 : decode cX9_tells 13 = .ok (.aload_n 0, 1) := by decide +kernel
theorem dX9_tells_14 : decode cX9_tells 14 = .ok (.invokevirtual 221, 3) := by decide +kernel
theorem dX9_tells_17 : decode cX9_tells 17 = .ok (.aload_n 0, 1) := by decide +kernel
theorem dX9_tells_18 : decode cX9_tells 18 = .ok (.iload_n 2, 1) := by decide +kernel
theorem dX9_tells_19 : decode cX9_tells 19 = .ok (.iload_n 3, 1) := by decide +kernel
theorem dX9_tells_20 : decode cX9_tells 20 = .ok (.iload 4, 2) := by decide +kernel
theorem dX9_tells_22 : decode cX9_tells 22 = .ok (.invokevirtual 228, 3) := by decide +kernel
theorem dX9_tells_25 : decode cX9_tells 25 = .ok (.ireturn, 1) := by decide +kernel
set_option maxRecDepth 20000 in
theorem ggX9_between_X9_many : GoodIn wsX9_between wsX9_many := goodIn_r _ [6, 7, 15, 16, 17, 18, 19, 20, 21, 22, 23, 24, 25, 26, 27, 28, 29, 30, 31, 32, 33, 34, 35, 36, 37, 38, 39, 40, 41, 42, 43, 44, 45, 46, 47, 48, 49, 50, 51] (by decide +kernel) (by decide +kernel)
set_option maxRecDepth 20000 in
theorem gX9_between_X9_many : GoodIn wsX9_between (wsV RX9 86 RX9 yX9_many wsX9_many) := goodIn_app (goodIn_of _ (by decide +kernel)) ggX9_between_X9_many
set_option maxRecDepth 20000 in
theorem ggX9_between_X9_sideOf : GoodIn wsX9_between wsX9_sideOf := goodIn_r _ [11, 7, 15, 16, 17, 18, 19, 20, 21, 22, 23, 24, 25, 26, 27, 28, 29, 30, 31, 32, 33, 34, 35, 36, 37, 38, 39, 40, 41, 42, 43, 44, 45, 46, 47, 48, 49, 50, 51] (by decide +kernel) (by decide +kernel)
set_option maxRecDepth 20000 in
theorem gX9_between_X9_sideOf : GoodIn wsX9_between (wsV RX9 114 RX9 yX9_sideOf wsX9_sideOf) := goodIn_app (goodIn_of _ (by decide +kernel)) ggX9_between_X9_sideOf
set_option maxRecDepth 20000 in
theorem ggX9_between_X9_in : GoodIn wsX9_between wsX9_in := goodIn_r _ [14] (by decide +kernel) (by decide +kernel)
set_option maxRecDepth 20000 in
theorem gX9_between_X9_in : GoodIn wsX9_between (va_wsS RX9 90 yX9_in wsX9_in) := goodIn_app (goodIn_of _ (by decide +kernel)) ggX9_between_X9_in
theorem dX9_between_0 : decode cX9_between 0 = .ok (.lconst 0, 1) := by decide +kernel
theorem dX9_between_1 : decode cX9_between 1 = .ok (.lstore_n 1, 1) := by decide +kernel
theorem dX9_between_2 : decode cX9_between 2 = .ok (.iconst 0, 1) := by decide +kernel
theorem dX9_between_3 : decode cX9_between 3 = .ok (.istore_n 3, 1) := by decide +kernel
theorem dX9_between_4 : decode cX9_between 4 = .ok (.iload_n 3, 1) := by decide +kernel
theorem dX9_between_5 : decode cX9_between 5 = .ok (.aload_n 0, 1) := by decide +kernel
theorem dX9_between_6 : decode cX9_between 6 = .ok (.invokevirtual 86, 3) := by decide +kernel
theorem dX9_between_9 : decode cX9_between 9 = .ok (.if_icmp .ge 118, 3) := by decide +kernel
theorem dX9_between_12 : decode cX9_between 12 = .ok (.iconst 1, 1) := by decide +kernel
theorem dX9_between_13 : decode cX9_between 13 = .ok (.istore 4, 2) := by decide +kernel
theorem dX9_between_15 : decode cX9_between 15 = .ok (.iconst 0, 1) := by decide +kernel
theorem dX9_between_16 : decode cX9_between 16 = .ok (.istore 5, 2) := by decide +kernel
theorem dX9_between_18 : decode cX9_between 18 = .ok (.iload 5, 2) := by decide +kernel
theorem dX9_between_20 : decode cX9_between 20 = .ok (.iconst 3, 1) := by decide +kernel
theorem dX9_between_21 : decode cX9_between 21 = .ok (.if_icmp .ge 85, 3) := by decide +kernel
theorem dX9_between_24 : decode cX9_between 24 = .ok (.aload_n 0, 1) := by decide +kernel
theorem dX9_between_25 : decode cX9_between 25 = .ok (.aload_n 0, 1) := by decide +kernel
theorem dX9_between_26 : decode cX9_between 26 = .ok (.getfield 59, 3) := by decide +kernel
theorem dX9_between_29 : decode cX9_between 29 = .ok (.iconst 0, 1) := by decide +kernel
theorem dX9_between_30 : decode cX9_between 30 = .ok (.iaload, 1) := by decide +kernel
theorem dX9_between_31 : decode cX9_between 31 = .ok (.iload 5, 2) := by decide +kernel
theorem dX9_between_33 : decode cX9_between 33 = .ok (.invokevirtual 114, 3) := by decide +kernel
theorem dX9_between_36 : decode cX9_between 36 = .ok (.istore 6, 2) := by decide +kernel
theorem dX9_between_38 : decode cX9_between 38 = .ok (.aload_n 0, 1) := by decide +kernel
theorem dX9_between_39 : decode cX9_between 39 = .ok (.aload_n 0, 1) := by decide +kernel
theorem dX9_between_40 : decode cX9_between 40 = .ok (.getfield 59, 3) := by decide +kernel
theorem dX9_between_43 : decode cX9_between 43 = .ok (.iconst 1, 1) := by decide +kernel
theorem dX9_between_44 : decode cX9_between 44 = .ok (.iaload, 1) := by decide +kernel
theorem dX9_between_45 : decode cX9_between 45 = .ok (.iload 5, 2) := by decide +kernel
theorem dX9_between_47 : decode cX9_between 47 = .ok (.invokevirtual 114, 3) := by decide +kernel
theorem dX9_between_50 : decode cX9_between 50 = .ok (.istore 7, 2) := by decide +kernel
theorem dX9_between_52 : decode cX9_between 52 = .ok (.iload 4, 2) := by decide +kernel
theorem dX9_between_54 : decode cX9_between 54 = .ok (.aload_n 0, 1) := by decide +kernel
theorem dX9_between_55 : decode cX9_between 55 = .ok (.iload_n 3, 1) := by decide +kernel
theorem dX9_between_56 : decode cX9_between 56 = .ok (.iload 5, 2) := by decide +kernel
theorem dX9_between_58 : decode cX9_between 58 = .ok (.invokevirtual 114, 3) := by decide +kernel
theorem dX9_between_61 : decode cX9_between 61 = .ok (.i2l, 1) := by decide +kernel
theorem dX9_between_62 : decode cX9_between 62 = .ok (.iload 6, 2) := by decide +kernel
theorem dX9_between_64 : decode cX9_between 64 = .ok (.iload 7, 2) := by decide +kernel
theorem dX9_between_66 : decode cX9_between 66 = .ok (.if_icmp .ge 9, 3) := by decide +kernel
theorem dX9_between_69 : decode cX9_between 69 = .ok (.iload 6, 2) := by decide +kernel
theorem dX9_between_71 : decode cX9_between 71 = .ok (.i2l, 1) := by decide +kernel
theorem dX9_between_72 : decode cX9_between 72 = .ok (.goto 6, 3) := by decide +kernel
theorem dX9_between_75 : decode cX9_between 75 = .ok (.iload 7, 2) := by decide +kernel
theorem dX9_between_77 : decode cX9_between 77 = .ok (.i2l, 1) := by decide +kernel
theorem dX9_between_78 : decode cX9_between 78 = .ok (.iload 6, 2) := by decide +kernel
theorem dX9_between_80 : decode cX9_between 80 = .ok (.iload 7, 2) := by decide +kernel
theorem dX9_between_82 : decode cX9_between 82 = .ok (.if_icmp .ge 9, 3) := by decide +kernel
theorem dX9_between_85 : decode cX9_between 85 = .ok (.iload 7, 2) := by decide +kernel
theorem dX9_between_87 : decode cX9_between 87 = .ok (.i2l, 1) := by decide +kernel
theorem dX9_between_88 : decode cX9_between 88 = .ok (.goto 6, 3) := by decide +kernel
theorem dX9_between_91 : decode cX9_between 91 = .ok (.iload 6, 2) := by decide +kernel
theorem dX9_between_93 : decode cX9_between 93 = .ok (.i2l, 1) := by decide +kernel
theorem dX9_between_94 : decode cX9_between 94 = .ok (.invokestatic 90, 3) := by decide +kernel
theorem dX9_between_97 : decode cX9_between 97 = .ok (.iand, 1) := by decide +kernel
theorem dX9_between_98 : decode cX9_between 98 = .ok (.istore 4, 2) := by decide +kernel
theorem dX9_between_100 : decode cX9_between 100 = .ok (.iinc 5 1, 3) := by decide +kernel
theorem dX9_between_103 : decode cX9_between 103 = .ok (.goto (-85), 3) := by decide +kernel
theorem dX9_between_106 : decode cX9_between 106 = .ok (.lload_n 1, 1) := by decide +kernel
theorem dX9_between_107 : decode cX9_between 107 = .ok (.iload 4, 2) := by decide +kernel
theorem dX9_between_109 : decode cX9_between 109 = .ok (.ifCond .eq 9, 3) := by decide +kernel
theorem dX9_between_112 : decode cX9_between 112 = .ok (.lconst 1, 1) := by decide +kernel
theorem dX9_between_113 : decode cX9_between 113 = .ok (.iload_n 3, 1) := by decide +kernel
theorem dX9_between_114 : decode cX9_between 114 = .ok (.lshl, 1) := by decide +kernel
theorem dX9_between_115 : decode cX9_between 115 = .ok (.goto 4, 3) := by decide +kernel
theorem dX9_between_118 : decode cX9_between 118 = .ok (.lconst 0, 1) := by decide +kernel
theorem dX9_between_119 : decode cX9_between 119 = .ok (.lor, 1) := by decide +kernel
theorem dX9_between_120 : decode cX9_between 120 = .ok (.lstore_n 1, 1) := by decide +kernel
theorem dX9_between_121 : decode cX9_between 121 = .ok (.iinc 3 1, 3) := by decide +kernel
theorem dX9_between_124 : decode cX9_between 124 = .ok (.goto (-120), 3) := by decide +kernel
theorem dX9_between_127 : decode cX9_between 127 = .ok (.lload_n 1, 1) := by decide +kernel
theorem dX9_between_128 : decode cX9_between 128 = .ok (.lreturn, 1) := by decide +kernel
set_option maxRecDepth 20000 in
theorem ggX9_span_X9_many : GoodIn wsX9_span wsX9_many := goodIn_r _ [5, 6, 96, 97, 98, 99, 100, 101, 102, 103, 104, 105, 106, 107, 108, 109, 110, 111, 112, 113, 114, 115, 116, 117, 118, 119, 120, 121, 122, 123, 124, 125, 126, 127, 128, 129, 130, 131, 132] (by decide +kernel) (by decide +kernel)
set_option maxRecDepth 20000 in
theorem gX9_span_X9_many : GoodIn wsX9_span (wsV RX9 86 RX9 yX9_many wsX9_many) := goodIn_app (goodIn_of _ (by decide +kernel)) ggX9_span_X9_many
set_option maxRecDepth 20000 in
theorem ggX9_span_X9_tells : GoodIn wsX9_span wsX9_tells := goodIn_r _ [10, 11, 12, 13, 4, 14, 15, 16, 17, 18, 19, 20, 21, 22, 23, 24, 25, 26, 27, 28, 29, 30, 31, 32, 33, 34, 35, 36, 37, 38, 39, 40, 41, 42, 43, 44, 45, 46, 47, 48, 49, 50, 51, 52, 53, 54, 55, 56, 57, 58, 59, 60, 61, 62, 63, 64, 65, 66, 67, 68, 69, 70, 71, 72, 73, 74, 75, 76, 77, 78, 79, 80, 81, 82, 83, 84, 85, 86, 87, 88, 89, 90, 91, 92, 93, 94, 95, 96, 97, 98, 99, 100, 101, 102, 103, 104, 105, 106, 107, 108, 109, 110, 111, 112, 113, 114, 115, 116, 117, 118, 119, 120, 121, 122, 123, 124, 125, 126, 127, 128, 129, 130, 131, 132] (by decide +kernel) (by decide +kernel)
set_option maxRecDepth 20000 in
theorem gX9_span_X9_tells : GoodIn wsX9_span (wsV RX9 232 RX9 yX9_tells wsX9_tells) := goodIn_app (goodIn_of _ (by decide +kernel)) ggX9_span_X9_tells
theorem dX9_span_0 : decode cX9_span 0 = .ok (.aload_n 0, 1) := by decide +kernel
theorem dX9_span_1 : decode cX9_span 1 = .ok (.aload_n 1, 1) := by decide +kernel
theorem dX9_span_2 : decode cX9_span 2 = .ok (.iconst 0, 1) := by decide +kernel
theorem dX9_span_3 : decode cX9_span 3 = .ok (.iconst 0, 1) := by decide +kernel
theorem dX9_span_4 : decode cX9_span 4 = .ok (.aload_n 0, 1) := by decide +kernel
theorem dX9_span_5 : decode cX9_span 5 = .ok (.invokevirtual 86, 3) := by decide +kernel
theorem dX9_span_8 : decode cX9_span 8 = .ok (.iconst 1, 1) := by decide +kernel
theorem dX9_span_9 : decode cX9_span 9 = .ok (.isub, 1) := by decide +kernel
theorem dX9_span_10 : decode cX9_span 10 = .ok (.invokevirtual 232, 3) := by decide +kernel
theorem dX9_span_13 : decode cX9_span 13 = .ok (.ifCond .eq 24, 3) := by decide +kernel
theorem dX9_span_16 : decode cX9_span 16 = .ok (.aload_n 0, 1) := by decide +kernel
theorem dX9_span_17 : decode cX9_span 17 = .ok (.ldc 236, 2) := by decide +kernel
theorem dX9_span_19 : decode cX9_span 19 = .ok (.iconst 1, 1) := by decide +kernel
theorem dX9_span_20 : decode cX9_span 20 = .ok (.iconst 0, 1) := by decide +kernel
theorem dX9_span_21 : decode cX9_span 21 = .ok (.aload_n 0, 1) := by decide +kernel
theorem dX9_span_22 : decode cX9_span 22 = .ok (.invokevirtual 86, 3) := by decide +kernel
theorem dX9_span_25 : decode cX9_span 25 = .ok (.iconst 1, 1) := by decide +kernel
theorem dX9_span_26 : decode cX9_span 26 = .ok (.isub, 1) := by decide +kernel
theorem dX9_span_27 : decode cX9_span 27 = .ok (.invokevirtual 232, 3) := by decide +kernel
theorem dX9_span_30 : decode cX9_span 30 = .ok (.ifCond .eq 7, 3) := by decide +kernel
theorem dX9_span_33 : decode cX9_span 33 = .ok (.iconst 1, 1) := by decide +kernel
theorem dX9_span_34 : decode cX9_span 34 = .ok (.goto 4, 3) := by decide +kernel
theorem dX9_span_37 : decode cX9_span 37 = .ok (.iconst 0, 1) := by decide +kernel
theorem dX9_span_38 : decode cX9_span 38 = .ok (.ireturn, 1) := by decide +kernel
set_option maxRecDepth 20000 in
theorem ggX9_statement_X9_isWord : GoodIn wsX9_statement wsX9_isWord := goodIn_r _ [14, 15, 16, 17, 18, 19, 20, 21, 22, 23, 24, 25, 26, 27, 28, 29, 30, 31, 32, 33, 34, 35, 36, 37, 38, 39, 40, 41, 42, 43, 44, 45, 46, 47, 48, 49, 50, 51, 52, 53, 54, 55, 56, 57, 58, 59, 60, 61, 62, 63, 64, 65, 66, 67, 124, 125, 126, 127, 128, 129, 130, 131, 132, 133, 134, 135, 136, 137, 138, 139, 140, 141, 142, 143, 144, 145, 146, 147, 148, 149, 150, 151, 152, 153, 154, 155, 156, 157, 158, 159, 160] (by decide +kernel) (by decide +kernel)
set_option maxRecDepth 20000 in
theorem gX9_statement_X9_isWord : GoodIn wsX9_statement (wsV RX9 224 RX9 yX9_isWord wsX9_isWord) := goodIn_app (goodIn_of _ (by decide +kernel)) ggX9_statement_X9_isWord
set_option maxRecDepth 20000 in
theorem ggX9_statement_X9_tells : GoodIn wsX9_statement wsX9_tells := goodIn_r _ [71, 10, 11, 12, 13, 14, 15, 16, 17, 18, 19, 20, 21, 22, 23, 24, 25, 26, 27, 28, 29, 30, 31, 32, 33, 34, 35, 36, 37, 38, 39, 40, 41, 42, 43, 44, 45, 46, 47, 48, 49, 50, 51, 52, 53, 54, 55, 56, 57, 58, 59, 60, 61, 62, 63, 64, 65, 66, 67, 72, 73, 74, 75, 76, 77, 78, 79, 80, 81, 82, 83, 84, 85, 86, 87, 88, 89, 90, 91, 92, 93, 94, 95, 1, 96, 97, 98, 124, 125, 126, 127, 128, 129, 130, 131, 132, 133, 134, 135, 136, 137, 138, 139, 140, 141, 142, 143, 144, 145, 146, 147, 148, 149, 150, 151, 152, 153, 154, 155, 156, 157, 158, 159, 160] (by decide +kernel) (by decide +kernel)
set_option maxRecDepth 20000 in
theorem gX9_statement_X9_tells : GoodIn wsX9_statement (wsV RX9 232 RX9 yX9_tells wsX9_tells) := goodIn_app (goodIn_of _ (by decide +kernel)) ggX9_statement_X9_tells
set_option maxRecDepth 20000 in
theorem ggX9_statement_X9_newSize : GoodIn wsX9_statement wsX9_newSize := goodIn_r _ [102, 103, 2, 4, 5, 104, 105, 106, 13, 107, 7, 124, 125, 126, 127, 128, 129, 130, 131, 132, 133, 134, 135, 136, 137, 138, 139, 140, 141, 142, 143, 144, 145, 146, 147, 148, 149, 150, 151, 152, 153, 154, 155, 156, 157, 158, 159, 160] (by decide +kernel) (by decide +kernel)
set_option maxRecDepth 20000 in
theorem gX9_statement_X9_newSize : GoodIn wsX9_statement (wsV RX9 154 RX9 yX9_newSize wsX9_newSize) := goodIn_app (goodIn_of _ (by decide +kernel)) ggX9_statement_X9_newSize
set_option maxRecDepth 20000 in
theorem ggX9_statement_X9_span : GoodIn wsX9_statement wsX9_span := goodIn_r _ [111, 112, 113, 114, 13, 115, 103, 68, 69, 70, 71, 10, 11, 12, 14, 15, 16, 17, 18, 19, 20, 21, 22, 23, 24, 25, 26, 27, 28, 29, 30, 31, 32, 33, 34, 35, 36, 37, 38, 39, 40, 41, 42, 43, 44, 45, 46, 47, 48, 49, 50, 51, 52, 53, 54, 55, 56, 57, 58, 59, 60, 61, 62, 63, 64, 65, 66, 67, 72, 73, 74, 75, 76, 77, 78, 79, 80, 81, 82, 83, 84, 85, 86, 87, 88, 89, 90, 91, 92, 93, 94, 95, 1, 96, 97, 98, 124, 125, 126, 127, 128, 129, 130, 131, 132, 133, 134, 135, 136, 137, 138, 139, 140, 141, 142, 143, 144, 145, 146, 147, 148, 149, 150, 151, 152, 153, 154, 155, 156, 157, 158, 159, 160] (by decide +kernel) (by decide +kernel)
set_option maxRecDepth 20000 in
theorem gX9_statement_X9_span : GoodIn wsX9_statement (wsV RX9 243 RX9 yX9_span wsX9_span) := goodIn_app (goodIn_of _ (by decide +kernel)) ggX9_statement_X9_span
set_option maxRecDepth 20000 in
theorem ggX9_statement_X9_between : GoodIn wsX9_statement wsX9_between := goodIn_r _ [119, 1, 112, 113, 114, 13, 115, 103, 120, 121, 122, 123, 96, 97, 98, 124, 125, 126, 127, 128, 129, 130, 131, 132, 133, 134, 135, 136, 137, 138, 139, 140, 141, 142, 143, 144, 145, 146, 147, 148, 149, 150, 151, 152, 153, 154, 155, 156, 157, 158, 159, 160] (by decide +kernel) (by decide +kernel)
set_option maxRecDepth 20000 in
theorem gX9_statement_X9_between : GoodIn wsX9_statement (wsV RX9 246 RX9 yX9_between wsX9_between) := goodIn_app (goodIn_of _ (by decide +kernel)) ggX9_statement_X9_between
set_option maxRecDepth 20000 in
theorem ggX9_statement_X9_look : GoodIn wsX9_statement wsX9_look := goodIn_r _ [80, 16, 81, 18, 17, 82, 15, 83, 84, 85, 86, 87, 13, 88, 89, 90, 91, 124, 125, 126, 127, 128, 129, 130, 131, 132, 133, 134, 135, 136, 137, 138, 139, 140, 141, 142, 143, 144, 145, 146, 147, 148, 149, 150, 151, 152, 153, 154, 155, 156, 157, 158, 159, 160] (by decide +kernel) (by decide +kernel)
set_option maxRecDepth 20000 in
theorem gX9_statement_X9_look : GoodIn wsX9_statement (wsV RX9 221 RX9 yX9_look wsX9_look) := goodIn_app (goodIn_of _ (by decide +kernel)) ggX9_statement_X9_look
set_option maxRecDepth 20000 in
theorem ggX9_statement_X9_many : GoodIn wsX9_statement wsX9_many := goodIn_r _ [115, 103, 124, 125, 126, 127, 128, 129, 130, 131, 132, 133, 134, 135, 136, 137, 138, 139, 140, 141, 142, 143, 144, 145, 146, 147, 148, 149, 150, 151, 152, 153, 154, 155, 156, 157, 158, 159, 160] (by decide +kernel) (by decide +kernel)
set_option maxRecDepth 20000 in
theorem gX9_statement_X9_many : GoodIn wsX9_statement (wsV RX9 86 RX9 yX9_many wsX9_many) := goodIn_app (goodIn_of _ (by decide +kernel)) ggX9_statement_X9_many
set_option maxRecDepth 20000 in
theorem ggX9_statement_X9_number : GoodIn wsX9_statement wsX9_number := goodIn_r _ [95, 15, 82, 1, 96, 97, 13, 98, 72, 73, 74, 75, 17, 76, 77, 78, 79, 80, 16, 81, 18, 83, 84, 85, 86, 87, 88, 89, 90, 91, 124, 125, 126, 127, 128, 129, 130, 131, 132, 133, 134, 135, 136, 137, 138, 139, 140, 141, 142, 143, 144, 145, 146, 147, 148, 149, 150, 151, 152, 153, 154, 155, 156, 157, 158, 159, 160] (by decide +kernel) (by decide +kernel)
set_option maxRecDepth 20000 in
theorem gX9_statement_X9_number : GoodIn wsX9_statement (wsV RX9 228 RX9 yX9_number wsX9_number) := goodIn_app (goodIn_of _ (by decide +kernel)) ggX9_statement_X9_number
theorem dX9_statement_0 : decode cX9_statement 0 = .ok (.aload_n 0, 1) := by decide +kernel
theorem dX9_statement_1 : decode cX9_statement 1 = .ok (.ldc 237, 2) := by decide +kernel
theorem dX9_statement_3 : decode cX9_statement 3 = .ok (.invokevirtual 224, 3) := by decide +kernel
theorem dX9_statement_6 : decode cX9_statement 6 = .ok (.ifCond .eq 29, 3) := by decide +kernel
theorem dX9_statement_9 : decode cX9_statement 9 = .ok (.aload_n 0, 1) := by decide +kernel
theorem dX9_statement_10 : decode cX9_statement 10 = .ok (.ldc 237, 2) := by decide +kernel
theorem dX9_statement_12 : decode cX9_statement 12 = .ok (.iconst 0, 1) := by decide +kernel
theorem dX9_statement_13 : decode cX9_statement 13 = .ok (.iconst 2, 1) := by decide +kernel
theorem dX9_statement_14 : decode cX9_statement 14 = .ok (.iconst 4, 1) := by decide +kernel
theorem dX9_statement_15 : decode cX9_statement 15 = .ok (.invokevirtual 232, 3) := by decide +kernel
theorem dX9_statement_18 : decode cX9_statement 18 = .ok (.istore_n 1, 1) := by decide +kernel
theorem dX9_statement_19 : decode cX9_statement 19 = .ok (.iload_n 1, 1) := by decide +kernel
theorem dX9_statement_20 : decode cX9_statement 20 = .ok (.ifCond .eq 13, 3) := by decide +kernel
theorem dX9_statement_23 : decode cX9_statement 23 = .ok (.aload_n 0, 1) := by decide +kernel
theorem dX9_statement_24 : decode cX9_statement 24 = .ok (.aload_n 0, 1) := by decide +kernel
theorem dX9_statement_25 : decode cX9_statement 25 = .ok (.getfield 59, 3) := by decide +kernel
theorem dX9_statement_28 : decode cX9_statement 28 = .ok (.iconst 0, 1) := by decide +kernel
theorem dX9_statement_29 : decode cX9_statement 29 = .ok (.iaload, 1) := by decide +kernel
theorem dX9_statement_30 : decode cX9_statement 30 = .ok (.invokevirtual 154, 3) := by decide +kernel
theorem dX9_statement_33 : decode cX9_statement 33 = .ok (.iload_n 1, 1) := by decide +kernel
theorem dX9_statement_34 : decode cX9_statement 34 = .ok (.ireturn, 1) := by decide +kernel
theorem dX9_statement_35 : decode cX9_statement 35 = .ok (.aload_n 0, 1) := by decide +kernel
theorem dX9_statement_36 : decode cX9_statement 36 = .ok (.ldc 239, 2) := by decide +kernel
theorem dX9_statement_38 : decode cX9_statement 38 = .ok (.invokevirtual 224, 3) := by decide +kernel
theorem dX9_statement_41 : decode cX9_statement 41 = .ok (.ifCond .ne 12, 3) := by decide +kernel
theorem dX9_statement_44 : decode cX9_statement 44 = .ok (.aload_n 0, 1) := by decide +kernel
theorem dX9_statement_45 : decode cX9_statement 45 = .ok (.ldc 241, 2) := by decide +kernel
theorem dX9_statement_47 : decode cX9_statement 47 = .ok (.invokevirtual 224, 3) := by decide +kernel
theorem dX9_statement_50 : decode cX9_statement 50 = .ok (.ifCond .eq 65, 3) := by decide +kernel
theorem dX9_statement_53 : decode cX9_statement 53 = .ok (.aload_n 0, 1) := by decide +kernel
theorem dX9_statement_54 : decode cX9_statement 54 = .ok (.ldc 239, 2) := by decide +kernel
theorem dX9_statement_56 : decode cX9_statement 56 = .ok (.invokevirtual 224, 3) := by decide +kernel
theorem dX9_statement_59 : decode cX9_statement 59 = .ok (.istore_n 1, 1) := by decide +kernel
theorem dX9_statement_60 : decode cX9_statement 60 = .ok (.aload_n 0, 1) := by decide +kernel
theorem dX9_statement_61 : decode cX9_statement 61 = .ok (.iload_n 1, 1) := by decide +kernel
theorem dX9_statement_62 : decode cX9_statement 62 = .ok (.ifCond .eq 8, 3) := by decide +kernel
theorem dX9_statement_65 : decode cX9_statement 65 = .ok (.ldc 239, 2) := by decide +kernel
theorem dX9_statement_67 : decode cX9_statement 67 = .ok (.goto 5, 3) := by decide +kernel
theorem dX9_statement_70 : decode cX9_statement 70 = .ok (.ldc 241, 2) := by decide +kernel
theorem dX9_statement_72 : decode cX9_statement 72 = .ok (.invokevirtual 243, 3) := by decide +kernel
theorem dX9_statement_75 : decode cX9_statement 75 = .ok (.ifCond .ne 5, 3) := by decide +kernel
theorem dX9_statement_78 : decode cX9_statement 78 = .ok (.iconst 0, 1) := by decide +kernel
theorem dX9_statement_79 : decode cX9_statement 79 = .ok (.ireturn, 1) := by decide +kernel
theorem dX9_statement_80 : decode cX9_statement 80 = .ok (.aload_n 0, 1) := by decide +kernel
theorem dX9_statement_81 : decode cX9_statement 81 = .ok (.iload_n 1, 1) := by decide +kernel
theorem dX9_statement_82 : decode cX9_statement 82 = .ok (.ifCond .eq 15, 3) := by decide +kernel
theorem dX9_statement_85 : decode cX9_statement 85 = .ok (.aload_n 0, 1) := by decide +kernel
theorem dX9_statement_86 : decode cX9_statement 86 = .ok (.getfield 106, 3) := by decide +kernel
theorem dX9_statement_89 : decode cX9_statement 89 = .ok (.aload_n 0, 1) := by decide +kernel
theorem dX9_statement_90 : decode cX9_statement 90 = .ok (.invokevirtual 246, 3) := by decide +kernel
theorem dX9_statement_93 : decode cX9_statement 93 = .ok (.lor, 1) := by decide +kernel
theorem dX9_statement_94 : decode cX9_statement 94 = .ok (.goto 16, 3) := by decide +kernel
theorem dX9_statement_97 : decode cX9_statement 97 = .ok (.aload_n 0, 1) := by decide +kernel
theorem dX9_statement_98 : decode cX9_statement 98 = .ok (.getfield 106, 3) := by decide +kernel
theorem dX9_statement_101 : decode cX9_statement 101 = .ok (.aload_n 0, 1) := by decide +kernel
theorem dX9_statement_102 : decode cX9_statement 102 = .ok (.invokevirtual 246, 3) := by decide +kernel
theorem dX9_statement_105 : decode cX9_statement 105 = .ok (.ldc2_w 100, 3) := by decide +kernel
theorem dX9_statement_108 : decode cX9_statement 108 = .ok (.lxor, 1) := by decide +kernel
theorem dX9_statement_109 : decode cX9_statement 109 = .ok (.land, 1) := by decide +kernel
theorem dX9_statement_110 : decode cX9_statement 110 = .ok (.putfield 106, 3) := by decide +kernel
theorem dX9_statement_113 : decode cX9_statement 113 = .ok (.iconst 1, 1) := by decide +kernel
theorem dX9_statement_114 : decode cX9_statement 114 = .ok (.ireturn, 1) := by decide +kernel
theorem dX9_statement_115 : decode cX9_statement 115 = .ok (.aload_n 0, 1) := by decide +kernel
theorem dX9_statement_116 : decode cX9_statement 116 = .ok (.ldc 249, 2) := by decide +kernel
theorem dX9_statement_118 : decode cX9_statement 118 = .ok (.invokevirtual 224, 3) := by decide +kernel
theorem dX9_statement_121 : decode cX9_statement 121 = .ok (.ifCond .eq 52, 3) := by decide +kernel
theorem dX9_statement_124 : decode cX9_statement 124 = .ok (.aload_n 0, 1) := by decide +kernel
theorem dX9_statement_125 : decode cX9_statement 125 = .ok (.getfield 94, 3) := by decide +kernel
theorem dX9_statement_128 : decode cX9_statement 128 = .ok (.bipush 8, 2) := by decide +kernel
theorem dX9_statement_130 : decode cX9_statement 130 = .ok (.if_icmp .ge 43, 3) := by decide +kernel
theorem dX9_statement_133 : decode cX9_statement 133 = .ok (.aload_n 0, 1) := by decide +kernel
theorem dX9_statement_134 : decode cX9_statement 134 = .ok (.invokevirtual 221, 3) := by decide +kernel
theorem dX9_statement_137 : decode cX9_statement 137 = .ok (.aload_n 0, 1) := by decide +kernel
theorem dX9_statement_138 : decode cX9_statement 138 = .ok (.dup, 1) := by decide +kernel
theorem dX9_statement_139 : decode cX9_statement 139 = .ok (.getfield 97, 3) := by decide +kernel
theorem dX9_statement_142 : decode cX9_statement 142 = .ok (.iconst 1, 1) := by decide +kernel
theorem dX9_statement_143 : decode cX9_statement 143 = .ok (.aload_n 0, 1) := by decide +kernel
theorem dX9_statement_144 : decode cX9_statement 144 = .ok (.getfield 94, 3) := by decide +kernel
theorem dX9_statement_147 : decode cX9_statement 147 = .ok (.ishl, 1) := by decide +kernel
theorem dX9_statement_148 : decode cX9_statement 148 = .ok (.iconst (-1), 1) := by decide +kernel
theorem dX9_statement_149 : decode cX9_statement 149 = .ok (.ixor, 1) := by decide +kernel
theorem dX9_statement_150 : decode cX9_statement 150 = .ok (.iand, 1) := by decide +kernel
theorem dX9_statement_151 : decode cX9_statement 151 = .ok (.putfield 97, 3) := by decide +kernel
theorem dX9_statement_154 : decode cX9_statement 154 = .ok (.aload_n 0, 1) := by decide +kernel
theorem dX9_statement_155 : decode cX9_statement 155 = .ok (.getfield 47, 3) := by decide +kernel
theorem dX9_statement_158 : decode cX9_statement 158 = .ok (.aload_n 0, 1) := by decide +kernel
theorem dX9_statement_159 : decode cX9_statement 159 = .ok (.dup, 1) := by decide +kernel
theorem dX9_statement_160 : decode cX9_statement 160 = .ok (.getfield 94, 3) := by decide +kernel
theorem dX9_statement_163 : decode cX9_statement 163 = .ok (.dup_x1, 1) := by decide +kernel
theorem dX9_statement_164 : decode cX9_statement 164 = .ok (.iconst 1, 1) := by decide +kernel
theorem dX9_statement_165 : decode cX9_statement 165 = .ok (.iadd, 1) := by decide +kernel
theorem dX9_statement_166 : decode cX9_statement 166 = .ok (.putfield 94, 3) := by decide +kernel
theorem dX9_statement_169 : decode cX9_statement 169 = .ok (.lconst 0, 1) := by decide +kernel
theorem dX9_statement_170 : decode cX9_statement 170 = .ok (.lastore, 1) := by decide +kernel
theorem dX9_statement_171 : decode cX9_statement 171 = .ok (.iconst 1, 1) := by decide +kernel
theorem dX9_statement_172 : decode cX9_statement 172 = .ok (.ireturn, 1) := by decide +kernel
theorem dX9_statement_173 : decode cX9_statement 173 = .ok (.aload_n 0, 1) := by decide +kernel
theorem dX9_statement_174 : decode cX9_statement 174 = .ok (.ldc 250, 2) := by decide +kernel
theorem dX9_statement_176 : decode cX9_statement 176 = .ok (.invokevirtual 224, 3) := by decide +kernel
theorem dX9_statement_179 : decode cX9_statement 179 = .ok (.ifCond .eq 41, 3) := by decide +kernel
theorem dX9_statement_182 : decode cX9_statement 182 = .ok (.aload_n 0, 1) := by decide +kernel
theorem dX9_statement_183 : decode cX9_statement 183 = .ok (.getfield 94, 3) := by decide +kernel
theorem dX9_statement_186 : decode cX9_statement 186 = .ok (.ifCond .le 34, 3) := by decide +kernel
theorem dX9_statement_189 : decode cX9_statement 189 = .ok (.aload_n 0, 1) := by decide +kernel
theorem dX9_statement_190 : decode cX9_statement 190 = .ok (.ldc 250, 2) := by decide +kernel
theorem dX9_statement_192 : decode cX9_statement 192 = .ok (.invokevirtual 243, 3) := by decide +kernel
theorem dX9_statement_195 : decode cX9_statement 195 = .ok (.ifCond .ne 5, 3) := by decide +kernel
theorem dX9_statement_198 : decode cX9_statement 198 = .ok (.iconst 0, 1) := by decide +kernel
theorem dX9_statement_199 : decode cX9_statement 199 = .ok (.ireturn, 1) := by decide +kernel
theorem dX9_statement_200 : decode cX9_statement 200 = .ok (.aload_n 0, 1) := by decide +kernel
theorem dX9_statement_201 : decode cX9_statement 201 = .ok (.getfield 47, 3) := by decide +kernel
theorem dX9_statement_204 : decode cX9_statement 204 = .ok (.aload_n 0, 1) := by decide +kernel
theorem dX9_statement_205 : decode cX9_statement 205 = .ok (.getfield 94, 3) := by decide +kernel
theorem dX9_statement_208 : decode cX9_statement 208 = .ok (.iconst 1, 1) := by decide +kernel
theorem dX9_statement_209 : decode cX9_statement 209 = .ok (.isub, 1) := by decide +kernel
theorem dX9_statement_210 : decode cX9_statement 210 = .ok (.dup2, 1) := by decide +kernel
theorem dX9_statement_211 : decode cX9_statement 211 = .ok (.laload, 1) := by decide +kernel
theorem dX9_statement_212 : decode cX9_statement 212 = .ok (.aload_n 0, 1) := by decide +kernel
theorem dX9_statement_213 : decode cX9_statement 213 = .ok (.invokevirtual 246, 3) := by decide +kernel
theorem dX9_statement_216 : decode cX9_statement 216 = .ok (.lor, 1) := by decide +kernel
theorem dX9_statement_217 : decode cX9_statement 217 = .ok (.lastore, 1) := by decide +kernel
theorem dX9_statement_218 : decode cX9_statement 218 = .ok (.iconst 1, 1) := by decide +kernel
theorem dX9_statement_219 : decode cX9_statement 219 = .ok (.ireturn, 1) := by decide +kernel
theorem dX9_statement_220 : decode cX9_statement 220 = .ok (.aload_n 0, 1) := by decide +kernel
theorem dX9_statement_221 : decode cX9_statement 221 = .ok (.ldc 252, 2) := by decide +kernel
theorem dX9_statement_223 : decode cX9_statement 223 = .ok (.invokevirtual 224, 3) := by decide +kernel
theorem dX9_statement_226 : decode cX9_statement 226 = .ok (.ifCond .eq 52, 3) := by decide +kernel
theorem dX9_statement_229 : decode cX9_statement 229 = .ok (.aload_n 0, 1) := by decide +kernel
theorem dX9_statement_230 : decode cX9_statement 230 = .ok (.ldc 252, 2) := by decide +kernel
theorem dX9_statement_232 : decode cX9_statement 232 = .ok (.iconst 0, 1) := by decide +kernel
theorem dX9_statement_233 : decode cX9_statement 233 = .ok (.iconst 0, 1) := by decide +kernel
theorem dX9_statement_234 : decode cX9_statement 234 = .ok (.aload_n 0, 1) := by decide +kernel
theorem dX9_statement_235 : decode cX9_statement 235 = .ok (.invokevirtual 86, 3) := by decide +kernel
theorem dX9_statement_238 : decode cX9_statement 238 = .ok (.iconst 1, 1) := by decide +kernel
theorem dX9_statement_239 : decode cX9_statement 239 = .ok (.isub, 1) := by decide +kernel
theorem dX9_statement_240 : decode cX9_statement 240 = .ok (.invokevirtual 232, 3) := by decide +kernel
theorem dX9_statement_243 : decode cX9_statement 243 = .ok (.ifCond .eq 14, 3) := by decide +kernel
theorem dX9_statement_246 : decode cX9_statement 246 = .ok (.aload_n 0, 1) := by decide +kernel
theorem dX9_statement_247 : decode cX9_statement 247 = .ok (.iconst 1, 1) := by decide +kernel
theorem dX9_statement_248 : decode cX9_statement 248 = .ok (.iconst 0, 1) := by decide +kernel
theorem dX9_statement_249 : decode cX9_statement 249 = .ok (.bipush 9, 2) := by decide +kernel
theorem dX9_statement_251 : decode cX9_statement 251 = .ok (.invokevirtual 228, 3) := by decide +kernel
theorem dX9_statement_254 : decode cX9_statement 254 = .ok (.ifCond .ne 5, 3) := by decide +kernel
theorem dX9_statement_257 : decode cX9_statement 257 = .ok (.iconst 0, 1) := by decide +kernel
theorem dX9_statement_258 : decode cX9_statement 258 = .ok (.ireturn, 1) := by decide +kernel
theorem dX9_statement_259 : decode cX9_statement 259 = .ok (.aload_n 0, 1) := by decide +kernel
theorem dX9_statement_260 : decode cX9_statement 260 = .ok (.getfield 50, 3) := by decide +kernel
theorem dX9_statement_263 : decode cX9_statement 263 = .ok (.aload_n 0, 1) := by decide +kernel
theorem dX9_statement_264 : decode cX9_statement 264 = .ok (.getfield 59, 3) := by decide +kernel
theorem dX9_statement_267 : decode cX9_statement 267 = .ok (.iconst 0, 1) := by decide +kernel
theorem dX9_statement_268 : decode cX9_statement 268 = .ok (.iaload, 1) := by decide +kernel
theorem dX9_statement_269 : decode cX9_statement 269 = .ok (.aload_n 0, 1) := by decide +kernel
theorem dX9_statement_270 : decode cX9_statement 270 = .ok (.getfield 59, 3) := by decide +kernel
theorem dX9_statement_273 : decode cX9_statement 273 = .ok (.iconst 1, 1) := by decide +kernel
theorem dX9_statement_274 : decode cX9_statement 274 = .ok (.iaload, 1) := by decide +kernel
theorem dX9_statement_275 : decode cX9_statement 275 = .ok (.iastore, 1) := by decide +kernel
theorem dX9_statement_276 : decode cX9_statement 276 = .ok (.iconst 1, 1) := by decide +kernel
theorem dX9_statement_277 : decode cX9_statement 277 = .ok (.ireturn, 1) := by decide +kernel
theorem dX9_statement_278 : decode cX9_statement 278 = .ok (.aload_n 0, 1) := by decide +kernel
theorem dX9_statement_279 : decode cX9_statement 279 = .ok (.ldc 253, 2) := by decide +kernel
theorem dX9_statement_281 : decode cX9_statement 281 = .ok (.invokevirtual 224, 3) := by decide +kernel
theorem dX9_statement_284 : decode cX9_statement 284 = .ok (.ifCond .eq 37, 3) := by decide +kernel
theorem dX9_statement_287 : decode cX9_statement 287 = .ok (.aload_n 0, 1) := by decide +kernel
theorem dX9_statement_288 : decode cX9_statement 288 = .ok (.ldc 253, 2) := by decide +kernel
theorem dX9_statement_290 : decode cX9_statement 290 = .ok (.iconst 0, 1) := by decide +kernel
theorem dX9_statement_291 : decode cX9_statement 291 = .ok (.iconst 1, 1) := by decide +kernel
theorem dX9_statement_292 : decode cX9_statement 292 = .ok (.bipush 64, 2) := by decide +kernel
theorem dX9_statement_294 : decode cX9_statement 294 = .ok (.invokevirtual 232, 3) := by decide +kernel
theorem dX9_statement_297 : decode cX9_statement 297 = .ok (.istore_n 1, 1) := by decide +kernel
theorem dX9_statement_298 : decode cX9_statement 298 = .ok (.aload_n 0, 1) := by decide +kernel
theorem dX9_statement_299 : decode cX9_statement 299 = .ok (.iload_n 1, 1) := by decide +kernel
theorem dX9_statement_300 : decode cX9_statement 300 = .ok (.ifCond .eq 12, 3) := by decide +kernel
theorem dX9_statement_303 : decode cX9_statement 303 = .ok (.aload_n 0, 1) := by decide +kernel
theorem dX9_statement_304 : decode cX9_statement 304 = .ok (.getfield 59, 3) := by decide +kernel
theorem dX9_statement_307 : decode cX9_statement 307 = .ok (.iconst 0, 1) := by decide +kernel
theorem dX9_statement_308 : decode cX9_statement 308 = .ok (.iaload, 1) := by decide +kernel
theorem dX9_statement_309 : decode cX9_statement 309 = .ok (.goto 7, 3) := by decide +kernel
theorem dX9_statement_312 : decode cX9_statement 312 = .ok (.aload_n 0, 1) := by decide +kernel
theorem dX9_statement_313 : decode cX9_statement 313 = .ok (.getfield 53, 3) := by decide +kernel
theorem dX9_statement_316 : decode cX9_statement 316 = .ok (.putfield 53, 3) := by decide +kernel
theorem dX9_statement_319 : decode cX9_statement 319 = .ok (.iload_n 1, 1) := by decide +kernel
theorem dX9_statement_320 : decode cX9_statement 320 = .ok (.ireturn, 1) := by decide +kernel
theorem dX9_statement_321 : decode cX9_statement 321 = .ok (.aload_n 0, 1) := by decide +kernel
theorem dX9_statement_322 : decode cX9_statement 322 = .ok (.ldc 254, 2) := by decide +kernel
theorem dX9_statement_324 : decode cX9_statement 324 = .ok (.iconst 0, 1) := by decide +kernel
theorem dX9_statement_325 : decode cX9_statement 325 = .ok (.iconst 1, 1) := by decide +kernel
theorem dX9_statement_326 : decode cX9_statement 326 = .ok (.sipush 999, 3) := by decide +kernel
theorem dX9_statement_329 : decode cX9_statement 329 = .ok (.invokevirtual 232, 3) := by decide +kernel
theorem dX9_statement_332 : decode cX9_statement 332 = .ok (.istore_n 1, 1) := by decide +kernel
theorem dX9_statement_333 : decode cX9_statement 333 = .ok (.aload_n 0, 1) := by decide +kernel
theorem dX9_statement_334 : decode cX9_statement 334 = .ok (.iload_n 1, 1) := by decide +kernel
theorem dX9_statement_335 : decode cX9_statement 335 = .ok (.ifCond .eq 12, 3) := by decide +kernel
theorem dX9_statement_338 : decode cX9_statement 338 = .ok (.aload_n 0, 1) := by decide +kernel
theorem dX9_statement_339 : decode cX9_statement 339 = .ok (.getfield 59, 3) := by decide +kernel
theorem dX9_statement_342 : decode cX9_statement 342 = .ok (.iconst 0, 1) := by decide +kernel
theorem dX9_statement_343 : decode cX9_statement 343 = .ok (.iaload, 1) := by decide +kernel
theorem dX9_statement_344 : decode cX9_statement 344 = .ok (.goto 7, 3) := by decide +kernel
theorem dX9_statement_347 : decode cX9_statement 347 = .ok (.aload_n 0, 1) := by decide +kernel
theorem dX9_statement_348 : decode cX9_statement 348 = .ok (.getfield 56, 3) := by decide +kernel
theorem dX9_statement_351 : decode cX9_statement 351 = .ok (.putfield 56, 3) := by decide +kernel
theorem dX9_statement_354 : decode cX9_statement 354 = .ok (.iload_n 1, 1) := by decide +kernel
theorem dX9_statement_355 : decode cX9_statement 355 = .ok (.ireturn, 1) := by decide +kernel
set_option maxRecDepth 20000 in
theorem ggX9_readAll_X9_look : GoodIn wsX9_readAll wsX9_look := goodIn_r _ [8, 2, 9, 10, 11, 12, 3, 13, 14, 15, 16, 17, 7, 18, 19, 20, 21, 129, 130, 131, 132, 133, 134, 135, 136, 137, 138, 139, 140, 141, 142, 143, 144, 145, 146, 147, 148, 149, 150, 151, 152, 153, 154, 155, 156, 157, 158, 159, 160, 161, 162, 163, 164, 165] (by decide +kernel) (by decide +kernel)
set_option maxRecDepth 20000 in
theorem gX9_readAll_X9_look : GoodIn wsX9_readAll (wsV RX9 221 RX9 yX9_look wsX9_look) := goodIn_app (goodIn_of _ (by decide +kernel)) ggX9_readAll_X9_look
set_option maxRecDepth 20000 in
theorem ggX9_readAll_X9_statement : GoodIn wsX9_readAll wsX9_statement := goodIn_r _ [25, 26, 27, 28, 29, 30, 31, 32, 33, 34, 35, 36, 37, 7, 38, 3, 2, 11, 10, 39, 40, 41, 42, 43, 44, 45, 46, 47, 48, 49, 50, 51, 52, 53, 54, 55, 56, 57, 58, 59, 60, 61, 62, 63, 64, 65, 66, 67, 68, 69, 70, 71, 72, 73, 74, 75, 76, 77, 78, 79, 80, 81, 82, 83, 84, 85, 86, 87, 88, 89, 90, 91, 92, 93, 94, 95, 96, 4, 5, 6, 8, 9, 12, 13, 14, 15, 16, 17, 18, 19, 20, 21, 97, 98, 99, 100, 101, 102, 103, 104, 105, 106, 107, 108, 109, 110, 111, 112, 113, 114, 115, 116, 117, 118, 119, 120, 121, 122, 123, 124, 125, 126, 127, 128, 129, 130, 131, 132, 133, 134, 135, 136, 137, 138, 139, 140, 141, 142, 143, 144, 145, 146, 147, 148, 149, 150, 151, 152, 153, 154, 155, 156, 157, 158, 159, 160, 161, 162, 163, 164, 165] (by decide +kernel) (by decide +kernel)
set_option maxRecDepth 20000 in
theorem gX9_readAll_X9_statement : GoodIn wsX9_readAll (wsV RX9 258 RX9 yX9_statement wsX9_statement) := goodIn_app (goodIn_of _ (by decide +kernel)) ggX9_readAll_X9_statement
set_option maxRecDepth 20000 in
theorem ggX9_readAll_X9_isWrong : GoodIn wsX9_readAll wsX9_isWrong := goodIn_r _ [95, 11, 96, 129, 130, 131, 132, 133, 134, 135, 136, 137, 138, 139, 140, 141, 142, 143, 144, 145, 146, 147, 148, 149, 150, 151, 152, 153, 154, 155, 156, 157, 158, 159, 160, 161, 162, 163, 164, 165] (by decide +kernel) (by decide +kernel)
set_option maxRecDepth 20000 in
theorem gX9_readAll_X9_isWrong : GoodIn wsX9_readAll (wsV RX9 217 RX9 yX9_isWrong wsX9_isWrong) := goodIn_app (goodIn_of _ (by decide +kernel)) ggX9_readAll_X9_isWrong
theorem dX9_readAll_0 : decode cX9_readAll 0 = .ok (.aload_n 0, 1) := by decide +kernel
theorem dX9_readAll_1 : decode cX9_readAll 1 = .ok (.iconst 1, 1) := by decide +kernel
theorem dX9_readAll_2 : decode cX9_readAll 2 = .ok (.putfield 255, 3) := by decide +kernel
theorem dX9_readAll_5 : decode cX9_readAll 5 = .ok (.aload_n 0, 1) := by decide +kernel
theorem dX9_readAll_6 : decode cX9_readAll 6 = .ok (.iconst 0, 1) := by decide +kernel
theorem dX9_readAll_7 : decode cX9_readAll 7 = .ok (.putfield 181, 3) := by decide +kernel
theorem dX9_readAll_10 : decode cX9_readAll 10 = .ok (.aload_n 0, 1) := by decide +kernel
theorem dX9_readAll_11 : decode cX9_readAll 11 = .ok (.invokevirtual 221, 3) := by decide +kernel
theorem dX9_readAll_14 : decode cX9_readAll 14 = .ok (.aload_n 0, 1) := by decide +kernel
theorem dX9_readAll_15 : decode cX9_readAll 15 = .ok (.invokevirtual 258, 3) := by decide +kernel
theorem dX9_readAll_18 : decode cX9_readAll 18 = .ok (.ifCond .ne 5, 3) := by decide +kernel
theorem dX9_readAll_21 : decode cX9_readAll 21 = .ok (.iconst 0, 1) := by decide +kernel
theorem dX9_readAll_22 : decode cX9_readAll 22 = .ok (.ireturn, 1) := by decide +kernel
theorem dX9_readAll_23 : decode cX9_readAll 23 = .ok (.aload_n 0, 1) := by decide +kernel
theorem dX9_readAll_24 : decode cX9_readAll 24 = .ok (.getfield 190, 3) := by decide +kernel
theorem dX9_readAll_27 : decode cX9_readAll 27 = .ok (.ifCond .eq 42, 3) := by decide +kernel
theorem dX9_readAll_30 : decode cX9_readAll 30 = .ok (.aload_n 0, 1) := by decide +kernel
theorem dX9_readAll_31 : decode cX9_readAll 31 = .ok (.getfield 190, 3) := by decide +kernel
theorem dX9_readAll_34 : decode cX9_readAll 34 = .ok (.iconst 3, 1) := by decide +kernel
theorem dX9_readAll_35 : decode cX9_readAll 35 = .ok (.if_icmp .eq 8, 3) := by decide +kernel
theorem dX9_readAll_38 : decode cX9_readAll 38 = .ok (.aload_n 0, 1) := by decide +kernel
theorem dX9_readAll_39 : decode cX9_readAll 39 = .ok (.invokevirtual 217, 3) := by decide +kernel
theorem dX9_readAll_42 : decode cX9_readAll 42 = .ok (.ireturn, 1) := by decide +kernel
theorem dX9_readAll_43 : decode cX9_readAll 43 = .ok (.aload_n 0, 1) := by decide +kernel
theorem dX9_readAll_44 : decode cX9_readAll 44 = .ok (.invokevirtual 221, 3) := by decide +kernel
theorem dX9_readAll_47 : decode cX9_readAll 47 = .ok (.aload_n 0, 1) := by decide +kernel
theorem dX9_readAll_48 : decode cX9_readAll 48 = .ok (.invokevirtual 258, 3) := by decide +kernel
theorem dX9_readAll_51 : decode cX9_readAll 51 = .ok (.ifCond .ne 5, 3) := by decide +kernel
theorem dX9_readAll_54 : decode cX9_readAll 54 = .ok (.iconst 0, 1) := by decide +kernel
theorem dX9_readAll_55 : decode cX9_readAll 55 = .ok (.ireturn, 1) := by decide +kernel
theorem dX9_readAll_56 : decode cX9_readAll 56 = .ok (.aload_n 0, 1) := by decide +kernel
theorem dX9_readAll_57 : decode cX9_readAll 57 = .ok (.dup, 1) := by decide +kernel
theorem dX9_readAll_58 : decode cX9_readAll 58 = .ok (.getfield 255, 3) := by decide +kernel
theorem dX9_readAll_61 : decode cX9_readAll 61 = .ok (.iconst 1, 1) := by decide +kernel
theorem dX9_readAll_62 : decode cX9_readAll 62 = .ok (.iadd, 1) := by decide +kernel
theorem dX9_readAll_63 : decode cX9_readAll 63 = .ok (.putfield 255, 3) := by decide +kernel
theorem dX9_readAll_66 : decode cX9_readAll 66 = .ok (.goto (-43), 3) := by decide +kernel
theorem dX9_readAll_69 : decode cX9_readAll 69 = .ok (.iconst 1, 1) := by decide +kernel
theorem dX9_readAll_70 : decode cX9_readAll 70 = .ok (.ireturn, 1) := by decide +kernel
set_option maxRecDepth 20000 in
theorem ggX9_read_X9_init : GoodIn wsX9_read wsX9_init := goodIn_r _ [10, 11, 12, 13, 14, 15, 16, 17, 18, 19, 20, 21, 22, 23, 24, 25, 26, 27, 28, 29, 30, 31, 32, 33, 34, 35, 36, 37, 38, 39, 40, 41, 42, 4, 43, 169, 170, 171, 172, 173, 174, 175, 176, 177, 178, 179, 180, 181, 182, 183, 184, 185, 186, 187, 188, 189, 190, 191, 192, 193, 194, 195, 196, 197, 198, 199, 200, 201, 202, 203, 204, 205] (by decide +kernel) (by decide +kernel)
set_option maxRecDepth 20000 in
theorem gX9_read_X9_init : GoodIn wsX9_read (wsX9_init) := ggX9_read_X9_init
set_option maxRecDepth 20000 in
theorem ggX9_read_X9_takeFrom : GoodIn wsX9_read wsX9_takeFrom := goodIn_r _ [47, 27, 48, 49, 28, 50, 29, 30, 31, 169, 170, 171, 172, 173, 174, 175, 176, 177, 178, 179, 180, 181, 182, 183, 184, 185, 186, 187, 188, 189, 190, 191, 192, 193, 194, 195, 196, 197, 198, 199, 200, 201, 202, 203, 204, 205] (by decide +kernel) (by decide +kernel)
set_option maxRecDepth 20000 in
theorem gX9_read_X9_takeFrom : GoodIn wsX9_read (wsV RX9 266 RX9 yX9_takeFrom wsX9_takeFrom) := goodIn_app (goodIn_of _ (by decide +kernel)) ggX9_read_X9_takeFrom
set_option maxRecDepth 20000 in
theorem ggX9_read_X9_readAll : GoodIn wsX9_read wsX9_readAll := goodIn_r _ [54, 7, 55, 56, 57, 58, 59, 4, 60, 5, 25, 61, 62, 63, 64, 65, 66, 67, 68, 69, 70, 71, 72, 73, 74, 75, 32, 48, 76, 49, 50, 28, 29, 30, 31, 77, 78, 79, 80, 81, 82, 83, 84, 85, 86, 87, 88, 89, 90, 91, 92, 93, 94, 95, 96, 97, 98, 99, 100, 101, 102, 103, 104, 105, 106, 107, 108, 109, 110, 111, 112, 113, 114, 115, 116, 117, 118, 119, 120, 121, 122, 123, 124, 125, 126, 127, 128, 129, 130, 131, 132, 133, 134, 135, 136, 137, 6, 138, 139, 140, 141, 142, 143, 144, 145, 146, 147, 148, 27, 40, 41, 42, 43, 149, 150, 151, 152, 153, 154, 155, 156, 157, 158, 159, 160, 161, 162, 163, 164, 169, 170, 171, 172, 173, 174, 175, 176, 177, 178, 179, 180, 181, 182, 183, 184, 185, 186, 187, 188, 189, 190, 191, 192, 193, 194, 195, 196, 197, 198, 199, 200, 201, 202, 203, 204, 205] (by decide +kernel) (by decide +kernel)
set_option maxRecDepth 20000 in
theorem gX9_read_X9_readAll : GoodIn wsX9_read (wsV RX9 270 RX9 yX9_readAll wsX9_readAll) := goodIn_app (goodIn_of _ (by decide +kernel)) ggX9_read_X9_readAll
set_option maxRecDepth 20000 in
theorem ggX9_read_X9_refuse : GoodIn wsX9_read wsX9_refuse := goodIn_r _ [168, 26, 169, 170, 171, 172, 173, 174, 175, 176, 177, 178, 179, 180, 181, 182, 183, 184, 185, 186, 187, 188, 189, 190, 191, 192, 193, 194, 195, 196, 197, 198, 199, 200, 201, 202, 203, 204, 205] (by decide +kernel) (by decide +kernel)
set_option maxRecDepth 20000 in
theorem gX9_read_X9_refuse : GoodIn wsX9_read (wsV RX9 124 RX9 yX9_refuse wsX9_refuse) := goodIn_app (goodIn_of _ (by decide +kernel)) ggX9_read_X9_refuse
theorem dX9_read_0 : decode cX9_read 0 = .ok (.aload_n 0, 1) := by decide +kernel
theorem dX9_read_1 : decode cX9_read 1 = .ok (.getfield 261, 3) := by decide +kernel
theorem dX9_read_4 : decode cX9_read 4 = .ok (.ifnonnull 14, 3) := by decide +kernel
theorem dX9_read_7 : decode cX9_read 7 = .ok (.aload_n 0, 1) := by decide +kernel
theorem dX9_read_8 : decode cX9_read 8 = .ok (.new 8, 3) := by decide +kernel
theorem dX9_read_11 : decode cX9_read 11 = .ok (.dup, 1) := by decide +kernel
theorem dX9_read_12 : decode cX9_read 12 = .ok (.invokespecial 265, 3) := by decide +kernel
theorem dX9_read_15 : decode cX9_read 15 = .ok (.putfield 261, 3) := by decide +kernel
theorem dX9_read_18 : decode cX9_read 18 = .ok (.aload_n 0, 1) := by decide +kernel
theorem dX9_read_19 : decode cX9_read 19 = .ok (.getfield 261, 3) := by decide +kernel
theorem dX9_read_22 : decode cX9_read 22 = .ok (.aload_n 0, 1) := by decide +kernel
theorem dX9_read_23 : decode cX9_read 23 = .ok (.invokevirtual 266, 3) := by decide +kernel
theorem dX9_read_26 : decode cX9_read 26 = .ok (.aload_n 0, 1) := by decide +kernel
theorem dX9_read_27 : decode cX9_read 27 = .ok (.invokevirtual 270, 3) := by decide +kernel
theorem dX9_read_30 : decode cX9_read 30 = .ok (.istore_n 1, 1) := by decide +kernel
theorem dX9_read_31 : decode cX9_read 31 = .ok (.aload_n 0, 1) := by decide +kernel
theorem dX9_read_32 : decode cX9_read 32 = .ok (.iconst 0, 1) := by decide +kernel
theorem dX9_read_33 : decode cX9_read 33 = .ok (.putfield 178, 3) := by decide +kernel
theorem dX9_read_36 : decode cX9_read 36 = .ok (.iload_n 1, 1) := by decide +kernel
theorem dX9_read_37 : decode cX9_read 37 = .ok (.ifCond .ne 26, 3) := by decide +kernel
theorem dX9_read_40 : decode cX9_read 40 = .ok (.aload_n 0, 1) := by decide +kernel
theorem dX9_read_41 : decode cX9_read 41 = .ok (.aload_n 0, 1) := by decide +kernel
theorem dX9_read_42 : decode cX9_read 42 = .ok (.getfield 261, 3) := by decide +kernel
theorem dX9_read_45 : decode cX9_read 45 = .ok (.invokevirtual 266, 3) := by decide +kernel
theorem dX9_read_48 : decode cX9_read 48 = .ok (.aload_n 0, 1) := by decide +kernel
theorem dX9_read_49 : decode cX9_read 49 = .ok (.bipush (-2), 2) := by decide +kernel
theorem dX9_read_51 : decode cX9_read 51 = .ok (.invokevirtual 124, 3) := by decide +kernel
theorem dX9_read_54 : decode cX9_read 54 = .ok (.pop, 1) := by decide +kernel
theorem dX9_read_55 : decode cX9_read 55 = .ok (.bipush (-20), 2) := by decide +kernel
theorem dX9_read_57 : decode cX9_read 57 = .ok (.aload_n 0, 1) := by decide +kernel
theorem dX9_read_58 : decode cX9_read 58 = .ok (.getfield 205, 3) := by decide +kernel
theorem dX9_read_61 : decode cX9_read 61 = .ok (.isub, 1) := by decide +kernel
theorem dX9_read_62 : decode cX9_read 62 = .ok (.ireturn, 1) := by decide +kernel
theorem dX9_read_63 : decode cX9_read 63 = .ok (.aload_n 0, 1) := by decide +kernel
theorem dX9_read_64 : decode cX9_read 64 = .ok (.getfield 255, 3) := by decide +kernel
theorem dX9_read_67 : decode cX9_read 67 = .ok (.ireturn, 1) := by decide +kernel
set_option maxRecDepth 20000 in
theorem ggX9_inPieces_X9_isOff : GoodIn wsX9_inPieces wsX9_isOff := goodIn_r _ [7, 8, 9, 10, 11, 12, 13, 14, 15, 16, 17, 18, 19, 20, 21, 22, 23, 24, 25, 26, 27, 28, 29, 30, 31, 32, 33, 34, 35, 36, 37, 38, 39, 40, 41, 42, 43, 44, 45] (by decide +kernel) (by decide +kernel)
set_option maxRecDepth 20000 in
theorem gX9_inPieces_X9_isOff : GoodIn wsX9_inPieces (wsV RX9 166 RX9 yX9_isOff wsX9_isOff) := goodIn_app (goodIn_of _ (by decide +kernel)) ggX9_inPieces_X9_isOff
theorem dX9_inPieces_0 : decode cX9_inPieces 0 = .ok (.lconst 0, 1) := by decide +kernel
theorem dX9_inPieces_1 : decode cX9_inPieces 1 = .ok (.lstore_n 1, 1) := by decide +kernel
theorem dX9_inPieces_2 : decode cX9_inPieces 2 = .ok (.iconst 0, 1) := by decide +kernel
theorem dX9_inPieces_3 : decode cX9_inPieces 3 = .ok (.istore_n 3, 1) := by decide +kernel
theorem dX9_inPieces_4 : decode cX9_inPieces 4 = .ok (.iload_n 3, 1) := by decide +kernel
theorem dX9_inPieces_5 : decode cX9_inPieces 5 = .ok (.aload_n 0, 1) := by decide +kernel
theorem dX9_inPieces_6 : decode cX9_inPieces 6 = .ok (.getfield 94, 3) := by decide +kernel
theorem dX9_inPieces_9 : decode cX9_inPieces 9 = .ok (.if_icmp .ge 30, 3) := by decide +kernel
theorem dX9_inPieces_12 : decode cX9_inPieces 12 = .ok (.lload_n 1, 1) := by decide +kernel
theorem dX9_inPieces_13 : decode cX9_inPieces 13 = .ok (.aload_n 0, 1) := by decide +kernel
theorem dX9_inPieces_14 : decode cX9_inPieces 14 = .ok (.iload_n 3, 1) := by decide +kernel
theorem dX9_inPieces_15 : decode cX9_inPieces 15 = .ok (.invokevirtual 166, 3) := by decide +kernel
theorem dX9_inPieces_18 : decode cX9_inPieces 18 = .ok (.ifCond .eq 7, 3) := by decide +kernel
theorem dX9_inPieces_21 : decode cX9_inPieces 21 = .ok (.lconst 0, 1) := by decide +kernel
theorem dX9_inPieces_22 : decode cX9_inPieces 22 = .ok (.goto 9, 3) := by decide +kernel
theorem dX9_inPieces_25 : decode cX9_inPieces 25 = .ok (.aload_n 0, 1) := by decide +kernel
theorem dX9_inPieces_26 : decode cX9_inPieces 26 = .ok (.getfield 47, 3) := by decide +kernel
theorem dX9_inPieces_29 : decode cX9_inPieces 29 = .ok (.iload_n 3, 1) := by decide +kernel
theorem dX9_inPieces_30 : decode cX9_inPieces 30 = .ok (.laload, 1) := by decide +kernel
theorem dX9_inPieces_31 : decode cX9_inPieces 31 = .ok (.lor, 1) := by decide +kernel
theorem dX9_inPieces_32 : decode cX9_inPieces 32 = .ok (.lstore_n 1, 1) := by decide +kernel
theorem dX9_inPieces_33 : decode cX9_inPieces 33 = .ok (.iinc 3 1, 3) := by decide +kernel
theorem dX9_inPieces_36 : decode cX9_inPieces 36 = .ok (.goto (-32), 3) := by decide +kernel
theorem dX9_inPieces_39 : decode cX9_inPieces 39 = .ok (.lload_n 1, 1) := by decide +kernel
theorem dX9_inPieces_40 : decode cX9_inPieces 40 = .ok (.lreturn, 1) := by decide +kernel
set_option maxRecDepth 20000 in
theorem ggX9_cubes_X9_empty : GoodIn wsX9_cubes wsX9_empty := goodIn_r _ [6, 1, 7, 8, 9, 10, 5, 11, 12, 13, 14, 15, 16, 52, 53, 54, 55, 56, 57, 58, 59, 60, 61, 62, 63, 64, 65, 66, 67, 68, 69, 70, 71, 72, 73, 74, 75, 76, 77, 78, 79, 80, 81, 82, 83, 84, 85, 86, 87, 88] (by decide +kernel) (by decide +kernel)
set_option maxRecDepth 20000 in
theorem gX9_cubes_X9_empty : GoodIn wsX9_cubes (wsV RX9 141 RX9 yX9_empty wsX9_empty) := goodIn_app (goodIn_of _ (by decide +kernel)) ggX9_cubes_X9_empty
set_option maxRecDepth 20000 in
theorem ggX9_cubes_X9_never : GoodIn wsX9_cubes wsX9_never := goodIn_r _ [20, 1, 21, 22, 23, 24, 5, 25, 13, 14, 15, 16, 12, 26, 27, 28, 29, 30, 31, 32, 33, 34, 35, 36, 37, 38, 39, 40, 52, 53, 54, 55, 56, 57, 58, 59, 60, 61, 62, 63, 64, 65, 66, 67, 68, 69, 70, 71, 72, 73, 74, 75, 76, 77, 78, 79, 80, 81, 82, 83, 84, 85, 86, 87, 88] (by decide +kernel) (by decide +kernel)
set_option maxRecDepth 20000 in
theorem gX9_cubes_X9_never : GoodIn wsX9_cubes (wsV RX9 273 RX9 yX9_never wsX9_never) := goodIn_app (goodIn_of _ (by decide +kernel)) ggX9_cubes_X9_never
set_option maxRecDepth 20000 in
theorem ggX9_cubes_X9_inPieces : GoodIn wsX9_cubes wsX9_inPieces := goodIn_r _ [44, 45, 46, 47, 48, 49, 5, 50, 51, 52, 53, 54, 55, 56, 57, 58, 59, 60, 61, 62, 63, 64, 65, 66, 67, 68, 69, 70, 71, 72, 73, 74, 75, 76, 77, 78, 79, 80, 81, 82, 83, 84, 85, 86, 87, 88] (by decide +kernel) (by decide +kernel)
set_option maxRecDepth 20000 in
theorem gX9_cubes_X9_inPieces : GoodIn wsX9_cubes (wsV RX9 276 RX9 yX9_inPieces wsX9_inPieces) := goodIn_app (goodIn_of _ (by decide +kernel)) ggX9_cubes_X9_inPieces
theorem dX9_cubes_0 : decode cX9_cubes 0 = .ok (.iload_n 1, 1) := by decide +kernel
theorem dX9_cubes_1 : decode cX9_cubes 1 = .ok (.tableswitch 51 0 3 #[31, 36, 41, 46], 31) := by decide +kernel
theorem dX9_cubes_32 : decode cX9_cubes 32 = .ok (.aload_n 0, 1) := by decide +kernel
theorem dX9_cubes_33 : decode cX9_cubes 33 = .ok (.getfield 106, 3) := by decide +kernel
theorem dX9_cubes_36 : decode cX9_cubes 36 = .ok (.lreturn, 1) := by decide +kernel
theorem dX9_cubes_37 : decode cX9_cubes 37 = .ok (.aload_n 0, 1) := by decide +kernel
theorem dX9_cubes_38 : decode cX9_cubes 38 = .ok (.invokevirtual 141, 3) := by decide +kernel
theorem dX9_cubes_41 : decode cX9_cubes 41 = .ok (.lreturn, 1) := by decide +kernel
theorem dX9_cubes_42 : decode cX9_cubes 42 = .ok (.aload_n 0, 1) := by decide +kernel
theorem dX9_cubes_43 : decode cX9_cubes 43 = .ok (.invokevirtual 273, 3) := by decide +kernel
theorem dX9_cubes_46 : decode cX9_cubes 46 = .ok (.lreturn, 1) := by decide +kernel
theorem dX9_cubes_47 : decode cX9_cubes 47 = .ok (.aload_n 0, 1) := by decide +kernel
theorem dX9_cubes_48 : decode cX9_cubes 48 = .ok (.invokevirtual 276, 3) := by decide +kernel
theorem dX9_cubes_51 : decode cX9_cubes 51 = .ok (.lreturn, 1) := by decide +kernel
theorem dX9_cubes_52 : decode cX9_cubes 52 = .ok (.lconst 0, 1) := by decide +kernel
theorem dX9_cubes_53 : decode cX9_cubes 53 = .ok (.lreturn, 1) := by decide +kernel
set_option maxRecDepth 20000 in
theorem ggX9_setOf_X9_isPiece : GoodIn wsX9_setOf wsX9_isPiece := goodIn_r _ [6, 7, 8, 9, 5, 10, 11, 12, 13, 14, 15, 16, 17, 18, 19, 20, 21, 22, 23, 24, 25, 26, 27, 28, 29, 30, 31, 32, 33, 34, 35, 36, 37, 38, 39, 40, 41, 42, 43, 44, 45, 46, 47] (by decide +kernel) (by decide +kernel)
set_option maxRecDepth 20000 in
theorem gX9_setOf_X9_isPiece : GoodIn wsX9_setOf (wsV RX9 162 RX9 yX9_isPiece wsX9_isPiece) := goodIn_app (goodIn_of _ (by decide +kernel)) ggX9_setOf_X9_isPiece
theorem dX9_setOf_0 : decode cX9_setOf 0 = .ok (.aload_n 0, 1) := by decide +kernel
theorem dX9_setOf_1 : decode cX9_setOf 1 = .ok (.iload_n 1, 1) := by decide +kernel
theorem dX9_setOf_2 : decode cX9_setOf 2 = .ok (.invokevirtual 162, 3) := by decide +kernel
theorem dX9_setOf_5 : decode cX9_setOf 5 = .ok (.ifCond .eq 12, 3) := by decide +kernel
theorem dX9_setOf_8 : decode cX9_setOf 8 = .ok (.aload_n 0, 1) := by decide +kernel
theorem dX9_setOf_9 : decode cX9_setOf 9 = .ok (.getfield 47, 3) := by decide +kernel
theorem dX9_setOf_12 : decode cX9_setOf 12 = .ok (.iload_n 1, 1) := by decide +kernel
theorem dX9_setOf_13 : decode cX9_setOf 13 = .ok (.laload, 1) := by decide +kernel
theorem dX9_setOf_14 : decode cX9_setOf 14 = .ok (.goto 4, 3) := by decide +kernel
theorem dX9_setOf_17 : decode cX9_setOf 17 = .ok (.lconst 0, 1) := by decide +kernel
theorem dX9_setOf_18 : decode cX9_setOf 18 = .ok (.lreturn, 1) := by decide +kernel
set_option maxRecDepth 20000 in
theorem ggX9_hang_X9_many : GoodIn wsX9_hang wsX9_many := goodIn_r _ [5, 6, 18, 19, 20, 21, 22, 23, 24, 25, 26, 27, 28, 29, 30, 31, 32, 33, 34, 35, 36, 37, 38, 39, 40, 41, 42, 43, 44, 45, 46, 47, 48, 49, 50, 51, 52, 53, 54] (by decide +kernel) (by decide +kernel)
set_option maxRecDepth 20000 in
theorem gX9_hang_X9_many : GoodIn wsX9_hang (wsV RX9 86 RX9 yX9_many wsX9_many) := goodIn_app (goodIn_of _ (by decide +kernel)) ggX9_hang_X9_many
set_option maxRecDepth 20000 in
theorem ggX9_hang_X9_has : GoodIn wsX9_hang wsX9_has := goodIn_r _ [9] (by decide +kernel) (by decide +kernel)
set_option maxRecDepth 20000 in
theorem gX9_hang_X9_has : GoodIn wsX9_hang (va_wsS RX9 110 yX9_has wsX9_has) := goodIn_app (goodIn_of _ (by decide +kernel)) ggX9_hang_X9_has
set_option maxRecDepth 20000 in
theorem ggX9_hang_X9_from : GoodIn wsX9_hang wsX9_from := goodIn_r _ [13, 6, 14, 15, 16, 4, 17, 18, 19, 20, 21, 22, 23, 24, 25, 26, 27, 28, 29, 30, 31, 32, 33, 34, 35, 36, 37, 38, 39, 40, 41, 42, 43, 44, 45, 46, 47, 48, 49, 50, 51, 52, 53, 54] (by decide +kernel) (by decide +kernel)
set_option maxRecDepth 20000 in
theorem gX9_hang_X9_from : GoodIn wsX9_hang (wsV RX9 279 RX9 yX9_from wsX9_from) := goodIn_app (goodIn_of _ (by decide +kernel)) ggX9_hang_X9_from
theorem dX9_hang_0 : decode cX9_hang 0 = .ok (.lconst 1, 1) := by decide +kernel
theorem dX9_hang_1 : decode cX9_hang 1 = .ok (.iload_n 1, 1) := by decide +kernel
theorem dX9_hang_2 : decode cX9_hang 2 = .ok (.lshl, 1) := by decide +kernel
theorem dX9_hang_3 : decode cX9_hang 3 = .ok (.lstore 4, 2) := by decide +kernel
theorem dX9_hang_5 : decode cX9_hang 5 = .ok (.lconst 0, 1) := by decide +kernel
theorem dX9_hang_6 : decode cX9_hang 6 = .ok (.lstore 6, 2) := by decide +kernel
theorem dX9_hang_8 : decode cX9_hang 8 = .ok (.lload 4, 2) := by decide +kernel
theorem dX9_hang_10 : decode cX9_hang 10 = .ok (.lload 6, 2) := by decide +kernel
theorem dX9_hang_12 : decode cX9_hang 12 = .ok (.lcmp, 1) := by decide +kernel
theorem dX9_hang_13 : decode cX9_hang 13 = .ok (.ifCond .eq 92, 3) := by decide +kernel
theorem dX9_hang_16 : decode cX9_hang 16 = .ok (.lload 4, 2) := by decide +kernel
theorem dX9_hang_18 : decode cX9_hang 18 = .ok (.lstore 6, 2) := by decide +kernel
theorem dX9_hang_20 : decode cX9_hang 20 = .ok (.iconst 0, 1) := by decide +kernel
theorem dX9_hang_21 : decode cX9_hang 21 = .ok (.istore 8, 2) := by decide +kernel
theorem dX9_hang_23 : decode cX9_hang 23 = .ok (.iload 8, 2) := by decide +kernel
theorem dX9_hang_25 : decode cX9_hang 25 = .ok (.aload_n 0, 1) := by decide +kernel
theorem dX9_hang_26 : decode cX9_hang 26 = .ok (.invokevirtual 86, 3) := by decide +kernel
theorem dX9_hang_29 : decode cX9_hang 29 = .ok (.if_icmp .ge 73, 3) := by decide +kernel
theorem dX9_hang_32 : decode cX9_hang 32 = .ok (.iconst 0, 1) := by decide +kernel
theorem dX9_hang_33 : decode cX9_hang 33 = .ok (.istore 9, 2) := by decide +kernel
theorem dX9_hang_35 : decode cX9_hang 35 = .ok (.lload 6, 2) := by decide +kernel
theorem dX9_hang_37 : decode cX9_hang 37 = .ok (.iload 8, 2) := by decide +kernel
theorem dX9_hang_39 : decode cX9_hang 39 = .ok (.invokestatic 110, 3) := by decide +kernel
theorem dX9_hang_42 : decode cX9_hang 42 = .ok (.ifCond .eq 54, 3) := by decide +kernel
theorem dX9_hang_45 : decode cX9_hang 45 = .ok (.iload 9, 2) := by decide +kernel
theorem dX9_hang_47 : decode cX9_hang 47 = .ok (.bipush 6, 2) := by decide +kernel
theorem dX9_hang_49 : decode cX9_hang 49 = .ok (.if_icmp .ge 47, 3) := by decide +kernel
theorem dX9_hang_52 : decode cX9_hang 52 = .ok (.aload_n 0, 1) := by decide +kernel
theorem dX9_hang_53 : decode cX9_hang 53 = .ok (.iload 8, 2) := by decide +kernel
theorem dX9_hang_55 : decode cX9_hang 55 = .ok (.iload 9, 2) := by decide +kernel
theorem dX9_hang_57 : decode cX9_hang 57 = .ok (.invokevirtual 279, 3) := by decide +kernel
theorem dX9_hang_60 : decode cX9_hang 60 = .ok (.istore 10, 2) := by decide +kernel
theorem dX9_hang_62 : decode cX9_hang 62 = .ok (.lload 4, 2) := by decide +kernel
theorem dX9_hang_64 : decode cX9_hang 64 = .ok (.iload 10, 2) := by decide +kernel
theorem dX9_hang_66 : decode cX9_hang 66 = .ok (.iconst (-1), 1) := by decide +kernel
theorem dX9_hang_67 : decode cX9_hang 67 = .ok (.if_icmp .eq 19, 3) := by decide +kernel
theorem dX9_hang_70 : decode cX9_hang 70 = .ok (.lload_n 2, 1) := by decide +kernel
theorem dX9_hang_71 : decode cX9_hang 71 = .ok (.iload 10, 2) := by decide +kernel
theorem dX9_hang_73 : decode cX9_hang 73 = .ok (.invokestatic 110, 3) := by decide +kernel
theorem dX9_hang_76 : decode cX9_hang 76 = .ok (.ifCond .eq 10, 3) := by decide +kernel
theorem dX9_hang_79 : decode cX9_hang 79 = .ok (.lconst 1, 1) := by decide +kernel
theorem dX9_hang_80 : decode cX9_hang 80 = .ok (.iload 10, 2) := by decide +kernel
theorem dX9_hang_82 : decode cX9_hang 82 = .ok (.lshl, 1) := by decide +kernel
theorem dX9_hang_83 : decode cX9_hang 83 = .ok (.goto 4, 3) := by decide +kernel
theorem dX9_hang_86 : decode cX9_hang 86 = .ok (.lconst 0, 1) := by decide +kernel
theorem dX9_hang_87 : decode cX9_hang 87 = .ok (.lor, 1) := by decide +kernel
theorem dX9_hang_88 : decode cX9_hang 88 = .ok (.lstore 4, 2) := by decide +kernel
theorem dX9_hang_90 : decode cX9_hang 90 = .ok (.iinc 9 1, 3) := by decide +kernel
theorem dX9_hang_93 : decode cX9_hang 93 = .ok (.goto (-58), 3) := by decide +kernel
theorem dX9_hang_96 : decode cX9_hang 96 = .ok (.iinc 8 1, 3) := by decide +kernel
theorem dX9_hang_99 : decode cX9_hang 99 = .ok (.goto (-76), 3) := by decide +kernel
theorem dX9_hang_102 : decode cX9_hang 102 = .ok (.goto (-94), 3) := by decide +kernel
theorem dX9_hang_105 : decode cX9_hang 105 = .ok (.lload 4, 2) := by decide +kernel
theorem dX9_hang_107 : decode cX9_hang 107 = .ok (.lreturn, 1) := by decide +kernel
set_option maxRecDepth 20000 in
theorem ggX9_partsOf_X9_many : GoodIn wsX9_partsOf wsX9_many := goodIn_r _ [6, 7, 23, 24, 25, 26, 27, 28, 29, 30, 31, 32, 33, 34, 35, 36, 37, 38, 39, 40, 41, 42, 43, 44, 45, 46, 47, 48, 49, 50, 51, 52, 53, 54, 55, 56, 57, 58, 59] (by decide +kernel) (by decide +kernel)
set_option maxRecDepth 20000 in
theorem gX9_partsOf_X9_many : GoodIn wsX9_partsOf (wsV RX9 86 RX9 yX9_many wsX9_many) := goodIn_app (goodIn_of _ (by decide +kernel)) ggX9_partsOf_X9_many
set_option maxRecDepth 20000 in
theorem ggX9_partsOf_X9_has : GoodIn wsX9_partsOf wsX9_has := goodIn_r _ [10] (by decide +kernel) (by decide +kernel)
set_option maxRecDepth 20000 in
theorem gX9_partsOf_X9_has : GoodIn wsX9_partsOf (va_wsS RX9 110 yX9_has wsX9_has) := goodIn_app (goodIn_of _ (by decide +kernel)) ggX9_partsOf_X9_has
set_option maxRecDepth 20000 in
theorem ggX9_partsOf_X9_hang : GoodIn wsX9_partsOf wsX9_hang := goodIn_r _ [14, 2, 3, 4, 5, 6, 7, 8, 9, 10, 15, 16, 17, 18, 19, 20, 21, 22, 23, 24, 25, 26, 27, 28, 29, 30, 31, 32, 33, 34, 35, 36, 37, 38, 39, 40, 41, 42, 43, 44, 45, 46, 47, 48, 49, 50, 51, 52, 53, 54, 55, 56, 57, 58, 59] (by decide +kernel) (by decide +kernel)
set_option maxRecDepth 20000 in
theorem gX9_partsOf_X9_hang : GoodIn wsX9_partsOf (wsV RX9 282 RX9 yX9_hang wsX9_hang) := goodIn_app (goodIn_of _ (by decide +kernel)) ggX9_partsOf_X9_hang
theorem dX9_partsOf_0 : decode cX9_partsOf 0 = .ok (.lload_n 1, 1) := by decide +kernel
theorem dX9_partsOf_1 : decode cX9_partsOf 1 = .ok (.lstore_n 3, 1) := by decide +kernel
theorem dX9_partsOf_2 : decode cX9_partsOf 2 = .ok (.iconst 0, 1) := by decide +kernel
theorem dX9_partsOf_3 : decode cX9_partsOf 3 = .ok (.istore 5, 2) := by decide +kernel
theorem dX9_partsOf_5 : decode cX9_partsOf 5 = .ok (.iconst 0, 1) := by decide +kernel
theorem dX9_partsOf_6 : decode cX9_partsOf 6 = .ok (.istore 6, 2) := by decide +kernel
theorem dX9_partsOf_8 : decode cX9_partsOf 8 = .ok (.iload 6, 2) := by decide +kernel
theorem dX9_partsOf_10 : decode cX9_partsOf 10 = .ok (.aload_n 0, 1) := by decide +kernel
theorem dX9_partsOf_11 : decode cX9_partsOf 11 = .ok (.invokevirtual 86, 3) := by decide +kernel
theorem dX9_partsOf_14 : decode cX9_partsOf 14 = .ok (.if_icmp .ge 35, 3) := by decide +kernel
theorem dX9_partsOf_17 : decode cX9_partsOf 17 = .ok (.lload_n 3, 1) := by decide +kernel
theorem dX9_partsOf_18 : decode cX9_partsOf 18 = .ok (.iload 6, 2) := by decide +kernel
theorem dX9_partsOf_20 : decode cX9_partsOf 20 = .ok (.invokestatic 110, 3) := by decide +kernel
theorem dX9_partsOf_23 : decode cX9_partsOf 23 = .ok (.ifCond .eq 20, 3) := by decide +kernel
theorem dX9_partsOf_26 : decode cX9_partsOf 26 = .ok (.lload_n 3, 1) := by decide +kernel
theorem dX9_partsOf_27 : decode cX9_partsOf 27 = .ok (.aload_n 0, 1) := by decide +kernel
theorem dX9_partsOf_28 : decode cX9_partsOf 28 = .ok (.iload 6, 2) := by decide +kernel
theorem dX9_partsOf_30 : decode cX9_partsOf 30 = .ok (.lload_n 1, 1) := by decide +kernel
theorem dX9_partsOf_31 : decode cX9_partsOf 31 = .ok (.invokevirtual 282, 3) := by decide +kernel
theorem dX9_partsOf_34 : decode cX9_partsOf 34 = .ok (.ldc2_w 100, 3) := by decide +kernel
theorem dX9_partsOf_37 : decode cX9_partsOf 37 = .ok (.lxor, 1) := by decide +kernel
theorem dX9_partsOf_38 : decode cX9_partsOf 38 = .ok (.land, 1) := by decide +kernel
theorem dX9_partsOf_39 : decode cX9_partsOf 39 = .ok (.lstore_n 3, 1) := by decide +kernel
theorem dX9_partsOf_40 : decode cX9_partsOf 40 = .ok (.iinc 5 1, 3) := by decide +kernel
theorem dX9_partsOf_43 : decode cX9_partsOf 43 = .ok (.iinc 6 1, 3) := by decide +kernel
theorem dX9_partsOf_46 : decode cX9_partsOf 46 = .ok (.goto (-38), 3) := by decide +kernel
theorem dX9_partsOf_49 : decode cX9_partsOf 49 = .ok (.iload 5, 2) := by decide +kernel
theorem dX9_partsOf_51 : decode cX9_partsOf 51 = .ok (.ireturn, 1) := by decide +kernel
set_option maxRecDepth 20000 in
theorem ggX9_whole_X9_block : GoodIn wsX9_whole wsX9_block := goodIn_r _ [5, 6, 7, 8, 9, 10, 4, 11, 31, 32, 33, 34, 35, 36, 37, 38, 39, 40, 41, 42, 43, 44, 45, 46, 47, 48, 49, 50, 51, 52, 53, 54, 55, 56, 57, 58, 59, 60, 61, 62, 63, 64, 65, 66, 67] (by decide +kernel) (by decide +kernel)
set_option maxRecDepth 20000 in
theorem gX9_whole_X9_block : GoodIn wsX9_whole (wsV RX9 102 RX9 yX9_block wsX9_block) := goodIn_app (goodIn_of _ (by decide +kernel)) ggX9_whole_X9_block
set_option maxRecDepth 20000 in
theorem ggX9_whole_X9_partsOf : GoodIn wsX9_whole wsX9_partsOf := goodIn_r _ [15, 7, 8, 9, 10, 4, 11, 6, 16, 17, 18, 19, 20, 21, 22, 23, 24, 25, 26, 27, 28, 29, 30, 31, 32, 33, 34, 35, 36, 37, 38, 39, 40, 41, 42, 43, 44, 45, 46, 47, 48, 49, 50, 51, 52, 53, 54, 55, 56, 57, 58, 59, 60, 61, 62, 63, 64, 65, 66, 67] (by decide +kernel) (by decide +kernel)
set_option maxRecDepth 20000 in
theorem gX9_whole_X9_partsOf : GoodIn wsX9_whole (wsV RX9 285 RX9 yX9_partsOf wsX9_partsOf) := goodIn_app (goodIn_of _ (by decide +kernel)) ggX9_whole_X9_partsOf
theorem dX9_whole_0 : decode cX9_whole 0 = .ok (.aload_n 0, 1) := by decide +kernel
theorem dX9_whole_1 : decode cX9_whole 1 = .ok (.lload_n 1, 1) := by decide +kernel
theorem dX9_whole_2 : decode cX9_whole 2 = .ok (.aload_n 0, 1) := by decide +kernel
theorem dX9_whole_3 : decode cX9_whole 3 = .ok (.invokevirtual 102, 3) := by decide +kernel
theorem dX9_whole_6 : decode cX9_whole 6 = .ok (.land, 1) := by decide +kernel
theorem dX9_whole_7 : decode cX9_whole 7 = .ok (.invokevirtual 285, 3) := by decide +kernel
theorem dX9_whole_10 : decode cX9_whole 10 = .ok (.iconst 1, 1) := by decide +kernel
theorem dX9_whole_11 : decode cX9_whole 11 = .ok (.if_icmp .gt 7, 3) := by decide +kernel
theorem dX9_whole_14 : decode cX9_whole 14 = .ok (.iconst 1, 1) := by decide +kernel
theorem dX9_whole_15 : decode cX9_whole 15 = .ok (.goto 4, 3) := by decide +kernel
theorem dX9_whole_18 : decode cX9_whole 18 = .ok (.iconst 0, 1) := by decide +kernel
theorem dX9_whole_19 : decode cX9_whole 19 = .ok (.ireturn, 1) := by decide +kernel
set_option maxRecDepth 20000 in
theorem ggX9_parts_X9_partsOf : GoodIn wsX9_parts wsX9_partsOf := goodIn_r _ [6, 7, 8, 9, 10, 5, 11, 12, 13, 14, 15, 16, 17, 18, 19, 20, 21, 22, 23, 24, 25, 26, 27, 28, 29, 30, 31, 32, 33, 34, 35, 36, 37, 38, 39, 40, 41, 42, 43, 44, 45, 46, 47, 48, 49, 50, 51, 52, 53, 54, 55, 56, 57, 58, 59, 60, 61, 62, 63, 64] (by decide +kernel) (by decide +kernel)
set_option maxRecDepth 20000 in
theorem gX9_parts_X9_partsOf : GoodIn wsX9_parts (wsV RX9 285 RX9 yX9_partsOf wsX9_partsOf) := goodIn_app (goodIn_of _ (by decide +kernel)) ggX9_parts_X9_partsOf
theorem dX9_parts_0 : decode cX9_parts 0 = .ok (.aload_n 0, 1) := by decide +kernel
theorem dX9_parts_1 : decode cX9_parts 1 = .ok (.aload_n 0, 1) := by decide +kernel
theorem dX9_parts_2 : decode cX9_parts 2 = .ok (.getfield 106, 3) := by decide +kernel
theorem dX9_parts_5 : decode cX9_parts 5 = .ok (.invokevirtual 285, 3) := by decide +kernel
theorem dX9_parts_8 : decode cX9_parts 8 = .ok (.ireturn, 1) := by decide +kernel
set_option maxRecDepth 20000 in
theorem ggX9_onFrom_X9_many : GoodIn wsX9_onFrom wsX9_many := goodIn_r _ [5, 6, 18, 19, 20, 21, 22, 23, 24, 25, 26, 27, 28, 29, 30, 31, 32, 33, 34, 35, 36, 37, 38, 39, 40, 41, 42, 43, 44, 45, 46, 47, 48, 49, 50, 51, 52, 53, 54] (by decide +kernel) (by decide +kernel)
set_option maxRecDepth 20000 in
theorem gX9_onFrom_X9_many : GoodIn wsX9_onFrom (wsV RX9 86 RX9 yX9_many wsX9_many) := goodIn_app (goodIn_of _ (by decide +kernel)) ggX9_onFrom_X9_many
set_option maxRecDepth 20000 in
theorem ggX9_onFrom_X9_has : GoodIn wsX9_onFrom wsX9_has := goodIn_r _ [9] (by decide +kernel) (by decide +kernel)
set_option maxRecDepth 20000 in
theorem gX9_onFrom_X9_has : GoodIn wsX9_onFrom (va_wsS RX9 110 yX9_has wsX9_has) := goodIn_app (goodIn_of _ (by decide +kernel)) ggX9_onFrom_X9_has
set_option maxRecDepth 20000 in
theorem ggX9_onFrom_X9_from : GoodIn wsX9_onFrom wsX9_from := goodIn_r _ [13, 6, 14, 15, 16, 4, 17, 18, 19, 20, 21, 22, 23, 24, 25, 26, 27, 28, 29, 30, 31, 32, 33, 34, 35, 36, 37, 38, 39, 40, 41, 42, 43, 44, 45, 46, 47, 48, 49, 50, 51, 52, 53, 54] (by decide +kernel) (by decide +kernel)
set_option maxRecDepth 20000 in
theorem gX9_onFrom_X9_from : GoodIn wsX9_onFrom (wsV RX9 279 RX9 yX9_from wsX9_from) := goodIn_app (goodIn_of _ (by decide +kernel)) ggX9_onFrom_X9_from
theorem dX9_onFrom_0 : decode cX9_onFrom 0 = .ok (.lconst 0, 1) := by decide +kernel
theorem dX9_onFrom_1 : decode cX9_onFrom 1 = .ok (.lstore 4, 2) := by decide +kernel
theorem dX9_onFrom_3 : decode cX9_onFrom 3 = .ok (.iconst 0, 1) := by decide +kernel
theorem dX9_onFrom_4 : decode cX9_onFrom 4 = .ok (.istore 6, 2) := by decide +kernel
theorem dX9_onFrom_6 : decode cX9_onFrom 6 = .ok (.iload 6, 2) := by decide +kernel
theorem dX9_onFrom_8 : decode cX9_onFrom 8 = .ok (.aload_n 0, 1) := by decide +kernel
theorem dX9_onFrom_9 : decode cX9_onFrom 9 = .ok (.invokevirtual 86, 3) := by decide +kernel
theorem dX9_onFrom_12 : decode cX9_onFrom 12 = .ok (.if_icmp .ge 50, 3) := by decide +kernel
theorem dX9_onFrom_15 : decode cX9_onFrom 15 = .ok (.lload_n 1, 1) := by decide +kernel
theorem dX9_onFrom_16 : decode cX9_onFrom 16 = .ok (.iload 6, 2) := by decide +kernel
theorem dX9_onFrom_18 : decode cX9_onFrom 18 = .ok (.invokestatic 110, 3) := by decide +kernel
theorem dX9_onFrom_21 : decode cX9_onFrom 21 = .ok (.ifCond .eq 13, 3) := by decide +kernel
theorem dX9_onFrom_24 : decode cX9_onFrom 24 = .ok (.aload_n 0, 1) := by decide +kernel
theorem dX9_onFrom_25 : decode cX9_onFrom 25 = .ok (.iload 6, 2) := by decide +kernel
theorem dX9_onFrom_27 : decode cX9_onFrom 27 = .ok (.iload_n 3, 1) := by decide +kernel
theorem dX9_onFrom_28 : decode cX9_onFrom 28 = .ok (.invokevirtual 279, 3) := by decide +kernel
theorem dX9_onFrom_31 : decode cX9_onFrom 31 = .ok (.goto 4, 3) := by decide +kernel
theorem dX9_onFrom_34 : decode cX9_onFrom 34 = .ok (.iconst (-1), 1) := by decide +kernel
theorem dX9_onFrom_35 : decode cX9_onFrom 35 = .ok (.istore 7, 2) := by decide +kernel
theorem dX9_onFrom_37 : decode cX9_onFrom 37 = .ok (.lload 4, 2) := by decide +kernel
theorem dX9_onFrom_39 : decode cX9_onFrom 39 = .ok (.iload 7, 2) := by decide +kernel
theorem dX9_onFrom_41 : decode cX9_onFrom 41 = .ok (.iconst (-1), 1) := by decide +kernel
theorem dX9_onFrom_42 : decode cX9_onFrom 42 = .ok (.if_icmp .eq 10, 3) := by decide +kernel
theorem dX9_onFrom_45 : decode cX9_onFrom 45 = .ok (.lconst 1, 1) := by decide +kernel
theorem dX9_onFrom_46 : decode cX9_onFrom 46 = .ok (.iload 7, 2) := by decide +kernel
theorem dX9_onFrom_48 : decode cX9_onFrom 48 = .ok (.lshl, 1) := by decide +kernel
theorem dX9_onFrom_49 : decode cX9_onFrom 49 = .ok (.goto 4, 3) := by decide +kernel
theorem dX9_onFrom_52 : decode cX9_onFrom 52 = .ok (.lconst 0, 1) := by decide +kernel
theorem dX9_onFrom_53 : decode cX9_onFrom 53 = .ok (.lor, 1) := by decide +kernel
theorem dX9_onFrom_54 : decode cX9_onFrom 54 = .ok (.lstore 4, 2) := by decide +kernel
theorem dX9_onFrom_56 : decode cX9_onFrom 56 = .ok (.iinc 6 1, 3) := by decide +kernel
theorem dX9_onFrom_59 : decode cX9_onFrom 59 = .ok (.goto (-53), 3) := by decide +kernel
theorem dX9_onFrom_62 : decode cX9_onFrom 62 = .ok (.lload 4, 2) := by decide +kernel
theorem dX9_onFrom_64 : decode cX9_onFrom 64 = .ok (.lreturn, 1) := by decide +kernel
set_option maxRecDepth 20000 in
theorem ggX9_isInRow_X9_many : GoodIn wsX9_isInRow wsX9_many := goodIn_r _ [5, 6, 14, 15, 16, 17, 18, 19, 20, 21, 22, 23, 24, 25, 26, 27, 28, 29, 30, 31, 32, 33, 34, 35, 36, 37, 38, 39, 40, 41, 42, 43, 44, 45, 46, 47, 48, 49, 50] (by decide +kernel) (by decide +kernel)
set_option maxRecDepth 20000 in
theorem gX9_isInRow_X9_many : GoodIn wsX9_isInRow (wsV RX9 86 RX9 yX9_many wsX9_many) := goodIn_app (goodIn_of _ (by decide +kernel)) ggX9_isInRow_X9_many
set_option maxRecDepth 20000 in
theorem ggX9_isInRow_X9_has : GoodIn wsX9_isInRow wsX9_has := goodIn_r _ [9] (by decide +kernel) (by decide +kernel)
set_option maxRecDepth 20000 in
theorem gX9_isInRow_X9_has : GoodIn wsX9_isInRow (va_wsS RX9 110 yX9_has wsX9_has) := goodIn_app (goodIn_of _ (by decide +kernel)) ggX9_isInRow_X9_has
set_option maxRecDepth 20000 in
theorem ggX9_isInRow_X9_sideOf : GoodIn wsX9_isInRow wsX9_sideOf := goodIn_r _ [13, 6, 14, 15, 16, 17, 18, 19, 20, 21, 22, 23, 24, 25, 26, 27, 28, 29, 30, 31, 32, 33, 34, 35, 36, 37, 38, 39, 40, 41, 42, 43, 44, 45, 46, 47, 48, 49, 50] (by decide +kernel) (by decide +kernel)
set_option maxRecDepth 20000 in
theorem gX9_isInRow_X9_sideOf : GoodIn wsX9_isInRow (wsV RX9 114 RX9 yX9_sideOf wsX9_sideOf) := goodIn_app (goodIn_of _ (by decide +kernel)) ggX9_isInRow_X9_sideOf
theorem dX9_isInRow_0 : decode cX9_isInRow 0 = .ok (.iconst (-1), 1) := by decide +kernel
theorem dX9_isInRow_1 : decode cX9_isInRow 1 = .ok (.istore 4, 2) := by decide +kernel
theorem dX9_isInRow_3 : decode cX9_isInRow 3 = .ok (.iconst 0, 1) := by decide +kernel
theorem dX9_isInRow_4 : decode cX9_isInRow 4 = .ok (.istore 5, 2) := by decide +kernel
theorem dX9_isInRow_6 : decode cX9_isInRow 6 = .ok (.iload 5, 2) := by decide +kernel
theorem dX9_isInRow_8 : decode cX9_isInRow 8 = .ok (.aload_n 0, 1) := by decide +kernel
theorem dX9_isInRow_9 : decode cX9_isInRow 9 = .ok (.invokevirtual 86, 3) := by decide +kernel
theorem dX9_isInRow_12 : decode cX9_isInRow 12 = .ok (.if_icmp .ge 77, 3) := by decide +kernel
theorem dX9_isInRow_15 : decode cX9_isInRow 15 = .ok (.lload_n 1, 1) := by decide +kernel
theorem dX9_isInRow_16 : decode cX9_isInRow 16 = .ok (.iload 5, 2) := by decide +kernel
theorem dX9_isInRow_18 : decode cX9_isInRow 18 = .ok (.invokestatic 110, 3) := by decide +kernel
theorem dX9_isInRow_21 : decode cX9_isInRow 21 = .ok (.ifCond .eq 62, 3) := by decide +kernel
theorem dX9_isInRow_24 : decode cX9_isInRow 24 = .ok (.iload 4, 2) := by decide +kernel
theorem dX9_isInRow_26 : decode cX9_isInRow 26 = .ok (.iconst (-1), 1) := by decide +kernel
theorem dX9_isInRow_27 : decode cX9_isInRow 27 = .ok (.if_icmp .ne 8, 3) := by decide +kernel
theorem dX9_isInRow_30 : decode cX9_isInRow 30 = .ok (.iload 5, 2) := by decide +kernel
theorem dX9_isInRow_32 : decode cX9_isInRow 32 = .ok (.goto 5, 3) := by decide +kernel
theorem dX9_isInRow_35 : decode cX9_isInRow 35 = .ok (.iload 4, 2) := by decide +kernel
theorem dX9_isInRow_37 : decode cX9_isInRow 37 = .ok (.istore 4, 2) := by decide +kernel
theorem dX9_isInRow_39 : decode cX9_isInRow 39 = .ok (.iconst 0, 1) := by decide +kernel
theorem dX9_isInRow_40 : decode cX9_isInRow 40 = .ok (.istore 6, 2) := by decide +kernel
theorem dX9_isInRow_42 : decode cX9_isInRow 42 = .ok (.iload 6, 2) := by decide +kernel
theorem dX9_isInRow_44 : decode cX9_isInRow 44 = .ok (.iconst 3, 1) := by decide +kernel
theorem dX9_isInRow_45 : decode cX9_isInRow 45 = .ok (.if_icmp .ge 38, 3) := by decide +kernel
theorem dX9_isInRow_48 : decode cX9_isInRow 48 = .ok (.iload 6, 2) := by decide +kernel
theorem dX9_isInRow_50 : decode cX9_isInRow 50 = .ok (.iload_n 3, 1) := by decide +kernel
theorem dX9_isInRow_51 : decode cX9_isInRow 51 = .ok (.iconst 2, 1) := by decide +kernel
theorem dX9_isInRow_52 : decode cX9_isInRow 52 = .ok (.idiv, 1) := by decide +kernel
theorem dX9_isInRow_53 : decode cX9_isInRow 53 = .ok (.if_icmp .eq 24, 3) := by decide +kernel
theorem dX9_isInRow_56 : decode cX9_isInRow 56 = .ok (.aload_n 0, 1) := by decide +kernel
theorem dX9_isInRow_57 : decode cX9_isInRow 57 = .ok (.iload 5, 2) := by decide +kernel
theorem dX9_isInRow_59 : decode cX9_isInRow 59 = .ok (.iload 6, 2) := by decide +kernel
theorem dX9_isInRow_61 : decode cX9_isInRow 61 = .ok (.invokevirtual 114, 3) := by decide +kernel
theorem dX9_isInRow_64 : decode cX9_isInRow 64 = .ok (.aload_n 0, 1) := by decide +kernel
theorem dX9_isInRow_65 : decode cX9_isInRow 65 = .ok (.iload 4, 2) := by decide +kernel
theorem dX9_isInRow_67 : decode cX9_isInRow 67 = .ok (.iload 6, 2) := by decide +kernel
theorem dX9_isInRow_69 : decode cX9_isInRow 69 = .ok (.invokevirtual 114, 3) := by decide +kernel
theorem dX9_isInRow_72 : decode cX9_isInRow 72 = .ok (.if_icmp .eq 5, 3) := by decide +kernel
theorem dX9_isInRow_75 : decode cX9_isInRow 75 = .ok (.iconst 0, 1) := by decide +kernel
theorem dX9_isInRow_76 : decode cX9_isInRow 76 = .ok (.ireturn, 1) := by decide +kernel
theorem dX9_isInRow_77 : decode cX9_isInRow 77 = .ok (.iinc 6 1, 3) := by decide +kernel
theorem dX9_isInRow_80 : decode cX9_isInRow 80 = .ok (.goto (-38), 3) := by decide +kernel
theorem dX9_isInRow_83 : decode cX9_isInRow 83 = .ok (.iinc 5 1, 3) := by decide +kernel
theorem dX9_isInRow_86 : decode cX9_isInRow 86 = .ok (.goto (-80), 3) := by decide +kernel
theorem dX9_isInRow_89 : decode cX9_isInRow 89 = .ok (.iconst 1, 1) := by decide +kernel
theorem dX9_isInRow_90 : decode cX9_isInRow 90 = .ok (.ireturn, 1) := by decide +kernel
set_option maxRecDepth 20000 in
theorem ggX9_isAtEnd_X9_many : GoodIn wsX9_isAtEnd wsX9_many := goodIn_r _ [5, 6, 18, 19, 20, 21, 22, 23, 24, 25, 26, 27, 28, 29, 30, 31, 32, 33, 34, 35, 36, 37, 38, 39, 40, 41, 42, 43, 44, 45, 46, 47, 48, 49, 50, 51, 52, 53, 54] (by decide +kernel) (by decide +kernel)
set_option maxRecDepth 20000 in
theorem gX9_isAtEnd_X9_many : GoodIn wsX9_isAtEnd (wsV RX9 86 RX9 yX9_many wsX9_many) := goodIn_app (goodIn_of _ (by decide +kernel)) ggX9_isAtEnd_X9_many
set_option maxRecDepth 20000 in
theorem ggX9_isAtEnd_X9_has : GoodIn wsX9_isAtEnd wsX9_has := goodIn_r _ [9] (by decide +kernel) (by decide +kernel)
set_option maxRecDepth 20000 in
theorem gX9_isAtEnd_X9_has : GoodIn wsX9_isAtEnd (va_wsS RX9 110 yX9_has wsX9_has) := goodIn_app (goodIn_of _ (by decide +kernel)) ggX9_isAtEnd_X9_has
set_option maxRecDepth 20000 in
theorem ggX9_isAtEnd_X9_from : GoodIn wsX9_isAtEnd wsX9_from := goodIn_r _ [13, 6, 14, 15, 16, 4, 17, 18, 19, 20, 21, 22, 23, 24, 25, 26, 27, 28, 29, 30, 31, 32, 33, 34, 35, 36, 37, 38, 39, 40, 41, 42, 43, 44, 45, 46, 47, 48, 49, 50, 51, 52, 53, 54] (by decide +kernel) (by decide +kernel)
set_option maxRecDepth 20000 in
theorem gX9_isAtEnd_X9_from : GoodIn wsX9_isAtEnd (wsV RX9 279 RX9 yX9_from wsX9_from) := goodIn_app (goodIn_of _ (by decide +kernel)) ggX9_isAtEnd_X9_from
theorem dX9_isAtEnd_0 : decode cX9_isAtEnd 0 = .ok (.iconst 0, 1) := by decide +kernel
theorem dX9_isAtEnd_1 : decode cX9_isAtEnd 1 = .ok (.istore 4, 2) := by decide +kernel
theorem dX9_isAtEnd_3 : decode cX9_isAtEnd 3 = .ok (.iload 4, 2) := by decide +kernel
theorem dX9_isAtEnd_5 : decode cX9_isAtEnd 5 = .ok (.aload_n 0, 1) := by decide +kernel
theorem dX9_isAtEnd_6 : decode cX9_isAtEnd 6 = .ok (.invokevirtual 86, 3) := by decide +kernel
theorem dX9_isAtEnd_9 : decode cX9_isAtEnd 9 = .ok (.if_icmp .ge 31, 3) := by decide +kernel
theorem dX9_isAtEnd_12 : decode cX9_isAtEnd 12 = .ok (.lload_n 1, 1) := by decide +kernel
theorem dX9_isAtEnd_13 : decode cX9_isAtEnd 13 = .ok (.iload 4, 2) := by decide +kernel
theorem dX9_isAtEnd_15 : decode cX9_isAtEnd 15 = .ok (.invokestatic 110, 3) := by decide +kernel
theorem dX9_isAtEnd_18 : decode cX9_isAtEnd 18 = .ok (.ifCond .eq 16, 3) := by decide +kernel
theorem dX9_isAtEnd_21 : decode cX9_isAtEnd 21 = .ok (.aload_n 0, 1) := by decide +kernel
theorem dX9_isAtEnd_22 : decode cX9_isAtEnd 22 = .ok (.iload 4, 2) := by decide +kernel
theorem dX9_isAtEnd_24 : decode cX9_isAtEnd 24 = .ok (.iload_n 3, 1) := by decide +kernel
theorem dX9_isAtEnd_25 : decode cX9_isAtEnd 25 = .ok (.invokevirtual 279, 3) := by decide +kernel
theorem dX9_isAtEnd_28 : decode cX9_isAtEnd 28 = .ok (.iconst (-1), 1) := by decide +kernel
theorem dX9_isAtEnd_29 : decode cX9_isAtEnd 29 = .ok (.if_icmp .ne 5, 3) := by decide +kernel
theorem dX9_isAtEnd_32 : decode cX9_isAtEnd 32 = .ok (.iconst 1, 1) := by decide +kernel
theorem dX9_isAtEnd_33 : decode cX9_isAtEnd 33 = .ok (.ireturn, 1) := by decide +kernel
theorem dX9_isAtEnd_34 : decode cX9_isAtEnd 34 = .ok (.iinc 4 1, 3) := by decide +kernel
theorem dX9_isAtEnd_37 : decode cX9_isAtEnd 37 = .ok (.goto (-34), 3) := by decide +kernel
theorem dX9_isAtEnd_40 : decode cX9_isAtEnd 40 = .ok (.iconst 0, 1) := by decide +kernel
theorem dX9_isAtEnd_41 : decode cX9_isAtEnd 41 = .ok (.ireturn, 1) := by decide +kernel
set_option maxRecDepth 20000 in
theorem ggX9_comesBy_X9_isInRow : GoodIn wsX9_comesBy wsX9_isInRow := goodIn_r _ [8, 9, 10, 11, 7, 12, 13, 14, 15, 16, 17, 18, 19, 20, 33, 34, 35, 36, 37, 38, 39, 40, 41, 42, 43, 44, 45, 46, 47, 48, 49, 50, 51, 52, 53, 54, 55, 56, 57, 58, 59, 60, 61, 62, 63, 64, 65, 66, 67, 68, 69] (by decide +kernel) (by decide +kernel)
set_option maxRecDepth 20000 in
theorem gX9_comesBy_X9_isInRow : GoodIn wsX9_comesBy (wsV RX9 288 RX9 yX9_isInRow wsX9_isInRow) := goodIn_app (goodIn_of _ (by decide +kernel)) ggX9_comesBy_X9_isInRow
set_option maxRecDepth 20000 in
theorem ggX9_comesBy_X9_isAtEnd : GoodIn wsX9_comesBy wsX9_isAtEnd := goodIn_r _ [24, 9, 10, 11, 7, 12, 13, 14, 15, 16, 25, 26, 27, 28, 17, 18, 19, 20, 33, 34, 35, 36, 37, 38, 39, 40, 41, 42, 43, 44, 45, 46, 47, 48, 49, 50, 51, 52, 53, 54, 55, 56, 57, 58, 59, 60, 61, 62, 63, 64, 65, 66, 67, 68, 69] (by decide +kernel) (by decide +kernel)
set_option maxRecDepth 20000 in
theorem gX9_comesBy_X9_isAtEnd : GoodIn wsX9_comesBy (wsV RX9 291 RX9 yX9_isAtEnd wsX9_isAtEnd) := goodIn_app (goodIn_of _ (by decide +kernel)) ggX9_comesBy_X9_isAtEnd
set_option maxRecDepth 20000 in
theorem ggX9_comesBy_X9_onFrom : GoodIn wsX9_comesBy wsX9_onFrom := goodIn_r _ [32, 9, 10, 11, 7, 12, 13, 14, 15, 16, 25, 26, 27, 28, 17, 18, 19, 20, 33, 34, 35, 36, 37, 38, 39, 40, 41, 42, 43, 44, 45, 46, 47, 48, 49, 50, 51, 52, 53, 54, 55, 56, 57, 58, 59, 60, 61, 62, 63, 64, 65, 66, 67, 68, 69] (by decide +kernel) (by decide +kernel)
set_option maxRecDepth 20000 in
theorem gX9_comesBy_X9_onFrom : GoodIn wsX9_comesBy (wsV RX9 294 RX9 yX9_onFrom wsX9_onFrom) := goodIn_app (goodIn_of _ (by decide +kernel)) ggX9_comesBy_X9_onFrom
theorem dX9_comesBy_0 : decode cX9_comesBy 0 = .ok (.aload_n 0, 1) := by decide +kernel
theorem dX9_comesBy_1 : decode cX9_comesBy 1 = .ok (.getfield 28, 3) := by decide +kernel
theorem dX9_comesBy_4 : decode cX9_comesBy 4 = .ok (.iload_n 1, 1) := by decide +kernel
theorem dX9_comesBy_5 : decode cX9_comesBy 5 = .ok (.iaload, 1) := by decide +kernel
theorem dX9_comesBy_6 : decode cX9_comesBy 6 = .ok (.istore 6, 2) := by decide +kernel
theorem dX9_comesBy_8 : decode cX9_comesBy 8 = .ok (.aload_n 0, 1) := by decide +kernel
theorem dX9_comesBy_9 : decode cX9_comesBy 9 = .ok (.getfield 31, 3) := by decide +kernel
theorem dX9_comesBy_12 : decode cX9_comesBy 12 = .ok (.iload_n 1, 1) := by decide +kernel
theorem dX9_comesBy_13 : decode cX9_comesBy 13 = .ok (.iaload, 1) := by decide +kernel
theorem dX9_comesBy_14 : decode cX9_comesBy 14 = .ok (.istore 7, 2) := by decide +kernel
theorem dX9_comesBy_16 : decode cX9_comesBy 16 = .ok (.lload_n 2, 1) := by decide +kernel
theorem dX9_comesBy_17 : decode cX9_comesBy 17 = .ok (.lconst 0, 1) := by decide +kernel
theorem dX9_comesBy_18 : decode cX9_comesBy 18 = .ok (.lcmp, 1) := by decide +kernel
theorem dX9_comesBy_19 : decode cX9_comesBy 19 = .ok (.ifCond .ne 5, 3) := by decide +kernel
theorem dX9_comesBy_22 : decode cX9_comesBy 22 = .ok (.iconst 1, 1) := by decide +kernel
theorem dX9_comesBy_23 : decode cX9_comesBy 23 = .ok (.ireturn, 1) := by decide +kernel
theorem dX9_comesBy_24 : decode cX9_comesBy 24 = .ok (.iload 6, 2) := by decide +kernel
theorem dX9_comesBy_26 : decode cX9_comesBy 26 = .ok (.iconst 3, 1) := by decide +kernel
theorem dX9_comesBy_27 : decode cX9_comesBy 27 = .ok (.if_icmp .ne 13, 3) := by decide +kernel
theorem dX9_comesBy_30 : decode cX9_comesBy 30 = .ok (.aload_n 0, 1) := by decide +kernel
theorem dX9_comesBy_31 : decode cX9_comesBy 31 = .ok (.lload_n 2, 1) := by decide +kernel
theorem dX9_comesBy_32 : decode cX9_comesBy 32 = .ok (.iload 7, 2) := by decide +kernel
theorem dX9_comesBy_34 : decode cX9_comesBy 34 = .ok (.invokevirtual 288, 3) := by decide +kernel
theorem dX9_comesBy_37 : decode cX9_comesBy 37 = .ok (.ifCond .eq 19, 3) := by decide +kernel
theorem dX9_comesBy_40 : decode cX9_comesBy 40 = .ok (.iload 6, 2) := by decide +kernel
theorem dX9_comesBy_42 : decode cX9_comesBy 42 = .ok (.iconst 4, 1) := by decide +kernel
theorem dX9_comesBy_43 : decode cX9_comesBy 43 = .ok (.if_icmp .ne 15, 3) := by decide +kernel
theorem dX9_comesBy_46 : decode cX9_comesBy 46 = .ok (.aload_n 0, 1) := by decide +kernel
theorem dX9_comesBy_47 : decode cX9_comesBy 47 = .ok (.lload_n 2, 1) := by decide +kernel
theorem dX9_comesBy_48 : decode cX9_comesBy 48 = .ok (.iload 7, 2) := by decide +kernel
theorem dX9_comesBy_50 : decode cX9_comesBy 50 = .ok (.invokevirtual 291, 3) := by decide +kernel
theorem dX9_comesBy_53 : decode cX9_comesBy 53 = .ok (.ifCond .ne 5, 3) := by decide +kernel
theorem dX9_comesBy_56 : decode cX9_comesBy 56 = .ok (.iconst 0, 1) := by decide +kernel
theorem dX9_comesBy_57 : decode cX9_comesBy 57 = .ok (.ireturn, 1) := by decide +kernel
theorem dX9_comesBy_58 : decode cX9_comesBy 58 = .ok (.iload 6, 2) := by decide +kernel
theorem dX9_comesBy_60 : decode cX9_comesBy 60 = .ok (.iconst 2, 1) := by decide +kernel
theorem dX9_comesBy_61 : decode cX9_comesBy 61 = .ok (.if_icmp .ne 7, 3) := by decide +kernel
theorem dX9_comesBy_64 : decode cX9_comesBy 64 = .ok (.iconst 1, 1) := by decide +kernel
theorem dX9_comesBy_65 : decode cX9_comesBy 65 = .ok (.goto 14, 3) := by decide +kernel
theorem dX9_comesBy_68 : decode cX9_comesBy 68 = .ok (.iload 6, 2) := by decide +kernel
theorem dX9_comesBy_70 : decode cX9_comesBy 70 = .ok (.iconst 5, 1) := by decide +kernel
theorem dX9_comesBy_71 : decode cX9_comesBy 71 = .ok (.if_icmp .ne 7, 3) := by decide +kernel
theorem dX9_comesBy_74 : decode cX9_comesBy 74 = .ok (.iconst 2, 1) := by decide +kernel
theorem dX9_comesBy_75 : decode cX9_comesBy 75 = .ok (.goto 4, 3) := by decide +kernel
theorem dX9_comesBy_78 : decode cX9_comesBy 78 = .ok (.iconst 0, 1) := by decide +kernel
theorem dX9_comesBy_79 : decode cX9_comesBy 79 = .ok (.istore 8, 2) := by decide +kernel
theorem dX9_comesBy_81 : decode cX9_comesBy 81 = .ok (.lload_n 2, 1) := by decide +kernel
theorem dX9_comesBy_82 : decode cX9_comesBy 82 = .ok (.lstore 9, 2) := by decide +kernel
theorem dX9_comesBy_84 : decode cX9_comesBy 84 = .ok (.iconst 0, 1) := by decide +kernel
theorem dX9_comesBy_85 : decode cX9_comesBy 85 = .ok (.istore 11, 2) := by decide +kernel
theorem dX9_comesBy_87 : decode cX9_comesBy 87 = .ok (.lload 9, 2) := by decide +kernel
theorem dX9_comesBy_89 : decode cX9_comesBy 89 = .ok (.lconst 0, 1) := by decide +kernel
theorem dX9_comesBy_90 : decode cX9_comesBy 90 = .ok (.lcmp, 1) := by decide +kernel
theorem dX9_comesBy_91 : decode cX9_comesBy 91 = .ok (.ifCond .eq 52, 3) := by decide +kernel
theorem dX9_comesBy_94 : decode cX9_comesBy 94 = .ok (.aload_n 0, 1) := by decide +kernel
theorem dX9_comesBy_95 : decode cX9_comesBy 95 = .ok (.lload 9, 2) := by decide +kernel
theorem dX9_comesBy_97 : decode cX9_comesBy 97 = .ok (.iload 11, 2) := by decide +kernel
theorem dX9_comesBy_99 : decode cX9_comesBy 99 = .ok (.iload 8, 2) := by decide +kernel
theorem dX9_comesBy_101 : decode cX9_comesBy 101 = .ok (.if_icmp .lt 8, 3) := by decide +kernel
theorem dX9_comesBy_104 : decode cX9_comesBy 104 = .ok (.iload 8, 2) := by decide +kernel
theorem dX9_comesBy_106 : decode cX9_comesBy 106 = .ok (.ifCond .ne 8, 3) := by decide +kernel
theorem dX9_comesBy_109 : decode cX9_comesBy 109 = .ok (.iload 7, 2) := by decide +kernel
theorem dX9_comesBy_111 : decode cX9_comesBy 111 = .ok (.goto 9, 3) := by decide +kernel
theorem dX9_comesBy_114 : decode cX9_comesBy 114 = .ok (.aload_n 0, 1) := by decide +kernel
theorem dX9_comesBy_115 : decode cX9_comesBy 115 = .ok (.getfield 34, 3) := by decide +kernel
theorem dX9_comesBy_118 : decode cX9_comesBy 118 = .ok (.iload_n 1, 1) := by decide +kernel
theorem dX9_comesBy_119 : decode cX9_comesBy 119 = .ok (.iaload, 1) := by decide +kernel
theorem dX9_comesBy_120 : decode cX9_comesBy 120 = .ok (.invokevirtual 294, 3) := by decide +kernel
theorem dX9_comesBy_123 : decode cX9_comesBy 123 = .ok (.lstore 9, 2) := by decide +kernel
theorem dX9_comesBy_125 : decode cX9_comesBy 125 = .ok (.lload 9, 2) := by decide +kernel
theorem dX9_comesBy_127 : decode cX9_comesBy 127 = .ok (.lload 4, 2) := by decide +kernel
theorem dX9_comesBy_129 : decode cX9_comesBy 129 = .ok (.land, 1) := by decide +kernel
theorem dX9_comesBy_130 : decode cX9_comesBy 130 = .ok (.lconst 0, 1) := by decide +kernel
theorem dX9_comesBy_131 : decode cX9_comesBy 131 = .ok (.lcmp, 1) := by decide +kernel
theorem dX9_comesBy_132 : decode cX9_comesBy 132 = .ok (.ifCond .eq 5, 3) := by decide +kernel
theorem dX9_comesBy_135 : decode cX9_comesBy 135 = .ok (.iconst 0, 1) := by decide +kernel
theorem dX9_comesBy_136 : decode cX9_comesBy 136 = .ok (.ireturn, 1) := by decide +kernel
theorem dX9_comesBy_137 : decode cX9_comesBy 137 = .ok (.iinc 11 1, 3) := by decide +kernel
theorem dX9_comesBy_140 : decode cX9_comesBy 140 = .ok (.goto (-53), 3) := by decide +kernel
theorem dX9_comesBy_143 : decode cX9_comesBy 143 = .ok (.iconst 1, 1) := by decide +kernel
theorem dX9_comesBy_144 : decode cX9_comesBy 144 = .ok (.ireturn, 1) := by decide +kernel
set_option maxRecDepth 20000 in
theorem ggX9_comes_X9_noMove : GoodIn wsX9_comes wsX9_noMove := goodIn_r _ [6, 7, 8, 9, 10, 5, 11, 12, 13, 14, 15, 16, 57, 58, 59, 60, 61, 62, 63, 64, 65, 66, 67, 68, 69, 70, 71, 72, 73, 74, 75, 76, 77, 78, 79, 80, 81, 82, 83, 84, 85, 86, 87, 88, 89, 90, 91, 92, 93] (by decide +kernel) (by decide +kernel)
set_option maxRecDepth 20000 in
theorem gX9_comes_X9_noMove : GoodIn wsX9_comes (wsV RX9 298 RX9 yX9_noMove wsX9_noMove) := goodIn_app (goodIn_of _ (by decide +kernel)) ggX9_comes_X9_noMove
set_option maxRecDepth 20000 in
theorem ggX9_comes_X9_block : GoodIn wsX9_comes wsX9_block := goodIn_r _ [20, 21, 22, 23, 24, 25, 5, 26, 57, 58, 59, 60, 61, 62, 63, 64, 65, 66, 67, 68, 69, 70, 71, 72, 73, 74, 75, 76, 77, 78, 79, 80, 81, 82, 83, 84, 85, 86, 87, 88, 89, 90, 91, 92, 93] (by decide +kernel) (by decide +kernel)
set_option maxRecDepth 20000 in
theorem gX9_comes_X9_block : GoodIn wsX9_comes (wsV RX9 102 RX9 yX9_block wsX9_block) := goodIn_app (goodIn_of _ (by decide +kernel)) ggX9_comes_X9_block
set_option maxRecDepth 20000 in
theorem ggX9_comes_X9_comesBy : GoodIn wsX9_comes wsX9_comesBy := goodIn_r _ [30, 31, 32, 33, 34, 35, 36, 5, 37, 23, 24, 25, 26, 21, 38, 39, 40, 41, 42, 43, 44, 45, 46, 47, 48, 49, 50, 51, 52, 53, 54, 55, 56, 57, 58, 59, 60, 61, 62, 63, 64, 65, 66, 67, 68, 69, 70, 71, 72, 73, 74, 75, 76, 77, 78, 79, 80, 81, 82, 83, 84, 85, 86, 87, 88, 89, 90, 91, 92, 93] (by decide +kernel) (by decide +kernel)
set_option maxRecDepth 20000 in
theorem gX9_comes_X9_comesBy : GoodIn wsX9_comes (wsV RX9 148 RX9 yX9_comesBy wsX9_comesBy) := goodIn_app (goodIn_of _ (by decide +kernel)) ggX9_comes_X9_comesBy
theorem dX9_comes_0 : decode cX9_comes 0 = .ok (.aload_n 0, 1) := by decide +kernel
theorem dX9_comes_1 : decode cX9_comes 1 = .ok (.iload_n 1, 1) := by decide +kernel
theorem dX9_comes_2 : decode cX9_comes 2 = .ok (.invokevirtual 298, 3) := by decide +kernel
theorem dX9_comes_5 : decode cX9_comes 5 = .ok (.istore 4, 2) := by decide +kernel
theorem dX9_comes_7 : decode cX9_comes 7 = .ok (.iload 4, 2) := by decide +kernel
theorem dX9_comes_9 : decode cX9_comes 9 = .ok (.ifCond .eq 6, 3) := by decide +kernel
theorem dX9_comes_12 : decode cX9_comes 12 = .ok (.iload 4, 2) := by decide +kernel
theorem dX9_comes_14 : decode cX9_comes 14 = .ok (.ireturn, 1) := by decide +kernel
theorem dX9_comes_15 : decode cX9_comes 15 = .ok (.aload_n 0, 1) := by decide +kernel
theorem dX9_comes_16 : decode cX9_comes 16 = .ok (.iload_n 1, 1) := by decide +kernel
theorem dX9_comes_17 : decode cX9_comes 17 = .ok (.lload_n 2, 1) := by decide +kernel
theorem dX9_comes_18 : decode cX9_comes 18 = .ok (.aload_n 0, 1) := by decide +kernel
theorem dX9_comes_19 : decode cX9_comes 19 = .ok (.invokevirtual 102, 3) := by decide +kernel
theorem dX9_comes_22 : decode cX9_comes 22 = .ok (.land, 1) := by decide +kernel
theorem dX9_comes_23 : decode cX9_comes 23 = .ok (.aload_n 0, 1) := by decide +kernel
theorem dX9_comes_24 : decode cX9_comes 24 = .ok (.getfield 106, 3) := by decide +kernel
theorem dX9_comes_27 : decode cX9_comes 27 = .ok (.invokevirtual 148, 3) := by decide +kernel
theorem dX9_comes_30 : decode cX9_comes 30 = .ok (.ifCond .eq 7, 3) := by decide +kernel
theorem dX9_comes_33 : decode cX9_comes 33 = .ok (.iconst 1, 1) := by decide +kernel
theorem dX9_comes_34 : decode cX9_comes 34 = .ok (.goto 4, 3) := by decide +kernel
theorem dX9_comes_37 : decode cX9_comes 37 = .ok (.iconst 0, 1) := by decide +kernel
theorem dX9_comes_38 : decode cX9_comes 38 = .ok (.ireturn, 1) := by decide +kernel
set_option maxRecDepth 20000 in
theorem ggX9_helps_X9_noMove : GoodIn wsX9_helps wsX9_noMove := goodIn_r _ [5, 6, 7, 8, 9, 4, 10, 11, 12, 13, 14, 15, 69, 70, 71, 72, 73, 74, 75, 76, 77, 78, 79, 80, 81, 82, 83, 84, 85, 86, 87, 88, 89, 90, 91, 92, 93, 94, 95, 96, 97, 98, 99, 100, 101, 102, 103, 104, 105] (by decide +kernel) (by decide +kernel)
set_option maxRecDepth 20000 in
theorem gX9_helps_X9_noMove : GoodIn wsX9_helps (wsV RX9 298 RX9 yX9_noMove wsX9_noMove) := goodIn_app (goodIn_of _ (by decide +kernel)) ggX9_helps_X9_noMove
set_option maxRecDepth 20000 in
theorem ggX9_helps_X9_never : GoodIn wsX9_helps wsX9_never := goodIn_r _ [19, 20, 21, 22, 23, 24, 4, 25, 26, 27, 28, 29, 30, 31, 32, 33, 34, 35, 36, 37, 38, 39, 40, 41, 42, 43, 44, 45, 69, 70, 71, 72, 73, 74, 75, 76, 77, 78, 79, 80, 81, 82, 83, 84, 85, 86, 87, 88, 89, 90, 91, 92, 93, 94, 95, 96, 97, 98, 99, 100, 101, 102, 103, 104, 105] (by decide +kernel) (by decide +kernel)
set_option maxRecDepth 20000 in
theorem gX9_helps_X9_never : GoodIn wsX9_helps (wsV RX9 273 RX9 yX9_never wsX9_never) := goodIn_app (goodIn_of _ (by decide +kernel)) ggX9_helps_X9_never
set_option maxRecDepth 20000 in
theorem ggX9_helps_X9_thatCome : GoodIn wsX9_helps wsX9_thatCome := goodIn_r _ [49, 20, 26, 27, 28, 4, 29, 30, 31, 32, 33, 50, 51, 52, 53, 54, 55, 56, 57, 58, 59, 60, 42, 43, 44, 45, 61, 62, 63, 64, 38, 39, 40, 41, 65, 66, 67, 68, 69, 70, 71, 72, 73, 74, 75, 76, 77, 78, 79, 80, 81, 82, 83, 84, 85, 86, 87, 88, 89, 90, 91, 92, 93, 94, 95, 96, 97, 98, 99, 100, 101, 102, 103, 104, 105] (by decide +kernel) (by decide +kernel)
set_option maxRecDepth 20000 in
theorem gX9_helps_X9_thatCome : GoodIn wsX9_helps (wsV RX9 144 RX9 yX9_thatCome wsX9_thatCome) := goodIn_app (goodIn_of _ (by decide +kernel)) ggX9_helps_X9_thatCome
theorem dX9_helps_0 : decode cX9_helps 0 = .ok (.aload_n 0, 1) := by decide +kernel
theorem dX9_helps_1 : decode cX9_helps 1 = .ok (.iload_n 1, 1) := by decide +kernel
theorem dX9_helps_2 : decode cX9_helps 2 = .ok (.invokevirtual 298, 3) := by decide +kernel
theorem dX9_helps_5 : decode cX9_helps 5 = .ok (.istore_n 2, 1) := by decide +kernel
theorem dX9_helps_6 : decode cX9_helps 6 = .ok (.iload_n 2, 1) := by decide +kernel
theorem dX9_helps_7 : decode cX9_helps 7 = .ok (.ifCond .eq 7, 3) := by decide +kernel
theorem dX9_helps_10 : decode cX9_helps 10 = .ok (.iload_n 2, 1) := by decide +kernel
theorem dX9_helps_11 : decode cX9_helps 11 = .ok (.goto 12, 3) := by decide +kernel
theorem dX9_helps_14 : decode cX9_helps 14 = .ok (.aload_n 0, 1) := by decide +kernel
theorem dX9_helps_15 : decode cX9_helps 15 = .ok (.iload_n 1, 1) := by decide +kernel
theorem dX9_helps_16 : decode cX9_helps 16 = .ok (.aload_n 0, 1) := by decide +kernel
theorem dX9_helps_17 : decode cX9_helps 17 = .ok (.invokevirtual 273, 3) := by decide +kernel
theorem dX9_helps_20 : decode cX9_helps 20 = .ok (.invokevirtual 144, 3) := by decide +kernel
theorem dX9_helps_23 : decode cX9_helps 23 = .ok (.ireturn, 1) := by decide +kernel
set_option maxRecDepth 20000 in
theorem ggX9_findWrong_X9_isOff : GoodIn wsX9_findWrong wsX9_isOff := goodIn_r _ [12, 7, 52, 53, 54, 55, 56, 57, 58, 59, 60, 61, 62, 63, 64, 65, 66, 67, 68, 69, 70, 71, 72, 73, 74, 75, 76, 77, 78, 79, 80, 81, 82, 83, 84, 85, 86, 87, 88] (by decide +kernel) (by decide +kernel)
set_option maxRecDepth 20000 in
theorem gX9_findWrong_X9_isOff : GoodIn wsX9_findWrong (wsV RX9 166 RX9 yX9_isOff wsX9_isOff) := goodIn_app (goodIn_of _ (by decide +kernel)) ggX9_findWrong_X9_isOff
set_option maxRecDepth 20000 in
theorem ggX9_findWrong_X9_partsOf : GoodIn wsX9_findWrong wsX9_partsOf := goodIn_r _ [16, 6, 17, 18, 19, 11, 20, 21, 22, 23, 24, 25, 26, 27, 28, 29, 30, 31, 32, 33, 34, 35, 36, 52, 53, 54, 55, 56, 57, 58, 59, 60, 61, 62, 63, 64, 65, 66, 67, 68, 69, 70, 71, 72, 73, 74, 75, 76, 77, 78, 79, 80, 81, 82, 83, 84, 85, 86, 87, 88] (by decide +kernel) (by decide +kernel)
set_option maxRecDepth 20000 in
theorem gX9_findWrong_X9_partsOf : GoodIn wsX9_findWrong (wsV RX9 285 RX9 yX9_partsOf wsX9_partsOf) := goodIn_app (goodIn_of _ (by decide +kernel)) ggX9_findWrong_X9_partsOf
set_option maxRecDepth 20000 in
theorem ggX9_findWrong_X9_bits : GoodIn wsX9_findWrong wsX9_bits := goodIn_r _ [39, 22, 23, 11, 24] (by decide +kernel) (by decide +kernel)
set_option maxRecDepth 20000 in
theorem gX9_findWrong_X9_bits : GoodIn wsX9_findWrong (va_wsS RX9 158 yX9_bits wsX9_bits) := goodIn_app (goodIn_of _ (by decide +kernel)) ggX9_findWrong_X9_bits
set_option maxRecDepth 20000 in
theorem ggX9_findWrong_X9_empty : GoodIn wsX9_findWrong wsX9_empty := goodIn_r _ [43, 3, 6, 44, 45, 46, 11, 47, 21, 17, 18, 19, 20, 52, 53, 54, 55, 56, 57, 58, 59, 60, 61, 62, 63, 64, 65, 66, 67, 68, 69, 70, 71, 72, 73, 74, 75, 76, 77, 78, 79, 80, 81, 82, 83, 84, 85, 86, 87, 88] (by decide +kernel) (by decide +kernel)
set_option maxRecDepth 20000 in
theorem gX9_findWrong_X9_empty : GoodIn wsX9_findWrong (wsV RX9 141 RX9 yX9_empty wsX9_empty) := goodIn_app (goodIn_of _ (by decide +kernel)) ggX9_findWrong_X9_empty
set_option maxRecDepth 20000 in
theorem ggX9_findWrong_X9_inPieces : GoodIn wsX9_findWrong wsX9_inPieces := goodIn_r _ [51, 1, 2, 8, 9, 10, 11, 12, 7, 52, 53, 54, 55, 56, 57, 58, 59, 60, 61, 62, 63, 64, 65, 66, 67, 68, 69, 70, 71, 72, 73, 74, 75, 76, 77, 78, 79, 80, 81, 82, 83, 84, 85, 86, 87, 88] (by decide +kernel) (by decide +kernel)
set_option maxRecDepth 20000 in
theorem gX9_findWrong_X9_inPieces : GoodIn wsX9_findWrong (wsV RX9 276 RX9 yX9_inPieces wsX9_inPieces) := goodIn_app (goodIn_of _ (by decide +kernel)) ggX9_findWrong_X9_inPieces
set_option maxRecDepth 20000 in
theorem ggX9_findWrong_X9_many : GoodIn wsX9_findWrong wsX9_many := goodIn_r _ [20, 21, 52, 53, 54, 55, 56, 57, 58, 59, 60, 61, 62, 63, 64, 65, 66, 67, 68, 69, 70, 71, 72, 73, 74, 75, 76, 77, 78, 79, 80, 81, 82, 83, 84, 85, 86, 87, 88] (by decide +kernel) (by decide +kernel)
set_option maxRecDepth 20000 in
theorem gX9_findWrong_X9_many : GoodIn wsX9_findWrong (wsV RX9 86 RX9 yX9_many wsX9_many) := goodIn_app (goodIn_of _ (by decide +kernel)) ggX9_findWrong_X9_many
set_option maxRecDepth 20000 in
theorem ggX9_findWrong_X9_has : GoodIn wsX9_findWrong wsX9_has := goodIn_r _ [24] (by decide +kernel) (by decide +kernel)
set_option maxRecDepth 20000 in
theorem gX9_findWrong_X9_has : GoodIn wsX9_findWrong (va_wsS RX9 110 yX9_has wsX9_has) := goodIn_app (goodIn_of _ (by decide +kernel)) ggX9_findWrong_X9_has
theorem dX9_findWrong_0 : decode cX9_findWrong 0 = .ok (.iconst 1, 1) := by decide +kernel
theorem dX9_findWrong_1 : decode cX9_findWrong 1 = .ok (.istore_n 1, 1) := by decide +kernel
theorem dX9_findWrong_2 : decode cX9_findWrong 2 = .ok (.iload_n 1, 1) := by decide +kernel
theorem dX9_findWrong_3 : decode cX9_findWrong 3 = .ok (.iconst 4, 1) := by decide +kernel
theorem dX9_findWrong_4 : decode cX9_findWrong 4 = .ok (.if_icmp .gt 164, 3) := by decide +kernel
theorem dX9_findWrong_7 : decode cX9_findWrong 7 = .ok (.lconst 0, 1) := by decide +kernel
theorem dX9_findWrong_8 : decode cX9_findWrong 8 = .ok (.lstore_n 2, 1) := by decide +kernel
theorem dX9_findWrong_9 : decode cX9_findWrong 9 = .ok (.iconst 0, 1) := by decide +kernel
theorem dX9_findWrong_10 : decode cX9_findWrong 10 = .ok (.istore 4, 2) := by decide +kernel
theorem dX9_findWrong_12 : decode cX9_findWrong 12 = .ok (.iload 4, 2) := by decide +kernel
theorem dX9_findWrong_14 : decode cX9_findWrong 14 = .ok (.aload_n 0, 1) := by decide +kernel
theorem dX9_findWrong_15 : decode cX9_findWrong 15 = .ok (.getfield 94, 3) := by decide +kernel
theorem dX9_findWrong_18 : decode cX9_findWrong 18 = .ok (.if_icmp .ge 144, 3) := by decide +kernel
theorem dX9_findWrong_21 : decode cX9_findWrong 21 = .ok (.aload_n 0, 1) := by decide +kernel
theorem dX9_findWrong_22 : decode cX9_findWrong 22 = .ok (.iload 4, 2) := by decide +kernel
theorem dX9_findWrong_24 : decode cX9_findWrong 24 = .ok (.invokevirtual 166, 3) := by decide +kernel
theorem dX9_findWrong_27 : decode cX9_findWrong 27 = .ok (.ifCond .eq 6, 3) := by decide +kernel
theorem dX9_findWrong_30 : decode cX9_findWrong 30 = .ok (.goto 126, 3) := by decide +kernel
theorem dX9_findWrong_33 : decode cX9_findWrong 33 = .ok (.iload_n 1, 1) := by decide +kernel
theorem dX9_findWrong_34 : decode cX9_findWrong 34 = .ok (.iconst 1, 1) := by decide +kernel
theorem dX9_findWrong_35 : decode cX9_findWrong 35 = .ok (.if_icmp .ne 20, 3) := by decide +kernel
theorem dX9_findWrong_38 : decode cX9_findWrong 38 = .ok (.aload_n 0, 1) := by decide +kernel
theorem dX9_findWrong_39 : decode cX9_findWrong 39 = .ok (.getfield 47, 3) := by decide +kernel
theorem dX9_findWrong_42 : decode cX9_findWrong 42 = .ok (.iload 4, 2) := by decide +kernel
theorem dX9_findWrong_44 : decode cX9_findWrong 44 = .ok (.laload, 1) := by decide +kernel
theorem dX9_findWrong_45 : decode cX9_findWrong 45 = .ok (.aload_n 0, 1) := by decide +kernel
theorem dX9_findWrong_46 : decode cX9_findWrong 46 = .ok (.getfield 106, 3) := by decide +kernel
theorem dX9_findWrong_49 : decode cX9_findWrong 49 = .ok (.land, 1) := by decide +kernel
theorem dX9_findWrong_50 : decode cX9_findWrong 50 = .ok (.lconst 0, 1) := by decide +kernel
theorem dX9_findWrong_51 : decode cX9_findWrong 51 = .ok (.lcmp, 1) := by decide +kernel
theorem dX9_findWrong_52 : decode cX9_findWrong 52 = .ok (.ifCond .ne 22, 3) := by decide +kernel
theorem dX9_findWrong_55 : decode cX9_findWrong 55 = .ok (.iload_n 1, 1) := by decide +kernel
theorem dX9_findWrong_56 : decode cX9_findWrong 56 = .ok (.iconst 2, 1) := by decide +kernel
theorem dX9_findWrong_57 : decode cX9_findWrong 57 = .ok (.if_icmp .ne 21, 3) := by decide +kernel
theorem dX9_findWrong_60 : decode cX9_findWrong 60 = .ok (.aload_n 0, 1) := by decide +kernel
theorem dX9_findWrong_61 : decode cX9_findWrong 61 = .ok (.getfield 47, 3) := by decide +kernel
theorem dX9_findWrong_64 : decode cX9_findWrong 64 = .ok (.iload 4, 2) := by decide +kernel
theorem dX9_findWrong_66 : decode cX9_findWrong 66 = .ok (.laload, 1) := by decide +kernel
theorem dX9_findWrong_67 : decode cX9_findWrong 67 = .ok (.lload_n 2, 1) := by decide +kernel
theorem dX9_findWrong_68 : decode cX9_findWrong 68 = .ok (.land, 1) := by decide +kernel
theorem dX9_findWrong_69 : decode cX9_findWrong 69 = .ok (.lconst 0, 1) := by decide +kernel
theorem dX9_findWrong_70 : decode cX9_findWrong 70 = .ok (.lcmp, 1) := by decide +kernel
theorem dX9_findWrong_71 : decode cX9_findWrong 71 = .ok (.ifCond .eq 7, 3) := by decide +kernel
theorem dX9_findWrong_74 : decode cX9_findWrong 74 = .ok (.iconst 1, 1) := by decide +kernel
theorem dX9_findWrong_75 : decode cX9_findWrong 75 = .ok (.goto 4, 3) := by decide +kernel
theorem dX9_findWrong_78 : decode cX9_findWrong 78 = .ok (.iconst 0, 1) := by decide +kernel
theorem dX9_findWrong_79 : decode cX9_findWrong 79 = .ok (.istore 5, 2) := by decide +kernel
theorem dX9_findWrong_81 : decode cX9_findWrong 81 = .ok (.iload 5, 2) := by decide +kernel
theorem dX9_findWrong_83 : decode cX9_findWrong 83 = .ok (.iload_n 1, 1) := by decide +kernel
theorem dX9_findWrong_84 : decode cX9_findWrong 84 = .ok (.iconst 3, 1) := by decide +kernel
theorem dX9_findWrong_85 : decode cX9_findWrong 85 = .ok (.if_icmp .ne 18, 3) := by decide +kernel
theorem dX9_findWrong_88 : decode cX9_findWrong 88 = .ok (.aload_n 0, 1) := by decide +kernel
theorem dX9_findWrong_89 : decode cX9_findWrong 89 = .ok (.aload_n 0, 1) := by decide +kernel
theorem dX9_findWrong_90 : decode cX9_findWrong 90 = .ok (.getfield 47, 3) := by decide +kernel
theorem dX9_findWrong_93 : decode cX9_findWrong 93 = .ok (.iload 4, 2) := by decide +kernel
theorem dX9_findWrong_95 : decode cX9_findWrong 95 = .ok (.laload, 1) := by decide +kernel
theorem dX9_findWrong_96 : decode cX9_findWrong 96 = .ok (.invokevirtual 285, 3) := by decide +kernel
theorem dX9_findWrong_99 : decode cX9_findWrong 99 = .ok (.iconst 1, 1) := by decide +kernel
theorem dX9_findWrong_100 : decode cX9_findWrong 100 = .ok (.if_icmp .ne 25, 3) := by decide +kernel
theorem dX9_findWrong_103 : decode cX9_findWrong 103 = .ok (.iload_n 1, 1) := by decide +kernel
theorem dX9_findWrong_104 : decode cX9_findWrong 104 = .ok (.iconst 4, 1) := by decide +kernel
theorem dX9_findWrong_105 : decode cX9_findWrong 105 = .ok (.if_icmp .ne 24, 3) := by decide +kernel
theorem dX9_findWrong_108 : decode cX9_findWrong 108 = .ok (.aload_n 0, 1) := by decide +kernel
theorem dX9_findWrong_109 : decode cX9_findWrong 109 = .ok (.getfield 47, 3) := by decide +kernel
theorem dX9_findWrong_112 : decode cX9_findWrong 112 = .ok (.iload 4, 2) := by decide +kernel
theorem dX9_findWrong_114 : decode cX9_findWrong 114 = .ok (.laload, 1) := by decide +kernel
theorem dX9_findWrong_115 : decode cX9_findWrong 115 = .ok (.invokestatic 158, 3) := by decide +kernel
theorem dX9_findWrong_118 : decode cX9_findWrong 118 = .ok (.aload_n 0, 1) := by decide +kernel
theorem dX9_findWrong_119 : decode cX9_findWrong 119 = .ok (.getfield 53, 3) := by decide +kernel
theorem dX9_findWrong_122 : decode cX9_findWrong 122 = .ok (.if_icmp .le 7, 3) := by decide +kernel
theorem dX9_findWrong_125 : decode cX9_findWrong 125 = .ok (.iconst 1, 1) := by decide +kernel
theorem dX9_findWrong_126 : decode cX9_findWrong 126 = .ok (.goto 4, 3) := by decide +kernel
theorem dX9_findWrong_129 : decode cX9_findWrong 129 = .ok (.iconst 0, 1) := by decide +kernel
theorem dX9_findWrong_130 : decode cX9_findWrong 130 = .ok (.ior, 1) := by decide +kernel
theorem dX9_findWrong_131 : decode cX9_findWrong 131 = .ok (.istore 5, 2) := by decide +kernel
theorem dX9_findWrong_133 : decode cX9_findWrong 133 = .ok (.iload 5, 2) := by decide +kernel
theorem dX9_findWrong_135 : decode cX9_findWrong 135 = .ok (.ifCond .eq 11, 3) := by decide +kernel
theorem dX9_findWrong_138 : decode cX9_findWrong 138 = .ok (.aload_n 0, 1) := by decide +kernel
theorem dX9_findWrong_139 : decode cX9_findWrong 139 = .ok (.iload 4, 2) := by decide +kernel
theorem dX9_findWrong_141 : decode cX9_findWrong 141 = .ok (.putfield 301, 3) := by decide +kernel
theorem dX9_findWrong_144 : decode cX9_findWrong 144 = .ok (.iload_n 1, 1) := by decide +kernel
theorem dX9_findWrong_145 : decode cX9_findWrong 145 = .ok (.ireturn, 1) := by decide +kernel
theorem dX9_findWrong_146 : decode cX9_findWrong 146 = .ok (.lload_n 2, 1) := by decide +kernel
theorem dX9_findWrong_147 : decode cX9_findWrong 147 = .ok (.aload_n 0, 1) := by decide +kernel
theorem dX9_findWrong_148 : decode cX9_findWrong 148 = .ok (.getfield 47, 3) := by decide +kernel
theorem dX9_findWrong_151 : decode cX9_findWrong 151 = .ok (.iload 4, 2) := by decide +kernel
theorem dX9_findWrong_153 : decode cX9_findWrong 153 = .ok (.laload, 1) := by decide +kernel
theorem dX9_findWrong_154 : decode cX9_findWrong 154 = .ok (.lor, 1) := by decide +kernel
theorem dX9_findWrong_155 : decode cX9_findWrong 155 = .ok (.lstore_n 2, 1) := by decide +kernel
theorem dX9_findWrong_156 : decode cX9_findWrong 156 = .ok (.iinc 4 1, 3) := by decide +kernel
theorem dX9_findWrong_159 : decode cX9_findWrong 159 = .ok (.goto (-147), 3) := by decide +kernel
theorem dX9_findWrong_162 : decode cX9_findWrong 162 = .ok (.iinc 1 1, 3) := by decide +kernel
theorem dX9_findWrong_165 : decode cX9_findWrong 165 = .ok (.goto (-163), 3) := by decide +kernel
theorem dX9_findWrong_168 : decode cX9_findWrong 168 = .ok (.aload_n 0, 1) := by decide +kernel
theorem dX9_findWrong_169 : decode cX9_findWrong 169 = .ok (.invokevirtual 141, 3) := by decide +kernel
theorem dX9_findWrong_172 : decode cX9_findWrong 172 = .ok (.aload_n 0, 1) := by decide +kernel
theorem dX9_findWrong_173 : decode cX9_findWrong 173 = .ok (.invokevirtual 276, 3) := by decide +kernel
theorem dX9_findWrong_176 : decode cX9_findWrong 176 = .ok (.ldc2_w 100, 3) := by decide +kernel
theorem dX9_findWrong_179 : decode cX9_findWrong 179 = .ok (.lxor, 1) := by decide +kernel
theorem dX9_findWrong_180 : decode cX9_findWrong 180 = .ok (.land, 1) := by decide +kernel
theorem dX9_findWrong_181 : decode cX9_findWrong 181 = .ok (.lstore_n 1, 1) := by decide +kernel
theorem dX9_findWrong_182 : decode cX9_findWrong 182 = .ok (.iconst 0, 1) := by decide +kernel
theorem dX9_findWrong_183 : decode cX9_findWrong 183 = .ok (.istore_n 3, 1) := by decide +kernel
theorem dX9_findWrong_184 : decode cX9_findWrong 184 = .ok (.iload_n 3, 1) := by decide +kernel
theorem dX9_findWrong_185 : decode cX9_findWrong 185 = .ok (.aload_n 0, 1) := by decide +kernel
theorem dX9_findWrong_186 : decode cX9_findWrong 186 = .ok (.invokevirtual 86, 3) := by decide +kernel
theorem dX9_findWrong_189 : decode cX9_findWrong 189 = .ok (.if_icmp .ge 31, 3) := by decide +kernel
theorem dX9_findWrong_192 : decode cX9_findWrong 192 = .ok (.aload_n 0, 1) := by decide +kernel
theorem dX9_findWrong_193 : decode cX9_findWrong 193 = .ok (.getfield 97, 3) := by decide +kernel
theorem dX9_findWrong_196 : decode cX9_findWrong 196 = .ok (.ifCond .ne 24, 3) := by decide +kernel
theorem dX9_findWrong_199 : decode cX9_findWrong 199 = .ok (.lload_n 1, 1) := by decide +kernel
theorem dX9_findWrong_200 : decode cX9_findWrong 200 = .ok (.iload_n 3, 1) := by decide +kernel
theorem dX9_findWrong_201 : decode cX9_findWrong 201 = .ok (.invokestatic 110, 3) := by decide +kernel
theorem dX9_findWrong_204 : decode cX9_findWrong 204 = .ok (.ifCond .eq 10, 3) := by decide +kernel
theorem dX9_findWrong_207 : decode cX9_findWrong 207 = .ok (.aload_n 0, 1) := by decide +kernel
theorem dX9_findWrong_208 : decode cX9_findWrong 208 = .ok (.iload_n 3, 1) := by decide +kernel
theorem dX9_findWrong_209 : decode cX9_findWrong 209 = .ok (.putfield 301, 3) := by decide +kernel
theorem dX9_findWrong_212 : decode cX9_findWrong 212 = .ok (.iconst 5, 1) := by decide +kernel
theorem dX9_findWrong_213 : decode cX9_findWrong 213 = .ok (.ireturn, 1) := by decide +kernel
theorem dX9_findWrong_214 : decode cX9_findWrong 214 = .ok (.iinc 3 1, 3) := by decide +kernel
theorem dX9_findWrong_217 : decode cX9_findWrong 217 = .ok (.goto (-33), 3) := by decide +kernel
theorem dX9_findWrong_220 : decode cX9_findWrong 220 = .ok (.aload_n 0, 1) := by decide +kernel
theorem dX9_findWrong_221 : decode cX9_findWrong 221 = .ok (.iconst (-1), 1) := by decide +kernel
theorem dX9_findWrong_222 : decode cX9_findWrong 222 = .ok (.putfield 301, 3) := by decide +kernel
theorem dX9_findWrong_225 : decode cX9_findWrong 225 = .ok (.iconst 0, 1) := by decide +kernel
theorem dX9_findWrong_226 : decode cX9_findWrong 226 = .ok (.ireturn, 1) := by decide +kernel
set_option maxRecDepth 20000 in
theorem ggX9_wrong_X9_findWrong : GoodIn wsX9_wrong wsX9_findWrong := goodIn_r _ [6, 7, 8, 9, 10, 1, 11, 12, 13, 14, 15, 5, 16, 17, 18, 19, 20, 21, 22, 23, 24, 25, 26, 27, 28, 29, 30, 31, 32, 33, 34, 35, 36, 37, 38, 39, 40, 41, 42, 43, 44, 45, 46, 47, 48, 49, 50, 51, 52, 53, 54, 55, 56, 57, 58, 59, 60, 61, 62, 63, 64, 65, 66, 67, 68, 69, 70, 71, 72, 73, 74, 75, 76, 77, 78, 79, 80, 81, 82, 83, 84, 85, 86, 87, 88, 89, 90, 91, 92] (by decide +kernel) (by decide +kernel)
set_option maxRecDepth 20000 in
theorem gX9_wrong_X9_findWrong : GoodIn wsX9_wrong (wsV RX9 304 RX9 yX9_findWrong wsX9_findWrong) := goodIn_app (goodIn_of _ (by decide +kernel)) ggX9_wrong_X9_findWrong
theorem dX9_wrong_0 : decode cX9_wrong 0 = .ok (.aload_n 0, 1) := by decide +kernel
theorem dX9_wrong_1 : decode cX9_wrong 1 = .ok (.invokevirtual 304, 3) := by decide +kernel
theorem dX9_wrong_4 : decode cX9_wrong 4 = .ok (.istore_n 2, 1) := by decide +kernel
theorem dX9_wrong_5 : decode cX9_wrong 5 = .ok (.iload_n 1, 1) := by decide +kernel
theorem dX9_wrong_6 : decode cX9_wrong 6 = .ok (.ifCond .eq 7, 3) := by decide +kernel
theorem dX9_wrong_9 : decode cX9_wrong 9 = .ok (.iload_n 2, 1) := by decide +kernel
theorem dX9_wrong_10 : decode cX9_wrong 10 = .ok (.goto 7, 3) := by decide +kernel
theorem dX9_wrong_13 : decode cX9_wrong 13 = .ok (.aload_n 0, 1) := by decide +kernel
theorem dX9_wrong_14 : decode cX9_wrong 14 = .ok (.getfield 301, 3) := by decide +kernel
theorem dX9_wrong_17 : decode cX9_wrong 17 = .ok (.ireturn, 1) := by decide +kernel
set_option maxRecDepth 20000 in
theorem ggX9_looseBy_X9_comesBy : GoodIn wsX9_looseBy wsX9_comesBy := goodIn_r _ [9, 10, 11, 12, 13, 14, 15, 8, 16, 17, 18, 19, 20, 21, 22, 23, 24, 25, 26, 27, 28, 29, 30, 31, 32, 33, 34, 35, 36, 37, 38, 39, 40, 41, 42, 43, 44, 45, 46, 47, 48, 49, 50, 51, 52, 53, 54, 55, 56, 57, 58, 59, 60, 61, 62, 63, 64, 65, 66, 67, 68, 69, 70, 71, 72, 73, 74, 75, 76, 77] (by decide +kernel) (by decide +kernel)
set_option maxRecDepth 20000 in
theorem gX9_looseBy_X9_comesBy : GoodIn wsX9_looseBy (wsV RX9 148 RX9 yX9_comesBy wsX9_comesBy) := goodIn_app (goodIn_of _ (by decide +kernel)) ggX9_looseBy_X9_comesBy
theorem dX9_looseBy_0 : decode cX9_looseBy 0 = .ok (.aload_n 0, 1) := by decide +kernel
theorem dX9_looseBy_1 : decode cX9_looseBy 1 = .ok (.getfield 106, 3) := by decide +kernel
theorem dX9_looseBy_4 : decode cX9_looseBy 4 = .ok (.lstore_n 3, 1) := by decide +kernel
theorem dX9_looseBy_5 : decode cX9_looseBy 5 = .ok (.iconst 0, 1) := by decide +kernel
theorem dX9_looseBy_6 : decode cX9_looseBy 6 = .ok (.istore 5, 2) := by decide +kernel
theorem dX9_looseBy_8 : decode cX9_looseBy 8 = .ok (.iload 5, 2) := by decide +kernel
theorem dX9_looseBy_10 : decode cX9_looseBy 10 = .ok (.aload_n 0, 1) := by decide +kernel
theorem dX9_looseBy_11 : decode cX9_looseBy 11 = .ok (.getfield 94, 3) := by decide +kernel
theorem dX9_looseBy_14 : decode cX9_looseBy 14 = .ok (.if_icmp .ge 38, 3) := by decide +kernel
theorem dX9_looseBy_17 : decode cX9_looseBy 17 = .ok (.lload_n 3, 1) := by decide +kernel
theorem dX9_looseBy_18 : decode cX9_looseBy 18 = .ok (.iload 5, 2) := by decide +kernel
theorem dX9_looseBy_20 : decode cX9_looseBy 20 = .ok (.iload_n 1, 1) := by decide +kernel
theorem dX9_looseBy_21 : decode cX9_looseBy 21 = .ok (.if_icmp .eq 22, 3) := by decide +kernel
theorem dX9_looseBy_24 : decode cX9_looseBy 24 = .ok (.iload_n 2, 1) := by decide +kernel
theorem dX9_looseBy_25 : decode cX9_looseBy 25 = .ok (.iload 5, 2) := by decide +kernel
theorem dX9_looseBy_27 : decode cX9_looseBy 27 = .ok (.ishr, 1) := by decide +kernel
theorem dX9_looseBy_28 : decode cX9_looseBy 28 = .ok (.iconst 1, 1) := by decide +kernel
theorem dX9_looseBy_29 : decode cX9_looseBy 29 = .ok (.iand, 1) := by decide +kernel
theorem dX9_looseBy_30 : decode cX9_looseBy 30 = .ok (.ifCond .ne 13, 3) := by decide +kernel
theorem dX9_looseBy_33 : decode cX9_looseBy 33 = .ok (.aload_n 0, 1) := by decide +kernel
theorem dX9_looseBy_34 : decode cX9_looseBy 34 = .ok (.getfield 47, 3) := by decide +kernel
theorem dX9_looseBy_37 : decode cX9_looseBy 37 = .ok (.iload 5, 2) := by decide +kernel
theorem dX9_looseBy_39 : decode cX9_looseBy 39 = .ok (.laload, 1) := by decide +kernel
theorem dX9_looseBy_40 : decode cX9_looseBy 40 = .ok (.goto 4, 3) := by decide +kernel
theorem dX9_looseBy_43 : decode cX9_looseBy 43 = .ok (.lconst 0, 1) := by decide +kernel
theorem dX9_looseBy_44 : decode cX9_looseBy 44 = .ok (.lor, 1) := by decide +kernel
theorem dX9_looseBy_45 : decode cX9_looseBy 45 = .ok (.lstore_n 3, 1) := by decide +kernel
theorem dX9_looseBy_46 : decode cX9_looseBy 46 = .ok (.iinc 5 1, 3) := by decide +kernel
theorem dX9_looseBy_49 : decode cX9_looseBy 49 = .ok (.goto (-41), 3) := by decide +kernel
theorem dX9_looseBy_52 : decode cX9_looseBy 52 = .ok (.iconst 0, 1) := by decide +kernel
theorem dX9_looseBy_53 : decode cX9_looseBy 53 = .ok (.istore 5, 2) := by decide +kernel
theorem dX9_looseBy_55 : decode cX9_looseBy 55 = .ok (.iload 5, 2) := by decide +kernel
theorem dX9_looseBy_57 : decode cX9_looseBy 57 = .ok (.bipush 8, 2) := by decide +kernel
theorem dX9_looseBy_59 : decode cX9_looseBy 59 = .ok (.if_icmp .ge 39, 3) := by decide +kernel
theorem dX9_looseBy_62 : decode cX9_looseBy 62 = .ok (.aload_n 0, 1) := by decide +kernel
theorem dX9_looseBy_63 : decode cX9_looseBy 63 = .ok (.getfield 7, 3) := by decide +kernel
theorem dX9_looseBy_66 : decode cX9_looseBy 66 = .ok (.iload 5, 2) := by decide +kernel
theorem dX9_looseBy_68 : decode cX9_looseBy 68 = .ok (.iaload, 1) := by decide +kernel
theorem dX9_looseBy_69 : decode cX9_looseBy 69 = .ok (.iconst 2, 1) := by decide +kernel
theorem dX9_looseBy_70 : decode cX9_looseBy 70 = .ok (.if_icmp .ne 22, 3) := by decide +kernel
theorem dX9_looseBy_73 : decode cX9_looseBy 73 = .ok (.aload_n 0, 1) := by decide +kernel
theorem dX9_looseBy_74 : decode cX9_looseBy 74 = .ok (.iload 5, 2) := by decide +kernel
theorem dX9_looseBy_76 : decode cX9_looseBy 76 = .ok (.aload_n 0, 1) := by decide +kernel
theorem dX9_looseBy_77 : decode cX9_looseBy 77 = .ok (.getfield 47, 3) := by decide +kernel
theorem dX9_looseBy_80 : decode cX9_looseBy 80 = .ok (.iload_n 1, 1) := by decide +kernel
theorem dX9_looseBy_81 : decode cX9_looseBy 81 = .ok (.laload, 1) := by decide +kernel
theorem dX9_looseBy_82 : decode cX9_looseBy 82 = .ok (.lload_n 3, 1) := by decide +kernel
theorem dX9_looseBy_83 : decode cX9_looseBy 83 = .ok (.invokevirtual 148, 3) := by decide +kernel
theorem dX9_looseBy_86 : decode cX9_looseBy 86 = .ok (.ifCond .eq 6, 3) := by decide +kernel
theorem dX9_looseBy_89 : decode cX9_looseBy 89 = .ok (.iload 5, 2) := by decide +kernel
theorem dX9_looseBy_91 : decode cX9_looseBy 91 = .ok (.ireturn, 1) := by decide +kernel
theorem dX9_looseBy_92 : decode cX9_looseBy 92 = .ok (.iinc 5 1, 3) := by decide +kernel
theorem dX9_looseBy_95 : decode cX9_looseBy 95 = .ok (.goto (-40), 3) := by decide +kernel
theorem dX9_looseBy_98 : decode cX9_looseBy 98 = .ok (.iconst (-1), 1) := by decide +kernel
theorem dX9_looseBy_99 : decode cX9_looseBy 99 = .ok (.ireturn, 1) := by decide +kernel
set_option maxRecDepth 20000 in
theorem ggX9_loose_X9_isPiece : GoodIn wsX9_loose wsX9_isPiece := goodIn_r _ [6, 7, 8, 9, 5, 10, 62, 63, 64, 65, 66, 67, 68, 69, 70, 71, 72, 73, 74, 75, 76, 77, 78, 79, 80, 81, 82, 83, 84, 85, 86, 87, 88, 89, 90, 91, 92, 93, 94, 95, 96, 97, 98] (by decide +kernel) (by decide +kernel)
