theorem dX8_solid_31 : decode cX8_solid 31 = .ok (.lor, 1) := by decide +kernel
theorem dX8_solid_32 : decode cX8_solid 32 = .ok (.goto 11, 3) := by decide +kernel
theorem dX8_solid_35 : decode cX8_solid 35 = .ok (.lload 4, 2) := by decide +kernel
theorem dX8_solid_37 : decode cX8_solid 37 = .ok (.lload_n 1, 1) := by decide +kernel
theorem dX8_solid_38 : decode cX8_solid 38 = .ok (.ldc2_w 168, 3) := by decide +kernel
theorem dX8_solid_41 : decode cX8_solid 41 = .ok (.lxor, 1) := by decide +kernel
theorem dX8_solid_42 : decode cX8_solid 42 = .ok (.land, 1) := by decide +kernel
theorem dX8_solid_43 : decode cX8_solid 43 = .ok (.putfield 161, 3) := by decide +kernel
theorem dX8_solid_46 : decode cX8_solid 46 = .ok (.lload 4, 2) := by decide +kernel
theorem dX8_solid_48 : decode cX8_solid 48 = .ok (.aload_n 0, 1) := by decide +kernel
theorem dX8_solid_49 : decode cX8_solid 49 = .ok (.getfield 10, 3) := by decide +kernel
theorem dX8_solid_52 : decode cX8_solid 52 = .ok (.getfield 161, 3) := by decide +kernel
theorem dX8_solid_55 : decode cX8_solid 55 = .ok (.lxor, 1) := by decide +kernel
theorem dX8_solid_56 : decode cX8_solid 56 = .ok (.invokestatic 170, 3) := by decide +kernel
theorem dX8_solid_59 : decode cX8_solid 59 = .ok (.ireturn, 1) := by decide +kernel
set_option maxRecDepth 20000 in
theorem ggX8_figure_X8_rowRefusal : GoodIn wsX8_figure wsX8_rowRefusal := goodIn_r _ [11, 2, 12, 13, 10, 14, 15, 16, 17, 18, 19, 20, 21, 22, 23, 24, 44, 45, 46, 47, 48, 49, 50, 51, 52, 53, 54, 55, 56, 57, 58] (by decide +kernel) (by decide +kernel)
set_option maxRecDepth 20000 in
theorem gX8_figure_X8_rowRefusal : GoodIn wsX8_figure (wsV RX8 85 RX8 yX8_rowRefusal wsX8_rowRefusal) := goodIn_app (goodIn_of _ (by decide +kernel)) ggX8_figure_X8_rowRefusal
set_option maxRecDepth 20000 in
theorem ggX8_figure_X8_refuse : GoodIn wsX8_figure wsX8_refuse := goodIn_r _ [28, 29, 44, 45, 46, 47, 48, 49, 50, 51, 52, 53, 54, 55] (by decide +kernel) (by decide +kernel)
set_option maxRecDepth 20000 in
theorem gX8_figure_X8_refuse : GoodIn wsX8_figure (wsV RX8 68 RX8 yX8_refuse wsX8_refuse) := goodIn_app (goodIn_of _ (by decide +kernel)) ggX8_figure_X8_refuse
set_option maxRecDepth 20000 in
theorem ggX8_figure_X5_notZero : GoodIn wsX8_figure wsX5_notZero := goodIn_r _ [34, 35, 36, 73, 74, 75] (by decide +kernel) (by decide +kernel)
set_option maxRecDepth 20000 in
theorem gX8_figure_X5_notZero : GoodIn wsX8_figure (wsV RX8 176 RX5 yX5_notZero wsX5_notZero) := goodIn_app (goodIn_of _ (by decide +kernel)) ggX8_figure_X5_notZero
set_option maxRecDepth 20000 in
theorem ggX8_figure_J13_bitCount_95d88 : GoodIn wsX8_figure wsJ13_bitCount_95d88 := goodIn_r _ [40, 41, 42, 43] (by decide +kernel) (by decide +kernel)
set_option maxRecDepth 20000 in
theorem gX8_figure_J13_bitCount_95d88 : GoodIn wsX8_figure (va_wsS RX8 170 yJ13_bitCount_95d88 wsJ13_bitCount_95d88) := goodIn_app (goodIn_of _ (by decide +kernel)) ggX8_figure_J13_bitCount_95d88
theorem dX8_figure_0 : decode cX8_figure 0 = .ok (.aload_n 0, 1) := by decide +kernel
theorem dX8_figure_1 : decode cX8_figure 1 = .ok (.iload_n 1, 1) := by decide +kernel
theorem dX8_figure_2 : decode cX8_figure 2 = .ok (.invokevirtual 85, 3) := by decide +kernel
theorem dX8_figure_5 : decode cX8_figure 5 = .ok (.istore_n 2, 1) := by decide +kernel
theorem dX8_figure_6 : decode cX8_figure 6 = .ok (.iload_n 2, 1) := by decide +kernel
theorem dX8_figure_7 : decode cX8_figure 7 = .ok (.ifCond .eq 9, 3) := by decide +kernel
theorem dX8_figure_10 : decode cX8_figure 10 = .ok (.aload_n 0, 1) := by decide +kernel
theorem dX8_figure_11 : decode cX8_figure 11 = .ok (.iload_n 2, 1) := by decide +kernel
theorem dX8_figure_12 : decode cX8_figure 12 = .ok (.invokevirtual 68, 3) := by decide +kernel
theorem dX8_figure_15 : decode cX8_figure 15 = .ok (.ireturn, 1) := by decide +kernel
theorem dX8_figure_16 : decode cX8_figure 16 = .ok (.aload_n 0, 1) := by decide +kernel
theorem dX8_figure_17 : decode cX8_figure 17 = .ok (.getfield 10, 3) := by decide +kernel
theorem dX8_figure_20 : decode cX8_figure 20 = .ok (.aload_n 0, 1) := by decide +kernel
theorem dX8_figure_21 : decode cX8_figure 21 = .ok (.getfield 28, 3) := by decide +kernel
theorem dX8_figure_24 : decode cX8_figure 24 = .ok (.iload_n 1, 1) := by decide +kernel
theorem dX8_figure_25 : decode cX8_figure 25 = .ok (.aaload, 1) := by decide +kernel
theorem dX8_figure_26 : decode cX8_figure 26 = .ok (.getfield 75, 3) := by decide +kernel
theorem dX8_figure_29 : decode cX8_figure 29 = .ok (.invokevirtual 176, 3) := by decide +kernel
theorem dX8_figure_32 : decode cX8_figure 32 = .ok (.aload_n 0, 1) := by decide +kernel
theorem dX8_figure_33 : decode cX8_figure 33 = .ok (.getfield 10, 3) := by decide +kernel
theorem dX8_figure_36 : decode cX8_figure 36 = .ok (.getfield 148, 3) := by decide +kernel
theorem dX8_figure_39 : decode cX8_figure 39 = .ok (.getfield 165, 3) := by decide +kernel
theorem dX8_figure_42 : decode cX8_figure 42 = .ok (.land, 1) := by decide +kernel
theorem dX8_figure_43 : decode cX8_figure 43 = .ok (.putfield 161, 3) := by decide +kernel
theorem dX8_figure_46 : decode cX8_figure 46 = .ok (.aload_n 0, 1) := by decide +kernel
theorem dX8_figure_47 : decode cX8_figure 47 = .ok (.getfield 10, 3) := by decide +kernel
theorem dX8_figure_50 : decode cX8_figure 50 = .ok (.getfield 161, 3) := by decide +kernel
theorem dX8_figure_53 : decode cX8_figure 53 = .ok (.invokestatic 170, 3) := by decide +kernel
theorem dX8_figure_56 : decode cX8_figure 56 = .ok (.ireturn, 1) := by decide +kernel
set_option maxRecDepth 20000 in
theorem ggX8_piece_X8_refuse : GoodIn wsX8_piece wsX8_refuse := goodIn_r _ [9, 10, 18, 19, 20, 21, 22, 23, 24, 25, 26, 27, 28, 29] (by decide +kernel) (by decide +kernel)
set_option maxRecDepth 20000 in
theorem gX8_piece_X8_refuse : GoodIn wsX8_piece (wsV RX8 68 RX8 yX8_refuse wsX8_refuse) := goodIn_app (goodIn_of _ (by decide +kernel)) ggX8_piece_X8_refuse
set_option maxRecDepth 20000 in
theorem ggX8_piece_X2_addPiece : GoodIn wsX8_piece wsX2_addPiece := goodIn_r _ [15, 16, 17, 30, 31, 32, 33, 34, 35, 36, 37] (by decide +kernel) (by decide +kernel)
set_option maxRecDepth 20000 in
theorem gX8_piece_X2_addPiece : GoodIn wsX8_piece (wsV RX8 182 RX2 yX2_addPiece wsX2_addPiece) := goodIn_app (goodIn_of _ (by decide +kernel)) ggX8_piece_X2_addPiece
theorem dX8_piece_0 : decode cX8_piece 0 = .ok (.aload_n 0, 1) := by decide +kernel
theorem dX8_piece_1 : decode cX8_piece 1 = .ok (.getfield 10, 3) := by decide +kernel
theorem dX8_piece_4 : decode cX8_piece 4 = .ok (.getfield 179, 3) := by decide +kernel
theorem dX8_piece_7 : decode cX8_piece 7 = .ok (.bipush 8, 2) := by decide +kernel
theorem dX8_piece_9 : decode cX8_piece 9 = .ok (.if_icmp .lt 10, 3) := by decide +kernel
theorem dX8_piece_12 : decode cX8_piece 12 = .ok (.aload_n 0, 1) := by decide +kernel
theorem dX8_piece_13 : decode cX8_piece 13 = .ok (.bipush (-6), 2) := by decide +kernel
theorem dX8_piece_15 : decode cX8_piece 15 = .ok (.invokevirtual 68, 3) := by decide +kernel
theorem dX8_piece_18 : decode cX8_piece 18 = .ok (.ireturn, 1) := by decide +kernel
theorem dX8_piece_19 : decode cX8_piece 19 = .ok (.aload_n 0, 1) := by decide +kernel
theorem dX8_piece_20 : decode cX8_piece 20 = .ok (.getfield 10, 3) := by decide +kernel
theorem dX8_piece_23 : decode cX8_piece 23 = .ok (.lload_n 1, 1) := by decide +kernel
theorem dX8_piece_24 : decode cX8_piece 24 = .ok (.aload_n 0, 1) := by decide +kernel
theorem dX8_piece_25 : decode cX8_piece 25 = .ok (.getfield 10, 3) := by decide +kernel
theorem dX8_piece_28 : decode cX8_piece 28 = .ok (.getfield 148, 3) := by decide +kernel
theorem dX8_piece_31 : decode cX8_piece 31 = .ok (.getfield 165, 3) := by decide +kernel
theorem dX8_piece_34 : decode cX8_piece 34 = .ok (.land, 1) := by decide +kernel
theorem dX8_piece_35 : decode cX8_piece 35 = .ok (.invokevirtual 182, 3) := by decide +kernel
theorem dX8_piece_38 : decode cX8_piece 38 = .ok (.aload_n 0, 1) := by decide +kernel
theorem dX8_piece_39 : decode cX8_piece 39 = .ok (.getfield 10, 3) := by decide +kernel
theorem dX8_piece_42 : decode cX8_piece 42 = .ok (.getfield 179, 3) := by decide +kernel
theorem dX8_piece_45 : decode cX8_piece 45 = .ok (.iconst 1, 1) := by decide +kernel
theorem dX8_piece_46 : decode cX8_piece 46 = .ok (.isub, 1) := by decide +kernel
theorem dX8_piece_47 : decode cX8_piece 47 = .ok (.ireturn, 1) := by decide +kernel
set_option maxRecDepth 20000 in
theorem ggX8_alter_X8_onPieceRefusal : GoodIn wsX8_alter wsX8_onPieceRefusal := goodIn_r _ [9, 1, 10, 11, 12, 8, 13, 14, 15, 16, 17, 18, 19, 20, 33, 34, 35, 36, 37, 38, 39, 40, 41, 42, 43, 44, 45, 46, 47, 48, 49, 50, 51, 52] (by decide +kernel) (by decide +kernel)
set_option maxRecDepth 20000 in
theorem gX8_alter_X8_onPieceRefusal : GoodIn wsX8_alter (wsV RX8 186 RX8 yX8_onPieceRefusal wsX8_onPieceRefusal) := goodIn_app (goodIn_of _ (by decide +kernel)) ggX8_alter_X8_onPieceRefusal
set_option maxRecDepth 20000 in
theorem ggX8_alter_X8_refuse : GoodIn wsX8_alter wsX8_refuse := goodIn_r _ [24, 25, 33, 34, 35, 36, 37, 38, 39, 40, 41, 42, 43, 44] (by decide +kernel) (by decide +kernel)
set_option maxRecDepth 20000 in
theorem gX8_alter_X8_refuse : GoodIn wsX8_alter (wsV RX8 68 RX8 yX8_refuse wsX8_refuse) := goodIn_app (goodIn_of _ (by decide +kernel)) ggX8_alter_X8_refuse
set_option maxRecDepth 20000 in
theorem ggX8_alter_J13_bitCount_95d88 : GoodIn wsX8_alter wsJ13_bitCount_95d88 := goodIn_r _ [29, 30, 31, 32] (by decide +kernel) (by decide +kernel)
set_option maxRecDepth 20000 in
theorem gX8_alter_J13_bitCount_95d88 : GoodIn wsX8_alter (va_wsS RX8 170 yJ13_bitCount_95d88 wsJ13_bitCount_95d88) := goodIn_app (goodIn_of _ (by decide +kernel)) ggX8_alter_J13_bitCount_95d88
theorem dX8_alter_0 : decode cX8_alter 0 = .ok (.aload_n 0, 1) := by decide +kernel
theorem dX8_alter_1 : decode cX8_alter 1 = .ok (.iload_n 1, 1) := by decide +kernel
theorem dX8_alter_2 : decode cX8_alter 2 = .ok (.invokevirtual 186, 3) := by decide +kernel
theorem dX8_alter_5 : decode cX8_alter 5 = .ok (.istore 4, 2) := by decide +kernel
theorem dX8_alter_7 : decode cX8_alter 7 = .ok (.iload 4, 2) := by decide +kernel
theorem dX8_alter_9 : decode cX8_alter 9 = .ok (.ifCond .eq 10, 3) := by decide +kernel
theorem dX8_alter_12 : decode cX8_alter 12 = .ok (.aload_n 0, 1) := by decide +kernel
theorem dX8_alter_13 : decode cX8_alter 13 = .ok (.iload 4, 2) := by decide +kernel
theorem dX8_alter_15 : decode cX8_alter 15 = .ok (.invokevirtual 68, 3) := by decide +kernel
theorem dX8_alter_18 : decode cX8_alter 18 = .ok (.ireturn, 1) := by decide +kernel
theorem dX8_alter_19 : decode cX8_alter 19 = .ok (.aload_n 0, 1) := by decide +kernel
theorem dX8_alter_20 : decode cX8_alter 20 = .ok (.getfield 10, 3) := by decide +kernel
theorem dX8_alter_23 : decode cX8_alter 23 = .ok (.getfield 189, 3) := by decide +kernel
theorem dX8_alter_26 : decode cX8_alter 26 = .ok (.iload_n 1, 1) := by decide +kernel
theorem dX8_alter_27 : decode cX8_alter 27 = .ok (.laload, 1) := by decide +kernel
theorem dX8_alter_28 : decode cX8_alter 28 = .ok (.invokestatic 170, 3) := by decide +kernel
theorem dX8_alter_31 : decode cX8_alter 31 = .ok (.istore 5, 2) := by decide +kernel
theorem dX8_alter_33 : decode cX8_alter 33 = .ok (.aload_n 0, 1) := by decide +kernel
theorem dX8_alter_34 : decode cX8_alter 34 = .ok (.getfield 10, 3) := by decide +kernel
theorem dX8_alter_37 : decode cX8_alter 37 = .ok (.getfield 189, 3) := by decide +kernel
theorem dX8_alter_40 : decode cX8_alter 40 = .ok (.iload_n 1, 1) := by decide +kernel
theorem dX8_alter_41 : decode cX8_alter 41 = .ok (.lload_n 2, 1) := by decide +kernel
theorem dX8_alter_42 : decode cX8_alter 42 = .ok (.aload_n 0, 1) := by decide +kernel
theorem dX8_alter_43 : decode cX8_alter 43 = .ok (.getfield 10, 3) := by decide +kernel
theorem dX8_alter_46 : decode cX8_alter 46 = .ok (.getfield 148, 3) := by decide +kernel
theorem dX8_alter_49 : decode cX8_alter 49 = .ok (.getfield 165, 3) := by decide +kernel
theorem dX8_alter_52 : decode cX8_alter 52 = .ok (.land, 1) := by decide +kernel
theorem dX8_alter_53 : decode cX8_alter 53 = .ok (.lastore, 1) := by decide +kernel
theorem dX8_alter_54 : decode cX8_alter 54 = .ok (.iload 5, 2) := by decide +kernel
theorem dX8_alter_56 : decode cX8_alter 56 = .ok (.ireturn, 1) := by decide +kernel
set_option maxRecDepth 20000 in
theorem ggX8_ask_X8_askShows : GoodIn wsX8_ask wsX8_askShows := goodIn_r _ [5, 6, 7, 8, 9, 10, 11, 4, 12, 13, 14, 15, 16, 17, 18, 19, 20, 21, 22, 23, 24, 25, 26, 27, 28, 29, 30, 31, 32, 33, 34, 35, 46, 47, 48, 49, 50, 51, 52, 53, 54, 55, 56, 57, 58, 59, 60, 61, 62, 63, 64, 65, 66, 67, 68, 69, 70, 71] (by decide +kernel) (by decide +kernel)
set_option maxRecDepth 20000 in
theorem gX8_ask_X8_askShows : GoodIn wsX8_ask (wsV RX8 192 RX8 yX8_askShows wsX8_askShows) := goodIn_app (goodIn_of _ (by decide +kernel)) ggX8_ask_X8_askShows
set_option maxRecDepth 20000 in
theorem ggX8_ask_X8_askHeavy : GoodIn wsX8_ask wsX8_askHeavy := goodIn_r _ [39, 6, 40, 9, 10, 11, 4, 12, 13, 46, 47, 48, 49, 50, 51, 52, 53, 54, 55, 56, 57, 58, 59, 60, 61, 62, 63, 64, 65] (by decide +kernel) (by decide +kernel)
set_option maxRecDepth 20000 in
theorem gX8_ask_X8_askHeavy : GoodIn wsX8_ask (wsV RX8 196 RX8 yX8_askHeavy wsX8_askHeavy) := goodIn_app (goodIn_of _ (by decide +kernel)) ggX8_ask_X8_askHeavy
set_option maxRecDepth 20000 in
theorem ggX8_ask_X8_askWear : GoodIn wsX8_ask wsX8_askWear := goodIn_r _ [44, 6, 45, 9, 10, 11, 4, 12, 13, 46, 47, 48, 49, 50, 51, 52, 53, 54, 55, 56, 57, 58, 59, 60, 61, 62, 63, 64, 65] (by decide +kernel) (by decide +kernel)
set_option maxRecDepth 20000 in
theorem gX8_ask_X8_askWear : GoodIn wsX8_ask (wsV RX8 199 RX8 yX8_askWear wsX8_askWear) := goodIn_app (goodIn_of _ (by decide +kernel)) ggX8_ask_X8_askWear
set_option maxRecDepth 20000 in
theorem ggX8_ask_X8_refuse : GoodIn wsX8_ask wsX8_refuse := goodIn_r _ [12, 13, 46, 47, 48, 49, 50, 51, 52, 53, 54, 55, 56, 57] (by decide +kernel) (by decide +kernel)
set_option maxRecDepth 20000 in
theorem gX8_ask_X8_refuse : GoodIn wsX8_ask (wsV RX8 68 RX8 yX8_refuse wsX8_refuse) := goodIn_app (goodIn_of _ (by decide +kernel)) ggX8_ask_X8_refuse
theorem dX8_ask_0 : decode cX8_ask 0 = .ok (.iload_n 1, 1) := by decide +kernel
theorem dX8_ask_1 : decode cX8_ask 1 = .ok (.tableswitch 46 0 2 #[27, 34, 40], 27) := by decide +kernel
theorem dX8_ask_28 : decode cX8_ask 28 = .ok (.aload_n 0, 1) := by decide +kernel
theorem dX8_ask_29 : decode cX8_ask 29 = .ok (.iload_n 2, 1) := by decide +kernel
theorem dX8_ask_30 : decode cX8_ask 30 = .ok (.iload_n 3, 1) := by decide +kernel
theorem dX8_ask_31 : decode cX8_ask 31 = .ok (.invokevirtual 192, 3) := by decide +kernel
theorem dX8_ask_34 : decode cX8_ask 34 = .ok (.ireturn, 1) := by decide +kernel
theorem dX8_ask_35 : decode cX8_ask 35 = .ok (.aload_n 0, 1) := by decide +kernel
theorem dX8_ask_36 : decode cX8_ask 36 = .ok (.iload_n 3, 1) := by decide +kernel
theorem dX8_ask_37 : decode cX8_ask 37 = .ok (.invokevirtual 196, 3) := by decide +kernel
theorem dX8_ask_40 : decode cX8_ask 40 = .ok (.ireturn, 1) := by decide +kernel
theorem dX8_ask_41 : decode cX8_ask 41 = .ok (.aload_n 0, 1) := by decide +kernel
theorem dX8_ask_42 : decode cX8_ask 42 = .ok (.iload_n 3, 1) := by decide +kernel
theorem dX8_ask_43 : decode cX8_ask 43 = .ok (.invokevirtual 199, 3) := by decide +kernel
theorem dX8_ask_46 : decode cX8_ask 46 = .ok (.ireturn, 1) := by decide +kernel
theorem dX8_ask_47 : decode cX8_ask 47 = .ok (.aload_n 0, 1) := by decide +kernel
theorem dX8_ask_48 : decode cX8_ask 48 = .ok (.bipush (-2), 2) := by decide +kernel
theorem dX8_ask_50 : decode cX8_ask 50 = .ok (.invokevirtual 68, 3) := by decide +kernel
theorem dX8_ask_53 : decode cX8_ask 53 = .ok (.ireturn, 1) := by decide +kernel
set_option maxRecDepth 20000 in
theorem ggX8_feed_X8_refuse : GoodIn wsX8_feed wsX8_refuse := goodIn_r _ [7, 8, 16, 17, 18, 19, 20, 21, 22, 23, 24, 25, 26, 27] (by decide +kernel) (by decide +kernel)
set_option maxRecDepth 20000 in
theorem gX8_feed_X8_refuse : GoodIn wsX8_feed (wsV RX8 68 RX8 yX8_refuse wsX8_refuse) := goodIn_app (goodIn_of _ (by decide +kernel)) ggX8_feed_X8_refuse
set_option maxRecDepth 20000 in
theorem ggX8_feed_X7_add : GoodIn wsX8_feed wsX7_add := goodIn_r _ [13, 14, 15, 28, 29, 30, 31, 32] (by decide +kernel) (by decide +kernel)
set_option maxRecDepth 20000 in
theorem gX8_feed_X7_add : GoodIn wsX8_feed (wsV RX8 205 RX7 yX7_add wsX7_add) := goodIn_app (goodIn_of _ (by decide +kernel)) ggX8_feed_X7_add
theorem dX8_feed_0 : decode cX8_feed 0 = .ok (.iload_n 2, 1) := by decide +kernel
theorem dX8_feed_1 : decode cX8_feed 1 = .ok (.iconst 1, 1) := by decide +kernel
theorem dX8_feed_2 : decode cX8_feed 2 = .ok (.if_icmp .lt 8, 3) := by decide +kernel
theorem dX8_feed_5 : decode cX8_feed 5 = .ok (.iload_n 2, 1) := by decide +kernel
theorem dX8_feed_6 : decode cX8_feed 6 = .ok (.iconst 4, 1) := by decide +kernel
theorem dX8_feed_7 : decode cX8_feed 7 = .ok (.if_icmp .le 10, 3) := by decide +kernel
theorem dX8_feed_10 : decode cX8_feed 10 = .ok (.aload_n 0, 1) := by decide +kernel
theorem dX8_feed_11 : decode cX8_feed 11 = .ok (.bipush (-2), 2) := by decide +kernel
theorem dX8_feed_13 : decode cX8_feed 13 = .ok (.invokevirtual 68, 3) := by decide +kernel
theorem dX8_feed_16 : decode cX8_feed 16 = .ok (.ireturn, 1) := by decide +kernel
theorem dX8_feed_17 : decode cX8_feed 17 = .ok (.aload_n 0, 1) := by decide +kernel
theorem dX8_feed_18 : decode cX8_feed 18 = .ok (.getfield 35, 3) := by decide +kernel
theorem dX8_feed_21 : decode cX8_feed 21 = .ok (.getfield 202, 3) := by decide +kernel
theorem dX8_feed_24 : decode cX8_feed 24 = .ok (.iload_n 2, 1) := by decide +kernel
theorem dX8_feed_25 : decode cX8_feed 25 = .ok (.iadd, 1) := by decide +kernel
theorem dX8_feed_26 : decode cX8_feed 26 = .ok (.sipush 250, 3) := by decide +kernel
theorem dX8_feed_29 : decode cX8_feed 29 = .ok (.if_icmp .le 10, 3) := by decide +kernel
theorem dX8_feed_32 : decode cX8_feed 32 = .ok (.aload_n 0, 1) := by decide +kernel
theorem dX8_feed_33 : decode cX8_feed 33 = .ok (.bipush (-6), 2) := by decide +kernel
theorem dX8_feed_35 : decode cX8_feed 35 = .ok (.invokevirtual 68, 3) := by decide +kernel
theorem dX8_feed_38 : decode cX8_feed 38 = .ok (.ireturn, 1) := by decide +kernel
theorem dX8_feed_39 : decode cX8_feed 39 = .ok (.iload_n 2, 1) := by decide +kernel
theorem dX8_feed_40 : decode cX8_feed 40 = .ok (.iconst 1, 1) := by decide +kernel
theorem dX8_feed_41 : decode cX8_feed 41 = .ok (.isub, 1) := by decide +kernel
theorem dX8_feed_42 : decode cX8_feed 42 = .ok (.istore_n 3, 1) := by decide +kernel
theorem dX8_feed_43 : decode cX8_feed 43 = .ok (.iload_n 3, 1) := by decide +kernel
theorem dX8_feed_44 : decode cX8_feed 44 = .ok (.ifCond .lt 26, 3) := by decide +kernel
theorem dX8_feed_47 : decode cX8_feed 47 = .ok (.aload_n 0, 1) := by decide +kernel
theorem dX8_feed_48 : decode cX8_feed 48 = .ok (.getfield 35, 3) := by decide +kernel
theorem dX8_feed_51 : decode cX8_feed 51 = .ok (.iload_n 1, 1) := by decide +kernel
theorem dX8_feed_52 : decode cX8_feed 52 = .ok (.bipush 8, 2) := by decide +kernel
theorem dX8_feed_54 : decode cX8_feed 54 = .ok (.iload_n 3, 1) := by decide +kernel
theorem dX8_feed_55 : decode cX8_feed 55 = .ok (.imul, 1) := by decide +kernel
theorem dX8_feed_56 : decode cX8_feed 56 = .ok (.iushr, 1) := by decide +kernel
theorem dX8_feed_57 : decode cX8_feed 57 = .ok (.sipush 255, 3) := by decide +kernel
theorem dX8_feed_60 : decode cX8_feed 60 = .ok (.iand, 1) := by decide +kernel
theorem dX8_feed_61 : decode cX8_feed 61 = .ok (.invokevirtual 205, 3) := by decide +kernel
theorem dX8_feed_64 : decode cX8_feed 64 = .ok (.iinc 3 (-1), 3) := by decide +kernel
theorem dX8_feed_67 : decode cX8_feed 67 = .ok (.goto (-24), 3) := by decide +kernel
theorem dX8_feed_70 : decode cX8_feed 70 = .ok (.aload_n 0, 1) := by decide +kernel
theorem dX8_feed_71 : decode cX8_feed 71 = .ok (.getfield 35, 3) := by decide +kernel
theorem dX8_feed_74 : decode cX8_feed 74 = .ok (.getfield 202, 3) := by decide +kernel
theorem dX8_feed_77 : decode cX8_feed 77 = .ok (.ireturn, 1) := by decide +kernel
theorem dX8_wipe_0 : decode cX8_wipe 0 = .ok (.aload_n 0, 1) := by decide +kernel
theorem dX8_wipe_1 : decode cX8_wipe 1 = .ok (.getfield 35, 3) := by decide +kernel
theorem dX8_wipe_4 : decode cX8_wipe 4 = .ok (.getfield 202, 3) := by decide +kernel
theorem dX8_wipe_7 : decode cX8_wipe 7 = .ok (.istore_n 1, 1) := by decide +kernel
theorem dX8_wipe_8 : decode cX8_wipe 8 = .ok (.aload_n 0, 1) := by decide +kernel
theorem dX8_wipe_9 : decode cX8_wipe 9 = .ok (.getfield 35, 3) := by decide +kernel
theorem dX8_wipe_12 : decode cX8_wipe 12 = .ok (.iconst 0, 1) := by decide +kernel
theorem dX8_wipe_13 : decode cX8_wipe 13 = .ok (.putfield 202, 3) := by decide +kernel
theorem dX8_wipe_16 : decode cX8_wipe 16 = .ok (.iload_n 1, 1) := by decide +kernel
theorem dX8_wipe_17 : decode cX8_wipe 17 = .ok (.ireturn, 1) := by decide +kernel
set_option maxRecDepth 20000 in
theorem ggX8_read_X2_takeFrom : GoodIn wsX8_read wsX2_takeFrom := goodIn_r _ [10, 11, 12, 13, 14, 15, 16, 17, 18, 19, 20, 21, 22, 23, 24, 25, 26, 27, 28, 29, 30, 31, 32, 33, 34, 35, 36, 37, 38, 39, 40, 41, 42, 43, 220, 221, 222, 223, 224, 225, 226, 227, 228, 229, 230, 231, 232, 233] (by decide +kernel) (by decide +kernel)
set_option maxRecDepth 20000 in
theorem gX8_read_X2_takeFrom : GoodIn wsX8_read (wsV RX8 208 RX2 yX2_takeFrom wsX2_takeFrom) := goodIn_app (goodIn_of _ (by decide +kernel)) ggX8_read_X2_takeFrom
set_option maxRecDepth 20000 in
theorem ggX8_read_X4_readAll : GoodIn wsX8_read wsX4_readAll := goodIn_r _ [47, 48, 49, 50, 51, 52, 53, 54, 55, 56, 57, 58, 59, 60, 61, 62, 63, 64, 65, 66, 67, 46, 68, 69, 70, 71, 72, 73, 74, 75, 76, 77, 78, 79, 80, 81, 82, 83, 84, 85, 86, 87, 88, 89, 90, 91, 92, 93, 94, 95, 96, 97, 98, 99, 100, 101, 102, 103, 104, 105, 106, 107, 108, 109, 110, 111, 112, 113, 114, 115, 116, 117, 118, 119, 120, 121, 122, 123, 124, 125, 126, 127, 128, 129, 130, 131, 132, 133, 134, 135, 136, 9, 137, 11, 13, 23, 138, 24, 25, 26, 27, 28, 29, 30, 31, 32, 33, 34, 35, 36, 37, 38, 39, 40, 41, 42, 43, 139, 140, 141, 142, 14, 15, 143, 144, 145, 146, 147, 148, 149, 150, 151, 152, 153, 154, 155, 156, 157, 158, 159, 160, 161, 162, 163, 164, 165, 166, 167, 168, 169, 170, 171, 172, 173, 18, 174, 175, 176, 177, 178, 179, 180, 181, 182, 183, 184, 185, 186, 187, 188, 189, 190, 191, 192, 193, 194, 195, 196, 215, 216, 217, 218, 219, 220, 221, 222, 223, 224, 225, 226, 227, 228, 229, 230, 231, 232, 233] (by decide +kernel) (by decide +kernel)
set_option maxRecDepth 20000 in
theorem gX8_read_X4_readAll : GoodIn wsX8_read (va_wsS RX8 212 yX4_readAll wsX4_readAll) := goodIn_app (goodIn_of _ (by decide +kernel)) ggX8_read_X4_readAll
set_option maxRecDepth 20000 in
theorem ggX8_read_X8_refuse : GoodIn wsX8_read wsX8_refuse := goodIn_r _ [201, 202, 203, 204, 205, 206, 207, 208, 209, 210, 211, 212, 213, 214] (by decide +kernel) (by decide +kernel)
set_option maxRecDepth 20000 in
theorem gX8_read_X8_refuse : GoodIn wsX8_read (wsV RX8 68 RX8 yX8_refuse wsX8_refuse) := goodIn_app (goodIn_of _ (by decide +kernel)) ggX8_read_X8_refuse
theorem dX8_read_0 : decode cX8_read 0 = .ok (.aload_n 0, 1) := by decide +kernel
theorem dX8_read_1 : decode cX8_read 1 = .ok (.getfield 19, 3) := by decide +kernel
theorem dX8_read_4 : decode cX8_read 4 = .ok (.aload_n 0, 1) := by decide +kernel
theorem dX8_read_5 : decode cX8_read 5 = .ok (.getfield 10, 3) := by decide +kernel
theorem dX8_read_8 : decode cX8_read 8 = .ok (.invokevirtual 208, 3) := by decide +kernel
theorem dX8_read_11 : decode cX8_read 11 = .ok (.aload_n 0, 1) := by decide +kernel
theorem dX8_read_12 : decode cX8_read 12 = .ok (.getfield 35, 3) := by decide +kernel
theorem dX8_read_15 : decode cX8_read 15 = .ok (.aload_n 0, 1) := by decide +kernel
theorem dX8_read_16 : decode cX8_read 16 = .ok (.getfield 19, 3) := by decide +kernel
theorem dX8_read_19 : decode cX8_read 19 = .ok (.invokestatic 212, 3) := by decide +kernel
theorem dX8_read_22 : decode cX8_read 22 = .ok (.istore_n 1, 1) := by decide +kernel
theorem dX8_read_23 : decode cX8_read 23 = .ok (.aload_n 0, 1) := by decide +kernel
theorem dX8_read_24 : decode cX8_read 24 = .ok (.getfield 35, 3) := by decide +kernel
theorem dX8_read_27 : decode cX8_read 27 = .ok (.getfield 218, 3) := by decide +kernel
theorem dX8_read_30 : decode cX8_read 30 = .ok (.istore_n 2, 1) := by decide +kernel
theorem dX8_read_31 : decode cX8_read 31 = .ok (.aload_n 0, 1) := by decide +kernel
theorem dX8_read_32 : decode cX8_read 32 = .ok (.getfield 35, 3) := by decide +kernel
theorem dX8_read_35 : decode cX8_read 35 = .ok (.iconst 0, 1) := by decide +kernel
theorem dX8_read_36 : decode cX8_read 36 = .ok (.putfield 202, 3) := by decide +kernel
theorem dX8_read_39 : decode cX8_read 39 = .ok (.iload_n 1, 1) := by decide +kernel
theorem dX8_read_40 : decode cX8_read 40 = .ok (.iconst (-1), 1) := by decide +kernel
theorem dX8_read_41 : decode cX8_read 41 = .ok (.if_icmp .ne 15, 3) := by decide +kernel
theorem dX8_read_44 : decode cX8_read 44 = .ok (.aload_n 0, 1) := by decide +kernel
theorem dX8_read_45 : decode cX8_read 45 = .ok (.bipush (-2), 2) := by decide +kernel
theorem dX8_read_47 : decode cX8_read 47 = .ok (.invokevirtual 68, 3) := by decide +kernel
theorem dX8_read_50 : decode cX8_read 50 = .ok (.pop, 1) := by decide +kernel
theorem dX8_read_51 : decode cX8_read 51 = .ok (.bipush (-20), 2) := by decide +kernel
theorem dX8_read_53 : decode cX8_read 53 = .ok (.iload_n 2, 1) := by decide +kernel
theorem dX8_read_54 : decode cX8_read 54 = .ok (.isub, 1) := by decide +kernel
theorem dX8_read_55 : decode cX8_read 55 = .ok (.ireturn, 1) := by decide +kernel
theorem dX8_read_56 : decode cX8_read 56 = .ok (.aload_n 0, 1) := by decide +kernel
theorem dX8_read_57 : decode cX8_read 57 = .ok (.getfield 10, 3) := by decide +kernel
theorem dX8_read_60 : decode cX8_read 60 = .ok (.aload_n 0, 1) := by decide +kernel
theorem dX8_read_61 : decode cX8_read 61 = .ok (.getfield 19, 3) := by decide +kernel
theorem dX8_read_64 : decode cX8_read 64 = .ok (.invokevirtual 208, 3) := by decide +kernel
theorem dX8_read_67 : decode cX8_read 67 = .ok (.iload_n 1, 1) := by decide +kernel
theorem dX8_read_68 : decode cX8_read 68 = .ok (.ireturn, 1) := by decide +kernel
set_option maxRecDepth 20000 in
theorem ggX8_cubes_X2_emptyCubes : GoodIn wsX8_cubes wsX2_emptyCubes := goodIn_r _ [8, 9, 10, 11, 12, 68, 69, 70, 71, 72, 73, 74, 75, 76, 77, 78, 79, 80, 81] (by decide +kernel) (by decide +kernel)
set_option maxRecDepth 20000 in
theorem gX8_cubes_X2_emptyCubes : GoodIn wsX8_cubes (wsV RX8 140 RX2 yX2_emptyCubes wsX2_emptyCubes) := goodIn_app (goodIn_of _ (by decide +kernel)) ggX8_cubes_X2_emptyCubes
set_option maxRecDepth 20000 in
theorem ggX8_cubes_X8_lookAtFigure : GoodIn wsX8_cubes wsX8_lookAtFigure := goodIn_r _ [17, 18, 1, 19, 2, 20, 21, 22, 23, 24, 25, 26, 27, 28, 29, 30, 31, 32, 33, 34, 35, 36, 37, 38, 39, 40, 41, 56, 57, 58, 59, 60, 61, 62, 63, 64, 65, 66, 67, 68, 69, 70, 71, 72, 73, 74, 75, 76, 77, 78, 79, 80, 81, 82, 83, 84] (by decide +kernel) (by decide +kernel)
set_option maxRecDepth 20000 in
theorem gX8_cubes_X8_lookAtFigure : GoodIn wsX8_cubes (wsV RX8 221 RX8 yX8_lookAtFigure wsX8_lookAtFigure) := goodIn_app (goodIn_of _ (by decide +kernel)) ggX8_cubes_X8_lookAtFigure
set_option maxRecDepth 20000 in
theorem ggX8_cubes_X1_neverFree : GoodIn wsX8_cubes wsX1_neverFree := goodIn_r _ [45, 27, 26, 46, 47, 48, 23, 49, 28, 82, 83, 84] (by decide +kernel) (by decide +kernel)
set_option maxRecDepth 20000 in
theorem gX8_cubes_X1_neverFree : GoodIn wsX8_cubes (wsV RX8 225 RX1 yX1_neverFree wsX1_neverFree) := goodIn_app (goodIn_of _ (by decide +kernel)) ggX8_cubes_X1_neverFree
set_option maxRecDepth 20000 in
theorem ggX8_cubes_X2_inPieces : GoodIn wsX8_cubes wsX2_inPieces := goodIn_r _ [53, 54, 55, 68, 69, 70, 71, 72, 73, 74, 75] (by decide +kernel) (by decide +kernel)
set_option maxRecDepth 20000 in
theorem gX8_cubes_X2_inPieces : GoodIn wsX8_cubes (wsV RX8 231 RX2 yX2_inPieces wsX2_inPieces) := goodIn_app (goodIn_of _ (by decide +kernel)) ggX8_cubes_X2_inPieces
theorem dX8_cubes_0 : decode cX8_cubes 0 = .ok (.iload_n 1, 1) := by decide +kernel
theorem dX8_cubes_1 : decode cX8_cubes 1 = .ok (.tableswitch 70 0 3 #[31, 39, 47, 55], 31) := by decide +kernel
theorem dX8_cubes_32 : decode cX8_cubes 32 = .ok (.aload_n 0, 1) := by decide +kernel
theorem dX8_cubes_33 : decode cX8_cubes 33 = .ok (.getfield 10, 3) := by decide +kernel
theorem dX8_cubes_36 : decode cX8_cubes 36 = .ok (.getfield 161, 3) := by decide +kernel
theorem dX8_cubes_39 : decode cX8_cubes 39 = .ok (.lreturn, 1) := by decide +kernel
theorem dX8_cubes_40 : decode cX8_cubes 40 = .ok (.aload_n 0, 1) := by decide +kernel
theorem dX8_cubes_41 : decode cX8_cubes 41 = .ok (.getfield 10, 3) := by decide +kernel
theorem dX8_cubes_44 : decode cX8_cubes 44 = .ok (.invokevirtual 140, 3) := by decide +kernel
theorem dX8_cubes_47 : decode cX8_cubes 47 = .ok (.lreturn, 1) := by decide +kernel
theorem dX8_cubes_48 : decode cX8_cubes 48 = .ok (.aload_n 0, 1) := by decide +kernel
theorem dX8_cubes_49 : decode cX8_cubes 49 = .ok (.invokevirtual 221, 3) := by decide +kernel
theorem dX8_cubes_52 : decode cX8_cubes 52 = .ok (.invokevirtual 225, 3) := by decide +kernel
theorem dX8_cubes_55 : decode cX8_cubes 55 = .ok (.lreturn, 1) := by decide +kernel
theorem dX8_cubes_56 : decode cX8_cubes 56 = .ok (.aload_n 0, 1) := by decide +kernel
theorem dX8_cubes_57 : decode cX8_cubes 57 = .ok (.getfield 10, 3) := by decide +kernel
theorem dX8_cubes_60 : decode cX8_cubes 60 = .ok (.aload_n 0, 1) := by decide +kernel
theorem dX8_cubes_61 : decode cX8_cubes 61 = .ok (.getfield 10, 3) := by decide +kernel
theorem dX8_cubes_64 : decode cX8_cubes 64 = .ok (.getfield 228, 3) := by decide +kernel
theorem dX8_cubes_67 : decode cX8_cubes 67 = .ok (.invokevirtual 231, 3) := by decide +kernel
theorem dX8_cubes_70 : decode cX8_cubes 70 = .ok (.lreturn, 1) := by decide +kernel
theorem dX8_cubes_71 : decode cX8_cubes 71 = .ok (.lconst 0, 1) := by decide +kernel
theorem dX8_cubes_72 : decode cX8_cubes 72 = .ok (.lreturn, 1) := by decide +kernel
set_option maxRecDepth 20000 in
theorem ggX8_setOf_X8_isPiece : GoodIn wsX8_setOf wsX8_isPiece := goodIn_r _ [7, 1, 8, 9, 10, 11, 12, 13, 14, 15, 16, 17, 18, 19, 20, 21, 22, 23, 24, 25, 26, 27, 28] (by decide +kernel) (by decide +kernel)
set_option maxRecDepth 20000 in
theorem gX8_setOf_X8_isPiece : GoodIn wsX8_setOf (wsV RX8 235 RX8 yX8_isPiece wsX8_isPiece) := goodIn_app (goodIn_of _ (by decide +kernel)) ggX8_setOf_X8_isPiece
theorem dX8_setOf_0 : decode cX8_setOf 0 = .ok (.aload_n 0, 1) := by decide +kernel
theorem dX8_setOf_1 : decode cX8_setOf 1 = .ok (.iload_n 1, 1) := by decide +kernel
theorem dX8_setOf_2 : decode cX8_setOf 2 = .ok (.invokevirtual 235, 3) := by decide +kernel
theorem dX8_setOf_5 : decode cX8_setOf 5 = .ok (.ifCond .eq 15, 3) := by decide +kernel
theorem dX8_setOf_8 : decode cX8_setOf 8 = .ok (.aload_n 0, 1) := by decide +kernel
theorem dX8_setOf_9 : decode cX8_setOf 9 = .ok (.getfield 10, 3) := by decide +kernel
theorem dX8_setOf_12 : decode cX8_setOf 12 = .ok (.getfield 189, 3) := by decide +kernel
theorem dX8_setOf_15 : decode cX8_setOf 15 = .ok (.iload_n 1, 1) := by decide +kernel
theorem dX8_setOf_16 : decode cX8_setOf 16 = .ok (.laload, 1) := by decide +kernel
theorem dX8_setOf_17 : decode cX8_setOf 17 = .ok (.goto 4, 3) := by decide +kernel
theorem dX8_setOf_20 : decode cX8_setOf 20 = .ok (.lconst 0, 1) := by decide +kernel
theorem dX8_setOf_21 : decode cX8_setOf 21 = .ok (.lreturn, 1) := by decide +kernel
set_option maxRecDepth 20000 in
theorem ggX8_whole_X0_isOnePart : GoodIn wsX8_whole wsX0_isOnePart := goodIn_r _ [8, 9, 10, 11, 7, 12, 13, 14, 15, 16, 17, 18, 19, 20, 21, 22, 23, 44, 45, 46, 47, 48, 49] (by decide +kernel) (by decide +kernel)
set_option maxRecDepth 20000 in
theorem gX8_whole_X0_isOnePart : GoodIn wsX8_whole (wsV RX8 238 RX0 yX0_isOnePart wsX0_isOnePart) := goodIn_app (goodIn_of _ (by decide +kernel)) ggX8_whole_X0_isOnePart
theorem dX8_whole_0 : decode cX8_whole 0 = .ok (.aload_n 0, 1) := by decide +kernel
theorem dX8_whole_1 : decode cX8_whole 1 = .ok (.getfield 10, 3) := by decide +kernel
theorem dX8_whole_4 : decode cX8_whole 4 = .ok (.getfield 148, 3) := by decide +kernel
theorem dX8_whole_7 : decode cX8_whole 7 = .ok (.lload_n 1, 1) := by decide +kernel
theorem dX8_whole_8 : decode cX8_whole 8 = .ok (.aload_n 0, 1) := by decide +kernel
theorem dX8_whole_9 : decode cX8_whole 9 = .ok (.getfield 10, 3) := by decide +kernel
theorem dX8_whole_12 : decode cX8_whole 12 = .ok (.getfield 148, 3) := by decide +kernel
theorem dX8_whole_15 : decode cX8_whole 15 = .ok (.getfield 165, 3) := by decide +kernel
theorem dX8_whole_18 : decode cX8_whole 18 = .ok (.land, 1) := by decide +kernel
theorem dX8_whole_19 : decode cX8_whole 19 = .ok (.invokevirtual 238, 3) := by decide +kernel
theorem dX8_whole_22 : decode cX8_whole 22 = .ok (.ifCond .eq 7, 3) := by decide +kernel
theorem dX8_whole_25 : decode cX8_whole 25 = .ok (.iconst 1, 1) := by decide +kernel
theorem dX8_whole_26 : decode cX8_whole 26 = .ok (.goto 4, 3) := by decide +kernel
theorem dX8_whole_29 : decode cX8_whole 29 = .ok (.iconst 0, 1) := by decide +kernel
theorem dX8_whole_30 : decode cX8_whole 30 = .ok (.ireturn, 1) := by decide +kernel
set_option maxRecDepth 20000 in
theorem ggX8_parts_X0_countParts : GoodIn wsX8_parts wsX0_countParts := goodIn_r _ [8, 9, 10, 11, 12, 7, 13, 14, 15, 16, 17, 18, 19, 20, 21, 22, 23, 44, 45, 46, 47, 48, 49] (by decide +kernel) (by decide +kernel)
set_option maxRecDepth 20000 in
theorem gX8_parts_X0_countParts : GoodIn wsX8_parts (wsV RX8 242 RX0 yX0_countParts wsX0_countParts) := goodIn_app (goodIn_of _ (by decide +kernel)) ggX8_parts_X0_countParts
theorem dX8_parts_0 : decode cX8_parts 0 = .ok (.aload_n 0, 1) := by decide +kernel
theorem dX8_parts_1 : decode cX8_parts 1 = .ok (.getfield 10, 3) := by decide +kernel
theorem dX8_parts_4 : decode cX8_parts 4 = .ok (.getfield 148, 3) := by decide +kernel
theorem dX8_parts_7 : decode cX8_parts 7 = .ok (.aload_n 0, 1) := by decide +kernel
theorem dX8_parts_8 : decode cX8_parts 8 = .ok (.getfield 10, 3) := by decide +kernel
theorem dX8_parts_11 : decode cX8_parts 11 = .ok (.getfield 161, 3) := by decide +kernel
theorem dX8_parts_14 : decode cX8_parts 14 = .ok (.invokevirtual 242, 3) := by decide +kernel
theorem dX8_parts_17 : decode cX8_parts 17 = .ok (.ireturn, 1) := by decide +kernel
set_option maxRecDepth 20000 in
theorem ggX8_free_X8_refuse : GoodIn wsX8_free wsX8_refuse := goodIn_r _ [9, 10, 42, 43, 44, 45, 46, 47, 48, 49, 50, 51, 52, 53] (by decide +kernel) (by decide +kernel)
set_option maxRecDepth 20000 in
theorem gX8_free_X8_refuse : GoodIn wsX8_free (wsV RX8 68 RX8 yX8_refuse wsX8_refuse) := goodIn_app (goodIn_of _ (by decide +kernel)) ggX8_free_X8_refuse
set_option maxRecDepth 20000 in
theorem ggX8_free_X8_lookAtFigure : GoodIn wsX8_free wsX8_lookAtFigure := goodIn_r _ [14, 15, 1, 2, 4, 16, 17, 18, 19, 20, 21, 22, 23, 24, 25, 26, 27, 28, 29, 30, 31, 32, 33, 34, 35, 36, 37, 42, 43, 44, 45, 46, 47, 48, 49, 50, 51, 52, 53, 54, 55, 56, 57, 58, 59, 60, 61, 62, 63, 64, 65, 66, 67, 68, 69, 70] (by decide +kernel) (by decide +kernel)
set_option maxRecDepth 20000 in
theorem gX8_free_X8_lookAtFigure : GoodIn wsX8_free (wsV RX8 221 RX8 yX8_lookAtFigure wsX8_lookAtFigure) := goodIn_app (goodIn_of _ (by decide +kernel)) ggX8_free_X8_lookAtFigure
set_option maxRecDepth 20000 in
theorem ggX8_free_X1_waysOf : GoodIn wsX8_free wsX1_waysOf := goodIn_r _ [41, 24, 68, 69, 70] (by decide +kernel) (by decide +kernel)
set_option maxRecDepth 20000 in
theorem gX8_free_X1_waysOf : GoodIn wsX8_free (wsV RX8 248 RX1 yX1_waysOf wsX1_waysOf) := goodIn_app (goodIn_of _ (by decide +kernel)) ggX8_free_X1_waysOf
theorem dX8_free_0 : decode cX8_free 0 = .ok (.iload_n 1, 1) := by decide +kernel
theorem dX8_free_1 : decode cX8_free 1 = .ok (.ifCond .lt 17, 3) := by decide +kernel
theorem dX8_free_4 : decode cX8_free 4 = .ok (.iload_n 1, 1) := by decide +kernel
theorem dX8_free_5 : decode cX8_free 5 = .ok (.aload_n 0, 1) := by decide +kernel
theorem dX8_free_6 : decode cX8_free 6 = .ok (.getfield 10, 3) := by decide +kernel
theorem dX8_free_9 : decode cX8_free 9 = .ok (.getfield 148, 3) := by decide +kernel
theorem dX8_free_12 : decode cX8_free 12 = .ok (.getfield 245, 3) := by decide +kernel
theorem dX8_free_15 : decode cX8_free 15 = .ok (.if_icmp .lt 10, 3) := by decide +kernel
theorem dX8_free_18 : decode cX8_free 18 = .ok (.aload_n 0, 1) := by decide +kernel
theorem dX8_free_19 : decode cX8_free 19 = .ok (.bipush (-2), 2) := by decide +kernel
theorem dX8_free_21 : decode cX8_free 21 = .ok (.invokevirtual 68, 3) := by decide +kernel
theorem dX8_free_24 : decode cX8_free 24 = .ok (.ireturn, 1) := by decide +kernel
theorem dX8_free_25 : decode cX8_free 25 = .ok (.aload_n 0, 1) := by decide +kernel
theorem dX8_free_26 : decode cX8_free 26 = .ok (.getfield 10, 3) := by decide +kernel
theorem dX8_free_29 : decode cX8_free 29 = .ok (.getfield 161, 3) := by decide +kernel
theorem dX8_free_32 : decode cX8_free 32 = .ok (.iload_n 1, 1) := by decide +kernel
theorem dX8_free_33 : decode cX8_free 33 = .ok (.lushr, 1) := by decide +kernel
theorem dX8_free_34 : decode cX8_free 34 = .ok (.lconst 1, 1) := by decide +kernel
theorem dX8_free_35 : decode cX8_free 35 = .ok (.land, 1) := by decide +kernel
theorem dX8_free_36 : decode cX8_free 36 = .ok (.lconst 0, 1) := by decide +kernel
theorem dX8_free_37 : decode cX8_free 37 = .ok (.lcmp, 1) := by decide +kernel
theorem dX8_free_38 : decode cX8_free 38 = .ok (.ifCond .eq 10, 3) := by decide +kernel
theorem dX8_free_41 : decode cX8_free 41 = .ok (.aload_n 0, 1) := by decide +kernel
theorem dX8_free_42 : decode cX8_free 42 = .ok (.bipush (-5), 2) := by decide +kernel
theorem dX8_free_44 : decode cX8_free 44 = .ok (.invokevirtual 68, 3) := by decide +kernel
theorem dX8_free_47 : decode cX8_free 47 = .ok (.ireturn, 1) := by decide +kernel
theorem dX8_free_48 : decode cX8_free 48 = .ok (.aload_n 0, 1) := by decide +kernel
theorem dX8_free_49 : decode cX8_free 49 = .ok (.invokevirtual 221, 3) := by decide +kernel
theorem dX8_free_52 : decode cX8_free 52 = .ok (.lconst 1, 1) := by decide +kernel
theorem dX8_free_53 : decode cX8_free 53 = .ok (.iload_n 1, 1) := by decide +kernel
theorem dX8_free_54 : decode cX8_free 54 = .ok (.lshl, 1) := by decide +kernel
theorem dX8_free_55 : decode cX8_free 55 = .ok (.invokevirtual 248, 3) := by decide +kernel
theorem dX8_free_58 : decode cX8_free 58 = .ok (.ireturn, 1) := by decide +kernel
set_option maxRecDepth 20000 in
theorem ggX8_comes_X8_moveRefusal : GoodIn wsX8_comes wsX8_moveRefusal := goodIn_r _ [11, 1, 12, 13, 10, 14, 15, 16, 17, 18, 19, 20, 21, 22, 23, 24, 65, 66, 67, 68, 69, 70, 71, 72, 73, 74, 75, 76, 77, 78, 79] (by decide +kernel) (by decide +kernel)
set_option maxRecDepth 20000 in
theorem gX8_comes_X8_moveRefusal : GoodIn wsX8_comes (wsV RX8 128 RX8 yX8_moveRefusal wsX8_moveRefusal) := goodIn_app (goodIn_of _ (by decide +kernel)) ggX8_comes_X8_moveRefusal
set_option maxRecDepth 20000 in
theorem ggX8_comes_X8_refuse : GoodIn wsX8_comes wsX8_refuse := goodIn_r _ [28, 29, 65, 66, 67, 68, 69, 70, 71, 72, 73, 74, 75, 76] (by decide +kernel) (by decide +kernel)
set_option maxRecDepth 20000 in
theorem gX8_comes_X8_refuse : GoodIn wsX8_comes (wsV RX8 68 RX8 yX8_refuse wsX8_refuse) := goodIn_app (goodIn_of _ (by decide +kernel)) ggX8_comes_X8_refuse
set_option maxRecDepth 20000 in
theorem ggX8_comes_X3_takes : GoodIn wsX8_comes wsX3_takes := goodIn_r _ [34, 35, 36, 37, 33, 38, 39, 40, 41, 42, 43, 44, 45, 46, 47, 48, 49, 50, 51, 52, 53, 54, 55, 56, 57, 58, 59, 60, 61, 62, 63, 64, 94, 95, 96, 88, 89, 90, 91, 92, 93] (by decide +kernel) (by decide +kernel)
set_option maxRecDepth 20000 in
theorem gX8_comes_X3_takes : GoodIn wsX8_comes (wsV RX8 251 RX3 yX3_takes wsX3_takes) := goodIn_app (goodIn_of _ (by decide +kernel)) ggX8_comes_X3_takes
theorem dX8_comes_0 : decode cX8_comes 0 = .ok (.aload_n 0, 1) := by decide +kernel
theorem dX8_comes_1 : decode cX8_comes 1 = .ok (.iload_n 1, 1) := by decide +kernel
theorem dX8_comes_2 : decode cX8_comes 2 = .ok (.invokevirtual 128, 3) := by decide +kernel
theorem dX8_comes_5 : decode cX8_comes 5 = .ok (.istore 4, 2) := by decide +kernel
theorem dX8_comes_7 : decode cX8_comes 7 = .ok (.iload 4, 2) := by decide +kernel
theorem dX8_comes_9 : decode cX8_comes 9 = .ok (.ifCond .eq 10, 3) := by decide +kernel
theorem dX8_comes_12 : decode cX8_comes 12 = .ok (.aload_n 0, 1) := by decide +kernel
theorem dX8_comes_13 : decode cX8_comes 13 = .ok (.iload 4, 2) := by decide +kernel
theorem dX8_comes_15 : decode cX8_comes 15 = .ok (.invokevirtual 68, 3) := by decide +kernel
theorem dX8_comes_18 : decode cX8_comes 18 = .ok (.ireturn, 1) := by decide +kernel
theorem dX8_comes_19 : decode cX8_comes 19 = .ok (.aload_n 0, 1) := by decide +kernel
theorem dX8_comes_20 : decode cX8_comes 20 = .ok (.getfield 28, 3) := by decide +kernel
theorem dX8_comes_23 : decode cX8_comes 23 = .ok (.iload_n 1, 1) := by decide +kernel
theorem dX8_comes_24 : decode cX8_comes 24 = .ok (.aaload, 1) := by decide +kernel
theorem dX8_comes_25 : decode cX8_comes 25 = .ok (.getfield 119, 3) := by decide +kernel
theorem dX8_comes_28 : decode cX8_comes 28 = .ok (.aload_n 0, 1) := by decide +kernel
theorem dX8_comes_29 : decode cX8_comes 29 = .ok (.getfield 10, 3) := by decide +kernel
theorem dX8_comes_32 : decode cX8_comes 32 = .ok (.getfield 148, 3) := by decide +kernel
theorem dX8_comes_35 : decode cX8_comes 35 = .ok (.lload_n 2, 1) := by decide +kernel
theorem dX8_comes_36 : decode cX8_comes 36 = .ok (.aload_n 0, 1) := by decide +kernel
theorem dX8_comes_37 : decode cX8_comes 37 = .ok (.getfield 10, 3) := by decide +kernel
theorem dX8_comes_40 : decode cX8_comes 40 = .ok (.getfield 148, 3) := by decide +kernel
theorem dX8_comes_43 : decode cX8_comes 43 = .ok (.getfield 165, 3) := by decide +kernel
theorem dX8_comes_46 : decode cX8_comes 46 = .ok (.land, 1) := by decide +kernel
theorem dX8_comes_47 : decode cX8_comes 47 = .ok (.aload_n 0, 1) := by decide +kernel
theorem dX8_comes_48 : decode cX8_comes 48 = .ok (.getfield 10, 3) := by decide +kernel
theorem dX8_comes_51 : decode cX8_comes 51 = .ok (.getfield 161, 3) := by decide +kernel
theorem dX8_comes_54 : decode cX8_comes 54 = .ok (.invokevirtual 251, 3) := by decide +kernel
theorem dX8_comes_57 : decode cX8_comes 57 = .ok (.ifCond .eq 7, 3) := by decide +kernel
theorem dX8_comes_60 : decode cX8_comes 60 = .ok (.iconst 1, 1) := by decide +kernel
theorem dX8_comes_61 : decode cX8_comes 61 = .ok (.goto 4, 3) := by decide +kernel
theorem dX8_comes_64 : decode cX8_comes 64 = .ok (.iconst 0, 1) := by decide +kernel
theorem dX8_comes_65 : decode cX8_comes 65 = .ok (.ireturn, 1) := by decide +kernel
set_option maxRecDepth 20000 in
theorem ggX8_wrong_X2_wrongPlace : GoodIn wsX8_wrong wsX2_wrongPlace := goodIn_r _ [6, 7, 8, 9, 10, 5, 11, 12, 13, 14, 15, 16, 17, 18, 19, 20, 21, 22, 23, 24, 25, 26, 27, 28, 29, 30, 31, 32, 33, 34, 35, 36, 37, 38, 39, 40, 41, 42, 43, 44, 45, 46, 47, 48, 49, 50, 51, 52, 53, 54, 55, 56, 57, 58, 59, 60, 61, 74, 75, 76, 77, 78, 79, 80, 81, 82, 83, 84, 85, 86, 87] (by decide +kernel) (by decide +kernel)
set_option maxRecDepth 20000 in
theorem gX8_wrong_X2_wrongPlace : GoodIn wsX8_wrong (wsV RX8 255 RX2 yX2_wrongPlace wsX2_wrongPlace) := goodIn_app (goodIn_of _ (by decide +kernel)) ggX8_wrong_X2_wrongPlace
theorem dX8_wrong_0 : decode cX8_wrong 0 = .ok (.iconst 1, 1) := by decide +kernel
theorem dX8_wrong_1 : decode cX8_wrong 1 = .ok (.istore_n 2, 1) := by decide +kernel
theorem dX8_wrong_2 : decode cX8_wrong 2 = .ok (.iload_n 2, 1) := by decide +kernel
theorem dX8_wrong_3 : decode cX8_wrong 3 = .ok (.iconst 5, 1) := by decide +kernel
theorem dX8_wrong_4 : decode cX8_wrong 4 = .ok (.if_icmp .gt 33, 3) := by decide +kernel
theorem dX8_wrong_7 : decode cX8_wrong 7 = .ok (.aload_n 0, 1) := by decide +kernel
theorem dX8_wrong_8 : decode cX8_wrong 8 = .ok (.getfield 10, 3) := by decide +kernel
theorem dX8_wrong_11 : decode cX8_wrong 11 = .ok (.iload_n 2, 1) := by decide +kernel
theorem dX8_wrong_12 : decode cX8_wrong 12 = .ok (.invokevirtual 255, 3) := by decide +kernel
theorem dX8_wrong_15 : decode cX8_wrong 15 = .ok (.istore_n 3, 1) := by decide +kernel
theorem dX8_wrong_16 : decode cX8_wrong 16 = .ok (.iload_n 3, 1) := by decide +kernel
theorem dX8_wrong_17 : decode cX8_wrong 17 = .ok (.iconst (-1), 1) := by decide +kernel
theorem dX8_wrong_18 : decode cX8_wrong 18 = .ok (.if_icmp .eq 13, 3) := by decide +kernel
theorem dX8_wrong_21 : decode cX8_wrong 21 = .ok (.iload_n 1, 1) := by decide +kernel
theorem dX8_wrong_22 : decode cX8_wrong 22 = .ok (.ifCond .eq 7, 3) := by decide +kernel
theorem dX8_wrong_25 : decode cX8_wrong 25 = .ok (.iload_n 2, 1) := by decide +kernel
theorem dX8_wrong_26 : decode cX8_wrong 26 = .ok (.goto 4, 3) := by decide +kernel
theorem dX8_wrong_29 : decode cX8_wrong 29 = .ok (.iload_n 3, 1) := by decide +kernel
theorem dX8_wrong_30 : decode cX8_wrong 30 = .ok (.ireturn, 1) := by decide +kernel
theorem dX8_wrong_31 : decode cX8_wrong 31 = .ok (.iinc 2 1, 3) := by decide +kernel
theorem dX8_wrong_34 : decode cX8_wrong 34 = .ok (.goto (-32), 3) := by decide +kernel
theorem dX8_wrong_37 : decode cX8_wrong 37 = .ok (.iload_n 1, 1) := by decide +kernel
theorem dX8_wrong_38 : decode cX8_wrong 38 = .ok (.ifCond .eq 7, 3) := by decide +kernel
theorem dX8_wrong_41 : decode cX8_wrong 41 = .ok (.iconst 0, 1) := by decide +kernel
theorem dX8_wrong_42 : decode cX8_wrong 42 = .ok (.goto 4, 3) := by decide +kernel
theorem dX8_wrong_45 : decode cX8_wrong 45 = .ok (.iconst (-1), 1) := by decide +kernel
theorem dX8_wrong_46 : decode cX8_wrong 46 = .ok (.ireturn, 1) := by decide +kernel
set_option maxRecDepth 20000 in
theorem ggX8_loose_X8_onPieceRefusal : GoodIn wsX8_loose wsX8_onPieceRefusal := goodIn_r _ [7, 1, 8, 9, 10, 6, 11, 12, 13, 14, 15, 16, 17, 18, 80, 81, 82, 83, 84, 85, 86, 87, 88, 89, 90, 91, 92, 93, 94, 95, 96, 97, 98, 99] (by decide +kernel) (by decide +kernel)
set_option maxRecDepth 20000 in
theorem gX8_loose_X8_onPieceRefusal : GoodIn wsX8_loose (wsV RX8 186 RX8 yX8_onPieceRefusal wsX8_onPieceRefusal) := goodIn_app (goodIn_of _ (by decide +kernel)) ggX8_loose_X8_onPieceRefusal
set_option maxRecDepth 20000 in
theorem ggX8_loose_X8_refuse : GoodIn wsX8_loose wsX8_refuse := goodIn_r _ [22, 23, 80, 81, 82, 83, 84, 85, 86, 87, 88, 89, 90, 91] (by decide +kernel) (by decide +kernel)
set_option maxRecDepth 20000 in
theorem gX8_loose_X8_refuse : GoodIn wsX8_loose (wsV RX8 68 RX8 yX8_refuse wsX8_refuse) := goodIn_app (goodIn_of _ (by decide +kernel)) ggX8_loose_X8_refuse
set_option maxRecDepth 20000 in
theorem ggX8_loose_X8_looseBy : GoodIn wsX8_loose wsX8_looseBy := goodIn_r _ [27, 1, 28, 29, 30, 31, 32, 33, 34, 35, 16, 36, 37, 38, 39, 40, 41, 42, 43, 44, 45, 46, 47, 48, 49, 50, 51, 52, 53, 54, 55, 56, 57, 58, 59, 60, 61, 62, 63, 64, 65, 66, 67, 68, 69, 70, 71, 72, 73, 74, 75, 76, 77, 78, 79, 80, 81, 82, 83, 84, 85, 86, 87, 88, 89, 90, 91, 92, 93, 94, 95, 96, 97, 98, 99, 100, 101, 102, 103, 104, 105, 106, 107, 108, 109, 110, 111] (by decide +kernel) (by decide +kernel)
set_option maxRecDepth 20000 in
theorem gX8_loose_X8_looseBy : GoodIn wsX8_loose (wsV RX8 258 RX8 yX8_looseBy wsX8_looseBy) := goodIn_app (goodIn_of _ (by decide +kernel)) ggX8_loose_X8_looseBy
theorem dX8_loose_0 : decode cX8_loose 0 = .ok (.aload_n 0, 1) := by decide +kernel
theorem dX8_loose_1 : decode cX8_loose 1 = .ok (.iload_n 1, 1) := by decide +kernel
theorem dX8_loose_2 : decode cX8_loose 2 = .ok (.invokevirtual 186, 3) := by decide +kernel
theorem dX8_loose_5 : decode cX8_loose 5 = .ok (.istore_n 2, 1) := by decide +kernel
theorem dX8_loose_6 : decode cX8_loose 6 = .ok (.iload_n 2, 1) := by decide +kernel
theorem dX8_loose_7 : decode cX8_loose 7 = .ok (.ifCond .eq 11, 3) := by decide +kernel
theorem dX8_loose_10 : decode cX8_loose 10 = .ok (.aload_n 0, 1) := by decide +kernel
theorem dX8_loose_11 : decode cX8_loose 11 = .ok (.iload_n 2, 1) := by decide +kernel
theorem dX8_loose_12 : decode cX8_loose 12 = .ok (.invokevirtual 68, 3) := by decide +kernel
theorem dX8_loose_15 : decode cX8_loose 15 = .ok (.goto 15, 3) := by decide +kernel
theorem dX8_loose_18 : decode cX8_loose 18 = .ok (.aload_n 0, 1) := by decide +kernel
theorem dX8_loose_19 : decode cX8_loose 19 = .ok (.iload_n 1, 1) := by decide +kernel
theorem dX8_loose_20 : decode cX8_loose 20 = .ok (.aload_n 0, 1) := by decide +kernel
theorem dX8_loose_21 : decode cX8_loose 21 = .ok (.getfield 10, 3) := by decide +kernel
theorem dX8_loose_24 : decode cX8_loose 24 = .ok (.getfield 228, 3) := by decide +kernel
theorem dX8_loose_27 : decode cX8_loose 27 = .ok (.invokevirtual 258, 3) := by decide +kernel
theorem dX8_loose_30 : decode cX8_loose 30 = .ok (.ireturn, 1) := by decide +kernel
set_option maxRecDepth 20000 in
theorem ggX8_bars_X8_isPiece : GoodIn wsX8_bars wsX8_isPiece := goodIn_r _ [11, 1, 2, 79, 80, 81, 82, 83, 84, 85, 86, 87, 88, 89, 90, 91, 92, 93, 94, 95, 96, 97, 98] (by decide +kernel) (by decide +kernel)
set_option maxRecDepth 20000 in
theorem gX8_bars_X8_isPiece : GoodIn wsX8_bars (wsV RX8 235 RX8 yX8_isPiece wsX8_isPiece) := goodIn_app (goodIn_of _ (by decide +kernel)) ggX8_bars_X8_isPiece
set_option maxRecDepth 20000 in
theorem ggX8_bars_X8_moveRefusal : GoodIn wsX8_bars wsX8_moveRefusal := goodIn_r _ [15, 3, 16, 17, 10, 18, 19, 20, 21, 22, 23, 24, 25, 26, 27, 28, 79, 80, 81, 82, 83, 84, 85, 86, 87, 88, 89, 90, 99, 100, 101] (by decide +kernel) (by decide +kernel)
set_option maxRecDepth 20000 in
theorem gX8_bars_X8_moveRefusal : GoodIn wsX8_bars (wsV RX8 128 RX8 yX8_moveRefusal wsX8_moveRefusal) := goodIn_app (goodIn_of _ (by decide +kernel)) ggX8_bars_X8_moveRefusal
set_option maxRecDepth 20000 in
theorem ggX8_bars_X8_onPieceRefusal : GoodIn wsX8_bars wsX8_onPieceRefusal := goodIn_r _ [32, 1, 7, 8, 9, 10, 11, 2, 33, 34, 35, 36, 37, 38, 79, 80, 81, 82, 83, 84, 85, 86, 87, 88, 89, 90, 91, 92, 93, 94, 95, 96, 97, 98] (by decide +kernel) (by decide +kernel)
set_option maxRecDepth 20000 in
theorem gX8_bars_X8_onPieceRefusal : GoodIn wsX8_bars (wsV RX8 186 RX8 yX8_onPieceRefusal wsX8_onPieceRefusal) := goodIn_app (goodIn_of _ (by decide +kernel)) ggX8_bars_X8_onPieceRefusal
set_option maxRecDepth 20000 in
theorem ggX8_bars_X8_refuse : GoodIn wsX8_bars wsX8_refuse := goodIn_r _ [42, 43, 79, 80, 81, 82, 83, 84, 85, 86, 87, 88, 89, 90] (by decide +kernel) (by decide +kernel)
set_option maxRecDepth 20000 in
theorem gX8_bars_X8_refuse : GoodIn wsX8_bars (wsV RX8 68 RX8 yX8_refuse wsX8_refuse) := goodIn_app (goodIn_of _ (by decide +kernel)) ggX8_bars_X8_refuse
set_option maxRecDepth 20000 in
theorem ggX8_bars_X2_isOff : GoodIn wsX8_bars wsX2_isOff := goodIn_r _ [37, 38, 91, 92, 93, 94, 95, 96, 97, 98] (by decide +kernel) (by decide +kernel)
set_option maxRecDepth 20000 in
theorem gX8_bars_X2_isOff : GoodIn wsX8_bars (wsV RX8 261 RX2 yX2_isOff wsX2_isOff) := goodIn_app (goodIn_of _ (by decide +kernel)) ggX8_bars_X2_isOff
set_option maxRecDepth 20000 in
theorem ggX8_bars_X3_takes : GoodIn wsX8_bars wsX3_takes := goodIn_r _ [48, 49, 50, 51, 47, 52, 53, 54, 55, 56, 57, 58, 59, 60, 61, 62, 63, 64, 65, 66, 67, 68, 69, 70, 71, 72, 73, 74, 75, 76, 77, 78, 102, 103, 104, 105, 106, 107, 108, 109, 110] (by decide +kernel) (by decide +kernel)
set_option maxRecDepth 20000 in
theorem gX8_bars_X3_takes : GoodIn wsX8_bars (wsV RX8 251 RX3 yX3_takes wsX3_takes) := goodIn_app (goodIn_of _ (by decide +kernel)) ggX8_bars_X3_takes
theorem dX8_bars_0 : decode cX8_bars 0 = .ok (.aload_n 0, 1) := by decide +kernel
theorem dX8_bars_1 : decode cX8_bars 1 = .ok (.iload_n 2, 1) := by decide +kernel
theorem dX8_bars_2 : decode cX8_bars 2 = .ok (.invokevirtual 235, 3) := by decide +kernel
theorem dX8_bars_5 : decode cX8_bars 5 = .ok (.ifCond .eq 11, 3) := by decide +kernel
theorem dX8_bars_8 : decode cX8_bars 8 = .ok (.aload_n 0, 1) := by decide +kernel
theorem dX8_bars_9 : decode cX8_bars 9 = .ok (.iload_n 1, 1) := by decide +kernel
theorem dX8_bars_10 : decode cX8_bars 10 = .ok (.invokevirtual 128, 3) := by decide +kernel
theorem dX8_bars_13 : decode cX8_bars 13 = .ok (.goto 5, 3) := by decide +kernel
theorem dX8_bars_16 : decode cX8_bars 16 = .ok (.bipush (-2), 2) := by decide +kernel
theorem dX8_bars_18 : decode cX8_bars 18 = .ok (.istore_n 3, 1) := by decide +kernel
theorem dX8_bars_19 : decode cX8_bars 19 = .ok (.iload_n 3, 1) := by decide +kernel
theorem dX8_bars_20 : decode cX8_bars 20 = .ok (.ifCond .ne 9, 3) := by decide +kernel
theorem dX8_bars_23 : decode cX8_bars 23 = .ok (.aload_n 0, 1) := by decide +kernel
theorem dX8_bars_24 : decode cX8_bars 24 = .ok (.iload_n 2, 1) := by decide +kernel
theorem dX8_bars_25 : decode cX8_bars 25 = .ok (.invokevirtual 186, 3) := by decide +kernel
theorem dX8_bars_28 : decode cX8_bars 28 = .ok (.istore_n 3, 1) := by decide +kernel
theorem dX8_bars_29 : decode cX8_bars 29 = .ok (.iload_n 3, 1) := by decide +kernel
theorem dX8_bars_30 : decode cX8_bars 30 = .ok (.ifCond .eq 9, 3) := by decide +kernel
theorem dX8_bars_33 : decode cX8_bars 33 = .ok (.aload_n 0, 1) := by decide +kernel
theorem dX8_bars_34 : decode cX8_bars 34 = .ok (.iload_n 3, 1) := by decide +kernel
theorem dX8_bars_35 : decode cX8_bars 35 = .ok (.invokevirtual 68, 3) := by decide +kernel
theorem dX8_bars_38 : decode cX8_bars 38 = .ok (.ireturn, 1) := by decide +kernel
theorem dX8_bars_39 : decode cX8_bars 39 = .ok (.iconst 0, 1) := by decide +kernel
theorem dX8_bars_40 : decode cX8_bars 40 = .ok (.istore 4, 2) := by decide +kernel
theorem dX8_bars_42 : decode cX8_bars 42 = .ok (.iconst 0, 1) := by decide +kernel
theorem dX8_bars_43 : decode cX8_bars 43 = .ok (.istore 5, 2) := by decide +kernel
theorem dX8_bars_45 : decode cX8_bars 45 = .ok (.iload 5, 2) := by decide +kernel
theorem dX8_bars_47 : decode cX8_bars 47 = .ok (.aload_n 0, 1) := by decide +kernel
theorem dX8_bars_48 : decode cX8_bars 48 = .ok (.getfield 10, 3) := by decide +kernel
theorem dX8_bars_51 : decode cX8_bars 51 = .ok (.getfield 179, 3) := by decide +kernel
theorem dX8_bars_54 : decode cX8_bars 54 = .ok (.if_icmp .ge 89, 3) := by decide +kernel
theorem dX8_bars_57 : decode cX8_bars 57 = .ok (.iload 5, 2) := by decide +kernel
theorem dX8_bars_59 : decode cX8_bars 59 = .ok (.iload_n 2, 1) := by decide +kernel
theorem dX8_bars_60 : decode cX8_bars 60 = .ok (.if_icmp .eq 19, 3) := by decide +kernel
theorem dX8_bars_63 : decode cX8_bars 63 = .ok (.aload_n 0, 1) := by decide +kernel
theorem dX8_bars_64 : decode cX8_bars 64 = .ok (.getfield 10, 3) := by decide +kernel
theorem dX8_bars_67 : decode cX8_bars 67 = .ok (.iload 5, 2) := by decide +kernel
theorem dX8_bars_69 : decode cX8_bars 69 = .ok (.invokevirtual 261, 3) := by decide +kernel
theorem dX8_bars_72 : decode cX8_bars 72 = .ok (.ifCond .ne 7, 3) := by decide +kernel
theorem dX8_bars_75 : decode cX8_bars 75 = .ok (.iconst 1, 1) := by decide +kernel
theorem dX8_bars_76 : decode cX8_bars 76 = .ok (.goto 4, 3) := by decide +kernel
theorem dX8_bars_79 : decode cX8_bars 79 = .ok (.iconst 0, 1) := by decide +kernel
theorem dX8_bars_80 : decode cX8_bars 80 = .ok (.istore 6, 2) := by decide +kernel
theorem dX8_bars_82 : decode cX8_bars 82 = .ok (.iload 6, 2) := by decide +kernel
theorem dX8_bars_84 : decode cX8_bars 84 = .ok (.ifCond .eq 53, 3) := by decide +kernel
theorem dX8_bars_87 : decode cX8_bars 87 = .ok (.aload_n 0, 1) := by decide +kernel
theorem dX8_bars_88 : decode cX8_bars 88 = .ok (.getfield 28, 3) := by decide +kernel
theorem dX8_bars_91 : decode cX8_bars 91 = .ok (.iload_n 1, 1) := by decide +kernel
theorem dX8_bars_92 : decode cX8_bars 92 = .ok (.aaload, 1) := by decide +kernel
theorem dX8_bars_93 : decode cX8_bars 93 = .ok (.getfield 119, 3) := by decide +kernel
theorem dX8_bars_96 : decode cX8_bars 96 = .ok (.aload_n 0, 1) := by decide +kernel
theorem dX8_bars_97 : decode cX8_bars 97 = .ok (.getfield 10, 3) := by decide +kernel
theorem dX8_bars_100 : decode cX8_bars 100 = .ok (.getfield 148, 3) := by decide +kernel
theorem dX8_bars_103 : decode cX8_bars 103 = .ok (.aload_n 0, 1) := by decide +kernel
theorem dX8_bars_104 : decode cX8_bars 104 = .ok (.getfield 10, 3) := by decide +kernel
theorem dX8_bars_107 : decode cX8_bars 107 = .ok (.getfield 189, 3) := by decide +kernel
theorem dX8_bars_110 : decode cX8_bars 110 = .ok (.iload_n 2, 1) := by decide +kernel
theorem dX8_bars_111 : decode cX8_bars 111 = .ok (.laload, 1) := by decide +kernel
theorem dX8_bars_112 : decode cX8_bars 112 = .ok (.aload_n 0, 1) := by decide +kernel
theorem dX8_bars_113 : decode cX8_bars 113 = .ok (.getfield 10, 3) := by decide +kernel
theorem dX8_bars_116 : decode cX8_bars 116 = .ok (.getfield 189, 3) := by decide +kernel
theorem dX8_bars_119 : decode cX8_bars 119 = .ok (.iload 5, 2) := by decide +kernel
theorem dX8_bars_121 : decode cX8_bars 121 = .ok (.laload, 1) := by decide +kernel
theorem dX8_bars_122 : decode cX8_bars 122 = .ok (.invokevirtual 251, 3) := by decide +kernel
theorem dX8_bars_125 : decode cX8_bars 125 = .ok (.ifCond .ne 12, 3) := by decide +kernel
theorem dX8_bars_128 : decode cX8_bars 128 = .ok (.iload 4, 2) := by decide +kernel
theorem dX8_bars_130 : decode cX8_bars 130 = .ok (.iconst 1, 1) := by decide +kernel
theorem dX8_bars_131 : decode cX8_bars 131 = .ok (.iload 5, 2) := by decide +kernel
theorem dX8_bars_133 : decode cX8_bars 133 = .ok (.ishl, 1) := by decide +kernel
theorem dX8_bars_134 : decode cX8_bars 134 = .ok (.ior, 1) := by decide +kernel
theorem dX8_bars_135 : decode cX8_bars 135 = .ok (.istore 4, 2) := by decide +kernel
theorem dX8_bars_137 : decode cX8_bars 137 = .ok (.iinc 5 1, 3) := by decide +kernel
theorem dX8_bars_140 : decode cX8_bars 140 = .ok (.goto (-95), 3) := by decide +kernel
theorem dX8_bars_143 : decode cX8_bars 143 = .ok (.iload 4, 2) := by decide +kernel
theorem dX8_bars_145 : decode cX8_bars 145 = .ok (.ireturn, 1) := by decide +kernel
set_option maxRecDepth 20000 in
theorem ggX8_order_X8_refuse : GoodIn wsX8_order wsX8_refuse := goodIn_r _ [8, 9, 79, 80, 81, 82, 83, 84, 85, 86, 87, 88, 89, 90] (by decide +kernel) (by decide +kernel)
set_option maxRecDepth 20000 in
theorem gX8_order_X8_refuse : GoodIn wsX8_order (wsV RX8 68 RX8 yX8_refuse wsX8_refuse) := goodIn_app (goodIn_of _ (by decide +kernel)) ggX8_order_X8_refuse
set_option maxRecDepth 20000 in
theorem ggX8_order_X8_findOrder : GoodIn wsX8_order wsX8_findOrder := goodIn_r _ [13, 14, 15, 1, 2, 3, 16, 17, 18, 19, 20, 7, 21, 22, 23, 24, 25, 26, 27, 28, 29, 30, 31, 32, 33, 34, 35, 36, 37, 38, 39, 40, 41, 42, 43, 44, 45, 46, 47, 48, 49, 50, 51, 52, 53, 54, 55, 56, 57, 58, 59, 60, 61, 62, 63, 64, 65, 66, 67, 68, 69, 70, 71, 72, 73, 74, 75, 76, 77, 78, 79, 80, 81, 82, 83, 84, 85, 86, 87, 88, 89, 90, 91, 92, 93, 94, 95, 96, 97, 98, 99, 100, 101, 102, 103, 104, 105, 106, 107, 108, 109, 110] (by decide +kernel) (by decide +kernel)
set_option maxRecDepth 20000 in
theorem gX8_order_X8_findOrder : GoodIn wsX8_order (wsV RX8 264 RX8 yX8_findOrder wsX8_findOrder) := goodIn_app (goodIn_of _ (by decide +kernel)) ggX8_order_X8_findOrder
theorem dX8_order_0 : decode cX8_order 0 = .ok (.iload_n 2, 1) := by decide +kernel
theorem dX8_order_1 : decode cX8_order 1 = .ok (.ifCond .lt 8, 3) := by decide +kernel
theorem dX8_order_4 : decode cX8_order 4 = .ok (.iload_n 2, 1) := by decide +kernel
theorem dX8_order_5 : decode cX8_order 5 = .ok (.iconst 1, 1) := by decide +kernel
theorem dX8_order_6 : decode cX8_order 6 = .ok (.if_icmp .le 10, 3) := by decide +kernel
theorem dX8_order_9 : decode cX8_order 9 = .ok (.aload_n 0, 1) := by decide +kernel
theorem dX8_order_10 : decode cX8_order 10 = .ok (.bipush (-2), 2) := by decide +kernel
theorem dX8_order_12 : decode cX8_order 12 = .ok (.invokevirtual 68, 3) := by decide +kernel
theorem dX8_order_15 : decode cX8_order 15 = .ok (.ireturn, 1) := by decide +kernel
theorem dX8_order_16 : decode cX8_order 16 = .ok (.aload_n 0, 1) := by decide +kernel
theorem dX8_order_17 : decode cX8_order 17 = .ok (.invokevirtual 264, 3) := by decide +kernel
theorem dX8_order_20 : decode cX8_order 20 = .ok (.iload_n 1, 1) := by decide +kernel
theorem dX8_order_21 : decode cX8_order 21 = .ok (.ifCond .lt 11, 3) := by decide +kernel
theorem dX8_order_24 : decode cX8_order 24 = .ok (.iload_n 1, 1) := by decide +kernel
theorem dX8_order_25 : decode cX8_order 25 = .ok (.aload_n 0, 1) := by decide +kernel
theorem dX8_order_26 : decode cX8_order 26 = .ok (.getfield 56, 3) := by decide +kernel
theorem dX8_order_29 : decode cX8_order 29 = .ok (.if_icmp .lt 5, 3) := by decide +kernel
theorem dX8_order_32 : decode cX8_order 32 = .ok (.iconst (-1), 1) := by decide +kernel
theorem dX8_order_33 : decode cX8_order 33 = .ok (.ireturn, 1) := by decide +kernel
theorem dX8_order_34 : decode cX8_order 34 = .ok (.iload_n 2, 1) := by decide +kernel
theorem dX8_order_35 : decode cX8_order 35 = .ok (.ifCond .ne 12, 3) := by decide +kernel
theorem dX8_order_38 : decode cX8_order 38 = .ok (.aload_n 0, 1) := by decide +kernel
theorem dX8_order_39 : decode cX8_order 39 = .ok (.getfield 50, 3) := by decide +kernel
theorem dX8_order_42 : decode cX8_order 42 = .ok (.iload_n 1, 1) := by decide +kernel
theorem dX8_order_43 : decode cX8_order 43 = .ok (.iaload, 1) := by decide +kernel
theorem dX8_order_44 : decode cX8_order 44 = .ok (.goto 9, 3) := by decide +kernel
theorem dX8_order_47 : decode cX8_order 47 = .ok (.aload_n 0, 1) := by decide +kernel
theorem dX8_order_48 : decode cX8_order 48 = .ok (.getfield 53, 3) := by decide +kernel
theorem dX8_order_51 : decode cX8_order 51 = .ok (.iload_n 1, 1) := by decide +kernel
theorem dX8_order_52 : decode cX8_order 52 = .ok (.iaload, 1) := by decide +kernel
theorem dX8_order_53 : decode cX8_order 53 = .ok (.ireturn, 1) := by decide +kernel
set_option maxRecDepth 20000 in
theorem ggX8_ring_X8_findOrder : GoodIn wsX8_ring wsX8_findOrder := goodIn_r _ [6, 7, 8, 9, 10, 11, 12, 1, 13, 14, 15, 5, 16, 17, 18, 19, 20, 21, 22, 23, 24, 25, 26, 27, 28, 29, 30, 31, 32, 33, 34, 35, 36, 37, 38, 39, 40, 41, 42, 43, 44, 45, 46, 47, 48, 49, 50, 51, 52, 53, 54, 55, 56, 57, 58, 59, 60, 61, 62, 63, 64, 65, 66, 67, 68, 69, 70, 71, 72, 73, 74, 75, 76, 77, 78, 79, 80, 81, 82, 83, 84, 85, 86, 87, 88, 89, 90, 91, 92, 93, 94, 95, 96, 97, 98, 99, 100, 101, 102, 103, 104, 105] (by decide +kernel) (by decide +kernel)
set_option maxRecDepth 20000 in
theorem gX8_ring_X8_findOrder : GoodIn wsX8_ring (wsV RX8 264 RX8 yX8_findOrder wsX8_findOrder) := goodIn_app (goodIn_of _ (by decide +kernel)) ggX8_ring_X8_findOrder
theorem dX8_ring_0 : decode cX8_ring 0 = .ok (.aload_n 0, 1) := by decide +kernel
theorem dX8_ring_1 : decode cX8_ring 1 = .ok (.invokevirtual 264, 3) := by decide +kernel
theorem dX8_ring_4 : decode cX8_ring 4 = .ok (.aload_n 0, 1) := by decide +kernel
theorem dX8_ring_5 : decode cX8_ring 5 = .ok (.getfield 60, 3) := by decide +kernel
theorem dX8_ring_8 : decode cX8_ring 8 = .ok (.ireturn, 1) := by decide +kernel
set_option maxRecDepth 20000 in
theorem ggX8_serves_X8_isWaySet : GoodIn wsX8_serves wsX8_isWaySet := goodIn_r _ [4] (by decide +kernel) (by decide +kernel)
set_option maxRecDepth 20000 in
theorem gX8_serves_X8_isWaySet : GoodIn wsX8_serves (va_wsS RX8 267 yX8_isWaySet wsX8_isWaySet) := goodIn_app (goodIn_of _ (by decide +kernel)) ggX8_serves_X8_isWaySet
set_option maxRecDepth 20000 in
theorem ggX8_serves_X8_refuse : GoodIn wsX8_serves wsX8_refuse := goodIn_r _ [8, 9, 48, 49, 50, 51, 52, 53, 54, 55, 56, 57, 58, 59] (by decide +kernel) (by decide +kernel)
set_option maxRecDepth 20000 in
theorem gX8_serves_X8_refuse : GoodIn wsX8_serves (wsV RX8 68 RX8 yX8_refuse wsX8_refuse) := goodIn_app (goodIn_of _ (by decide +kernel)) ggX8_serves_X8_refuse
set_option maxRecDepth 20000 in
theorem ggX8_serves_X8_lookAtFigure : GoodIn wsX8_serves wsX8_lookAtFigure := goodIn_r _ [13, 14, 15, 16, 17, 18, 19, 20, 21, 22, 23, 24, 25, 26, 27, 28, 29, 30, 31, 32, 33, 34, 35, 36, 37, 38, 39, 48, 49, 50, 51, 52, 53, 54, 55, 56, 57, 58, 59, 60, 61, 62, 63, 64, 65, 66, 67, 68, 69, 70, 71, 72, 73, 74, 75, 76] (by decide +kernel) (by decide +kernel)
set_option maxRecDepth 20000 in
theorem gX8_serves_X8_lookAtFigure : GoodIn wsX8_serves (wsV RX8 221 RX8 yX8_lookAtFigure wsX8_lookAtFigure) := goodIn_app (goodIn_of _ (by decide +kernel)) ggX8_serves_X8_lookAtFigure
set_option maxRecDepth 20000 in
theorem ggX8_serves_X1_suffices : GoodIn wsX8_serves wsX1_suffices := goodIn_r _ [43, 25, 44, 45, 46, 21, 47, 26, 74, 75, 76] (by decide +kernel) (by decide +kernel)
set_option maxRecDepth 20000 in
theorem gX8_serves_X1_suffices : GoodIn wsX8_serves (wsV RX8 270 RX1 yX1_suffices wsX1_suffices) := goodIn_app (goodIn_of _ (by decide +kernel)) ggX8_serves_X1_suffices
theorem dX8_serves_0 : decode cX8_serves 0 = .ok (.iload_n 1, 1) := by decide +kernel
theorem dX8_serves_1 : decode cX8_serves 1 = .ok (.invokestatic 267, 3) := by decide +kernel
theorem dX8_serves_4 : decode cX8_serves 4 = .ok (.ifCond .ne 10, 3) := by decide +kernel
theorem dX8_serves_7 : decode cX8_serves 7 = .ok (.aload_n 0, 1) := by decide +kernel
theorem dX8_serves_8 : decode cX8_serves 8 = .ok (.bipush (-2), 2) := by decide +kernel
theorem dX8_serves_10 : decode cX8_serves 10 = .ok (.invokevirtual 68, 3) := by decide +kernel
theorem dX8_serves_13 : decode cX8_serves 13 = .ok (.ireturn, 1) := by decide +kernel
theorem dX8_serves_14 : decode cX8_serves 14 = .ok (.aload_n 0, 1) := by decide +kernel
theorem dX8_serves_15 : decode cX8_serves 15 = .ok (.invokevirtual 221, 3) := by decide +kernel
theorem dX8_serves_18 : decode cX8_serves 18 = .ok (.iload_n 1, 1) := by decide +kernel
theorem dX8_serves_19 : decode cX8_serves 19 = .ok (.invokevirtual 270, 3) := by decide +kernel
theorem dX8_serves_22 : decode cX8_serves 22 = .ok (.ifCond .eq 7, 3) := by decide +kernel
theorem dX8_serves_25 : decode cX8_serves 25 = .ok (.iconst 1, 1) := by decide +kernel
theorem dX8_serves_26 : decode cX8_serves 26 = .ok (.goto 4, 3) := by decide +kernel
theorem dX8_serves_29 : decode cX8_serves 29 = .ok (.iconst 0, 1) := by decide +kernel
theorem dX8_serves_30 : decode cX8_serves 30 = .ok (.ireturn, 1) := by decide +kernel
set_option maxRecDepth 20000 in
theorem ggX8_fewest_X8_lookAtFigure : GoodIn wsX8_fewest wsX8_lookAtFigure := goodIn_r _ [5, 6, 7, 8, 9, 10, 11, 12, 13, 14, 15, 16, 17, 18, 19, 20, 21, 22, 23, 24, 25, 26, 27, 28, 29, 30, 31, 56, 57, 58, 59, 60, 61, 62, 63, 64, 65, 66, 67, 68, 69, 70, 71, 72, 73, 74, 75, 76, 77, 78, 79, 80, 81, 82, 83, 84] (by decide +kernel) (by decide +kernel)
set_option maxRecDepth 20000 in
theorem gX8_fewest_X8_lookAtFigure : GoodIn wsX8_fewest (wsV RX8 221 RX8 yX8_lookAtFigure wsX8_lookAtFigure) := goodIn_app (goodIn_of _ (by decide +kernel)) ggX8_fewest_X8_lookAtFigure
set_option maxRecDepth 20000 in
theorem ggX8_fewest_X1_fewestWays : GoodIn wsX8_fewest wsX1_fewestWays := goodIn_r _ [35, 36, 37, 38, 39, 40, 41, 42, 43, 44, 45, 13, 46, 17, 47, 48, 49, 50, 18, 82, 83, 84] (by decide +kernel) (by decide +kernel)
set_option maxRecDepth 20000 in
theorem gX8_fewest_X1_fewestWays : GoodIn wsX8_fewest (wsV RX8 273 RX1 yX1_fewestWays wsX1_fewestWays) := goodIn_app (goodIn_of _ (by decide +kernel)) ggX8_fewest_X1_fewestWays
set_option maxRecDepth 20000 in
theorem ggX8_fewest_X8_refuse : GoodIn wsX8_fewest wsX8_refuse := goodIn_r _ [54, 55, 56, 57, 58, 59, 60, 61, 62, 63, 64, 65, 66, 67] (by decide +kernel) (by decide +kernel)
set_option maxRecDepth 20000 in
theorem gX8_fewest_X8_refuse : GoodIn wsX8_fewest (wsV RX8 68 RX8 yX8_refuse wsX8_refuse) := goodIn_app (goodIn_of _ (by decide +kernel)) ggX8_fewest_X8_refuse
theorem dX8_fewest_0 : decode cX8_fewest 0 = .ok (.aload_n 0, 1) := by decide +kernel
theorem dX8_fewest_1 : decode cX8_fewest 1 = .ok (.invokevirtual 221, 3) := by decide +kernel
theorem dX8_fewest_4 : decode cX8_fewest 4 = .ok (.invokevirtual 273, 3) := by decide +kernel
theorem dX8_fewest_7 : decode cX8_fewest 7 = .ok (.istore_n 1, 1) := by decide +kernel
theorem dX8_fewest_8 : decode cX8_fewest 8 = .ok (.iload_n 1, 1) := by decide +kernel
theorem dX8_fewest_9 : decode cX8_fewest 9 = .ok (.iconst (-1), 1) := by decide +kernel
theorem dX8_fewest_10 : decode cX8_fewest 10 = .ok (.if_icmp .ne 12, 3) := by decide +kernel
theorem dX8_fewest_13 : decode cX8_fewest 13 = .ok (.aload_n 0, 1) := by decide +kernel
theorem dX8_fewest_14 : decode cX8_fewest 14 = .ok (.bipush (-5), 2) := by decide +kernel
theorem dX8_fewest_16 : decode cX8_fewest 16 = .ok (.invokevirtual 68, 3) := by decide +kernel
theorem dX8_fewest_19 : decode cX8_fewest 19 = .ok (.goto 4, 3) := by decide +kernel
theorem dX8_fewest_22 : decode cX8_fewest 22 = .ok (.iload_n 1, 1) := by decide +kernel
theorem dX8_fewest_23 : decode cX8_fewest 23 = .ok (.ireturn, 1) := by decide +kernel
set_option maxRecDepth 20000 in
theorem ggX8_parted_X8_isWaySet : GoodIn wsX8_parted wsX8_isWaySet := goodIn_r _ [7] (by decide +kernel) (by decide +kernel)
set_option maxRecDepth 20000 in
theorem gX8_parted_X8_isWaySet : GoodIn wsX8_parted (va_wsS RX8 267 yX8_isWaySet wsX8_isWaySet) := goodIn_app (goodIn_of _ (by decide +kernel)) ggX8_parted_X8_isWaySet
set_option maxRecDepth 20000 in
theorem ggX8_parted_X8_refuse : GoodIn wsX8_parted wsX8_refuse := goodIn_r _ [11, 12, 88, 89, 90, 91, 92, 93, 94, 95, 96, 97, 98, 99] (by decide +kernel) (by decide +kernel)
set_option maxRecDepth 20000 in
theorem gX8_parted_X8_refuse : GoodIn wsX8_parted (wsV RX8 68 RX8 yX8_refuse wsX8_refuse) := goodIn_app (goodIn_of _ (by decide +kernel)) ggX8_parted_X8_refuse
set_option maxRecDepth 20000 in
theorem ggX8_parted_X8_lookAtFigure : GoodIn wsX8_parted wsX8_lookAtFigure := goodIn_r _ [16, 1, 2, 3, 17, 18, 19, 20, 21, 22, 23, 24, 25, 26, 27, 28, 29, 30, 31, 32, 33, 34, 35, 36, 37, 38, 39, 88, 89, 90, 91, 92, 93, 94, 95, 96, 97, 98, 99, 100, 101, 102, 103, 104, 105, 106, 107, 108, 109, 110, 111, 112, 113, 114, 115, 116] (by decide +kernel) (by decide +kernel)
set_option maxRecDepth 20000 in
theorem gX8_parted_X8_lookAtFigure : GoodIn wsX8_parted (wsV RX8 221 RX8 yX8_lookAtFigure wsX8_lookAtFigure) := goodIn_app (goodIn_of _ (by decide +kernel)) ggX8_parted_X8_lookAtFigure
set_option maxRecDepth 20000 in
theorem ggX8_parted_X1_suffices : GoodIn wsX8_parted wsX1_suffices := goodIn_r _ [43, 25, 44, 45, 46, 21, 47, 26, 114, 115, 116] (by decide +kernel) (by decide +kernel)
set_option maxRecDepth 20000 in
theorem gX8_parted_X1_suffices : GoodIn wsX8_parted (wsV RX8 270 RX1 yX1_suffices wsX1_suffices) := goodIn_app (goodIn_of _ (by decide +kernel)) ggX8_parted_X1_suffices
set_option maxRecDepth 20000 in
theorem ggX8_parted_X1_share : GoodIn wsX8_parted wsX1_share := goodIn_r _ [51, 25, 52, 26, 24, 114, 115, 116] (by decide +kernel) (by decide +kernel)
set_option maxRecDepth 20000 in
theorem gX8_parted_X1_share : GoodIn wsX8_parted (wsV RX8 277 RX1 yX1_share wsX1_share) := goodIn_app (goodIn_of _ (by decide +kernel)) ggX8_parted_X1_share
set_option maxRecDepth 20000 in
theorem ggX8_parted_X1_countOwnedParts : GoodIn wsX8_parted wsX1_countOwnedParts := goodIn_r _ [56, 52, 57, 58, 59, 30, 60, 38, 61, 62, 63, 64, 65, 66, 67, 68, 33, 34, 35, 36, 37, 39, 114, 115, 116, 108, 109, 110, 111, 112, 113] (by decide +kernel) (by decide +kernel)
set_option maxRecDepth 20000 in
theorem gX8_parted_X1_countOwnedParts : GoodIn wsX8_parted (wsV RX8 280 RX1 yX1_countOwnedParts wsX1_countOwnedParts) := goodIn_app (goodIn_of _ (by decide +kernel)) ggX8_parted_X1_countOwnedParts
set_option maxRecDepth 20000 in
theorem ggX8_parted_X1_seam : GoodIn wsX8_parted wsX1_seam := goodIn_r _ [72, 73, 25, 52, 24, 74, 34, 35, 30, 36, 37, 38, 39, 75, 76, 77, 78, 79, 80, 81, 82, 83, 84, 85, 86, 87, 100, 101, 102, 103, 104, 105, 106, 107, 114, 115, 116, 108, 109, 110, 111, 112, 113] (by decide +kernel) (by decide +kernel)
set_option maxRecDepth 20000 in
theorem gX8_parted_X1_seam : GoodIn wsX8_parted (wsV RX8 284 RX1 yX1_seam wsX1_seam) := goodIn_app (goodIn_of _ (by decide +kernel)) ggX8_parted_X1_seam
theorem dX8_parted_0 : decode cX8_parted 0 = .ok (.iload_n 1, 1) := by decide +kernel
theorem dX8_parted_1 : decode cX8_parted 1 = .ok (.invokestatic 267, 3) := by decide +kernel
theorem dX8_parted_4 : decode cX8_parted 4 = .ok (.ifCond .eq 12, 3) := by decide +kernel
theorem dX8_parted_7 : decode cX8_parted 7 = .ok (.iload_n 2, 1) := by decide +kernel
theorem dX8_parted_8 : decode cX8_parted 8 = .ok (.ifCond .lt 8, 3) := by decide +kernel
theorem dX8_parted_11 : decode cX8_parted 11 = .ok (.iload_n 2, 1) := by decide +kernel
theorem dX8_parted_12 : decode cX8_parted 12 = .ok (.iconst 1, 1) := by decide +kernel
theorem dX8_parted_13 : decode cX8_parted 13 = .ok (.if_icmp .le 10, 3) := by decide +kernel
theorem dX8_parted_16 : decode cX8_parted 16 = .ok (.aload_n 0, 1) := by decide +kernel
theorem dX8_parted_17 : decode cX8_parted 17 = .ok (.bipush (-2), 2) := by decide +kernel
theorem dX8_parted_19 : decode cX8_parted 19 = .ok (.invokevirtual 68, 3) := by decide +kernel
theorem dX8_parted_22 : decode cX8_parted 22 = .ok (.ireturn, 1) := by decide +kernel
theorem dX8_parted_23 : decode cX8_parted 23 = .ok (.aload_n 0, 1) := by decide +kernel
theorem dX8_parted_24 : decode cX8_parted 24 = .ok (.invokevirtual 221, 3) := by decide +kernel
theorem dX8_parted_27 : decode cX8_parted 27 = .ok (.iload_n 1, 1) := by decide +kernel
theorem dX8_parted_28 : decode cX8_parted 28 = .ok (.invokevirtual 270, 3) := by decide +kernel
theorem dX8_parted_31 : decode cX8_parted 31 = .ok (.ifCond .ne 10, 3) := by decide +kernel
theorem dX8_parted_34 : decode cX8_parted 34 = .ok (.aload_n 0, 1) := by decide +kernel
theorem dX8_parted_35 : decode cX8_parted 35 = .ok (.bipush (-5), 2) := by decide +kernel
theorem dX8_parted_37 : decode cX8_parted 37 = .ok (.invokevirtual 68, 3) := by decide +kernel
theorem dX8_parted_40 : decode cX8_parted 40 = .ok (.ireturn, 1) := by decide +kernel
theorem dX8_parted_41 : decode cX8_parted 41 = .ok (.aload_n 0, 1) := by decide +kernel
theorem dX8_parted_42 : decode cX8_parted 42 = .ok (.getfield 42, 3) := by decide +kernel
theorem dX8_parted_45 : decode cX8_parted 45 = .ok (.iload_n 1, 1) := by decide +kernel
theorem dX8_parted_46 : decode cX8_parted 46 = .ok (.invokevirtual 277, 3) := by decide +kernel
theorem dX8_parted_49 : decode cX8_parted 49 = .ok (.iload_n 2, 1) := by decide +kernel
theorem dX8_parted_50 : decode cX8_parted 50 = .ok (.ifCond .ne 20, 3) := by decide +kernel
theorem dX8_parted_53 : decode cX8_parted 53 = .ok (.aload_n 0, 1) := by decide +kernel
theorem dX8_parted_54 : decode cX8_parted 54 = .ok (.getfield 42, 3) := by decide +kernel
theorem dX8_parted_57 : decode cX8_parted 57 = .ok (.aload_n 0, 1) := by decide +kernel
theorem dX8_parted_58 : decode cX8_parted 58 = .ok (.getfield 10, 3) := by decide +kernel
theorem dX8_parted_61 : decode cX8_parted 61 = .ok (.getfield 148, 3) := by decide +kernel
theorem dX8_parted_64 : decode cX8_parted 64 = .ok (.invokevirtual 280, 3) := by decide +kernel
theorem dX8_parted_67 : decode cX8_parted 67 = .ok (.goto 14, 3) := by decide +kernel
theorem dX8_parted_70 : decode cX8_parted 70 = .ok (.aload_n 0, 1) := by decide +kernel
theorem dX8_parted_71 : decode cX8_parted 71 = .ok (.getfield 42, 3) := by decide +kernel
theorem dX8_parted_74 : decode cX8_parted 74 = .ok (.aload_n 0, 1) := by decide +kernel
theorem dX8_parted_75 : decode cX8_parted 75 = .ok (.getfield 10, 3) := by decide +kernel
theorem dX8_parted_78 : decode cX8_parted 78 = .ok (.invokevirtual 284, 3) := by decide +kernel
theorem dX8_parted_81 : decode cX8_parted 81 = .ok (.ireturn, 1) := by decide +kernel
set_option maxRecDepth 20000 in
theorem ggX8_hidden_X8_lookAtFigure : GoodIn wsX8_hidden wsX8_lookAtFigure := goodIn_r _ [6, 7, 1, 8, 9, 10, 11, 12, 13, 14, 15, 16, 17, 18, 19, 20, 21, 22, 23, 24, 25, 26, 27, 28, 29, 30, 31, 73, 74, 75, 76, 77, 78, 79, 80, 81, 82, 83, 84, 85, 86, 87, 88, 89, 90, 91, 92, 93, 94, 95, 96, 97, 98, 99, 100, 101] (by decide +kernel) (by decide +kernel)
set_option maxRecDepth 20000 in
theorem gX8_hidden_X8_lookAtFigure : GoodIn wsX8_hidden (wsV RX8 221 RX8 yX8_lookAtFigure wsX8_lookAtFigure) := goodIn_app (goodIn_of _ (by decide +kernel)) ggX8_hidden_X8_lookAtFigure
set_option maxRecDepth 20000 in
theorem ggX8_hidden_X1_leastSeamWays : GoodIn wsX8_hidden wsX1_leastSeamWays := goodIn_r _ [35, 36, 37, 38, 13, 39, 17, 40, 41, 42, 43, 18, 44, 45, 46, 47, 48, 16, 49, 50, 51, 52, 53, 54, 26, 27, 22, 28, 29, 30, 31, 55, 56, 57, 58, 59, 60, 61, 62, 63, 64, 65, 66, 67, 99, 100, 101, 85, 86, 87, 88, 89, 90, 91, 92, 93, 94, 95, 96, 97, 98] (by decide +kernel) (by decide +kernel)
set_option maxRecDepth 20000 in
theorem gX8_hidden_X1_leastSeamWays : GoodIn wsX8_hidden (wsV RX8 288 RX1 yX1_leastSeamWays wsX1_leastSeamWays) := goodIn_app (goodIn_of _ (by decide +kernel)) ggX8_hidden_X1_leastSeamWays
set_option maxRecDepth 20000 in
theorem ggX8_hidden_X8_refuse : GoodIn wsX8_hidden wsX8_refuse := goodIn_r _ [71, 72, 73, 74, 75, 76, 77, 78, 79, 80, 81, 82, 83, 84] (by decide +kernel) (by decide +kernel)
set_option maxRecDepth 20000 in
theorem gX8_hidden_X8_refuse : GoodIn wsX8_hidden (wsV RX8 68 RX8 yX8_refuse wsX8_refuse) := goodIn_app (goodIn_of _ (by decide +kernel)) ggX8_hidden_X8_refuse
theorem dX8_hidden_0 : decode cX8_hidden 0 = .ok (.aload_n 0, 1) := by decide +kernel
theorem dX8_hidden_1 : decode cX8_hidden 1 = .ok (.invokevirtual 221, 3) := by decide +kernel
theorem dX8_hidden_4 : decode cX8_hidden 4 = .ok (.aload_n 0, 1) := by decide +kernel
theorem dX8_hidden_5 : decode cX8_hidden 5 = .ok (.getfield 10, 3) := by decide +kernel
theorem dX8_hidden_8 : decode cX8_hidden 8 = .ok (.invokevirtual 288, 3) := by decide +kernel
theorem dX8_hidden_11 : decode cX8_hidden 11 = .ok (.istore_n 1, 1) := by decide +kernel
theorem dX8_hidden_12 : decode cX8_hidden 12 = .ok (.iload_n 1, 1) := by decide +kernel
theorem dX8_hidden_13 : decode cX8_hidden 13 = .ok (.iconst (-1), 1) := by decide +kernel
theorem dX8_hidden_14 : decode cX8_hidden 14 = .ok (.if_icmp .ne 12, 3) := by decide +kernel
theorem dX8_hidden_17 : decode cX8_hidden 17 = .ok (.aload_n 0, 1) := by decide +kernel
theorem dX8_hidden_18 : decode cX8_hidden 18 = .ok (.bipush (-5), 2) := by decide +kernel
theorem dX8_hidden_20 : decode cX8_hidden 20 = .ok (.invokevirtual 68, 3) := by decide +kernel
theorem dX8_hidden_23 : decode cX8_hidden 23 = .ok (.goto 4, 3) := by decide +kernel
theorem dX8_hidden_26 : decode cX8_hidden 26 = .ok (.iload_n 1, 1) := by decide +kernel
theorem dX8_hidden_27 : decode cX8_hidden 27 = .ok (.ireturn, 1) := by decide +kernel
set_option maxRecDepth 20000 in
theorem ggX8_make_X8_isWaySet : GoodIn wsX8_make wsX8_isWaySet := goodIn_r _ [8] (by decide +kernel) (by decide +kernel)
set_option maxRecDepth 20000 in
theorem gX8_make_X8_isWaySet : GoodIn wsX8_make (va_wsS RX8 267 yX8_isWaySet wsX8_isWaySet) := goodIn_app (goodIn_of _ (by decide +kernel)) ggX8_make_X8_isWaySet
set_option maxRecDepth 20000 in
theorem ggX8_make_X8_refuse : GoodIn wsX8_make wsX8_refuse := goodIn_r _ [12, 13, 92, 93, 94, 95, 96, 97, 98, 99, 100, 101, 102, 103] (by decide +kernel) (by decide +kernel)
set_option maxRecDepth 20000 in
theorem gX8_make_X8_refuse : GoodIn wsX8_make (wsV RX8 68 RX8 yX8_refuse wsX8_refuse) := goodIn_app (goodIn_of _ (by decide +kernel)) ggX8_make_X8_refuse
set_option maxRecDepth 20000 in
theorem ggX8_make_X8_lookAtFigure : GoodIn wsX8_make wsX8_lookAtFigure := goodIn_r _ [17, 1, 2, 3, 18, 19, 20, 21, 22, 23, 24, 25, 26, 27, 28, 29, 30, 31, 32, 33, 34, 35, 36, 37, 38, 39, 40, 92, 93, 94, 95, 96, 97, 98, 99, 100, 101, 102, 103, 104, 105, 106, 107, 108, 109, 110, 111, 112, 113, 114, 115, 116, 117, 118, 119, 120] (by decide +kernel) (by decide +kernel)
set_option maxRecDepth 20000 in
theorem gX8_make_X8_lookAtFigure : GoodIn wsX8_make (wsV RX8 221 RX8 yX8_lookAtFigure wsX8_lookAtFigure) := goodIn_app (goodIn_of _ (by decide +kernel)) ggX8_make_X8_lookAtFigure
set_option maxRecDepth 20000 in
theorem ggX8_make_X1_suffices : GoodIn wsX8_make wsX1_suffices := goodIn_r _ [44, 26, 45, 46, 47, 22, 48, 27, 118, 119, 120] (by decide +kernel) (by decide +kernel)
set_option maxRecDepth 20000 in
theorem gX8_make_X1_suffices : GoodIn wsX8_make (wsV RX8 270 RX1 yX1_suffices wsX1_suffices) := goodIn_app (goodIn_of _ (by decide +kernel)) ggX8_make_X1_suffices
set_option maxRecDepth 20000 in
theorem ggX8_make_X1_share : GoodIn wsX8_make wsX1_share := goodIn_r _ [52, 26, 53, 27, 25, 118, 119, 120] (by decide +kernel) (by decide +kernel)
set_option maxRecDepth 20000 in
theorem gX8_make_X1_share : GoodIn wsX8_make (wsV RX8 277 RX1 yX1_share wsX1_share) := goodIn_app (goodIn_of _ (by decide +kernel)) ggX8_make_X1_share
set_option maxRecDepth 20000 in
theorem ggX8_make_X1_countOwnedParts : GoodIn wsX8_make wsX1_countOwnedParts := goodIn_r _ [57, 53, 58, 59, 60, 31, 61, 39, 62, 63, 64, 65, 66, 67, 68, 69, 34, 35, 36, 37, 38, 40, 118, 119, 120, 112, 113, 114, 115, 116, 117] (by decide +kernel) (by decide +kernel)
set_option maxRecDepth 20000 in
theorem gX8_make_X1_countOwnedParts : GoodIn wsX8_make (wsV RX8 280 RX1 yX1_countOwnedParts wsX1_countOwnedParts) := goodIn_app (goodIn_of _ (by decide +kernel)) ggX8_make_X1_countOwnedParts
set_option maxRecDepth 20000 in
theorem ggX8_make_X1_layPieces : GoodIn wsX8_make wsX1_layPieces := goodIn_r _ [73, 26, 74, 25, 75, 76, 77, 78, 79, 80, 81, 82, 83, 84, 22, 85, 53, 86, 63, 64, 31, 65, 66, 67, 68, 69, 34, 35, 36, 37, 38, 39, 40, 87, 88, 89, 90, 91, 118, 119, 120, 104, 105, 106, 107, 108, 109, 110, 111, 112, 113, 114, 115, 116, 117] (by decide +kernel) (by decide +kernel)
set_option maxRecDepth 20000 in
theorem gX8_make_X1_layPieces : GoodIn wsX8_make (wsV RX8 291 RX1 yX1_layPieces wsX1_layPieces) := goodIn_app (goodIn_of _ (by decide +kernel)) ggX8_make_X1_layPieces
theorem dX8_make_0 : decode cX8_make 0 = .ok (.iload_n 1, 1) := by decide +kernel
theorem dX8_make_1 : decode cX8_make 1 = .ok (.invokestatic 267, 3) := by decide +kernel
theorem dX8_make_4 : decode cX8_make 4 = .ok (.ifCond .ne 10, 3) := by decide +kernel
theorem dX8_make_7 : decode cX8_make 7 = .ok (.aload_n 0, 1) := by decide +kernel
theorem dX8_make_8 : decode cX8_make 8 = .ok (.bipush (-2), 2) := by decide +kernel
theorem dX8_make_10 : decode cX8_make 10 = .ok (.invokevirtual 68, 3) := by decide +kernel
theorem dX8_make_13 : decode cX8_make 13 = .ok (.ireturn, 1) := by decide +kernel
theorem dX8_make_14 : decode cX8_make 14 = .ok (.aload_n 0, 1) := by decide +kernel
theorem dX8_make_15 : decode cX8_make 15 = .ok (.invokevirtual 221, 3) := by decide +kernel
theorem dX8_make_18 : decode cX8_make 18 = .ok (.iload_n 1, 1) := by decide +kernel
theorem dX8_make_19 : decode cX8_make 19 = .ok (.invokevirtual 270, 3) := by decide +kernel
theorem dX8_make_22 : decode cX8_make 22 = .ok (.ifCond .ne 10, 3) := by decide +kernel
theorem dX8_make_25 : decode cX8_make 25 = .ok (.aload_n 0, 1) := by decide +kernel
theorem dX8_make_26 : decode cX8_make 26 = .ok (.bipush (-5), 2) := by decide +kernel
theorem dX8_make_28 : decode cX8_make 28 = .ok (.invokevirtual 68, 3) := by decide +kernel
theorem dX8_make_31 : decode cX8_make 31 = .ok (.ireturn, 1) := by decide +kernel
theorem dX8_make_32 : decode cX8_make 32 = .ok (.aload_n 0, 1) := by decide +kernel
theorem dX8_make_33 : decode cX8_make 33 = .ok (.getfield 42, 3) := by decide +kernel
theorem dX8_make_36 : decode cX8_make 36 = .ok (.iload_n 1, 1) := by decide +kernel
theorem dX8_make_37 : decode cX8_make 37 = .ok (.invokevirtual 277, 3) := by decide +kernel
theorem dX8_make_40 : decode cX8_make 40 = .ok (.aload_n 0, 1) := by decide +kernel
theorem dX8_make_41 : decode cX8_make 41 = .ok (.getfield 42, 3) := by decide +kernel
theorem dX8_make_44 : decode cX8_make 44 = .ok (.aload_n 0, 1) := by decide +kernel
theorem dX8_make_45 : decode cX8_make 45 = .ok (.getfield 10, 3) := by decide +kernel
theorem dX8_make_48 : decode cX8_make 48 = .ok (.getfield 148, 3) := by decide +kernel
theorem dX8_make_51 : decode cX8_make 51 = .ok (.invokevirtual 280, 3) := by decide +kernel
theorem dX8_make_54 : decode cX8_make 54 = .ok (.bipush 8, 2) := by decide +kernel
theorem dX8_make_56 : decode cX8_make 56 = .ok (.if_icmp .le 10, 3) := by decide +kernel
theorem dX8_make_59 : decode cX8_make 59 = .ok (.aload_n 0, 1) := by decide +kernel
theorem dX8_make_60 : decode cX8_make 60 = .ok (.bipush (-6), 2) := by decide +kernel
theorem dX8_make_62 : decode cX8_make 62 = .ok (.invokevirtual 68, 3) := by decide +kernel
theorem dX8_make_65 : decode cX8_make 65 = .ok (.ireturn, 1) := by decide +kernel
theorem dX8_make_66 : decode cX8_make 66 = .ok (.aload_n 0, 1) := by decide +kernel
theorem dX8_make_67 : decode cX8_make 67 = .ok (.getfield 42, 3) := by decide +kernel
theorem dX8_make_70 : decode cX8_make 70 = .ok (.aload_n 0, 1) := by decide +kernel
theorem dX8_make_71 : decode cX8_make 71 = .ok (.getfield 10, 3) := by decide +kernel
theorem dX8_make_74 : decode cX8_make 74 = .ok (.invokevirtual 291, 3) := by decide +kernel
theorem dX8_make_77 : decode cX8_make 77 = .ok (.aload_n 0, 1) := by decide +kernel
theorem dX8_make_78 : decode cX8_make 78 = .ok (.getfield 10, 3) := by decide +kernel
theorem dX8_make_81 : decode cX8_make 81 = .ok (.getfield 179, 3) := by decide +kernel
theorem dX8_make_84 : decode cX8_make 84 = .ok (.ireturn, 1) := by decide +kernel
set_option maxRecDepth 20000 in
theorem ggX8_halves_X8_isAxis : GoodIn wsX8_halves wsX8_isAxis := goodIn_r _ [8] (by decide +kernel) (by decide +kernel)
set_option maxRecDepth 20000 in
theorem gX8_halves_X8_isAxis : GoodIn wsX8_halves (va_wsS RX8 294 yX8_isAxis wsX8_isAxis) := goodIn_app (goodIn_of _ (by decide +kernel)) ggX8_halves_X8_isAxis
set_option maxRecDepth 20000 in
theorem ggX8_halves_X8_refuse : GoodIn wsX8_halves wsX8_refuse := goodIn_r _ [12, 13, 54, 55, 56, 57, 58, 59, 60, 61, 62, 63, 64, 65] (by decide +kernel) (by decide +kernel)
set_option maxRecDepth 20000 in
theorem gX8_halves_X8_refuse : GoodIn wsX8_halves (wsV RX8 68 RX8 yX8_refuse wsX8_refuse) := goodIn_app (goodIn_of _ (by decide +kernel)) ggX8_halves_X8_refuse
set_option maxRecDepth 20000 in
theorem ggX8_halves_X8_lookAtFigure : GoodIn wsX8_halves wsX8_lookAtFigure := goodIn_r _ [17, 4, 1, 2, 18, 19, 20, 21, 22, 23, 24, 25, 26, 27, 28, 29, 30, 31, 32, 33, 34, 35, 36, 37, 38, 39, 40, 54, 55, 56, 57, 58, 59, 60, 61, 62, 63, 64, 65, 66, 67, 68, 69, 70, 71, 72, 73, 74, 75, 76, 77, 78, 79, 80, 81, 82] (by decide +kernel) (by decide +kernel)
set_option maxRecDepth 20000 in
theorem gX8_halves_X8_lookAtFigure : GoodIn wsX8_halves (wsV RX8 221 RX8 yX8_lookAtFigure wsX8_lookAtFigure) := goodIn_app (goodIn_of _ (by decide +kernel)) ggX8_halves_X8_lookAtFigure
set_option maxRecDepth 20000 in
theorem ggX8_halves_X0_below : GoodIn wsX8_halves wsX0_below := goodIn_r _ [44, 45, 46, 47, 31, 48, 49, 74, 75, 76, 77, 78, 79] (by decide +kernel) (by decide +kernel)
set_option maxRecDepth 20000 in
theorem gX8_halves_X0_below : GoodIn wsX8_halves (wsV RX8 297 RX0 yX0_below wsX0_below) := goodIn_app (goodIn_of _ (by decide +kernel)) ggX8_halves_X0_below
set_option maxRecDepth 20000 in
theorem ggX8_halves_X1_planeDoes : GoodIn wsX8_halves wsX1_planeDoes := goodIn_r _ [53, 27, 25, 26, 80, 81, 82] (by decide +kernel) (by decide +kernel)
set_option maxRecDepth 20000 in
theorem gX8_halves_X1_planeDoes : GoodIn wsX8_halves (wsV RX8 301 RX1 yX1_planeDoes wsX1_planeDoes) := goodIn_app (goodIn_of _ (by decide +kernel)) ggX8_halves_X1_planeDoes
theorem dX8_halves_0 : decode cX8_halves 0 = .ok (.iload_n 1, 1) := by decide +kernel
theorem dX8_halves_1 : decode cX8_halves 1 = .ok (.invokestatic 294, 3) := by decide +kernel
theorem dX8_halves_4 : decode cX8_halves 4 = .ok (.ifCond .ne 10, 3) := by decide +kernel
theorem dX8_halves_7 : decode cX8_halves 7 = .ok (.aload_n 0, 1) := by decide +kernel
theorem dX8_halves_8 : decode cX8_halves 8 = .ok (.bipush (-2), 2) := by decide +kernel
theorem dX8_halves_10 : decode cX8_halves 10 = .ok (.invokevirtual 68, 3) := by decide +kernel
theorem dX8_halves_13 : decode cX8_halves 13 = .ok (.ireturn, 1) := by decide +kernel
theorem dX8_halves_14 : decode cX8_halves 14 = .ok (.aload_n 0, 1) := by decide +kernel
theorem dX8_halves_15 : decode cX8_halves 15 = .ok (.invokevirtual 221, 3) := by decide +kernel
theorem dX8_halves_18 : decode cX8_halves 18 = .ok (.pop, 1) := by decide +kernel
theorem dX8_halves_19 : decode cX8_halves 19 = .ok (.iconst 0, 1) := by decide +kernel
theorem dX8_halves_20 : decode cX8_halves 20 = .ok (.istore_n 2, 1) := by decide +kernel
theorem dX8_halves_21 : decode cX8_halves 21 = .ok (.iconst 0, 1) := by decide +kernel
theorem dX8_halves_22 : decode cX8_halves 22 = .ok (.istore_n 3, 1) := by decide +kernel
theorem dX8_halves_23 : decode cX8_halves 23 = .ok (.iload_n 3, 1) := by decide +kernel
theorem dX8_halves_24 : decode cX8_halves 24 = .ok (.aload_n 0, 1) := by decide +kernel
theorem dX8_halves_25 : decode cX8_halves 25 = .ok (.getfield 10, 3) := by decide +kernel
theorem dX8_halves_28 : decode cX8_halves 28 = .ok (.getfield 148, 3) := by decide +kernel
theorem dX8_halves_31 : decode cX8_halves 31 = .ok (.getfield 152, 3) := by decide +kernel
theorem dX8_halves_34 : decode cX8_halves 34 = .ok (.if_icmp .gt 38, 3) := by decide +kernel
theorem dX8_halves_37 : decode cX8_halves 37 = .ok (.aload_n 0, 1) := by decide +kernel
theorem dX8_halves_38 : decode cX8_halves 38 = .ok (.getfield 42, 3) := by decide +kernel
theorem dX8_halves_41 : decode cX8_halves 41 = .ok (.iload_n 1, 1) := by decide +kernel
theorem dX8_halves_42 : decode cX8_halves 42 = .ok (.aload_n 0, 1) := by decide +kernel
theorem dX8_halves_43 : decode cX8_halves 43 = .ok (.getfield 10, 3) := by decide +kernel
theorem dX8_halves_46 : decode cX8_halves 46 = .ok (.getfield 148, 3) := by decide +kernel
theorem dX8_halves_49 : decode cX8_halves 49 = .ok (.iload_n 1, 1) := by decide +kernel
theorem dX8_halves_50 : decode cX8_halves 50 = .ok (.iload_n 3, 1) := by decide +kernel
theorem dX8_halves_51 : decode cX8_halves 51 = .ok (.invokevirtual 297, 3) := by decide +kernel
theorem dX8_halves_54 : decode cX8_halves 54 = .ok (.invokevirtual 301, 3) := by decide +kernel
theorem dX8_halves_57 : decode cX8_halves 57 = .ok (.ifCond .eq 9, 3) := by decide +kernel
theorem dX8_halves_60 : decode cX8_halves 60 = .ok (.iload_n 2, 1) := by decide +kernel
theorem dX8_halves_61 : decode cX8_halves 61 = .ok (.iconst 1, 1) := by decide +kernel
theorem dX8_halves_62 : decode cX8_halves 62 = .ok (.iload_n 3, 1) := by decide +kernel
theorem dX8_halves_63 : decode cX8_halves 63 = .ok (.ishl, 1) := by decide +kernel
theorem dX8_halves_64 : decode cX8_halves 64 = .ok (.ior, 1) := by decide +kernel
theorem dX8_halves_65 : decode cX8_halves 65 = .ok (.istore_n 2, 1) := by decide +kernel
theorem dX8_halves_66 : decode cX8_halves 66 = .ok (.iinc 3 1, 3) := by decide +kernel
theorem dX8_halves_69 : decode cX8_halves 69 = .ok (.goto (-46), 3) := by decide +kernel
theorem dX8_halves_72 : decode cX8_halves 72 = .ok (.iload_n 2, 1) := by decide +kernel
theorem dX8_halves_73 : decode cX8_halves 73 = .ok (.ireturn, 1) := by decide +kernel
set_option maxRecDepth 20000 in
theorem ggX8_line_X8_isAxis : GoodIn wsX8_line wsX8_isAxis := goodIn_r _ [8] (by decide +kernel) (by decide +kernel)
set_option maxRecDepth 20000 in
theorem gX8_line_X8_isAxis : GoodIn wsX8_line (va_wsS RX8 294 yX8_isAxis wsX8_isAxis) := goodIn_app (goodIn_of _ (by decide +kernel)) ggX8_line_X8_isAxis
set_option maxRecDepth 20000 in
theorem ggX8_line_X8_refuse : GoodIn wsX8_line wsX8_refuse := goodIn_r _ [12, 13, 27, 28, 29, 30, 31, 32, 33, 34, 35, 36, 37, 38] (by decide +kernel) (by decide +kernel)
set_option maxRecDepth 20000 in
theorem gX8_line_X8_refuse : GoodIn wsX8_line (wsV RX8 68 RX8 yX8_refuse wsX8_refuse) := goodIn_app (goodIn_of _ (by decide +kernel)) ggX8_line_X8_refuse
set_option maxRecDepth 20000 in
theorem ggX8_line_X0_behind : GoodIn wsX8_line wsX0_behind := goodIn_r _ [18, 19, 20, 21, 22, 17, 23, 24, 25, 26, 47, 48, 49, 50, 51, 52] (by decide +kernel) (by decide +kernel)
set_option maxRecDepth 20000 in
theorem gX8_line_X0_behind : GoodIn wsX8_line (wsV RX8 305 RX0 yX0_behind wsX0_behind) := goodIn_app (goodIn_of _ (by decide +kernel)) ggX8_line_X0_behind
theorem dX8_line_0 : decode cX8_line 0 = .ok (.iload_n 1, 1) := by decide +kernel
theorem dX8_line_1 : decode cX8_line 1 = .ok (.invokestatic 294, 3) := by decide +kernel
theorem dX8_line_4 : decode cX8_line 4 = .ok (.ifCond .ne 10, 3) := by decide +kernel
theorem dX8_line_7 : decode cX8_line 7 = .ok (.aload_n 0, 1) := by decide +kernel
theorem dX8_line_8 : decode cX8_line 8 = .ok (.bipush (-2), 2) := by decide +kernel
theorem dX8_line_10 : decode cX8_line 10 = .ok (.invokevirtual 68, 3) := by decide +kernel
theorem dX8_line_13 : decode cX8_line 13 = .ok (.ireturn, 1) := by decide +kernel
theorem dX8_line_14 : decode cX8_line 14 = .ok (.aload_n 0, 1) := by decide +kernel
theorem dX8_line_15 : decode cX8_line 15 = .ok (.getfield 10, 3) := by decide +kernel
theorem dX8_line_18 : decode cX8_line 18 = .ok (.getfield 148, 3) := by decide +kernel
theorem dX8_line_21 : decode cX8_line 21 = .ok (.astore_n 2, 1) := by decide +kernel
theorem dX8_line_22 : decode cX8_line 22 = .ok (.aload_n 2, 1) := by decide +kernel
theorem dX8_line_23 : decode cX8_line 23 = .ok (.aload_n 0, 1) := by decide +kernel
theorem dX8_line_24 : decode cX8_line 24 = .ok (.getfield 10, 3) := by decide +kernel
theorem dX8_line_27 : decode cX8_line 27 = .ok (.getfield 161, 3) := by decide +kernel
theorem dX8_line_30 : decode cX8_line 30 = .ok (.iconst 2, 1) := by decide +kernel
theorem dX8_line_31 : decode cX8_line 31 = .ok (.iload_n 1, 1) := by decide +kernel
theorem dX8_line_32 : decode cX8_line 32 = .ok (.imul, 1) := by decide +kernel
theorem dX8_line_33 : decode cX8_line 33 = .ok (.invokevirtual 305, 3) := by decide +kernel
theorem dX8_line_36 : decode cX8_line 36 = .ok (.aload_n 2, 1) := by decide +kernel
theorem dX8_line_37 : decode cX8_line 37 = .ok (.aload_n 0, 1) := by decide +kernel
theorem dX8_line_38 : decode cX8_line 38 = .ok (.getfield 10, 3) := by decide +kernel
theorem dX8_line_41 : decode cX8_line 41 = .ok (.getfield 161, 3) := by decide +kernel
theorem dX8_line_44 : decode cX8_line 44 = .ok (.iconst 2, 1) := by decide +kernel
theorem dX8_line_45 : decode cX8_line 45 = .ok (.iload_n 1, 1) := by decide +kernel
theorem dX8_line_46 : decode cX8_line 46 = .ok (.imul, 1) := by decide +kernel
theorem dX8_line_47 : decode cX8_line 47 = .ok (.iconst 1, 1) := by decide +kernel
theorem dX8_line_48 : decode cX8_line 48 = .ok (.iadd, 1) := by decide +kernel
theorem dX8_line_49 : decode cX8_line 49 = .ok (.invokevirtual 305, 3) := by decide +kernel
theorem dX8_line_52 : decode cX8_line 52 = .ok (.land, 1) := by decide +kernel
theorem dX8_line_53 : decode cX8_line 53 = .ok (.aload_n 0, 1) := by decide +kernel
theorem dX8_line_54 : decode cX8_line 54 = .ok (.getfield 10, 3) := by decide +kernel
theorem dX8_line_57 : decode cX8_line 57 = .ok (.getfield 161, 3) := by decide +kernel
theorem dX8_line_60 : decode cX8_line 60 = .ok (.ldc2_w 168, 3) := by decide +kernel
theorem dX8_line_63 : decode cX8_line 63 = .ok (.lxor, 1) := by decide +kernel
theorem dX8_line_64 : decode cX8_line 64 = .ok (.land, 1) := by decide +kernel
theorem dX8_line_65 : decode cX8_line 65 = .ok (.lstore_n 3, 1) := by decide +kernel
theorem dX8_line_66 : decode cX8_line 66 = .ok (.lload_n 3, 1) := by decide +kernel
theorem dX8_line_67 : decode cX8_line 67 = .ok (.lconst 0, 1) := by decide +kernel
theorem dX8_line_68 : decode cX8_line 68 = .ok (.lcmp, 1) := by decide +kernel
theorem dX8_line_69 : decode cX8_line 69 = .ok (.ifCond .ne 7, 3) := by decide +kernel
theorem dX8_line_72 : decode cX8_line 72 = .ok (.iconst 1, 1) := by decide +kernel
theorem dX8_line_73 : decode cX8_line 73 = .ok (.goto 4, 3) := by decide +kernel
theorem dX8_line_76 : decode cX8_line 76 = .ok (.iconst 0, 1) := by decide +kernel
theorem dX8_line_77 : decode cX8_line 77 = .ok (.ireturn, 1) := by decide +kernel
set_option maxRecDepth 20000 in
theorem ggX8_cut_X8_isAxis : GoodIn wsX8_cut wsX8_isAxis := goodIn_r _ [7] (by decide +kernel) (by decide +kernel)
set_option maxRecDepth 20000 in
theorem gX8_cut_X8_isAxis : GoodIn wsX8_cut (va_wsS RX8 294 yX8_isAxis wsX8_isAxis) := goodIn_app (goodIn_of _ (by decide +kernel)) ggX8_cut_X8_isAxis
set_option maxRecDepth 20000 in
theorem ggX8_cut_X8_refuse : GoodIn wsX8_cut wsX8_refuse := goodIn_r _ [11, 12, 75, 76, 77, 78, 79, 80, 81, 82, 83, 84, 85, 86] (by decide +kernel) (by decide +kernel)
set_option maxRecDepth 20000 in
theorem gX8_cut_X8_refuse : GoodIn wsX8_cut (wsV RX8 68 RX8 yX8_refuse wsX8_refuse) := goodIn_app (goodIn_of _ (by decide +kernel)) ggX8_cut_X8_refuse
set_option maxRecDepth 20000 in
theorem ggX8_cut_X8_countCut : GoodIn wsX8_cut wsX8_countCut := goodIn_r _ [16, 1, 2, 17, 18, 19, 20, 21, 22, 23, 24, 25, 26, 27, 28, 29, 30, 31, 6, 32, 33, 34, 35, 36, 37, 38, 39, 40, 41, 42, 43, 44, 45, 46, 47, 48, 49, 50, 51, 52, 53, 54, 55, 56, 57, 58, 59, 60, 61, 62, 63, 64, 65, 66, 67, 68, 69, 70, 71, 72, 73, 74, 75, 76, 77, 78, 79, 80, 81, 82, 83, 84, 85, 86, 87, 88, 89, 90, 91, 92, 93, 94, 95, 96, 97, 98, 99, 100, 101, 102, 103] (by decide +kernel) (by decide +kernel)
set_option maxRecDepth 20000 in
theorem gX8_cut_X8_countCut : GoodIn wsX8_cut (wsV RX8 309 RX8 yX8_countCut wsX8_countCut) := goodIn_app (goodIn_of _ (by decide +kernel)) ggX8_cut_X8_countCut
theorem dX8_cut_0 : decode cX8_cut 0 = .ok (.iload_n 1, 1) := by decide +kernel
theorem dX8_cut_1 : decode cX8_cut 1 = .ok (.invokestatic 294, 3) := by decide +kernel
theorem dX8_cut_4 : decode cX8_cut 4 = .ok (.ifCond .eq 22, 3) := by decide +kernel
theorem dX8_cut_7 : decode cX8_cut 7 = .ok (.iload_n 2, 1) := by decide +kernel
theorem dX8_cut_8 : decode cX8_cut 8 = .ok (.iconst 1, 1) := by decide +kernel
theorem dX8_cut_9 : decode cX8_cut 9 = .ok (.if_icmp .lt 17, 3) := by decide +kernel
theorem dX8_cut_12 : decode cX8_cut 12 = .ok (.iload_n 2, 1) := by decide +kernel
theorem dX8_cut_13 : decode cX8_cut 13 = .ok (.aload_n 0, 1) := by decide +kernel
theorem dX8_cut_14 : decode cX8_cut 14 = .ok (.getfield 10, 3) := by decide +kernel
theorem dX8_cut_17 : decode cX8_cut 17 = .ok (.getfield 148, 3) := by decide +kernel
theorem dX8_cut_20 : decode cX8_cut 20 = .ok (.getfield 152, 3) := by decide +kernel
theorem dX8_cut_23 : decode cX8_cut 23 = .ok (.if_icmp .lt 10, 3) := by decide +kernel
theorem dX8_cut_26 : decode cX8_cut 26 = .ok (.aload_n 0, 1) := by decide +kernel
theorem dX8_cut_27 : decode cX8_cut 27 = .ok (.bipush (-2), 2) := by decide +kernel
theorem dX8_cut_29 : decode cX8_cut 29 = .ok (.invokevirtual 68, 3) := by decide +kernel
theorem dX8_cut_32 : decode cX8_cut 32 = .ok (.ireturn, 1) := by decide +kernel
theorem dX8_cut_33 : decode cX8_cut 33 = .ok (.aload_n 0, 1) := by decide +kernel
theorem dX8_cut_34 : decode cX8_cut 34 = .ok (.iload_n 1, 1) := by decide +kernel
theorem dX8_cut_35 : decode cX8_cut 35 = .ok (.iload_n 2, 1) := by decide +kernel
theorem dX8_cut_36 : decode cX8_cut 36 = .ok (.invokevirtual 309, 3) := by decide +kernel
theorem dX8_cut_39 : decode cX8_cut 39 = .ok (.ireturn, 1) := by decide +kernel
set_option maxRecDepth 20000 in
theorem ggX8_best_X8_countCut : GoodIn wsX8_best wsX8_countCut := goodIn_r _ [8, 1, 2, 9, 10, 11, 12, 13, 14, 15, 16, 17, 18, 19, 20, 21, 22, 23, 7, 24, 25, 26, 27, 28, 29, 30, 31, 32, 33, 34, 35, 36, 37, 38, 39, 40, 41, 42, 43, 44, 45, 46, 47, 48, 49, 50, 51, 52, 53, 54, 55, 56, 57, 58, 59, 60, 61, 62, 63, 64, 65, 66, 67, 68, 69, 70, 71, 72, 73, 74, 75, 76, 77, 78, 79, 80, 81, 82, 83, 84, 85, 86, 87, 88, 89, 90, 91, 92, 93, 94, 95] (by decide +kernel) (by decide +kernel)
set_option maxRecDepth 20000 in
theorem gX8_best_X8_countCut : GoodIn wsX8_best (wsV RX8 309 RX8 yX8_countCut wsX8_countCut) := goodIn_app (goodIn_of _ (by decide +kernel)) ggX8_best_X8_countCut
theorem dX8_best_0 : decode cX8_best 0 = .ok (.iconst (-1), 1) := by decide +kernel
theorem dX8_best_1 : decode cX8_best 1 = .ok (.istore_n 1, 1) := by decide +kernel
theorem dX8_best_2 : decode cX8_best 2 = .ok (.iconst 0, 1) := by decide +kernel
theorem dX8_best_3 : decode cX8_best 3 = .ok (.istore_n 2, 1) := by decide +kernel
theorem dX8_best_4 : decode cX8_best 4 = .ok (.iconst 0, 1) := by decide +kernel
theorem dX8_best_5 : decode cX8_best 5 = .ok (.istore_n 3, 1) := by decide +kernel
theorem dX8_best_6 : decode cX8_best 6 = .ok (.iload_n 3, 1) := by decide +kernel
theorem dX8_best_7 : decode cX8_best 7 = .ok (.iconst 3, 1) := by decide +kernel
theorem dX8_best_8 : decode cX8_best 8 = .ok (.if_icmp .ge 64, 3) := by decide +kernel
theorem dX8_best_11 : decode cX8_best 11 = .ok (.iconst 1, 1) := by decide +kernel
theorem dX8_best_12 : decode cX8_best 12 = .ok (.istore 4, 2) := by decide +kernel
theorem dX8_best_14 : decode cX8_best 14 = .ok (.iload 4, 2) := by decide +kernel
theorem dX8_best_16 : decode cX8_best 16 = .ok (.aload_n 0, 1) := by decide +kernel
theorem dX8_best_17 : decode cX8_best 17 = .ok (.getfield 10, 3) := by decide +kernel
theorem dX8_best_20 : decode cX8_best 20 = .ok (.getfield 148, 3) := by decide +kernel
theorem dX8_best_23 : decode cX8_best 23 = .ok (.getfield 152, 3) := by decide +kernel
theorem dX8_best_26 : decode cX8_best 26 = .ok (.if_icmp .ge 40, 3) := by decide +kernel
theorem dX8_best_29 : decode cX8_best 29 = .ok (.aload_n 0, 1) := by decide +kernel
theorem dX8_best_30 : decode cX8_best 30 = .ok (.iload_n 3, 1) := by decide +kernel
theorem dX8_best_31 : decode cX8_best 31 = .ok (.iload 4, 2) := by decide +kernel
theorem dX8_best_33 : decode cX8_best 33 = .ok (.invokevirtual 309, 3) := by decide +kernel
theorem dX8_best_36 : decode cX8_best 36 = .ok (.istore 5, 2) := by decide +kernel
theorem dX8_best_38 : decode cX8_best 38 = .ok (.iload_n 1, 1) := by decide +kernel
theorem dX8_best_39 : decode cX8_best 39 = .ok (.iconst (-1), 1) := by decide +kernel
theorem dX8_best_40 : decode cX8_best 40 = .ok (.if_icmp .eq 9, 3) := by decide +kernel
theorem dX8_best_43 : decode cX8_best 43 = .ok (.iload 5, 2) := by decide +kernel
theorem dX8_best_45 : decode cX8_best 45 = .ok (.iload_n 2, 1) := by decide +kernel
theorem dX8_best_46 : decode cX8_best 46 = .ok (.if_icmp .ge 14, 3) := by decide +kernel
theorem dX8_best_49 : decode cX8_best 49 = .ok (.iload 5, 2) := by decide +kernel
theorem dX8_best_51 : decode cX8_best 51 = .ok (.istore_n 2, 1) := by decide +kernel
theorem dX8_best_52 : decode cX8_best 52 = .ok (.bipush 10, 2) := by decide +kernel
theorem dX8_best_54 : decode cX8_best 54 = .ok (.iload_n 3, 1) := by decide +kernel
theorem dX8_best_55 : decode cX8_best 55 = .ok (.imul, 1) := by decide +kernel
theorem dX8_best_56 : decode cX8_best 56 = .ok (.iload 4, 2) := by decide +kernel
theorem dX8_best_58 : decode cX8_best 58 = .ok (.iadd, 1) := by decide +kernel
theorem dX8_best_59 : decode cX8_best 59 = .ok (.istore_n 1, 1) := by decide +kernel
theorem dX8_best_60 : decode cX8_best 60 = .ok (.iinc 4 1, 3) := by decide +kernel
theorem dX8_best_63 : decode cX8_best 63 = .ok (.goto (-49), 3) := by decide +kernel
theorem dX8_best_66 : decode cX8_best 66 = .ok (.iinc 3 1, 3) := by decide +kernel
theorem dX8_best_69 : decode cX8_best 69 = .ok (.goto (-63), 3) := by decide +kernel
theorem dX8_best_72 : decode cX8_best 72 = .ok (.iload_n 1, 1) := by decide +kernel
theorem dX8_best_73 : decode cX8_best 73 = .ok (.ireturn, 1) := by decide +kernel
set_option maxRecDepth 20000 in
theorem ggX8_helps_X8_moveRefusal : GoodIn wsX8_helps wsX8_moveRefusal := goodIn_r _ [7, 1, 8, 9, 6, 10, 11, 12, 13, 14, 15, 16, 17, 18, 19, 20, 97, 98, 99, 100, 101, 102, 103, 104, 105, 106, 107, 108, 109, 110, 111] (by decide +kernel) (by decide +kernel)
set_option maxRecDepth 20000 in
theorem gX8_helps_X8_moveRefusal : GoodIn wsX8_helps (wsV RX8 128 RX8 yX8_moveRefusal wsX8_moveRefusal) := goodIn_app (goodIn_of _ (by decide +kernel)) ggX8_helps_X8_moveRefusal
set_option maxRecDepth 20000 in
theorem ggX8_helps_X8_refuse : GoodIn wsX8_helps wsX8_refuse := goodIn_r _ [24, 25, 97, 98, 99, 100, 101, 102, 103, 104, 105, 106, 107, 108] (by decide +kernel) (by decide +kernel)
set_option maxRecDepth 20000 in
theorem gX8_helps_X8_refuse : GoodIn wsX8_helps (wsV RX8 68 RX8 yX8_refuse wsX8_refuse) := goodIn_app (goodIn_of _ (by decide +kernel)) ggX8_helps_X8_refuse
set_option maxRecDepth 20000 in
theorem ggX8_helps_X8_lookAtFigure : GoodIn wsX8_helps wsX8_lookAtFigure := goodIn_r _ [29, 30, 31, 32, 33, 34, 35, 36, 37, 38, 39, 40, 41, 42, 43, 44, 45, 46, 47, 48, 49, 50, 51, 52, 53, 54, 55, 97, 98, 99, 100, 101, 102, 103, 104, 105, 106, 107, 108, 112, 113, 114, 115, 116, 117, 118, 119, 120, 121, 122, 123, 124, 125, 126, 127, 128] (by decide +kernel) (by decide +kernel)
set_option maxRecDepth 20000 in
theorem gX8_helps_X8_lookAtFigure : GoodIn wsX8_helps (wsV RX8 221 RX8 yX8_lookAtFigure wsX8_lookAtFigure) := goodIn_app (goodIn_of _ (by decide +kernel)) ggX8_helps_X8_lookAtFigure
set_option maxRecDepth 20000 in
theorem ggX8_helps_X1_neverFree : GoodIn wsX8_helps wsX1_neverFree := goodIn_r _ [59, 41, 40, 60, 61, 62, 37, 63, 42, 126, 127, 128] (by decide +kernel) (by decide +kernel)
set_option maxRecDepth 20000 in
theorem gX8_helps_X1_neverFree : GoodIn wsX8_helps (wsV RX8 225 RX1 yX1_neverFree wsX1_neverFree) := goodIn_app (goodIn_of _ (by decide +kernel)) ggX8_helps_X1_neverFree
set_option maxRecDepth 20000 in
theorem ggX8_helps_X8_countComing : GoodIn wsX8_helps wsX8_countComing := goodIn_r _ [67, 31, 32, 68, 33, 69, 70, 71, 72, 73, 74, 75, 76, 77, 78, 79, 80, 81, 82, 83, 46, 84, 85, 86, 87, 88, 89, 90, 53, 91, 92, 93, 94, 95, 96, 50, 51, 52, 54, 55, 97, 98, 99, 100, 101, 102, 103, 104, 105, 106, 107, 108, 112, 113, 114, 115, 116, 117, 118, 119, 120, 121, 122, 123, 124, 125, 129, 130, 131] (by decide +kernel) (by decide +kernel)
set_option maxRecDepth 20000 in
theorem gX8_helps_X8_countComing : GoodIn wsX8_helps (wsV RX8 144 RX8 yX8_countComing wsX8_countComing) := goodIn_app (goodIn_of _ (by decide +kernel)) ggX8_helps_X8_countComing
theorem dX8_helps_0 : decode cX8_helps 0 = .ok (.aload_n 0, 1) := by decide +kernel
theorem dX8_helps_1 : decode cX8_helps 1 = .ok (.iload_n 1, 1) := by decide +kernel
theorem dX8_helps_2 : decode cX8_helps 2 = .ok (.invokevirtual 128, 3) := by decide +kernel
theorem dX8_helps_5 : decode cX8_helps 5 = .ok (.istore_n 2, 1) := by decide +kernel
theorem dX8_helps_6 : decode cX8_helps 6 = .ok (.iload_n 2, 1) := by decide +kernel
theorem dX8_helps_7 : decode cX8_helps 7 = .ok (.ifCond .eq 9, 3) := by decide +kernel
theorem dX8_helps_10 : decode cX8_helps 10 = .ok (.aload_n 0, 1) := by decide +kernel
theorem dX8_helps_11 : decode cX8_helps 11 = .ok (.iload_n 2, 1) := by decide +kernel
theorem dX8_helps_12 : decode cX8_helps 12 = .ok (.invokevirtual 68, 3) := by decide +kernel
theorem dX8_helps_15 : decode cX8_helps 15 = .ok (.ireturn, 1) := by decide +kernel
theorem dX8_helps_16 : decode cX8_helps 16 = .ok (.aload_n 0, 1) := by decide +kernel
theorem dX8_helps_17 : decode cX8_helps 17 = .ok (.aload_n 0, 1) := by decide +kernel
theorem dX8_helps_18 : decode cX8_helps 18 = .ok (.getfield 28, 3) := by decide +kernel
theorem dX8_helps_21 : decode cX8_helps 21 = .ok (.iload_n 1, 1) := by decide +kernel
theorem dX8_helps_22 : decode cX8_helps 22 = .ok (.aaload, 1) := by decide +kernel
theorem dX8_helps_23 : decode cX8_helps 23 = .ok (.getfield 119, 3) := by decide +kernel
theorem dX8_helps_26 : decode cX8_helps 26 = .ok (.aload_n 0, 1) := by decide +kernel
theorem dX8_helps_27 : decode cX8_helps 27 = .ok (.invokevirtual 221, 3) := by decide +kernel
theorem dX8_helps_30 : decode cX8_helps 30 = .ok (.invokevirtual 225, 3) := by decide +kernel
theorem dX8_helps_33 : decode cX8_helps 33 = .ok (.invokevirtual 144, 3) := by decide +kernel
theorem dX8_helps_36 : decode cX8_helps 36 = .ok (.ireturn, 1) := by decide +kernel
set_option maxRecDepth 20000 in
theorem ggX8_slide_X8_moveRefusal : GoodIn wsX8_slide wsX8_moveRefusal := goodIn_r _ [10, 1, 11, 12, 9, 13, 14, 15, 16, 17, 18, 19, 20, 21, 22, 23, 49, 50, 51, 52, 53, 54, 55, 56, 57, 58, 59, 60, 61, 62, 63] (by decide +kernel) (by decide +kernel)
set_option maxRecDepth 20000 in
theorem gX8_slide_X8_moveRefusal : GoodIn wsX8_slide (wsV RX8 128 RX8 yX8_moveRefusal wsX8_moveRefusal) := goodIn_app (goodIn_of _ (by decide +kernel)) ggX8_slide_X8_moveRefusal
set_option maxRecDepth 20000 in
theorem ggX8_slide_X8_refuse : GoodIn wsX8_slide wsX8_refuse := goodIn_r _ [27, 28, 49, 50, 51, 52, 53, 54, 55, 56, 57, 58, 59, 60] (by decide +kernel) (by decide +kernel)
set_option maxRecDepth 20000 in
theorem gX8_slide_X8_refuse : GoodIn wsX8_slide (wsV RX8 68 RX8 yX8_refuse wsX8_refuse) := goodIn_app (goodIn_of _ (by decide +kernel)) ggX8_slide_X8_refuse
set_option maxRecDepth 20000 in
theorem ggX8_slide_X3_carried : GoodIn wsX8_slide wsX3_carried := goodIn_r _ [33, 34, 35, 36, 32, 37, 38, 39, 40, 41, 42, 43, 44, 45, 46, 47, 48, 78, 79, 80, 72, 73, 74, 75, 76, 77] (by decide +kernel) (by decide +kernel)
set_option maxRecDepth 20000 in
theorem gX8_slide_X3_carried : GoodIn wsX8_slide (wsV RX8 312 RX3 yX3_carried wsX3_carried) := goodIn_app (goodIn_of _ (by decide +kernel)) ggX8_slide_X3_carried
theorem dX8_slide_0 : decode cX8_slide 0 = .ok (.iload 4, 2) := by decide +kernel
theorem dX8_slide_2 : decode cX8_slide 2 = .ok (.ifCond .lt 10, 3) := by decide +kernel
theorem dX8_slide_5 : decode cX8_slide 5 = .ok (.iload 4, 2) := by decide +kernel
theorem dX8_slide_7 : decode cX8_slide 7 = .ok (.bipush 9, 2) := by decide +kernel
theorem dX8_slide_9 : decode cX8_slide 9 = .ok (.if_icmp .le 8, 3) := by decide +kernel
theorem dX8_slide_12 : decode cX8_slide 12 = .ok (.bipush (-2), 2) := by decide +kernel
theorem dX8_slide_14 : decode cX8_slide 14 = .ok (.goto 8, 3) := by decide +kernel
theorem dX8_slide_17 : decode cX8_slide 17 = .ok (.aload_n 0, 1) := by decide +kernel
theorem dX8_slide_18 : decode cX8_slide 18 = .ok (.iload_n 1, 1) := by decide +kernel
theorem dX8_slide_19 : decode cX8_slide 19 = .ok (.invokevirtual 128, 3) := by decide +kernel
theorem dX8_slide_22 : decode cX8_slide 22 = .ok (.istore 5, 2) := by decide +kernel
theorem dX8_slide_24 : decode cX8_slide 24 = .ok (.iload 5, 2) := by decide +kernel
theorem dX8_slide_26 : decode cX8_slide 26 = .ok (.ifCond .eq 11, 3) := by decide +kernel
theorem dX8_slide_29 : decode cX8_slide 29 = .ok (.aload_n 0, 1) := by decide +kernel
theorem dX8_slide_30 : decode cX8_slide 30 = .ok (.iload 5, 2) := by decide +kernel
theorem dX8_slide_32 : decode cX8_slide 32 = .ok (.invokevirtual 68, 3) := by decide +kernel
theorem dX8_slide_35 : decode cX8_slide 35 = .ok (.i2l, 1) := by decide +kernel
theorem dX8_slide_36 : decode cX8_slide 36 = .ok (.lreturn, 1) := by decide +kernel
theorem dX8_slide_37 : decode cX8_slide 37 = .ok (.aload_n 0, 1) := by decide +kernel
theorem dX8_slide_38 : decode cX8_slide 38 = .ok (.getfield 28, 3) := by decide +kernel
theorem dX8_slide_41 : decode cX8_slide 41 = .ok (.iload_n 1, 1) := by decide +kernel
theorem dX8_slide_42 : decode cX8_slide 42 = .ok (.aaload, 1) := by decide +kernel
theorem dX8_slide_43 : decode cX8_slide 43 = .ok (.getfield 119, 3) := by decide +kernel
theorem dX8_slide_46 : decode cX8_slide 46 = .ok (.aload_n 0, 1) := by decide +kernel
theorem dX8_slide_47 : decode cX8_slide 47 = .ok (.getfield 10, 3) := by decide +kernel
theorem dX8_slide_50 : decode cX8_slide 50 = .ok (.getfield 148, 3) := by decide +kernel
theorem dX8_slide_53 : decode cX8_slide 53 = .ok (.lload_n 2, 1) := by decide +kernel
theorem dX8_slide_54 : decode cX8_slide 54 = .ok (.aload_n 0, 1) := by decide +kernel
theorem dX8_slide_55 : decode cX8_slide 55 = .ok (.getfield 10, 3) := by decide +kernel
theorem dX8_slide_58 : decode cX8_slide 58 = .ok (.getfield 148, 3) := by decide +kernel
theorem dX8_slide_61 : decode cX8_slide 61 = .ok (.getfield 165, 3) := by decide +kernel
theorem dX8_slide_64 : decode cX8_slide 64 = .ok (.land, 1) := by decide +kernel
theorem dX8_slide_65 : decode cX8_slide 65 = .ok (.iload 4, 2) := by decide +kernel
theorem dX8_slide_67 : decode cX8_slide 67 = .ok (.invokevirtual 312, 3) := by decide +kernel
theorem dX8_slide_70 : decode cX8_slide 70 = .ok (.lreturn, 1) := by decide +kernel
set_option maxRecDepth 20000 in
theorem ggX8_tunnels_X8_isAxis : GoodIn wsX8_tunnels wsX8_isAxis := goodIn_r _ [8] (by decide +kernel) (by decide +kernel)
set_option maxRecDepth 20000 in
theorem gX8_tunnels_X8_isAxis : GoodIn wsX8_tunnels (va_wsS RX8 294 yX8_isAxis wsX8_isAxis) := goodIn_app (goodIn_of _ (by decide +kernel)) ggX8_tunnels_X8_isAxis
set_option maxRecDepth 20000 in
theorem ggX8_tunnels_X8_refuse : GoodIn wsX8_tunnels wsX8_refuse := goodIn_r _ [12, 13, 39, 40, 41, 42, 43, 44, 45, 46, 47, 48, 49, 50] (by decide +kernel) (by decide +kernel)
set_option maxRecDepth 20000 in
theorem gX8_tunnels_X8_refuse : GoodIn wsX8_tunnels (wsV RX8 68 RX8 yX8_refuse wsX8_refuse) := goodIn_app (goodIn_of _ (by decide +kernel)) ggX8_tunnels_X8_refuse
set_option maxRecDepth 20000 in
theorem ggX8_tunnels_X0_behind : GoodIn wsX8_tunnels wsX0_behind := goodIn_r _ [18, 19, 20, 21, 22, 17, 23, 24, 25, 26, 59, 60, 61, 62, 63, 64] (by decide +kernel) (by decide +kernel)
set_option maxRecDepth 20000 in
theorem gX8_tunnels_X0_behind : GoodIn wsX8_tunnels (wsV RX8 305 RX0 yX0_behind wsX0_behind) := goodIn_app (goodIn_of _ (by decide +kernel)) ggX8_tunnels_X0_behind
set_option maxRecDepth 20000 in
theorem ggX8_tunnels_X0_layer : GoodIn wsX8_tunnels wsX0_layer := goodIn_r _ [30, 31, 59, 60, 61, 62, 63, 64] (by decide +kernel) (by decide +kernel)
set_option maxRecDepth 20000 in
theorem gX8_tunnels_X0_layer : GoodIn wsX8_tunnels (wsV RX8 316 RX0 yX0_layer wsX0_layer) := goodIn_app (goodIn_of _ (by decide +kernel)) ggX8_tunnels_X0_layer
set_option maxRecDepth 20000 in
theorem ggX8_tunnels_J13_bitCount_95d88 : GoodIn wsX8_tunnels wsJ13_bitCount_95d88 := goodIn_r _ [35, 36, 37, 38] (by decide +kernel) (by decide +kernel)
set_option maxRecDepth 20000 in
theorem gX8_tunnels_J13_bitCount_95d88 : GoodIn wsX8_tunnels (va_wsS RX8 170 yJ13_bitCount_95d88 wsJ13_bitCount_95d88) := goodIn_app (goodIn_of _ (by decide +kernel)) ggX8_tunnels_J13_bitCount_95d88
theorem dX8_tunnels_0 : decode cX8_tunnels 0 = .ok (.iload_n 1, 1) := by decide +kernel
theorem dX8_tunnels_1 : decode cX8_tunnels 1 = .ok (.invokestatic 294, 3) := by decide +kernel
theorem dX8_tunnels_4 : decode cX8_tunnels 4 = .ok (.ifCond .ne 10, 3) := by decide +kernel
theorem dX8_tunnels_7 : decode cX8_tunnels 7 = .ok (.aload_n 0, 1) := by decide +kernel
theorem dX8_tunnels_8 : decode cX8_tunnels 8 = .ok (.bipush (-2), 2) := by decide +kernel
theorem dX8_tunnels_10 : decode cX8_tunnels 10 = .ok (.invokevirtual 68, 3) := by decide +kernel
theorem dX8_tunnels_13 : decode cX8_tunnels 13 = .ok (.ireturn, 1) := by decide +kernel
theorem dX8_tunnels_14 : decode cX8_tunnels 14 = .ok (.aload_n 0, 1) := by decide +kernel
theorem dX8_tunnels_15 : decode cX8_tunnels 15 = .ok (.getfield 10, 3) := by decide +kernel
theorem dX8_tunnels_18 : decode cX8_tunnels 18 = .ok (.getfield 148, 3) := by decide +kernel
theorem dX8_tunnels_21 : decode cX8_tunnels 21 = .ok (.astore_n 2, 1) := by decide +kernel
theorem dX8_tunnels_22 : decode cX8_tunnels 22 = .ok (.aload_n 0, 1) := by decide +kernel
theorem dX8_tunnels_23 : decode cX8_tunnels 23 = .ok (.getfield 10, 3) := by decide +kernel
theorem dX8_tunnels_26 : decode cX8_tunnels 26 = .ok (.getfield 161, 3) := by decide +kernel
theorem dX8_tunnels_29 : decode cX8_tunnels 29 = .ok (.aload_n 2, 1) := by decide +kernel
theorem dX8_tunnels_30 : decode cX8_tunnels 30 = .ok (.aload_n 0, 1) := by decide +kernel
theorem dX8_tunnels_31 : decode cX8_tunnels 31 = .ok (.getfield 10, 3) := by decide +kernel
theorem dX8_tunnels_34 : decode cX8_tunnels 34 = .ok (.getfield 161, 3) := by decide +kernel
theorem dX8_tunnels_37 : decode cX8_tunnels 37 = .ok (.iconst 2, 1) := by decide +kernel
theorem dX8_tunnels_38 : decode cX8_tunnels 38 = .ok (.iload_n 1, 1) := by decide +kernel
theorem dX8_tunnels_39 : decode cX8_tunnels 39 = .ok (.imul, 1) := by decide +kernel
theorem dX8_tunnels_40 : decode cX8_tunnels 40 = .ok (.invokevirtual 305, 3) := by decide +kernel
theorem dX8_tunnels_43 : decode cX8_tunnels 43 = .ok (.lor, 1) := by decide +kernel
theorem dX8_tunnels_44 : decode cX8_tunnels 44 = .ok (.aload_n 2, 1) := by decide +kernel
theorem dX8_tunnels_45 : decode cX8_tunnels 45 = .ok (.iload_n 1, 1) := by decide +kernel
theorem dX8_tunnels_46 : decode cX8_tunnels 46 = .ok (.iconst 0, 1) := by decide +kernel
theorem dX8_tunnels_47 : decode cX8_tunnels 47 = .ok (.invokevirtual 316, 3) := by decide +kernel
theorem dX8_tunnels_50 : decode cX8_tunnels 50 = .ok (.land, 1) := by decide +kernel
theorem dX8_tunnels_51 : decode cX8_tunnels 51 = .ok (.lstore_n 3, 1) := by decide +kernel
theorem dX8_tunnels_52 : decode cX8_tunnels 52 = .ok (.aload_n 2, 1) := by decide +kernel
theorem dX8_tunnels_53 : decode cX8_tunnels 53 = .ok (.getfield 152, 3) := by decide +kernel
theorem dX8_tunnels_56 : decode cX8_tunnels 56 = .ok (.aload_n 2, 1) := by decide +kernel
theorem dX8_tunnels_57 : decode cX8_tunnels 57 = .ok (.getfield 152, 3) := by decide +kernel
theorem dX8_tunnels_60 : decode cX8_tunnels 60 = .ok (.imul, 1) := by decide +kernel
theorem dX8_tunnels_61 : decode cX8_tunnels 61 = .ok (.lload_n 3, 1) := by decide +kernel
theorem dX8_tunnels_62 : decode cX8_tunnels 62 = .ok (.invokestatic 170, 3) := by decide +kernel
theorem dX8_tunnels_65 : decode cX8_tunnels 65 = .ok (.isub, 1) := by decide +kernel
theorem dX8_tunnels_66 : decode cX8_tunnels 66 = .ok (.ireturn, 1) := by decide +kernel
set_option maxRecDepth 20000 in
theorem ggX8_needed_X0_holdsTogether : GoodIn wsX8_needed wsX0_holdsTogether := goodIn_r _ [9, 10, 11, 12, 13, 8, 14, 15, 16, 17, 18, 19, 20, 21, 22, 23, 24, 45, 46, 47, 48, 49, 50] (by decide +kernel) (by decide +kernel)
set_option maxRecDepth 20000 in
theorem gX8_needed_X0_holdsTogether : GoodIn wsX8_needed (wsV RX8 319 RX0 yX0_holdsTogether wsX0_holdsTogether) := goodIn_app (goodIn_of _ (by decide +kernel)) ggX8_needed_X0_holdsTogether
theorem dX8_needed_0 : decode cX8_needed 0 = .ok (.lconst 0, 1) := by decide +kernel
theorem dX8_needed_1 : decode cX8_needed 1 = .ok (.lstore_n 1, 1) := by decide +kernel
theorem dX8_needed_2 : decode cX8_needed 2 = .ok (.iconst 0, 1) := by decide +kernel
theorem dX8_needed_3 : decode cX8_needed 3 = .ok (.istore_n 3, 1) := by decide +kernel
theorem dX8_needed_4 : decode cX8_needed 4 = .ok (.iload_n 3, 1) := by decide +kernel
theorem dX8_needed_5 : decode cX8_needed 5 = .ok (.aload_n 0, 1) := by decide +kernel
theorem dX8_needed_6 : decode cX8_needed 6 = .ok (.getfield 10, 3) := by decide +kernel
theorem dX8_needed_9 : decode cX8_needed 9 = .ok (.getfield 148, 3) := by decide +kernel
theorem dX8_needed_12 : decode cX8_needed 12 = .ok (.getfield 245, 3) := by decide +kernel
theorem dX8_needed_15 : decode cX8_needed 15 = .ok (.if_icmp .ge 56, 3) := by decide +kernel
theorem dX8_needed_18 : decode cX8_needed 18 = .ok (.lconst 1, 1) := by decide +kernel
theorem dX8_needed_19 : decode cX8_needed 19 = .ok (.iload_n 3, 1) := by decide +kernel
theorem dX8_needed_20 : decode cX8_needed 20 = .ok (.lshl, 1) := by decide +kernel
theorem dX8_needed_21 : decode cX8_needed 21 = .ok (.lstore 4, 2) := by decide +kernel
theorem dX8_needed_23 : decode cX8_needed 23 = .ok (.aload_n 0, 1) := by decide +kernel
theorem dX8_needed_24 : decode cX8_needed 24 = .ok (.getfield 10, 3) := by decide +kernel
theorem dX8_needed_27 : decode cX8_needed 27 = .ok (.getfield 161, 3) := by decide +kernel
theorem dX8_needed_30 : decode cX8_needed 30 = .ok (.lload 4, 2) := by decide +kernel
theorem dX8_needed_32 : decode cX8_needed 32 = .ok (.land, 1) := by decide +kernel
theorem dX8_needed_33 : decode cX8_needed 33 = .ok (.lconst 0, 1) := by decide +kernel
theorem dX8_needed_34 : decode cX8_needed 34 = .ok (.lcmp, 1) := by decide +kernel
theorem dX8_needed_35 : decode cX8_needed 35 = .ok (.ifCond .eq 30, 3) := by decide +kernel
theorem dX8_needed_38 : decode cX8_needed 38 = .ok (.aload_n 0, 1) := by decide +kernel
theorem dX8_needed_39 : decode cX8_needed 39 = .ok (.getfield 10, 3) := by decide +kernel
theorem dX8_needed_42 : decode cX8_needed 42 = .ok (.getfield 148, 3) := by decide +kernel
theorem dX8_needed_45 : decode cX8_needed 45 = .ok (.aload_n 0, 1) := by decide +kernel
theorem dX8_needed_46 : decode cX8_needed 46 = .ok (.getfield 10, 3) := by decide +kernel
theorem dX8_needed_49 : decode cX8_needed 49 = .ok (.getfield 161, 3) := by decide +kernel
theorem dX8_needed_52 : decode cX8_needed 52 = .ok (.lload 4, 2) := by decide +kernel
theorem dX8_needed_54 : decode cX8_needed 54 = .ok (.invokevirtual 319, 3) := by decide +kernel
theorem dX8_needed_57 : decode cX8_needed 57 = .ok (.ifCond .eq 8, 3) := by decide +kernel
theorem dX8_needed_60 : decode cX8_needed 60 = .ok (.lload_n 1, 1) := by decide +kernel
theorem dX8_needed_61 : decode cX8_needed 61 = .ok (.lload 4, 2) := by decide +kernel
theorem dX8_needed_63 : decode cX8_needed 63 = .ok (.lor, 1) := by decide +kernel
theorem dX8_needed_64 : decode cX8_needed 64 = .ok (.lstore_n 1, 1) := by decide +kernel
theorem dX8_needed_65 : decode cX8_needed 65 = .ok (.iinc 3 1, 3) := by decide +kernel
theorem dX8_needed_68 : decode cX8_needed 68 = .ok (.goto (-64), 3) := by decide +kernel
theorem dX8_needed_71 : decode cX8_needed 71 = .ok (.lload_n 1, 1) := by decide +kernel
theorem dX8_needed_72 : decode cX8_needed 72 = .ok (.lreturn, 1) := by decide +kernel
set_option maxRecDepth 20000 in
theorem ggX8_alike_X0_mirrored : GoodIn wsX8_alike wsX0_mirrored := goodIn_r _ [8, 9, 10, 11, 12, 13, 7, 14, 15, 16, 17, 18, 39, 40, 41, 42, 43, 44] (by decide +kernel) (by decide +kernel)
set_option maxRecDepth 20000 in
theorem gX8_alike_X0_mirrored : GoodIn wsX8_alike (wsV RX8 323 RX0 yX0_mirrored wsX0_mirrored) := goodIn_app (goodIn_of _ (by decide +kernel)) ggX8_alike_X0_mirrored
theorem dX8_alike_0 : decode cX8_alike 0 = .ok (.iconst 0, 1) := by decide +kernel
theorem dX8_alike_1 : decode cX8_alike 1 = .ok (.istore_n 1, 1) := by decide +kernel
theorem dX8_alike_2 : decode cX8_alike 2 = .ok (.iconst 0, 1) := by decide +kernel
theorem dX8_alike_3 : decode cX8_alike 3 = .ok (.istore_n 2, 1) := by decide +kernel
theorem dX8_alike_4 : decode cX8_alike 4 = .ok (.iload_n 2, 1) := by decide +kernel
theorem dX8_alike_5 : decode cX8_alike 5 = .ok (.iconst 3, 1) := by decide +kernel
theorem dX8_alike_6 : decode cX8_alike 6 = .ok (.if_icmp .ge 44, 3) := by decide +kernel
theorem dX8_alike_9 : decode cX8_alike 9 = .ok (.aload_n 0, 1) := by decide +kernel
theorem dX8_alike_10 : decode cX8_alike 10 = .ok (.getfield 10, 3) := by decide +kernel
theorem dX8_alike_13 : decode cX8_alike 13 = .ok (.getfield 148, 3) := by decide +kernel
theorem dX8_alike_16 : decode cX8_alike 16 = .ok (.aload_n 0, 1) := by decide +kernel
theorem dX8_alike_17 : decode cX8_alike 17 = .ok (.getfield 10, 3) := by decide +kernel
theorem dX8_alike_20 : decode cX8_alike 20 = .ok (.getfield 161, 3) := by decide +kernel
theorem dX8_alike_23 : decode cX8_alike 23 = .ok (.iload_n 2, 1) := by decide +kernel
theorem dX8_alike_24 : decode cX8_alike 24 = .ok (.invokevirtual 323, 3) := by decide +kernel
theorem dX8_alike_27 : decode cX8_alike 27 = .ok (.aload_n 0, 1) := by decide +kernel
theorem dX8_alike_28 : decode cX8_alike 28 = .ok (.getfield 10, 3) := by decide +kernel
theorem dX8_alike_31 : decode cX8_alike 31 = .ok (.getfield 161, 3) := by decide +kernel
theorem dX8_alike_34 : decode cX8_alike 34 = .ok (.lcmp, 1) := by decide +kernel
theorem dX8_alike_35 : decode cX8_alike 35 = .ok (.ifCond .ne 9, 3) := by decide +kernel
theorem dX8_alike_38 : decode cX8_alike 38 = .ok (.iload_n 1, 1) := by decide +kernel
theorem dX8_alike_39 : decode cX8_alike 39 = .ok (.iconst 1, 1) := by decide +kernel
theorem dX8_alike_40 : decode cX8_alike 40 = .ok (.iload_n 2, 1) := by decide +kernel
theorem dX8_alike_41 : decode cX8_alike 41 = .ok (.ishl, 1) := by decide +kernel
theorem dX8_alike_42 : decode cX8_alike 42 = .ok (.ior, 1) := by decide +kernel
theorem dX8_alike_43 : decode cX8_alike 43 = .ok (.istore_n 1, 1) := by decide +kernel
theorem dX8_alike_44 : decode cX8_alike 44 = .ok (.iinc 2 1, 3) := by decide +kernel
theorem dX8_alike_47 : decode cX8_alike 47 = .ok (.goto (-43), 3) := by decide +kernel
theorem dX8_alike_50 : decode cX8_alike 50 = .ok (.iload_n 1, 1) := by decide +kernel
theorem dX8_alike_51 : decode cX8_alike 51 = .ok (.ireturn, 1) := by decide +kernel
set_option maxRecDepth 20000 in
theorem ggX8_mirror_X8_isAxis : GoodIn wsX8_mirror wsX8_isAxis := goodIn_r _ [5] (by decide +kernel) (by decide +kernel)
set_option maxRecDepth 20000 in
theorem gX8_mirror_X8_isAxis : GoodIn wsX8_mirror (va_wsS RX8 294 yX8_isAxis wsX8_isAxis) := goodIn_app (goodIn_of _ (by decide +kernel)) ggX8_mirror_X8_isAxis
set_option maxRecDepth 20000 in
theorem ggX8_mirror_X8_refuse : GoodIn wsX8_mirror wsX8_refuse := goodIn_r _ [9, 10, 36, 37, 38, 39, 40, 41, 42, 43, 44, 45, 46, 47] (by decide +kernel) (by decide +kernel)
set_option maxRecDepth 20000 in
theorem gX8_mirror_X8_refuse : GoodIn wsX8_mirror (wsV RX8 68 RX8 yX8_refuse wsX8_refuse) := goodIn_app (goodIn_of _ (by decide +kernel)) ggX8_mirror_X8_refuse
set_option maxRecDepth 20000 in
theorem ggX8_mirror_X2_mirrorAll : GoodIn wsX8_mirror wsX2_mirrorAll := goodIn_r _ [15, 16, 17, 18, 19, 20, 21, 22, 23, 24, 25, 26, 27, 28, 29, 30, 31, 32, 33, 34, 35, 48, 49, 50, 51, 52, 53, 54, 55, 56, 57, 58, 59, 60, 61] (by decide +kernel) (by decide +kernel)
set_option maxRecDepth 20000 in
theorem gX8_mirror_X2_mirrorAll : GoodIn wsX8_mirror (wsV RX8 326 RX2 yX2_mirrorAll wsX2_mirrorAll) := goodIn_app (goodIn_of _ (by decide +kernel)) ggX8_mirror_X2_mirrorAll
theorem dX8_mirror_0 : decode cX8_mirror 0 = .ok (.iload_n 1, 1) := by decide +kernel
theorem dX8_mirror_1 : decode cX8_mirror 1 = .ok (.invokestatic 294, 3) := by decide +kernel
theorem dX8_mirror_4 : decode cX8_mirror 4 = .ok (.ifCond .ne 10, 3) := by decide +kernel
theorem dX8_mirror_7 : decode cX8_mirror 7 = .ok (.aload_n 0, 1) := by decide +kernel
theorem dX8_mirror_8 : decode cX8_mirror 8 = .ok (.bipush (-2), 2) := by decide +kernel
theorem dX8_mirror_10 : decode cX8_mirror 10 = .ok (.invokevirtual 68, 3) := by decide +kernel
theorem dX8_mirror_13 : decode cX8_mirror 13 = .ok (.ireturn, 1) := by decide +kernel
theorem dX8_mirror_14 : decode cX8_mirror 14 = .ok (.aload_n 0, 1) := by decide +kernel
theorem dX8_mirror_15 : decode cX8_mirror 15 = .ok (.getfield 10, 3) := by decide +kernel
theorem dX8_mirror_18 : decode cX8_mirror 18 = .ok (.iload_n 1, 1) := by decide +kernel
theorem dX8_mirror_19 : decode cX8_mirror 19 = .ok (.invokevirtual 326, 3) := by decide +kernel
theorem dX8_mirror_22 : decode cX8_mirror 22 = .ok (.iconst 1, 1) := by decide +kernel
theorem dX8_mirror_23 : decode cX8_mirror 23 = .ok (.ireturn, 1) := by decide +kernel
set_option maxRecDepth 20000 in
theorem ggX8_turn_X8_isAxis : GoodIn wsX8_turn wsX8_isAxis := goodIn_r _ [5] (by decide +kernel) (by decide +kernel)
set_option maxRecDepth 20000 in
theorem gX8_turn_X8_isAxis : GoodIn wsX8_turn (va_wsS RX8 294 yX8_isAxis wsX8_isAxis) := goodIn_app (goodIn_of _ (by decide +kernel)) ggX8_turn_X8_isAxis
set_option maxRecDepth 20000 in
theorem ggX8_turn_X8_refuse : GoodIn wsX8_turn wsX8_refuse := goodIn_r _ [9, 10, 36, 37, 38, 39, 40, 41, 42, 43, 44, 45, 46, 47] (by decide +kernel) (by decide +kernel)
set_option maxRecDepth 20000 in
theorem gX8_turn_X8_refuse : GoodIn wsX8_turn (wsV RX8 68 RX8 yX8_refuse wsX8_refuse) := goodIn_app (goodIn_of _ (by decide +kernel)) ggX8_turn_X8_refuse
set_option maxRecDepth 20000 in
theorem ggX8_turn_X2_turnAll : GoodIn wsX8_turn wsX2_turnAll := goodIn_r _ [15, 16, 17, 18, 19, 20, 21, 22, 23, 24, 25, 26, 27, 28, 29, 30, 31, 32, 33, 34, 35, 48, 49, 50, 51, 52, 53, 54, 55, 56, 57, 58, 59, 60, 61] (by decide +kernel) (by decide +kernel)
set_option maxRecDepth 20000 in
theorem gX8_turn_X2_turnAll : GoodIn wsX8_turn (wsV RX8 329 RX2 yX2_turnAll wsX2_turnAll) := goodIn_app (goodIn_of _ (by decide +kernel)) ggX8_turn_X2_turnAll
theorem dX8_turn_0 : decode cX8_turn 0 = .ok (.iload_n 1, 1) := by decide +kernel
theorem dX8_turn_1 : decode cX8_turn 1 = .ok (.invokestatic 294, 3) := by decide +kernel
theorem dX8_turn_4 : decode cX8_turn 4 = .ok (.ifCond .ne 10, 3) := by decide +kernel
theorem dX8_turn_7 : decode cX8_turn 7 = .ok (.aload_n 0, 1) := by decide +kernel
theorem dX8_turn_8 : decode cX8_turn 8 = .ok (.bipush (-2), 2) := by decide +kernel
theorem dX8_turn_10 : decode cX8_turn 10 = .ok (.invokevirtual 68, 3) := by decide +kernel
theorem dX8_turn_13 : decode cX8_turn 13 = .ok (.ireturn, 1) := by decide +kernel
theorem dX8_turn_14 : decode cX8_turn 14 = .ok (.aload_n 0, 1) := by decide +kernel
theorem dX8_turn_15 : decode cX8_turn 15 = .ok (.getfield 10, 3) := by decide +kernel
theorem dX8_turn_18 : decode cX8_turn 18 = .ok (.iload_n 1, 1) := by decide +kernel
theorem dX8_turn_19 : decode cX8_turn 19 = .ok (.invokevirtual 329, 3) := by decide +kernel
theorem dX8_turn_22 : decode cX8_turn 22 = .ok (.iconst 1, 1) := by decide +kernel
theorem dX8_turn_23 : decode cX8_turn 23 = .ok (.ireturn, 1) := by decide +kernel
set_option maxRecDepth 20000 in
theorem ggX8_thin_X8_isPiece : GoodIn wsX8_thin wsX8_isPiece := goodIn_r _ [8, 1, 9, 37, 38, 39, 40, 41, 42, 43, 44, 45, 46, 47, 48, 49, 50, 51, 52, 53, 54, 55, 56] (by decide +kernel) (by decide +kernel)
set_option maxRecDepth 20000 in
theorem gX8_thin_X8_isPiece : GoodIn wsX8_thin (wsV RX8 235 RX8 yX8_isPiece wsX8_isPiece) := goodIn_app (goodIn_of _ (by decide +kernel)) ggX8_thin_X8_isPiece
set_option maxRecDepth 20000 in
theorem ggX8_thin_X8_isAxis : GoodIn wsX8_thin wsX8_isAxis := goodIn_r _ [12] (by decide +kernel) (by decide +kernel)
set_option maxRecDepth 20000 in
theorem gX8_thin_X8_isAxis : GoodIn wsX8_thin (va_wsS RX8 294 yX8_isAxis wsX8_isAxis) := goodIn_app (goodIn_of _ (by decide +kernel)) ggX8_thin_X8_isAxis
set_option maxRecDepth 20000 in
theorem ggX8_thin_X8_refuse : GoodIn wsX8_thin wsX8_refuse := goodIn_r _ [16, 17, 37, 38, 39, 40, 41, 42, 43, 44, 45, 46, 47, 48] (by decide +kernel) (by decide +kernel)
set_option maxRecDepth 20000 in
theorem gX8_thin_X8_refuse : GoodIn wsX8_thin (wsV RX8 68 RX8 yX8_refuse wsX8_refuse) := goodIn_app (goodIn_of _ (by decide +kernel)) ggX8_thin_X8_refuse
set_option maxRecDepth 20000 in
theorem ggX8_thin_X0_thinnestRow : GoodIn wsX8_thin wsX0_thinnestRow := goodIn_r _ [22, 23, 24, 25, 26, 21, 27, 28, 29, 30, 31, 32, 33, 34, 35, 36, 57, 58, 59, 60, 61, 62] (by decide +kernel) (by decide +kernel)
set_option maxRecDepth 20000 in
theorem gX8_thin_X0_thinnestRow : GoodIn wsX8_thin (wsV RX8 332 RX0 yX0_thinnestRow wsX0_thinnestRow) := goodIn_app (goodIn_of _ (by decide +kernel)) ggX8_thin_X0_thinnestRow
theorem dX8_thin_0 : decode cX8_thin 0 = .ok (.aload_n 0, 1) := by decide +kernel
theorem dX8_thin_1 : decode cX8_thin 1 = .ok (.iload_n 1, 1) := by decide +kernel
theorem dX8_thin_2 : decode cX8_thin 2 = .ok (.invokevirtual 235, 3) := by decide +kernel
theorem dX8_thin_5 : decode cX8_thin 5 = .ok (.ifCond .eq 10, 3) := by decide +kernel
theorem dX8_thin_8 : decode cX8_thin 8 = .ok (.iload_n 2, 1) := by decide +kernel
theorem dX8_thin_9 : decode cX8_thin 9 = .ok (.invokestatic 294, 3) := by decide +kernel
theorem dX8_thin_12 : decode cX8_thin 12 = .ok (.ifCond .ne 10, 3) := by decide +kernel
theorem dX8_thin_15 : decode cX8_thin 15 = .ok (.aload_n 0, 1) := by decide +kernel
theorem dX8_thin_16 : decode cX8_thin 16 = .ok (.bipush (-2), 2) := by decide +kernel
theorem dX8_thin_18 : decode cX8_thin 18 = .ok (.invokevirtual 68, 3) := by decide +kernel
theorem dX8_thin_21 : decode cX8_thin 21 = .ok (.ireturn, 1) := by decide +kernel
theorem dX8_thin_22 : decode cX8_thin 22 = .ok (.aload_n 0, 1) := by decide +kernel
theorem dX8_thin_23 : decode cX8_thin 23 = .ok (.getfield 10, 3) := by decide +kernel
theorem dX8_thin_26 : decode cX8_thin 26 = .ok (.getfield 148, 3) := by decide +kernel
theorem dX8_thin_29 : decode cX8_thin 29 = .ok (.aload_n 0, 1) := by decide +kernel
theorem dX8_thin_30 : decode cX8_thin 30 = .ok (.getfield 10, 3) := by decide +kernel
theorem dX8_thin_33 : decode cX8_thin 33 = .ok (.getfield 189, 3) := by decide +kernel
theorem dX8_thin_36 : decode cX8_thin 36 = .ok (.iload_n 1, 1) := by decide +kernel
theorem dX8_thin_37 : decode cX8_thin 37 = .ok (.laload, 1) := by decide +kernel
theorem dX8_thin_38 : decode cX8_thin 38 = .ok (.iload_n 2, 1) := by decide +kernel
theorem dX8_thin_39 : decode cX8_thin 39 = .ok (.invokevirtual 332, 3) := by decide +kernel
theorem dX8_thin_42 : decode cX8_thin 42 = .ok (.ireturn, 1) := by decide +kernel
set_option maxRecDepth 20000 in
theorem ggX8_spare_X8_isPiece : GoodIn wsX8_spare wsX8_isPiece := goodIn_r _ [6, 1, 7, 40, 41, 42, 43, 44, 45, 46, 47, 48, 49, 50, 51, 52, 53, 54, 55, 56, 57, 58, 59] (by decide +kernel) (by decide +kernel)
set_option maxRecDepth 20000 in
theorem gX8_spare_X8_isPiece : GoodIn wsX8_spare (wsV RX8 235 RX8 yX8_isPiece wsX8_isPiece) := goodIn_app (goodIn_of _ (by decide +kernel)) ggX8_spare_X8_isPiece
set_option maxRecDepth 20000 in
theorem ggX8_spare_X2_spareBeside : GoodIn wsX8_spare wsX2_spareBeside := goodIn_r _ [12, 13, 14, 15, 16, 17, 18, 19, 20, 21, 22, 23, 24, 25, 26, 27, 28, 29, 30, 31, 11, 32, 33, 34, 35, 36, 37, 38, 39, 52, 53, 54, 55, 56, 57, 58, 59, 60, 61, 62, 63, 64, 65] (by decide +kernel) (by decide +kernel)
set_option maxRecDepth 20000 in
theorem gX8_spare_X2_spareBeside : GoodIn wsX8_spare (wsV RX8 336 RX2 yX2_spareBeside wsX2_spareBeside) := goodIn_app (goodIn_of _ (by decide +kernel)) ggX8_spare_X2_spareBeside
theorem dX8_spare_0 : decode cX8_spare 0 = .ok (.aload_n 0, 1) := by decide +kernel
theorem dX8_spare_1 : decode cX8_spare 1 = .ok (.iload_n 1, 1) := by decide +kernel
theorem dX8_spare_2 : decode cX8_spare 2 = .ok (.invokevirtual 235, 3) := by decide +kernel
theorem dX8_spare_5 : decode cX8_spare 5 = .ok (.ifCond .eq 14, 3) := by decide +kernel
theorem dX8_spare_8 : decode cX8_spare 8 = .ok (.aload_n 0, 1) := by decide +kernel
theorem dX8_spare_9 : decode cX8_spare 9 = .ok (.getfield 10, 3) := by decide +kernel
theorem dX8_spare_12 : decode cX8_spare 12 = .ok (.iload_n 1, 1) := by decide +kernel
theorem dX8_spare_13 : decode cX8_spare 13 = .ok (.invokevirtual 336, 3) := by decide +kernel
theorem dX8_spare_16 : decode cX8_spare 16 = .ok (.goto 4, 3) := by decide +kernel
theorem dX8_spare_19 : decode cX8_spare 19 = .ok (.lconst 0, 1) := by decide +kernel
theorem dX8_spare_20 : decode cX8_spare 20 = .ok (.lreturn, 1) := by decide +kernel
set_option maxRecDepth 20000 in
theorem ggX8_grow_X8_onPieceRefusal : GoodIn wsX8_grow wsX8_onPieceRefusal := goodIn_r _ [7, 1, 8, 9, 10, 6, 11, 12, 13, 14, 15, 16, 17, 18, 61, 62, 63, 64, 65, 66, 67, 68, 69, 70, 71, 72, 73, 74, 75, 76, 77, 78, 79, 80] (by decide +kernel) (by decide +kernel)
set_option maxRecDepth 20000 in
theorem gX8_grow_X8_onPieceRefusal : GoodIn wsX8_grow (wsV RX8 186 RX8 yX8_onPieceRefusal wsX8_onPieceRefusal) := goodIn_app (goodIn_of _ (by decide +kernel)) ggX8_grow_X8_onPieceRefusal
set_option maxRecDepth 20000 in
theorem ggX8_grow_X8_refuse : GoodIn wsX8_grow wsX8_refuse := goodIn_r _ [22, 23, 61, 62, 63, 64, 65, 66, 67, 68, 69, 70, 71, 72] (by decide +kernel) (by decide +kernel)
set_option maxRecDepth 20000 in
theorem gX8_grow_X8_refuse : GoodIn wsX8_grow (wsV RX8 68 RX8 yX8_refuse wsX8_refuse) := goodIn_app (goodIn_of _ (by decide +kernel)) ggX8_grow_X8_refuse
set_option maxRecDepth 20000 in
theorem ggX8_grow_X2_spareBeside : GoodIn wsX8_grow wsX2_spareBeside := goodIn_r _ [27, 28, 29, 18, 30, 31, 32, 33, 34, 35, 36, 37, 38, 39, 40, 41, 42, 43, 44, 45, 16, 46, 47, 48, 49, 50, 51, 52, 53, 73, 74, 75, 76, 77, 78, 79, 80, 81, 82, 83, 84, 85, 86] (by decide +kernel) (by decide +kernel)
set_option maxRecDepth 20000 in
theorem gX8_grow_X2_spareBeside : GoodIn wsX8_grow (wsV RX8 336 RX2 yX2_spareBeside wsX2_spareBeside) := goodIn_app (goodIn_of _ (by decide +kernel)) ggX8_grow_X2_spareBeside
set_option maxRecDepth 20000 in
theorem ggX8_grow_J13_bitCount_95d88 : GoodIn wsX8_grow wsJ13_bitCount_95d88 := goodIn_r _ [57, 58, 59, 60] (by decide +kernel) (by decide +kernel)
set_option maxRecDepth 20000 in
theorem gX8_grow_J13_bitCount_95d88 : GoodIn wsX8_grow (va_wsS RX8 170 yJ13_bitCount_95d88 wsJ13_bitCount_95d88) := goodIn_app (goodIn_of _ (by decide +kernel)) ggX8_grow_J13_bitCount_95d88
theorem dX8_grow_0 : decode cX8_grow 0 = .ok (.aload_n 0, 1) := by decide +kernel
theorem dX8_grow_1 : decode cX8_grow 1 = .ok (.iload_n 1, 1) := by decide +kernel
theorem dX8_grow_2 : decode cX8_grow 2 = .ok (.invokevirtual 186, 3) := by decide +kernel
theorem dX8_grow_5 : decode cX8_grow 5 = .ok (.istore_n 2, 1) := by decide +kernel
theorem dX8_grow_6 : decode cX8_grow 6 = .ok (.iload_n 2, 1) := by decide +kernel
theorem dX8_grow_7 : decode cX8_grow 7 = .ok (.ifCond .eq 9, 3) := by decide +kernel
theorem dX8_grow_10 : decode cX8_grow 10 = .ok (.aload_n 0, 1) := by decide +kernel
theorem dX8_grow_11 : decode cX8_grow 11 = .ok (.iload_n 2, 1) := by decide +kernel
theorem dX8_grow_12 : decode cX8_grow 12 = .ok (.invokevirtual 68, 3) := by decide +kernel
theorem dX8_grow_15 : decode cX8_grow 15 = .ok (.ireturn, 1) := by decide +kernel
theorem dX8_grow_16 : decode cX8_grow 16 = .ok (.aload_n 0, 1) := by decide +kernel
theorem dX8_grow_17 : decode cX8_grow 17 = .ok (.getfield 10, 3) := by decide +kernel
theorem dX8_grow_20 : decode cX8_grow 20 = .ok (.iload_n 1, 1) := by decide +kernel
theorem dX8_grow_21 : decode cX8_grow 21 = .ok (.invokevirtual 336, 3) := by decide +kernel
theorem dX8_grow_24 : decode cX8_grow 24 = .ok (.lstore_n 3, 1) := by decide +kernel
theorem dX8_grow_25 : decode cX8_grow 25 = .ok (.aload_n 0, 1) := by decide +kernel
theorem dX8_grow_26 : decode cX8_grow 26 = .ok (.getfield 10, 3) := by decide +kernel
theorem dX8_grow_29 : decode cX8_grow 29 = .ok (.getfield 189, 3) := by decide +kernel
theorem dX8_grow_32 : decode cX8_grow 32 = .ok (.iload_n 1, 1) := by decide +kernel
theorem dX8_grow_33 : decode cX8_grow 33 = .ok (.dup2, 1) := by decide +kernel
theorem dX8_grow_34 : decode cX8_grow 34 = .ok (.laload, 1) := by decide +kernel
theorem dX8_grow_35 : decode cX8_grow 35 = .ok (.lload_n 3, 1) := by decide +kernel
theorem dX8_grow_36 : decode cX8_grow 36 = .ok (.lor, 1) := by decide +kernel
theorem dX8_grow_37 : decode cX8_grow 37 = .ok (.lastore, 1) := by decide +kernel
theorem dX8_grow_38 : decode cX8_grow 38 = .ok (.lload_n 3, 1) := by decide +kernel
theorem dX8_grow_39 : decode cX8_grow 39 = .ok (.invokestatic 170, 3) := by decide +kernel
theorem dX8_grow_42 : decode cX8_grow 42 = .ok (.ireturn, 1) := by decide +kernel
set_option maxRecDepth 20000 in
theorem ggX8_faces_X8_isPiece : GoodIn wsX8_faces wsX8_isPiece := goodIn_r _ [6, 1, 7, 36, 37, 38, 39, 40, 41, 42, 43, 44, 45, 46, 47, 48, 49, 50, 51, 52, 53, 54, 55] (by decide +kernel) (by decide +kernel)
set_option maxRecDepth 20000 in
theorem gX8_faces_X8_isPiece : GoodIn wsX8_faces (wsV RX8 235 RX8 yX8_isPiece wsX8_isPiece) := goodIn_app (goodIn_of _ (by decide +kernel)) ggX8_faces_X8_isPiece
set_option maxRecDepth 20000 in
theorem ggX8_faces_X2_countFaces : GoodIn wsX8_faces wsX2_countFaces := goodIn_r _ [12, 13, 14, 15, 16, 17, 18, 19, 20, 21, 22, 23, 24, 25, 26, 27, 28, 29, 30, 48, 49, 50, 51, 52, 53, 54, 55, 56, 57, 58, 59, 60, 61] (by decide +kernel) (by decide +kernel)
set_option maxRecDepth 20000 in
theorem gX8_faces_X2_countFaces : GoodIn wsX8_faces (wsV RX8 339 RX2 yX2_countFaces wsX2_countFaces) := goodIn_app (goodIn_of _ (by decide +kernel)) ggX8_faces_X2_countFaces
set_option maxRecDepth 20000 in
theorem ggX8_faces_X8_refuse : GoodIn wsX8_faces wsX8_refuse := goodIn_r _ [34, 35, 36, 37, 38, 39, 40, 41, 42, 43, 44, 45, 46, 47] (by decide +kernel) (by decide +kernel)
set_option maxRecDepth 20000 in
theorem gX8_faces_X8_refuse : GoodIn wsX8_faces (wsV RX8 68 RX8 yX8_refuse wsX8_refuse) := goodIn_app (goodIn_of _ (by decide +kernel)) ggX8_faces_X8_refuse
theorem dX8_faces_0 : decode cX8_faces 0 = .ok (.aload_n 0, 1) := by decide +kernel
theorem dX8_faces_1 : decode cX8_faces 1 = .ok (.iload_n 1, 1) := by decide +kernel
theorem dX8_faces_2 : decode cX8_faces 2 = .ok (.invokevirtual 235, 3) := by decide +kernel
theorem dX8_faces_5 : decode cX8_faces 5 = .ok (.ifCond .eq 14, 3) := by decide +kernel
theorem dX8_faces_8 : decode cX8_faces 8 = .ok (.aload_n 0, 1) := by decide +kernel
theorem dX8_faces_9 : decode cX8_faces 9 = .ok (.getfield 10, 3) := by decide +kernel
theorem dX8_faces_12 : decode cX8_faces 12 = .ok (.iload_n 1, 1) := by decide +kernel
theorem dX8_faces_13 : decode cX8_faces 13 = .ok (.invokevirtual 339, 3) := by decide +kernel
theorem dX8_faces_16 : decode cX8_faces 16 = .ok (.goto 9, 3) := by decide +kernel
theorem dX8_faces_19 : decode cX8_faces 19 = .ok (.aload_n 0, 1) := by decide +kernel
theorem dX8_faces_20 : decode cX8_faces 20 = .ok (.bipush (-2), 2) := by decide +kernel
theorem dX8_faces_22 : decode cX8_faces 22 = .ok (.invokevirtual 68, 3) := by decide +kernel
theorem dX8_faces_25 : decode cX8_faces 25 = .ok (.ireturn, 1) := by decide +kernel
set_option maxRecDepth 20000 in
theorem ggX8_casts_X2_isOff : GoodIn wsX8_casts wsX2_isOff := goodIn_r _ [12, 13, 48, 49, 50, 51, 52, 53, 54, 55] (by decide +kernel) (by decide +kernel)
set_option maxRecDepth 20000 in
theorem gX8_casts_X2_isOff : GoodIn wsX8_casts (wsV RX8 261 RX2 yX2_isOff wsX2_isOff) := goodIn_app (goodIn_of _ (by decide +kernel)) ggX8_casts_X2_isOff
set_option maxRecDepth 20000 in
theorem ggX8_casts_X2_countFaces : GoodIn wsX8_casts wsX2_countFaces := goodIn_r _ [17, 18, 19, 20, 21, 22, 23, 24, 25, 26, 27, 28, 29, 30, 31, 32, 33, 34, 35, 48, 49, 50, 51, 52, 53, 54, 55, 56, 57, 58, 59, 60, 61] (by decide +kernel) (by decide +kernel)
set_option maxRecDepth 20000 in
theorem gX8_casts_X2_countFaces : GoodIn wsX8_casts (wsV RX8 339 RX2 yX2_countFaces wsX2_countFaces) := goodIn_app (goodIn_of _ (by decide +kernel)) ggX8_casts_X2_countFaces
theorem dX8_casts_0 : decode cX8_casts 0 = .ok (.iconst 0, 1) := by decide +kernel
theorem dX8_casts_1 : decode cX8_casts 1 = .ok (.istore_n 1, 1) := by decide +kernel
theorem dX8_casts_2 : decode cX8_casts 2 = .ok (.iconst 0, 1) := by decide +kernel
theorem dX8_casts_3 : decode cX8_casts 3 = .ok (.istore_n 2, 1) := by decide +kernel
theorem dX8_casts_4 : decode cX8_casts 4 = .ok (.iload_n 2, 1) := by decide +kernel
theorem dX8_casts_5 : decode cX8_casts 5 = .ok (.aload_n 0, 1) := by decide +kernel
theorem dX8_casts_6 : decode cX8_casts 6 = .ok (.getfield 10, 3) := by decide +kernel
theorem dX8_casts_9 : decode cX8_casts 9 = .ok (.getfield 179, 3) := by decide +kernel
theorem dX8_casts_12 : decode cX8_casts 12 = .ok (.if_icmp .ge 33, 3) := by decide +kernel
theorem dX8_casts_15 : decode cX8_casts 15 = .ok (.aload_n 0, 1) := by decide +kernel
theorem dX8_casts_16 : decode cX8_casts 16 = .ok (.getfield 10, 3) := by decide +kernel
theorem dX8_casts_19 : decode cX8_casts 19 = .ok (.iload_n 2, 1) := by decide +kernel
theorem dX8_casts_20 : decode cX8_casts 20 = .ok (.invokevirtual 261, 3) := by decide +kernel
theorem dX8_casts_23 : decode cX8_casts 23 = .ok (.ifCond .ne 16, 3) := by decide +kernel
theorem dX8_casts_26 : decode cX8_casts 26 = .ok (.iload_n 1, 1) := by decide +kernel
theorem dX8_casts_27 : decode cX8_casts 27 = .ok (.aload_n 0, 1) := by decide +kernel
theorem dX8_casts_28 : decode cX8_casts 28 = .ok (.getfield 10, 3) := by decide +kernel
theorem dX8_casts_31 : decode cX8_casts 31 = .ok (.iload_n 2, 1) := by decide +kernel
theorem dX8_casts_32 : decode cX8_casts 32 = .ok (.invokevirtual 339, 3) := by decide +kernel
theorem dX8_casts_35 : decode cX8_casts 35 = .ok (.invokestatic 342, 3) := by decide +kernel
theorem dX8_casts_38 : decode cX8_casts 38 = .ok (.istore_n 1, 1) := by decide +kernel
theorem dX8_casts_39 : decode cX8_casts 39 = .ok (.iinc 2 1, 3) := by decide +kernel
theorem dX8_casts_42 : decode cX8_casts 42 = .ok (.goto (-38), 3) := by decide +kernel
theorem dX8_casts_45 : decode cX8_casts 45 = .ok (.iload_n 1, 1) := by decide +kernel
theorem dX8_casts_46 : decode cX8_casts 46 = .ok (.ifCond .ne 9, 3) := by decide +kernel
theorem dX8_casts_49 : decode cX8_casts 49 = .ok (.sipush 999, 3) := by decide +kernel
theorem dX8_casts_52 : decode cX8_casts 52 = .ok (.goto 12, 3) := by decide +kernel
theorem dX8_casts_55 : decode cX8_casts 55 = .ok (.aload_n 0, 1) := by decide +kernel
theorem dX8_casts_56 : decode cX8_casts 56 = .ok (.getfield 10, 3) := by decide +kernel
theorem dX8_casts_59 : decode cX8_casts 59 = .ok (.getfield 347, 3) := by decide +kernel
theorem dX8_casts_62 : decode cX8_casts 62 = .ok (.iload_n 1, 1) := by decide +kernel
theorem dX8_casts_63 : decode cX8_casts 63 = .ok (.idiv, 1) := by decide +kernel
theorem dX8_casts_64 : decode cX8_casts 64 = .ok (.ireturn, 1) := by decide +kernel
set_option maxRecDepth 20000 in
theorem ggX8_step_X8_firstLoose : GoodIn wsX8_step wsX8_firstLoose := goodIn_r _ [7, 1, 8, 9, 10, 11, 6, 12, 13, 14, 15, 16, 17, 18, 19, 20, 21, 22, 23, 24, 25, 26, 27, 28, 29, 30, 31, 32, 33, 34, 35, 36, 37, 38, 39, 40, 41, 42, 43, 44, 45, 46, 47, 48, 49, 50, 51, 52, 53, 54, 55, 56, 57, 58, 59, 60, 61, 62, 63, 64, 65, 71, 72, 73, 74, 75, 76, 77, 78, 79, 80, 81, 82, 83, 84, 85, 86, 87, 88, 89, 90, 91, 92, 93, 94, 95, 96, 97, 98, 99, 100, 101, 102] (by decide +kernel) (by decide +kernel)
set_option maxRecDepth 20000 in
theorem gX8_step_X8_firstLoose : GoodIn wsX8_step (wsV RX8 350 RX8 yX8_firstLoose wsX8_firstLoose) := goodIn_app (goodIn_of _ (by decide +kernel)) ggX8_step_X8_firstLoose
set_option maxRecDepth 20000 in
theorem ggX8_step_X8_refuse : GoodIn wsX8_step wsX8_refuse := goodIn_r _ [69, 70, 71, 72, 73, 74, 75, 76, 77, 78, 79, 80, 81, 82] (by decide +kernel) (by decide +kernel)
set_option maxRecDepth 20000 in
theorem gX8_step_X8_refuse : GoodIn wsX8_step (wsV RX8 68 RX8 yX8_refuse wsX8_refuse) := goodIn_app (goodIn_of _ (by decide +kernel)) ggX8_step_X8_refuse
theorem dX8_step_0 : decode cX8_step 0 = .ok (.aload_n 0, 1) := by decide +kernel
theorem dX8_step_1 : decode cX8_step 1 = .ok (.aload_n 0, 1) := by decide +kernel
theorem dX8_step_2 : decode cX8_step 2 = .ok (.getfield 10, 3) := by decide +kernel
theorem dX8_step_5 : decode cX8_step 5 = .ok (.getfield 228, 3) := by decide +kernel
theorem dX8_step_8 : decode cX8_step 8 = .ok (.invokevirtual 350, 3) := by decide +kernel
theorem dX8_step_11 : decode cX8_step 11 = .ok (.istore_n 1, 1) := by decide +kernel
theorem dX8_step_12 : decode cX8_step 12 = .ok (.iload_n 1, 1) := by decide +kernel
theorem dX8_step_13 : decode cX8_step 13 = .ok (.iconst (-1), 1) := by decide +kernel
theorem dX8_step_14 : decode cX8_step 14 = .ok (.if_icmp .ne 10, 3) := by decide +kernel
theorem dX8_step_17 : decode cX8_step 17 = .ok (.aload_n 0, 1) := by decide +kernel
theorem dX8_step_18 : decode cX8_step 18 = .ok (.bipush (-5), 2) := by decide +kernel
theorem dX8_step_20 : decode cX8_step 20 = .ok (.invokevirtual 68, 3) := by decide +kernel
theorem dX8_step_23 : decode cX8_step 23 = .ok (.ireturn, 1) := by decide +kernel
theorem dX8_step_24 : decode cX8_step 24 = .ok (.aload_n 0, 1) := by decide +kernel
theorem dX8_step_25 : decode cX8_step 25 = .ok (.getfield 10, 3) := by decide +kernel
theorem dX8_step_28 : decode cX8_step 28 = .ok (.dup, 1) := by decide +kernel
theorem dX8_step_29 : decode cX8_step 29 = .ok (.getfield 228, 3) := by decide +kernel
theorem dX8_step_32 : decode cX8_step 32 = .ok (.iconst 1, 1) := by decide +kernel
theorem dX8_step_33 : decode cX8_step 33 = .ok (.iload_n 1, 1) := by decide +kernel
theorem dX8_step_34 : decode cX8_step 34 = .ok (.ishl, 1) := by decide +kernel
theorem dX8_step_35 : decode cX8_step 35 = .ok (.ior, 1) := by decide +kernel
theorem dX8_step_36 : decode cX8_step 36 = .ok (.putfield 228, 3) := by decide +kernel
theorem dX8_step_39 : decode cX8_step 39 = .ok (.iload_n 1, 1) := by decide +kernel
theorem dX8_step_40 : decode cX8_step 40 = .ok (.ireturn, 1) := by decide +kernel
set_option maxRecDepth 20000 in
theorem ggX8_again_J6_bitCount_0f7a4 : GoodIn wsX8_again wsJ6_bitCount_0f7a4 := goodIn_r _ [6, 7, 8, 9] (by decide +kernel) (by decide +kernel)
set_option maxRecDepth 20000 in
theorem gX8_again_J6_bitCount_0f7a4 : GoodIn wsX8_again (va_wsS RX8 353 yJ6_bitCount_0f7a4 wsJ6_bitCount_0f7a4) := goodIn_app (goodIn_of _ (by decide +kernel)) ggX8_again_J6_bitCount_0f7a4
theorem dX8_again_0 : decode cX8_again 0 = .ok (.aload_n 0, 1) := by decide +kernel
theorem dX8_again_1 : decode cX8_again 1 = .ok (.getfield 10, 3) := by decide +kernel
theorem dX8_again_4 : decode cX8_again 4 = .ok (.getfield 228, 3) := by decide +kernel
theorem dX8_again_7 : decode cX8_again 7 = .ok (.invokestatic 353, 3) := by decide +kernel
theorem dX8_again_10 : decode cX8_again 10 = .ok (.istore_n 1, 1) := by decide +kernel
theorem dX8_again_11 : decode cX8_again 11 = .ok (.aload_n 0, 1) := by decide +kernel
theorem dX8_again_12 : decode cX8_again 12 = .ok (.getfield 10, 3) := by decide +kernel
theorem dX8_again_15 : decode cX8_again 15 = .ok (.iconst 0, 1) := by decide +kernel
theorem dX8_again_16 : decode cX8_again 16 = .ok (.putfield 228, 3) := by decide +kernel
theorem dX8_again_19 : decode cX8_again 19 = .ok (.iload_n 1, 1) := by decide +kernel
theorem dX8_again_20 : decode cX8_again 20 = .ok (.ireturn, 1) := by decide +kernel
set_option maxRecDepth 20000 in
theorem ggX8_image_X2_takeFrom : GoodIn wsX8_image wsX2_takeFrom := goodIn_r _ [8, 9, 10, 11, 12, 13, 14, 15, 16, 17, 18, 19, 20, 21, 22, 23, 24, 25, 26, 27, 28, 29, 30, 31, 32, 33, 34, 35, 36, 37, 38, 39, 40, 41, 54, 55, 56, 57, 58, 59, 60, 61, 62, 63, 64, 65, 66, 67] (by decide +kernel) (by decide +kernel)
set_option maxRecDepth 20000 in
theorem gX8_image_X2_takeFrom : GoodIn wsX8_image (wsV RX8 208 RX2 yX2_takeFrom wsX2_takeFrom) := goodIn_app (goodIn_of _ (by decide +kernel)) ggX8_image_X2_takeFrom
theorem dX8_image_0 : decode cX8_image 0 = .ok (.aload_n 0, 1) := by decide +kernel
theorem dX8_image_1 : decode cX8_image 1 = .ok (.getfield 16, 3) := by decide +kernel
theorem dX8_image_4 : decode cX8_image 4 = .ok (.aload_n 0, 1) := by decide +kernel
theorem dX8_image_5 : decode cX8_image 5 = .ok (.getfield 10, 3) := by decide +kernel
theorem dX8_image_8 : decode cX8_image 8 = .ok (.invokevirtual 208, 3) := by decide +kernel
theorem dX8_image_11 : decode cX8_image 11 = .ok (.aload_n 0, 1) := by decide +kernel
theorem dX8_image_12 : decode cX8_image 12 = .ok (.iconst 1, 1) := by decide +kernel
theorem dX8_image_13 : decode cX8_image 13 = .ok (.putfield 22, 3) := by decide +kernel
theorem dX8_image_16 : decode cX8_image 16 = .ok (.iconst 1, 1) := by decide +kernel
theorem dX8_image_17 : decode cX8_image 17 = .ok (.ireturn, 1) := by decide +kernel
set_option maxRecDepth 20000 in
theorem ggX8_back_X8_refuse : GoodIn wsX8_back wsX8_refuse := goodIn_r _ [8, 9, 48, 49, 50, 51, 52, 53, 54, 55, 56, 57, 58, 59] (by decide +kernel) (by decide +kernel)
set_option maxRecDepth 20000 in
theorem gX8_back_X8_refuse : GoodIn wsX8_back (wsV RX8 68 RX8 yX8_refuse wsX8_refuse) := goodIn_app (goodIn_of _ (by decide +kernel)) ggX8_back_X8_refuse
set_option maxRecDepth 20000 in
theorem ggX8_back_X2_takeFrom : GoodIn wsX8_back wsX2_takeFrom := goodIn_r _ [14, 15, 16, 17, 18, 19, 20, 21, 22, 23, 24, 25, 26, 27, 28, 29, 30, 31, 32, 33, 34, 35, 36, 37, 38, 39, 40, 41, 42, 43, 44, 45, 46, 47, 60, 61, 62, 63, 64, 65, 66, 67, 68, 69, 70, 71, 72, 73] (by decide +kernel) (by decide +kernel)
set_option maxRecDepth 20000 in
theorem gX8_back_X2_takeFrom : GoodIn wsX8_back (wsV RX8 208 RX2 yX2_takeFrom wsX2_takeFrom) := goodIn_app (goodIn_of _ (by decide +kernel)) ggX8_back_X2_takeFrom
theorem dX8_back_0 : decode cX8_back 0 = .ok (.aload_n 0, 1) := by decide +kernel
theorem dX8_back_1 : decode cX8_back 1 = .ok (.getfield 22, 3) := by decide +kernel
theorem dX8_back_4 : decode cX8_back 4 = .ok (.ifCond .ne 10, 3) := by decide +kernel
theorem dX8_back_7 : decode cX8_back 7 = .ok (.aload_n 0, 1) := by decide +kernel
theorem dX8_back_8 : decode cX8_back 8 = .ok (.bipush (-5), 2) := by decide +kernel
theorem dX8_back_10 : decode cX8_back 10 = .ok (.invokevirtual 68, 3) := by decide +kernel
theorem dX8_back_13 : decode cX8_back 13 = .ok (.ireturn, 1) := by decide +kernel
theorem dX8_back_14 : decode cX8_back 14 = .ok (.aload_n 0, 1) := by decide +kernel
theorem dX8_back_15 : decode cX8_back 15 = .ok (.getfield 10, 3) := by decide +kernel
theorem dX8_back_18 : decode cX8_back 18 = .ok (.aload_n 0, 1) := by decide +kernel
theorem dX8_back_19 : decode cX8_back 19 = .ok (.getfield 16, 3) := by decide +kernel
theorem dX8_back_22 : decode cX8_back 22 = .ok (.invokevirtual 208, 3) := by decide +kernel
theorem dX8_back_25 : decode cX8_back 25 = .ok (.iconst 1, 1) := by decide +kernel
theorem dX8_back_26 : decode cX8_back 26 = .ok (.ireturn, 1) := by decide +kernel
set_option maxRecDepth 20000 in
theorem ggX8_status_J13_bitCount_95d88 : GoodIn wsX8_status wsJ13_bitCount_95d88 := goodIn_r _ [15, 16, 17, 18] (by decide +kernel) (by decide +kernel)
set_option maxRecDepth 20000 in
theorem gX8_status_J13_bitCount_95d88 : GoodIn wsX8_status (va_wsS RX8 170 yJ13_bitCount_95d88 wsJ13_bitCount_95d88) := goodIn_app (goodIn_of _ (by decide +kernel)) ggX8_status_J13_bitCount_95d88
set_option maxRecDepth 20000 in
theorem ggX8_status_J6_bitCount_0f7a4 : GoodIn wsX8_status wsJ6_bitCount_0f7a4 := goodIn_r _ [22, 23, 24, 25] (by decide +kernel) (by decide +kernel)
set_option maxRecDepth 20000 in
theorem gX8_status_J6_bitCount_0f7a4 : GoodIn wsX8_status (va_wsS RX8 353 yJ6_bitCount_0f7a4 wsJ6_bitCount_0f7a4) := goodIn_app (goodIn_of _ (by decide +kernel)) ggX8_status_J6_bitCount_0f7a4
set_option maxRecDepth 20000 in
theorem ggX8_status_X8_countHeld : GoodIn wsX8_status wsX8_countHeld := goodIn_r _ [30, 31, 32, 33, 34, 35, 36, 37, 38, 39, 40, 41, 42, 43, 44, 64, 65, 66] (by decide +kernel) (by decide +kernel)
set_option maxRecDepth 20000 in
theorem gX8_status_X8_countHeld : GoodIn wsX8_status (wsV RX8 360 RX8 yX8_countHeld wsX8_countHeld) := goodIn_app (goodIn_of _ (by decide +kernel)) ggX8_status_X8_countHeld
theorem dX8_status_0 : decode cX8_status 0 = .ok (.iload_n 1, 1) := by decide +kernel
theorem dX8_status_1 : decode cX8_status 1 = .ok (.tableswitch 117 0 7 #[47, 58, 69, 77, 88, 96, 104, 112], 47) := by decide +kernel
theorem dX8_status_48 : decode cX8_status 48 = .ok (.aload_n 0, 1) := by decide +kernel
theorem dX8_status_49 : decode cX8_status 49 = .ok (.getfield 10, 3) := by decide +kernel
theorem dX8_status_52 : decode cX8_status 52 = .ok (.getfield 148, 3) := by decide +kernel
theorem dX8_status_55 : decode cX8_status 55 = .ok (.getfield 152, 3) := by decide +kernel
theorem dX8_status_58 : decode cX8_status 58 = .ok (.ireturn, 1) := by decide +kernel
theorem dX8_status_59 : decode cX8_status 59 = .ok (.aload_n 0, 1) := by decide +kernel
theorem dX8_status_60 : decode cX8_status 60 = .ok (.getfield 10, 3) := by decide +kernel
theorem dX8_status_63 : decode cX8_status 63 = .ok (.getfield 161, 3) := by decide +kernel
theorem dX8_status_66 : decode cX8_status 66 = .ok (.invokestatic 170, 3) := by decide +kernel
theorem dX8_status_69 : decode cX8_status 69 = .ok (.ireturn, 1) := by decide +kernel
theorem dX8_status_70 : decode cX8_status 70 = .ok (.aload_n 0, 1) := by decide +kernel
theorem dX8_status_71 : decode cX8_status 71 = .ok (.getfield 10, 3) := by decide +kernel
theorem dX8_status_74 : decode cX8_status 74 = .ok (.getfield 179, 3) := by decide +kernel
theorem dX8_status_77 : decode cX8_status 77 = .ok (.ireturn, 1) := by decide +kernel
theorem dX8_status_78 : decode cX8_status 78 = .ok (.aload_n 0, 1) := by decide +kernel
theorem dX8_status_79 : decode cX8_status 79 = .ok (.getfield 10, 3) := by decide +kernel
theorem dX8_status_82 : decode cX8_status 82 = .ok (.getfield 228, 3) := by decide +kernel
theorem dX8_status_85 : decode cX8_status 85 = .ok (.invokestatic 353, 3) := by decide +kernel
theorem dX8_status_88 : decode cX8_status 88 = .ok (.ireturn, 1) := by decide +kernel
theorem dX8_status_89 : decode cX8_status 89 = .ok (.aload_n 0, 1) := by decide +kernel
theorem dX8_status_90 : decode cX8_status 90 = .ok (.getfield 10, 3) := by decide +kernel
theorem dX8_status_93 : decode cX8_status 93 = .ok (.getfield 357, 3) := by decide +kernel
theorem dX8_status_96 : decode cX8_status 96 = .ok (.ireturn, 1) := by decide +kernel
theorem dX8_status_97 : decode cX8_status 97 = .ok (.aload_n 0, 1) := by decide +kernel
theorem dX8_status_98 : decode cX8_status 98 = .ok (.getfield 10, 3) := by decide +kernel
theorem dX8_status_101 : decode cX8_status 101 = .ok (.getfield 347, 3) := by decide +kernel
theorem dX8_status_104 : decode cX8_status 104 = .ok (.ireturn, 1) := by decide +kernel
theorem dX8_status_105 : decode cX8_status 105 = .ok (.aload_n 0, 1) := by decide +kernel
theorem dX8_status_106 : decode cX8_status 106 = .ok (.getfield 35, 3) := by decide +kernel
theorem dX8_status_109 : decode cX8_status 109 = .ok (.getfield 202, 3) := by decide +kernel
theorem dX8_status_112 : decode cX8_status 112 = .ok (.ireturn, 1) := by decide +kernel
theorem dX8_status_113 : decode cX8_status 113 = .ok (.aload_n 0, 1) := by decide +kernel
theorem dX8_status_114 : decode cX8_status 114 = .ok (.invokevirtual 360, 3) := by decide +kernel
theorem dX8_status_117 : decode cX8_status 117 = .ok (.ireturn, 1) := by decide +kernel
theorem dX8_status_118 : decode cX8_status 118 = .ok (.iload_n 1, 1) := by decide +kernel
theorem dX8_status_119 : decode cX8_status 119 = .ok (.bipush 12, 2) := by decide +kernel
theorem dX8_status_121 : decode cX8_status 121 = .ok (.if_icmp .lt 21, 3) := by decide +kernel
theorem dX8_status_124 : decode cX8_status 124 = .ok (.iload_n 1, 1) := by decide +kernel
theorem dX8_status_125 : decode cX8_status 125 = .ok (.bipush 17, 2) := by decide +kernel
theorem dX8_status_127 : decode cX8_status 127 = .ok (.if_icmp .ge 15, 3) := by decide +kernel
theorem dX8_status_130 : decode cX8_status 130 = .ok (.aload_n 0, 1) := by decide +kernel
theorem dX8_status_131 : decode cX8_status 131 = .ok (.getfield 46, 3) := by decide +kernel
theorem dX8_status_134 : decode cX8_status 134 = .ok (.iload_n 1, 1) := by decide +kernel
theorem dX8_status_135 : decode cX8_status 135 = .ok (.bipush 12, 2) := by decide +kernel
theorem dX8_status_137 : decode cX8_status 137 = .ok (.isub, 1) := by decide +kernel
theorem dX8_status_138 : decode cX8_status 138 = .ok (.iaload, 1) := by decide +kernel
theorem dX8_status_139 : decode cX8_status 139 = .ok (.goto 4, 3) := by decide +kernel
theorem dX8_status_142 : decode cX8_status 142 = .ok (.iconst (-1), 1) := by decide +kernel
theorem dX8_status_143 : decode cX8_status 143 = .ok (.ireturn, 1) := by decide +kernel
theorem dX8_refuse_0 : decode cX8_refuse 0 = .ok (.bipush (-2), 2) := by decide +kernel
theorem dX8_refuse_2 : decode cX8_refuse 2 = .ok (.iload_n 1, 1) := by decide +kernel
theorem dX8_refuse_3 : decode cX8_refuse 3 = .ok (.isub, 1) := by decide +kernel
theorem dX8_refuse_4 : decode cX8_refuse 4 = .ok (.istore_n 2, 1) := by decide +kernel
theorem dX8_refuse_5 : decode cX8_refuse 5 = .ok (.iload_n 2, 1) := by decide +kernel
theorem dX8_refuse_6 : decode cX8_refuse 6 = .ok (.ifCond .lt 18, 3) := by decide +kernel
theorem dX8_refuse_9 : decode cX8_refuse 9 = .ok (.iload_n 2, 1) := by decide +kernel
theorem dX8_refuse_10 : decode cX8_refuse 10 = .ok (.iconst 5, 1) := by decide +kernel
theorem dX8_refuse_11 : decode cX8_refuse 11 = .ok (.if_icmp .ge 13, 3) := by decide +kernel
theorem dX8_refuse_14 : decode cX8_refuse 14 = .ok (.aload_n 0, 1) := by decide +kernel
theorem dX8_refuse_15 : decode cX8_refuse 15 = .ok (.getfield 46, 3) := by decide +kernel
theorem dX8_refuse_18 : decode cX8_refuse 18 = .ok (.iload_n 2, 1) := by decide +kernel
theorem dX8_refuse_19 : decode cX8_refuse 19 = .ok (.dup2, 1) := by decide +kernel
theorem dX8_refuse_20 : decode cX8_refuse 20 = .ok (.iaload, 1) := by decide +kernel
theorem dX8_refuse_21 : decode cX8_refuse 21 = .ok (.iconst 1, 1) := by decide +kernel
theorem dX8_refuse_22 : decode cX8_refuse 22 = .ok (.iadd, 1) := by decide +kernel
theorem dX8_refuse_23 : decode cX8_refuse 23 = .ok (.iastore, 1) := by decide +kernel
theorem dX8_refuse_24 : decode cX8_refuse 24 = .ok (.iload_n 1, 1) := by decide +kernel
theorem dX8_refuse_25 : decode cX8_refuse 25 = .ok (.ireturn, 1) := by decide +kernel
theorem dX8_isShelf_0 : decode cX8_isShelf 0 = .ok (.iload_n 0, 1) := by decide +kernel
theorem dX8_isShelf_1 : decode cX8_isShelf 1 = .ok (.ifCond .lt 13, 3) := by decide +kernel
theorem dX8_isShelf_4 : decode cX8_isShelf 4 = .ok (.iload_n 0, 1) := by decide +kernel
theorem dX8_isShelf_5 : decode cX8_isShelf 5 = .ok (.bipush 8, 2) := by decide +kernel
theorem dX8_isShelf_7 : decode cX8_isShelf 7 = .ok (.if_icmp .ge 7, 3) := by decide +kernel
theorem dX8_isShelf_10 : decode cX8_isShelf 10 = .ok (.iconst 1, 1) := by decide +kernel
theorem dX8_isShelf_11 : decode cX8_isShelf 11 = .ok (.goto 4, 3) := by decide +kernel
theorem dX8_isShelf_14 : decode cX8_isShelf 14 = .ok (.iconst 0, 1) := by decide +kernel
theorem dX8_isShelf_15 : decode cX8_isShelf 15 = .ok (.ireturn, 1) := by decide +kernel
theorem dX8_isWay_0 : decode cX8_isWay 0 = .ok (.iload_n 0, 1) := by decide +kernel
theorem dX8_isWay_1 : decode cX8_isWay 1 = .ok (.ifCond .lt 13, 3) := by decide +kernel
theorem dX8_isWay_4 : decode cX8_isWay 4 = .ok (.iload_n 0, 1) := by decide +kernel
theorem dX8_isWay_5 : decode cX8_isWay 5 = .ok (.bipush 6, 2) := by decide +kernel
theorem dX8_isWay_7 : decode cX8_isWay 7 = .ok (.if_icmp .ge 7, 3) := by decide +kernel
theorem dX8_isWay_10 : decode cX8_isWay 10 = .ok (.iconst 1, 1) := by decide +kernel
theorem dX8_isWay_11 : decode cX8_isWay 11 = .ok (.goto 4, 3) := by decide +kernel
theorem dX8_isWay_14 : decode cX8_isWay 14 = .ok (.iconst 0, 1) := by decide +kernel
theorem dX8_isWay_15 : decode cX8_isWay 15 = .ok (.ireturn, 1) := by decide +kernel
theorem dX8_isWaySet_0 : decode cX8_isWaySet 0 = .ok (.iload_n 0, 1) := by decide +kernel
theorem dX8_isWaySet_1 : decode cX8_isWaySet 1 = .ok (.ifCond .lt 13, 3) := by decide +kernel
theorem dX8_isWaySet_4 : decode cX8_isWaySet 4 = .ok (.iload_n 0, 1) := by decide +kernel
theorem dX8_isWaySet_5 : decode cX8_isWaySet 5 = .ok (.bipush 64, 2) := by decide +kernel
theorem dX8_isWaySet_7 : decode cX8_isWaySet 7 = .ok (.if_icmp .ge 7, 3) := by decide +kernel
theorem dX8_isWaySet_10 : decode cX8_isWaySet 10 = .ok (.iconst 1, 1) := by decide +kernel
theorem dX8_isWaySet_11 : decode cX8_isWaySet 11 = .ok (.goto 4, 3) := by decide +kernel
theorem dX8_isWaySet_14 : decode cX8_isWaySet 14 = .ok (.iconst 0, 1) := by decide +kernel
theorem dX8_isWaySet_15 : decode cX8_isWaySet 15 = .ok (.ireturn, 1) := by decide +kernel
theorem dX8_isAxis_0 : decode cX8_isAxis 0 = .ok (.iload_n 0, 1) := by decide +kernel
theorem dX8_isAxis_1 : decode cX8_isAxis 1 = .ok (.ifCond .lt 12, 3) := by decide +kernel
theorem dX8_isAxis_4 : decode cX8_isAxis 4 = .ok (.iload_n 0, 1) := by decide +kernel
theorem dX8_isAxis_5 : decode cX8_isAxis 5 = .ok (.iconst 3, 1) := by decide +kernel
theorem dX8_isAxis_6 : decode cX8_isAxis 6 = .ok (.if_icmp .ge 7, 3) := by decide +kernel
theorem dX8_isAxis_9 : decode cX8_isAxis 9 = .ok (.iconst 1, 1) := by decide +kernel
theorem dX8_isAxis_10 : decode cX8_isAxis 10 = .ok (.goto 4, 3) := by decide +kernel
theorem dX8_isAxis_13 : decode cX8_isAxis 13 = .ok (.iconst 0, 1) := by decide +kernel
theorem dX8_isAxis_14 : decode cX8_isAxis 14 = .ok (.ireturn, 1) := by decide +kernel
theorem dX8_isPiece_0 : decode cX8_isPiece 0 = .ok (.iload_n 1, 1) := by decide +kernel
theorem dX8_isPiece_1 : decode cX8_isPiece 1 = .ok (.ifCond .lt 18, 3) := by decide +kernel
theorem dX8_isPiece_4 : decode cX8_isPiece 4 = .ok (.iload_n 1, 1) := by decide +kernel
theorem dX8_isPiece_5 : decode cX8_isPiece 5 = .ok (.aload_n 0, 1) := by decide +kernel
theorem dX8_isPiece_6 : decode cX8_isPiece 6 = .ok (.getfield 10, 3) := by decide +kernel
theorem dX8_isPiece_9 : decode cX8_isPiece 9 = .ok (.getfield 179, 3) := by decide +kernel
theorem dX8_isPiece_12 : decode cX8_isPiece 12 = .ok (.if_icmp .ge 7, 3) := by decide +kernel
theorem dX8_isPiece_15 : decode cX8_isPiece 15 = .ok (.iconst 1, 1) := by decide +kernel
theorem dX8_isPiece_16 : decode cX8_isPiece 16 = .ok (.goto 4, 3) := by decide +kernel
theorem dX8_isPiece_19 : decode cX8_isPiece 19 = .ok (.iconst 0, 1) := by decide +kernel
theorem dX8_isPiece_20 : decode cX8_isPiece 20 = .ok (.ireturn, 1) := by decide +kernel
set_option maxRecDepth 20000 in
theorem ggX8_rowRefusal_X8_isShelf : GoodIn wsX8_rowRefusal wsX8_isShelf := goodIn_r _ [5] (by decide +kernel) (by decide +kernel)
set_option maxRecDepth 20000 in
theorem gX8_rowRefusal_X8_isShelf : GoodIn wsX8_rowRefusal (va_wsS RX8 64 yX8_isShelf wsX8_isShelf) := goodIn_app (goodIn_of _ (by decide +kernel)) ggX8_rowRefusal_X8_isShelf
set_option maxRecDepth 20000 in
theorem ggX8_rowRefusal_X6_isMove : GoodIn wsX8_rowRefusal wsX6_isMove := goodIn_r _ [10, 11, 28, 29, 30] (by decide +kernel) (by decide +kernel)
set_option maxRecDepth 20000 in
theorem gX8_rowRefusal_X6_isMove : GoodIn wsX8_rowRefusal (wsV RX8 99 RX6 yX6_isMove wsX6_isMove) := goodIn_app (goodIn_of _ (by decide +kernel)) ggX8_rowRefusal_X6_isMove
set_option maxRecDepth 20000 in
theorem ggX8_rowRefusal_X6_isRow : GoodIn wsX8_rowRefusal wsX6_isRow := goodIn_r _ [15, 11, 28, 29, 30] (by decide +kernel) (by decide +kernel)
set_option maxRecDepth 20000 in
theorem gX8_rowRefusal_X6_isRow : GoodIn wsX8_rowRefusal (wsV RX8 103 RX6 yX6_isRow wsX6_isRow) := goodIn_app (goodIn_of _ (by decide +kernel)) ggX8_rowRefusal_X6_isRow
theorem dX8_rowRefusal_0 : decode cX8_rowRefusal 0 = .ok (.iload_n 1, 1) := by decide +kernel
theorem dX8_rowRefusal_1 : decode cX8_rowRefusal 1 = .ok (.invokestatic 64, 3) := by decide +kernel
theorem dX8_rowRefusal_4 : decode cX8_rowRefusal 4 = .ok (.ifCond .ne 6, 3) := by decide +kernel
theorem dX8_rowRefusal_7 : decode cX8_rowRefusal 7 = .ok (.bipush (-2), 2) := by decide +kernel
theorem dX8_rowRefusal_9 : decode cX8_rowRefusal 9 = .ok (.ireturn, 1) := by decide +kernel
theorem dX8_rowRefusal_10 : decode cX8_rowRefusal 10 = .ok (.aload_n 0, 1) := by decide +kernel
theorem dX8_rowRefusal_11 : decode cX8_rowRefusal 11 = .ok (.getfield 28, 3) := by decide +kernel
theorem dX8_rowRefusal_14 : decode cX8_rowRefusal 14 = .ok (.iload_n 1, 1) := by decide +kernel
theorem dX8_rowRefusal_15 : decode cX8_rowRefusal 15 = .ok (.aaload, 1) := by decide +kernel
theorem dX8_rowRefusal_16 : decode cX8_rowRefusal 16 = .ok (.invokevirtual 99, 3) := by decide +kernel
theorem dX8_rowRefusal_19 : decode cX8_rowRefusal 19 = .ok (.ifCond .eq 6, 3) := by decide +kernel
theorem dX8_rowRefusal_22 : decode cX8_rowRefusal 22 = .ok (.bipush (-3), 2) := by decide +kernel
theorem dX8_rowRefusal_24 : decode cX8_rowRefusal 24 = .ok (.ireturn, 1) := by decide +kernel
