theorem dX8_rowRefusal_25 : decode cX8_rowRefusal 25 = .ok (.aload_n 0, 1) := by decide +kernel
theorem dX8_rowRefusal_26 : decode cX8_rowRefusal 26 = .ok (.getfield 28, 3) := by decide +kernel
theorem dX8_rowRefusal_29 : decode cX8_rowRefusal 29 = .ok (.iload_n 1, 1) := by decide +kernel
theorem dX8_rowRefusal_30 : decode cX8_rowRefusal 30 = .ok (.aaload, 1) := by decide +kernel
theorem dX8_rowRefusal_31 : decode cX8_rowRefusal 31 = .ok (.invokevirtual 103, 3) := by decide +kernel
theorem dX8_rowRefusal_34 : decode cX8_rowRefusal 34 = .ok (.ifCond .eq 7, 3) := by decide +kernel
theorem dX8_rowRefusal_37 : decode cX8_rowRefusal 37 = .ok (.iconst 0, 1) := by decide +kernel
theorem dX8_rowRefusal_38 : decode cX8_rowRefusal 38 = .ok (.goto 5, 3) := by decide +kernel
theorem dX8_rowRefusal_41 : decode cX8_rowRefusal 41 = .ok (.bipush (-4), 2) := by decide +kernel
theorem dX8_rowRefusal_43 : decode cX8_rowRefusal 43 = .ok (.ireturn, 1) := by decide +kernel
set_option maxRecDepth 20000 in
theorem ggX8_moveRefusal_X8_isShelf : GoodIn wsX8_moveRefusal wsX8_isShelf := goodIn_r _ [5] (by decide +kernel) (by decide +kernel)
set_option maxRecDepth 20000 in
theorem gX8_moveRefusal_X8_isShelf : GoodIn wsX8_moveRefusal (va_wsS RX8 64 yX8_isShelf wsX8_isShelf) := goodIn_app (goodIn_of _ (by decide +kernel)) ggX8_moveRefusal_X8_isShelf
set_option maxRecDepth 20000 in
theorem ggX8_moveRefusal_X6_isRow : GoodIn wsX8_moveRefusal wsX6_isRow := goodIn_r _ [10, 11, 28, 29, 30] (by decide +kernel) (by decide +kernel)
set_option maxRecDepth 20000 in
theorem gX8_moveRefusal_X6_isRow : GoodIn wsX8_moveRefusal (wsV RX8 103 RX6 yX6_isRow wsX6_isRow) := goodIn_app (goodIn_of _ (by decide +kernel)) ggX8_moveRefusal_X6_isRow
set_option maxRecDepth 20000 in
theorem ggX8_moveRefusal_X6_isMove : GoodIn wsX8_moveRefusal wsX6_isMove := goodIn_r _ [15, 11, 28, 29, 30] (by decide +kernel) (by decide +kernel)
set_option maxRecDepth 20000 in
theorem gX8_moveRefusal_X6_isMove : GoodIn wsX8_moveRefusal (wsV RX8 99 RX6 yX6_isMove wsX6_isMove) := goodIn_app (goodIn_of _ (by decide +kernel)) ggX8_moveRefusal_X6_isMove
theorem dX8_moveRefusal_0 : decode cX8_moveRefusal 0 = .ok (.iload_n 1, 1) := by decide +kernel
theorem dX8_moveRefusal_1 : decode cX8_moveRefusal 1 = .ok (.invokestatic 64, 3) := by decide +kernel
theorem dX8_moveRefusal_4 : decode cX8_moveRefusal 4 = .ok (.ifCond .ne 6, 3) := by decide +kernel
theorem dX8_moveRefusal_7 : decode cX8_moveRefusal 7 = .ok (.bipush (-2), 2) := by decide +kernel
theorem dX8_moveRefusal_9 : decode cX8_moveRefusal 9 = .ok (.ireturn, 1) := by decide +kernel
theorem dX8_moveRefusal_10 : decode cX8_moveRefusal 10 = .ok (.aload_n 0, 1) := by decide +kernel
theorem dX8_moveRefusal_11 : decode cX8_moveRefusal 11 = .ok (.getfield 28, 3) := by decide +kernel
theorem dX8_moveRefusal_14 : decode cX8_moveRefusal 14 = .ok (.iload_n 1, 1) := by decide +kernel
theorem dX8_moveRefusal_15 : decode cX8_moveRefusal 15 = .ok (.aaload, 1) := by decide +kernel
theorem dX8_moveRefusal_16 : decode cX8_moveRefusal 16 = .ok (.invokevirtual 103, 3) := by decide +kernel
theorem dX8_moveRefusal_19 : decode cX8_moveRefusal 19 = .ok (.ifCond .eq 6, 3) := by decide +kernel
theorem dX8_moveRefusal_22 : decode cX8_moveRefusal 22 = .ok (.bipush (-3), 2) := by decide +kernel
theorem dX8_moveRefusal_24 : decode cX8_moveRefusal 24 = .ok (.ireturn, 1) := by decide +kernel
theorem dX8_moveRefusal_25 : decode cX8_moveRefusal 25 = .ok (.aload_n 0, 1) := by decide +kernel
theorem dX8_moveRefusal_26 : decode cX8_moveRefusal 26 = .ok (.getfield 28, 3) := by decide +kernel
theorem dX8_moveRefusal_29 : decode cX8_moveRefusal 29 = .ok (.iload_n 1, 1) := by decide +kernel
theorem dX8_moveRefusal_30 : decode cX8_moveRefusal 30 = .ok (.aaload, 1) := by decide +kernel
theorem dX8_moveRefusal_31 : decode cX8_moveRefusal 31 = .ok (.invokevirtual 99, 3) := by decide +kernel
theorem dX8_moveRefusal_34 : decode cX8_moveRefusal 34 = .ok (.ifCond .eq 7, 3) := by decide +kernel
theorem dX8_moveRefusal_37 : decode cX8_moveRefusal 37 = .ok (.iconst 0, 1) := by decide +kernel
theorem dX8_moveRefusal_38 : decode cX8_moveRefusal 38 = .ok (.goto 5, 3) := by decide +kernel
theorem dX8_moveRefusal_41 : decode cX8_moveRefusal 41 = .ok (.bipush (-4), 2) := by decide +kernel
theorem dX8_moveRefusal_43 : decode cX8_moveRefusal 43 = .ok (.ireturn, 1) := by decide +kernel
set_option maxRecDepth 20000 in
theorem ggX8_onPieceRefusal_X8_isPiece : GoodIn wsX8_onPieceRefusal wsX8_isPiece := goodIn_r _ [6, 1, 7, 14, 15, 16, 17, 18, 19, 20, 21, 22, 23, 24, 25, 26, 27, 28, 29, 30, 31, 32, 33] (by decide +kernel) (by decide +kernel)
set_option maxRecDepth 20000 in
theorem gX8_onPieceRefusal_X8_isPiece : GoodIn wsX8_onPieceRefusal (wsV RX8 235 RX8 yX8_isPiece wsX8_isPiece) := goodIn_app (goodIn_of _ (by decide +kernel)) ggX8_onPieceRefusal_X8_isPiece
set_option maxRecDepth 20000 in
theorem ggX8_onPieceRefusal_X2_isOff : GoodIn wsX8_onPieceRefusal wsX2_isOff := goodIn_r _ [12, 13, 26, 27, 28, 29, 30, 31, 32, 33] (by decide +kernel) (by decide +kernel)
set_option maxRecDepth 20000 in
theorem gX8_onPieceRefusal_X2_isOff : GoodIn wsX8_onPieceRefusal (wsV RX8 261 RX2 yX2_isOff wsX2_isOff) := goodIn_app (goodIn_of _ (by decide +kernel)) ggX8_onPieceRefusal_X2_isOff
theorem dX8_onPieceRefusal_0 : decode cX8_onPieceRefusal 0 = .ok (.aload_n 0, 1) := by decide +kernel
theorem dX8_onPieceRefusal_1 : decode cX8_onPieceRefusal 1 = .ok (.iload_n 1, 1) := by decide +kernel
theorem dX8_onPieceRefusal_2 : decode cX8_onPieceRefusal 2 = .ok (.invokevirtual 235, 3) := by decide +kernel
theorem dX8_onPieceRefusal_5 : decode cX8_onPieceRefusal 5 = .ok (.ifCond .ne 6, 3) := by decide +kernel
theorem dX8_onPieceRefusal_8 : decode cX8_onPieceRefusal 8 = .ok (.bipush (-2), 2) := by decide +kernel
theorem dX8_onPieceRefusal_10 : decode cX8_onPieceRefusal 10 = .ok (.ireturn, 1) := by decide +kernel
theorem dX8_onPieceRefusal_11 : decode cX8_onPieceRefusal 11 = .ok (.aload_n 0, 1) := by decide +kernel
theorem dX8_onPieceRefusal_12 : decode cX8_onPieceRefusal 12 = .ok (.getfield 10, 3) := by decide +kernel
theorem dX8_onPieceRefusal_15 : decode cX8_onPieceRefusal 15 = .ok (.iload_n 1, 1) := by decide +kernel
theorem dX8_onPieceRefusal_16 : decode cX8_onPieceRefusal 16 = .ok (.invokevirtual 261, 3) := by decide +kernel
theorem dX8_onPieceRefusal_19 : decode cX8_onPieceRefusal 19 = .ok (.ifCond .eq 8, 3) := by decide +kernel
theorem dX8_onPieceRefusal_22 : decode cX8_onPieceRefusal 22 = .ok (.bipush (-5), 2) := by decide +kernel
theorem dX8_onPieceRefusal_24 : decode cX8_onPieceRefusal 24 = .ok (.goto 4, 3) := by decide +kernel
theorem dX8_onPieceRefusal_27 : decode cX8_onPieceRefusal 27 = .ok (.iconst 0, 1) := by decide +kernel
theorem dX8_onPieceRefusal_28 : decode cX8_onPieceRefusal 28 = .ok (.ireturn, 1) := by decide +kernel
set_option maxRecDepth 20000 in
theorem ggX8_askShows_X8_refuse : GoodIn wsX8_askShows wsX8_refuse := goodIn_r _ [8, 9, 32, 33, 34, 35, 36, 37, 38, 39, 40, 41, 42, 43] (by decide +kernel) (by decide +kernel)
set_option maxRecDepth 20000 in
theorem gX8_askShows_X8_refuse : GoodIn wsX8_askShows (wsV RX8 68 RX8 yX8_refuse wsX8_refuse) := goodIn_app (goodIn_of _ (by decide +kernel)) ggX8_askShows_X8_refuse
set_option maxRecDepth 20000 in
theorem ggX8_askShows_X2_showsOf : GoodIn wsX8_askShows wsX2_showsOf := goodIn_r _ [14, 15, 16, 17, 13, 18, 19, 20, 21, 22, 23, 24, 25, 26, 44, 45, 46, 47, 48, 49, 50, 51] (by decide +kernel) (by decide +kernel)
set_option maxRecDepth 20000 in
theorem gX8_askShows_X2_showsOf : GoodIn wsX8_askShows (wsV RX8 363 RX2 yX2_showsOf wsX2_showsOf) := goodIn_app (goodIn_of _ (by decide +kernel)) ggX8_askShows_X2_showsOf
set_option maxRecDepth 20000 in
theorem ggX8_askShows_X2_putShows : GoodIn wsX8_askShows wsX2_putShows := goodIn_r _ [30, 19, 31, 44, 45, 46, 47, 48, 49, 50, 51] (by decide +kernel) (by decide +kernel)
set_option maxRecDepth 20000 in
theorem gX8_askShows_X2_putShows : GoodIn wsX8_askShows (wsV RX8 366 RX2 yX2_putShows wsX2_putShows) := goodIn_app (goodIn_of _ (by decide +kernel)) ggX8_askShows_X2_putShows
theorem dX8_askShows_0 : decode cX8_askShows 0 = .ok (.iload_n 1, 1) := by decide +kernel
theorem dX8_askShows_1 : decode cX8_askShows 1 = .ok (.ifCond .lt 27, 3) := by decide +kernel
theorem dX8_askShows_4 : decode cX8_askShows 4 = .ok (.iload_n 1, 1) := by decide +kernel
theorem dX8_askShows_5 : decode cX8_askShows 5 = .ok (.aload_n 0, 1) := by decide +kernel
theorem dX8_askShows_6 : decode cX8_askShows 6 = .ok (.getfield 10, 3) := by decide +kernel
theorem dX8_askShows_9 : decode cX8_askShows 9 = .ok (.getfield 148, 3) := by decide +kernel
theorem dX8_askShows_12 : decode cX8_askShows 12 = .ok (.getfield 245, 3) := by decide +kernel
theorem dX8_askShows_15 : decode cX8_askShows 15 = .ok (.if_icmp .ge 13, 3) := by decide +kernel
theorem dX8_askShows_18 : decode cX8_askShows 18 = .ok (.iload_n 2, 1) := by decide +kernel
theorem dX8_askShows_19 : decode cX8_askShows 19 = .ok (.ifCond .lt 9, 3) := by decide +kernel
theorem dX8_askShows_22 : decode cX8_askShows 22 = .ok (.iload_n 2, 1) := by decide +kernel
theorem dX8_askShows_23 : decode cX8_askShows 23 = .ok (.bipush 9, 2) := by decide +kernel
theorem dX8_askShows_25 : decode cX8_askShows 25 = .ok (.if_icmp .le 10, 3) := by decide +kernel
theorem dX8_askShows_28 : decode cX8_askShows 28 = .ok (.aload_n 0, 1) := by decide +kernel
theorem dX8_askShows_29 : decode cX8_askShows 29 = .ok (.bipush (-2), 2) := by decide +kernel
theorem dX8_askShows_31 : decode cX8_askShows 31 = .ok (.invokevirtual 68, 3) := by decide +kernel
theorem dX8_askShows_34 : decode cX8_askShows 34 = .ok (.ireturn, 1) := by decide +kernel
theorem dX8_askShows_35 : decode cX8_askShows 35 = .ok (.aload_n 0, 1) := by decide +kernel
theorem dX8_askShows_36 : decode cX8_askShows 36 = .ok (.getfield 10, 3) := by decide +kernel
theorem dX8_askShows_39 : decode cX8_askShows 39 = .ok (.iload_n 1, 1) := by decide +kernel
theorem dX8_askShows_40 : decode cX8_askShows 40 = .ok (.invokevirtual 363, 3) := by decide +kernel
theorem dX8_askShows_43 : decode cX8_askShows 43 = .ok (.istore_n 3, 1) := by decide +kernel
theorem dX8_askShows_44 : decode cX8_askShows 44 = .ok (.aload_n 0, 1) := by decide +kernel
theorem dX8_askShows_45 : decode cX8_askShows 45 = .ok (.getfield 10, 3) := by decide +kernel
theorem dX8_askShows_48 : decode cX8_askShows 48 = .ok (.iload_n 1, 1) := by decide +kernel
theorem dX8_askShows_49 : decode cX8_askShows 49 = .ok (.iload_n 2, 1) := by decide +kernel
theorem dX8_askShows_50 : decode cX8_askShows 50 = .ok (.invokevirtual 366, 3) := by decide +kernel
theorem dX8_askShows_53 : decode cX8_askShows 53 = .ok (.iload_n 3, 1) := by decide +kernel
theorem dX8_askShows_54 : decode cX8_askShows 54 = .ok (.ireturn, 1) := by decide +kernel
set_option maxRecDepth 20000 in
theorem ggX8_askHeavy_X8_refuse : GoodIn wsX8_askHeavy wsX8_refuse := goodIn_r _ [7, 8, 9, 10, 11, 12, 13, 14, 15, 16, 17, 18, 19, 20] (by decide +kernel) (by decide +kernel)
set_option maxRecDepth 20000 in
theorem gX8_askHeavy_X8_refuse : GoodIn wsX8_askHeavy (wsV RX8 68 RX8 yX8_refuse wsX8_refuse) := goodIn_app (goodIn_of _ (by decide +kernel)) ggX8_askHeavy_X8_refuse
theorem dX8_askHeavy_0 : decode cX8_askHeavy 0 = .ok (.iload_n 1, 1) := by decide +kernel
theorem dX8_askHeavy_1 : decode cX8_askHeavy 1 = .ok (.iconst 1, 1) := by decide +kernel
theorem dX8_askHeavy_2 : decode cX8_askHeavy 2 = .ok (.if_icmp .lt 9, 3) := by decide +kernel
theorem dX8_askHeavy_5 : decode cX8_askHeavy 5 = .ok (.iload_n 1, 1) := by decide +kernel
theorem dX8_askHeavy_6 : decode cX8_askHeavy 6 = .ok (.bipush 64, 2) := by decide +kernel
theorem dX8_askHeavy_8 : decode cX8_askHeavy 8 = .ok (.if_icmp .le 10, 3) := by decide +kernel
theorem dX8_askHeavy_11 : decode cX8_askHeavy 11 = .ok (.aload_n 0, 1) := by decide +kernel
theorem dX8_askHeavy_12 : decode cX8_askHeavy 12 = .ok (.bipush (-2), 2) := by decide +kernel
theorem dX8_askHeavy_14 : decode cX8_askHeavy 14 = .ok (.invokevirtual 68, 3) := by decide +kernel
theorem dX8_askHeavy_17 : decode cX8_askHeavy 17 = .ok (.ireturn, 1) := by decide +kernel
theorem dX8_askHeavy_18 : decode cX8_askHeavy 18 = .ok (.aload_n 0, 1) := by decide +kernel
theorem dX8_askHeavy_19 : decode cX8_askHeavy 19 = .ok (.getfield 10, 3) := by decide +kernel
theorem dX8_askHeavy_22 : decode cX8_askHeavy 22 = .ok (.getfield 357, 3) := by decide +kernel
theorem dX8_askHeavy_25 : decode cX8_askHeavy 25 = .ok (.istore_n 2, 1) := by decide +kernel
theorem dX8_askHeavy_26 : decode cX8_askHeavy 26 = .ok (.aload_n 0, 1) := by decide +kernel
theorem dX8_askHeavy_27 : decode cX8_askHeavy 27 = .ok (.getfield 10, 3) := by decide +kernel
theorem dX8_askHeavy_30 : decode cX8_askHeavy 30 = .ok (.iload_n 1, 1) := by decide +kernel
theorem dX8_askHeavy_31 : decode cX8_askHeavy 31 = .ok (.putfield 357, 3) := by decide +kernel
theorem dX8_askHeavy_34 : decode cX8_askHeavy 34 = .ok (.iload_n 2, 1) := by decide +kernel
theorem dX8_askHeavy_35 : decode cX8_askHeavy 35 = .ok (.ireturn, 1) := by decide +kernel
set_option maxRecDepth 20000 in
theorem ggX8_askWear_X8_refuse : GoodIn wsX8_askWear wsX8_refuse := goodIn_r _ [7, 8, 9, 10, 11, 12, 13, 14, 15, 16, 17, 18, 19, 20] (by decide +kernel) (by decide +kernel)
set_option maxRecDepth 20000 in
theorem gX8_askWear_X8_refuse : GoodIn wsX8_askWear (wsV RX8 68 RX8 yX8_refuse wsX8_refuse) := goodIn_app (goodIn_of _ (by decide +kernel)) ggX8_askWear_X8_refuse
theorem dX8_askWear_0 : decode cX8_askWear 0 = .ok (.iload_n 1, 1) := by decide +kernel
theorem dX8_askWear_1 : decode cX8_askWear 1 = .ok (.iconst 1, 1) := by decide +kernel
theorem dX8_askWear_2 : decode cX8_askWear 2 = .ok (.if_icmp .lt 10, 3) := by decide +kernel
theorem dX8_askWear_5 : decode cX8_askWear 5 = .ok (.iload_n 1, 1) := by decide +kernel
theorem dX8_askWear_6 : decode cX8_askWear 6 = .ok (.sipush 999, 3) := by decide +kernel
theorem dX8_askWear_9 : decode cX8_askWear 9 = .ok (.if_icmp .le 10, 3) := by decide +kernel
theorem dX8_askWear_12 : decode cX8_askWear 12 = .ok (.aload_n 0, 1) := by decide +kernel
theorem dX8_askWear_13 : decode cX8_askWear 13 = .ok (.bipush (-2), 2) := by decide +kernel
theorem dX8_askWear_15 : decode cX8_askWear 15 = .ok (.invokevirtual 68, 3) := by decide +kernel
theorem dX8_askWear_18 : decode cX8_askWear 18 = .ok (.ireturn, 1) := by decide +kernel
theorem dX8_askWear_19 : decode cX8_askWear 19 = .ok (.aload_n 0, 1) := by decide +kernel
theorem dX8_askWear_20 : decode cX8_askWear 20 = .ok (.getfield 10, 3) := by decide +kernel
theorem dX8_askWear_23 : decode cX8_askWear 23 = .ok (.getfield 347, 3) := by decide +kernel
theorem dX8_askWear_26 : decode cX8_askWear 26 = .ok (.istore_n 2, 1) := by decide +kernel
theorem dX8_askWear_27 : decode cX8_askWear 27 = .ok (.aload_n 0, 1) := by decide +kernel
theorem dX8_askWear_28 : decode cX8_askWear 28 = .ok (.getfield 10, 3) := by decide +kernel
theorem dX8_askWear_31 : decode cX8_askWear 31 = .ok (.iload_n 1, 1) := by decide +kernel
theorem dX8_askWear_32 : decode cX8_askWear 32 = .ok (.putfield 347, 3) := by decide +kernel
theorem dX8_askWear_35 : decode cX8_askWear 35 = .ok (.iload_n 2, 1) := by decide +kernel
theorem dX8_askWear_36 : decode cX8_askWear 36 = .ok (.ireturn, 1) := by decide +kernel
theorem dX8_countHeld_0 : decode cX8_countHeld 0 = .ok (.iconst 0, 1) := by decide +kernel
theorem dX8_countHeld_1 : decode cX8_countHeld 1 = .ok (.istore_n 1, 1) := by decide +kernel
theorem dX8_countHeld_2 : decode cX8_countHeld 2 = .ok (.iconst 0, 1) := by decide +kernel
theorem dX8_countHeld_3 : decode cX8_countHeld 3 = .ok (.istore_n 2, 1) := by decide +kernel
theorem dX8_countHeld_4 : decode cX8_countHeld 4 = .ok (.iload_n 2, 1) := by decide +kernel
theorem dX8_countHeld_5 : decode cX8_countHeld 5 = .ok (.bipush 8, 2) := by decide +kernel
theorem dX8_countHeld_7 : decode cX8_countHeld 7 = .ok (.if_icmp .ge 25, 3) := by decide +kernel
theorem dX8_countHeld_10 : decode cX8_countHeld 10 = .ok (.aload_n 0, 1) := by decide +kernel
theorem dX8_countHeld_11 : decode cX8_countHeld 11 = .ok (.getfield 28, 3) := by decide +kernel
theorem dX8_countHeld_14 : decode cX8_countHeld 14 = .ok (.iload_n 2, 1) := by decide +kernel
theorem dX8_countHeld_15 : decode cX8_countHeld 15 = .ok (.aaload, 1) := by decide +kernel
theorem dX8_countHeld_16 : decode cX8_countHeld 16 = .ok (.getfield 72, 3) := by decide +kernel
theorem dX8_countHeld_19 : decode cX8_countHeld 19 = .ok (.iconst (-1), 1) := by decide +kernel
theorem dX8_countHeld_20 : decode cX8_countHeld 20 = .ok (.if_icmp .eq 6, 3) := by decide +kernel
theorem dX8_countHeld_23 : decode cX8_countHeld 23 = .ok (.iinc 1 1, 3) := by decide +kernel
theorem dX8_countHeld_26 : decode cX8_countHeld 26 = .ok (.iinc 2 1, 3) := by decide +kernel
theorem dX8_countHeld_29 : decode cX8_countHeld 29 = .ok (.goto (-25), 3) := by decide +kernel
theorem dX8_countHeld_32 : decode cX8_countHeld 32 = .ok (.iload_n 1, 1) := by decide +kernel
theorem dX8_countHeld_33 : decode cX8_countHeld 33 = .ok (.ireturn, 1) := by decide +kernel
set_option maxRecDepth 20000 in
theorem ggX8_lookAtFigure_X1_look : GoodIn wsX8_lookAtFigure wsX1_look := goodIn_r _ [9, 10, 11, 12, 13, 14, 15, 16, 17, 18, 19, 20, 21, 22, 23, 24, 25, 26, 47, 48, 49, 50, 51, 52, 53, 54, 55] (by decide +kernel) (by decide +kernel)
set_option maxRecDepth 20000 in
theorem gX8_lookAtFigure_X1_look : GoodIn wsX8_lookAtFigure (wsV RX8 369 RX1 yX1_look wsX1_look) := goodIn_app (goodIn_of _ (by decide +kernel)) ggX8_lookAtFigure_X1_look
theorem dX8_lookAtFigure_0 : decode cX8_lookAtFigure 0 = .ok (.aload_n 0, 1) := by decide +kernel
theorem dX8_lookAtFigure_1 : decode cX8_lookAtFigure 1 = .ok (.getfield 42, 3) := by decide +kernel
theorem dX8_lookAtFigure_4 : decode cX8_lookAtFigure 4 = .ok (.aload_n 0, 1) := by decide +kernel
theorem dX8_lookAtFigure_5 : decode cX8_lookAtFigure 5 = .ok (.getfield 10, 3) := by decide +kernel
theorem dX8_lookAtFigure_8 : decode cX8_lookAtFigure 8 = .ok (.getfield 148, 3) := by decide +kernel
theorem dX8_lookAtFigure_11 : decode cX8_lookAtFigure 11 = .ok (.aload_n 0, 1) := by decide +kernel
theorem dX8_lookAtFigure_12 : decode cX8_lookAtFigure 12 = .ok (.getfield 10, 3) := by decide +kernel
theorem dX8_lookAtFigure_15 : decode cX8_lookAtFigure 15 = .ok (.getfield 161, 3) := by decide +kernel
theorem dX8_lookAtFigure_18 : decode cX8_lookAtFigure 18 = .ok (.invokevirtual 369, 3) := by decide +kernel
theorem dX8_lookAtFigure_21 : decode cX8_lookAtFigure 21 = .ok (.aload_n 0, 1) := by decide +kernel
theorem dX8_lookAtFigure_22 : decode cX8_lookAtFigure 22 = .ok (.getfield 42, 3) := by decide +kernel
theorem dX8_lookAtFigure_25 : decode cX8_lookAtFigure 25 = .ok (.areturn, 1) := by decide +kernel
set_option maxRecDepth 20000 in
theorem ggX8_countComing_X3_takes : GoodIn wsX8_countComing wsX3_takes := goodIn_r _ [9, 10, 11, 12, 8, 13, 14, 15, 16, 17, 18, 19, 20, 21, 22, 23, 24, 25, 26, 27, 28, 29, 30, 31, 32, 33, 34, 35, 36, 37, 38, 39, 66, 67, 68, 60, 61, 62, 63, 64, 65] (by decide +kernel) (by decide +kernel)
set_option maxRecDepth 20000 in
theorem gX8_countComing_X3_takes : GoodIn wsX8_countComing (wsV RX8 251 RX3 yX3_takes wsX3_takes) := goodIn_app (goodIn_of _ (by decide +kernel)) ggX8_countComing_X3_takes
theorem dX8_countComing_0 : decode cX8_countComing 0 = .ok (.iconst 0, 1) := by decide +kernel
theorem dX8_countComing_1 : decode cX8_countComing 1 = .ok (.istore 4, 2) := by decide +kernel
theorem dX8_countComing_3 : decode cX8_countComing 3 = .ok (.iconst 0, 1) := by decide +kernel
theorem dX8_countComing_4 : decode cX8_countComing 4 = .ok (.istore 5, 2) := by decide +kernel
theorem dX8_countComing_6 : decode cX8_countComing 6 = .ok (.iload 5, 2) := by decide +kernel
theorem dX8_countComing_8 : decode cX8_countComing 8 = .ok (.aload_n 0, 1) := by decide +kernel
theorem dX8_countComing_9 : decode cX8_countComing 9 = .ok (.getfield 10, 3) := by decide +kernel
theorem dX8_countComing_12 : decode cX8_countComing 12 = .ok (.getfield 148, 3) := by decide +kernel
theorem dX8_countComing_15 : decode cX8_countComing 15 = .ok (.getfield 245, 3) := by decide +kernel
theorem dX8_countComing_18 : decode cX8_countComing 18 = .ok (.if_icmp .ge 50, 3) := by decide +kernel
theorem dX8_countComing_21 : decode cX8_countComing 21 = .ok (.lconst 1, 1) := by decide +kernel
theorem dX8_countComing_22 : decode cX8_countComing 22 = .ok (.iload 5, 2) := by decide +kernel
theorem dX8_countComing_24 : decode cX8_countComing 24 = .ok (.lshl, 1) := by decide +kernel
theorem dX8_countComing_25 : decode cX8_countComing 25 = .ok (.lstore 6, 2) := by decide +kernel
theorem dX8_countComing_27 : decode cX8_countComing 27 = .ok (.lload_n 2, 1) := by decide +kernel
theorem dX8_countComing_28 : decode cX8_countComing 28 = .ok (.lload 6, 2) := by decide +kernel
theorem dX8_countComing_30 : decode cX8_countComing 30 = .ok (.land, 1) := by decide +kernel
theorem dX8_countComing_31 : decode cX8_countComing 31 = .ok (.lconst 0, 1) := by decide +kernel
theorem dX8_countComing_32 : decode cX8_countComing 32 = .ok (.lcmp, 1) := by decide +kernel
theorem dX8_countComing_33 : decode cX8_countComing 33 = .ok (.ifCond .eq 29, 3) := by decide +kernel
theorem dX8_countComing_36 : decode cX8_countComing 36 = .ok (.aload_n 1, 1) := by decide +kernel
theorem dX8_countComing_37 : decode cX8_countComing 37 = .ok (.aload_n 0, 1) := by decide +kernel
theorem dX8_countComing_38 : decode cX8_countComing 38 = .ok (.getfield 10, 3) := by decide +kernel
theorem dX8_countComing_41 : decode cX8_countComing 41 = .ok (.getfield 148, 3) := by decide +kernel
theorem dX8_countComing_44 : decode cX8_countComing 44 = .ok (.lload 6, 2) := by decide +kernel
theorem dX8_countComing_46 : decode cX8_countComing 46 = .ok (.aload_n 0, 1) := by decide +kernel
theorem dX8_countComing_47 : decode cX8_countComing 47 = .ok (.getfield 10, 3) := by decide +kernel
theorem dX8_countComing_50 : decode cX8_countComing 50 = .ok (.getfield 161, 3) := by decide +kernel
theorem dX8_countComing_53 : decode cX8_countComing 53 = .ok (.invokevirtual 251, 3) := by decide +kernel
theorem dX8_countComing_56 : decode cX8_countComing 56 = .ok (.ifCond .eq 6, 3) := by decide +kernel
theorem dX8_countComing_59 : decode cX8_countComing 59 = .ok (.iinc 4 1, 3) := by decide +kernel
theorem dX8_countComing_62 : decode cX8_countComing 62 = .ok (.iinc 5 1, 3) := by decide +kernel
theorem dX8_countComing_65 : decode cX8_countComing 65 = .ok (.goto (-59), 3) := by decide +kernel
theorem dX8_countComing_68 : decode cX8_countComing 68 = .ok (.iload 4, 2) := by decide +kernel
theorem dX8_countComing_70 : decode cX8_countComing 70 = .ok (.ireturn, 1) := by decide +kernel
set_option maxRecDepth 20000 in
theorem ggX8_countCut_X0_below : GoodIn wsX8_countCut wsX0_below := goodIn_r _ [9, 10, 11, 12, 8, 13, 14, 82, 83, 84, 85, 86, 87] (by decide +kernel) (by decide +kernel)
set_option maxRecDepth 20000 in
theorem gX8_countCut_X0_below : GoodIn wsX8_countCut (wsV RX8 297 RX0 yX0_below wsX0_below) := goodIn_app (goodIn_of _ (by decide +kernel)) ggX8_countCut_X0_below
set_option maxRecDepth 20000 in
theorem ggX8_countCut_X8_countForPart : GoodIn wsX8_countCut wsX8_countForPart := goodIn_r _ [19, 20, 1, 2, 21, 22, 23, 24, 25, 26, 27, 28, 29, 30, 31, 32, 8, 33, 34, 35, 36, 37, 38, 39, 40, 41, 42, 43, 44, 45, 46, 47, 48, 49, 50, 51, 52, 53, 54, 55, 56, 57, 58, 59, 60, 61, 62, 63, 64, 65, 66, 67, 68, 69, 70, 71, 72, 73, 74, 75, 76, 77, 78, 79, 80, 81, 82, 83, 84, 85, 86, 87, 88, 89, 90] (by decide +kernel) (by decide +kernel)
set_option maxRecDepth 20000 in
theorem gX8_countCut_X8_countForPart : GoodIn wsX8_countCut (wsV RX8 373 RX8 yX8_countForPart wsX8_countForPart) := goodIn_app (goodIn_of _ (by decide +kernel)) ggX8_countCut_X8_countForPart
theorem dX8_countCut_0 : decode cX8_countCut 0 = .ok (.aload_n 0, 1) := by decide +kernel
theorem dX8_countCut_1 : decode cX8_countCut 1 = .ok (.getfield 10, 3) := by decide +kernel
theorem dX8_countCut_4 : decode cX8_countCut 4 = .ok (.getfield 148, 3) := by decide +kernel
theorem dX8_countCut_7 : decode cX8_countCut 7 = .ok (.iload_n 1, 1) := by decide +kernel
theorem dX8_countCut_8 : decode cX8_countCut 8 = .ok (.iload_n 2, 1) := by decide +kernel
theorem dX8_countCut_9 : decode cX8_countCut 9 = .ok (.invokevirtual 297, 3) := by decide +kernel
theorem dX8_countCut_12 : decode cX8_countCut 12 = .ok (.lstore_n 3, 1) := by decide +kernel
theorem dX8_countCut_13 : decode cX8_countCut 13 = .ok (.aload_n 0, 1) := by decide +kernel
theorem dX8_countCut_14 : decode cX8_countCut 14 = .ok (.aload_n 0, 1) := by decide +kernel
theorem dX8_countCut_15 : decode cX8_countCut 15 = .ok (.getfield 10, 3) := by decide +kernel
theorem dX8_countCut_18 : decode cX8_countCut 18 = .ok (.getfield 161, 3) := by decide +kernel
theorem dX8_countCut_21 : decode cX8_countCut 21 = .ok (.lload_n 3, 1) := by decide +kernel
theorem dX8_countCut_22 : decode cX8_countCut 22 = .ok (.land, 1) := by decide +kernel
theorem dX8_countCut_23 : decode cX8_countCut 23 = .ok (.invokevirtual 373, 3) := by decide +kernel
theorem dX8_countCut_26 : decode cX8_countCut 26 = .ok (.aload_n 0, 1) := by decide +kernel
theorem dX8_countCut_27 : decode cX8_countCut 27 = .ok (.aload_n 0, 1) := by decide +kernel
theorem dX8_countCut_28 : decode cX8_countCut 28 = .ok (.getfield 10, 3) := by decide +kernel
theorem dX8_countCut_31 : decode cX8_countCut 31 = .ok (.getfield 161, 3) := by decide +kernel
theorem dX8_countCut_34 : decode cX8_countCut 34 = .ok (.lload_n 3, 1) := by decide +kernel
theorem dX8_countCut_35 : decode cX8_countCut 35 = .ok (.ldc2_w 168, 3) := by decide +kernel
theorem dX8_countCut_38 : decode cX8_countCut 38 = .ok (.lxor, 1) := by decide +kernel
theorem dX8_countCut_39 : decode cX8_countCut 39 = .ok (.land, 1) := by decide +kernel
theorem dX8_countCut_40 : decode cX8_countCut 40 = .ok (.invokevirtual 373, 3) := by decide +kernel
theorem dX8_countCut_43 : decode cX8_countCut 43 = .ok (.iadd, 1) := by decide +kernel
theorem dX8_countCut_44 : decode cX8_countCut 44 = .ok (.ireturn, 1) := by decide +kernel
set_option maxRecDepth 20000 in
theorem ggX8_countForPart_X1_look : GoodIn wsX8_countForPart wsX1_look := goodIn_r _ [8, 9, 10, 11, 12, 13, 14, 15, 16, 17, 18, 19, 20, 21, 22, 23, 24, 25, 66, 67, 68, 69, 70, 71, 72, 73, 74] (by decide +kernel) (by decide +kernel)
set_option maxRecDepth 20000 in
theorem gX8_countForPart_X1_look : GoodIn wsX8_countForPart (wsV RX8 369 RX1 yX1_look wsX1_look) := goodIn_app (goodIn_of _ (by decide +kernel)) ggX8_countForPart_X1_look
set_option maxRecDepth 20000 in
theorem ggX8_countForPart_X1_fewestWays : GoodIn wsX8_countForPart wsX1_fewestWays := goodIn_r _ [29, 30, 31, 32, 33, 34, 35, 36, 37, 38, 39, 7, 40, 11, 41, 42, 43, 44, 12, 72, 73, 74] (by decide +kernel) (by decide +kernel)
set_option maxRecDepth 20000 in
theorem gX8_countForPart_X1_fewestWays : GoodIn wsX8_countForPart (wsV RX8 273 RX1 yX1_fewestWays wsX1_fewestWays) := goodIn_app (goodIn_of _ (by decide +kernel)) ggX8_countForPart_X1_fewestWays
set_option maxRecDepth 20000 in
theorem ggX8_countForPart_J6_bitCount_0f7a4 : GoodIn wsX8_countForPart wsJ6_bitCount_0f7a4 := goodIn_r _ [33, 34, 35, 36] (by decide +kernel) (by decide +kernel)
set_option maxRecDepth 20000 in
theorem gX8_countForPart_J6_bitCount_0f7a4 : GoodIn wsX8_countForPart (va_wsS RX8 353 yJ6_bitCount_0f7a4 wsJ6_bitCount_0f7a4) := goodIn_app (goodIn_of _ (by decide +kernel)) ggX8_countForPart_J6_bitCount_0f7a4
theorem dX8_countForPart_0 : decode cX8_countForPart 0 = .ok (.aload_n 0, 1) := by decide +kernel
theorem dX8_countForPart_1 : decode cX8_countForPart 1 = .ok (.getfield 42, 3) := by decide +kernel
theorem dX8_countForPart_4 : decode cX8_countForPart 4 = .ok (.aload_n 0, 1) := by decide +kernel
theorem dX8_countForPart_5 : decode cX8_countForPart 5 = .ok (.getfield 10, 3) := by decide +kernel
theorem dX8_countForPart_8 : decode cX8_countForPart 8 = .ok (.getfield 148, 3) := by decide +kernel
theorem dX8_countForPart_11 : decode cX8_countForPart 11 = .ok (.lload_n 1, 1) := by decide +kernel
theorem dX8_countForPart_12 : decode cX8_countForPart 12 = .ok (.invokevirtual 369, 3) := by decide +kernel
theorem dX8_countForPart_15 : decode cX8_countForPart 15 = .ok (.aload_n 0, 1) := by decide +kernel
theorem dX8_countForPart_16 : decode cX8_countForPart 16 = .ok (.getfield 42, 3) := by decide +kernel
theorem dX8_countForPart_19 : decode cX8_countForPart 19 = .ok (.invokevirtual 273, 3) := by decide +kernel
theorem dX8_countForPart_22 : decode cX8_countForPart 22 = .ok (.istore_n 3, 1) := by decide +kernel
theorem dX8_countForPart_23 : decode cX8_countForPart 23 = .ok (.iload_n 3, 1) := by decide +kernel
theorem dX8_countForPart_24 : decode cX8_countForPart 24 = .ok (.iconst (-1), 1) := by decide +kernel
theorem dX8_countForPart_25 : decode cX8_countForPart 25 = .ok (.if_icmp .ne 8, 3) := by decide +kernel
theorem dX8_countForPart_28 : decode cX8_countForPart 28 = .ok (.bipush 9, 2) := by decide +kernel
theorem dX8_countForPart_30 : decode cX8_countForPart 30 = .ok (.goto 7, 3) := by decide +kernel
theorem dX8_countForPart_33 : decode cX8_countForPart 33 = .ok (.iload_n 3, 1) := by decide +kernel
theorem dX8_countForPart_34 : decode cX8_countForPart 34 = .ok (.invokestatic 353, 3) := by decide +kernel
theorem dX8_countForPart_37 : decode cX8_countForPart 37 = .ok (.ireturn, 1) := by decide +kernel
set_option maxRecDepth 20000 in
theorem ggX8_looseBy_X2_inPieces : GoodIn wsX8_looseBy wsX2_inPieces := goodIn_r _ [11, 12, 13, 67, 68, 69, 70, 71, 72, 73, 74] (by decide +kernel) (by decide +kernel)
set_option maxRecDepth 20000 in
theorem gX8_looseBy_X2_inPieces : GoodIn wsX8_looseBy (wsV RX8 231 RX2 yX2_inPieces wsX2_inPieces) := goodIn_app (goodIn_of _ (by decide +kernel)) ggX8_looseBy_X2_inPieces
set_option maxRecDepth 20000 in
theorem ggX8_looseBy_X6_isMove : GoodIn wsX8_looseBy wsX6_isMove := goodIn_r _ [18, 19, 75, 76, 77] (by decide +kernel) (by decide +kernel)
set_option maxRecDepth 20000 in
theorem gX8_looseBy_X6_isMove : GoodIn wsX8_looseBy (wsV RX8 99 RX6 yX6_isMove wsX6_isMove) := goodIn_app (goodIn_of _ (by decide +kernel)) ggX8_looseBy_X6_isMove
set_option maxRecDepth 20000 in
theorem ggX8_looseBy_X3_takes : GoodIn wsX8_looseBy wsX3_takes := goodIn_r _ [24, 25, 26, 27, 23, 28, 29, 30, 31, 32, 33, 34, 35, 36, 37, 38, 39, 40, 41, 42, 43, 44, 45, 46, 47, 48, 49, 50, 51, 52, 53, 54, 78, 79, 80, 81, 82, 83, 84, 85, 86] (by decide +kernel) (by decide +kernel)
set_option maxRecDepth 20000 in
theorem gX8_looseBy_X3_takes : GoodIn wsX8_looseBy (wsV RX8 251 RX3 yX3_takes wsX3_takes) := goodIn_app (goodIn_of _ (by decide +kernel)) ggX8_looseBy_X3_takes
theorem dX8_looseBy_0 : decode cX8_looseBy 0 = .ok (.aload_n 0, 1) := by decide +kernel
theorem dX8_looseBy_1 : decode cX8_looseBy 1 = .ok (.getfield 10, 3) := by decide +kernel
theorem dX8_looseBy_4 : decode cX8_looseBy 4 = .ok (.getfield 161, 3) := by decide +kernel
theorem dX8_looseBy_7 : decode cX8_looseBy 7 = .ok (.aload_n 0, 1) := by decide +kernel
theorem dX8_looseBy_8 : decode cX8_looseBy 8 = .ok (.getfield 10, 3) := by decide +kernel
theorem dX8_looseBy_11 : decode cX8_looseBy 11 = .ok (.iload_n 2, 1) := by decide +kernel
theorem dX8_looseBy_12 : decode cX8_looseBy 12 = .ok (.iconst 1, 1) := by decide +kernel
theorem dX8_looseBy_13 : decode cX8_looseBy 13 = .ok (.iload_n 1, 1) := by decide +kernel
theorem dX8_looseBy_14 : decode cX8_looseBy 14 = .ok (.ishl, 1) := by decide +kernel
theorem dX8_looseBy_15 : decode cX8_looseBy 15 = .ok (.ior, 1) := by decide +kernel
theorem dX8_looseBy_16 : decode cX8_looseBy 16 = .ok (.invokevirtual 231, 3) := by decide +kernel
theorem dX8_looseBy_19 : decode cX8_looseBy 19 = .ok (.lor, 1) := by decide +kernel
theorem dX8_looseBy_20 : decode cX8_looseBy 20 = .ok (.lstore_n 3, 1) := by decide +kernel
theorem dX8_looseBy_21 : decode cX8_looseBy 21 = .ok (.iconst 0, 1) := by decide +kernel
theorem dX8_looseBy_22 : decode cX8_looseBy 22 = .ok (.istore 5, 2) := by decide +kernel
theorem dX8_looseBy_24 : decode cX8_looseBy 24 = .ok (.iload 5, 2) := by decide +kernel
theorem dX8_looseBy_26 : decode cX8_looseBy 26 = .ok (.bipush 8, 2) := by decide +kernel
theorem dX8_looseBy_28 : decode cX8_looseBy 28 = .ok (.if_icmp .ge 58, 3) := by decide +kernel
theorem dX8_looseBy_31 : decode cX8_looseBy 31 = .ok (.aload_n 0, 1) := by decide +kernel
theorem dX8_looseBy_32 : decode cX8_looseBy 32 = .ok (.getfield 28, 3) := by decide +kernel
theorem dX8_looseBy_35 : decode cX8_looseBy 35 = .ok (.iload 5, 2) := by decide +kernel
theorem dX8_looseBy_37 : decode cX8_looseBy 37 = .ok (.aaload, 1) := by decide +kernel
theorem dX8_looseBy_38 : decode cX8_looseBy 38 = .ok (.invokevirtual 99, 3) := by decide +kernel
theorem dX8_looseBy_41 : decode cX8_looseBy 41 = .ok (.ifCond .eq 39, 3) := by decide +kernel
theorem dX8_looseBy_44 : decode cX8_looseBy 44 = .ok (.aload_n 0, 1) := by decide +kernel
theorem dX8_looseBy_45 : decode cX8_looseBy 45 = .ok (.getfield 28, 3) := by decide +kernel
theorem dX8_looseBy_48 : decode cX8_looseBy 48 = .ok (.iload 5, 2) := by decide +kernel
theorem dX8_looseBy_50 : decode cX8_looseBy 50 = .ok (.aaload, 1) := by decide +kernel
theorem dX8_looseBy_51 : decode cX8_looseBy 51 = .ok (.getfield 119, 3) := by decide +kernel
theorem dX8_looseBy_54 : decode cX8_looseBy 54 = .ok (.aload_n 0, 1) := by decide +kernel
theorem dX8_looseBy_55 : decode cX8_looseBy 55 = .ok (.getfield 10, 3) := by decide +kernel
theorem dX8_looseBy_58 : decode cX8_looseBy 58 = .ok (.getfield 148, 3) := by decide +kernel
theorem dX8_looseBy_61 : decode cX8_looseBy 61 = .ok (.aload_n 0, 1) := by decide +kernel
theorem dX8_looseBy_62 : decode cX8_looseBy 62 = .ok (.getfield 10, 3) := by decide +kernel
theorem dX8_looseBy_65 : decode cX8_looseBy 65 = .ok (.getfield 189, 3) := by decide +kernel
theorem dX8_looseBy_68 : decode cX8_looseBy 68 = .ok (.iload_n 1, 1) := by decide +kernel
theorem dX8_looseBy_69 : decode cX8_looseBy 69 = .ok (.laload, 1) := by decide +kernel
theorem dX8_looseBy_70 : decode cX8_looseBy 70 = .ok (.lload_n 3, 1) := by decide +kernel
theorem dX8_looseBy_71 : decode cX8_looseBy 71 = .ok (.invokevirtual 251, 3) := by decide +kernel
theorem dX8_looseBy_74 : decode cX8_looseBy 74 = .ok (.ifCond .eq 6, 3) := by decide +kernel
theorem dX8_looseBy_77 : decode cX8_looseBy 77 = .ok (.iload 5, 2) := by decide +kernel
theorem dX8_looseBy_79 : decode cX8_looseBy 79 = .ok (.ireturn, 1) := by decide +kernel
theorem dX8_looseBy_80 : decode cX8_looseBy 80 = .ok (.iinc 5 1, 3) := by decide +kernel
theorem dX8_looseBy_83 : decode cX8_looseBy 83 = .ok (.goto (-59), 3) := by decide +kernel
theorem dX8_looseBy_86 : decode cX8_looseBy 86 = .ok (.iconst (-1), 1) := by decide +kernel
theorem dX8_looseBy_87 : decode cX8_looseBy 87 = .ok (.ireturn, 1) := by decide +kernel
set_option maxRecDepth 20000 in
theorem ggX8_firstLoose_X8_looseBy : GoodIn wsX8_firstLoose wsX8_looseBy := goodIn_r _ [7, 1, 8, 9, 10, 11, 12, 13, 14, 15, 16, 17, 18, 19, 20, 21, 22, 23, 24, 25, 26, 27, 28, 29, 30, 31, 32, 33, 34, 35, 36, 37, 38, 39, 40, 41, 42, 43, 44, 45, 46, 47, 48, 49, 50, 51, 52, 53, 54, 55, 56, 57, 58, 59, 60, 61, 62, 63, 64, 65, 66, 67, 68, 69, 70, 71, 72, 73, 74, 75, 76, 77, 78, 79, 80, 81, 82, 83, 84, 85, 86, 87, 88, 89, 90, 91, 92] (by decide +kernel) (by decide +kernel)
set_option maxRecDepth 20000 in
theorem gX8_firstLoose_X8_looseBy : GoodIn wsX8_firstLoose (wsV RX8 258 RX8 yX8_looseBy wsX8_looseBy) := goodIn_app (goodIn_of _ (by decide +kernel)) ggX8_firstLoose_X8_looseBy
theorem dX8_firstLoose_0 : decode cX8_firstLoose 0 = .ok (.iconst 0, 1) := by decide +kernel
theorem dX8_firstLoose_1 : decode cX8_firstLoose 1 = .ok (.istore_n 2, 1) := by decide +kernel
theorem dX8_firstLoose_2 : decode cX8_firstLoose 2 = .ok (.iload_n 2, 1) := by decide +kernel
theorem dX8_firstLoose_3 : decode cX8_firstLoose 3 = .ok (.aload_n 0, 1) := by decide +kernel
theorem dX8_firstLoose_4 : decode cX8_firstLoose 4 = .ok (.getfield 10, 3) := by decide +kernel
theorem dX8_firstLoose_7 : decode cX8_firstLoose 7 = .ok (.getfield 179, 3) := by decide +kernel
theorem dX8_firstLoose_10 : decode cX8_firstLoose 10 = .ok (.if_icmp .ge 29, 3) := by decide +kernel
theorem dX8_firstLoose_13 : decode cX8_firstLoose 13 = .ok (.iload_n 1, 1) := by decide +kernel
theorem dX8_firstLoose_14 : decode cX8_firstLoose 14 = .ok (.iload_n 2, 1) := by decide +kernel
theorem dX8_firstLoose_15 : decode cX8_firstLoose 15 = .ok (.ishr, 1) := by decide +kernel
theorem dX8_firstLoose_16 : decode cX8_firstLoose 16 = .ok (.iconst 1, 1) := by decide +kernel
theorem dX8_firstLoose_17 : decode cX8_firstLoose 17 = .ok (.iand, 1) := by decide +kernel
theorem dX8_firstLoose_18 : decode cX8_firstLoose 18 = .ok (.ifCond .ne 15, 3) := by decide +kernel
theorem dX8_firstLoose_21 : decode cX8_firstLoose 21 = .ok (.aload_n 0, 1) := by decide +kernel
theorem dX8_firstLoose_22 : decode cX8_firstLoose 22 = .ok (.iload_n 2, 1) := by decide +kernel
theorem dX8_firstLoose_23 : decode cX8_firstLoose 23 = .ok (.iload_n 1, 1) := by decide +kernel
theorem dX8_firstLoose_24 : decode cX8_firstLoose 24 = .ok (.invokevirtual 258, 3) := by decide +kernel
theorem dX8_firstLoose_27 : decode cX8_firstLoose 27 = .ok (.iconst (-1), 1) := by decide +kernel
theorem dX8_firstLoose_28 : decode cX8_firstLoose 28 = .ok (.if_icmp .eq 5, 3) := by decide +kernel
theorem dX8_firstLoose_31 : decode cX8_firstLoose 31 = .ok (.iload_n 2, 1) := by decide +kernel
theorem dX8_firstLoose_32 : decode cX8_firstLoose 32 = .ok (.ireturn, 1) := by decide +kernel
theorem dX8_firstLoose_33 : decode cX8_firstLoose 33 = .ok (.iinc 2 1, 3) := by decide +kernel
theorem dX8_firstLoose_36 : decode cX8_firstLoose 36 = .ok (.goto (-34), 3) := by decide +kernel
theorem dX8_firstLoose_39 : decode cX8_firstLoose 39 = .ok (.iconst (-1), 1) := by decide +kernel
theorem dX8_firstLoose_40 : decode cX8_firstLoose 40 = .ok (.ireturn, 1) := by decide +kernel
set_option maxRecDepth 20000 in
theorem ggX8_findOrder_X8_firstLoose : GoodIn wsX8_findOrder wsX8_firstLoose := goodIn_r _ [12, 1, 6, 13, 14, 15, 11, 16, 17, 18, 19, 20, 21, 22, 23, 24, 25, 26, 27, 28, 29, 30, 31, 32, 33, 34, 35, 36, 37, 38, 39, 40, 41, 42, 43, 44, 45, 46, 47, 48, 49, 50, 51, 52, 53, 54, 55, 56, 57, 58, 59, 60, 61, 62, 63, 64, 65, 66, 67, 68, 69, 70, 71, 72, 73, 74, 75, 76, 77, 78, 79, 80, 81, 82, 83, 84, 85, 86, 87, 88, 89, 90, 91, 92, 93, 94, 95, 96, 97, 98, 99, 100, 101] (by decide +kernel) (by decide +kernel)
set_option maxRecDepth 20000 in
theorem gX8_findOrder_X8_firstLoose : GoodIn wsX8_findOrder (wsV RX8 350 RX8 yX8_firstLoose wsX8_firstLoose) := goodIn_app (goodIn_of _ (by decide +kernel)) ggX8_findOrder_X8_firstLoose
set_option maxRecDepth 20000 in
theorem ggX8_findOrder_X8_looseBy : GoodIn wsX8_findOrder wsX8_looseBy := goodIn_r _ [16, 1, 17, 18, 19, 20, 21, 22, 23, 24, 25, 26, 27, 28, 29, 30, 31, 32, 33, 34, 35, 36, 37, 38, 39, 40, 41, 42, 43, 44, 45, 46, 47, 48, 49, 50, 51, 52, 53, 54, 55, 56, 57, 58, 59, 60, 61, 62, 63, 64, 65, 66, 67, 68, 69, 70, 71, 72, 73, 74, 75, 76, 77, 78, 79, 80, 81, 82, 83, 84, 85, 86, 87, 88, 89, 90, 91, 92, 93, 94, 95, 96, 97, 98, 99, 100, 101] (by decide +kernel) (by decide +kernel)
set_option maxRecDepth 20000 in
theorem gX8_findOrder_X8_looseBy : GoodIn wsX8_findOrder (wsV RX8 258 RX8 yX8_looseBy wsX8_looseBy) := goodIn_app (goodIn_of _ (by decide +kernel)) ggX8_findOrder_X8_looseBy
theorem dX8_findOrder_0 : decode cX8_findOrder 0 = .ok (.aload_n 0, 1) := by decide +kernel
theorem dX8_findOrder_1 : decode cX8_findOrder 1 = .ok (.getfield 10, 3) := by decide +kernel
theorem dX8_findOrder_4 : decode cX8_findOrder 4 = .ok (.getfield 228, 3) := by decide +kernel
theorem dX8_findOrder_7 : decode cX8_findOrder 7 = .ok (.istore_n 1, 1) := by decide +kernel
theorem dX8_findOrder_8 : decode cX8_findOrder 8 = .ok (.aload_n 0, 1) := by decide +kernel
theorem dX8_findOrder_9 : decode cX8_findOrder 9 = .ok (.iconst 0, 1) := by decide +kernel
theorem dX8_findOrder_10 : decode cX8_findOrder 10 = .ok (.putfield 56, 3) := by decide +kernel
theorem dX8_findOrder_13 : decode cX8_findOrder 13 = .ok (.iconst 0, 1) := by decide +kernel
theorem dX8_findOrder_14 : decode cX8_findOrder 14 = .ok (.istore_n 2, 1) := by decide +kernel
theorem dX8_findOrder_15 : decode cX8_findOrder 15 = .ok (.iload_n 2, 1) := by decide +kernel
theorem dX8_findOrder_16 : decode cX8_findOrder 16 = .ok (.bipush 8, 2) := by decide +kernel
theorem dX8_findOrder_18 : decode cX8_findOrder 18 = .ok (.if_icmp .ge 55, 3) := by decide +kernel
theorem dX8_findOrder_21 : decode cX8_findOrder 21 = .ok (.aload_n 0, 1) := by decide +kernel
theorem dX8_findOrder_22 : decode cX8_findOrder 22 = .ok (.iload_n 1, 1) := by decide +kernel
theorem dX8_findOrder_23 : decode cX8_findOrder 23 = .ok (.invokevirtual 350, 3) := by decide +kernel
theorem dX8_findOrder_26 : decode cX8_findOrder 26 = .ok (.istore_n 3, 1) := by decide +kernel
theorem dX8_findOrder_27 : decode cX8_findOrder 27 = .ok (.iload_n 3, 1) := by decide +kernel
theorem dX8_findOrder_28 : decode cX8_findOrder 28 = .ok (.iconst (-1), 1) := by decide +kernel
theorem dX8_findOrder_29 : decode cX8_findOrder 29 = .ok (.if_icmp .ne 6, 3) := by decide +kernel
theorem dX8_findOrder_32 : decode cX8_findOrder 32 = .ok (.goto 41, 3) := by decide +kernel
theorem dX8_findOrder_35 : decode cX8_findOrder 35 = .ok (.aload_n 0, 1) := by decide +kernel
theorem dX8_findOrder_36 : decode cX8_findOrder 36 = .ok (.getfield 50, 3) := by decide +kernel
theorem dX8_findOrder_39 : decode cX8_findOrder 39 = .ok (.iload_n 2, 1) := by decide +kernel
theorem dX8_findOrder_40 : decode cX8_findOrder 40 = .ok (.iload_n 3, 1) := by decide +kernel
theorem dX8_findOrder_41 : decode cX8_findOrder 41 = .ok (.iastore, 1) := by decide +kernel
theorem dX8_findOrder_42 : decode cX8_findOrder 42 = .ok (.aload_n 0, 1) := by decide +kernel
theorem dX8_findOrder_43 : decode cX8_findOrder 43 = .ok (.getfield 53, 3) := by decide +kernel
theorem dX8_findOrder_46 : decode cX8_findOrder 46 = .ok (.iload_n 2, 1) := by decide +kernel
theorem dX8_findOrder_47 : decode cX8_findOrder 47 = .ok (.aload_n 0, 1) := by decide +kernel
theorem dX8_findOrder_48 : decode cX8_findOrder 48 = .ok (.iload_n 3, 1) := by decide +kernel
theorem dX8_findOrder_49 : decode cX8_findOrder 49 = .ok (.iload_n 1, 1) := by decide +kernel
theorem dX8_findOrder_50 : decode cX8_findOrder 50 = .ok (.invokevirtual 258, 3) := by decide +kernel
theorem dX8_findOrder_53 : decode cX8_findOrder 53 = .ok (.iastore, 1) := by decide +kernel
theorem dX8_findOrder_54 : decode cX8_findOrder 54 = .ok (.aload_n 0, 1) := by decide +kernel
theorem dX8_findOrder_55 : decode cX8_findOrder 55 = .ok (.iload_n 2, 1) := by decide +kernel
theorem dX8_findOrder_56 : decode cX8_findOrder 56 = .ok (.iconst 1, 1) := by decide +kernel
theorem dX8_findOrder_57 : decode cX8_findOrder 57 = .ok (.iadd, 1) := by decide +kernel
theorem dX8_findOrder_58 : decode cX8_findOrder 58 = .ok (.putfield 56, 3) := by decide +kernel
theorem dX8_findOrder_61 : decode cX8_findOrder 61 = .ok (.iload_n 1, 1) := by decide +kernel
theorem dX8_findOrder_62 : decode cX8_findOrder 62 = .ok (.iconst 1, 1) := by decide +kernel
theorem dX8_findOrder_63 : decode cX8_findOrder 63 = .ok (.iload_n 3, 1) := by decide +kernel
theorem dX8_findOrder_64 : decode cX8_findOrder 64 = .ok (.ishl, 1) := by decide +kernel
theorem dX8_findOrder_65 : decode cX8_findOrder 65 = .ok (.ior, 1) := by decide +kernel
theorem dX8_findOrder_66 : decode cX8_findOrder 66 = .ok (.istore_n 1, 1) := by decide +kernel
theorem dX8_findOrder_67 : decode cX8_findOrder 67 = .ok (.iinc 2 1, 3) := by decide +kernel
theorem dX8_findOrder_70 : decode cX8_findOrder 70 = .ok (.goto (-55), 3) := by decide +kernel
theorem dX8_findOrder_73 : decode cX8_findOrder 73 = .ok (.aload_n 0, 1) := by decide +kernel
theorem dX8_findOrder_74 : decode cX8_findOrder 74 = .ok (.iconst 1, 1) := by decide +kernel
theorem dX8_findOrder_75 : decode cX8_findOrder 75 = .ok (.aload_n 0, 1) := by decide +kernel
theorem dX8_findOrder_76 : decode cX8_findOrder 76 = .ok (.getfield 10, 3) := by decide +kernel
theorem dX8_findOrder_79 : decode cX8_findOrder 79 = .ok (.getfield 179, 3) := by decide +kernel
theorem dX8_findOrder_82 : decode cX8_findOrder 82 = .ok (.ishl, 1) := by decide +kernel
theorem dX8_findOrder_83 : decode cX8_findOrder 83 = .ok (.iconst 1, 1) := by decide +kernel
theorem dX8_findOrder_84 : decode cX8_findOrder 84 = .ok (.isub, 1) := by decide +kernel
theorem dX8_findOrder_85 : decode cX8_findOrder 85 = .ok (.iload_n 1, 1) := by decide +kernel
theorem dX8_findOrder_86 : decode cX8_findOrder 86 = .ok (.iconst (-1), 1) := by decide +kernel
theorem dX8_findOrder_87 : decode cX8_findOrder 87 = .ok (.ixor, 1) := by decide +kernel
theorem dX8_findOrder_88 : decode cX8_findOrder 88 = .ok (.iand, 1) := by decide +kernel
theorem dX8_findOrder_89 : decode cX8_findOrder 89 = .ok (.putfield 60, 3) := by decide +kernel
theorem dX8_findOrder_92 : decode cX8_findOrder 92 = .ok (.return_, 1) := by decide +kernel
set_option maxRecDepth 20000 in
theorem ggX9_init_X9_showOnes : GoodIn wsX9_init wsX9_showOnes := goodIn_r _ [34, 19, 35, 36, 37, 38, 39, 40, 41, 42, 43, 44, 45, 46, 47, 48, 49, 50, 51, 52, 53, 54, 55, 56, 57, 58, 59, 60, 61, 62, 63, 64, 65, 66, 67, 68, 69, 70, 71] (by decide +kernel) (by decide +kernel)
set_option maxRecDepth 20000 in
theorem gX9_init_X9_showOnes : GoodIn wsX9_init (wsV RX9 83 RX9 yX9_showOnes wsX9_showOnes) := goodIn_app (goodIn_of _ (by decide +kernel)) ggX9_init_X9_showOnes
theorem dX9_init_0 : decode cX9_init 0 = .ok (.aload_n 0, 1) := by decide +kernel
theorem dX9_init_1 : decode cX9_init 1 = .ok (.invokespecial 1, 3) := by decide +kernel
theorem dX9_init_4 : decode cX9_init 4 = .ok (.aload_n 0, 1) := by decide +kernel
theorem dX9_init_5 : decode cX9_init 5 = .ok (.bipush 8, 2) := by decide +kernel
theorem dX9_init_7 : decode cX9_init 7 = .ok (.newarray .int, 2) := by decide +kernel
theorem dX9_init_9 : decode cX9_init 9 = .ok (.putfield 7, 3) := by decide +kernel
theorem dX9_init_12 : decode cX9_init 12 = .ok (.aload_n 0, 1) := by decide +kernel
theorem dX9_init_13 : decode cX9_init 13 = .ok (.bipush 8, 2) := by decide +kernel
theorem dX9_init_15 : decode cX9_init 15 = .ok (.newarray .int, 2) := by decide +kernel
theorem dX9_init_17 : decode cX9_init 17 = .ok (.putfield 13, 3) := by decide +kernel
theorem dX9_init_20 : decode cX9_init 20 = .ok (.aload_n 0, 1) := by decide +kernel
theorem dX9_init_21 : decode cX9_init 21 = .ok (.bipush 8, 2) := by decide +kernel
theorem dX9_init_23 : decode cX9_init 23 = .ok (.newarray .int, 2) := by decide +kernel
theorem dX9_init_25 : decode cX9_init 25 = .ok (.putfield 16, 3) := by decide +kernel
theorem dX9_init_28 : decode cX9_init 28 = .ok (.aload_n 0, 1) := by decide +kernel
theorem dX9_init_29 : decode cX9_init 29 = .ok (.bipush 8, 2) := by decide +kernel
theorem dX9_init_31 : decode cX9_init 31 = .ok (.bipush 40, 2) := by decide +kernel
theorem dX9_init_33 : decode cX9_init 33 = .ok (.multianewarray 19 2, 4) := by decide +kernel
theorem dX9_init_37 : decode cX9_init 37 = .ok (.putfield 21, 3) := by decide +kernel
theorem dX9_init_40 : decode cX9_init 40 = .ok (.aload_n 0, 1) := by decide +kernel
theorem dX9_init_41 : decode cX9_init 41 = .ok (.bipush 40, 2) := by decide +kernel
theorem dX9_init_43 : decode cX9_init 43 = .ok (.newarray .long, 2) := by decide +kernel
theorem dX9_init_45 : decode cX9_init 45 = .ok (.putfield 24, 3) := by decide +kernel
theorem dX9_init_48 : decode cX9_init 48 = .ok (.aload_n 0, 1) := by decide +kernel
theorem dX9_init_49 : decode cX9_init 49 = .ok (.bipush 8, 2) := by decide +kernel
theorem dX9_init_51 : decode cX9_init 51 = .ok (.newarray .int, 2) := by decide +kernel
theorem dX9_init_53 : decode cX9_init 53 = .ok (.putfield 28, 3) := by decide +kernel
theorem dX9_init_56 : decode cX9_init 56 = .ok (.aload_n 0, 1) := by decide +kernel
theorem dX9_init_57 : decode cX9_init 57 = .ok (.bipush 8, 2) := by decide +kernel
theorem dX9_init_59 : decode cX9_init 59 = .ok (.newarray .int, 2) := by decide +kernel
theorem dX9_init_61 : decode cX9_init 61 = .ok (.putfield 31, 3) := by decide +kernel
theorem dX9_init_64 : decode cX9_init 64 = .ok (.aload_n 0, 1) := by decide +kernel
theorem dX9_init_65 : decode cX9_init 65 = .ok (.bipush 8, 2) := by decide +kernel
theorem dX9_init_67 : decode cX9_init 67 = .ok (.newarray .int, 2) := by decide +kernel
theorem dX9_init_69 : decode cX9_init 69 = .ok (.putfield 34, 3) := by decide +kernel
theorem dX9_init_72 : decode cX9_init 72 = .ok (.aload_n 0, 1) := by decide +kernel
theorem dX9_init_73 : decode cX9_init 73 = .ok (.sipush 250, 3) := by decide +kernel
theorem dX9_init_76 : decode cX9_init 76 = .ok (.newarray .int, 2) := by decide +kernel
theorem dX9_init_78 : decode cX9_init 78 = .ok (.putfield 37, 3) := by decide +kernel
theorem dX9_init_81 : decode cX9_init 81 = .ok (.aload_n 0, 1) := by decide +kernel
theorem dX9_init_82 : decode cX9_init 82 = .ok (.bipush 8, 2) := by decide +kernel
theorem dX9_init_84 : decode cX9_init 84 = .ok (.newarray .int, 2) := by decide +kernel
theorem dX9_init_86 : decode cX9_init 86 = .ok (.putfield 40, 3) := by decide +kernel
theorem dX9_init_89 : decode cX9_init 89 = .ok (.aload_n 0, 1) := by decide +kernel
theorem dX9_init_90 : decode cX9_init 90 = .ok (.iconst 3, 1) := by decide +kernel
theorem dX9_init_91 : decode cX9_init 91 = .ok (.putfield 43, 3) := by decide +kernel
theorem dX9_init_94 : decode cX9_init 94 = .ok (.aload_n 0, 1) := by decide +kernel
theorem dX9_init_95 : decode cX9_init 95 = .ok (.bipush 8, 2) := by decide +kernel
theorem dX9_init_97 : decode cX9_init 97 = .ok (.newarray .long, 2) := by decide +kernel
theorem dX9_init_99 : decode cX9_init 99 = .ok (.putfield 47, 3) := by decide +kernel
theorem dX9_init_102 : decode cX9_init 102 = .ok (.aload_n 0, 1) := by decide +kernel
theorem dX9_init_103 : decode cX9_init 103 = .ok (.bipush 64, 2) := by decide +kernel
theorem dX9_init_105 : decode cX9_init 105 = .ok (.newarray .int, 2) := by decide +kernel
theorem dX9_init_107 : decode cX9_init 107 = .ok (.putfield 50, 3) := by decide +kernel
theorem dX9_init_110 : decode cX9_init 110 = .ok (.aload_n 0, 1) := by decide +kernel
theorem dX9_init_111 : decode cX9_init 111 = .ok (.bipush 64, 2) := by decide +kernel
theorem dX9_init_113 : decode cX9_init 113 = .ok (.putfield 53, 3) := by decide +kernel
theorem dX9_init_116 : decode cX9_init 116 = .ok (.aload_n 0, 1) := by decide +kernel
theorem dX9_init_117 : decode cX9_init 117 = .ok (.bipush 100, 2) := by decide +kernel
theorem dX9_init_119 : decode cX9_init 119 = .ok (.putfield 56, 3) := by decide +kernel
theorem dX9_init_122 : decode cX9_init 122 = .ok (.aload_n 0, 1) := by decide +kernel
theorem dX9_init_123 : decode cX9_init 123 = .ok (.iconst 2, 1) := by decide +kernel
theorem dX9_init_124 : decode cX9_init 124 = .ok (.newarray .int, 2) := by decide +kernel
theorem dX9_init_126 : decode cX9_init 126 = .ok (.putfield 59, 3) := by decide +kernel
theorem dX9_init_129 : decode cX9_init 129 = .ok (.aload_n 0, 1) := by decide +kernel
theorem dX9_init_130 : decode cX9_init 130 = .ok (.bipush 8, 2) := by decide +kernel
theorem dX9_init_132 : decode cX9_init 132 = .ok (.newarray .int, 2) := by decide +kernel
theorem dX9_init_134 : decode cX9_init 134 = .ok (.putfield 62, 3) := by decide +kernel
theorem dX9_init_137 : decode cX9_init 137 = .ok (.aload_n 0, 1) := by decide +kernel
theorem dX9_init_138 : decode cX9_init 138 = .ok (.bipush 8, 2) := by decide +kernel
theorem dX9_init_140 : decode cX9_init 140 = .ok (.newarray .int, 2) := by decide +kernel
theorem dX9_init_142 : decode cX9_init 142 = .ok (.putfield 65, 3) := by decide +kernel
theorem dX9_init_145 : decode cX9_init 145 = .ok (.aload_n 0, 1) := by decide +kernel
theorem dX9_init_146 : decode cX9_init 146 = .ok (.bipush 64, 2) := by decide +kernel
theorem dX9_init_148 : decode cX9_init 148 = .ok (.newarray .int, 2) := by decide +kernel
theorem dX9_init_150 : decode cX9_init 150 = .ok (.putfield 68, 3) := by decide +kernel
theorem dX9_init_153 : decode cX9_init 153 = .ok (.aload_n 0, 1) := by decide +kernel
theorem dX9_init_154 : decode cX9_init 154 = .ok (.bipush 64, 2) := by decide +kernel
theorem dX9_init_156 : decode cX9_init 156 = .ok (.newarray .int, 2) := by decide +kernel
theorem dX9_init_158 : decode cX9_init 158 = .ok (.putfield 71, 3) := by decide +kernel
theorem dX9_init_161 : decode cX9_init 161 = .ok (.aload_n 0, 1) := by decide +kernel
theorem dX9_init_162 : decode cX9_init 162 = .ok (.bipush 64, 2) := by decide +kernel
theorem dX9_init_164 : decode cX9_init 164 = .ok (.newarray .long, 2) := by decide +kernel
theorem dX9_init_166 : decode cX9_init 166 = .ok (.putfield 74, 3) := by decide +kernel
theorem dX9_init_169 : decode cX9_init 169 = .ok (.aload_n 0, 1) := by decide +kernel
theorem dX9_init_170 : decode cX9_init 170 = .ok (.iconst 3, 1) := by decide +kernel
theorem dX9_init_171 : decode cX9_init 171 = .ok (.newarray .int, 2) := by decide +kernel
theorem dX9_init_173 : decode cX9_init 173 = .ok (.putfield 77, 3) := by decide +kernel
theorem dX9_init_176 : decode cX9_init 176 = .ok (.aload_n 0, 1) := by decide +kernel
theorem dX9_init_177 : decode cX9_init 177 = .ok (.bipush 64, 2) := by decide +kernel
theorem dX9_init_179 : decode cX9_init 179 = .ok (.newarray .int, 2) := by decide +kernel
theorem dX9_init_181 : decode cX9_init 181 = .ok (.putfield 80, 3) := by decide +kernel
theorem dX9_init_184 : decode cX9_init 184 = .ok (.aload_n 0, 1) := by decide +kernel
theorem dX9_init_185 : decode cX9_init 185 = .ok (.invokevirtual 83, 3) := by decide +kernel
theorem dX9_init_188 : decode cX9_init 188 = .ok (.return_, 1) := by decide +kernel
theorem dX9_showOnes_0 : decode cX9_showOnes 0 = .ok (.iconst 0, 1) := by decide +kernel
theorem dX9_showOnes_1 : decode cX9_showOnes 1 = .ok (.istore_n 1, 1) := by decide +kernel
theorem dX9_showOnes_2 : decode cX9_showOnes 2 = .ok (.iload_n 1, 1) := by decide +kernel
theorem dX9_showOnes_3 : decode cX9_showOnes 3 = .ok (.bipush 64, 2) := by decide +kernel
theorem dX9_showOnes_5 : decode cX9_showOnes 5 = .ok (.if_icmp .ge 16, 3) := by decide +kernel
theorem dX9_showOnes_8 : decode cX9_showOnes 8 = .ok (.aload_n 0, 1) := by decide +kernel
theorem dX9_showOnes_9 : decode cX9_showOnes 9 = .ok (.getfield 50, 3) := by decide +kernel
theorem dX9_showOnes_12 : decode cX9_showOnes 12 = .ok (.iload_n 1, 1) := by decide +kernel
theorem dX9_showOnes_13 : decode cX9_showOnes 13 = .ok (.iconst 1, 1) := by decide +kernel
theorem dX9_showOnes_14 : decode cX9_showOnes 14 = .ok (.iastore, 1) := by decide +kernel
theorem dX9_showOnes_15 : decode cX9_showOnes 15 = .ok (.iinc 1 1, 3) := by decide +kernel
theorem dX9_showOnes_18 : decode cX9_showOnes 18 = .ok (.goto (-16), 3) := by decide +kernel
theorem dX9_showOnes_21 : decode cX9_showOnes 21 = .ok (.return_, 1) := by decide +kernel
theorem dX9_refuse_0 : decode cX9_refuse 0 = .ok (.aload_n 0, 1) := by decide +kernel
theorem dX9_refuse_1 : decode cX9_refuse 1 = .ok (.getfield 40, 3) := by decide +kernel
theorem dX9_refuse_4 : decode cX9_refuse 4 = .ok (.iload_n 1, 1) := by decide +kernel
theorem dX9_refuse_5 : decode cX9_refuse 5 = .ok (.ineg, 1) := by decide +kernel
theorem dX9_refuse_6 : decode cX9_refuse 6 = .ok (.dup2, 1) := by decide +kernel
theorem dX9_refuse_7 : decode cX9_refuse 7 = .ok (.iaload, 1) := by decide +kernel
theorem dX9_refuse_8 : decode cX9_refuse 8 = .ok (.iconst 1, 1) := by decide +kernel
theorem dX9_refuse_9 : decode cX9_refuse 9 = .ok (.iadd, 1) := by decide +kernel
theorem dX9_refuse_10 : decode cX9_refuse 10 = .ok (.iastore, 1) := by decide +kernel
theorem dX9_refuse_11 : decode cX9_refuse 11 = .ok (.iload_n 1, 1) := by decide +kernel
theorem dX9_refuse_12 : decode cX9_refuse 12 = .ok (.ireturn, 1) := by decide +kernel
theorem dX9_in_0 : decode cX9_in 0 = .ok (.lload_n 0, 1) := by decide +kernel
theorem dX9_in_1 : decode cX9_in 1 = .ok (.lload_n 2, 1) := by decide +kernel
theorem dX9_in_2 : decode cX9_in 2 = .ok (.lcmp, 1) := by decide +kernel
theorem dX9_in_3 : decode cX9_in 3 = .ok (.ifCond .lt 14, 3) := by decide +kernel
theorem dX9_in_6 : decode cX9_in 6 = .ok (.lload_n 0, 1) := by decide +kernel
theorem dX9_in_7 : decode cX9_in 7 = .ok (.lload 4, 2) := by decide +kernel
theorem dX9_in_9 : decode cX9_in 9 = .ok (.lcmp, 1) := by decide +kernel
theorem dX9_in_10 : decode cX9_in 10 = .ok (.ifCond .gt 7, 3) := by decide +kernel
theorem dX9_in_13 : decode cX9_in 13 = .ok (.iconst 1, 1) := by decide +kernel
theorem dX9_in_14 : decode cX9_in 14 = .ok (.goto 4, 3) := by decide +kernel
theorem dX9_in_17 : decode cX9_in 17 = .ok (.iconst 0, 1) := by decide +kernel
theorem dX9_in_18 : decode cX9_in 18 = .ok (.ireturn, 1) := by decide +kernel
theorem dX9_many_0 : decode cX9_many 0 = .ok (.aload_n 0, 1) := by decide +kernel
theorem dX9_many_1 : decode cX9_many 1 = .ok (.getfield 43, 3) := by decide +kernel
theorem dX9_many_4 : decode cX9_many 4 = .ok (.aload_n 0, 1) := by decide +kernel
theorem dX9_many_5 : decode cX9_many 5 = .ok (.getfield 43, 3) := by decide +kernel
theorem dX9_many_8 : decode cX9_many 8 = .ok (.imul, 1) := by decide +kernel
theorem dX9_many_9 : decode cX9_many 9 = .ok (.aload_n 0, 1) := by decide +kernel
theorem dX9_many_10 : decode cX9_many 10 = .ok (.getfield 43, 3) := by decide +kernel
theorem dX9_many_13 : decode cX9_many 13 = .ok (.imul, 1) := by decide +kernel
theorem dX9_many_14 : decode cX9_many 14 = .ok (.ireturn, 1) := by decide +kernel
set_option maxRecDepth 20000 in
theorem ggX9_isCube_X9_many : GoodIn wsX9_isCube wsX9_many := goodIn_r _ [5, 6, 10, 11, 12, 13, 14, 15, 16, 17, 18, 19, 20, 21, 22, 23, 24, 25, 26, 27, 28, 29, 30, 31, 32, 33, 34, 35, 36, 37, 38, 39, 40, 41, 42, 43, 44, 45, 46] (by decide +kernel) (by decide +kernel)
set_option maxRecDepth 20000 in
theorem gX9_isCube_X9_many : GoodIn wsX9_isCube (wsV RX9 86 RX9 yX9_many wsX9_many) := goodIn_app (goodIn_of _ (by decide +kernel)) ggX9_isCube_X9_many
set_option maxRecDepth 20000 in
theorem ggX9_isCube_X9_in : GoodIn wsX9_isCube wsX9_in := goodIn_r _ [9] (by decide +kernel) (by decide +kernel)
set_option maxRecDepth 20000 in
theorem gX9_isCube_X9_in : GoodIn wsX9_isCube (va_wsS RX9 90 yX9_in wsX9_in) := goodIn_app (goodIn_of _ (by decide +kernel)) ggX9_isCube_X9_in
theorem dX9_isCube_0 : decode cX9_isCube 0 = .ok (.iload_n 1, 1) := by decide +kernel
theorem dX9_isCube_1 : decode cX9_isCube 1 = .ok (.i2l, 1) := by decide +kernel
theorem dX9_isCube_2 : decode cX9_isCube 2 = .ok (.lconst 0, 1) := by decide +kernel
theorem dX9_isCube_3 : decode cX9_isCube 3 = .ok (.aload_n 0, 1) := by decide +kernel
theorem dX9_isCube_4 : decode cX9_isCube 4 = .ok (.invokevirtual 86, 3) := by decide +kernel
theorem dX9_isCube_7 : decode cX9_isCube 7 = .ok (.iconst 1, 1) := by decide +kernel
theorem dX9_isCube_8 : decode cX9_isCube 8 = .ok (.isub, 1) := by decide +kernel
theorem dX9_isCube_9 : decode cX9_isCube 9 = .ok (.i2l, 1) := by decide +kernel
theorem dX9_isCube_10 : decode cX9_isCube 10 = .ok (.invokestatic 90, 3) := by decide +kernel
theorem dX9_isCube_13 : decode cX9_isCube 13 = .ok (.ireturn, 1) := by decide +kernel
set_option maxRecDepth 20000 in
theorem ggX9_isPiece_X9_in : GoodIn wsX9_isPiece wsX9_in := goodIn_r _ [5] (by decide +kernel) (by decide +kernel)
set_option maxRecDepth 20000 in
theorem gX9_isPiece_X9_in : GoodIn wsX9_isPiece (va_wsS RX9 90 yX9_in wsX9_in) := goodIn_app (goodIn_of _ (by decide +kernel)) ggX9_isPiece_X9_in
theorem dX9_isPiece_0 : decode cX9_isPiece 0 = .ok (.iload_n 1, 1) := by decide +kernel
theorem dX9_isPiece_1 : decode cX9_isPiece 1 = .ok (.i2l, 1) := by decide +kernel
theorem dX9_isPiece_2 : decode cX9_isPiece 2 = .ok (.lconst 0, 1) := by decide +kernel
theorem dX9_isPiece_3 : decode cX9_isPiece 3 = .ok (.aload_n 0, 1) := by decide +kernel
theorem dX9_isPiece_4 : decode cX9_isPiece 4 = .ok (.getfield 94, 3) := by decide +kernel
theorem dX9_isPiece_7 : decode cX9_isPiece 7 = .ok (.iconst 1, 1) := by decide +kernel
theorem dX9_isPiece_8 : decode cX9_isPiece 8 = .ok (.isub, 1) := by decide +kernel
theorem dX9_isPiece_9 : decode cX9_isPiece 9 = .ok (.i2l, 1) := by decide +kernel
theorem dX9_isPiece_10 : decode cX9_isPiece 10 = .ok (.invokestatic 90, 3) := by decide +kernel
theorem dX9_isPiece_13 : decode cX9_isPiece 13 = .ok (.ireturn, 1) := by decide +kernel
theorem dX9_isOff_0 : decode cX9_isOff 0 = .ok (.aload_n 0, 1) := by decide +kernel
theorem dX9_isOff_1 : decode cX9_isOff 1 = .ok (.getfield 97, 3) := by decide +kernel
theorem dX9_isOff_4 : decode cX9_isOff 4 = .ok (.iload_n 1, 1) := by decide +kernel
theorem dX9_isOff_5 : decode cX9_isOff 5 = .ok (.ishr, 1) := by decide +kernel
theorem dX9_isOff_6 : decode cX9_isOff 6 = .ok (.iconst 1, 1) := by decide +kernel
theorem dX9_isOff_7 : decode cX9_isOff 7 = .ok (.iand, 1) := by decide +kernel
theorem dX9_isOff_8 : decode cX9_isOff 8 = .ok (.ifCond .eq 7, 3) := by decide +kernel
theorem dX9_isOff_11 : decode cX9_isOff 11 = .ok (.iconst 1, 1) := by decide +kernel
theorem dX9_isOff_12 : decode cX9_isOff 12 = .ok (.goto 4, 3) := by decide +kernel
theorem dX9_isOff_15 : decode cX9_isOff 15 = .ok (.iconst 0, 1) := by decide +kernel
theorem dX9_isOff_16 : decode cX9_isOff 16 = .ok (.ireturn, 1) := by decide +kernel
set_option maxRecDepth 20000 in
theorem ggX9_block_X9_many : GoodIn wsX9_block wsX9_many := goodIn_r _ [7, 1, 8, 9, 10, 11, 12, 13, 14, 15, 16, 17, 18, 19, 20, 21, 22, 23, 24, 25, 26, 27, 28, 29, 30, 31, 32, 33, 34, 35, 36, 37, 38, 39, 40, 41, 42, 43, 44] (by decide +kernel) (by decide +kernel)
set_option maxRecDepth 20000 in
theorem gX9_block_X9_many : GoodIn wsX9_block (wsV RX9 86 RX9 yX9_many wsX9_many) := goodIn_app (goodIn_of _ (by decide +kernel)) ggX9_block_X9_many
theorem dX9_block_0 : decode cX9_block 0 = .ok (.aload_n 0, 1) := by decide +kernel
theorem dX9_block_1 : decode cX9_block 1 = .ok (.getfield 43, 3) := by decide +kernel
theorem dX9_block_4 : decode cX9_block 4 = .ok (.iconst 4, 1) := by decide +kernel
theorem dX9_block_5 : decode cX9_block 5 = .ok (.if_icmp .ne 9, 3) := by decide +kernel
theorem dX9_block_8 : decode cX9_block 8 = .ok (.ldc2_w 100, 3) := by decide +kernel
theorem dX9_block_11 : decode cX9_block 11 = .ok (.goto 11, 3) := by decide +kernel
theorem dX9_block_14 : decode cX9_block 14 = .ok (.lconst 1, 1) := by decide +kernel
theorem dX9_block_15 : decode cX9_block 15 = .ok (.aload_n 0, 1) := by decide +kernel
theorem dX9_block_16 : decode cX9_block 16 = .ok (.invokevirtual 86, 3) := by decide +kernel
theorem dX9_block_19 : decode cX9_block 19 = .ok (.lshl, 1) := by decide +kernel
theorem dX9_block_20 : decode cX9_block 20 = .ok (.lconst 1, 1) := by decide +kernel
theorem dX9_block_21 : decode cX9_block 21 = .ok (.lsub, 1) := by decide +kernel
theorem dX9_block_22 : decode cX9_block 22 = .ok (.lreturn, 1) := by decide +kernel
set_option maxRecDepth 20000 in
theorem ggX9_empty_X9_block : GoodIn wsX9_empty wsX9_block := goodIn_r _ [7, 8, 2, 9, 10, 11, 6, 12, 13, 14, 15, 16, 17, 18, 19, 20, 21, 22, 23, 24, 25, 26, 27, 28, 29, 30, 31, 32, 33, 34, 35, 36, 37, 38, 39, 40, 41, 42, 43, 44, 45, 46, 47, 48, 49] (by decide +kernel) (by decide +kernel)
set_option maxRecDepth 20000 in
theorem gX9_empty_X9_block : GoodIn wsX9_empty (wsV RX9 102 RX9 yX9_block wsX9_block) := goodIn_app (goodIn_of _ (by decide +kernel)) ggX9_empty_X9_block
theorem dX9_empty_0 : decode cX9_empty 0 = .ok (.aload_n 0, 1) := by decide +kernel
theorem dX9_empty_1 : decode cX9_empty 1 = .ok (.invokevirtual 102, 3) := by decide +kernel
theorem dX9_empty_4 : decode cX9_empty 4 = .ok (.aload_n 0, 1) := by decide +kernel
theorem dX9_empty_5 : decode cX9_empty 5 = .ok (.getfield 106, 3) := by decide +kernel
theorem dX9_empty_8 : decode cX9_empty 8 = .ok (.ldc2_w 100, 3) := by decide +kernel
theorem dX9_empty_11 : decode cX9_empty 11 = .ok (.lxor, 1) := by decide +kernel
theorem dX9_empty_12 : decode cX9_empty 12 = .ok (.land, 1) := by decide +kernel
theorem dX9_empty_13 : decode cX9_empty 13 = .ok (.lreturn, 1) := by decide +kernel
theorem dX9_has_0 : decode cX9_has 0 = .ok (.lload_n 0, 1) := by decide +kernel
theorem dX9_has_1 : decode cX9_has 1 = .ok (.iload_n 2, 1) := by decide +kernel
theorem dX9_has_2 : decode cX9_has 2 = .ok (.lushr, 1) := by decide +kernel
theorem dX9_has_3 : decode cX9_has 3 = .ok (.lconst 1, 1) := by decide +kernel
theorem dX9_has_4 : decode cX9_has 4 = .ok (.land, 1) := by decide +kernel
theorem dX9_has_5 : decode cX9_has 5 = .ok (.lconst 0, 1) := by decide +kernel
theorem dX9_has_6 : decode cX9_has 6 = .ok (.lcmp, 1) := by decide +kernel
theorem dX9_has_7 : decode cX9_has 7 = .ok (.ifCond .eq 7, 3) := by decide +kernel
theorem dX9_has_10 : decode cX9_has 10 = .ok (.iconst 1, 1) := by decide +kernel
theorem dX9_has_11 : decode cX9_has 11 = .ok (.goto 4, 3) := by decide +kernel
theorem dX9_has_14 : decode cX9_has 14 = .ok (.iconst 0, 1) := by decide +kernel
theorem dX9_has_15 : decode cX9_has 15 = .ok (.ireturn, 1) := by decide +kernel
set_option maxRecDepth 20000 in
theorem ggX9_bits_X9_has : GoodIn wsX9_bits wsX9_has := goodIn_r _ [4] (by decide +kernel) (by decide +kernel)
set_option maxRecDepth 20000 in
theorem gX9_bits_X9_has : GoodIn wsX9_bits (va_wsS RX9 110 yX9_has wsX9_has) := goodIn_app (goodIn_of _ (by decide +kernel)) ggX9_bits_X9_has
theorem dX9_bits_0 : decode cX9_bits 0 = .ok (.iconst 0, 1) := by decide +kernel
theorem dX9_bits_1 : decode cX9_bits 1 = .ok (.istore_n 2, 1) := by decide +kernel
theorem dX9_bits_2 : decode cX9_bits 2 = .ok (.iconst 0, 1) := by decide +kernel
theorem dX9_bits_3 : decode cX9_bits 3 = .ok (.istore_n 3, 1) := by decide +kernel
theorem dX9_bits_4 : decode cX9_bits 4 = .ok (.iload_n 3, 1) := by decide +kernel
theorem dX9_bits_5 : decode cX9_bits 5 = .ok (.bipush 64, 2) := by decide +kernel
theorem dX9_bits_7 : decode cX9_bits 7 = .ok (.if_icmp .ge 25, 3) := by decide +kernel
theorem dX9_bits_10 : decode cX9_bits 10 = .ok (.iload_n 2, 1) := by decide +kernel
theorem dX9_bits_11 : decode cX9_bits 11 = .ok (.lload_n 0, 1) := by decide +kernel
theorem dX9_bits_12 : decode cX9_bits 12 = .ok (.iload_n 3, 1) := by decide +kernel
theorem dX9_bits_13 : decode cX9_bits 13 = .ok (.invokestatic 110, 3) := by decide +kernel
theorem dX9_bits_16 : decode cX9_bits 16 = .ok (.ifCond .eq 7, 3) := by decide +kernel
theorem dX9_bits_19 : decode cX9_bits 19 = .ok (.iconst 1, 1) := by decide +kernel
theorem dX9_bits_20 : decode cX9_bits 20 = .ok (.goto 4, 3) := by decide +kernel
theorem dX9_bits_23 : decode cX9_bits 23 = .ok (.iconst 0, 1) := by decide +kernel
theorem dX9_bits_24 : decode cX9_bits 24 = .ok (.iadd, 1) := by decide +kernel
theorem dX9_bits_25 : decode cX9_bits 25 = .ok (.istore_n 2, 1) := by decide +kernel
theorem dX9_bits_26 : decode cX9_bits 26 = .ok (.iinc 3 1, 3) := by decide +kernel
theorem dX9_bits_29 : decode cX9_bits 29 = .ok (.goto (-25), 3) := by decide +kernel
theorem dX9_bits_32 : decode cX9_bits 32 = .ok (.iload_n 2, 1) := by decide +kernel
theorem dX9_bits_33 : decode cX9_bits 33 = .ok (.ireturn, 1) := by decide +kernel
theorem dX9_sideOf_0 : decode cX9_sideOf 0 = .ok (.iload_n 2, 1) := by decide +kernel
theorem dX9_sideOf_1 : decode cX9_sideOf 1 = .ok (.ifCond .ne 12, 3) := by decide +kernel
theorem dX9_sideOf_4 : decode cX9_sideOf 4 = .ok (.iload_n 1, 1) := by decide +kernel
theorem dX9_sideOf_5 : decode cX9_sideOf 5 = .ok (.aload_n 0, 1) := by decide +kernel
theorem dX9_sideOf_6 : decode cX9_sideOf 6 = .ok (.getfield 43, 3) := by decide +kernel
theorem dX9_sideOf_9 : decode cX9_sideOf 9 = .ok (.irem, 1) := by decide +kernel
theorem dX9_sideOf_10 : decode cX9_sideOf 10 = .ok (.goto 33, 3) := by decide +kernel
theorem dX9_sideOf_13 : decode cX9_sideOf 13 = .ok (.iload_n 2, 1) := by decide +kernel
theorem dX9_sideOf_14 : decode cX9_sideOf 14 = .ok (.iconst 1, 1) := by decide +kernel
theorem dX9_sideOf_15 : decode cX9_sideOf 15 = .ok (.if_icmp .ne 17, 3) := by decide +kernel
theorem dX9_sideOf_18 : decode cX9_sideOf 18 = .ok (.iload_n 1, 1) := by decide +kernel
theorem dX9_sideOf_19 : decode cX9_sideOf 19 = .ok (.aload_n 0, 1) := by decide +kernel
theorem dX9_sideOf_20 : decode cX9_sideOf 20 = .ok (.getfield 43, 3) := by decide +kernel
theorem dX9_sideOf_23 : decode cX9_sideOf 23 = .ok (.idiv, 1) := by decide +kernel
theorem dX9_sideOf_24 : decode cX9_sideOf 24 = .ok (.aload_n 0, 1) := by decide +kernel
theorem dX9_sideOf_25 : decode cX9_sideOf 25 = .ok (.getfield 43, 3) := by decide +kernel
theorem dX9_sideOf_28 : decode cX9_sideOf 28 = .ok (.irem, 1) := by decide +kernel
theorem dX9_sideOf_29 : decode cX9_sideOf 29 = .ok (.goto 14, 3) := by decide +kernel
theorem dX9_sideOf_32 : decode cX9_sideOf 32 = .ok (.iload_n 1, 1) := by decide +kernel
theorem dX9_sideOf_33 : decode cX9_sideOf 33 = .ok (.aload_n 0, 1) := by decide +kernel
theorem dX9_sideOf_34 : decode cX9_sideOf 34 = .ok (.getfield 43, 3) := by decide +kernel
theorem dX9_sideOf_37 : decode cX9_sideOf 37 = .ok (.aload_n 0, 1) := by decide +kernel
theorem dX9_sideOf_38 : decode cX9_sideOf 38 = .ok (.getfield 43, 3) := by decide +kernel
theorem dX9_sideOf_41 : decode cX9_sideOf 41 = .ok (.imul, 1) := by decide +kernel
theorem dX9_sideOf_42 : decode cX9_sideOf 42 = .ok (.idiv, 1) := by decide +kernel
theorem dX9_sideOf_43 : decode cX9_sideOf 43 = .ok (.ireturn, 1) := by decide +kernel
set_option maxRecDepth 20000 in
theorem ggX9_from_X9_sideOf : GoodIn wsX9_from wsX9_sideOf := goodIn_r _ [6, 1, 7, 8, 9, 10, 11, 12, 13, 14, 15, 16, 17, 18, 19, 20, 21, 22, 23, 24, 25, 26, 27, 28, 29, 30, 31, 32, 33, 34, 35, 36, 37, 38, 39, 40, 41, 42, 43] (by decide +kernel) (by decide +kernel)
set_option maxRecDepth 20000 in
theorem gX9_from_X9_sideOf : GoodIn wsX9_from (wsV RX9 114 RX9 yX9_sideOf wsX9_sideOf) := goodIn_app (goodIn_of _ (by decide +kernel)) ggX9_from_X9_sideOf
theorem dX9_from_0 : decode cX9_from 0 = .ok (.aload_n 0, 1) := by decide +kernel
theorem dX9_from_1 : decode cX9_from 1 = .ok (.iload_n 1, 1) := by decide +kernel
theorem dX9_from_2 : decode cX9_from 2 = .ok (.iload_n 2, 1) := by decide +kernel
theorem dX9_from_3 : decode cX9_from 3 = .ok (.iconst 2, 1) := by decide +kernel
theorem dX9_from_4 : decode cX9_from 4 = .ok (.idiv, 1) := by decide +kernel
theorem dX9_from_5 : decode cX9_from 5 = .ok (.invokevirtual 114, 3) := by decide +kernel
theorem dX9_from_8 : decode cX9_from 8 = .ok (.iload_n 2, 1) := by decide +kernel
theorem dX9_from_9 : decode cX9_from 9 = .ok (.iconst 2, 1) := by decide +kernel
theorem dX9_from_10 : decode cX9_from 10 = .ok (.irem, 1) := by decide +kernel
theorem dX9_from_11 : decode cX9_from 11 = .ok (.ifCond .ne 7, 3) := by decide +kernel
theorem dX9_from_14 : decode cX9_from 14 = .ok (.iconst 1, 1) := by decide +kernel
theorem dX9_from_15 : decode cX9_from 15 = .ok (.goto 4, 3) := by decide +kernel
theorem dX9_from_18 : decode cX9_from 18 = .ok (.iconst (-1), 1) := by decide +kernel
theorem dX9_from_19 : decode cX9_from 19 = .ok (.iadd, 1) := by decide +kernel
theorem dX9_from_20 : decode cX9_from 20 = .ok (.istore_n 3, 1) := by decide +kernel
theorem dX9_from_21 : decode cX9_from 21 = .ok (.iload_n 2, 1) := by decide +kernel
theorem dX9_from_22 : decode cX9_from 22 = .ok (.iconst 2, 1) := by decide +kernel
theorem dX9_from_23 : decode cX9_from 23 = .ok (.idiv, 1) := by decide +kernel
theorem dX9_from_24 : decode cX9_from 24 = .ok (.ifCond .ne 7, 3) := by decide +kernel
theorem dX9_from_27 : decode cX9_from 27 = .ok (.iconst 1, 1) := by decide +kernel
theorem dX9_from_28 : decode cX9_from 28 = .ok (.goto 26, 3) := by decide +kernel
theorem dX9_from_31 : decode cX9_from 31 = .ok (.iload_n 2, 1) := by decide +kernel
theorem dX9_from_32 : decode cX9_from 32 = .ok (.iconst 2, 1) := by decide +kernel
theorem dX9_from_33 : decode cX9_from 33 = .ok (.idiv, 1) := by decide +kernel
theorem dX9_from_34 : decode cX9_from 34 = .ok (.iconst 1, 1) := by decide +kernel
theorem dX9_from_35 : decode cX9_from 35 = .ok (.if_icmp .ne 10, 3) := by decide +kernel
theorem dX9_from_38 : decode cX9_from 38 = .ok (.aload_n 0, 1) := by decide +kernel
theorem dX9_from_39 : decode cX9_from 39 = .ok (.getfield 43, 3) := by decide +kernel
theorem dX9_from_42 : decode cX9_from 42 = .ok (.goto 12, 3) := by decide +kernel
theorem dX9_from_45 : decode cX9_from 45 = .ok (.aload_n 0, 1) := by decide +kernel
theorem dX9_from_46 : decode cX9_from 46 = .ok (.getfield 43, 3) := by decide +kernel
theorem dX9_from_49 : decode cX9_from 49 = .ok (.aload_n 0, 1) := by decide +kernel
theorem dX9_from_50 : decode cX9_from 50 = .ok (.getfield 43, 3) := by decide +kernel
theorem dX9_from_53 : decode cX9_from 53 = .ok (.imul, 1) := by decide +kernel
theorem dX9_from_54 : decode cX9_from 54 = .ok (.istore 4, 2) := by decide +kernel
theorem dX9_from_56 : decode cX9_from 56 = .ok (.iload_n 3, 1) := by decide +kernel
theorem dX9_from_57 : decode cX9_from 57 = .ok (.ifCond .lt 11, 3) := by decide +kernel
theorem dX9_from_60 : decode cX9_from 60 = .ok (.iload_n 3, 1) := by decide +kernel
theorem dX9_from_61 : decode cX9_from 61 = .ok (.aload_n 0, 1) := by decide +kernel
theorem dX9_from_62 : decode cX9_from 62 = .ok (.getfield 43, 3) := by decide +kernel
theorem dX9_from_65 : decode cX9_from 65 = .ok (.if_icmp .lt 7, 3) := by decide +kernel
theorem dX9_from_68 : decode cX9_from 68 = .ok (.iconst (-1), 1) := by decide +kernel
theorem dX9_from_69 : decode cX9_from 69 = .ok (.goto 20, 3) := by decide +kernel
theorem dX9_from_72 : decode cX9_from 72 = .ok (.iload_n 2, 1) := by decide +kernel
theorem dX9_from_73 : decode cX9_from 73 = .ok (.iconst 2, 1) := by decide +kernel
theorem dX9_from_74 : decode cX9_from 74 = .ok (.irem, 1) := by decide +kernel
theorem dX9_from_75 : decode cX9_from 75 = .ok (.ifCond .ne 10, 3) := by decide +kernel
theorem dX9_from_78 : decode cX9_from 78 = .ok (.iload_n 1, 1) := by decide +kernel
theorem dX9_from_79 : decode cX9_from 79 = .ok (.iload 4, 2) := by decide +kernel
theorem dX9_from_81 : decode cX9_from 81 = .ok (.iadd, 1) := by decide +kernel
theorem dX9_from_82 : decode cX9_from 82 = .ok (.goto 7, 3) := by decide +kernel
theorem dX9_from_85 : decode cX9_from 85 = .ok (.iload_n 1, 1) := by decide +kernel
theorem dX9_from_86 : decode cX9_from 86 = .ok (.iload 4, 2) := by decide +kernel
theorem dX9_from_88 : decode cX9_from 88 = .ok (.isub, 1) := by decide +kernel
theorem dX9_from_89 : decode cX9_from 89 = .ok (.ireturn, 1) := by decide +kernel
set_option maxRecDepth 20000 in
theorem ggX9_row_X9_in : GoodIn wsX9_row wsX9_in := goodIn_r _ [11] (by decide +kernel) (by decide +kernel)
set_option maxRecDepth 20000 in
theorem gX9_row_X9_in : GoodIn wsX9_row (va_wsS RX9 90 yX9_in wsX9_in) := goodIn_app (goodIn_of _ (by decide +kernel)) ggX9_row_X9_in
set_option maxRecDepth 20000 in
theorem ggX9_row_X9_refuse : GoodIn wsX9_row wsX9_refuse := goodIn_r _ [15, 16, 17, 18, 19, 20, 21, 22, 23, 24, 25, 26, 27, 28, 29, 30, 31, 32, 33, 34, 35, 36, 37, 38, 39, 40, 41, 42, 43, 44, 45, 46, 47, 48, 49, 50, 51, 52, 53] (by decide +kernel) (by decide +kernel)
set_option maxRecDepth 20000 in
theorem gX9_row_X9_refuse : GoodIn wsX9_row (wsV RX9 124 RX9 yX9_refuse wsX9_refuse) := goodIn_app (goodIn_of _ (by decide +kernel)) ggX9_row_X9_refuse
theorem dX9_row_0 : decode cX9_row 0 = .ok (.iload_n 1, 1) := by decide +kernel
theorem dX9_row_1 : decode cX9_row 1 = .ok (.i2l, 1) := by decide +kernel
theorem dX9_row_2 : decode cX9_row 2 = .ok (.lconst 0, 1) := by decide +kernel
theorem dX9_row_3 : decode cX9_row 3 = .ok (.ldc2_w 118, 3) := by decide +kernel
theorem dX9_row_6 : decode cX9_row 6 = .ok (.invokestatic 90, 3) := by decide +kernel
theorem dX9_row_9 : decode cX9_row 9 = .ok (.ifCond .eq 27, 3) := by decide +kernel
theorem dX9_row_12 : decode cX9_row 12 = .ok (.iload_n 2, 1) := by decide +kernel
theorem dX9_row_13 : decode cX9_row 13 = .ok (.i2l, 1) := by decide +kernel
theorem dX9_row_14 : decode cX9_row 14 = .ok (.lconst 0, 1) := by decide +kernel
theorem dX9_row_15 : decode cX9_row 15 = .ok (.ldc2_w 120, 3) := by decide +kernel
theorem dX9_row_18 : decode cX9_row 18 = .ok (.invokestatic 90, 3) := by decide +kernel
theorem dX9_row_21 : decode cX9_row 21 = .ok (.ifCond .eq 15, 3) := by decide +kernel
theorem dX9_row_24 : decode cX9_row 24 = .ok (.iload_n 3, 1) := by decide +kernel
theorem dX9_row_25 : decode cX9_row 25 = .ok (.i2l, 1) := by decide +kernel
theorem dX9_row_26 : decode cX9_row 26 = .ok (.lconst 0, 1) := by decide +kernel
theorem dX9_row_27 : decode cX9_row 27 = .ok (.ldc2_w 122, 3) := by decide +kernel
theorem dX9_row_30 : decode cX9_row 30 = .ok (.invokestatic 90, 3) := by decide +kernel
theorem dX9_row_33 : decode cX9_row 33 = .ok (.ifCond .ne 10, 3) := by decide +kernel
theorem dX9_row_36 : decode cX9_row 36 = .ok (.aload_n 0, 1) := by decide +kernel
theorem dX9_row_37 : decode cX9_row 37 = .ok (.bipush (-2), 2) := by decide +kernel
theorem dX9_row_39 : decode cX9_row 39 = .ok (.invokevirtual 124, 3) := by decide +kernel
theorem dX9_row_42 : decode cX9_row 42 = .ok (.ireturn, 1) := by decide +kernel
theorem dX9_row_43 : decode cX9_row 43 = .ok (.aload_n 0, 1) := by decide +kernel
theorem dX9_row_44 : decode cX9_row 44 = .ok (.getfield 7, 3) := by decide +kernel
theorem dX9_row_47 : decode cX9_row 47 = .ok (.iload_n 1, 1) := by decide +kernel
theorem dX9_row_48 : decode cX9_row 48 = .ok (.iconst 1, 1) := by decide +kernel
theorem dX9_row_49 : decode cX9_row 49 = .ok (.iastore, 1) := by decide +kernel
theorem dX9_row_50 : decode cX9_row 50 = .ok (.aload_n 0, 1) := by decide +kernel
theorem dX9_row_51 : decode cX9_row 51 = .ok (.getfield 13, 3) := by decide +kernel
theorem dX9_row_54 : decode cX9_row 54 = .ok (.iload_n 1, 1) := by decide +kernel
theorem dX9_row_55 : decode cX9_row 55 = .ok (.iload_n 2, 1) := by decide +kernel
theorem dX9_row_56 : decode cX9_row 56 = .ok (.iastore, 1) := by decide +kernel
theorem dX9_row_57 : decode cX9_row 57 = .ok (.aload_n 0, 1) := by decide +kernel
theorem dX9_row_58 : decode cX9_row 58 = .ok (.getfield 16, 3) := by decide +kernel
theorem dX9_row_61 : decode cX9_row 61 = .ok (.iload_n 1, 1) := by decide +kernel
theorem dX9_row_62 : decode cX9_row 62 = .ok (.iload_n 3, 1) := by decide +kernel
theorem dX9_row_63 : decode cX9_row 63 = .ok (.iastore, 1) := by decide +kernel
theorem dX9_row_64 : decode cX9_row 64 = .ok (.iconst 0, 1) := by decide +kernel
theorem dX9_row_65 : decode cX9_row 65 = .ok (.istore 4, 2) := by decide +kernel
theorem dX9_row_67 : decode cX9_row 67 = .ok (.iload 4, 2) := by decide +kernel
theorem dX9_row_69 : decode cX9_row 69 = .ok (.bipush 40, 2) := by decide +kernel
theorem dX9_row_71 : decode cX9_row 71 = .ok (.if_icmp .ge 19, 3) := by decide +kernel
theorem dX9_row_74 : decode cX9_row 74 = .ok (.aload_n 0, 1) := by decide +kernel
theorem dX9_row_75 : decode cX9_row 75 = .ok (.getfield 21, 3) := by decide +kernel
theorem dX9_row_78 : decode cX9_row 78 = .ok (.iload_n 1, 1) := by decide +kernel
theorem dX9_row_79 : decode cX9_row 79 = .ok (.aaload, 1) := by decide +kernel
theorem dX9_row_80 : decode cX9_row 80 = .ok (.iload 4, 2) := by decide +kernel
theorem dX9_row_82 : decode cX9_row 82 = .ok (.lconst 0, 1) := by decide +kernel
theorem dX9_row_83 : decode cX9_row 83 = .ok (.lastore, 1) := by decide +kernel
theorem dX9_row_84 : decode cX9_row 84 = .ok (.iinc 4 1, 3) := by decide +kernel
theorem dX9_row_87 : decode cX9_row 87 = .ok (.goto (-20), 3) := by decide +kernel
theorem dX9_row_90 : decode cX9_row 90 = .ok (.iconst 1, 1) := by decide +kernel
theorem dX9_row_91 : decode cX9_row 91 = .ok (.ireturn, 1) := by decide +kernel
theorem dX9_fit_0 : decode cX9_fit 0 = .ok (.iload_n 0, 1) := by decide +kernel
theorem dX9_fit_1 : decode cX9_fit 1 = .ok (.tableswitch 47 0 3 #[31, 36, 41, 45], 31) := by decide +kernel
theorem dX9_fit_32 : decode cX9_fit 32 = .ok (.lload_n 1, 1) := by decide +kernel
theorem dX9_fit_33 : decode cX9_fit 33 = .ok (.l2i, 1) := by decide +kernel
theorem dX9_fit_34 : decode cX9_fit 34 = .ok (.i2b, 1) := by decide +kernel
theorem dX9_fit_35 : decode cX9_fit 35 = .ok (.i2l, 1) := by decide +kernel
theorem dX9_fit_36 : decode cX9_fit 36 = .ok (.lreturn, 1) := by decide +kernel
theorem dX9_fit_37 : decode cX9_fit 37 = .ok (.lload_n 1, 1) := by decide +kernel
theorem dX9_fit_38 : decode cX9_fit 38 = .ok (.l2i, 1) := by decide +kernel
theorem dX9_fit_39 : decode cX9_fit 39 = .ok (.i2s, 1) := by decide +kernel
theorem dX9_fit_40 : decode cX9_fit 40 = .ok (.i2l, 1) := by decide +kernel
theorem dX9_fit_41 : decode cX9_fit 41 = .ok (.lreturn, 1) := by decide +kernel
theorem dX9_fit_42 : decode cX9_fit 42 = .ok (.lload_n 1, 1) := by decide +kernel
theorem dX9_fit_43 : decode cX9_fit 43 = .ok (.l2i, 1) := by decide +kernel
theorem dX9_fit_44 : decode cX9_fit 44 = .ok (.i2l, 1) := by decide +kernel
theorem dX9_fit_45 : decode cX9_fit 45 = .ok (.lreturn, 1) := by decide +kernel
theorem dX9_fit_46 : decode cX9_fit 46 = .ok (.lload_n 1, 1) := by decide +kernel
theorem dX9_fit_47 : decode cX9_fit 47 = .ok (.lreturn, 1) := by decide +kernel
theorem dX9_fit_48 : decode cX9_fit 48 = .ok (.lload_n 1, 1) := by decide +kernel
theorem dX9_fit_49 : decode cX9_fit 49 = .ok (.lconst 0, 1) := by decide +kernel
theorem dX9_fit_50 : decode cX9_fit 50 = .ok (.lcmp, 1) := by decide +kernel
theorem dX9_fit_51 : decode cX9_fit 51 = .ok (.ifCond .eq 7, 3) := by decide +kernel
theorem dX9_fit_54 : decode cX9_fit 54 = .ok (.lconst 1, 1) := by decide +kernel
theorem dX9_fit_55 : decode cX9_fit 55 = .ok (.goto 4, 3) := by decide +kernel
theorem dX9_fit_58 : decode cX9_fit 58 = .ok (.lconst 0, 1) := by decide +kernel
theorem dX9_fit_59 : decode cX9_fit 59 = .ok (.lreturn, 1) := by decide +kernel
set_option maxRecDepth 20000 in
theorem ggX9_set_X9_noRow : GoodIn wsX9_set wsX9_noRow := goodIn_r _ [8, 9, 10, 11, 12, 7, 13, 14, 15, 16, 17, 18, 22, 23, 24, 25, 26, 27, 28, 29, 30, 31, 32, 33, 34, 35, 36, 37, 38, 39, 40, 41, 42, 43, 44, 45, 46, 47, 48, 49, 50, 51, 52, 53, 54, 55, 56, 57, 58] (by decide +kernel) (by decide +kernel)
set_option maxRecDepth 20000 in
theorem gX9_set_X9_noRow : GoodIn wsX9_set (wsV RX9 128 RX9 yX9_noRow wsX9_noRow) := goodIn_app (goodIn_of _ (by decide +kernel)) ggX9_set_X9_noRow
set_option maxRecDepth 20000 in
theorem ggX9_set_X9_in : GoodIn wsX9_set wsX9_in := goodIn_r _ [13] (by decide +kernel) (by decide +kernel)
set_option maxRecDepth 20000 in
theorem gX9_set_X9_in : GoodIn wsX9_set (va_wsS RX9 90 yX9_in wsX9_in) := goodIn_app (goodIn_of _ (by decide +kernel)) ggX9_set_X9_in
set_option maxRecDepth 20000 in
theorem ggX9_set_X9_refuse : GoodIn wsX9_set wsX9_refuse := goodIn_r _ [17, 18, 22, 23, 24, 25, 26, 27, 28, 29, 30, 31, 32, 33, 34, 35, 36, 37, 38, 39, 40, 41, 42, 43, 44, 45, 46, 47, 48, 49, 50, 51, 52, 53, 54, 55, 56, 57, 58] (by decide +kernel) (by decide +kernel)
set_option maxRecDepth 20000 in
theorem gX9_set_X9_refuse : GoodIn wsX9_set (wsV RX9 124 RX9 yX9_refuse wsX9_refuse) := goodIn_app (goodIn_of _ (by decide +kernel)) ggX9_set_X9_refuse
set_option maxRecDepth 20000 in
theorem ggX9_set_X9_fit : GoodIn wsX9_set wsX9_fit := goodIn_r _ [21] (by decide +kernel) (by decide +kernel)
set_option maxRecDepth 20000 in
theorem gX9_set_X9_fit : GoodIn wsX9_set (va_wsS RX9 131 yX9_fit wsX9_fit) := goodIn_app (goodIn_of _ (by decide +kernel)) ggX9_set_X9_fit
theorem dX9_set_0 : decode cX9_set 0 = .ok (.aload_n 0, 1) := by decide +kernel
theorem dX9_set_1 : decode cX9_set 1 = .ok (.iload_n 1, 1) := by decide +kernel
theorem dX9_set_2 : decode cX9_set 2 = .ok (.invokevirtual 128, 3) := by decide +kernel
theorem dX9_set_5 : decode cX9_set 5 = .ok (.istore 5, 2) := by decide +kernel
theorem dX9_set_7 : decode cX9_set 7 = .ok (.iload 5, 2) := by decide +kernel
theorem dX9_set_9 : decode cX9_set 9 = .ok (.ifCond .eq 6, 3) := by decide +kernel
theorem dX9_set_12 : decode cX9_set 12 = .ok (.iload 5, 2) := by decide +kernel
theorem dX9_set_14 : decode cX9_set 14 = .ok (.ireturn, 1) := by decide +kernel
theorem dX9_set_15 : decode cX9_set 15 = .ok (.iload_n 2, 1) := by decide +kernel
theorem dX9_set_16 : decode cX9_set 16 = .ok (.i2l, 1) := by decide +kernel
theorem dX9_set_17 : decode cX9_set 17 = .ok (.lconst 0, 1) := by decide +kernel
theorem dX9_set_18 : decode cX9_set 18 = .ok (.aload_n 0, 1) := by decide +kernel
theorem dX9_set_19 : decode cX9_set 19 = .ok (.getfield 16, 3) := by decide +kernel
theorem dX9_set_22 : decode cX9_set 22 = .ok (.iload_n 1, 1) := by decide +kernel
theorem dX9_set_23 : decode cX9_set 23 = .ok (.iaload, 1) := by decide +kernel
theorem dX9_set_24 : decode cX9_set 24 = .ok (.iconst 1, 1) := by decide +kernel
theorem dX9_set_25 : decode cX9_set 25 = .ok (.isub, 1) := by decide +kernel
theorem dX9_set_26 : decode cX9_set 26 = .ok (.i2l, 1) := by decide +kernel
theorem dX9_set_27 : decode cX9_set 27 = .ok (.invokestatic 90, 3) := by decide +kernel
theorem dX9_set_30 : decode cX9_set 30 = .ok (.ifCond .ne 10, 3) := by decide +kernel
theorem dX9_set_33 : decode cX9_set 33 = .ok (.aload_n 0, 1) := by decide +kernel
theorem dX9_set_34 : decode cX9_set 34 = .ok (.bipush (-2), 2) := by decide +kernel
theorem dX9_set_36 : decode cX9_set 36 = .ok (.invokevirtual 124, 3) := by decide +kernel
theorem dX9_set_39 : decode cX9_set 39 = .ok (.ireturn, 1) := by decide +kernel
theorem dX9_set_40 : decode cX9_set 40 = .ok (.aload_n 0, 1) := by decide +kernel
theorem dX9_set_41 : decode cX9_set 41 = .ok (.getfield 21, 3) := by decide +kernel
theorem dX9_set_44 : decode cX9_set 44 = .ok (.iload_n 1, 1) := by decide +kernel
theorem dX9_set_45 : decode cX9_set 45 = .ok (.aaload, 1) := by decide +kernel
theorem dX9_set_46 : decode cX9_set 46 = .ok (.iload_n 2, 1) := by decide +kernel
theorem dX9_set_47 : decode cX9_set 47 = .ok (.aload_n 0, 1) := by decide +kernel
theorem dX9_set_48 : decode cX9_set 48 = .ok (.getfield 13, 3) := by decide +kernel
theorem dX9_set_51 : decode cX9_set 51 = .ok (.iload_n 1, 1) := by decide +kernel
theorem dX9_set_52 : decode cX9_set 52 = .ok (.iaload, 1) := by decide +kernel
theorem dX9_set_53 : decode cX9_set 53 = .ok (.lload_n 3, 1) := by decide +kernel
theorem dX9_set_54 : decode cX9_set 54 = .ok (.invokestatic 131, 3) := by decide +kernel
theorem dX9_set_57 : decode cX9_set 57 = .ok (.lastore, 1) := by decide +kernel
theorem dX9_set_58 : decode cX9_set 58 = .ok (.iconst 1, 1) := by decide +kernel
theorem dX9_set_59 : decode cX9_set 59 = .ok (.ireturn, 1) := by decide +kernel
set_option maxRecDepth 20000 in
theorem ggX9_noRow_X9_in : GoodIn wsX9_noRow wsX9_in := goodIn_r _ [6] (by decide +kernel) (by decide +kernel)
set_option maxRecDepth 20000 in
theorem gX9_noRow_X9_in : GoodIn wsX9_noRow (va_wsS RX9 90 yX9_in wsX9_in) := goodIn_app (goodIn_of _ (by decide +kernel)) ggX9_noRow_X9_in
set_option maxRecDepth 20000 in
theorem ggX9_noRow_X9_refuse : GoodIn wsX9_noRow wsX9_refuse := goodIn_r _ [10, 11, 12, 13, 14, 15, 16, 17, 18, 19, 20, 21, 22, 23, 24, 25, 26, 27, 28, 29, 30, 31, 32, 33, 34, 35, 36, 37, 38, 39, 40, 41, 42, 43, 44, 45, 46, 47, 48] (by decide +kernel) (by decide +kernel)
set_option maxRecDepth 20000 in
theorem gX9_noRow_X9_refuse : GoodIn wsX9_noRow (wsV RX9 124 RX9 yX9_refuse wsX9_refuse) := goodIn_app (goodIn_of _ (by decide +kernel)) ggX9_noRow_X9_refuse
theorem dX9_noRow_0 : decode cX9_noRow 0 = .ok (.iload_n 1, 1) := by decide +kernel
theorem dX9_noRow_1 : decode cX9_noRow 1 = .ok (.i2l, 1) := by decide +kernel
theorem dX9_noRow_2 : decode cX9_noRow 2 = .ok (.lconst 0, 1) := by decide +kernel
theorem dX9_noRow_3 : decode cX9_noRow 3 = .ok (.ldc2_w 118, 3) := by decide +kernel
theorem dX9_noRow_6 : decode cX9_noRow 6 = .ok (.invokestatic 90, 3) := by decide +kernel
theorem dX9_noRow_9 : decode cX9_noRow 9 = .ok (.ifCond .ne 10, 3) := by decide +kernel
theorem dX9_noRow_12 : decode cX9_noRow 12 = .ok (.aload_n 0, 1) := by decide +kernel
theorem dX9_noRow_13 : decode cX9_noRow 13 = .ok (.bipush (-2), 2) := by decide +kernel
theorem dX9_noRow_15 : decode cX9_noRow 15 = .ok (.invokevirtual 124, 3) := by decide +kernel
theorem dX9_noRow_18 : decode cX9_noRow 18 = .ok (.ireturn, 1) := by decide +kernel
theorem dX9_noRow_19 : decode cX9_noRow 19 = .ok (.aload_n 0, 1) := by decide +kernel
theorem dX9_noRow_20 : decode cX9_noRow 20 = .ok (.getfield 7, 3) := by decide +kernel
theorem dX9_noRow_23 : decode cX9_noRow 23 = .ok (.iload_n 1, 1) := by decide +kernel
theorem dX9_noRow_24 : decode cX9_noRow 24 = .ok (.iaload, 1) := by decide +kernel
theorem dX9_noRow_25 : decode cX9_noRow 25 = .ok (.iconst 2, 1) := by decide +kernel
theorem dX9_noRow_26 : decode cX9_noRow 26 = .ok (.if_icmp .ne 10, 3) := by decide +kernel
theorem dX9_noRow_29 : decode cX9_noRow 29 = .ok (.aload_n 0, 1) := by decide +kernel
theorem dX9_noRow_30 : decode cX9_noRow 30 = .ok (.bipush (-3), 2) := by decide +kernel
theorem dX9_noRow_32 : decode cX9_noRow 32 = .ok (.invokevirtual 124, 3) := by decide +kernel
theorem dX9_noRow_35 : decode cX9_noRow 35 = .ok (.ireturn, 1) := by decide +kernel
theorem dX9_noRow_36 : decode cX9_noRow 36 = .ok (.aload_n 0, 1) := by decide +kernel
theorem dX9_noRow_37 : decode cX9_noRow 37 = .ok (.getfield 7, 3) := by decide +kernel
theorem dX9_noRow_40 : decode cX9_noRow 40 = .ok (.iload_n 1, 1) := by decide +kernel
theorem dX9_noRow_41 : decode cX9_noRow 41 = .ok (.iaload, 1) := by decide +kernel
theorem dX9_noRow_42 : decode cX9_noRow 42 = .ok (.ifCond .ne 12, 3) := by decide +kernel
theorem dX9_noRow_45 : decode cX9_noRow 45 = .ok (.aload_n 0, 1) := by decide +kernel
theorem dX9_noRow_46 : decode cX9_noRow 46 = .ok (.bipush (-4), 2) := by decide +kernel
theorem dX9_noRow_48 : decode cX9_noRow 48 = .ok (.invokevirtual 124, 3) := by decide +kernel
theorem dX9_noRow_51 : decode cX9_noRow 51 = .ok (.goto 4, 3) := by decide +kernel
theorem dX9_noRow_54 : decode cX9_noRow 54 = .ok (.iconst 0, 1) := by decide +kernel
theorem dX9_noRow_55 : decode cX9_noRow 55 = .ok (.ireturn, 1) := by decide +kernel
set_option maxRecDepth 20000 in
theorem ggX9_noMove_X9_in : GoodIn wsX9_noMove wsX9_in := goodIn_r _ [6] (by decide +kernel) (by decide +kernel)
set_option maxRecDepth 20000 in
theorem gX9_noMove_X9_in : GoodIn wsX9_noMove (va_wsS RX9 90 yX9_in wsX9_in) := goodIn_app (goodIn_of _ (by decide +kernel)) ggX9_noMove_X9_in
set_option maxRecDepth 20000 in
theorem ggX9_noMove_X9_refuse : GoodIn wsX9_noMove wsX9_refuse := goodIn_r _ [10, 11, 12, 13, 14, 15, 16, 17, 18, 19, 20, 21, 22, 23, 24, 25, 26, 27, 28, 29, 30, 31, 32, 33, 34, 35, 36, 37, 38, 39, 40, 41, 42, 43, 44, 45, 46, 47, 48] (by decide +kernel) (by decide +kernel)
set_option maxRecDepth 20000 in
theorem gX9_noMove_X9_refuse : GoodIn wsX9_noMove (wsV RX9 124 RX9 yX9_refuse wsX9_refuse) := goodIn_app (goodIn_of _ (by decide +kernel)) ggX9_noMove_X9_refuse
theorem dX9_noMove_0 : decode cX9_noMove 0 = .ok (.iload_n 1, 1) := by decide +kernel
theorem dX9_noMove_1 : decode cX9_noMove 1 = .ok (.i2l, 1) := by decide +kernel
theorem dX9_noMove_2 : decode cX9_noMove 2 = .ok (.lconst 0, 1) := by decide +kernel
theorem dX9_noMove_3 : decode cX9_noMove 3 = .ok (.ldc2_w 118, 3) := by decide +kernel
theorem dX9_noMove_6 : decode cX9_noMove 6 = .ok (.invokestatic 90, 3) := by decide +kernel
theorem dX9_noMove_9 : decode cX9_noMove 9 = .ok (.ifCond .ne 10, 3) := by decide +kernel
theorem dX9_noMove_12 : decode cX9_noMove 12 = .ok (.aload_n 0, 1) := by decide +kernel
theorem dX9_noMove_13 : decode cX9_noMove 13 = .ok (.bipush (-2), 2) := by decide +kernel
theorem dX9_noMove_15 : decode cX9_noMove 15 = .ok (.invokevirtual 124, 3) := by decide +kernel
theorem dX9_noMove_18 : decode cX9_noMove 18 = .ok (.ireturn, 1) := by decide +kernel
theorem dX9_noMove_19 : decode cX9_noMove 19 = .ok (.aload_n 0, 1) := by decide +kernel
theorem dX9_noMove_20 : decode cX9_noMove 20 = .ok (.getfield 7, 3) := by decide +kernel
theorem dX9_noMove_23 : decode cX9_noMove 23 = .ok (.iload_n 1, 1) := by decide +kernel
theorem dX9_noMove_24 : decode cX9_noMove 24 = .ok (.iaload, 1) := by decide +kernel
theorem dX9_noMove_25 : decode cX9_noMove 25 = .ok (.iconst 1, 1) := by decide +kernel
theorem dX9_noMove_26 : decode cX9_noMove 26 = .ok (.if_icmp .ne 10, 3) := by decide +kernel
theorem dX9_noMove_29 : decode cX9_noMove 29 = .ok (.aload_n 0, 1) := by decide +kernel
theorem dX9_noMove_30 : decode cX9_noMove 30 = .ok (.bipush (-3), 2) := by decide +kernel
theorem dX9_noMove_32 : decode cX9_noMove 32 = .ok (.invokevirtual 124, 3) := by decide +kernel
theorem dX9_noMove_35 : decode cX9_noMove 35 = .ok (.ireturn, 1) := by decide +kernel
theorem dX9_noMove_36 : decode cX9_noMove 36 = .ok (.aload_n 0, 1) := by decide +kernel
theorem dX9_noMove_37 : decode cX9_noMove 37 = .ok (.getfield 7, 3) := by decide +kernel
theorem dX9_noMove_40 : decode cX9_noMove 40 = .ok (.iload_n 1, 1) := by decide +kernel
theorem dX9_noMove_41 : decode cX9_noMove 41 = .ok (.iaload, 1) := by decide +kernel
theorem dX9_noMove_42 : decode cX9_noMove 42 = .ok (.ifCond .ne 12, 3) := by decide +kernel
theorem dX9_noMove_45 : decode cX9_noMove 45 = .ok (.aload_n 0, 1) := by decide +kernel
theorem dX9_noMove_46 : decode cX9_noMove 46 = .ok (.bipush (-4), 2) := by decide +kernel
theorem dX9_noMove_48 : decode cX9_noMove 48 = .ok (.invokevirtual 124, 3) := by decide +kernel
theorem dX9_noMove_51 : decode cX9_noMove 51 = .ok (.goto 4, 3) := by decide +kernel
theorem dX9_noMove_54 : decode cX9_noMove 54 = .ok (.iconst 0, 1) := by decide +kernel
theorem dX9_noMove_55 : decode cX9_noMove 55 = .ok (.ireturn, 1) := by decide +kernel
set_option maxRecDepth 20000 in
theorem ggX9_copy_X9_in : GoodIn wsX9_copy wsX9_in := goodIn_r _ [10] (by decide +kernel) (by decide +kernel)
set_option maxRecDepth 20000 in
theorem gX9_copy_X9_in : GoodIn wsX9_copy (va_wsS RX9 90 yX9_in wsX9_in) := goodIn_app (goodIn_of _ (by decide +kernel)) ggX9_copy_X9_in
set_option maxRecDepth 20000 in
theorem ggX9_copy_X9_refuse : GoodIn wsX9_copy wsX9_refuse := goodIn_r _ [14, 15, 16, 17, 18, 19, 20, 21, 22, 23, 24, 25, 26, 27, 28, 29, 30, 31, 32, 33, 34, 35, 36, 37, 38, 39, 40, 41, 42, 43, 44, 45, 46, 47, 48, 49, 50, 51, 52] (by decide +kernel) (by decide +kernel)
set_option maxRecDepth 20000 in
theorem gX9_copy_X9_refuse : GoodIn wsX9_copy (wsV RX9 124 RX9 yX9_refuse wsX9_refuse) := goodIn_app (goodIn_of _ (by decide +kernel)) ggX9_copy_X9_refuse
theorem dX9_copy_0 : decode cX9_copy 0 = .ok (.iload_n 1, 1) := by decide +kernel
theorem dX9_copy_1 : decode cX9_copy 1 = .ok (.i2l, 1) := by decide +kernel
theorem dX9_copy_2 : decode cX9_copy 2 = .ok (.lconst 0, 1) := by decide +kernel
theorem dX9_copy_3 : decode cX9_copy 3 = .ok (.ldc2_w 118, 3) := by decide +kernel
theorem dX9_copy_6 : decode cX9_copy 6 = .ok (.invokestatic 90, 3) := by decide +kernel
theorem dX9_copy_9 : decode cX9_copy 9 = .ok (.ifCond .eq 15, 3) := by decide +kernel
theorem dX9_copy_12 : decode cX9_copy 12 = .ok (.iload_n 2, 1) := by decide +kernel
theorem dX9_copy_13 : decode cX9_copy 13 = .ok (.i2l, 1) := by decide +kernel
theorem dX9_copy_14 : decode cX9_copy 14 = .ok (.lconst 0, 1) := by decide +kernel
theorem dX9_copy_15 : decode cX9_copy 15 = .ok (.ldc2_w 118, 3) := by decide +kernel
theorem dX9_copy_18 : decode cX9_copy 18 = .ok (.invokestatic 90, 3) := by decide +kernel
theorem dX9_copy_21 : decode cX9_copy 21 = .ok (.ifCond .ne 10, 3) := by decide +kernel
theorem dX9_copy_24 : decode cX9_copy 24 = .ok (.aload_n 0, 1) := by decide +kernel
theorem dX9_copy_25 : decode cX9_copy 25 = .ok (.bipush (-2), 2) := by decide +kernel
theorem dX9_copy_27 : decode cX9_copy 27 = .ok (.invokevirtual 124, 3) := by decide +kernel
theorem dX9_copy_30 : decode cX9_copy 30 = .ok (.ireturn, 1) := by decide +kernel
theorem dX9_copy_31 : decode cX9_copy 31 = .ok (.aload_n 0, 1) := by decide +kernel
theorem dX9_copy_32 : decode cX9_copy 32 = .ok (.getfield 7, 3) := by decide +kernel
theorem dX9_copy_35 : decode cX9_copy 35 = .ok (.iload_n 1, 1) := by decide +kernel
theorem dX9_copy_36 : decode cX9_copy 36 = .ok (.iaload, 1) := by decide +kernel
theorem dX9_copy_37 : decode cX9_copy 37 = .ok (.iconst 2, 1) := by decide +kernel
theorem dX9_copy_38 : decode cX9_copy 38 = .ok (.if_icmp .eq 48, 3) := by decide +kernel
theorem dX9_copy_41 : decode cX9_copy 41 = .ok (.aload_n 0, 1) := by decide +kernel
theorem dX9_copy_42 : decode cX9_copy 42 = .ok (.getfield 7, 3) := by decide +kernel
theorem dX9_copy_45 : decode cX9_copy 45 = .ok (.iload_n 2, 1) := by decide +kernel
theorem dX9_copy_46 : decode cX9_copy 46 = .ok (.iaload, 1) := by decide +kernel
theorem dX9_copy_47 : decode cX9_copy 47 = .ok (.iconst 2, 1) := by decide +kernel
theorem dX9_copy_48 : decode cX9_copy 48 = .ok (.if_icmp .eq 38, 3) := by decide +kernel
theorem dX9_copy_51 : decode cX9_copy 51 = .ok (.aload_n 0, 1) := by decide +kernel
theorem dX9_copy_52 : decode cX9_copy 52 = .ok (.getfield 7, 3) := by decide +kernel
theorem dX9_copy_55 : decode cX9_copy 55 = .ok (.iload_n 1, 1) := by decide +kernel
theorem dX9_copy_56 : decode cX9_copy 56 = .ok (.iaload, 1) := by decide +kernel
theorem dX9_copy_57 : decode cX9_copy 57 = .ok (.iconst 1, 1) := by decide +kernel
theorem dX9_copy_58 : decode cX9_copy 58 = .ok (.if_icmp .ne 35, 3) := by decide +kernel
theorem dX9_copy_61 : decode cX9_copy 61 = .ok (.aload_n 0, 1) := by decide +kernel
theorem dX9_copy_62 : decode cX9_copy 62 = .ok (.getfield 7, 3) := by decide +kernel
theorem dX9_copy_65 : decode cX9_copy 65 = .ok (.iload_n 2, 1) := by decide +kernel
theorem dX9_copy_66 : decode cX9_copy 66 = .ok (.iaload, 1) := by decide +kernel
theorem dX9_copy_67 : decode cX9_copy 67 = .ok (.iconst 1, 1) := by decide +kernel
theorem dX9_copy_68 : decode cX9_copy 68 = .ok (.if_icmp .ne 25, 3) := by decide +kernel
theorem dX9_copy_71 : decode cX9_copy 71 = .ok (.aload_n 0, 1) := by decide +kernel
theorem dX9_copy_72 : decode cX9_copy 72 = .ok (.getfield 13, 3) := by decide +kernel
theorem dX9_copy_75 : decode cX9_copy 75 = .ok (.iload_n 1, 1) := by decide +kernel
theorem dX9_copy_76 : decode cX9_copy 76 = .ok (.iaload, 1) := by decide +kernel
theorem dX9_copy_77 : decode cX9_copy 77 = .ok (.aload_n 0, 1) := by decide +kernel
theorem dX9_copy_78 : decode cX9_copy 78 = .ok (.getfield 13, 3) := by decide +kernel
theorem dX9_copy_81 : decode cX9_copy 81 = .ok (.iload_n 2, 1) := by decide +kernel
theorem dX9_copy_82 : decode cX9_copy 82 = .ok (.iaload, 1) := by decide +kernel
theorem dX9_copy_83 : decode cX9_copy 83 = .ok (.if_icmp .eq 10, 3) := by decide +kernel
theorem dX9_copy_86 : decode cX9_copy 86 = .ok (.aload_n 0, 1) := by decide +kernel
theorem dX9_copy_87 : decode cX9_copy 87 = .ok (.bipush (-3), 2) := by decide +kernel
theorem dX9_copy_89 : decode cX9_copy 89 = .ok (.invokevirtual 124, 3) := by decide +kernel
theorem dX9_copy_92 : decode cX9_copy 92 = .ok (.ireturn, 1) := by decide +kernel
theorem dX9_copy_93 : decode cX9_copy 93 = .ok (.aload_n 0, 1) := by decide +kernel
theorem dX9_copy_94 : decode cX9_copy 94 = .ok (.getfield 7, 3) := by decide +kernel
theorem dX9_copy_97 : decode cX9_copy 97 = .ok (.iload_n 1, 1) := by decide +kernel
theorem dX9_copy_98 : decode cX9_copy 98 = .ok (.iaload, 1) := by decide +kernel
theorem dX9_copy_99 : decode cX9_copy 99 = .ok (.ifCond .eq 12, 3) := by decide +kernel
theorem dX9_copy_102 : decode cX9_copy 102 = .ok (.aload_n 0, 1) := by decide +kernel
theorem dX9_copy_103 : decode cX9_copy 103 = .ok (.getfield 7, 3) := by decide +kernel
theorem dX9_copy_106 : decode cX9_copy 106 = .ok (.iload_n 2, 1) := by decide +kernel
theorem dX9_copy_107 : decode cX9_copy 107 = .ok (.iaload, 1) := by decide +kernel
theorem dX9_copy_108 : decode cX9_copy 108 = .ok (.ifCond .ne 10, 3) := by decide +kernel
theorem dX9_copy_111 : decode cX9_copy 111 = .ok (.aload_n 0, 1) := by decide +kernel
theorem dX9_copy_112 : decode cX9_copy 112 = .ok (.bipush (-4), 2) := by decide +kernel
theorem dX9_copy_114 : decode cX9_copy 114 = .ok (.invokevirtual 124, 3) := by decide +kernel
theorem dX9_copy_117 : decode cX9_copy 117 = .ok (.ireturn, 1) := by decide +kernel
theorem dX9_copy_118 : decode cX9_copy 118 = .ok (.iload 5, 2) := by decide +kernel
theorem dX9_copy_120 : decode cX9_copy 120 = .ok (.ifCond .lt 61, 3) := by decide +kernel
theorem dX9_copy_123 : decode cX9_copy 123 = .ok (.iload_n 3, 1) := by decide +kernel
theorem dX9_copy_124 : decode cX9_copy 124 = .ok (.ifCond .lt 57, 3) := by decide +kernel
theorem dX9_copy_127 : decode cX9_copy 127 = .ok (.iload 4, 2) := by decide +kernel
theorem dX9_copy_129 : decode cX9_copy 129 = .ok (.ifCond .lt 52, 3) := by decide +kernel
theorem dX9_copy_132 : decode cX9_copy 132 = .ok (.iload 5, 2) := by decide +kernel
theorem dX9_copy_134 : decode cX9_copy 134 = .ok (.aload_n 0, 1) := by decide +kernel
theorem dX9_copy_135 : decode cX9_copy 135 = .ok (.getfield 16, 3) := by decide +kernel
theorem dX9_copy_138 : decode cX9_copy 138 = .ok (.iload_n 1, 1) := by decide +kernel
theorem dX9_copy_139 : decode cX9_copy 139 = .ok (.iaload, 1) := by decide +kernel
theorem dX9_copy_140 : decode cX9_copy 140 = .ok (.if_icmp .gt 41, 3) := by decide +kernel
theorem dX9_copy_143 : decode cX9_copy 143 = .ok (.iload 5, 2) := by decide +kernel
theorem dX9_copy_145 : decode cX9_copy 145 = .ok (.aload_n 0, 1) := by decide +kernel
theorem dX9_copy_146 : decode cX9_copy 146 = .ok (.getfield 16, 3) := by decide +kernel
theorem dX9_copy_149 : decode cX9_copy 149 = .ok (.iload_n 2, 1) := by decide +kernel
theorem dX9_copy_150 : decode cX9_copy 150 = .ok (.iaload, 1) := by decide +kernel
theorem dX9_copy_151 : decode cX9_copy 151 = .ok (.if_icmp .gt 30, 3) := by decide +kernel
theorem dX9_copy_154 : decode cX9_copy 154 = .ok (.iload_n 3, 1) := by decide +kernel
theorem dX9_copy_155 : decode cX9_copy 155 = .ok (.aload_n 0, 1) := by decide +kernel
theorem dX9_copy_156 : decode cX9_copy 156 = .ok (.getfield 16, 3) := by decide +kernel
theorem dX9_copy_159 : decode cX9_copy 159 = .ok (.iload_n 1, 1) := by decide +kernel
theorem dX9_copy_160 : decode cX9_copy 160 = .ok (.iaload, 1) := by decide +kernel
theorem dX9_copy_161 : decode cX9_copy 161 = .ok (.iload 5, 2) := by decide +kernel
theorem dX9_copy_163 : decode cX9_copy 163 = .ok (.isub, 1) := by decide +kernel
theorem dX9_copy_164 : decode cX9_copy 164 = .ok (.if_icmp .gt 17, 3) := by decide +kernel
theorem dX9_copy_167 : decode cX9_copy 167 = .ok (.iload 4, 2) := by decide +kernel
theorem dX9_copy_169 : decode cX9_copy 169 = .ok (.aload_n 0, 1) := by decide +kernel
theorem dX9_copy_170 : decode cX9_copy 170 = .ok (.getfield 16, 3) := by decide +kernel
theorem dX9_copy_173 : decode cX9_copy 173 = .ok (.iload_n 2, 1) := by decide +kernel
theorem dX9_copy_174 : decode cX9_copy 174 = .ok (.iaload, 1) := by decide +kernel
theorem dX9_copy_175 : decode cX9_copy 175 = .ok (.iload 5, 2) := by decide +kernel
theorem dX9_copy_177 : decode cX9_copy 177 = .ok (.isub, 1) := by decide +kernel
theorem dX9_copy_178 : decode cX9_copy 178 = .ok (.if_icmp .le 10, 3) := by decide +kernel
theorem dX9_copy_181 : decode cX9_copy 181 = .ok (.aload_n 0, 1) := by decide +kernel
theorem dX9_copy_182 : decode cX9_copy 182 = .ok (.bipush (-2), 2) := by decide +kernel
theorem dX9_copy_184 : decode cX9_copy 184 = .ok (.invokevirtual 124, 3) := by decide +kernel
theorem dX9_copy_187 : decode cX9_copy 187 = .ok (.ireturn, 1) := by decide +kernel
theorem dX9_copy_188 : decode cX9_copy 188 = .ok (.iconst 0, 1) := by decide +kernel
theorem dX9_copy_189 : decode cX9_copy 189 = .ok (.istore 6, 2) := by decide +kernel
theorem dX9_copy_191 : decode cX9_copy 191 = .ok (.iload 6, 2) := by decide +kernel
theorem dX9_copy_193 : decode cX9_copy 193 = .ok (.iload 5, 2) := by decide +kernel
theorem dX9_copy_195 : decode cX9_copy 195 = .ok (.if_icmp .ge 27, 3) := by decide +kernel
theorem dX9_copy_198 : decode cX9_copy 198 = .ok (.aload_n 0, 1) := by decide +kernel
theorem dX9_copy_199 : decode cX9_copy 199 = .ok (.getfield 24, 3) := by decide +kernel
theorem dX9_copy_202 : decode cX9_copy 202 = .ok (.iload 6, 2) := by decide +kernel
theorem dX9_copy_204 : decode cX9_copy 204 = .ok (.aload_n 0, 1) := by decide +kernel
theorem dX9_copy_205 : decode cX9_copy 205 = .ok (.getfield 21, 3) := by decide +kernel
theorem dX9_copy_208 : decode cX9_copy 208 = .ok (.iload_n 1, 1) := by decide +kernel
theorem dX9_copy_209 : decode cX9_copy 209 = .ok (.aaload, 1) := by decide +kernel
theorem dX9_copy_210 : decode cX9_copy 210 = .ok (.iload_n 3, 1) := by decide +kernel
theorem dX9_copy_211 : decode cX9_copy 211 = .ok (.iload 6, 2) := by decide +kernel
theorem dX9_copy_213 : decode cX9_copy 213 = .ok (.iadd, 1) := by decide +kernel
theorem dX9_copy_214 : decode cX9_copy 214 = .ok (.laload, 1) := by decide +kernel
theorem dX9_copy_215 : decode cX9_copy 215 = .ok (.lastore, 1) := by decide +kernel
theorem dX9_copy_216 : decode cX9_copy 216 = .ok (.iinc 6 1, 3) := by decide +kernel
theorem dX9_copy_219 : decode cX9_copy 219 = .ok (.goto (-28), 3) := by decide +kernel
theorem dX9_copy_222 : decode cX9_copy 222 = .ok (.iconst 0, 1) := by decide +kernel
theorem dX9_copy_223 : decode cX9_copy 223 = .ok (.istore 6, 2) := by decide +kernel
theorem dX9_copy_225 : decode cX9_copy 225 = .ok (.iload 6, 2) := by decide +kernel
theorem dX9_copy_227 : decode cX9_copy 227 = .ok (.iload 5, 2) := by decide +kernel
theorem dX9_copy_229 : decode cX9_copy 229 = .ok (.if_icmp .ge 28, 3) := by decide +kernel
theorem dX9_copy_232 : decode cX9_copy 232 = .ok (.aload_n 0, 1) := by decide +kernel
theorem dX9_copy_233 : decode cX9_copy 233 = .ok (.getfield 21, 3) := by decide +kernel
theorem dX9_copy_236 : decode cX9_copy 236 = .ok (.iload_n 2, 1) := by decide +kernel
theorem dX9_copy_237 : decode cX9_copy 237 = .ok (.aaload, 1) := by decide +kernel
theorem dX9_copy_238 : decode cX9_copy 238 = .ok (.iload 4, 2) := by decide +kernel
theorem dX9_copy_240 : decode cX9_copy 240 = .ok (.iload 6, 2) := by decide +kernel
theorem dX9_copy_242 : decode cX9_copy 242 = .ok (.iadd, 1) := by decide +kernel
theorem dX9_copy_243 : decode cX9_copy 243 = .ok (.aload_n 0, 1) := by decide +kernel
theorem dX9_copy_244 : decode cX9_copy 244 = .ok (.getfield 24, 3) := by decide +kernel
theorem dX9_copy_247 : decode cX9_copy 247 = .ok (.iload 6, 2) := by decide +kernel
theorem dX9_copy_249 : decode cX9_copy 249 = .ok (.laload, 1) := by decide +kernel
theorem dX9_copy_250 : decode cX9_copy 250 = .ok (.lastore, 1) := by decide +kernel
theorem dX9_copy_251 : decode cX9_copy 251 = .ok (.iinc 6 1, 3) := by decide +kernel
theorem dX9_copy_254 : decode cX9_copy 254 = .ok (.goto (-29), 3) := by decide +kernel
theorem dX9_copy_257 : decode cX9_copy 257 = .ok (.iload 5, 2) := by decide +kernel
theorem dX9_copy_259 : decode cX9_copy 259 = .ok (.ireturn, 1) := by decide +kernel
set_option maxRecDepth 20000 in
theorem ggX9_element_X9_in : GoodIn wsX9_element wsX9_in := goodIn_r _ [8] (by decide +kernel) (by decide +kernel)
set_option maxRecDepth 20000 in
theorem gX9_element_X9_in : GoodIn wsX9_element (va_wsS RX9 90 yX9_in wsX9_in) := goodIn_app (goodIn_of _ (by decide +kernel)) ggX9_element_X9_in
theorem dX9_element_0 : decode cX9_element 0 = .ok (.iload_n 1, 1) := by decide +kernel
theorem dX9_element_1 : decode cX9_element 1 = .ok (.i2l, 1) := by decide +kernel
theorem dX9_element_2 : decode cX9_element 2 = .ok (.lconst 0, 1) := by decide +kernel
theorem dX9_element_3 : decode cX9_element 3 = .ok (.ldc2_w 118, 3) := by decide +kernel
theorem dX9_element_6 : decode cX9_element 6 = .ok (.invokestatic 90, 3) := by decide +kernel
theorem dX9_element_9 : decode cX9_element 9 = .ok (.ifCond .eq 42, 3) := by decide +kernel
theorem dX9_element_12 : decode cX9_element 12 = .ok (.aload_n 0, 1) := by decide +kernel
theorem dX9_element_13 : decode cX9_element 13 = .ok (.getfield 7, 3) := by decide +kernel
theorem dX9_element_16 : decode cX9_element 16 = .ok (.iload_n 1, 1) := by decide +kernel
theorem dX9_element_17 : decode cX9_element 17 = .ok (.iaload, 1) := by decide +kernel
theorem dX9_element_18 : decode cX9_element 18 = .ok (.iconst 1, 1) := by decide +kernel
theorem dX9_element_19 : decode cX9_element 19 = .ok (.if_icmp .ne 32, 3) := by decide +kernel
theorem dX9_element_22 : decode cX9_element 22 = .ok (.iload_n 2, 1) := by decide +kernel
theorem dX9_element_23 : decode cX9_element 23 = .ok (.i2l, 1) := by decide +kernel
theorem dX9_element_24 : decode cX9_element 24 = .ok (.lconst 0, 1) := by decide +kernel
theorem dX9_element_25 : decode cX9_element 25 = .ok (.aload_n 0, 1) := by decide +kernel
theorem dX9_element_26 : decode cX9_element 26 = .ok (.getfield 16, 3) := by decide +kernel
theorem dX9_element_29 : decode cX9_element 29 = .ok (.iload_n 1, 1) := by decide +kernel
theorem dX9_element_30 : decode cX9_element 30 = .ok (.iaload, 1) := by decide +kernel
theorem dX9_element_31 : decode cX9_element 31 = .ok (.iconst 1, 1) := by decide +kernel
theorem dX9_element_32 : decode cX9_element 32 = .ok (.isub, 1) := by decide +kernel
theorem dX9_element_33 : decode cX9_element 33 = .ok (.i2l, 1) := by decide +kernel
theorem dX9_element_34 : decode cX9_element 34 = .ok (.invokestatic 90, 3) := by decide +kernel
theorem dX9_element_37 : decode cX9_element 37 = .ok (.ifCond .eq 14, 3) := by decide +kernel
theorem dX9_element_40 : decode cX9_element 40 = .ok (.aload_n 0, 1) := by decide +kernel
theorem dX9_element_41 : decode cX9_element 41 = .ok (.getfield 21, 3) := by decide +kernel
theorem dX9_element_44 : decode cX9_element 44 = .ok (.iload_n 1, 1) := by decide +kernel
theorem dX9_element_45 : decode cX9_element 45 = .ok (.aaload, 1) := by decide +kernel
theorem dX9_element_46 : decode cX9_element 46 = .ok (.iload_n 2, 1) := by decide +kernel
theorem dX9_element_47 : decode cX9_element 47 = .ok (.laload, 1) := by decide +kernel
theorem dX9_element_48 : decode cX9_element 48 = .ok (.goto 4, 3) := by decide +kernel
theorem dX9_element_51 : decode cX9_element 51 = .ok (.lconst 0, 1) := by decide +kernel
theorem dX9_element_52 : decode cX9_element 52 = .ok (.lreturn, 1) := by decide +kernel
set_option maxRecDepth 20000 in
theorem ggX9_holds_X9_in : GoodIn wsX9_holds wsX9_in := goodIn_r _ [8] (by decide +kernel) (by decide +kernel)
set_option maxRecDepth 20000 in
theorem gX9_holds_X9_in : GoodIn wsX9_holds (va_wsS RX9 90 yX9_in wsX9_in) := goodIn_app (goodIn_of _ (by decide +kernel)) ggX9_holds_X9_in
theorem dX9_holds_0 : decode cX9_holds 0 = .ok (.iload_n 1, 1) := by decide +kernel
theorem dX9_holds_1 : decode cX9_holds 1 = .ok (.i2l, 1) := by decide +kernel
theorem dX9_holds_2 : decode cX9_holds 2 = .ok (.lconst 0, 1) := by decide +kernel
theorem dX9_holds_3 : decode cX9_holds 3 = .ok (.ldc2_w 118, 3) := by decide +kernel
theorem dX9_holds_6 : decode cX9_holds 6 = .ok (.invokestatic 90, 3) := by decide +kernel
theorem dX9_holds_9 : decode cX9_holds 9 = .ok (.ifCond .eq 12, 3) := by decide +kernel
theorem dX9_holds_12 : decode cX9_holds 12 = .ok (.aload_n 0, 1) := by decide +kernel
theorem dX9_holds_13 : decode cX9_holds 13 = .ok (.getfield 7, 3) := by decide +kernel
theorem dX9_holds_16 : decode cX9_holds 16 = .ok (.iload_n 1, 1) := by decide +kernel
theorem dX9_holds_17 : decode cX9_holds 17 = .ok (.iaload, 1) := by decide +kernel
theorem dX9_holds_18 : decode cX9_holds 18 = .ok (.ifCond .ne 5, 3) := by decide +kernel
theorem dX9_holds_21 : decode cX9_holds 21 = .ok (.iconst (-1), 1) := by decide +kernel
theorem dX9_holds_22 : decode cX9_holds 22 = .ok (.ireturn, 1) := by decide +kernel
theorem dX9_holds_23 : decode cX9_holds 23 = .ok (.aload_n 0, 1) := by decide +kernel
theorem dX9_holds_24 : decode cX9_holds 24 = .ok (.getfield 7, 3) := by decide +kernel
theorem dX9_holds_27 : decode cX9_holds 27 = .ok (.iload_n 1, 1) := by decide +kernel
theorem dX9_holds_28 : decode cX9_holds 28 = .ok (.iaload, 1) := by decide +kernel
theorem dX9_holds_29 : decode cX9_holds 29 = .ok (.iconst 1, 1) := by decide +kernel
theorem dX9_holds_30 : decode cX9_holds 30 = .ok (.if_icmp .ne 12, 3) := by decide +kernel
theorem dX9_holds_33 : decode cX9_holds 33 = .ok (.aload_n 0, 1) := by decide +kernel
theorem dX9_holds_34 : decode cX9_holds 34 = .ok (.getfield 13, 3) := by decide +kernel
theorem dX9_holds_37 : decode cX9_holds 37 = .ok (.iload_n 1, 1) := by decide +kernel
theorem dX9_holds_38 : decode cX9_holds 38 = .ok (.iaload, 1) := by decide +kernel
theorem dX9_holds_39 : decode cX9_holds 39 = .ok (.goto 12, 3) := by decide +kernel
theorem dX9_holds_42 : decode cX9_holds 42 = .ok (.bipush 10, 2) := by decide +kernel
theorem dX9_holds_44 : decode cX9_holds 44 = .ok (.aload_n 0, 1) := by decide +kernel
theorem dX9_holds_45 : decode cX9_holds 45 = .ok (.getfield 28, 3) := by decide +kernel
theorem dX9_holds_48 : decode cX9_holds 48 = .ok (.iload_n 1, 1) := by decide +kernel
theorem dX9_holds_49 : decode cX9_holds 49 = .ok (.iaload, 1) := by decide +kernel
theorem dX9_holds_50 : decode cX9_holds 50 = .ok (.iadd, 1) := by decide +kernel
theorem dX9_holds_51 : decode cX9_holds 51 = .ok (.ireturn, 1) := by decide +kernel
set_option maxRecDepth 20000 in
theorem ggX9_move_X9_in : GoodIn wsX9_move wsX9_in := goodIn_r _ [10] (by decide +kernel) (by decide +kernel)
set_option maxRecDepth 20000 in
theorem gX9_move_X9_in : GoodIn wsX9_move (va_wsS RX9 90 yX9_in wsX9_in) := goodIn_app (goodIn_of _ (by decide +kernel)) ggX9_move_X9_in
set_option maxRecDepth 20000 in
theorem ggX9_move_X9_refuse : GoodIn wsX9_move wsX9_refuse := goodIn_r _ [14, 15, 16, 17, 18, 19, 20, 21, 22, 23, 24, 25, 26, 27, 28, 29, 30, 31, 32, 33, 34, 35, 36, 37, 38, 39, 40, 41, 42, 43, 44, 45, 46, 47, 48, 49, 50, 51, 52] (by decide +kernel) (by decide +kernel)
set_option maxRecDepth 20000 in
theorem gX9_move_X9_refuse : GoodIn wsX9_move (wsV RX9 124 RX9 yX9_refuse wsX9_refuse) := goodIn_app (goodIn_of _ (by decide +kernel)) ggX9_move_X9_refuse
theorem dX9_move_0 : decode cX9_move 0 = .ok (.iload_n 1, 1) := by decide +kernel
theorem dX9_move_1 : decode cX9_move 1 = .ok (.i2l, 1) := by decide +kernel
theorem dX9_move_2 : decode cX9_move 2 = .ok (.lconst 0, 1) := by decide +kernel
theorem dX9_move_3 : decode cX9_move 3 = .ok (.ldc2_w 118, 3) := by decide +kernel
theorem dX9_move_6 : decode cX9_move 6 = .ok (.invokestatic 90, 3) := by decide +kernel
theorem dX9_move_9 : decode cX9_move 9 = .ok (.ifCond .eq 40, 3) := by decide +kernel
theorem dX9_move_12 : decode cX9_move 12 = .ok (.iload_n 2, 1) := by decide +kernel
theorem dX9_move_13 : decode cX9_move 13 = .ok (.i2l, 1) := by decide +kernel
theorem dX9_move_14 : decode cX9_move 14 = .ok (.lconst 1, 1) := by decide +kernel
theorem dX9_move_15 : decode cX9_move 15 = .ok (.ldc2_w 135, 3) := by decide +kernel
theorem dX9_move_18 : decode cX9_move 18 = .ok (.invokestatic 90, 3) := by decide +kernel
theorem dX9_move_21 : decode cX9_move 21 = .ok (.ifCond .eq 28, 3) := by decide +kernel
theorem dX9_move_24 : decode cX9_move 24 = .ok (.iload_n 3, 1) := by decide +kernel
theorem dX9_move_25 : decode cX9_move 25 = .ok (.i2l, 1) := by decide +kernel
theorem dX9_move_26 : decode cX9_move 26 = .ok (.lconst 0, 1) := by decide +kernel
theorem dX9_move_27 : decode cX9_move 27 = .ok (.ldc2_w 135, 3) := by decide +kernel
theorem dX9_move_30 : decode cX9_move 30 = .ok (.invokestatic 90, 3) := by decide +kernel
theorem dX9_move_33 : decode cX9_move 33 = .ok (.ifCond .eq 16, 3) := by decide +kernel
theorem dX9_move_36 : decode cX9_move 36 = .ok (.iload 4, 2) := by decide +kernel
theorem dX9_move_38 : decode cX9_move 38 = .ok (.i2l, 1) := by decide +kernel
theorem dX9_move_39 : decode cX9_move 39 = .ok (.lconst 0, 1) := by decide +kernel
theorem dX9_move_40 : decode cX9_move 40 = .ok (.ldc2_w 135, 3) := by decide +kernel
theorem dX9_move_43 : decode cX9_move 43 = .ok (.invokestatic 90, 3) := by decide +kernel
theorem dX9_move_46 : decode cX9_move 46 = .ok (.ifCond .ne 10, 3) := by decide +kernel
theorem dX9_move_49 : decode cX9_move 49 = .ok (.aload_n 0, 1) := by decide +kernel
theorem dX9_move_50 : decode cX9_move 50 = .ok (.bipush (-2), 2) := by decide +kernel
theorem dX9_move_52 : decode cX9_move 52 = .ok (.invokevirtual 124, 3) := by decide +kernel
theorem dX9_move_55 : decode cX9_move 55 = .ok (.ireturn, 1) := by decide +kernel
theorem dX9_move_56 : decode cX9_move 56 = .ok (.aload_n 0, 1) := by decide +kernel
theorem dX9_move_57 : decode cX9_move 57 = .ok (.getfield 7, 3) := by decide +kernel
theorem dX9_move_60 : decode cX9_move 60 = .ok (.iload_n 1, 1) := by decide +kernel
theorem dX9_move_61 : decode cX9_move 61 = .ok (.iconst 2, 1) := by decide +kernel
theorem dX9_move_62 : decode cX9_move 62 = .ok (.iastore, 1) := by decide +kernel
theorem dX9_move_63 : decode cX9_move 63 = .ok (.aload_n 0, 1) := by decide +kernel
theorem dX9_move_64 : decode cX9_move 64 = .ok (.getfield 28, 3) := by decide +kernel
theorem dX9_move_67 : decode cX9_move 67 = .ok (.iload_n 1, 1) := by decide +kernel
theorem dX9_move_68 : decode cX9_move 68 = .ok (.iload_n 2, 1) := by decide +kernel
theorem dX9_move_69 : decode cX9_move 69 = .ok (.iastore, 1) := by decide +kernel
theorem dX9_move_70 : decode cX9_move 70 = .ok (.aload_n 0, 1) := by decide +kernel
theorem dX9_move_71 : decode cX9_move 71 = .ok (.getfield 31, 3) := by decide +kernel
theorem dX9_move_74 : decode cX9_move 74 = .ok (.iload_n 1, 1) := by decide +kernel
theorem dX9_move_75 : decode cX9_move 75 = .ok (.iload_n 3, 1) := by decide +kernel
theorem dX9_move_76 : decode cX9_move 76 = .ok (.iastore, 1) := by decide +kernel
theorem dX9_move_77 : decode cX9_move 77 = .ok (.aload_n 0, 1) := by decide +kernel
theorem dX9_move_78 : decode cX9_move 78 = .ok (.getfield 34, 3) := by decide +kernel
theorem dX9_move_81 : decode cX9_move 81 = .ok (.iload_n 1, 1) := by decide +kernel
theorem dX9_move_82 : decode cX9_move 82 = .ok (.iload 4, 2) := by decide +kernel
theorem dX9_move_84 : decode cX9_move 84 = .ok (.iastore, 1) := by decide +kernel
theorem dX9_move_85 : decode cX9_move 85 = .ok (.iconst 1, 1) := by decide +kernel
theorem dX9_move_86 : decode cX9_move 86 = .ok (.ireturn, 1) := by decide +kernel
theorem dX9_isUnder_0 : decode cX9_isUnder 0 = .ok (.iload_n 1, 1) := by decide +kernel
theorem dX9_isUnder_1 : decode cX9_isUnder 1 = .ok (.ifCond .eq 33, 3) := by decide +kernel
theorem dX9_isUnder_4 : decode cX9_isUnder 4 = .ok (.iload_n 0, 1) := by decide +kernel
theorem dX9_isUnder_5 : decode cX9_isUnder 5 = .ok (.iload_n 1, 1) := by decide +kernel
theorem dX9_isUnder_6 : decode cX9_isUnder 6 = .ok (.if_icmp .eq 28, 3) := by decide +kernel
theorem dX9_isUnder_9 : decode cX9_isUnder 9 = .ok (.iload_n 1, 1) := by decide +kernel
theorem dX9_isUnder_10 : decode cX9_isUnder 10 = .ok (.iconst 1, 1) := by decide +kernel
theorem dX9_isUnder_11 : decode cX9_isUnder 11 = .ok (.if_icmp .ne 13, 3) := by decide +kernel
theorem dX9_isUnder_14 : decode cX9_isUnder 14 = .ok (.iload_n 0, 1) := by decide +kernel
theorem dX9_isUnder_15 : decode cX9_isUnder 15 = .ok (.iconst 3, 1) := by decide +kernel
theorem dX9_isUnder_16 : decode cX9_isUnder 16 = .ok (.if_icmp .eq 18, 3) := by decide +kernel
theorem dX9_isUnder_19 : decode cX9_isUnder 19 = .ok (.iload_n 0, 1) := by decide +kernel
theorem dX9_isUnder_20 : decode cX9_isUnder 20 = .ok (.iconst 4, 1) := by decide +kernel
theorem dX9_isUnder_21 : decode cX9_isUnder 21 = .ok (.if_icmp .eq 13, 3) := by decide +kernel
theorem dX9_isUnder_24 : decode cX9_isUnder 24 = .ok (.iload_n 1, 1) := by decide +kernel
theorem dX9_isUnder_25 : decode cX9_isUnder 25 = .ok (.iconst 2, 1) := by decide +kernel
theorem dX9_isUnder_26 : decode cX9_isUnder 26 = .ok (.if_icmp .ne 12, 3) := by decide +kernel
theorem dX9_isUnder_29 : decode cX9_isUnder 29 = .ok (.iload_n 0, 1) := by decide +kernel
theorem dX9_isUnder_30 : decode cX9_isUnder 30 = .ok (.iconst 5, 1) := by decide +kernel
theorem dX9_isUnder_31 : decode cX9_isUnder 31 = .ok (.if_icmp .ne 7, 3) := by decide +kernel
theorem dX9_isUnder_34 : decode cX9_isUnder 34 = .ok (.iconst 1, 1) := by decide +kernel
theorem dX9_isUnder_35 : decode cX9_isUnder 35 = .ok (.goto 4, 3) := by decide +kernel
theorem dX9_isUnder_38 : decode cX9_isUnder 38 = .ok (.iconst 0, 1) := by decide +kernel
theorem dX9_isUnder_39 : decode cX9_isUnder 39 = .ok (.ireturn, 1) := by decide +kernel
set_option maxRecDepth 20000 in
theorem ggX9_says_X9_in : GoodIn wsX9_says wsX9_in := goodIn_r _ [10] (by decide +kernel) (by decide +kernel)
set_option maxRecDepth 20000 in
theorem gX9_says_X9_in : GoodIn wsX9_says (va_wsS RX9 90 yX9_in wsX9_in) := goodIn_app (goodIn_of _ (by decide +kernel)) ggX9_says_X9_in
set_option maxRecDepth 20000 in
theorem ggX9_says_X9_refuse : GoodIn wsX9_says wsX9_refuse := goodIn_r _ [14, 15, 65, 66, 67, 68, 69, 70, 71, 72, 73, 74, 75, 76, 77, 78, 79, 80, 81, 82, 83, 84, 85, 86, 87, 88, 89, 90, 91, 92, 93, 94, 95, 96, 97, 98, 99, 100, 101] (by decide +kernel) (by decide +kernel)
set_option maxRecDepth 20000 in
theorem gX9_says_X9_refuse : GoodIn wsX9_says (wsV RX9 124 RX9 yX9_refuse wsX9_refuse) := goodIn_app (goodIn_of _ (by decide +kernel)) ggX9_says_X9_refuse
set_option maxRecDepth 20000 in
theorem ggX9_says_X9_isUnder : GoodIn wsX9_says wsX9_isUnder := goodIn_r _ [18] (by decide +kernel) (by decide +kernel)
set_option maxRecDepth 20000 in
theorem gX9_says_X9_isUnder : GoodIn wsX9_says (va_wsS RX9 137 yX9_isUnder wsX9_isUnder) := goodIn_app (goodIn_of _ (by decide +kernel)) ggX9_says_X9_isUnder
set_option maxRecDepth 20000 in
theorem ggX9_says_X9_empty : GoodIn wsX9_says wsX9_empty := goodIn_r _ [22, 23, 24, 25, 26, 27, 9, 28, 29, 30, 31, 32, 33, 65, 66, 67, 68, 69, 70, 71, 72, 73, 74, 75, 76, 77, 78, 79, 80, 81, 82, 83, 84, 85, 86, 87, 88, 89, 90, 91, 92, 93, 94, 95, 96, 97, 98, 99, 100, 101] (by decide +kernel) (by decide +kernel)
set_option maxRecDepth 20000 in
theorem gX9_says_X9_empty : GoodIn wsX9_says (wsV RX9 141 RX9 yX9_empty wsX9_empty) := goodIn_app (goodIn_of _ (by decide +kernel)) ggX9_says_X9_empty
set_option maxRecDepth 20000 in
theorem ggX9_says_X9_thatCome : GoodIn wsX9_says wsX9_thatCome := goodIn_r _ [37, 23, 30, 31, 32, 9, 33, 29, 38, 39, 40, 41, 42, 43, 44, 4, 5, 6, 45, 46, 47, 48, 49, 50, 51, 52, 53, 54, 55, 56, 57, 58, 59, 60, 61, 62, 63, 64, 65, 66, 67, 68, 69, 70, 71, 72, 73, 74, 75, 76, 77, 78, 79, 80, 81, 82, 83, 84, 85, 86, 87, 88, 89, 90, 91, 92, 93, 94, 95, 96, 97, 98, 99, 100, 101] (by decide +kernel) (by decide +kernel)
set_option maxRecDepth 20000 in
theorem gX9_says_X9_thatCome : GoodIn wsX9_says (wsV RX9 144 RX9 yX9_thatCome wsX9_thatCome) := goodIn_app (goodIn_of _ (by decide +kernel)) ggX9_says_X9_thatCome
theorem dX9_says_0 : decode cX9_says 0 = .ok (.iload_n 1, 1) := by decide +kernel
theorem dX9_says_1 : decode cX9_says 1 = .ok (.i2l, 1) := by decide +kernel
theorem dX9_says_2 : decode cX9_says 2 = .ok (.lconst 0, 1) := by decide +kernel
theorem dX9_says_3 : decode cX9_says 3 = .ok (.ldc2_w 118, 3) := by decide +kernel
theorem dX9_says_6 : decode cX9_says 6 = .ok (.invokestatic 90, 3) := by decide +kernel
theorem dX9_says_9 : decode cX9_says 9 = .ok (.ifCond .eq 15, 3) := by decide +kernel
theorem dX9_says_12 : decode cX9_says 12 = .ok (.iload_n 2, 1) := by decide +kernel
theorem dX9_says_13 : decode cX9_says 13 = .ok (.i2l, 1) := by decide +kernel
theorem dX9_says_14 : decode cX9_says 14 = .ok (.lconst 0, 1) := by decide +kernel
theorem dX9_says_15 : decode cX9_says 15 = .ok (.ldc2_w 135, 3) := by decide +kernel
theorem dX9_says_18 : decode cX9_says 18 = .ok (.invokestatic 90, 3) := by decide +kernel
theorem dX9_says_21 : decode cX9_says 21 = .ok (.ifCond .ne 10, 3) := by decide +kernel
theorem dX9_says_24 : decode cX9_says 24 = .ok (.aload_n 0, 1) := by decide +kernel
theorem dX9_says_25 : decode cX9_says 25 = .ok (.bipush (-2), 2) := by decide +kernel
theorem dX9_says_27 : decode cX9_says 27 = .ok (.invokevirtual 124, 3) := by decide +kernel
theorem dX9_says_30 : decode cX9_says 30 = .ok (.ireturn, 1) := by decide +kernel
theorem dX9_says_31 : decode cX9_says 31 = .ok (.aload_n 0, 1) := by decide +kernel
theorem dX9_says_32 : decode cX9_says 32 = .ok (.getfield 7, 3) := by decide +kernel
theorem dX9_says_35 : decode cX9_says 35 = .ok (.iload_n 1, 1) := by decide +kernel
theorem dX9_says_36 : decode cX9_says 36 = .ok (.iaload, 1) := by decide +kernel
theorem dX9_says_37 : decode cX9_says 37 = .ok (.iconst 1, 1) := by decide +kernel
theorem dX9_says_38 : decode cX9_says 38 = .ok (.if_icmp .eq 26, 3) := by decide +kernel
theorem dX9_says_41 : decode cX9_says 41 = .ok (.aload_n 0, 1) := by decide +kernel
theorem dX9_says_42 : decode cX9_says 42 = .ok (.getfield 7, 3) := by decide +kernel
theorem dX9_says_45 : decode cX9_says 45 = .ok (.iload_n 1, 1) := by decide +kernel
theorem dX9_says_46 : decode cX9_says 46 = .ok (.iaload, 1) := by decide +kernel
theorem dX9_says_47 : decode cX9_says 47 = .ok (.iconst 2, 1) := by decide +kernel
theorem dX9_says_48 : decode cX9_says 48 = .ok (.if_icmp .ne 23, 3) := by decide +kernel
theorem dX9_says_51 : decode cX9_says 51 = .ok (.aload_n 0, 1) := by decide +kernel
theorem dX9_says_52 : decode cX9_says 52 = .ok (.getfield 28, 3) := by decide +kernel
theorem dX9_says_55 : decode cX9_says 55 = .ok (.iload_n 1, 1) := by decide +kernel
theorem dX9_says_56 : decode cX9_says 56 = .ok (.iaload, 1) := by decide +kernel
theorem dX9_says_57 : decode cX9_says 57 = .ok (.iload_n 2, 1) := by decide +kernel
theorem dX9_says_58 : decode cX9_says 58 = .ok (.invokestatic 137, 3) := by decide +kernel
theorem dX9_says_61 : decode cX9_says 61 = .ok (.ifCond .ne 10, 3) := by decide +kernel
theorem dX9_says_64 : decode cX9_says 64 = .ok (.aload_n 0, 1) := by decide +kernel
theorem dX9_says_65 : decode cX9_says 65 = .ok (.bipush (-3), 2) := by decide +kernel
theorem dX9_says_67 : decode cX9_says 67 = .ok (.invokevirtual 124, 3) := by decide +kernel
theorem dX9_says_70 : decode cX9_says 70 = .ok (.ireturn, 1) := by decide +kernel
theorem dX9_says_71 : decode cX9_says 71 = .ok (.aload_n 0, 1) := by decide +kernel
theorem dX9_says_72 : decode cX9_says 72 = .ok (.getfield 7, 3) := by decide +kernel
theorem dX9_says_75 : decode cX9_says 75 = .ok (.iload_n 1, 1) := by decide +kernel
theorem dX9_says_76 : decode cX9_says 76 = .ok (.iaload, 1) := by decide +kernel
theorem dX9_says_77 : decode cX9_says 77 = .ok (.ifCond .ne 10, 3) := by decide +kernel
theorem dX9_says_80 : decode cX9_says 80 = .ok (.aload_n 0, 1) := by decide +kernel
theorem dX9_says_81 : decode cX9_says 81 = .ok (.bipush (-4), 2) := by decide +kernel
theorem dX9_says_83 : decode cX9_says 83 = .ok (.invokevirtual 124, 3) := by decide +kernel
theorem dX9_says_86 : decode cX9_says 86 = .ok (.ireturn, 1) := by decide +kernel
theorem dX9_says_87 : decode cX9_says 87 = .ok (.iload_n 2, 1) := by decide +kernel
theorem dX9_says_88 : decode cX9_says 88 = .ok (.ifCond .ne 10, 3) := by decide +kernel
theorem dX9_says_91 : decode cX9_says 91 = .ok (.aload_n 0, 1) := by decide +kernel
theorem dX9_says_92 : decode cX9_says 92 = .ok (.getfield 31, 3) := by decide +kernel
theorem dX9_says_95 : decode cX9_says 95 = .ok (.iload_n 1, 1) := by decide +kernel
theorem dX9_says_96 : decode cX9_says 96 = .ok (.iaload, 1) := by decide +kernel
theorem dX9_says_97 : decode cX9_says 97 = .ok (.ireturn, 1) := by decide +kernel
theorem dX9_says_98 : decode cX9_says 98 = .ok (.iload_n 2, 1) := by decide +kernel
theorem dX9_says_99 : decode cX9_says 99 = .ok (.iconst 2, 1) := by decide +kernel
theorem dX9_says_100 : decode cX9_says 100 = .ok (.if_icmp .eq 8, 3) := by decide +kernel
theorem dX9_says_103 : decode cX9_says 103 = .ok (.iload_n 2, 1) := by decide +kernel
theorem dX9_says_104 : decode cX9_says 104 = .ok (.iconst 5, 1) := by decide +kernel
theorem dX9_says_105 : decode cX9_says 105 = .ok (.if_icmp .ne 12, 3) := by decide +kernel
theorem dX9_says_108 : decode cX9_says 108 = .ok (.aload_n 0, 1) := by decide +kernel
theorem dX9_says_109 : decode cX9_says 109 = .ok (.getfield 34, 3) := by decide +kernel
theorem dX9_says_112 : decode cX9_says 112 = .ok (.iload_n 1, 1) := by decide +kernel
theorem dX9_says_113 : decode cX9_says 113 = .ok (.iaload, 1) := by decide +kernel
theorem dX9_says_114 : decode cX9_says 114 = .ok (.goto 12, 3) := by decide +kernel
theorem dX9_says_117 : decode cX9_says 117 = .ok (.aload_n 0, 1) := by decide +kernel
theorem dX9_says_118 : decode cX9_says 118 = .ok (.iload_n 1, 1) := by decide +kernel
theorem dX9_says_119 : decode cX9_says 119 = .ok (.aload_n 0, 1) := by decide +kernel
theorem dX9_says_120 : decode cX9_says 120 = .ok (.invokevirtual 141, 3) := by decide +kernel
theorem dX9_says_123 : decode cX9_says 123 = .ok (.invokevirtual 144, 3) := by decide +kernel
theorem dX9_says_126 : decode cX9_says 126 = .ok (.ireturn, 1) := by decide +kernel
set_option maxRecDepth 20000 in
theorem ggX9_thatCome_X9_many : GoodIn wsX9_thatCome wsX9_many := goodIn_r _ [6, 7, 38, 39, 40, 41, 42, 43, 44, 45, 46, 47, 48, 49, 50, 51, 52, 53, 54, 55, 56, 57, 58, 59, 60, 61, 62, 63, 64, 65, 66, 67, 68, 69, 70, 71, 72, 73, 74] (by decide +kernel) (by decide +kernel)
set_option maxRecDepth 20000 in
theorem gX9_thatCome_X9_many : GoodIn wsX9_thatCome (wsV RX9 86 RX9 yX9_many wsX9_many) := goodIn_app (goodIn_of _ (by decide +kernel)) ggX9_thatCome_X9_many
set_option maxRecDepth 20000 in
theorem ggX9_thatCome_X9_has : GoodIn wsX9_thatCome wsX9_has := goodIn_r _ [10] (by decide +kernel) (by decide +kernel)
set_option maxRecDepth 20000 in
theorem gX9_thatCome_X9_has : GoodIn wsX9_thatCome (va_wsS RX9 110 yX9_has wsX9_has) := goodIn_app (goodIn_of _ (by decide +kernel)) ggX9_thatCome_X9_has
set_option maxRecDepth 20000 in
theorem ggX9_thatCome_X9_comesBy : GoodIn wsX9_thatCome wsX9_comesBy := goodIn_r _ [14, 15, 16, 17, 18, 19, 20, 5, 21, 2, 3, 4, 6, 7, 8, 9, 10, 22, 23, 24, 25, 26, 27, 28, 29, 30, 31, 32, 33, 34, 35, 36, 37, 38, 39, 40, 41, 42, 43, 44, 45, 46, 47, 48, 49, 50, 51, 52, 53, 54, 55, 56, 57, 58, 59, 60, 61, 62, 63, 64, 65, 66, 67, 68, 69, 70, 71, 72, 73, 74] (by decide +kernel) (by decide +kernel)
set_option maxRecDepth 20000 in
theorem gX9_thatCome_X9_comesBy : GoodIn wsX9_thatCome (wsV RX9 148 RX9 yX9_comesBy wsX9_comesBy) := goodIn_app (goodIn_of _ (by decide +kernel)) ggX9_thatCome_X9_comesBy
theorem dX9_thatCome_0 : decode cX9_thatCome 0 = .ok (.iconst 0, 1) := by decide +kernel
theorem dX9_thatCome_1 : decode cX9_thatCome 1 = .ok (.istore 4, 2) := by decide +kernel
theorem dX9_thatCome_3 : decode cX9_thatCome 3 = .ok (.iconst 0, 1) := by decide +kernel
theorem dX9_thatCome_4 : decode cX9_thatCome 4 = .ok (.istore 5, 2) := by decide +kernel
theorem dX9_thatCome_6 : decode cX9_thatCome 6 = .ok (.iload 5, 2) := by decide +kernel
theorem dX9_thatCome_8 : decode cX9_thatCome 8 = .ok (.aload_n 0, 1) := by decide +kernel
theorem dX9_thatCome_9 : decode cX9_thatCome 9 = .ok (.invokevirtual 86, 3) := by decide +kernel
theorem dX9_thatCome_12 : decode cX9_thatCome 12 = .ok (.if_icmp .ge 44, 3) := by decide +kernel
theorem dX9_thatCome_15 : decode cX9_thatCome 15 = .ok (.iload 4, 2) := by decide +kernel
theorem dX9_thatCome_17 : decode cX9_thatCome 17 = .ok (.lload_n 2, 1) := by decide +kernel
theorem dX9_thatCome_18 : decode cX9_thatCome 18 = .ok (.iload 5, 2) := by decide +kernel
theorem dX9_thatCome_20 : decode cX9_thatCome 20 = .ok (.invokestatic 110, 3) := by decide +kernel
theorem dX9_thatCome_23 : decode cX9_thatCome 23 = .ok (.ifCond .eq 23, 3) := by decide +kernel
theorem dX9_thatCome_26 : decode cX9_thatCome 26 = .ok (.aload_n 0, 1) := by decide +kernel
theorem dX9_thatCome_27 : decode cX9_thatCome 27 = .ok (.iload_n 1, 1) := by decide +kernel
theorem dX9_thatCome_28 : decode cX9_thatCome 28 = .ok (.lconst 1, 1) := by decide +kernel
theorem dX9_thatCome_29 : decode cX9_thatCome 29 = .ok (.iload 5, 2) := by decide +kernel
theorem dX9_thatCome_31 : decode cX9_thatCome 31 = .ok (.lshl, 1) := by decide +kernel
theorem dX9_thatCome_32 : decode cX9_thatCome 32 = .ok (.aload_n 0, 1) := by decide +kernel
theorem dX9_thatCome_33 : decode cX9_thatCome 33 = .ok (.getfield 106, 3) := by decide +kernel
theorem dX9_thatCome_36 : decode cX9_thatCome 36 = .ok (.invokevirtual 148, 3) := by decide +kernel
theorem dX9_thatCome_39 : decode cX9_thatCome 39 = .ok (.ifCond .eq 7, 3) := by decide +kernel
theorem dX9_thatCome_42 : decode cX9_thatCome 42 = .ok (.iconst 1, 1) := by decide +kernel
theorem dX9_thatCome_43 : decode cX9_thatCome 43 = .ok (.goto 4, 3) := by decide +kernel
theorem dX9_thatCome_46 : decode cX9_thatCome 46 = .ok (.iconst 0, 1) := by decide +kernel
theorem dX9_thatCome_47 : decode cX9_thatCome 47 = .ok (.iadd, 1) := by decide +kernel
theorem dX9_thatCome_48 : decode cX9_thatCome 48 = .ok (.istore 4, 2) := by decide +kernel
theorem dX9_thatCome_50 : decode cX9_thatCome 50 = .ok (.iinc 5 1, 3) := by decide +kernel
theorem dX9_thatCome_53 : decode cX9_thatCome 53 = .ok (.goto (-47), 3) := by decide +kernel
theorem dX9_thatCome_56 : decode cX9_thatCome 56 = .ok (.iload 4, 2) := by decide +kernel
theorem dX9_thatCome_58 : decode cX9_thatCome 58 = .ok (.ireturn, 1) := by decide +kernel
set_option maxRecDepth 20000 in
theorem ggX9_newSize_X9_showOnes : GoodIn wsX9_newSize wsX9_showOnes := goodIn_r _ [9, 10, 11, 12, 13, 14, 15, 16, 17, 18, 19, 20, 21, 22, 23, 24, 25, 26, 27, 28, 29, 30, 31, 32, 33, 34, 35, 36, 37, 38, 39, 40, 41, 42, 43, 44, 45, 46, 47] (by decide +kernel) (by decide +kernel)
set_option maxRecDepth 20000 in
theorem gX9_newSize_X9_showOnes : GoodIn wsX9_newSize (wsV RX9 83 RX9 yX9_showOnes wsX9_showOnes) := goodIn_app (goodIn_of _ (by decide +kernel)) ggX9_newSize_X9_showOnes
theorem dX9_newSize_0 : decode cX9_newSize 0 = .ok (.aload_n 0, 1) := by decide +kernel
theorem dX9_newSize_1 : decode cX9_newSize 1 = .ok (.iload_n 1, 1) := by decide +kernel
theorem dX9_newSize_2 : decode cX9_newSize 2 = .ok (.putfield 43, 3) := by decide +kernel
theorem dX9_newSize_5 : decode cX9_newSize 5 = .ok (.aload_n 0, 1) := by decide +kernel
theorem dX9_newSize_6 : decode cX9_newSize 6 = .ok (.lconst 0, 1) := by decide +kernel
theorem dX9_newSize_7 : decode cX9_newSize 7 = .ok (.putfield 106, 3) := by decide +kernel
theorem dX9_newSize_10 : decode cX9_newSize 10 = .ok (.aload_n 0, 1) := by decide +kernel
theorem dX9_newSize_11 : decode cX9_newSize 11 = .ok (.iconst 0, 1) := by decide +kernel
theorem dX9_newSize_12 : decode cX9_newSize 12 = .ok (.putfield 94, 3) := by decide +kernel
theorem dX9_newSize_15 : decode cX9_newSize 15 = .ok (.aload_n 0, 1) := by decide +kernel
theorem dX9_newSize_16 : decode cX9_newSize 16 = .ok (.iconst 0, 1) := by decide +kernel
theorem dX9_newSize_17 : decode cX9_newSize 17 = .ok (.putfield 97, 3) := by decide +kernel
theorem dX9_newSize_20 : decode cX9_newSize 20 = .ok (.aload_n 0, 1) := by decide +kernel
theorem dX9_newSize_21 : decode cX9_newSize 21 = .ok (.invokevirtual 83, 3) := by decide +kernel
theorem dX9_newSize_24 : decode cX9_newSize 24 = .ok (.return_, 1) := by decide +kernel
set_option maxRecDepth 20000 in
theorem ggX9_size_X9_in : GoodIn wsX9_size wsX9_in := goodIn_r _ [7] (by decide +kernel) (by decide +kernel)
set_option maxRecDepth 20000 in
theorem gX9_size_X9_in : GoodIn wsX9_size (va_wsS RX9 90 yX9_in wsX9_in) := goodIn_app (goodIn_of _ (by decide +kernel)) ggX9_size_X9_in
set_option maxRecDepth 20000 in
theorem ggX9_size_X9_refuse : GoodIn wsX9_size wsX9_refuse := goodIn_r _ [11, 12, 25, 26, 27, 28, 29, 30, 31, 32, 33, 34, 35, 36, 37, 38, 39, 40, 41, 42, 43, 44, 45, 46, 47, 48, 49, 50, 51, 52, 53, 54, 55, 56, 57, 58, 59, 60, 61] (by decide +kernel) (by decide +kernel)
set_option maxRecDepth 20000 in
theorem gX9_size_X9_refuse : GoodIn wsX9_size (wsV RX9 124 RX9 yX9_refuse wsX9_refuse) := goodIn_app (goodIn_of _ (by decide +kernel)) ggX9_size_X9_refuse
set_option maxRecDepth 20000 in
theorem ggX9_size_X9_newSize : GoodIn wsX9_size wsX9_newSize := goodIn_r _ [16, 3, 17, 18, 19, 20, 21, 22, 6, 23, 24, 25, 26, 27, 28, 29, 30, 31, 32, 33, 34, 35, 36, 37, 38, 39, 40, 41, 42, 43, 44, 45, 46, 47, 48, 49, 50, 51, 52, 53, 54, 55, 56, 57, 58, 59, 60, 61] (by decide +kernel) (by decide +kernel)
set_option maxRecDepth 20000 in
theorem gX9_size_X9_newSize : GoodIn wsX9_size (wsV RX9 154 RX9 yX9_newSize wsX9_newSize) := goodIn_app (goodIn_of _ (by decide +kernel)) ggX9_size_X9_newSize
theorem dX9_size_0 : decode cX9_size 0 = .ok (.iload_n 1, 1) := by decide +kernel
theorem dX9_size_1 : decode cX9_size 1 = .ok (.i2l, 1) := by decide +kernel
theorem dX9_size_2 : decode cX9_size 2 = .ok (.ldc2_w 152, 3) := by decide +kernel
theorem dX9_size_5 : decode cX9_size 5 = .ok (.ldc2_w 120, 3) := by decide +kernel
theorem dX9_size_8 : decode cX9_size 8 = .ok (.invokestatic 90, 3) := by decide +kernel
theorem dX9_size_11 : decode cX9_size 11 = .ok (.ifCond .ne 10, 3) := by decide +kernel
theorem dX9_size_14 : decode cX9_size 14 = .ok (.aload_n 0, 1) := by decide +kernel
theorem dX9_size_15 : decode cX9_size 15 = .ok (.bipush (-2), 2) := by decide +kernel
theorem dX9_size_17 : decode cX9_size 17 = .ok (.invokevirtual 124, 3) := by decide +kernel
theorem dX9_size_20 : decode cX9_size 20 = .ok (.ireturn, 1) := by decide +kernel
theorem dX9_size_21 : decode cX9_size 21 = .ok (.aload_n 0, 1) := by decide +kernel
theorem dX9_size_22 : decode cX9_size 22 = .ok (.getfield 43, 3) := by decide +kernel
theorem dX9_size_25 : decode cX9_size 25 = .ok (.istore_n 2, 1) := by decide +kernel
theorem dX9_size_26 : decode cX9_size 26 = .ok (.aload_n 0, 1) := by decide +kernel
theorem dX9_size_27 : decode cX9_size 27 = .ok (.iload_n 1, 1) := by decide +kernel
theorem dX9_size_28 : decode cX9_size 28 = .ok (.invokevirtual 154, 3) := by decide +kernel
theorem dX9_size_31 : decode cX9_size 31 = .ok (.iload_n 2, 1) := by decide +kernel
theorem dX9_size_32 : decode cX9_size 32 = .ok (.ireturn, 1) := by decide +kernel
set_option maxRecDepth 20000 in
theorem ggX9_solid_X9_block : GoodIn wsX9_solid wsX9_block := goodIn_r _ [7, 8, 2, 9, 10, 11, 6, 12, 19, 20, 21, 22, 23, 24, 25, 26, 27, 28, 29, 30, 31, 32, 33, 34, 35, 36, 37, 38, 39, 40, 41, 42, 43, 44, 45, 46, 47, 48, 49, 50, 51, 52, 53, 54, 55] (by decide +kernel) (by decide +kernel)
set_option maxRecDepth 20000 in
theorem gX9_solid_X9_block : GoodIn wsX9_solid (wsV RX9 102 RX9 yX9_block wsX9_block) := goodIn_app (goodIn_of _ (by decide +kernel)) ggX9_solid_X9_block
set_option maxRecDepth 20000 in
theorem ggX9_solid_X9_bits : GoodIn wsX9_solid wsX9_bits := goodIn_r _ [15, 16, 17, 6, 18] (by decide +kernel) (by decide +kernel)
set_option maxRecDepth 20000 in
theorem gX9_solid_X9_bits : GoodIn wsX9_solid (va_wsS RX9 158 yX9_bits wsX9_bits) := goodIn_app (goodIn_of _ (by decide +kernel)) ggX9_solid_X9_bits
theorem dX9_solid_0 : decode cX9_solid 0 = .ok (.aload_n 0, 1) := by decide +kernel
theorem dX9_solid_1 : decode cX9_solid 1 = .ok (.getfield 106, 3) := by decide +kernel
theorem dX9_solid_4 : decode cX9_solid 4 = .ok (.lstore 4, 2) := by decide +kernel
theorem dX9_solid_6 : decode cX9_solid 6 = .ok (.aload_n 0, 1) := by decide +kernel
theorem dX9_solid_7 : decode cX9_solid 7 = .ok (.iload_n 3, 1) := by decide +kernel
theorem dX9_solid_8 : decode cX9_solid 8 = .ok (.ifCond .eq 17, 3) := by decide +kernel
theorem dX9_solid_11 : decode cX9_solid 11 = .ok (.aload_n 0, 1) := by decide +kernel
theorem dX9_solid_12 : decode cX9_solid 12 = .ok (.getfield 106, 3) := by decide +kernel
theorem dX9_solid_15 : decode cX9_solid 15 = .ok (.lload_n 1, 1) := by decide +kernel
theorem dX9_solid_16 : decode cX9_solid 16 = .ok (.aload_n 0, 1) := by decide +kernel
theorem dX9_solid_17 : decode cX9_solid 17 = .ok (.invokevirtual 102, 3) := by decide +kernel
theorem dX9_solid_20 : decode cX9_solid 20 = .ok (.land, 1) := by decide +kernel
theorem dX9_solid_21 : decode cX9_solid 21 = .ok (.lor, 1) := by decide +kernel
theorem dX9_solid_22 : decode cX9_solid 22 = .ok (.goto 13, 3) := by decide +kernel
theorem dX9_solid_25 : decode cX9_solid 25 = .ok (.aload_n 0, 1) := by decide +kernel
theorem dX9_solid_26 : decode cX9_solid 26 = .ok (.getfield 106, 3) := by decide +kernel
theorem dX9_solid_29 : decode cX9_solid 29 = .ok (.lload_n 1, 1) := by decide +kernel
theorem dX9_solid_30 : decode cX9_solid 30 = .ok (.ldc2_w 100, 3) := by decide +kernel
theorem dX9_solid_33 : decode cX9_solid 33 = .ok (.lxor, 1) := by decide +kernel
theorem dX9_solid_34 : decode cX9_solid 34 = .ok (.land, 1) := by decide +kernel
theorem dX9_solid_35 : decode cX9_solid 35 = .ok (.putfield 106, 3) := by decide +kernel
theorem dX9_solid_38 : decode cX9_solid 38 = .ok (.lload 4, 2) := by decide +kernel
theorem dX9_solid_40 : decode cX9_solid 40 = .ok (.aload_n 0, 1) := by decide +kernel
theorem dX9_solid_41 : decode cX9_solid 41 = .ok (.getfield 106, 3) := by decide +kernel
theorem dX9_solid_44 : decode cX9_solid 44 = .ok (.lxor, 1) := by decide +kernel
theorem dX9_solid_45 : decode cX9_solid 45 = .ok (.invokestatic 158, 3) := by decide +kernel
theorem dX9_solid_48 : decode cX9_solid 48 = .ok (.ireturn, 1) := by decide +kernel
set_option maxRecDepth 20000 in
theorem ggX9_figure_X9_noRow : GoodIn wsX9_figure wsX9_noRow := goodIn_r _ [8, 9, 10, 11, 12, 7, 13, 14, 15, 16, 17, 18, 30, 31, 32, 33, 34, 35, 36, 37, 38, 39, 40, 41, 42, 43, 44, 45, 46, 47, 48, 49, 50, 51, 52, 53, 54, 55, 56, 57, 58, 59, 60, 61, 62, 63, 64, 65, 66] (by decide +kernel) (by decide +kernel)
set_option maxRecDepth 20000 in
theorem gX9_figure_X9_noRow : GoodIn wsX9_figure (wsV RX9 128 RX9 yX9_noRow wsX9_noRow) := goodIn_app (goodIn_of _ (by decide +kernel)) ggX9_figure_X9_noRow
set_option maxRecDepth 20000 in
theorem ggX9_figure_X9_many : GoodIn wsX9_figure wsX9_many := goodIn_r _ [22, 23, 30, 31, 32, 33, 34, 35, 36, 37, 38, 39, 40, 41, 42, 43, 44, 45, 46, 47, 48, 49, 50, 51, 52, 53, 54, 55, 56, 57, 58, 59, 60, 61, 62, 63, 64, 65, 66] (by decide +kernel) (by decide +kernel)
set_option maxRecDepth 20000 in
theorem gX9_figure_X9_many : GoodIn wsX9_figure (wsV RX9 86 RX9 yX9_many wsX9_many) := goodIn_app (goodIn_of _ (by decide +kernel)) ggX9_figure_X9_many
set_option maxRecDepth 20000 in
theorem ggX9_figure_X9_bits : GoodIn wsX9_figure wsX9_bits := goodIn_r _ [26, 27, 28, 7, 29] (by decide +kernel) (by decide +kernel)
set_option maxRecDepth 20000 in
theorem gX9_figure_X9_bits : GoodIn wsX9_figure (va_wsS RX9 158 yX9_bits wsX9_bits) := goodIn_app (goodIn_of _ (by decide +kernel)) ggX9_figure_X9_bits
theorem dX9_figure_0 : decode cX9_figure 0 = .ok (.aload_n 0, 1) := by decide +kernel
theorem dX9_figure_1 : decode cX9_figure 1 = .ok (.iload_n 1, 1) := by decide +kernel
theorem dX9_figure_2 : decode cX9_figure 2 = .ok (.invokevirtual 128, 3) := by decide +kernel
theorem dX9_figure_5 : decode cX9_figure 5 = .ok (.istore_n 2, 1) := by decide +kernel
theorem dX9_figure_6 : decode cX9_figure 6 = .ok (.iload_n 2, 1) := by decide +kernel
theorem dX9_figure_7 : decode cX9_figure 7 = .ok (.ifCond .eq 5, 3) := by decide +kernel
theorem dX9_figure_10 : decode cX9_figure 10 = .ok (.iload_n 2, 1) := by decide +kernel
theorem dX9_figure_11 : decode cX9_figure 11 = .ok (.ireturn, 1) := by decide +kernel
theorem dX9_figure_12 : decode cX9_figure 12 = .ok (.aload_n 0, 1) := by decide +kernel
theorem dX9_figure_13 : decode cX9_figure 13 = .ok (.lconst 0, 1) := by decide +kernel
theorem dX9_figure_14 : decode cX9_figure 14 = .ok (.putfield 106, 3) := by decide +kernel
theorem dX9_figure_17 : decode cX9_figure 17 = .ok (.iconst 0, 1) := by decide +kernel
theorem dX9_figure_18 : decode cX9_figure 18 = .ok (.istore_n 3, 1) := by decide +kernel
theorem dX9_figure_19 : decode cX9_figure 19 = .ok (.iload_n 3, 1) := by decide +kernel
theorem dX9_figure_20 : decode cX9_figure 20 = .ok (.aload_n 0, 1) := by decide +kernel
theorem dX9_figure_21 : decode cX9_figure 21 = .ok (.invokevirtual 86, 3) := by decide +kernel
theorem dX9_figure_24 : decode cX9_figure 24 = .ok (.if_icmp .ge 48, 3) := by decide +kernel
theorem dX9_figure_27 : decode cX9_figure 27 = .ok (.iload_n 3, 1) := by decide +kernel
theorem dX9_figure_28 : decode cX9_figure 28 = .ok (.aload_n 0, 1) := by decide +kernel
theorem dX9_figure_29 : decode cX9_figure 29 = .ok (.getfield 16, 3) := by decide +kernel
theorem dX9_figure_32 : decode cX9_figure 32 = .ok (.iload_n 1, 1) := by decide +kernel
theorem dX9_figure_33 : decode cX9_figure 33 = .ok (.iaload, 1) := by decide +kernel
theorem dX9_figure_34 : decode cX9_figure 34 = .ok (.if_icmp .ge 38, 3) := by decide +kernel
theorem dX9_figure_37 : decode cX9_figure 37 = .ok (.aload_n 0, 1) := by decide +kernel
theorem dX9_figure_38 : decode cX9_figure 38 = .ok (.dup, 1) := by decide +kernel
theorem dX9_figure_39 : decode cX9_figure 39 = .ok (.getfield 106, 3) := by decide +kernel
theorem dX9_figure_42 : decode cX9_figure 42 = .ok (.aload_n 0, 1) := by decide +kernel
theorem dX9_figure_43 : decode cX9_figure 43 = .ok (.getfield 21, 3) := by decide +kernel
theorem dX9_figure_46 : decode cX9_figure 46 = .ok (.iload_n 1, 1) := by decide +kernel
theorem dX9_figure_47 : decode cX9_figure 47 = .ok (.aaload, 1) := by decide +kernel
theorem dX9_figure_48 : decode cX9_figure 48 = .ok (.iload_n 3, 1) := by decide +kernel
theorem dX9_figure_49 : decode cX9_figure 49 = .ok (.laload, 1) := by decide +kernel
theorem dX9_figure_50 : decode cX9_figure 50 = .ok (.lconst 0, 1) := by decide +kernel
theorem dX9_figure_51 : decode cX9_figure 51 = .ok (.lcmp, 1) := by decide +kernel
theorem dX9_figure_52 : decode cX9_figure 52 = .ok (.ifCond .eq 9, 3) := by decide +kernel
theorem dX9_figure_55 : decode cX9_figure 55 = .ok (.lconst 1, 1) := by decide +kernel
theorem dX9_figure_56 : decode cX9_figure 56 = .ok (.iload_n 3, 1) := by decide +kernel
theorem dX9_figure_57 : decode cX9_figure 57 = .ok (.lshl, 1) := by decide +kernel
theorem dX9_figure_58 : decode cX9_figure 58 = .ok (.goto 4, 3) := by decide +kernel
theorem dX9_figure_61 : decode cX9_figure 61 = .ok (.lconst 0, 1) := by decide +kernel
theorem dX9_figure_62 : decode cX9_figure 62 = .ok (.lor, 1) := by decide +kernel
theorem dX9_figure_63 : decode cX9_figure 63 = .ok (.putfield 106, 3) := by decide +kernel
theorem dX9_figure_66 : decode cX9_figure 66 = .ok (.iinc 3 1, 3) := by decide +kernel
theorem dX9_figure_69 : decode cX9_figure 69 = .ok (.goto (-50), 3) := by decide +kernel
theorem dX9_figure_72 : decode cX9_figure 72 = .ok (.aload_n 0, 1) := by decide +kernel
theorem dX9_figure_73 : decode cX9_figure 73 = .ok (.getfield 106, 3) := by decide +kernel
theorem dX9_figure_76 : decode cX9_figure 76 = .ok (.invokestatic 158, 3) := by decide +kernel
theorem dX9_figure_79 : decode cX9_figure 79 = .ok (.ireturn, 1) := by decide +kernel
set_option maxRecDepth 20000 in
theorem ggX9_piece_X9_refuse : GoodIn wsX9_piece wsX9_refuse := goodIn_r _ [8, 9, 20, 21, 22, 23, 24, 25, 26, 27, 28, 29, 30, 31, 32, 33, 34, 35, 36, 37, 38, 39, 40, 41, 42, 43, 44, 45, 46, 47, 48, 49, 50, 51, 52, 53, 54, 55, 56] (by decide +kernel) (by decide +kernel)
set_option maxRecDepth 20000 in
theorem gX9_piece_X9_refuse : GoodIn wsX9_piece (wsV RX9 124 RX9 yX9_refuse wsX9_refuse) := goodIn_app (goodIn_of _ (by decide +kernel)) ggX9_piece_X9_refuse
set_option maxRecDepth 20000 in
theorem ggX9_piece_X9_block : GoodIn wsX9_piece wsX9_block := goodIn_r _ [13, 14, 15, 16, 17, 18, 7, 19, 20, 21, 22, 23, 24, 25, 26, 27, 28, 29, 30, 31, 32, 33, 34, 35, 36, 37, 38, 39, 40, 41, 42, 43, 44, 45, 46, 47, 48, 49, 50, 51, 52, 53, 54, 55, 56] (by decide +kernel) (by decide +kernel)
set_option maxRecDepth 20000 in
theorem gX9_piece_X9_block : GoodIn wsX9_piece (wsV RX9 102 RX9 yX9_block wsX9_block) := goodIn_app (goodIn_of _ (by decide +kernel)) ggX9_piece_X9_block
theorem dX9_piece_0 : decode cX9_piece 0 = .ok (.aload_n 0, 1) := by decide +kernel
theorem dX9_piece_1 : decode cX9_piece 1 = .ok (.getfield 94, 3) := by decide +kernel
theorem dX9_piece_4 : decode cX9_piece 4 = .ok (.bipush 8, 2) := by decide +kernel
theorem dX9_piece_6 : decode cX9_piece 6 = .ok (.if_icmp .ne 10, 3) := by decide +kernel
theorem dX9_piece_9 : decode cX9_piece 9 = .ok (.aload_n 0, 1) := by decide +kernel
theorem dX9_piece_10 : decode cX9_piece 10 = .ok (.bipush (-6), 2) := by decide +kernel
theorem dX9_piece_12 : decode cX9_piece 12 = .ok (.invokevirtual 124, 3) := by decide +kernel
theorem dX9_piece_15 : decode cX9_piece 15 = .ok (.ireturn, 1) := by decide +kernel
theorem dX9_piece_16 : decode cX9_piece 16 = .ok (.aload_n 0, 1) := by decide +kernel
theorem dX9_piece_17 : decode cX9_piece 17 = .ok (.getfield 47, 3) := by decide +kernel
theorem dX9_piece_20 : decode cX9_piece 20 = .ok (.aload_n 0, 1) := by decide +kernel
theorem dX9_piece_21 : decode cX9_piece 21 = .ok (.getfield 94, 3) := by decide +kernel
theorem dX9_piece_24 : decode cX9_piece 24 = .ok (.lload_n 1, 1) := by decide +kernel
theorem dX9_piece_25 : decode cX9_piece 25 = .ok (.aload_n 0, 1) := by decide +kernel
theorem dX9_piece_26 : decode cX9_piece 26 = .ok (.invokevirtual 102, 3) := by decide +kernel
theorem dX9_piece_29 : decode cX9_piece 29 = .ok (.land, 1) := by decide +kernel
theorem dX9_piece_30 : decode cX9_piece 30 = .ok (.lastore, 1) := by decide +kernel
theorem dX9_piece_31 : decode cX9_piece 31 = .ok (.aload_n 0, 1) := by decide +kernel
theorem dX9_piece_32 : decode cX9_piece 32 = .ok (.dup, 1) := by decide +kernel
theorem dX9_piece_33 : decode cX9_piece 33 = .ok (.getfield 97, 3) := by decide +kernel
theorem dX9_piece_36 : decode cX9_piece 36 = .ok (.iconst 1, 1) := by decide +kernel
theorem dX9_piece_37 : decode cX9_piece 37 = .ok (.aload_n 0, 1) := by decide +kernel
theorem dX9_piece_38 : decode cX9_piece 38 = .ok (.getfield 94, 3) := by decide +kernel
theorem dX9_piece_41 : decode cX9_piece 41 = .ok (.ishl, 1) := by decide +kernel
theorem dX9_piece_42 : decode cX9_piece 42 = .ok (.iconst (-1), 1) := by decide +kernel
theorem dX9_piece_43 : decode cX9_piece 43 = .ok (.ixor, 1) := by decide +kernel
theorem dX9_piece_44 : decode cX9_piece 44 = .ok (.iand, 1) := by decide +kernel
theorem dX9_piece_45 : decode cX9_piece 45 = .ok (.putfield 97, 3) := by decide +kernel
theorem dX9_piece_48 : decode cX9_piece 48 = .ok (.aload_n 0, 1) := by decide +kernel
theorem dX9_piece_49 : decode cX9_piece 49 = .ok (.dup, 1) := by decide +kernel
theorem dX9_piece_50 : decode cX9_piece 50 = .ok (.getfield 94, 3) := by decide +kernel
