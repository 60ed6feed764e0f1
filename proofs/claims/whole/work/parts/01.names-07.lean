theorem dX9_imageOf_103 : decode cX9_imageOf 103 = .ok (.aload_n 0, 1) := by decide +kernel
theorem dX9_imageOf_104 : decode cX9_imageOf 104 = .ok (.getfield 43, 3) := by decide +kernel
theorem dX9_imageOf_107 : decode cX9_imageOf 107 = .ok (.iconst 1, 1) := by decide +kernel
theorem dX9_imageOf_108 : decode cX9_imageOf 108 = .ok (.isub, 1) := by decide +kernel
theorem dX9_imageOf_109 : decode cX9_imageOf 109 = .ok (.aload_n 0, 1) := by decide +kernel
theorem dX9_imageOf_110 : decode cX9_imageOf 110 = .ok (.getfield 77, 3) := by decide +kernel
theorem dX9_imageOf_113 : decode cX9_imageOf 113 = .ok (.iload_n 2, 1) := by decide +kernel
theorem dX9_imageOf_114 : decode cX9_imageOf 114 = .ok (.iaload, 1) := by decide +kernel
theorem dX9_imageOf_115 : decode cX9_imageOf 115 = .ok (.isub, 1) := by decide +kernel
theorem dX9_imageOf_116 : decode cX9_imageOf 116 = .ok (.iastore, 1) := by decide +kernel
theorem dX9_imageOf_117 : decode cX9_imageOf 117 = .ok (.aload_n 0, 1) := by decide +kernel
theorem dX9_imageOf_118 : decode cX9_imageOf 118 = .ok (.aload_n 0, 1) := by decide +kernel
theorem dX9_imageOf_119 : decode cX9_imageOf 119 = .ok (.getfield 77, 3) := by decide +kernel
theorem dX9_imageOf_122 : decode cX9_imageOf 122 = .ok (.iconst 0, 1) := by decide +kernel
theorem dX9_imageOf_123 : decode cX9_imageOf 123 = .ok (.iaload, 1) := by decide +kernel
theorem dX9_imageOf_124 : decode cX9_imageOf 124 = .ok (.aload_n 0, 1) := by decide +kernel
theorem dX9_imageOf_125 : decode cX9_imageOf 125 = .ok (.getfield 77, 3) := by decide +kernel
theorem dX9_imageOf_128 : decode cX9_imageOf 128 = .ok (.iconst 1, 1) := by decide +kernel
theorem dX9_imageOf_129 : decode cX9_imageOf 129 = .ok (.iaload, 1) := by decide +kernel
theorem dX9_imageOf_130 : decode cX9_imageOf 130 = .ok (.aload_n 0, 1) := by decide +kernel
theorem dX9_imageOf_131 : decode cX9_imageOf 131 = .ok (.getfield 77, 3) := by decide +kernel
theorem dX9_imageOf_134 : decode cX9_imageOf 134 = .ok (.iconst 2, 1) := by decide +kernel
theorem dX9_imageOf_135 : decode cX9_imageOf 135 = .ok (.iaload, 1) := by decide +kernel
theorem dX9_imageOf_136 : decode cX9_imageOf 136 = .ok (.invokevirtual 350, 3) := by decide +kernel
theorem dX9_imageOf_139 : decode cX9_imageOf 139 = .ok (.ireturn, 1) := by decide +kernel
set_option maxRecDepth 20000 in
theorem ggX9_imagesOf_X9_many : GoodIn wsX9_imagesOf wsX9_many := goodIn_r _ [5, 6, 23, 24, 25, 26, 27, 28, 29, 30, 31, 32, 33, 34, 35, 36, 37, 38, 39, 40, 41, 42, 43, 44, 45, 46, 47, 48, 49, 50, 51, 52, 53, 54, 55, 56, 57, 58, 59] (by decide +kernel) (by decide +kernel)
set_option maxRecDepth 20000 in
theorem gX9_imagesOf_X9_many : GoodIn wsX9_imagesOf (wsV RX9 86 RX9 yX9_many wsX9_many) := goodIn_app (goodIn_of _ (by decide +kernel)) ggX9_imagesOf_X9_many
set_option maxRecDepth 20000 in
theorem ggX9_imagesOf_X9_has : GoodIn wsX9_imagesOf wsX9_has := goodIn_r _ [9] (by decide +kernel) (by decide +kernel)
set_option maxRecDepth 20000 in
theorem gX9_imagesOf_X9_has : GoodIn wsX9_imagesOf (va_wsS RX9 110 yX9_has wsX9_has) := goodIn_app (goodIn_of _ (by decide +kernel)) ggX9_imagesOf_X9_has
set_option maxRecDepth 20000 in
theorem ggX9_imagesOf_X9_imageOf : GoodIn wsX9_imagesOf wsX9_imageOf := goodIn_r _ [13, 14, 6, 15, 16, 17, 4, 18, 19, 20, 21, 22, 23, 24, 25, 26, 27, 28, 29, 30, 31, 32, 33, 34, 35, 36, 37, 38, 39, 40, 41, 42, 43, 44, 45, 46, 47, 48, 49, 50, 51, 52, 53, 54, 55, 56, 57, 58, 59] (by decide +kernel) (by decide +kernel)
set_option maxRecDepth 20000 in
theorem gX9_imagesOf_X9_imageOf : GoodIn wsX9_imagesOf (wsV RX9 354 RX9 yX9_imageOf wsX9_imageOf) := goodIn_app (goodIn_of _ (by decide +kernel)) ggX9_imagesOf_X9_imageOf
theorem dX9_imagesOf_0 : decode cX9_imagesOf 0 = .ok (.lconst 0, 1) := by decide +kernel
theorem dX9_imagesOf_1 : decode cX9_imagesOf 1 = .ok (.lstore 5, 2) := by decide +kernel
theorem dX9_imagesOf_3 : decode cX9_imagesOf 3 = .ok (.iconst 0, 1) := by decide +kernel
theorem dX9_imagesOf_4 : decode cX9_imagesOf 4 = .ok (.istore 7, 2) := by decide +kernel
theorem dX9_imagesOf_6 : decode cX9_imagesOf 6 = .ok (.iload 7, 2) := by decide +kernel
theorem dX9_imagesOf_8 : decode cX9_imagesOf 8 = .ok (.aload_n 0, 1) := by decide +kernel
theorem dX9_imagesOf_9 : decode cX9_imagesOf 9 = .ok (.invokevirtual 86, 3) := by decide +kernel
theorem dX9_imagesOf_12 : decode cX9_imagesOf 12 = .ok (.if_icmp .ge 38, 3) := by decide +kernel
theorem dX9_imagesOf_15 : decode cX9_imagesOf 15 = .ok (.lload 5, 2) := by decide +kernel
theorem dX9_imagesOf_17 : decode cX9_imagesOf 17 = .ok (.lload_n 1, 1) := by decide +kernel
theorem dX9_imagesOf_18 : decode cX9_imagesOf 18 = .ok (.iload 7, 2) := by decide +kernel
theorem dX9_imagesOf_20 : decode cX9_imagesOf 20 = .ok (.invokestatic 110, 3) := by decide +kernel
theorem dX9_imagesOf_23 : decode cX9_imagesOf 23 = .ok (.ifCond .eq 17, 3) := by decide +kernel
theorem dX9_imagesOf_26 : decode cX9_imagesOf 26 = .ok (.lconst 1, 1) := by decide +kernel
theorem dX9_imagesOf_27 : decode cX9_imagesOf 27 = .ok (.aload_n 0, 1) := by decide +kernel
theorem dX9_imagesOf_28 : decode cX9_imagesOf 28 = .ok (.iload 7, 2) := by decide +kernel
theorem dX9_imagesOf_30 : decode cX9_imagesOf 30 = .ok (.iload_n 3, 1) := by decide +kernel
theorem dX9_imagesOf_31 : decode cX9_imagesOf 31 = .ok (.iload 4, 2) := by decide +kernel
theorem dX9_imagesOf_33 : decode cX9_imagesOf 33 = .ok (.invokevirtual 354, 3) := by decide +kernel
theorem dX9_imagesOf_36 : decode cX9_imagesOf 36 = .ok (.lshl, 1) := by decide +kernel
theorem dX9_imagesOf_37 : decode cX9_imagesOf 37 = .ok (.goto 4, 3) := by decide +kernel
theorem dX9_imagesOf_40 : decode cX9_imagesOf 40 = .ok (.lconst 0, 1) := by decide +kernel
theorem dX9_imagesOf_41 : decode cX9_imagesOf 41 = .ok (.lor, 1) := by decide +kernel
theorem dX9_imagesOf_42 : decode cX9_imagesOf 42 = .ok (.lstore 5, 2) := by decide +kernel
theorem dX9_imagesOf_44 : decode cX9_imagesOf 44 = .ok (.iinc 7 1, 3) := by decide +kernel
theorem dX9_imagesOf_47 : decode cX9_imagesOf 47 = .ok (.goto (-41), 3) := by decide +kernel
theorem dX9_imagesOf_50 : decode cX9_imagesOf 50 = .ok (.lload 5, 2) := by decide +kernel
theorem dX9_imagesOf_52 : decode cX9_imagesOf 52 = .ok (.lreturn, 1) := by decide +kernel
set_option maxRecDepth 20000 in
theorem ggX9_alike_X9_imagesOf : GoodIn wsX9_alike wsX9_imagesOf := goodIn_r _ [6, 7, 8, 9, 5, 10, 11, 12, 13, 14, 15, 16, 17, 18, 19, 20, 21, 22, 23, 24, 25, 26, 27, 28, 29, 30, 31, 32, 33, 34, 35, 36, 37, 38, 39, 40, 41, 42, 43, 44, 45, 46, 47, 48, 49, 50, 51, 52, 53, 54, 55, 56, 57, 58, 59, 60, 61, 62, 63, 64] (by decide +kernel) (by decide +kernel)
set_option maxRecDepth 20000 in
theorem gX9_alike_X9_imagesOf : GoodIn wsX9_alike (wsV RX9 358 RX9 yX9_imagesOf wsX9_imagesOf) := goodIn_app (goodIn_of _ (by decide +kernel)) ggX9_alike_X9_imagesOf
theorem dX9_alike_0 : decode cX9_alike 0 = .ok (.iconst 0, 1) := by decide +kernel
theorem dX9_alike_1 : decode cX9_alike 1 = .ok (.istore_n 1, 1) := by decide +kernel
theorem dX9_alike_2 : decode cX9_alike 2 = .ok (.iconst 0, 1) := by decide +kernel
theorem dX9_alike_3 : decode cX9_alike 3 = .ok (.istore_n 2, 1) := by decide +kernel
theorem dX9_alike_4 : decode cX9_alike 4 = .ok (.iload_n 2, 1) := by decide +kernel
theorem dX9_alike_5 : decode cX9_alike 5 = .ok (.iconst 3, 1) := by decide +kernel
theorem dX9_alike_6 : decode cX9_alike 6 = .ok (.if_icmp .ge 37, 3) := by decide +kernel
theorem dX9_alike_9 : decode cX9_alike 9 = .ok (.iload_n 1, 1) := by decide +kernel
theorem dX9_alike_10 : decode cX9_alike 10 = .ok (.aload_n 0, 1) := by decide +kernel
theorem dX9_alike_11 : decode cX9_alike 11 = .ok (.aload_n 0, 1) := by decide +kernel
theorem dX9_alike_12 : decode cX9_alike 12 = .ok (.getfield 106, 3) := by decide +kernel
theorem dX9_alike_15 : decode cX9_alike 15 = .ok (.iload_n 2, 1) := by decide +kernel
theorem dX9_alike_16 : decode cX9_alike 16 = .ok (.iconst 0, 1) := by decide +kernel
theorem dX9_alike_17 : decode cX9_alike 17 = .ok (.invokevirtual 358, 3) := by decide +kernel
theorem dX9_alike_20 : decode cX9_alike 20 = .ok (.aload_n 0, 1) := by decide +kernel
theorem dX9_alike_21 : decode cX9_alike 21 = .ok (.getfield 106, 3) := by decide +kernel
theorem dX9_alike_24 : decode cX9_alike 24 = .ok (.lcmp, 1) := by decide +kernel
theorem dX9_alike_25 : decode cX9_alike 25 = .ok (.ifCond .ne 9, 3) := by decide +kernel
theorem dX9_alike_28 : decode cX9_alike 28 = .ok (.iconst 1, 1) := by decide +kernel
theorem dX9_alike_29 : decode cX9_alike 29 = .ok (.iload_n 2, 1) := by decide +kernel
theorem dX9_alike_30 : decode cX9_alike 30 = .ok (.ishl, 1) := by decide +kernel
theorem dX9_alike_31 : decode cX9_alike 31 = .ok (.goto 4, 3) := by decide +kernel
theorem dX9_alike_34 : decode cX9_alike 34 = .ok (.iconst 0, 1) := by decide +kernel
theorem dX9_alike_35 : decode cX9_alike 35 = .ok (.ior, 1) := by decide +kernel
theorem dX9_alike_36 : decode cX9_alike 36 = .ok (.istore_n 1, 1) := by decide +kernel
theorem dX9_alike_37 : decode cX9_alike 37 = .ok (.iinc 2 1, 3) := by decide +kernel
theorem dX9_alike_40 : decode cX9_alike 40 = .ok (.goto (-36), 3) := by decide +kernel
theorem dX9_alike_43 : decode cX9_alike 43 = .ok (.iload_n 1, 1) := by decide +kernel
theorem dX9_alike_44 : decode cX9_alike 44 = .ok (.ireturn, 1) := by decide +kernel
set_option maxRecDepth 20000 in
theorem ggX9_becomes_X9_in : GoodIn wsX9_becomes wsX9_in := goodIn_r _ [10] (by decide +kernel) (by decide +kernel)
set_option maxRecDepth 20000 in
theorem gX9_becomes_X9_in : GoodIn wsX9_becomes (va_wsS RX9 90 yX9_in wsX9_in) := goodIn_app (goodIn_of _ (by decide +kernel)) ggX9_becomes_X9_in
set_option maxRecDepth 20000 in
theorem ggX9_becomes_X9_refuse : GoodIn wsX9_becomes wsX9_refuse := goodIn_r _ [14, 15, 41, 42, 43, 44, 45, 46, 47, 48, 49, 50, 51, 52, 53, 54, 55, 56, 57, 58, 59, 60, 61, 62, 63, 64, 65, 66, 67, 68, 69, 70, 71, 72, 73, 74, 75, 76, 77] (by decide +kernel) (by decide +kernel)
set_option maxRecDepth 20000 in
theorem gX9_becomes_X9_refuse : GoodIn wsX9_becomes (wsV RX9 124 RX9 yX9_refuse wsX9_refuse) := goodIn_app (goodIn_of _ (by decide +kernel)) ggX9_becomes_X9_refuse
set_option maxRecDepth 20000 in
theorem ggX9_becomes_X9_imagesOf : GoodIn wsX9_becomes wsX9_imagesOf := goodIn_r _ [19, 20, 21, 22, 9, 23, 24, 25, 26, 27, 28, 29, 30, 31, 32, 33, 34, 35, 36, 37, 38, 39, 40, 41, 42, 43, 44, 45, 46, 47, 48, 49, 50, 51, 52, 53, 54, 55, 56, 57, 58, 59, 60, 61, 62, 63, 64, 65, 66, 67, 68, 69, 70, 71, 72, 73, 74, 75, 76, 77] (by decide +kernel) (by decide +kernel)
set_option maxRecDepth 20000 in
theorem gX9_becomes_X9_imagesOf : GoodIn wsX9_becomes (wsV RX9 358 RX9 yX9_imagesOf wsX9_imagesOf) := goodIn_app (goodIn_of _ (by decide +kernel)) ggX9_becomes_X9_imagesOf
set_option maxRecDepth 20000 in
theorem ggX9_becomes_X9_many : GoodIn wsX9_becomes wsX9_many := goodIn_r _ [23, 24, 41, 42, 43, 44, 45, 46, 47, 48, 49, 50, 51, 52, 53, 54, 55, 56, 57, 58, 59, 60, 61, 62, 63, 64, 65, 66, 67, 68, 69, 70, 71, 72, 73, 74, 75, 76, 77] (by decide +kernel) (by decide +kernel)
set_option maxRecDepth 20000 in
theorem gX9_becomes_X9_many : GoodIn wsX9_becomes (wsV RX9 86 RX9 yX9_many wsX9_many) := goodIn_app (goodIn_of _ (by decide +kernel)) ggX9_becomes_X9_many
set_option maxRecDepth 20000 in
theorem ggX9_becomes_X9_imageOf : GoodIn wsX9_becomes wsX9_imageOf := goodIn_r _ [31, 32, 24, 33, 34, 35, 9, 36, 37, 38, 39, 40, 41, 42, 43, 44, 45, 46, 47, 48, 49, 50, 51, 52, 53, 54, 55, 56, 57, 58, 59, 60, 61, 62, 63, 64, 65, 66, 67, 68, 69, 70, 71, 72, 73, 74, 75, 76, 77] (by decide +kernel) (by decide +kernel)
set_option maxRecDepth 20000 in
theorem gX9_becomes_X9_imageOf : GoodIn wsX9_becomes (wsV RX9 354 RX9 yX9_imageOf wsX9_imageOf) := goodIn_app (goodIn_of _ (by decide +kernel)) ggX9_becomes_X9_imageOf
theorem dX9_becomes_0 : decode cX9_becomes 0 = .ok (.iload_n 1, 1) := by decide +kernel
theorem dX9_becomes_1 : decode cX9_becomes 1 = .ok (.i2l, 1) := by decide +kernel
theorem dX9_becomes_2 : decode cX9_becomes 2 = .ok (.lconst 0, 1) := by decide +kernel
theorem dX9_becomes_3 : decode cX9_becomes 3 = .ok (.ldc2_w 152, 3) := by decide +kernel
theorem dX9_becomes_6 : decode cX9_becomes 6 = .ok (.invokestatic 90, 3) := by decide +kernel
theorem dX9_becomes_9 : decode cX9_becomes 9 = .ok (.ifCond .ne 10, 3) := by decide +kernel
theorem dX9_becomes_12 : decode cX9_becomes 12 = .ok (.aload_n 0, 1) := by decide +kernel
theorem dX9_becomes_13 : decode cX9_becomes 13 = .ok (.bipush (-2), 2) := by decide +kernel
theorem dX9_becomes_15 : decode cX9_becomes 15 = .ok (.invokevirtual 124, 3) := by decide +kernel
theorem dX9_becomes_18 : decode cX9_becomes 18 = .ok (.ireturn, 1) := by decide +kernel
theorem dX9_becomes_19 : decode cX9_becomes 19 = .ok (.aload_n 0, 1) := by decide +kernel
theorem dX9_becomes_20 : decode cX9_becomes 20 = .ok (.aload_n 0, 1) := by decide +kernel
theorem dX9_becomes_21 : decode cX9_becomes 21 = .ok (.aload_n 0, 1) := by decide +kernel
theorem dX9_becomes_22 : decode cX9_becomes 22 = .ok (.getfield 106, 3) := by decide +kernel
theorem dX9_becomes_25 : decode cX9_becomes 25 = .ok (.iload_n 1, 1) := by decide +kernel
theorem dX9_becomes_26 : decode cX9_becomes 26 = .ok (.iload_n 2, 1) := by decide +kernel
theorem dX9_becomes_27 : decode cX9_becomes 27 = .ok (.invokevirtual 358, 3) := by decide +kernel
theorem dX9_becomes_30 : decode cX9_becomes 30 = .ok (.putfield 106, 3) := by decide +kernel
theorem dX9_becomes_33 : decode cX9_becomes 33 = .ok (.iconst 0, 1) := by decide +kernel
theorem dX9_becomes_34 : decode cX9_becomes 34 = .ok (.istore_n 3, 1) := by decide +kernel
theorem dX9_becomes_35 : decode cX9_becomes 35 = .ok (.iload_n 3, 1) := by decide +kernel
theorem dX9_becomes_36 : decode cX9_becomes 36 = .ok (.aload_n 0, 1) := by decide +kernel
theorem dX9_becomes_37 : decode cX9_becomes 37 = .ok (.getfield 94, 3) := by decide +kernel
theorem dX9_becomes_40 : decode cX9_becomes 40 = .ok (.if_icmp .ge 27, 3) := by decide +kernel
theorem dX9_becomes_43 : decode cX9_becomes 43 = .ok (.aload_n 0, 1) := by decide +kernel
theorem dX9_becomes_44 : decode cX9_becomes 44 = .ok (.getfield 47, 3) := by decide +kernel
theorem dX9_becomes_47 : decode cX9_becomes 47 = .ok (.iload_n 3, 1) := by decide +kernel
theorem dX9_becomes_48 : decode cX9_becomes 48 = .ok (.aload_n 0, 1) := by decide +kernel
theorem dX9_becomes_49 : decode cX9_becomes 49 = .ok (.aload_n 0, 1) := by decide +kernel
theorem dX9_becomes_50 : decode cX9_becomes 50 = .ok (.getfield 47, 3) := by decide +kernel
theorem dX9_becomes_53 : decode cX9_becomes 53 = .ok (.iload_n 3, 1) := by decide +kernel
theorem dX9_becomes_54 : decode cX9_becomes 54 = .ok (.laload, 1) := by decide +kernel
theorem dX9_becomes_55 : decode cX9_becomes 55 = .ok (.iload_n 1, 1) := by decide +kernel
theorem dX9_becomes_56 : decode cX9_becomes 56 = .ok (.iload_n 2, 1) := by decide +kernel
theorem dX9_becomes_57 : decode cX9_becomes 57 = .ok (.invokevirtual 358, 3) := by decide +kernel
theorem dX9_becomes_60 : decode cX9_becomes 60 = .ok (.lastore, 1) := by decide +kernel
theorem dX9_becomes_61 : decode cX9_becomes 61 = .ok (.iinc 3 1, 3) := by decide +kernel
theorem dX9_becomes_64 : decode cX9_becomes 64 = .ok (.goto (-29), 3) := by decide +kernel
theorem dX9_becomes_67 : decode cX9_becomes 67 = .ok (.iconst 0, 1) := by decide +kernel
theorem dX9_becomes_68 : decode cX9_becomes 68 = .ok (.istore_n 3, 1) := by decide +kernel
theorem dX9_becomes_69 : decode cX9_becomes 69 = .ok (.iload_n 3, 1) := by decide +kernel
theorem dX9_becomes_70 : decode cX9_becomes 70 = .ok (.aload_n 0, 1) := by decide +kernel
theorem dX9_becomes_71 : decode cX9_becomes 71 = .ok (.invokevirtual 86, 3) := by decide +kernel
theorem dX9_becomes_74 : decode cX9_becomes 74 = .ok (.if_icmp .ge 21, 3) := by decide +kernel
theorem dX9_becomes_77 : decode cX9_becomes 77 = .ok (.aload_n 0, 1) := by decide +kernel
theorem dX9_becomes_78 : decode cX9_becomes 78 = .ok (.getfield 80, 3) := by decide +kernel
theorem dX9_becomes_81 : decode cX9_becomes 81 = .ok (.iload_n 3, 1) := by decide +kernel
theorem dX9_becomes_82 : decode cX9_becomes 82 = .ok (.aload_n 0, 1) := by decide +kernel
theorem dX9_becomes_83 : decode cX9_becomes 83 = .ok (.getfield 50, 3) := by decide +kernel
theorem dX9_becomes_86 : decode cX9_becomes 86 = .ok (.iload_n 3, 1) := by decide +kernel
theorem dX9_becomes_87 : decode cX9_becomes 87 = .ok (.iaload, 1) := by decide +kernel
theorem dX9_becomes_88 : decode cX9_becomes 88 = .ok (.iastore, 1) := by decide +kernel
theorem dX9_becomes_89 : decode cX9_becomes 89 = .ok (.iinc 3 1, 3) := by decide +kernel
theorem dX9_becomes_92 : decode cX9_becomes 92 = .ok (.goto (-23), 3) := by decide +kernel
theorem dX9_becomes_95 : decode cX9_becomes 95 = .ok (.iconst 0, 1) := by decide +kernel
theorem dX9_becomes_96 : decode cX9_becomes 96 = .ok (.istore_n 3, 1) := by decide +kernel
theorem dX9_becomes_97 : decode cX9_becomes 97 = .ok (.iload_n 3, 1) := by decide +kernel
theorem dX9_becomes_98 : decode cX9_becomes 98 = .ok (.aload_n 0, 1) := by decide +kernel
theorem dX9_becomes_99 : decode cX9_becomes 99 = .ok (.invokevirtual 86, 3) := by decide +kernel
theorem dX9_becomes_102 : decode cX9_becomes 102 = .ok (.if_icmp .ge 27, 3) := by decide +kernel
theorem dX9_becomes_105 : decode cX9_becomes 105 = .ok (.aload_n 0, 1) := by decide +kernel
theorem dX9_becomes_106 : decode cX9_becomes 106 = .ok (.getfield 50, 3) := by decide +kernel
theorem dX9_becomes_109 : decode cX9_becomes 109 = .ok (.aload_n 0, 1) := by decide +kernel
theorem dX9_becomes_110 : decode cX9_becomes 110 = .ok (.iload_n 3, 1) := by decide +kernel
theorem dX9_becomes_111 : decode cX9_becomes 111 = .ok (.iload_n 1, 1) := by decide +kernel
theorem dX9_becomes_112 : decode cX9_becomes 112 = .ok (.iload_n 2, 1) := by decide +kernel
theorem dX9_becomes_113 : decode cX9_becomes 113 = .ok (.invokevirtual 354, 3) := by decide +kernel
theorem dX9_becomes_116 : decode cX9_becomes 116 = .ok (.aload_n 0, 1) := by decide +kernel
theorem dX9_becomes_117 : decode cX9_becomes 117 = .ok (.getfield 80, 3) := by decide +kernel
theorem dX9_becomes_120 : decode cX9_becomes 120 = .ok (.iload_n 3, 1) := by decide +kernel
theorem dX9_becomes_121 : decode cX9_becomes 121 = .ok (.iaload, 1) := by decide +kernel
theorem dX9_becomes_122 : decode cX9_becomes 122 = .ok (.iastore, 1) := by decide +kernel
theorem dX9_becomes_123 : decode cX9_becomes 123 = .ok (.iinc 3 1, 3) := by decide +kernel
theorem dX9_becomes_126 : decode cX9_becomes 126 = .ok (.goto (-29), 3) := by decide +kernel
theorem dX9_becomes_129 : decode cX9_becomes 129 = .ok (.iconst 1, 1) := by decide +kernel
theorem dX9_becomes_130 : decode cX9_becomes 130 = .ok (.ireturn, 1) := by decide +kernel
set_option maxRecDepth 20000 in
theorem ggX9_mirror_X9_becomes : GoodIn wsX9_mirror wsX9_becomes := goodIn_r _ [5, 6, 7, 8, 9, 10, 11, 12, 13, 4, 14, 15, 16, 17, 18, 19, 20, 21, 22, 23, 24, 25, 26, 27, 28, 29, 30, 31, 32, 33, 34, 35, 36, 37, 38, 39, 40, 41, 42, 43, 44, 45, 46, 47, 48, 49, 50, 51, 52, 53, 54, 55, 56, 57, 58, 59, 60, 61, 62, 63, 64, 65, 66, 67, 68, 69, 70, 71, 72, 73, 74, 75, 76, 77, 78, 79, 80, 81] (by decide +kernel) (by decide +kernel)
set_option maxRecDepth 20000 in
theorem gX9_mirror_X9_becomes : GoodIn wsX9_mirror (wsV RX9 362 RX9 yX9_becomes wsX9_becomes) := goodIn_app (goodIn_of _ (by decide +kernel)) ggX9_mirror_X9_becomes
theorem dX9_mirror_0 : decode cX9_mirror 0 = .ok (.aload_n 0, 1) := by decide +kernel
theorem dX9_mirror_1 : decode cX9_mirror 1 = .ok (.iload_n 1, 1) := by decide +kernel
theorem dX9_mirror_2 : decode cX9_mirror 2 = .ok (.iconst 0, 1) := by decide +kernel
theorem dX9_mirror_3 : decode cX9_mirror 3 = .ok (.invokevirtual 362, 3) := by decide +kernel
theorem dX9_mirror_6 : decode cX9_mirror 6 = .ok (.ireturn, 1) := by decide +kernel
set_option maxRecDepth 20000 in
theorem ggX9_turn_X9_becomes : GoodIn wsX9_turn wsX9_becomes := goodIn_r _ [5, 6, 7, 8, 9, 10, 11, 12, 13, 4, 14, 15, 16, 17, 18, 19, 20, 21, 22, 23, 24, 25, 26, 27, 28, 29, 30, 31, 32, 33, 34, 35, 36, 37, 38, 39, 40, 41, 42, 43, 44, 45, 46, 47, 48, 49, 50, 51, 52, 53, 54, 55, 56, 57, 58, 59, 60, 61, 62, 63, 64, 65, 66, 67, 68, 69, 70, 71, 72, 73, 74, 75, 76, 77, 78, 79, 80, 81] (by decide +kernel) (by decide +kernel)
set_option maxRecDepth 20000 in
theorem gX9_turn_X9_becomes : GoodIn wsX9_turn (wsV RX9 362 RX9 yX9_becomes wsX9_becomes) := goodIn_app (goodIn_of _ (by decide +kernel)) ggX9_turn_X9_becomes
theorem dX9_turn_0 : decode cX9_turn 0 = .ok (.aload_n 0, 1) := by decide +kernel
theorem dX9_turn_1 : decode cX9_turn 1 = .ok (.iload_n 1, 1) := by decide +kernel
theorem dX9_turn_2 : decode cX9_turn 2 = .ok (.iconst 1, 1) := by decide +kernel
theorem dX9_turn_3 : decode cX9_turn 3 = .ok (.invokevirtual 362, 3) := by decide +kernel
theorem dX9_turn_6 : decode cX9_turn 6 = .ok (.ireturn, 1) := by decide +kernel
set_option maxRecDepth 20000 in
theorem ggX9_thin_X9_isPiece : GoodIn wsX9_thin wsX9_isPiece := goodIn_r _ [7, 8, 9, 10, 6, 11, 40, 41, 42, 43, 44, 45, 46, 47, 48, 49, 50, 51, 52, 53, 54, 55, 56, 57, 58, 59, 60, 61, 62, 63, 64, 65, 66, 67, 68, 69, 70, 71, 72, 73, 74, 75, 76] (by decide +kernel) (by decide +kernel)
set_option maxRecDepth 20000 in
theorem gX9_thin_X9_isPiece : GoodIn wsX9_thin (wsV RX9 162 RX9 yX9_isPiece wsX9_isPiece) := goodIn_app (goodIn_of _ (by decide +kernel)) ggX9_thin_X9_isPiece
set_option maxRecDepth 20000 in
theorem ggX9_thin_X9_in : GoodIn wsX9_thin wsX9_in := goodIn_r _ [11] (by decide +kernel) (by decide +kernel)
set_option maxRecDepth 20000 in
theorem gX9_thin_X9_in : GoodIn wsX9_thin (va_wsS RX9 90 yX9_in wsX9_in) := goodIn_app (goodIn_of _ (by decide +kernel)) ggX9_thin_X9_in
set_option maxRecDepth 20000 in
theorem ggX9_thin_X9_refuse : GoodIn wsX9_thin wsX9_refuse := goodIn_r _ [15, 16, 40, 41, 42, 43, 44, 45, 46, 47, 48, 49, 50, 51, 52, 53, 54, 55, 56, 57, 58, 59, 60, 61, 62, 63, 64, 65, 66, 67, 68, 69, 70, 71, 72, 73, 74, 75, 76] (by decide +kernel) (by decide +kernel)
set_option maxRecDepth 20000 in
theorem gX9_thin_X9_refuse : GoodIn wsX9_thin (wsV RX9 124 RX9 yX9_refuse wsX9_refuse) := goodIn_app (goodIn_of _ (by decide +kernel)) ggX9_thin_X9_refuse
set_option maxRecDepth 20000 in
theorem ggX9_thin_X9_many : GoodIn wsX9_thin wsX9_many := goodIn_r _ [20, 21, 40, 41, 42, 43, 44, 45, 46, 47, 48, 49, 50, 51, 52, 53, 54, 55, 56, 57, 58, 59, 60, 61, 62, 63, 64, 65, 66, 67, 68, 69, 70, 71, 72, 73, 74, 75, 76] (by decide +kernel) (by decide +kernel)
set_option maxRecDepth 20000 in
theorem gX9_thin_X9_many : GoodIn wsX9_thin (wsV RX9 86 RX9 yX9_many wsX9_many) := goodIn_app (goodIn_of _ (by decide +kernel)) ggX9_thin_X9_many
set_option maxRecDepth 20000 in
theorem ggX9_thin_X9_rowOf : GoodIn wsX9_thin wsX9_rowOf := goodIn_r _ [25, 26, 27, 28, 6, 29, 21, 30, 31, 32, 33, 40, 41, 42, 43, 44, 45, 46, 47, 48, 49, 50, 51, 52, 53, 54, 55, 56, 57, 58, 59, 60, 61, 62, 63, 64, 65, 66, 67, 68, 69, 70, 71, 72, 73, 74, 75, 76] (by decide +kernel) (by decide +kernel)
set_option maxRecDepth 20000 in
theorem gX9_thin_X9_rowOf : GoodIn wsX9_thin (wsV RX9 346 RX9 yX9_rowOf wsX9_rowOf) := goodIn_app (goodIn_of _ (by decide +kernel)) ggX9_thin_X9_rowOf
set_option maxRecDepth 20000 in
theorem ggX9_thin_X9_bits : GoodIn wsX9_thin wsX9_bits := goodIn_r _ [36, 37, 38, 6, 39] (by decide +kernel) (by decide +kernel)
set_option maxRecDepth 20000 in
theorem gX9_thin_X9_bits : GoodIn wsX9_thin (va_wsS RX9 158 yX9_bits wsX9_bits) := goodIn_app (goodIn_of _ (by decide +kernel)) ggX9_thin_X9_bits
theorem dX9_thin_0 : decode cX9_thin 0 = .ok (.aload_n 0, 1) := by decide +kernel
theorem dX9_thin_1 : decode cX9_thin 1 = .ok (.iload_n 1, 1) := by decide +kernel
theorem dX9_thin_2 : decode cX9_thin 2 = .ok (.invokevirtual 162, 3) := by decide +kernel
theorem dX9_thin_5 : decode cX9_thin 5 = .ok (.ifCond .eq 15, 3) := by decide +kernel
theorem dX9_thin_8 : decode cX9_thin 8 = .ok (.iload_n 2, 1) := by decide +kernel
theorem dX9_thin_9 : decode cX9_thin 9 = .ok (.i2l, 1) := by decide +kernel
theorem dX9_thin_10 : decode cX9_thin 10 = .ok (.lconst 0, 1) := by decide +kernel
theorem dX9_thin_11 : decode cX9_thin 11 = .ok (.ldc2_w 152, 3) := by decide +kernel
theorem dX9_thin_14 : decode cX9_thin 14 = .ok (.invokestatic 90, 3) := by decide +kernel
theorem dX9_thin_17 : decode cX9_thin 17 = .ok (.ifCond .ne 10, 3) := by decide +kernel
theorem dX9_thin_20 : decode cX9_thin 20 = .ok (.aload_n 0, 1) := by decide +kernel
theorem dX9_thin_21 : decode cX9_thin 21 = .ok (.bipush (-2), 2) := by decide +kernel
theorem dX9_thin_23 : decode cX9_thin 23 = .ok (.invokevirtual 124, 3) := by decide +kernel
theorem dX9_thin_26 : decode cX9_thin 26 = .ok (.ireturn, 1) := by decide +kernel
theorem dX9_thin_27 : decode cX9_thin 27 = .ok (.iconst 0, 1) := by decide +kernel
theorem dX9_thin_28 : decode cX9_thin 28 = .ok (.istore_n 3, 1) := by decide +kernel
theorem dX9_thin_29 : decode cX9_thin 29 = .ok (.iconst 0, 1) := by decide +kernel
theorem dX9_thin_30 : decode cX9_thin 30 = .ok (.istore 4, 2) := by decide +kernel
theorem dX9_thin_32 : decode cX9_thin 32 = .ok (.iload 4, 2) := by decide +kernel
theorem dX9_thin_34 : decode cX9_thin 34 = .ok (.aload_n 0, 1) := by decide +kernel
theorem dX9_thin_35 : decode cX9_thin 35 = .ok (.invokevirtual 86, 3) := by decide +kernel
theorem dX9_thin_38 : decode cX9_thin 38 = .ok (.if_icmp .ge 50, 3) := by decide +kernel
theorem dX9_thin_41 : decode cX9_thin 41 = .ok (.aload_n 0, 1) := by decide +kernel
theorem dX9_thin_42 : decode cX9_thin 42 = .ok (.iload 4, 2) := by decide +kernel
theorem dX9_thin_44 : decode cX9_thin 44 = .ok (.iload_n 2, 1) := by decide +kernel
theorem dX9_thin_45 : decode cX9_thin 45 = .ok (.invokevirtual 346, 3) := by decide +kernel
theorem dX9_thin_48 : decode cX9_thin 48 = .ok (.aload_n 0, 1) := by decide +kernel
theorem dX9_thin_49 : decode cX9_thin 49 = .ok (.getfield 47, 3) := by decide +kernel
theorem dX9_thin_52 : decode cX9_thin 52 = .ok (.iload_n 1, 1) := by decide +kernel
theorem dX9_thin_53 : decode cX9_thin 53 = .ok (.laload, 1) := by decide +kernel
theorem dX9_thin_54 : decode cX9_thin 54 = .ok (.land, 1) := by decide +kernel
theorem dX9_thin_55 : decode cX9_thin 55 = .ok (.invokestatic 158, 3) := by decide +kernel
theorem dX9_thin_58 : decode cX9_thin 58 = .ok (.istore 5, 2) := by decide +kernel
theorem dX9_thin_60 : decode cX9_thin 60 = .ok (.iload 5, 2) := by decide +kernel
theorem dX9_thin_62 : decode cX9_thin 62 = .ok (.ifCond .le 18, 3) := by decide +kernel
theorem dX9_thin_65 : decode cX9_thin 65 = .ok (.iload_n 3, 1) := by decide +kernel
theorem dX9_thin_66 : decode cX9_thin 66 = .ok (.ifCond .eq 9, 3) := by decide +kernel
theorem dX9_thin_69 : decode cX9_thin 69 = .ok (.iload 5, 2) := by decide +kernel
theorem dX9_thin_71 : decode cX9_thin 71 = .ok (.iload_n 3, 1) := by decide +kernel
theorem dX9_thin_72 : decode cX9_thin 72 = .ok (.if_icmp .ge 8, 3) := by decide +kernel
theorem dX9_thin_75 : decode cX9_thin 75 = .ok (.iload 5, 2) := by decide +kernel
theorem dX9_thin_77 : decode cX9_thin 77 = .ok (.goto 4, 3) := by decide +kernel
theorem dX9_thin_80 : decode cX9_thin 80 = .ok (.iload_n 3, 1) := by decide +kernel
theorem dX9_thin_81 : decode cX9_thin 81 = .ok (.istore_n 3, 1) := by decide +kernel
theorem dX9_thin_82 : decode cX9_thin 82 = .ok (.iinc 4 1, 3) := by decide +kernel
theorem dX9_thin_85 : decode cX9_thin 85 = .ok (.goto (-53), 3) := by decide +kernel
theorem dX9_thin_88 : decode cX9_thin 88 = .ok (.iload_n 3, 1) := by decide +kernel
theorem dX9_thin_89 : decode cX9_thin 89 = .ok (.ireturn, 1) := by decide +kernel
set_option maxRecDepth 20000 in
theorem ggX9_spareOf_X9_many : GoodIn wsX9_spareOf wsX9_many := goodIn_r _ [7, 8, 39, 40, 41, 42, 43, 44, 45, 46, 47, 48, 49, 50, 51, 52, 53, 54, 55, 56, 57, 58, 59, 60, 61, 62, 63, 64, 65, 66, 67, 68, 69, 70, 71, 72, 73, 74, 75] (by decide +kernel) (by decide +kernel)
set_option maxRecDepth 20000 in
theorem gX9_spareOf_X9_many : GoodIn wsX9_spareOf (wsV RX9 86 RX9 yX9_many wsX9_many) := goodIn_app (goodIn_of _ (by decide +kernel)) ggX9_spareOf_X9_many
set_option maxRecDepth 20000 in
theorem ggX9_spareOf_X9_has : GoodIn wsX9_spareOf wsX9_has := goodIn_r _ [11] (by decide +kernel) (by decide +kernel)
set_option maxRecDepth 20000 in
theorem gX9_spareOf_X9_has : GoodIn wsX9_spareOf (va_wsS RX9 110 yX9_has wsX9_has) := goodIn_app (goodIn_of _ (by decide +kernel)) ggX9_spareOf_X9_has
set_option maxRecDepth 20000 in
theorem ggX9_spareOf_X9_from : GoodIn wsX9_spareOf wsX9_from := goodIn_r _ [15, 8, 16, 17, 18, 6, 19, 39, 40, 41, 42, 43, 44, 45, 46, 47, 48, 49, 50, 51, 52, 53, 54, 55, 56, 57, 58, 59, 60, 61, 62, 63, 64, 65, 66, 67, 68, 69, 70, 71, 72, 73, 74, 75] (by decide +kernel) (by decide +kernel)
set_option maxRecDepth 20000 in
theorem gX9_spareOf_X9_from : GoodIn wsX9_spareOf (wsV RX9 279 RX9 yX9_from wsX9_from) := goodIn_app (goodIn_of _ (by decide +kernel)) ggX9_spareOf_X9_from
set_option maxRecDepth 20000 in
theorem ggX9_spareOf_X9_empty : GoodIn wsX9_spareOf wsX9_empty := goodIn_r _ [23, 24, 2, 25, 26, 27, 6, 28, 8, 3, 4, 5, 7, 39, 40, 41, 42, 43, 44, 45, 46, 47, 48, 49, 50, 51, 52, 53, 54, 55, 56, 57, 58, 59, 60, 61, 62, 63, 64, 65, 66, 67, 68, 69, 70, 71, 72, 73, 74, 75] (by decide +kernel) (by decide +kernel)
set_option maxRecDepth 20000 in
theorem gX9_spareOf_X9_empty : GoodIn wsX9_spareOf (wsV RX9 141 RX9 yX9_empty wsX9_empty) := goodIn_app (goodIn_of _ (by decide +kernel)) ggX9_spareOf_X9_empty
set_option maxRecDepth 20000 in
theorem ggX9_spareOf_X9_inPieces : GoodIn wsX9_spareOf wsX9_inPieces := goodIn_r _ [32, 33, 1, 34, 35, 36, 6, 37, 38, 39, 40, 41, 42, 43, 44, 45, 46, 47, 48, 49, 50, 51, 52, 53, 54, 55, 56, 57, 58, 59, 60, 61, 62, 63, 64, 65, 66, 67, 68, 69, 70, 71, 72, 73, 74, 75] (by decide +kernel) (by decide +kernel)
set_option maxRecDepth 20000 in
theorem gX9_spareOf_X9_inPieces : GoodIn wsX9_spareOf (wsV RX9 276 RX9 yX9_inPieces wsX9_inPieces) := goodIn_app (goodIn_of _ (by decide +kernel)) ggX9_spareOf_X9_inPieces
theorem dX9_spareOf_0 : decode cX9_spareOf 0 = .ok (.lconst 0, 1) := by decide +kernel
theorem dX9_spareOf_1 : decode cX9_spareOf 1 = .ok (.lstore_n 2, 1) := by decide +kernel
theorem dX9_spareOf_2 : decode cX9_spareOf 2 = .ok (.iconst 0, 1) := by decide +kernel
theorem dX9_spareOf_3 : decode cX9_spareOf 3 = .ok (.istore 4, 2) := by decide +kernel
theorem dX9_spareOf_5 : decode cX9_spareOf 5 = .ok (.iload 4, 2) := by decide +kernel
theorem dX9_spareOf_7 : decode cX9_spareOf 7 = .ok (.aload_n 0, 1) := by decide +kernel
theorem dX9_spareOf_8 : decode cX9_spareOf 8 = .ok (.invokevirtual 86, 3) := by decide +kernel
theorem dX9_spareOf_11 : decode cX9_spareOf 11 = .ok (.if_icmp .ge 66, 3) := by decide +kernel
theorem dX9_spareOf_14 : decode cX9_spareOf 14 = .ok (.iconst 0, 1) := by decide +kernel
theorem dX9_spareOf_15 : decode cX9_spareOf 15 = .ok (.istore 5, 2) := by decide +kernel
theorem dX9_spareOf_17 : decode cX9_spareOf 17 = .ok (.aload_n 0, 1) := by decide +kernel
theorem dX9_spareOf_18 : decode cX9_spareOf 18 = .ok (.getfield 47, 3) := by decide +kernel
theorem dX9_spareOf_21 : decode cX9_spareOf 21 = .ok (.iload_n 1, 1) := by decide +kernel
theorem dX9_spareOf_22 : decode cX9_spareOf 22 = .ok (.laload, 1) := by decide +kernel
theorem dX9_spareOf_23 : decode cX9_spareOf 23 = .ok (.iload 4, 2) := by decide +kernel
theorem dX9_spareOf_25 : decode cX9_spareOf 25 = .ok (.invokestatic 110, 3) := by decide +kernel
theorem dX9_spareOf_28 : decode cX9_spareOf 28 = .ok (.ifCond .eq 43, 3) := by decide +kernel
theorem dX9_spareOf_31 : decode cX9_spareOf 31 = .ok (.iload 5, 2) := by decide +kernel
theorem dX9_spareOf_33 : decode cX9_spareOf 33 = .ok (.bipush 6, 2) := by decide +kernel
theorem dX9_spareOf_35 : decode cX9_spareOf 35 = .ok (.if_icmp .ge 36, 3) := by decide +kernel
theorem dX9_spareOf_38 : decode cX9_spareOf 38 = .ok (.aload_n 0, 1) := by decide +kernel
theorem dX9_spareOf_39 : decode cX9_spareOf 39 = .ok (.iload 4, 2) := by decide +kernel
theorem dX9_spareOf_41 : decode cX9_spareOf 41 = .ok (.iload 5, 2) := by decide +kernel
theorem dX9_spareOf_43 : decode cX9_spareOf 43 = .ok (.invokevirtual 279, 3) := by decide +kernel
theorem dX9_spareOf_46 : decode cX9_spareOf 46 = .ok (.istore 6, 2) := by decide +kernel
theorem dX9_spareOf_48 : decode cX9_spareOf 48 = .ok (.lload_n 2, 1) := by decide +kernel
theorem dX9_spareOf_49 : decode cX9_spareOf 49 = .ok (.iload 6, 2) := by decide +kernel
theorem dX9_spareOf_51 : decode cX9_spareOf 51 = .ok (.iconst (-1), 1) := by decide +kernel
theorem dX9_spareOf_52 : decode cX9_spareOf 52 = .ok (.if_icmp .eq 10, 3) := by decide +kernel
theorem dX9_spareOf_55 : decode cX9_spareOf 55 = .ok (.lconst 1, 1) := by decide +kernel
theorem dX9_spareOf_56 : decode cX9_spareOf 56 = .ok (.iload 6, 2) := by decide +kernel
theorem dX9_spareOf_58 : decode cX9_spareOf 58 = .ok (.lshl, 1) := by decide +kernel
theorem dX9_spareOf_59 : decode cX9_spareOf 59 = .ok (.goto 4, 3) := by decide +kernel
theorem dX9_spareOf_62 : decode cX9_spareOf 62 = .ok (.lconst 0, 1) := by decide +kernel
theorem dX9_spareOf_63 : decode cX9_spareOf 63 = .ok (.lor, 1) := by decide +kernel
theorem dX9_spareOf_64 : decode cX9_spareOf 64 = .ok (.lstore_n 2, 1) := by decide +kernel
theorem dX9_spareOf_65 : decode cX9_spareOf 65 = .ok (.iinc 5 1, 3) := by decide +kernel
theorem dX9_spareOf_68 : decode cX9_spareOf 68 = .ok (.goto (-51), 3) := by decide +kernel
theorem dX9_spareOf_71 : decode cX9_spareOf 71 = .ok (.iinc 4 1, 3) := by decide +kernel
theorem dX9_spareOf_74 : decode cX9_spareOf 74 = .ok (.goto (-69), 3) := by decide +kernel
theorem dX9_spareOf_77 : decode cX9_spareOf 77 = .ok (.lload_n 2, 1) := by decide +kernel
theorem dX9_spareOf_78 : decode cX9_spareOf 78 = .ok (.aload_n 0, 1) := by decide +kernel
theorem dX9_spareOf_79 : decode cX9_spareOf 79 = .ok (.invokevirtual 141, 3) := by decide +kernel
theorem dX9_spareOf_82 : decode cX9_spareOf 82 = .ok (.land, 1) := by decide +kernel
theorem dX9_spareOf_83 : decode cX9_spareOf 83 = .ok (.aload_n 0, 1) := by decide +kernel
theorem dX9_spareOf_84 : decode cX9_spareOf 84 = .ok (.invokevirtual 276, 3) := by decide +kernel
theorem dX9_spareOf_87 : decode cX9_spareOf 87 = .ok (.ldc2_w 100, 3) := by decide +kernel
theorem dX9_spareOf_90 : decode cX9_spareOf 90 = .ok (.lxor, 1) := by decide +kernel
theorem dX9_spareOf_91 : decode cX9_spareOf 91 = .ok (.land, 1) := by decide +kernel
theorem dX9_spareOf_92 : decode cX9_spareOf 92 = .ok (.lreturn, 1) := by decide +kernel
set_option maxRecDepth 20000 in
theorem ggX9_spare_X9_isPiece : GoodIn wsX9_spare wsX9_isPiece := goodIn_r _ [5, 6, 7, 8, 4, 9, 50, 51, 52, 53, 54, 55, 56, 57, 58, 59, 60, 61, 62, 63, 64, 65, 66, 67, 68, 69, 70, 71, 72, 73, 74, 75, 76, 77, 78, 79, 80, 81, 82, 83, 84, 85, 86] (by decide +kernel) (by decide +kernel)
set_option maxRecDepth 20000 in
theorem gX9_spare_X9_isPiece : GoodIn wsX9_spare (wsV RX9 162 RX9 yX9_isPiece wsX9_isPiece) := goodIn_app (goodIn_of _ (by decide +kernel)) ggX9_spare_X9_isPiece
set_option maxRecDepth 20000 in
theorem ggX9_spare_X9_spareOf : GoodIn wsX9_spare wsX9_spareOf := goodIn_r _ [13, 14, 15, 16, 17, 18, 4, 19, 20, 21, 22, 23, 24, 25, 26, 27, 28, 29, 30, 31, 32, 33, 34, 35, 36, 37, 38, 39, 40, 41, 42, 43, 44, 6, 45, 46, 47, 48, 49, 50, 51, 52, 53, 54, 55, 56, 57, 58, 59, 60, 61, 62, 63, 64, 65, 66, 67, 68, 69, 70, 71, 72, 73, 74, 75, 76, 77, 78, 79, 80, 81, 82, 83, 84, 85, 86] (by decide +kernel) (by decide +kernel)
set_option maxRecDepth 20000 in
theorem gX9_spare_X9_spareOf : GoodIn wsX9_spare (wsV RX9 366 RX9 yX9_spareOf wsX9_spareOf) := goodIn_app (goodIn_of _ (by decide +kernel)) ggX9_spare_X9_spareOf
theorem dX9_spare_0 : decode cX9_spare 0 = .ok (.aload_n 0, 1) := by decide +kernel
theorem dX9_spare_1 : decode cX9_spare 1 = .ok (.iload_n 1, 1) := by decide +kernel
theorem dX9_spare_2 : decode cX9_spare 2 = .ok (.invokevirtual 162, 3) := by decide +kernel
theorem dX9_spare_5 : decode cX9_spare 5 = .ok (.ifCond .eq 11, 3) := by decide +kernel
theorem dX9_spare_8 : decode cX9_spare 8 = .ok (.aload_n 0, 1) := by decide +kernel
theorem dX9_spare_9 : decode cX9_spare 9 = .ok (.iload_n 1, 1) := by decide +kernel
theorem dX9_spare_10 : decode cX9_spare 10 = .ok (.invokevirtual 366, 3) := by decide +kernel
theorem dX9_spare_13 : decode cX9_spare 13 = .ok (.goto 4, 3) := by decide +kernel
theorem dX9_spare_16 : decode cX9_spare 16 = .ok (.lconst 0, 1) := by decide +kernel
theorem dX9_spare_17 : decode cX9_spare 17 = .ok (.lreturn, 1) := by decide +kernel
set_option maxRecDepth 20000 in
theorem ggX9_grow_X9_isPiece : GoodIn wsX9_grow wsX9_isPiece := goodIn_r _ [6, 7, 8, 9, 5, 10, 58, 59, 60, 61, 62, 63, 64, 65, 66, 67, 68, 69, 70, 71, 72, 73, 74, 75, 76, 77, 78, 79, 80, 81, 82, 83, 84, 85, 86, 87, 88, 89, 90, 91, 92, 93, 94] (by decide +kernel) (by decide +kernel)
set_option maxRecDepth 20000 in
theorem gX9_grow_X9_isPiece : GoodIn wsX9_grow (wsV RX9 162 RX9 yX9_isPiece wsX9_isPiece) := goodIn_app (goodIn_of _ (by decide +kernel)) ggX9_grow_X9_isPiece
set_option maxRecDepth 20000 in
theorem ggX9_grow_X9_refuse : GoodIn wsX9_grow wsX9_refuse := goodIn_r _ [14, 15, 58, 59, 60, 61, 62, 63, 64, 65, 66, 67, 68, 69, 70, 71, 72, 73, 74, 75, 76, 77, 78, 79, 80, 81, 82, 83, 84, 85, 86, 87, 88, 89, 90, 91, 92, 93, 94] (by decide +kernel) (by decide +kernel)
set_option maxRecDepth 20000 in
theorem gX9_grow_X9_refuse : GoodIn wsX9_grow (wsV RX9 124 RX9 yX9_refuse wsX9_refuse) := goodIn_app (goodIn_of _ (by decide +kernel)) ggX9_grow_X9_refuse
set_option maxRecDepth 20000 in
theorem ggX9_grow_X9_isOff : GoodIn wsX9_grow wsX9_isOff := goodIn_r _ [19, 20, 58, 59, 60, 61, 62, 63, 64, 65, 66, 67, 68, 69, 70, 71, 72, 73, 74, 75, 76, 77, 78, 79, 80, 81, 82, 83, 84, 85, 86, 87, 88, 89, 90, 91, 92, 93, 94] (by decide +kernel) (by decide +kernel)
set_option maxRecDepth 20000 in
theorem gX9_grow_X9_isOff : GoodIn wsX9_grow (wsV RX9 166 RX9 yX9_isOff wsX9_isOff) := goodIn_app (goodIn_of _ (by decide +kernel)) ggX9_grow_X9_isOff
set_option maxRecDepth 20000 in
theorem ggX9_grow_X9_spareOf : GoodIn wsX9_grow wsX9_spareOf := goodIn_r _ [24, 1, 25, 26, 27, 28, 5, 29, 30, 31, 32, 33, 34, 35, 36, 37, 38, 39, 40, 41, 42, 43, 44, 45, 46, 47, 48, 49, 50, 51, 52, 53, 54, 7, 16, 17, 18, 19, 20, 58, 59, 60, 61, 62, 63, 64, 65, 66, 67, 68, 69, 70, 71, 72, 73, 74, 75, 76, 77, 78, 79, 80, 81, 82, 83, 84, 85, 86, 87, 88, 89, 90, 91, 92, 93, 94] (by decide +kernel) (by decide +kernel)
set_option maxRecDepth 20000 in
theorem gX9_grow_X9_spareOf : GoodIn wsX9_grow (wsV RX9 366 RX9 yX9_spareOf wsX9_spareOf) := goodIn_app (goodIn_of _ (by decide +kernel)) ggX9_grow_X9_spareOf
set_option maxRecDepth 20000 in
theorem ggX9_grow_X9_bits : GoodIn wsX9_grow wsX9_bits := goodIn_r _ [57, 31, 32, 5, 33] (by decide +kernel) (by decide +kernel)
set_option maxRecDepth 20000 in
theorem gX9_grow_X9_bits : GoodIn wsX9_grow (va_wsS RX9 158 yX9_bits wsX9_bits) := goodIn_app (goodIn_of _ (by decide +kernel)) ggX9_grow_X9_bits
theorem dX9_grow_0 : decode cX9_grow 0 = .ok (.aload_n 0, 1) := by decide +kernel
theorem dX9_grow_1 : decode cX9_grow 1 = .ok (.iload_n 1, 1) := by decide +kernel
theorem dX9_grow_2 : decode cX9_grow 2 = .ok (.invokevirtual 162, 3) := by decide +kernel
theorem dX9_grow_5 : decode cX9_grow 5 = .ok (.ifCond .ne 10, 3) := by decide +kernel
theorem dX9_grow_8 : decode cX9_grow 8 = .ok (.aload_n 0, 1) := by decide +kernel
theorem dX9_grow_9 : decode cX9_grow 9 = .ok (.bipush (-2), 2) := by decide +kernel
theorem dX9_grow_11 : decode cX9_grow 11 = .ok (.invokevirtual 124, 3) := by decide +kernel
theorem dX9_grow_14 : decode cX9_grow 14 = .ok (.ireturn, 1) := by decide +kernel
theorem dX9_grow_15 : decode cX9_grow 15 = .ok (.aload_n 0, 1) := by decide +kernel
theorem dX9_grow_16 : decode cX9_grow 16 = .ok (.iload_n 1, 1) := by decide +kernel
theorem dX9_grow_17 : decode cX9_grow 17 = .ok (.invokevirtual 166, 3) := by decide +kernel
theorem dX9_grow_20 : decode cX9_grow 20 = .ok (.ifCond .eq 10, 3) := by decide +kernel
theorem dX9_grow_23 : decode cX9_grow 23 = .ok (.aload_n 0, 1) := by decide +kernel
theorem dX9_grow_24 : decode cX9_grow 24 = .ok (.bipush (-5), 2) := by decide +kernel
theorem dX9_grow_26 : decode cX9_grow 26 = .ok (.invokevirtual 124, 3) := by decide +kernel
theorem dX9_grow_29 : decode cX9_grow 29 = .ok (.ireturn, 1) := by decide +kernel
theorem dX9_grow_30 : decode cX9_grow 30 = .ok (.aload_n 0, 1) := by decide +kernel
theorem dX9_grow_31 : decode cX9_grow 31 = .ok (.iload_n 1, 1) := by decide +kernel
theorem dX9_grow_32 : decode cX9_grow 32 = .ok (.invokevirtual 366, 3) := by decide +kernel
theorem dX9_grow_35 : decode cX9_grow 35 = .ok (.lstore_n 2, 1) := by decide +kernel
theorem dX9_grow_36 : decode cX9_grow 36 = .ok (.aload_n 0, 1) := by decide +kernel
theorem dX9_grow_37 : decode cX9_grow 37 = .ok (.getfield 47, 3) := by decide +kernel
theorem dX9_grow_40 : decode cX9_grow 40 = .ok (.iload_n 1, 1) := by decide +kernel
theorem dX9_grow_41 : decode cX9_grow 41 = .ok (.dup2, 1) := by decide +kernel
theorem dX9_grow_42 : decode cX9_grow 42 = .ok (.laload, 1) := by decide +kernel
theorem dX9_grow_43 : decode cX9_grow 43 = .ok (.lload_n 2, 1) := by decide +kernel
theorem dX9_grow_44 : decode cX9_grow 44 = .ok (.lor, 1) := by decide +kernel
theorem dX9_grow_45 : decode cX9_grow 45 = .ok (.lastore, 1) := by decide +kernel
theorem dX9_grow_46 : decode cX9_grow 46 = .ok (.lload_n 2, 1) := by decide +kernel
theorem dX9_grow_47 : decode cX9_grow 47 = .ok (.invokestatic 158, 3) := by decide +kernel
theorem dX9_grow_50 : decode cX9_grow 50 = .ok (.ireturn, 1) := by decide +kernel
set_option maxRecDepth 20000 in
theorem ggX9_facesOf_X9_many : GoodIn wsX9_facesOf wsX9_many := goodIn_r _ [7, 8, 20, 21, 22, 23, 24, 25, 26, 27, 28, 29, 30, 31, 32, 33, 34, 35, 36, 37, 38, 39, 40, 41, 42, 43, 44, 45, 46, 47, 48, 49, 50, 51, 52, 53, 54, 55, 56] (by decide +kernel) (by decide +kernel)
set_option maxRecDepth 20000 in
theorem gX9_facesOf_X9_many : GoodIn wsX9_facesOf (wsV RX9 86 RX9 yX9_many wsX9_many) := goodIn_app (goodIn_of _ (by decide +kernel)) ggX9_facesOf_X9_many
set_option maxRecDepth 20000 in
theorem ggX9_facesOf_X9_has : GoodIn wsX9_facesOf wsX9_has := goodIn_r _ [11] (by decide +kernel) (by decide +kernel)
set_option maxRecDepth 20000 in
theorem gX9_facesOf_X9_has : GoodIn wsX9_facesOf (va_wsS RX9 110 yX9_has wsX9_has) := goodIn_app (goodIn_of _ (by decide +kernel)) ggX9_facesOf_X9_has
set_option maxRecDepth 20000 in
theorem ggX9_facesOf_X9_from : GoodIn wsX9_facesOf wsX9_from := goodIn_r _ [15, 8, 16, 17, 18, 6, 19, 20, 21, 22, 23, 24, 25, 26, 27, 28, 29, 30, 31, 32, 33, 34, 35, 36, 37, 38, 39, 40, 41, 42, 43, 44, 45, 46, 47, 48, 49, 50, 51, 52, 53, 54, 55, 56] (by decide +kernel) (by decide +kernel)
set_option maxRecDepth 20000 in
theorem gX9_facesOf_X9_from : GoodIn wsX9_facesOf (wsV RX9 279 RX9 yX9_from wsX9_from) := goodIn_app (goodIn_of _ (by decide +kernel)) ggX9_facesOf_X9_from
theorem dX9_facesOf_0 : decode cX9_facesOf 0 = .ok (.iconst 0, 1) := by decide +kernel
theorem dX9_facesOf_1 : decode cX9_facesOf 1 = .ok (.istore_n 2, 1) := by decide +kernel
theorem dX9_facesOf_2 : decode cX9_facesOf 2 = .ok (.iconst 0, 1) := by decide +kernel
theorem dX9_facesOf_3 : decode cX9_facesOf 3 = .ok (.istore_n 3, 1) := by decide +kernel
theorem dX9_facesOf_4 : decode cX9_facesOf 4 = .ok (.iload_n 3, 1) := by decide +kernel
theorem dX9_facesOf_5 : decode cX9_facesOf 5 = .ok (.aload_n 0, 1) := by decide +kernel
theorem dX9_facesOf_6 : decode cX9_facesOf 6 = .ok (.invokevirtual 86, 3) := by decide +kernel
theorem dX9_facesOf_9 : decode cX9_facesOf 9 = .ok (.if_icmp .ge 73, 3) := by decide +kernel
theorem dX9_facesOf_12 : decode cX9_facesOf 12 = .ok (.iconst 0, 1) := by decide +kernel
theorem dX9_facesOf_13 : decode cX9_facesOf 13 = .ok (.istore 4, 2) := by decide +kernel
theorem dX9_facesOf_15 : decode cX9_facesOf 15 = .ok (.aload_n 0, 1) := by decide +kernel
theorem dX9_facesOf_16 : decode cX9_facesOf 16 = .ok (.getfield 47, 3) := by decide +kernel
theorem dX9_facesOf_19 : decode cX9_facesOf 19 = .ok (.iload_n 1, 1) := by decide +kernel
theorem dX9_facesOf_20 : decode cX9_facesOf 20 = .ok (.laload, 1) := by decide +kernel
theorem dX9_facesOf_21 : decode cX9_facesOf 21 = .ok (.iload_n 3, 1) := by decide +kernel
theorem dX9_facesOf_22 : decode cX9_facesOf 22 = .ok (.invokestatic 110, 3) := by decide +kernel
theorem dX9_facesOf_25 : decode cX9_facesOf 25 = .ok (.ifCond .eq 51, 3) := by decide +kernel
theorem dX9_facesOf_28 : decode cX9_facesOf 28 = .ok (.iload 4, 2) := by decide +kernel
theorem dX9_facesOf_30 : decode cX9_facesOf 30 = .ok (.bipush 6, 2) := by decide +kernel
theorem dX9_facesOf_32 : decode cX9_facesOf 32 = .ok (.if_icmp .ge 44, 3) := by decide +kernel
theorem dX9_facesOf_35 : decode cX9_facesOf 35 = .ok (.aload_n 0, 1) := by decide +kernel
theorem dX9_facesOf_36 : decode cX9_facesOf 36 = .ok (.iload_n 3, 1) := by decide +kernel
theorem dX9_facesOf_37 : decode cX9_facesOf 37 = .ok (.iload 4, 2) := by decide +kernel
theorem dX9_facesOf_39 : decode cX9_facesOf 39 = .ok (.invokevirtual 279, 3) := by decide +kernel
theorem dX9_facesOf_42 : decode cX9_facesOf 42 = .ok (.istore 5, 2) := by decide +kernel
theorem dX9_facesOf_44 : decode cX9_facesOf 44 = .ok (.iload_n 2, 1) := by decide +kernel
theorem dX9_facesOf_45 : decode cX9_facesOf 45 = .ok (.iload 5, 2) := by decide +kernel
theorem dX9_facesOf_47 : decode cX9_facesOf 47 = .ok (.iconst (-1), 1) := by decide +kernel
theorem dX9_facesOf_48 : decode cX9_facesOf 48 = .ok (.if_icmp .eq 19, 3) := by decide +kernel
theorem dX9_facesOf_51 : decode cX9_facesOf 51 = .ok (.aload_n 0, 1) := by decide +kernel
theorem dX9_facesOf_52 : decode cX9_facesOf 52 = .ok (.getfield 106, 3) := by decide +kernel
theorem dX9_facesOf_55 : decode cX9_facesOf 55 = .ok (.iload 5, 2) := by decide +kernel
theorem dX9_facesOf_57 : decode cX9_facesOf 57 = .ok (.invokestatic 110, 3) := by decide +kernel
theorem dX9_facesOf_60 : decode cX9_facesOf 60 = .ok (.ifCond .eq 7, 3) := by decide +kernel
theorem dX9_facesOf_63 : decode cX9_facesOf 63 = .ok (.iconst 1, 1) := by decide +kernel
theorem dX9_facesOf_64 : decode cX9_facesOf 64 = .ok (.goto 4, 3) := by decide +kernel
theorem dX9_facesOf_67 : decode cX9_facesOf 67 = .ok (.iconst 0, 1) := by decide +kernel
theorem dX9_facesOf_68 : decode cX9_facesOf 68 = .ok (.iadd, 1) := by decide +kernel
theorem dX9_facesOf_69 : decode cX9_facesOf 69 = .ok (.istore_n 2, 1) := by decide +kernel
theorem dX9_facesOf_70 : decode cX9_facesOf 70 = .ok (.iinc 4 1, 3) := by decide +kernel
theorem dX9_facesOf_73 : decode cX9_facesOf 73 = .ok (.goto (-58), 3) := by decide +kernel
theorem dX9_facesOf_76 : decode cX9_facesOf 76 = .ok (.iinc 3 1, 3) := by decide +kernel
theorem dX9_facesOf_79 : decode cX9_facesOf 79 = .ok (.goto (-75), 3) := by decide +kernel
theorem dX9_facesOf_82 : decode cX9_facesOf 82 = .ok (.iload_n 2, 1) := by decide +kernel
theorem dX9_facesOf_83 : decode cX9_facesOf 83 = .ok (.ireturn, 1) := by decide +kernel
set_option maxRecDepth 20000 in
theorem ggX9_faces_X9_isPiece : GoodIn wsX9_faces wsX9_isPiece := goodIn_r _ [5, 6, 7, 8, 4, 9, 37, 38, 39, 40, 41, 42, 43, 44, 45, 46, 47, 48, 49, 50, 51, 52, 53, 54, 55, 56, 57, 58, 59, 60, 61, 62, 63, 64, 65, 66, 67, 68, 69, 70, 71, 72, 73] (by decide +kernel) (by decide +kernel)
set_option maxRecDepth 20000 in
theorem gX9_faces_X9_isPiece : GoodIn wsX9_faces (wsV RX9 162 RX9 yX9_isPiece wsX9_isPiece) := goodIn_app (goodIn_of _ (by decide +kernel)) ggX9_faces_X9_isPiece
set_option maxRecDepth 20000 in
theorem ggX9_faces_X9_facesOf : GoodIn wsX9_faces wsX9_facesOf := goodIn_r _ [13, 14, 15, 16, 17, 18, 4, 19, 20, 21, 22, 23, 24, 25, 26, 27, 28, 29, 30, 31, 37, 38, 39, 40, 41, 42, 43, 44, 45, 46, 47, 48, 49, 50, 51, 52, 53, 54, 55, 56, 57, 58, 59, 60, 61, 62, 63, 64, 65, 66, 67, 68, 69, 70, 71, 72, 73] (by decide +kernel) (by decide +kernel)
set_option maxRecDepth 20000 in
theorem gX9_faces_X9_facesOf : GoodIn wsX9_faces (wsV RX9 370 RX9 yX9_facesOf wsX9_facesOf) := goodIn_app (goodIn_of _ (by decide +kernel)) ggX9_faces_X9_facesOf
set_option maxRecDepth 20000 in
theorem ggX9_faces_X9_refuse : GoodIn wsX9_faces wsX9_refuse := goodIn_r _ [35, 36, 37, 38, 39, 40, 41, 42, 43, 44, 45, 46, 47, 48, 49, 50, 51, 52, 53, 54, 55, 56, 57, 58, 59, 60, 61, 62, 63, 64, 65, 66, 67, 68, 69, 70, 71, 72, 73] (by decide +kernel) (by decide +kernel)
set_option maxRecDepth 20000 in
theorem gX9_faces_X9_refuse : GoodIn wsX9_faces (wsV RX9 124 RX9 yX9_refuse wsX9_refuse) := goodIn_app (goodIn_of _ (by decide +kernel)) ggX9_faces_X9_refuse
theorem dX9_faces_0 : decode cX9_faces 0 = .ok (.aload_n 0, 1) := by decide +kernel
theorem dX9_faces_1 : decode cX9_faces 1 = .ok (.iload_n 1, 1) := by decide +kernel
theorem dX9_faces_2 : decode cX9_faces 2 = .ok (.invokevirtual 162, 3) := by decide +kernel
theorem dX9_faces_5 : decode cX9_faces 5 = .ok (.ifCond .eq 11, 3) := by decide +kernel
theorem dX9_faces_8 : decode cX9_faces 8 = .ok (.aload_n 0, 1) := by decide +kernel
theorem dX9_faces_9 : decode cX9_faces 9 = .ok (.iload_n 1, 1) := by decide +kernel
theorem dX9_faces_10 : decode cX9_faces 10 = .ok (.invokevirtual 370, 3) := by decide +kernel
theorem dX9_faces_13 : decode cX9_faces 13 = .ok (.goto 9, 3) := by decide +kernel
theorem dX9_faces_16 : decode cX9_faces 16 = .ok (.aload_n 0, 1) := by decide +kernel
theorem dX9_faces_17 : decode cX9_faces 17 = .ok (.bipush (-2), 2) := by decide +kernel
theorem dX9_faces_19 : decode cX9_faces 19 = .ok (.invokevirtual 124, 3) := by decide +kernel
theorem dX9_faces_22 : decode cX9_faces 22 = .ok (.ireturn, 1) := by decide +kernel
set_option maxRecDepth 20000 in
theorem ggX9_casts_X9_isOff : GoodIn wsX9_casts wsX9_isOff := goodIn_r _ [7, 8, 31, 32, 33, 34, 35, 36, 37, 38, 39, 40, 41, 42, 43, 44, 45, 46, 47, 48, 49, 50, 51, 52, 53, 54, 55, 56, 57, 58, 59, 60, 61, 62, 63, 64, 65, 66, 67] (by decide +kernel) (by decide +kernel)
set_option maxRecDepth 20000 in
theorem gX9_casts_X9_isOff : GoodIn wsX9_casts (wsV RX9 166 RX9 yX9_isOff wsX9_isOff) := goodIn_app (goodIn_of _ (by decide +kernel)) ggX9_casts_X9_isOff
set_option maxRecDepth 20000 in
theorem ggX9_casts_X9_facesOf : GoodIn wsX9_casts wsX9_facesOf := goodIn_r _ [12, 13, 14, 15, 16, 17, 6, 18, 19, 20, 21, 22, 23, 24, 25, 26, 27, 28, 29, 30, 31, 32, 33, 34, 35, 36, 37, 38, 39, 40, 41, 42, 43, 44, 45, 46, 47, 48, 49, 50, 51, 52, 53, 54, 55, 56, 57, 58, 59, 60, 61, 62, 63, 64, 65, 66, 67] (by decide +kernel) (by decide +kernel)
set_option maxRecDepth 20000 in
theorem gX9_casts_X9_facesOf : GoodIn wsX9_casts (wsV RX9 370 RX9 yX9_facesOf wsX9_facesOf) := goodIn_app (goodIn_of _ (by decide +kernel)) ggX9_casts_X9_facesOf
theorem dX9_casts_0 : decode cX9_casts 0 = .ok (.iconst 0, 1) := by decide +kernel
theorem dX9_casts_1 : decode cX9_casts 1 = .ok (.istore_n 1, 1) := by decide +kernel
theorem dX9_casts_2 : decode cX9_casts 2 = .ok (.iconst 0, 1) := by decide +kernel
theorem dX9_casts_3 : decode cX9_casts 3 = .ok (.istore_n 2, 1) := by decide +kernel
theorem dX9_casts_4 : decode cX9_casts 4 = .ok (.iload_n 2, 1) := by decide +kernel
theorem dX9_casts_5 : decode cX9_casts 5 = .ok (.aload_n 0, 1) := by decide +kernel
theorem dX9_casts_6 : decode cX9_casts 6 = .ok (.getfield 94, 3) := by decide +kernel
theorem dX9_casts_9 : decode cX9_casts 9 = .ok (.if_icmp .ge 38, 3) := by decide +kernel
theorem dX9_casts_12 : decode cX9_casts 12 = .ok (.aload_n 0, 1) := by decide +kernel
theorem dX9_casts_13 : decode cX9_casts 13 = .ok (.iload_n 2, 1) := by decide +kernel
theorem dX9_casts_14 : decode cX9_casts 14 = .ok (.invokevirtual 166, 3) := by decide +kernel
theorem dX9_casts_17 : decode cX9_casts 17 = .ok (.ifCond .eq 7, 3) := by decide +kernel
theorem dX9_casts_20 : decode cX9_casts 20 = .ok (.iconst 0, 1) := by decide +kernel
theorem dX9_casts_21 : decode cX9_casts 21 = .ok (.goto 8, 3) := by decide +kernel
theorem dX9_casts_24 : decode cX9_casts 24 = .ok (.aload_n 0, 1) := by decide +kernel
theorem dX9_casts_25 : decode cX9_casts 25 = .ok (.iload_n 2, 1) := by decide +kernel
theorem dX9_casts_26 : decode cX9_casts 26 = .ok (.invokevirtual 370, 3) := by decide +kernel
theorem dX9_casts_29 : decode cX9_casts 29 = .ok (.istore_n 3, 1) := by decide +kernel
theorem dX9_casts_30 : decode cX9_casts 30 = .ok (.iload_n 3, 1) := by decide +kernel
theorem dX9_casts_31 : decode cX9_casts 31 = .ok (.iload_n 1, 1) := by decide +kernel
theorem dX9_casts_32 : decode cX9_casts 32 = .ok (.if_icmp .le 7, 3) := by decide +kernel
theorem dX9_casts_35 : decode cX9_casts 35 = .ok (.iload_n 3, 1) := by decide +kernel
theorem dX9_casts_36 : decode cX9_casts 36 = .ok (.goto 4, 3) := by decide +kernel
theorem dX9_casts_39 : decode cX9_casts 39 = .ok (.iload_n 1, 1) := by decide +kernel
theorem dX9_casts_40 : decode cX9_casts 40 = .ok (.istore_n 1, 1) := by decide +kernel
theorem dX9_casts_41 : decode cX9_casts 41 = .ok (.iinc 2 1, 3) := by decide +kernel
theorem dX9_casts_44 : decode cX9_casts 44 = .ok (.goto (-40), 3) := by decide +kernel
theorem dX9_casts_47 : decode cX9_casts 47 = .ok (.iload_n 1, 1) := by decide +kernel
theorem dX9_casts_48 : decode cX9_casts 48 = .ok (.ifCond .ne 9, 3) := by decide +kernel
theorem dX9_casts_51 : decode cX9_casts 51 = .ok (.sipush 999, 3) := by decide +kernel
theorem dX9_casts_54 : decode cX9_casts 54 = .ok (.goto 9, 3) := by decide +kernel
theorem dX9_casts_57 : decode cX9_casts 57 = .ok (.aload_n 0, 1) := by decide +kernel
theorem dX9_casts_58 : decode cX9_casts 58 = .ok (.getfield 56, 3) := by decide +kernel
theorem dX9_casts_61 : decode cX9_casts 61 = .ok (.iload_n 1, 1) := by decide +kernel
theorem dX9_casts_62 : decode cX9_casts 62 = .ok (.idiv, 1) := by decide +kernel
theorem dX9_casts_63 : decode cX9_casts 63 = .ok (.ireturn, 1) := by decide +kernel
set_option maxRecDepth 20000 in
theorem ggX9_step_X9_findOrder : GoodIn wsX9_step wsX9_findOrder := goodIn_r _ [8, 2, 1, 9, 3, 10, 11, 12, 13, 7, 14, 15, 16, 17, 18, 19, 20, 21, 22, 23, 24, 25, 26, 27, 28, 29, 30, 31, 32, 33, 34, 35, 36, 37, 38, 39, 40, 41, 42, 43, 44, 45, 46, 47, 48, 49, 50, 51, 52, 58, 59, 60, 61, 62, 63, 64, 65, 66, 67, 68, 69, 70, 71, 72, 73, 74, 75, 76, 77, 78, 79, 80, 81, 82, 83, 84, 85, 86, 87, 88, 89, 90, 91, 92, 93, 94] (by decide +kernel) (by decide +kernel)
set_option maxRecDepth 20000 in
theorem gX9_step_X9_findOrder : GoodIn wsX9_step (wsV RX9 313 RX9 yX9_findOrder wsX9_findOrder) := goodIn_app (goodIn_of _ (by decide +kernel)) ggX9_step_X9_findOrder
set_option maxRecDepth 20000 in
theorem ggX9_step_X9_refuse : GoodIn wsX9_step wsX9_refuse := goodIn_r _ [56, 57, 58, 59, 60, 61, 62, 63, 64, 65, 66, 67, 68, 69, 70, 71, 72, 73, 74, 75, 76, 77, 78, 79, 80, 81, 82, 83, 84, 85, 86, 87, 88, 89, 90, 91, 92, 93, 94] (by decide +kernel) (by decide +kernel)
set_option maxRecDepth 20000 in
theorem gX9_step_X9_refuse : GoodIn wsX9_step (wsV RX9 124 RX9 yX9_refuse wsX9_refuse) := goodIn_app (goodIn_of _ (by decide +kernel)) ggX9_step_X9_refuse
theorem dX9_step_0 : decode cX9_step 0 = .ok (.aload_n 0, 1) := by decide +kernel
theorem dX9_step_1 : decode cX9_step 1 = .ok (.invokevirtual 313, 3) := by decide +kernel
theorem dX9_step_4 : decode cX9_step 4 = .ok (.pop, 1) := by decide +kernel
theorem dX9_step_5 : decode cX9_step 5 = .ok (.aload_n 0, 1) := by decide +kernel
theorem dX9_step_6 : decode cX9_step 6 = .ok (.getfield 310, 3) := by decide +kernel
theorem dX9_step_9 : decode cX9_step 9 = .ok (.ifCond .ne 10, 3) := by decide +kernel
theorem dX9_step_12 : decode cX9_step 12 = .ok (.aload_n 0, 1) := by decide +kernel
theorem dX9_step_13 : decode cX9_step 13 = .ok (.bipush (-5), 2) := by decide +kernel
theorem dX9_step_15 : decode cX9_step 15 = .ok (.invokevirtual 124, 3) := by decide +kernel
theorem dX9_step_18 : decode cX9_step 18 = .ok (.ireturn, 1) := by decide +kernel
theorem dX9_step_19 : decode cX9_step 19 = .ok (.aload_n 0, 1) := by decide +kernel
theorem dX9_step_20 : decode cX9_step 20 = .ok (.dup, 1) := by decide +kernel
theorem dX9_step_21 : decode cX9_step 21 = .ok (.getfield 97, 3) := by decide +kernel
theorem dX9_step_24 : decode cX9_step 24 = .ok (.iconst 1, 1) := by decide +kernel
theorem dX9_step_25 : decode cX9_step 25 = .ok (.aload_n 0, 1) := by decide +kernel
theorem dX9_step_26 : decode cX9_step 26 = .ok (.getfield 62, 3) := by decide +kernel
theorem dX9_step_29 : decode cX9_step 29 = .ok (.iconst 0, 1) := by decide +kernel
theorem dX9_step_30 : decode cX9_step 30 = .ok (.iaload, 1) := by decide +kernel
theorem dX9_step_31 : decode cX9_step 31 = .ok (.ishl, 1) := by decide +kernel
theorem dX9_step_32 : decode cX9_step 32 = .ok (.ior, 1) := by decide +kernel
theorem dX9_step_33 : decode cX9_step 33 = .ok (.putfield 97, 3) := by decide +kernel
theorem dX9_step_36 : decode cX9_step 36 = .ok (.aload_n 0, 1) := by decide +kernel
theorem dX9_step_37 : decode cX9_step 37 = .ok (.getfield 62, 3) := by decide +kernel
theorem dX9_step_40 : decode cX9_step 40 = .ok (.iconst 0, 1) := by decide +kernel
theorem dX9_step_41 : decode cX9_step 41 = .ok (.iaload, 1) := by decide +kernel
theorem dX9_step_42 : decode cX9_step 42 = .ok (.ireturn, 1) := by decide +kernel
set_option maxRecDepth 20000 in
theorem ggX9_again_X9_bits : GoodIn wsX9_again wsX9_bits := goodIn_r _ [5, 6, 7, 4, 8] (by decide +kernel) (by decide +kernel)
set_option maxRecDepth 20000 in
theorem gX9_again_X9_bits : GoodIn wsX9_again (va_wsS RX9 158 yX9_bits wsX9_bits) := goodIn_app (goodIn_of _ (by decide +kernel)) ggX9_again_X9_bits
theorem dX9_again_0 : decode cX9_again 0 = .ok (.aload_n 0, 1) := by decide +kernel
theorem dX9_again_1 : decode cX9_again 1 = .ok (.getfield 97, 3) := by decide +kernel
theorem dX9_again_4 : decode cX9_again 4 = .ok (.i2l, 1) := by decide +kernel
theorem dX9_again_5 : decode cX9_again 5 = .ok (.invokestatic 158, 3) := by decide +kernel
theorem dX9_again_8 : decode cX9_again 8 = .ok (.istore_n 1, 1) := by decide +kernel
theorem dX9_again_9 : decode cX9_again 9 = .ok (.aload_n 0, 1) := by decide +kernel
theorem dX9_again_10 : decode cX9_again 10 = .ok (.iconst 0, 1) := by decide +kernel
theorem dX9_again_11 : decode cX9_again 11 = .ok (.putfield 97, 3) := by decide +kernel
theorem dX9_again_14 : decode cX9_again 14 = .ok (.iload_n 1, 1) := by decide +kernel
theorem dX9_again_15 : decode cX9_again 15 = .ok (.ireturn, 1) := by decide +kernel
theorem dX9_takeFrom_0 : decode cX9_takeFrom 0 = .ok (.aload_n 0, 1) := by decide +kernel
theorem dX9_takeFrom_1 : decode cX9_takeFrom 1 = .ok (.aload_n 1, 1) := by decide +kernel
theorem dX9_takeFrom_2 : decode cX9_takeFrom 2 = .ok (.getfield 43, 3) := by decide +kernel
theorem dX9_takeFrom_5 : decode cX9_takeFrom 5 = .ok (.putfield 43, 3) := by decide +kernel
theorem dX9_takeFrom_8 : decode cX9_takeFrom 8 = .ok (.aload_n 0, 1) := by decide +kernel
theorem dX9_takeFrom_9 : decode cX9_takeFrom 9 = .ok (.aload_n 1, 1) := by decide +kernel
theorem dX9_takeFrom_10 : decode cX9_takeFrom 10 = .ok (.getfield 106, 3) := by decide +kernel
theorem dX9_takeFrom_13 : decode cX9_takeFrom 13 = .ok (.putfield 106, 3) := by decide +kernel
theorem dX9_takeFrom_16 : decode cX9_takeFrom 16 = .ok (.aload_n 0, 1) := by decide +kernel
theorem dX9_takeFrom_17 : decode cX9_takeFrom 17 = .ok (.aload_n 1, 1) := by decide +kernel
theorem dX9_takeFrom_18 : decode cX9_takeFrom 18 = .ok (.getfield 94, 3) := by decide +kernel
theorem dX9_takeFrom_21 : decode cX9_takeFrom 21 = .ok (.putfield 94, 3) := by decide +kernel
theorem dX9_takeFrom_24 : decode cX9_takeFrom 24 = .ok (.iconst 0, 1) := by decide +kernel
theorem dX9_takeFrom_25 : decode cX9_takeFrom 25 = .ok (.istore_n 2, 1) := by decide +kernel
theorem dX9_takeFrom_26 : decode cX9_takeFrom 26 = .ok (.iload_n 2, 1) := by decide +kernel
theorem dX9_takeFrom_27 : decode cX9_takeFrom 27 = .ok (.bipush 8, 2) := by decide +kernel
theorem dX9_takeFrom_29 : decode cX9_takeFrom 29 = .ok (.if_icmp .ge 21, 3) := by decide +kernel
theorem dX9_takeFrom_32 : decode cX9_takeFrom 32 = .ok (.aload_n 0, 1) := by decide +kernel
theorem dX9_takeFrom_33 : decode cX9_takeFrom 33 = .ok (.getfield 47, 3) := by decide +kernel
theorem dX9_takeFrom_36 : decode cX9_takeFrom 36 = .ok (.iload_n 2, 1) := by decide +kernel
theorem dX9_takeFrom_37 : decode cX9_takeFrom 37 = .ok (.aload_n 1, 1) := by decide +kernel
theorem dX9_takeFrom_38 : decode cX9_takeFrom 38 = .ok (.getfield 47, 3) := by decide +kernel
theorem dX9_takeFrom_41 : decode cX9_takeFrom 41 = .ok (.iload_n 2, 1) := by decide +kernel
theorem dX9_takeFrom_42 : decode cX9_takeFrom 42 = .ok (.laload, 1) := by decide +kernel
theorem dX9_takeFrom_43 : decode cX9_takeFrom 43 = .ok (.lastore, 1) := by decide +kernel
theorem dX9_takeFrom_44 : decode cX9_takeFrom 44 = .ok (.iinc 2 1, 3) := by decide +kernel
theorem dX9_takeFrom_47 : decode cX9_takeFrom 47 = .ok (.goto (-21), 3) := by decide +kernel
theorem dX9_takeFrom_50 : decode cX9_takeFrom 50 = .ok (.aload_n 0, 1) := by decide +kernel
theorem dX9_takeFrom_51 : decode cX9_takeFrom 51 = .ok (.aload_n 1, 1) := by decide +kernel
theorem dX9_takeFrom_52 : decode cX9_takeFrom 52 = .ok (.getfield 97, 3) := by decide +kernel
theorem dX9_takeFrom_55 : decode cX9_takeFrom 55 = .ok (.putfield 97, 3) := by decide +kernel
theorem dX9_takeFrom_58 : decode cX9_takeFrom 58 = .ok (.iconst 0, 1) := by decide +kernel
theorem dX9_takeFrom_59 : decode cX9_takeFrom 59 = .ok (.istore_n 2, 1) := by decide +kernel
theorem dX9_takeFrom_60 : decode cX9_takeFrom 60 = .ok (.iload_n 2, 1) := by decide +kernel
theorem dX9_takeFrom_61 : decode cX9_takeFrom 61 = .ok (.bipush 64, 2) := by decide +kernel
theorem dX9_takeFrom_63 : decode cX9_takeFrom 63 = .ok (.if_icmp .ge 21, 3) := by decide +kernel
theorem dX9_takeFrom_66 : decode cX9_takeFrom 66 = .ok (.aload_n 0, 1) := by decide +kernel
theorem dX9_takeFrom_67 : decode cX9_takeFrom 67 = .ok (.getfield 50, 3) := by decide +kernel
theorem dX9_takeFrom_70 : decode cX9_takeFrom 70 = .ok (.iload_n 2, 1) := by decide +kernel
theorem dX9_takeFrom_71 : decode cX9_takeFrom 71 = .ok (.aload_n 1, 1) := by decide +kernel
theorem dX9_takeFrom_72 : decode cX9_takeFrom 72 = .ok (.getfield 50, 3) := by decide +kernel
theorem dX9_takeFrom_75 : decode cX9_takeFrom 75 = .ok (.iload_n 2, 1) := by decide +kernel
theorem dX9_takeFrom_76 : decode cX9_takeFrom 76 = .ok (.iaload, 1) := by decide +kernel
theorem dX9_takeFrom_77 : decode cX9_takeFrom 77 = .ok (.iastore, 1) := by decide +kernel
theorem dX9_takeFrom_78 : decode cX9_takeFrom 78 = .ok (.iinc 2 1, 3) := by decide +kernel
theorem dX9_takeFrom_81 : decode cX9_takeFrom 81 = .ok (.goto (-21), 3) := by decide +kernel
theorem dX9_takeFrom_84 : decode cX9_takeFrom 84 = .ok (.aload_n 0, 1) := by decide +kernel
theorem dX9_takeFrom_85 : decode cX9_takeFrom 85 = .ok (.aload_n 1, 1) := by decide +kernel
theorem dX9_takeFrom_86 : decode cX9_takeFrom 86 = .ok (.getfield 53, 3) := by decide +kernel
theorem dX9_takeFrom_89 : decode cX9_takeFrom 89 = .ok (.putfield 53, 3) := by decide +kernel
theorem dX9_takeFrom_92 : decode cX9_takeFrom 92 = .ok (.aload_n 0, 1) := by decide +kernel
theorem dX9_takeFrom_93 : decode cX9_takeFrom 93 = .ok (.aload_n 1, 1) := by decide +kernel
theorem dX9_takeFrom_94 : decode cX9_takeFrom 94 = .ok (.getfield 56, 3) := by decide +kernel
theorem dX9_takeFrom_97 : decode cX9_takeFrom 97 = .ok (.putfield 56, 3) := by decide +kernel
theorem dX9_takeFrom_100 : decode cX9_takeFrom 100 = .ok (.return_, 1) := by decide +kernel
set_option maxRecDepth 20000 in
theorem ggX9_image_X9_init : GoodIn wsX9_image wsX9_init := goodIn_r _ [7, 8, 9, 10, 11, 12, 13, 14, 15, 16, 17, 18, 19, 20, 21, 22, 23, 24, 25, 26, 27, 28, 29, 30, 31, 32, 33, 34, 35, 36, 37, 38, 39, 4, 40, 48, 49, 50, 51, 52, 53, 54, 55, 56, 57, 58, 59, 60, 61, 62, 63, 64, 65, 66, 67, 68, 69, 70, 71, 72, 73, 74, 75, 76, 77, 78, 79, 80, 81, 82, 83, 84] (by decide +kernel) (by decide +kernel)
set_option maxRecDepth 20000 in
theorem gX9_image_X9_init : GoodIn wsX9_image (wsX9_init) := ggX9_image_X9_init
set_option maxRecDepth 20000 in
theorem ggX9_image_X9_takeFrom : GoodIn wsX9_image wsX9_takeFrom := goodIn_r _ [44, 24, 45, 46, 25, 47, 26, 27, 28, 48, 49, 50, 51, 52, 53, 54, 55, 56, 57, 58, 59, 60, 61, 62, 63, 64, 65, 66, 67, 68, 69, 70, 71, 72, 73, 74, 75, 76, 77, 78, 79, 80, 81, 82, 83, 84] (by decide +kernel) (by decide +kernel)
set_option maxRecDepth 20000 in
theorem gX9_image_X9_takeFrom : GoodIn wsX9_image (wsV RX9 266 RX9 yX9_takeFrom wsX9_takeFrom) := goodIn_app (goodIn_of _ (by decide +kernel)) ggX9_image_X9_takeFrom
theorem dX9_image_0 : decode cX9_image 0 = .ok (.aload_n 0, 1) := by decide +kernel
theorem dX9_image_1 : decode cX9_image 1 = .ok (.getfield 373, 3) := by decide +kernel
theorem dX9_image_4 : decode cX9_image 4 = .ok (.ifnonnull 14, 3) := by decide +kernel
theorem dX9_image_7 : decode cX9_image 7 = .ok (.aload_n 0, 1) := by decide +kernel
theorem dX9_image_8 : decode cX9_image 8 = .ok (.new 8, 3) := by decide +kernel
theorem dX9_image_11 : decode cX9_image 11 = .ok (.dup, 1) := by decide +kernel
theorem dX9_image_12 : decode cX9_image 12 = .ok (.invokespecial 265, 3) := by decide +kernel
theorem dX9_image_15 : decode cX9_image 15 = .ok (.putfield 373, 3) := by decide +kernel
theorem dX9_image_18 : decode cX9_image 18 = .ok (.aload_n 0, 1) := by decide +kernel
theorem dX9_image_19 : decode cX9_image 19 = .ok (.getfield 373, 3) := by decide +kernel
theorem dX9_image_22 : decode cX9_image 22 = .ok (.aload_n 0, 1) := by decide +kernel
theorem dX9_image_23 : decode cX9_image 23 = .ok (.invokevirtual 266, 3) := by decide +kernel
theorem dX9_image_26 : decode cX9_image 26 = .ok (.iconst 1, 1) := by decide +kernel
theorem dX9_image_27 : decode cX9_image 27 = .ok (.ireturn, 1) := by decide +kernel
set_option maxRecDepth 20000 in
theorem ggX9_back_X9_refuse : GoodIn wsX9_back wsX9_refuse := goodIn_r _ [6, 7, 20, 21, 22, 23, 24, 25, 26, 27, 28, 29, 30, 31, 32, 33, 34, 35, 36, 37, 38, 39, 40, 41, 42, 43, 44, 45, 46, 47, 48, 49, 50, 51, 52, 53, 54, 55, 56] (by decide +kernel) (by decide +kernel)
set_option maxRecDepth 20000 in
theorem gX9_back_X9_refuse : GoodIn wsX9_back (wsV RX9 124 RX9 yX9_refuse wsX9_refuse) := goodIn_app (goodIn_of _ (by decide +kernel)) ggX9_back_X9_refuse
set_option maxRecDepth 20000 in
theorem ggX9_back_X9_takeFrom : GoodIn wsX9_back wsX9_takeFrom := goodIn_r _ [11, 12, 13, 14, 15, 16, 17, 18, 19, 20, 21, 22, 23, 24, 25, 26, 27, 28, 29, 30, 31, 32, 33, 34, 35, 36, 37, 38, 39, 40, 41, 42, 43, 44, 45, 46, 47, 48, 49, 50, 51, 52, 53, 54, 55, 56] (by decide +kernel) (by decide +kernel)
set_option maxRecDepth 20000 in
theorem gX9_back_X9_takeFrom : GoodIn wsX9_back (wsV RX9 266 RX9 yX9_takeFrom wsX9_takeFrom) := goodIn_app (goodIn_of _ (by decide +kernel)) ggX9_back_X9_takeFrom
theorem dX9_back_0 : decode cX9_back 0 = .ok (.aload_n 0, 1) := by decide +kernel
theorem dX9_back_1 : decode cX9_back 1 = .ok (.getfield 373, 3) := by decide +kernel
theorem dX9_back_4 : decode cX9_back 4 = .ok (.ifnonnull 10, 3) := by decide +kernel
theorem dX9_back_7 : decode cX9_back 7 = .ok (.aload_n 0, 1) := by decide +kernel
theorem dX9_back_8 : decode cX9_back 8 = .ok (.bipush (-5), 2) := by decide +kernel
theorem dX9_back_10 : decode cX9_back 10 = .ok (.invokevirtual 124, 3) := by decide +kernel
theorem dX9_back_13 : decode cX9_back 13 = .ok (.ireturn, 1) := by decide +kernel
theorem dX9_back_14 : decode cX9_back 14 = .ok (.aload_n 0, 1) := by decide +kernel
theorem dX9_back_15 : decode cX9_back 15 = .ok (.aload_n 0, 1) := by decide +kernel
theorem dX9_back_16 : decode cX9_back 16 = .ok (.getfield 373, 3) := by decide +kernel
theorem dX9_back_19 : decode cX9_back 19 = .ok (.invokevirtual 266, 3) := by decide +kernel
theorem dX9_back_22 : decode cX9_back 22 = .ok (.iconst 1, 1) := by decide +kernel
theorem dX9_back_23 : decode cX9_back 23 = .ok (.ireturn, 1) := by decide +kernel
set_option maxRecDepth 20000 in
theorem ggX9_status_X9_bits : GoodIn wsX9_status wsX9_bits := goodIn_r _ [15, 16, 17, 14, 18] (by decide +kernel) (by decide +kernel)
set_option maxRecDepth 20000 in
theorem gX9_status_X9_bits : GoodIn wsX9_status (va_wsS RX9 158 yX9_bits wsX9_bits) := goodIn_app (goodIn_of _ (by decide +kernel)) ggX9_status_X9_bits
set_option maxRecDepth 20000 in
theorem ggX9_status_X9_in : GoodIn wsX9_status wsX9_in := goodIn_r _ [21] (by decide +kernel) (by decide +kernel)
set_option maxRecDepth 20000 in
theorem gX9_status_X9_in : GoodIn wsX9_status (va_wsS RX9 90 yX9_in wsX9_in) := goodIn_app (goodIn_of _ (by decide +kernel)) ggX9_status_X9_in
theorem dX9_status_0 : decode cX9_status 0 = .ok (.iload_n 1, 1) := by decide +kernel
theorem dX9_status_1 : decode cX9_status 1 = .ok (.tableswitch 124 0 7 #[47, 52, 60, 65, 74, 79, 84, 89], 47) := by decide +kernel
theorem dX9_status_48 : decode cX9_status 48 = .ok (.aload_n 0, 1) := by decide +kernel
theorem dX9_status_49 : decode cX9_status 49 = .ok (.getfield 43, 3) := by decide +kernel
theorem dX9_status_52 : decode cX9_status 52 = .ok (.ireturn, 1) := by decide +kernel
theorem dX9_status_53 : decode cX9_status 53 = .ok (.aload_n 0, 1) := by decide +kernel
theorem dX9_status_54 : decode cX9_status 54 = .ok (.getfield 106, 3) := by decide +kernel
theorem dX9_status_57 : decode cX9_status 57 = .ok (.invokestatic 158, 3) := by decide +kernel
theorem dX9_status_60 : decode cX9_status 60 = .ok (.ireturn, 1) := by decide +kernel
theorem dX9_status_61 : decode cX9_status 61 = .ok (.aload_n 0, 1) := by decide +kernel
theorem dX9_status_62 : decode cX9_status 62 = .ok (.getfield 94, 3) := by decide +kernel
theorem dX9_status_65 : decode cX9_status 65 = .ok (.ireturn, 1) := by decide +kernel
theorem dX9_status_66 : decode cX9_status 66 = .ok (.aload_n 0, 1) := by decide +kernel
theorem dX9_status_67 : decode cX9_status 67 = .ok (.getfield 97, 3) := by decide +kernel
theorem dX9_status_70 : decode cX9_status 70 = .ok (.i2l, 1) := by decide +kernel
theorem dX9_status_71 : decode cX9_status 71 = .ok (.invokestatic 158, 3) := by decide +kernel
theorem dX9_status_74 : decode cX9_status 74 = .ok (.ireturn, 1) := by decide +kernel
theorem dX9_status_75 : decode cX9_status 75 = .ok (.aload_n 0, 1) := by decide +kernel
theorem dX9_status_76 : decode cX9_status 76 = .ok (.getfield 53, 3) := by decide +kernel
theorem dX9_status_79 : decode cX9_status 79 = .ok (.ireturn, 1) := by decide +kernel
theorem dX9_status_80 : decode cX9_status 80 = .ok (.aload_n 0, 1) := by decide +kernel
theorem dX9_status_81 : decode cX9_status 81 = .ok (.getfield 56, 3) := by decide +kernel
theorem dX9_status_84 : decode cX9_status 84 = .ok (.ireturn, 1) := by decide +kernel
theorem dX9_status_85 : decode cX9_status 85 = .ok (.aload_n 0, 1) := by decide +kernel
theorem dX9_status_86 : decode cX9_status 86 = .ok (.getfield 178, 3) := by decide +kernel
theorem dX9_status_89 : decode cX9_status 89 = .ok (.ireturn, 1) := by decide +kernel
theorem dX9_status_90 : decode cX9_status 90 = .ok (.iconst 0, 1) := by decide +kernel
theorem dX9_status_91 : decode cX9_status 91 = .ok (.istore_n 2, 1) := by decide +kernel
theorem dX9_status_92 : decode cX9_status 92 = .ok (.iconst 0, 1) := by decide +kernel
theorem dX9_status_93 : decode cX9_status 93 = .ok (.istore_n 3, 1) := by decide +kernel
theorem dX9_status_94 : decode cX9_status 94 = .ok (.iload_n 3, 1) := by decide +kernel
theorem dX9_status_95 : decode cX9_status 95 = .ok (.bipush 8, 2) := by decide +kernel
theorem dX9_status_97 : decode cX9_status 97 = .ok (.if_icmp .ge 26, 3) := by decide +kernel
theorem dX9_status_100 : decode cX9_status 100 = .ok (.iload_n 2, 1) := by decide +kernel
theorem dX9_status_101 : decode cX9_status 101 = .ok (.aload_n 0, 1) := by decide +kernel
theorem dX9_status_102 : decode cX9_status 102 = .ok (.getfield 7, 3) := by decide +kernel
theorem dX9_status_105 : decode cX9_status 105 = .ok (.iload_n 3, 1) := by decide +kernel
theorem dX9_status_106 : decode cX9_status 106 = .ok (.iaload, 1) := by decide +kernel
theorem dX9_status_107 : decode cX9_status 107 = .ok (.ifCond .eq 7, 3) := by decide +kernel
theorem dX9_status_110 : decode cX9_status 110 = .ok (.iconst 1, 1) := by decide +kernel
theorem dX9_status_111 : decode cX9_status 111 = .ok (.goto 4, 3) := by decide +kernel
theorem dX9_status_114 : decode cX9_status 114 = .ok (.iconst 0, 1) := by decide +kernel
theorem dX9_status_115 : decode cX9_status 115 = .ok (.iadd, 1) := by decide +kernel
theorem dX9_status_116 : decode cX9_status 116 = .ok (.istore_n 2, 1) := by decide +kernel
theorem dX9_status_117 : decode cX9_status 117 = .ok (.iinc 3 1, 3) := by decide +kernel
theorem dX9_status_120 : decode cX9_status 120 = .ok (.goto (-26), 3) := by decide +kernel
theorem dX9_status_123 : decode cX9_status 123 = .ok (.iload_n 2, 1) := by decide +kernel
theorem dX9_status_124 : decode cX9_status 124 = .ok (.ireturn, 1) := by decide +kernel
theorem dX9_status_125 : decode cX9_status 125 = .ok (.iload_n 1, 1) := by decide +kernel
theorem dX9_status_126 : decode cX9_status 126 = .ok (.i2l, 1) := by decide +kernel
theorem dX9_status_127 : decode cX9_status 127 = .ok (.ldc2_w 376, 3) := by decide +kernel
theorem dX9_status_130 : decode cX9_status 130 = .ok (.ldc2_w 378, 3) := by decide +kernel
theorem dX9_status_133 : decode cX9_status 133 = .ok (.invokestatic 90, 3) := by decide +kernel
theorem dX9_status_136 : decode cX9_status 136 = .ok (.ifCond .eq 15, 3) := by decide +kernel
theorem dX9_status_139 : decode cX9_status 139 = .ok (.aload_n 0, 1) := by decide +kernel
theorem dX9_status_140 : decode cX9_status 140 = .ok (.getfield 40, 3) := by decide +kernel
theorem dX9_status_143 : decode cX9_status 143 = .ok (.iload_n 1, 1) := by decide +kernel
theorem dX9_status_144 : decode cX9_status 144 = .ok (.bipush 10, 2) := by decide +kernel
theorem dX9_status_146 : decode cX9_status 146 = .ok (.isub, 1) := by decide +kernel
theorem dX9_status_147 : decode cX9_status 147 = .ok (.iaload, 1) := by decide +kernel
theorem dX9_status_148 : decode cX9_status 148 = .ok (.goto 4, 3) := by decide +kernel
theorem dX9_status_151 : decode cX9_status 151 = .ok (.iconst (-1), 1) := by decide +kernel
theorem dX9_status_152 : decode cX9_status 152 = .ok (.ireturn, 1) := by decide +kernel
theorem dJ6_bitCount_0f7a4_0 : decode cJ6_bitCount_0f7a4 0 = .ok (.iload_n 0, 1) := by decide +kernel
theorem dJ6_bitCount_0f7a4_1 : decode cJ6_bitCount_0f7a4 1 = .ok (.iload_n 0, 1) := by decide +kernel
theorem dJ6_bitCount_0f7a4_2 : decode cJ6_bitCount_0f7a4 2 = .ok (.iconst 1, 1) := by decide +kernel
theorem dJ6_bitCount_0f7a4_3 : decode cJ6_bitCount_0f7a4 3 = .ok (.iushr, 1) := by decide +kernel
theorem dJ6_bitCount_0f7a4_4 : decode cJ6_bitCount_0f7a4 4 = .ok (.ldc_w 265, 3) := by decide +kernel
theorem dJ6_bitCount_0f7a4_7 : decode cJ6_bitCount_0f7a4 7 = .ok (.iand, 1) := by decide +kernel
theorem dJ6_bitCount_0f7a4_8 : decode cJ6_bitCount_0f7a4 8 = .ok (.isub, 1) := by decide +kernel
theorem dJ6_bitCount_0f7a4_9 : decode cJ6_bitCount_0f7a4 9 = .ok (.istore_n 0, 1) := by decide +kernel
theorem dJ6_bitCount_0f7a4_10 : decode cJ6_bitCount_0f7a4 10 = .ok (.iload_n 0, 1) := by decide +kernel
theorem dJ6_bitCount_0f7a4_11 : decode cJ6_bitCount_0f7a4 11 = .ok (.ldc_w 266, 3) := by decide +kernel
theorem dJ6_bitCount_0f7a4_14 : decode cJ6_bitCount_0f7a4 14 = .ok (.iand, 1) := by decide +kernel
theorem dJ6_bitCount_0f7a4_15 : decode cJ6_bitCount_0f7a4 15 = .ok (.iload_n 0, 1) := by decide +kernel
theorem dJ6_bitCount_0f7a4_16 : decode cJ6_bitCount_0f7a4 16 = .ok (.iconst 2, 1) := by decide +kernel
theorem dJ6_bitCount_0f7a4_17 : decode cJ6_bitCount_0f7a4 17 = .ok (.iushr, 1) := by decide +kernel
theorem dJ6_bitCount_0f7a4_18 : decode cJ6_bitCount_0f7a4 18 = .ok (.ldc_w 266, 3) := by decide +kernel
theorem dJ6_bitCount_0f7a4_21 : decode cJ6_bitCount_0f7a4 21 = .ok (.iand, 1) := by decide +kernel
theorem dJ6_bitCount_0f7a4_22 : decode cJ6_bitCount_0f7a4 22 = .ok (.iadd, 1) := by decide +kernel
theorem dJ6_bitCount_0f7a4_23 : decode cJ6_bitCount_0f7a4 23 = .ok (.istore_n 0, 1) := by decide +kernel
theorem dJ6_bitCount_0f7a4_24 : decode cJ6_bitCount_0f7a4 24 = .ok (.iload_n 0, 1) := by decide +kernel
theorem dJ6_bitCount_0f7a4_25 : decode cJ6_bitCount_0f7a4 25 = .ok (.iload_n 0, 1) := by decide +kernel
theorem dJ6_bitCount_0f7a4_26 : decode cJ6_bitCount_0f7a4 26 = .ok (.iconst 4, 1) := by decide +kernel
theorem dJ6_bitCount_0f7a4_27 : decode cJ6_bitCount_0f7a4 27 = .ok (.iushr, 1) := by decide +kernel
theorem dJ6_bitCount_0f7a4_28 : decode cJ6_bitCount_0f7a4 28 = .ok (.iadd, 1) := by decide +kernel
theorem dJ6_bitCount_0f7a4_29 : decode cJ6_bitCount_0f7a4 29 = .ok (.ldc_w 267, 3) := by decide +kernel
theorem dJ6_bitCount_0f7a4_32 : decode cJ6_bitCount_0f7a4 32 = .ok (.iand, 1) := by decide +kernel
theorem dJ6_bitCount_0f7a4_33 : decode cJ6_bitCount_0f7a4 33 = .ok (.istore_n 0, 1) := by decide +kernel
theorem dJ6_bitCount_0f7a4_34 : decode cJ6_bitCount_0f7a4 34 = .ok (.iload_n 0, 1) := by decide +kernel
theorem dJ6_bitCount_0f7a4_35 : decode cJ6_bitCount_0f7a4 35 = .ok (.iload_n 0, 1) := by decide +kernel
theorem dJ6_bitCount_0f7a4_36 : decode cJ6_bitCount_0f7a4 36 = .ok (.bipush 8, 2) := by decide +kernel
theorem dJ6_bitCount_0f7a4_38 : decode cJ6_bitCount_0f7a4 38 = .ok (.iushr, 1) := by decide +kernel
theorem dJ6_bitCount_0f7a4_39 : decode cJ6_bitCount_0f7a4 39 = .ok (.iadd, 1) := by decide +kernel
theorem dJ6_bitCount_0f7a4_40 : decode cJ6_bitCount_0f7a4 40 = .ok (.istore_n 0, 1) := by decide +kernel
theorem dJ6_bitCount_0f7a4_41 : decode cJ6_bitCount_0f7a4 41 = .ok (.iload_n 0, 1) := by decide +kernel
theorem dJ6_bitCount_0f7a4_42 : decode cJ6_bitCount_0f7a4 42 = .ok (.iload_n 0, 1) := by decide +kernel
theorem dJ6_bitCount_0f7a4_43 : decode cJ6_bitCount_0f7a4 43 = .ok (.bipush 16, 2) := by decide +kernel
theorem dJ6_bitCount_0f7a4_45 : decode cJ6_bitCount_0f7a4 45 = .ok (.iushr, 1) := by decide +kernel
theorem dJ6_bitCount_0f7a4_46 : decode cJ6_bitCount_0f7a4 46 = .ok (.iadd, 1) := by decide +kernel
theorem dJ6_bitCount_0f7a4_47 : decode cJ6_bitCount_0f7a4 47 = .ok (.istore_n 0, 1) := by decide +kernel
theorem dJ6_bitCount_0f7a4_48 : decode cJ6_bitCount_0f7a4 48 = .ok (.iload_n 0, 1) := by decide +kernel
theorem dJ6_bitCount_0f7a4_49 : decode cJ6_bitCount_0f7a4 49 = .ok (.bipush 63, 2) := by decide +kernel
theorem dJ6_bitCount_0f7a4_51 : decode cJ6_bitCount_0f7a4 51 = .ok (.iand, 1) := by decide +kernel
theorem dJ6_bitCount_0f7a4_52 : decode cJ6_bitCount_0f7a4 52 = .ok (.ireturn, 1) := by decide +kernel
theorem dJ13_bitCount_95d88_0 : decode cJ13_bitCount_95d88 0 = .ok (.lload_n 0, 1) := by decide +kernel
theorem dJ13_bitCount_95d88_1 : decode cJ13_bitCount_95d88 1 = .ok (.lload_n 0, 1) := by decide +kernel
theorem dJ13_bitCount_95d88_2 : decode cJ13_bitCount_95d88 2 = .ok (.iconst 1, 1) := by decide +kernel
theorem dJ13_bitCount_95d88_3 : decode cJ13_bitCount_95d88 3 = .ok (.lushr, 1) := by decide +kernel
theorem dJ13_bitCount_95d88_4 : decode cJ13_bitCount_95d88 4 = .ok (.ldc2_w 314, 3) := by decide +kernel
theorem dJ13_bitCount_95d88_7 : decode cJ13_bitCount_95d88 7 = .ok (.land, 1) := by decide +kernel
theorem dJ13_bitCount_95d88_8 : decode cJ13_bitCount_95d88 8 = .ok (.lsub, 1) := by decide +kernel
theorem dJ13_bitCount_95d88_9 : decode cJ13_bitCount_95d88 9 = .ok (.lstore_n 0, 1) := by decide +kernel
theorem dJ13_bitCount_95d88_10 : decode cJ13_bitCount_95d88 10 = .ok (.lload_n 0, 1) := by decide +kernel
theorem dJ13_bitCount_95d88_11 : decode cJ13_bitCount_95d88 11 = .ok (.ldc2_w 316, 3) := by decide +kernel
theorem dJ13_bitCount_95d88_14 : decode cJ13_bitCount_95d88 14 = .ok (.land, 1) := by decide +kernel
theorem dJ13_bitCount_95d88_15 : decode cJ13_bitCount_95d88 15 = .ok (.lload_n 0, 1) := by decide +kernel
theorem dJ13_bitCount_95d88_16 : decode cJ13_bitCount_95d88 16 = .ok (.iconst 2, 1) := by decide +kernel
theorem dJ13_bitCount_95d88_17 : decode cJ13_bitCount_95d88 17 = .ok (.lushr, 1) := by decide +kernel
theorem dJ13_bitCount_95d88_18 : decode cJ13_bitCount_95d88 18 = .ok (.ldc2_w 316, 3) := by decide +kernel
theorem dJ13_bitCount_95d88_21 : decode cJ13_bitCount_95d88 21 = .ok (.land, 1) := by decide +kernel
theorem dJ13_bitCount_95d88_22 : decode cJ13_bitCount_95d88 22 = .ok (.ladd, 1) := by decide +kernel
theorem dJ13_bitCount_95d88_23 : decode cJ13_bitCount_95d88 23 = .ok (.lstore_n 0, 1) := by decide +kernel
theorem dJ13_bitCount_95d88_24 : decode cJ13_bitCount_95d88 24 = .ok (.lload_n 0, 1) := by decide +kernel
theorem dJ13_bitCount_95d88_25 : decode cJ13_bitCount_95d88 25 = .ok (.lload_n 0, 1) := by decide +kernel
theorem dJ13_bitCount_95d88_26 : decode cJ13_bitCount_95d88 26 = .ok (.iconst 4, 1) := by decide +kernel
theorem dJ13_bitCount_95d88_27 : decode cJ13_bitCount_95d88 27 = .ok (.lushr, 1) := by decide +kernel
theorem dJ13_bitCount_95d88_28 : decode cJ13_bitCount_95d88 28 = .ok (.ladd, 1) := by decide +kernel
theorem dJ13_bitCount_95d88_29 : decode cJ13_bitCount_95d88 29 = .ok (.ldc2_w 318, 3) := by decide +kernel
theorem dJ13_bitCount_95d88_32 : decode cJ13_bitCount_95d88 32 = .ok (.land, 1) := by decide +kernel
theorem dJ13_bitCount_95d88_33 : decode cJ13_bitCount_95d88 33 = .ok (.lstore_n 0, 1) := by decide +kernel
theorem dJ13_bitCount_95d88_34 : decode cJ13_bitCount_95d88 34 = .ok (.lload_n 0, 1) := by decide +kernel
theorem dJ13_bitCount_95d88_35 : decode cJ13_bitCount_95d88 35 = .ok (.lload_n 0, 1) := by decide +kernel
theorem dJ13_bitCount_95d88_36 : decode cJ13_bitCount_95d88 36 = .ok (.bipush 8, 2) := by decide +kernel
theorem dJ13_bitCount_95d88_38 : decode cJ13_bitCount_95d88 38 = .ok (.lushr, 1) := by decide +kernel
theorem dJ13_bitCount_95d88_39 : decode cJ13_bitCount_95d88 39 = .ok (.ladd, 1) := by decide +kernel
theorem dJ13_bitCount_95d88_40 : decode cJ13_bitCount_95d88 40 = .ok (.lstore_n 0, 1) := by decide +kernel
theorem dJ13_bitCount_95d88_41 : decode cJ13_bitCount_95d88 41 = .ok (.lload_n 0, 1) := by decide +kernel
theorem dJ13_bitCount_95d88_42 : decode cJ13_bitCount_95d88 42 = .ok (.lload_n 0, 1) := by decide +kernel
theorem dJ13_bitCount_95d88_43 : decode cJ13_bitCount_95d88 43 = .ok (.bipush 16, 2) := by decide +kernel
theorem dJ13_bitCount_95d88_45 : decode cJ13_bitCount_95d88 45 = .ok (.lushr, 1) := by decide +kernel
theorem dJ13_bitCount_95d88_46 : decode cJ13_bitCount_95d88 46 = .ok (.ladd, 1) := by decide +kernel
theorem dJ13_bitCount_95d88_47 : decode cJ13_bitCount_95d88 47 = .ok (.lstore_n 0, 1) := by decide +kernel
theorem dJ13_bitCount_95d88_48 : decode cJ13_bitCount_95d88 48 = .ok (.lload_n 0, 1) := by decide +kernel
theorem dJ13_bitCount_95d88_49 : decode cJ13_bitCount_95d88 49 = .ok (.lload_n 0, 1) := by decide +kernel
theorem dJ13_bitCount_95d88_50 : decode cJ13_bitCount_95d88 50 = .ok (.bipush 32, 2) := by decide +kernel
theorem dJ13_bitCount_95d88_52 : decode cJ13_bitCount_95d88 52 = .ok (.lushr, 1) := by decide +kernel
theorem dJ13_bitCount_95d88_53 : decode cJ13_bitCount_95d88 53 = .ok (.ladd, 1) := by decide +kernel
theorem dJ13_bitCount_95d88_54 : decode cJ13_bitCount_95d88 54 = .ok (.lstore_n 0, 1) := by decide +kernel
theorem dJ13_bitCount_95d88_55 : decode cJ13_bitCount_95d88 55 = .ok (.lload_n 0, 1) := by decide +kernel
theorem dJ13_bitCount_95d88_56 : decode cJ13_bitCount_95d88 56 = .ok (.l2i, 1) := by decide +kernel
theorem dJ13_bitCount_95d88_57 : decode cJ13_bitCount_95d88 57 = .ok (.bipush 127, 2) := by decide +kernel
theorem dJ13_bitCount_95d88_59 : decode cJ13_bitCount_95d88 59 = .ok (.iand, 1) := by decide +kernel
theorem dJ13_bitCount_95d88_60 : decode cJ13_bitCount_95d88 60 = .ok (.ireturn, 1) := by decide +kernel
theorem dJ9_max_7cf53_0 : decode cJ9_max_7cf53 0 = .ok (.iload_n 0, 1) := by decide +kernel
theorem dJ9_max_7cf53_1 : decode cJ9_max_7cf53 1 = .ok (.iload_n 1, 1) := by decide +kernel
theorem dJ9_max_7cf53_2 : decode cJ9_max_7cf53 2 = .ok (.if_icmp .lt 7, 3) := by decide +kernel
theorem dJ9_max_7cf53_5 : decode cJ9_max_7cf53 5 = .ok (.iload_n 0, 1) := by decide +kernel
theorem dJ9_max_7cf53_6 : decode cJ9_max_7cf53 6 = .ok (.goto 4, 3) := by decide +kernel
theorem dJ9_max_7cf53_9 : decode cJ9_max_7cf53 9 = .ok (.iload_n 1, 1) := by decide +kernel
theorem dJ9_max_7cf53_10 : decode cJ9_max_7cf53 10 = .ok (.ireturn, 1) := by decide +kernel
theorem dJ9_min_7cf53_0 : decode cJ9_min_7cf53 0 = .ok (.iload_n 0, 1) := by decide +kernel
theorem dJ9_min_7cf53_1 : decode cJ9_min_7cf53 1 = .ok (.iload_n 1, 1) := by decide +kernel
theorem dJ9_min_7cf53_2 : decode cJ9_min_7cf53 2 = .ok (.if_icmp .gt 7, 3) := by decide +kernel
theorem dJ9_min_7cf53_5 : decode cJ9_min_7cf53 5 = .ok (.iload_n 0, 1) := by decide +kernel
theorem dJ9_min_7cf53_6 : decode cJ9_min_7cf53 6 = .ok (.goto 4, 3) := by decide +kernel
theorem dJ9_min_7cf53_9 : decode cJ9_min_7cf53 9 = .ok (.iload_n 1, 1) := by decide +kernel
theorem dJ9_min_7cf53_10 : decode cJ9_min_7cf53 10 = .ok (.ireturn, 1) := by decide +kernel
set_option maxRecDepth 20000 in
theorem ggJ0_length_8abf5_J0_coder_7d493 : GoodIn wsJ0_length_8abf5 wsJ0_coder_7d493 := goodIn_r _ [6, 7, 8] (by decide +kernel) (by decide +kernel)
set_option maxRecDepth 20000 in
theorem gJ0_length_8abf5_J0_coder_7d493 : GoodIn wsJ0_length_8abf5 (wsV RJ0 335 RJ0 yJ0_coder_7d493 wsJ0_coder_7d493) := goodIn_app (goodIn_of _ (by decide +kernel)) ggJ0_length_8abf5_J0_coder_7d493
theorem dJ0_length_8abf5_0 : decode cJ0_length_8abf5 0 = .ok (.aload_n 0, 1) := by decide +kernel
theorem dJ0_length_8abf5_1 : decode cJ0_length_8abf5 1 = .ok (.getfield 9, 3) := by decide +kernel
theorem dJ0_length_8abf5_4 : decode cJ0_length_8abf5 4 = .ok (.arraylength, 1) := by decide +kernel
theorem dJ0_length_8abf5_5 : decode cJ0_length_8abf5 5 = .ok (.aload_n 0, 1) := by decide +kernel
theorem dJ0_length_8abf5_6 : decode cJ0_length_8abf5 6 = .ok (.invokevirtual 335, 3) := by decide +kernel
theorem dJ0_length_8abf5_9 : decode cJ0_length_8abf5 9 = .ok (.ishr, 1) := by decide +kernel
theorem dJ0_length_8abf5_10 : decode cJ0_length_8abf5 10 = .ok (.ireturn, 1) := by decide +kernel
set_option maxRecDepth 20000 in
theorem ggJ0_charAt_5068e_J0_isLatin1_aae02 : GoodIn wsJ0_charAt_5068e wsJ0_isLatin1_aae02 := goodIn_r _ [6, 7, 8] (by decide +kernel) (by decide +kernel)
set_option maxRecDepth 20000 in
theorem gJ0_charAt_5068e_J0_isLatin1_aae02 : GoodIn wsJ0_charAt_5068e (wsV RJ0 492 RJ0 yJ0_isLatin1_aae02 wsJ0_isLatin1_aae02) := goodIn_app (goodIn_of _ (by decide +kernel)) ggJ0_charAt_5068e_J0_isLatin1_aae02
set_option maxRecDepth 20000 in
theorem ggJ0_charAt_5068e_J1_charAt_3b067 : GoodIn wsJ0_charAt_5068e wsJ1_charAt_3b067 := goodIn_r _ [12, 13, 14, 5, 15, 16, 17, 18, 19, 20] (by decide +kernel) (by decide +kernel)
set_option maxRecDepth 20000 in
theorem gJ0_charAt_5068e_J1_charAt_3b067 : GoodIn wsJ0_charAt_5068e (va_wsS RJ0 495 yJ1_charAt_3b067 wsJ1_charAt_3b067) := goodIn_app (goodIn_of _ (by decide +kernel)) ggJ0_charAt_5068e_J1_charAt_3b067
set_option maxRecDepth 20000 in
theorem ggJ0_charAt_5068e_J2_charAt_3b067 : GoodIn wsJ0_charAt_5068e wsJ2_charAt_3b067 := goodIn_r _ [24, 25, 26, 23, 27, 28, 29, 30, 31, 14, 5, 15, 16, 17, 18, 19, 20, 32, 33, 34, 35, 36, 37] (by decide +kernel) (by decide +kernel)
set_option maxRecDepth 20000 in
theorem gJ0_charAt_5068e_J2_charAt_3b067 : GoodIn wsJ0_charAt_5068e (va_wsS RJ0 498 yJ2_charAt_3b067 wsJ2_charAt_3b067) := goodIn_app (goodIn_of _ (by decide +kernel)) ggJ0_charAt_5068e_J2_charAt_3b067
theorem dJ0_charAt_5068e_0 : decode cJ0_charAt_5068e 0 = .ok (.aload_n 0, 1) := by decide +kernel
theorem dJ0_charAt_5068e_1 : decode cJ0_charAt_5068e 1 = .ok (.invokevirtual 492, 3) := by decide +kernel
theorem dJ0_charAt_5068e_4 : decode cJ0_charAt_5068e 4 = .ok (.ifCond .eq 12, 3) := by decide +kernel
theorem dJ0_charAt_5068e_7 : decode cJ0_charAt_5068e 7 = .ok (.aload_n 0, 1) := by decide +kernel
theorem dJ0_charAt_5068e_8 : decode cJ0_charAt_5068e 8 = .ok (.getfield 9, 3) := by decide +kernel
theorem dJ0_charAt_5068e_11 : decode cJ0_charAt_5068e 11 = .ok (.iload_n 1, 1) := by decide +kernel
theorem dJ0_charAt_5068e_12 : decode cJ0_charAt_5068e 12 = .ok (.invokestatic 495, 3) := by decide +kernel
theorem dJ0_charAt_5068e_15 : decode cJ0_charAt_5068e 15 = .ok (.ireturn, 1) := by decide +kernel
theorem dJ0_charAt_5068e_16 : decode cJ0_charAt_5068e 16 = .ok (.aload_n 0, 1) := by decide +kernel
theorem dJ0_charAt_5068e_17 : decode cJ0_charAt_5068e 17 = .ok (.getfield 9, 3) := by decide +kernel
theorem dJ0_charAt_5068e_20 : decode cJ0_charAt_5068e 20 = .ok (.iload_n 1, 1) := by decide +kernel
theorem dJ0_charAt_5068e_21 : decode cJ0_charAt_5068e 21 = .ok (.invokestatic 498, 3) := by decide +kernel
theorem dJ0_charAt_5068e_24 : decode cJ0_charAt_5068e 24 = .ok (.ireturn, 1) := by decide +kernel
theorem dJ0_coder_7d493_0 : decode cJ0_coder_7d493 0 = .ok (.getstatic 38, 3) := by decide +kernel
theorem dJ0_coder_7d493_3 : decode cJ0_coder_7d493 3 = .ok (.ifCond .eq 10, 3) := by decide +kernel
theorem dJ0_coder_7d493_6 : decode cJ0_coder_7d493 6 = .ok (.aload_n 0, 1) := by decide +kernel
theorem dJ0_coder_7d493_7 : decode cJ0_coder_7d493 7 = .ok (.getfield 15, 3) := by decide +kernel
theorem dJ0_coder_7d493_10 : decode cJ0_coder_7d493 10 = .ok (.goto 4, 3) := by decide +kernel
theorem dJ0_coder_7d493_13 : decode cJ0_coder_7d493 13 = .ok (.iconst 1, 1) := by decide +kernel
theorem dJ0_coder_7d493_14 : decode cJ0_coder_7d493 14 = .ok (.ireturn, 1) := by decide +kernel
theorem dJ0_isLatin1_aae02_0 : decode cJ0_isLatin1_aae02 0 = .ok (.getstatic 38, 3) := by decide +kernel
theorem dJ0_isLatin1_aae02_3 : decode cJ0_isLatin1_aae02 3 = .ok (.ifCond .eq 14, 3) := by decide +kernel
theorem dJ0_isLatin1_aae02_6 : decode cJ0_isLatin1_aae02 6 = .ok (.aload_n 0, 1) := by decide +kernel
theorem dJ0_isLatin1_aae02_7 : decode cJ0_isLatin1_aae02 7 = .ok (.getfield 15, 3) := by decide +kernel
theorem dJ0_isLatin1_aae02_10 : decode cJ0_isLatin1_aae02 10 = .ok (.ifCond .ne 7, 3) := by decide +kernel
theorem dJ0_isLatin1_aae02_13 : decode cJ0_isLatin1_aae02 13 = .ok (.iconst 1, 1) := by decide +kernel
theorem dJ0_isLatin1_aae02_14 : decode cJ0_isLatin1_aae02 14 = .ok (.goto 4, 3) := by decide +kernel
theorem dJ0_isLatin1_aae02_17 : decode cJ0_isLatin1_aae02 17 = .ok (.iconst 0, 1) := by decide +kernel
theorem dJ0_isLatin1_aae02_18 : decode cJ0_isLatin1_aae02 18 = .ok (.ireturn, 1) := by decide +kernel
set_option maxRecDepth 20000 in
theorem ggJ0_checkIndex_df160_J3_checkIndex_8e157 : GoodIn wsJ0_checkIndex_df160 wsJ3_checkIndex_8e157 := goodIn_r _ [5] (by decide +kernel) (by decide +kernel)
set_option maxRecDepth 20000 in
theorem gJ0_checkIndex_df160_J3_checkIndex_8e157 : GoodIn wsJ0_checkIndex_df160 (va_wsS RJ0 1059 yJ3_checkIndex_8e157 wsJ3_checkIndex_8e157) := goodIn_app (goodIn_of _ (by decide +kernel)) ggJ0_checkIndex_df160_J3_checkIndex_8e157
theorem dJ0_checkIndex_df160_0 : decode cJ0_checkIndex_df160 0 = .ok (.iload_n 0, 1) := by decide +kernel
theorem dJ0_checkIndex_df160_1 : decode cJ0_checkIndex_df160 1 = .ok (.iload_n 1, 1) := by decide +kernel
theorem dJ0_checkIndex_df160_2 : decode cJ0_checkIndex_df160 2 = .ok (.getstatic 1053, 3) := by decide +kernel
theorem dJ0_checkIndex_df160_5 : decode cJ0_checkIndex_df160 5 = .ok (.invokestatic 1059, 3) := by decide +kernel
theorem dJ0_checkIndex_df160_8 : decode cJ0_checkIndex_df160 8 = .ok (.pop, 1) := by decide +kernel
theorem dJ0_checkIndex_df160_9 : decode cJ0_checkIndex_df160 9 = .ok (.return_, 1) := by decide +kernel
set_option maxRecDepth 20000 in
theorem ggJ1_charAt_3b067_J0_checkIndex_df160 : GoodIn wsJ1_charAt_3b067 wsJ0_checkIndex_df160 := goodIn_r _ [4, 5, 6, 7, 8, 9] (by decide +kernel) (by decide +kernel)
set_option maxRecDepth 20000 in
theorem gJ1_charAt_3b067_J0_checkIndex_df160 : GoodIn wsJ1_charAt_3b067 (va_wsS RJ1 9 yJ0_checkIndex_df160 wsJ0_checkIndex_df160) := goodIn_app (goodIn_of _ (by decide +kernel)) ggJ1_charAt_3b067_J0_checkIndex_df160
theorem dJ1_charAt_3b067_0 : decode cJ1_charAt_3b067 0 = .ok (.iload_n 1, 1) := by decide +kernel
theorem dJ1_charAt_3b067_1 : decode cJ1_charAt_3b067 1 = .ok (.aload_n 0, 1) := by decide +kernel
theorem dJ1_charAt_3b067_2 : decode cJ1_charAt_3b067 2 = .ok (.arraylength, 1) := by decide +kernel
theorem dJ1_charAt_3b067_3 : decode cJ1_charAt_3b067 3 = .ok (.invokestatic 9, 3) := by decide +kernel
theorem dJ1_charAt_3b067_6 : decode cJ1_charAt_3b067 6 = .ok (.aload_n 0, 1) := by decide +kernel
theorem dJ1_charAt_3b067_7 : decode cJ1_charAt_3b067 7 = .ok (.iload_n 1, 1) := by decide +kernel
theorem dJ1_charAt_3b067_8 : decode cJ1_charAt_3b067 8 = .ok (.baload, 1) := by decide +kernel
theorem dJ1_charAt_3b067_9 : decode cJ1_charAt_3b067 9 = .ok (.sipush 255, 3) := by decide +kernel
theorem dJ1_charAt_3b067_12 : decode cJ1_charAt_3b067 12 = .ok (.iand, 1) := by decide +kernel
theorem dJ1_charAt_3b067_13 : decode cJ1_charAt_3b067 13 = .ok (.i2c, 1) := by decide +kernel
theorem dJ1_charAt_3b067_14 : decode cJ1_charAt_3b067 14 = .ok (.ireturn, 1) := by decide +kernel
set_option maxRecDepth 20000 in
theorem ggJ2_getChar_3b067_J2_length_9d52b : GoodIn wsJ2_getChar_3b067 wsJ2_length_9d52b := goodIn_r _ [7] (by decide +kernel) (by decide +kernel)
set_option maxRecDepth 20000 in
theorem gJ2_getChar_3b067_J2_length_9d52b : GoodIn wsJ2_getChar_3b067 (va_wsS RJ2 48 yJ2_length_9d52b wsJ2_length_9d52b) := goodIn_app (goodIn_of _ (by decide +kernel)) ggJ2_getChar_3b067_J2_length_9d52b
theorem dJ2_getChar_3b067_0 : decode cJ2_getChar_3b067 0 = .ok (.getstatic 44, 3) := by decide +kernel
theorem dJ2_getChar_3b067_3 : decode cJ2_getChar_3b067 3 = .ok (.ifCond .ne 25, 3) := by decide +kernel
theorem dJ2_getChar_3b067_6 : decode cJ2_getChar_3b067 6 = .ok (.iload_n 1, 1) := by decide +kernel
theorem dJ2_getChar_3b067_7 : decode cJ2_getChar_3b067 7 = .ok (.ifCond .lt 11, 3) := by decide +kernel
theorem dJ2_getChar_3b067_10 : decode cJ2_getChar_3b067 10 = .ok (.iload_n 1, 1) := by decide +kernel
theorem dJ2_getChar_3b067_11 : decode cJ2_getChar_3b067 11 = .ok (.aload_n 0, 1) := by decide +kernel
theorem dJ2_getChar_3b067_12 : decode cJ2_getChar_3b067 12 = .ok (.invokestatic 48, 3) := by decide +kernel
theorem dJ2_getChar_3b067_15 : decode cJ2_getChar_3b067 15 = .ok (.if_icmp .lt 13, 3) := by decide +kernel
theorem dJ2_getChar_3b067_18 : decode cJ2_getChar_3b067 18 = .ok (.new 52, 3) := by decide +kernel
theorem dJ2_getChar_3b067_21 : decode cJ2_getChar_3b067 21 = .ok (.dup, 1) := by decide +kernel
theorem dJ2_getChar_3b067_22 : decode cJ2_getChar_3b067 22 = .ok (.ldc 54, 2) := by decide +kernel
theorem dJ2_getChar_3b067_24 : decode cJ2_getChar_3b067 24 = .ok (.invokespecial 56, 3) := by decide +kernel
theorem dJ2_getChar_3b067_27 : decode cJ2_getChar_3b067 27 = .ok (.athrow, 1) := by decide +kernel
theorem dJ2_getChar_3b067_28 : decode cJ2_getChar_3b067 28 = .ok (.iload_n 1, 1) := by decide +kernel
theorem dJ2_getChar_3b067_29 : decode cJ2_getChar_3b067 29 = .ok (.iconst 1, 1) := by decide +kernel
theorem dJ2_getChar_3b067_30 : decode cJ2_getChar_3b067 30 = .ok (.ishl, 1) := by decide +kernel
theorem dJ2_getChar_3b067_31 : decode cJ2_getChar_3b067 31 = .ok (.istore_n 1, 1) := by decide +kernel
theorem dJ2_getChar_3b067_32 : decode cJ2_getChar_3b067 32 = .ok (.aload_n 0, 1) := by decide +kernel
theorem dJ2_getChar_3b067_33 : decode cJ2_getChar_3b067 33 = .ok (.iload_n 1, 1) := by decide +kernel
theorem dJ2_getChar_3b067_34 : decode cJ2_getChar_3b067 34 = .ok (.iinc 1 1, 3) := by decide +kernel
theorem dJ2_getChar_3b067_37 : decode cJ2_getChar_3b067 37 = .ok (.baload, 1) := by decide +kernel
theorem dJ2_getChar_3b067_38 : decode cJ2_getChar_3b067 38 = .ok (.sipush 255, 3) := by decide +kernel
theorem dJ2_getChar_3b067_41 : decode cJ2_getChar_3b067 41 = .ok (.iand, 1) := by decide +kernel
theorem dJ2_getChar_3b067_42 : decode cJ2_getChar_3b067 42 = .ok (.getstatic 59, 3) := by decide +kernel
theorem dJ2_getChar_3b067_45 : decode cJ2_getChar_3b067 45 = .ok (.ishl, 1) := by decide +kernel
theorem dJ2_getChar_3b067_46 : decode cJ2_getChar_3b067 46 = .ok (.aload_n 0, 1) := by decide +kernel
theorem dJ2_getChar_3b067_47 : decode cJ2_getChar_3b067 47 = .ok (.iload_n 1, 1) := by decide +kernel
theorem dJ2_getChar_3b067_48 : decode cJ2_getChar_3b067 48 = .ok (.baload, 1) := by decide +kernel
theorem dJ2_getChar_3b067_49 : decode cJ2_getChar_3b067 49 = .ok (.sipush 255, 3) := by decide +kernel
theorem dJ2_getChar_3b067_52 : decode cJ2_getChar_3b067 52 = .ok (.iand, 1) := by decide +kernel
theorem dJ2_getChar_3b067_53 : decode cJ2_getChar_3b067 53 = .ok (.getstatic 63, 3) := by decide +kernel
theorem dJ2_getChar_3b067_56 : decode cJ2_getChar_3b067 56 = .ok (.ishl, 1) := by decide +kernel
theorem dJ2_getChar_3b067_57 : decode cJ2_getChar_3b067 57 = .ok (.ior, 1) := by decide +kernel
theorem dJ2_getChar_3b067_58 : decode cJ2_getChar_3b067 58 = .ok (.i2c, 1) := by decide +kernel
theorem dJ2_getChar_3b067_59 : decode cJ2_getChar_3b067 59 = .ok (.ireturn, 1) := by decide +kernel
theorem dJ2_length_9d52b_0 : decode cJ2_length_9d52b 0 = .ok (.aload_n 0, 1) := by decide +kernel
theorem dJ2_length_9d52b_1 : decode cJ2_length_9d52b 1 = .ok (.arraylength, 1) := by decide +kernel
theorem dJ2_length_9d52b_2 : decode cJ2_length_9d52b 2 = .ok (.iconst 1, 1) := by decide +kernel
theorem dJ2_length_9d52b_3 : decode cJ2_length_9d52b 3 = .ok (.ishr, 1) := by decide +kernel
theorem dJ2_length_9d52b_4 : decode cJ2_length_9d52b 4 = .ok (.ireturn, 1) := by decide +kernel
set_option maxRecDepth 20000 in
theorem ggJ2_charAt_3b067_J2_checkIndex_2214a : GoodIn wsJ2_charAt_3b067 wsJ2_checkIndex_2214a := goodIn_r _ [4, 5, 6, 3, 7, 8, 9, 10, 11, 12, 13, 14, 15, 16] (by decide +kernel) (by decide +kernel)
set_option maxRecDepth 20000 in
theorem gJ2_charAt_3b067_J2_checkIndex_2214a : GoodIn wsJ2_charAt_3b067 (va_wsS RJ2 67 yJ2_checkIndex_2214a wsJ2_checkIndex_2214a) := goodIn_app (goodIn_of _ (by decide +kernel)) ggJ2_charAt_3b067_J2_checkIndex_2214a
set_option maxRecDepth 20000 in
theorem ggJ2_charAt_3b067_J2_getChar_3b067 : GoodIn wsJ2_charAt_3b067 wsJ2_getChar_3b067 := goodIn_r _ [19, 20, 21, 22, 5, 6, 3, 7] (by decide +kernel) (by decide +kernel)
set_option maxRecDepth 20000 in
theorem gJ2_charAt_3b067_J2_getChar_3b067 : GoodIn wsJ2_charAt_3b067 (va_wsS RJ2 71 yJ2_getChar_3b067 wsJ2_getChar_3b067) := goodIn_app (goodIn_of _ (by decide +kernel)) ggJ2_charAt_3b067_J2_getChar_3b067
theorem dJ2_charAt_3b067_0 : decode cJ2_charAt_3b067 0 = .ok (.iload_n 1, 1) := by decide +kernel
theorem dJ2_charAt_3b067_1 : decode cJ2_charAt_3b067 1 = .ok (.aload_n 0, 1) := by decide +kernel
theorem dJ2_charAt_3b067_2 : decode cJ2_charAt_3b067 2 = .ok (.invokestatic 67, 3) := by decide +kernel
theorem dJ2_charAt_3b067_5 : decode cJ2_charAt_3b067 5 = .ok (.aload_n 0, 1) := by decide +kernel
theorem dJ2_charAt_3b067_6 : decode cJ2_charAt_3b067 6 = .ok (.iload_n 1, 1) := by decide +kernel
theorem dJ2_charAt_3b067_7 : decode cJ2_charAt_3b067 7 = .ok (.invokestatic 71, 3) := by decide +kernel
theorem dJ2_charAt_3b067_10 : decode cJ2_charAt_3b067 10 = .ok (.ireturn, 1) := by decide +kernel
set_option maxRecDepth 20000 in
theorem ggJ2_checkIndex_2214a_J2_length_9d52b : GoodIn wsJ2_checkIndex_2214a wsJ2_length_9d52b := goodIn_r _ [4] (by decide +kernel) (by decide +kernel)
set_option maxRecDepth 20000 in
theorem gJ2_checkIndex_2214a_J2_length_9d52b : GoodIn wsJ2_checkIndex_2214a (va_wsS RJ2 48 yJ2_length_9d52b wsJ2_length_9d52b) := goodIn_app (goodIn_of _ (by decide +kernel)) ggJ2_checkIndex_2214a_J2_length_9d52b
set_option maxRecDepth 20000 in
theorem ggJ2_checkIndex_2214a_J0_checkIndex_df160 : GoodIn wsJ2_checkIndex_2214a wsJ0_checkIndex_df160 := goodIn_r _ [8, 9, 10, 11, 12, 13] (by decide +kernel) (by decide +kernel)
set_option maxRecDepth 20000 in
theorem gJ2_checkIndex_2214a_J0_checkIndex_df160 : GoodIn wsJ2_checkIndex_2214a (va_wsS RJ2 414 yJ0_checkIndex_df160 wsJ0_checkIndex_df160) := goodIn_app (goodIn_of _ (by decide +kernel)) ggJ2_checkIndex_2214a_J0_checkIndex_df160
theorem dJ2_checkIndex_2214a_0 : decode cJ2_checkIndex_2214a 0 = .ok (.iload_n 0, 1) := by decide +kernel
theorem dJ2_checkIndex_2214a_1 : decode cJ2_checkIndex_2214a 1 = .ok (.aload_n 1, 1) := by decide +kernel
theorem dJ2_checkIndex_2214a_2 : decode cJ2_checkIndex_2214a 2 = .ok (.invokestatic 48, 3) := by decide +kernel
theorem dJ2_checkIndex_2214a_5 : decode cJ2_checkIndex_2214a 5 = .ok (.invokestatic 414, 3) := by decide +kernel
theorem dJ2_checkIndex_2214a_8 : decode cJ2_checkIndex_2214a 8 = .ok (.return_, 1) := by decide +kernel
theorem dJ7_fill_d0a16_0 : decode cJ7_fill_d0a16 0 = .ok (.iconst 0, 1) := by decide +kernel
theorem dJ7_fill_d0a16_1 : decode cJ7_fill_d0a16 1 = .ok (.istore_n 3, 1) := by decide +kernel
theorem dJ7_fill_d0a16_2 : decode cJ7_fill_d0a16 2 = .ok (.aload_n 0, 1) := by decide +kernel
theorem dJ7_fill_d0a16_3 : decode cJ7_fill_d0a16 3 = .ok (.arraylength, 1) := by decide +kernel
theorem dJ7_fill_d0a16_4 : decode cJ7_fill_d0a16 4 = .ok (.istore 4, 2) := by decide +kernel
theorem dJ7_fill_d0a16_6 : decode cJ7_fill_d0a16 6 = .ok (.iload_n 3, 1) := by decide +kernel
theorem dJ7_fill_d0a16_7 : decode cJ7_fill_d0a16 7 = .ok (.iload 4, 2) := by decide +kernel
theorem dJ7_fill_d0a16_9 : decode cJ7_fill_d0a16 9 = .ok (.if_icmp .ge 13, 3) := by decide +kernel
theorem dJ7_fill_d0a16_12 : decode cJ7_fill_d0a16 12 = .ok (.aload_n 0, 1) := by decide +kernel
theorem dJ7_fill_d0a16_13 : decode cJ7_fill_d0a16 13 = .ok (.iload_n 3, 1) := by decide +kernel
theorem dJ7_fill_d0a16_14 : decode cJ7_fill_d0a16 14 = .ok (.lload_n 1, 1) := by decide +kernel
theorem dJ7_fill_d0a16_15 : decode cJ7_fill_d0a16 15 = .ok (.lastore, 1) := by decide +kernel
theorem dJ7_fill_d0a16_16 : decode cJ7_fill_d0a16 16 = .ok (.iinc 3 1, 3) := by decide +kernel
theorem dJ7_fill_d0a16_19 : decode cJ7_fill_d0a16 19 = .ok (.goto (-13), 3) := by decide +kernel
theorem dJ7_fill_d0a16_22 : decode cJ7_fill_d0a16 22 = .ok (.return_, 1) := by decide +kernel
theorem dJ3_checkIndex_8e157_0 : decode cJ3_checkIndex_8e157 0 = .ok (.iload_n 0, 1) := by decide +kernel
theorem dJ3_checkIndex_8e157_1 : decode cJ3_checkIndex_8e157 1 = .ok (.ifCond .lt 8, 3) := by decide +kernel
theorem dJ3_checkIndex_8e157_4 : decode cJ3_checkIndex_8e157 4 = .ok (.iload_n 0, 1) := by decide +kernel
theorem dJ3_checkIndex_8e157_5 : decode cJ3_checkIndex_8e157 5 = .ok (.iload_n 1, 1) := by decide +kernel
theorem dJ3_checkIndex_8e157_6 : decode cJ3_checkIndex_8e157 6 = .ok (.if_icmp .lt 10, 3) := by decide +kernel
theorem dJ3_checkIndex_8e157_9 : decode cJ3_checkIndex_8e157 9 = .ok (.aload_n 2, 1) := by decide +kernel
theorem dJ3_checkIndex_8e157_10 : decode cJ3_checkIndex_8e157 10 = .ok (.iload_n 0, 1) := by decide +kernel
theorem dJ3_checkIndex_8e157_11 : decode cJ3_checkIndex_8e157 11 = .ok (.iload_n 1, 1) := by decide +kernel
theorem dJ3_checkIndex_8e157_12 : decode cJ3_checkIndex_8e157 12 = .ok (.invokestatic 95, 3) := by decide +kernel
theorem dJ3_checkIndex_8e157_15 : decode cJ3_checkIndex_8e157 15 = .ok (.athrow, 1) := by decide +kernel
theorem dJ3_checkIndex_8e157_16 : decode cJ3_checkIndex_8e157 16 = .ok (.iload_n 0, 1) := by decide +kernel
theorem dJ3_checkIndex_8e157_17 : decode cJ3_checkIndex_8e157 17 = .ok (.ireturn, 1) := by decide +kernel
