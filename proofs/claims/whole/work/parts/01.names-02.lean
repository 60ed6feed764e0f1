theorem dX2_spareBeside_5 : decode cX2_spareBeside 5 = .ok (.getfield 35, 3) := by decide +kernel
theorem dX2_spareBeside_8 : decode cX2_spareBeside 8 = .ok (.iload_n 1, 1) := by decide +kernel
theorem dX2_spareBeside_9 : decode cX2_spareBeside 9 = .ok (.laload, 1) := by decide +kernel
theorem dX2_spareBeside_10 : decode cX2_spareBeside 10 = .ok (.invokevirtual 102, 3) := by decide +kernel
theorem dX2_spareBeside_13 : decode cX2_spareBeside 13 = .ok (.aload_n 0, 1) := by decide +kernel
theorem dX2_spareBeside_14 : decode cX2_spareBeside 14 = .ok (.invokevirtual 98, 3) := by decide +kernel
theorem dX2_spareBeside_17 : decode cX2_spareBeside 17 = .ok (.land, 1) := by decide +kernel
theorem dX2_spareBeside_18 : decode cX2_spareBeside 18 = .ok (.aload_n 0, 1) := by decide +kernel
theorem dX2_spareBeside_19 : decode cX2_spareBeside 19 = .ok (.aload_n 0, 1) := by decide +kernel
theorem dX2_spareBeside_20 : decode cX2_spareBeside 20 = .ok (.getfield 26, 3) := by decide +kernel
theorem dX2_spareBeside_23 : decode cX2_spareBeside 23 = .ok (.invokevirtual 90, 3) := by decide +kernel
theorem dX2_spareBeside_26 : decode cX2_spareBeside 26 = .ok (.ldc2_w 67, 3) := by decide +kernel
theorem dX2_spareBeside_29 : decode cX2_spareBeside 29 = .ok (.lxor, 1) := by decide +kernel
theorem dX2_spareBeside_30 : decode cX2_spareBeside 30 = .ok (.land, 1) := by decide +kernel
theorem dX2_spareBeside_31 : decode cX2_spareBeside 31 = .ok (.lreturn, 1) := by decide +kernel
set_option maxRecDepth 20000 in
theorem ggX2_countFaces_X0_shifted : GoodIn wsX2_countFaces wsX0_shifted := goodIn_r _ [8, 9, 10, 11, 27, 28, 29, 30, 31, 32] (by decide +kernel) (by decide +kernel)
set_option maxRecDepth 20000 in
theorem gX2_countFaces_X0_shifted : GoodIn wsX2_countFaces (wsV RX2 106 RX0 yX0_shifted wsX0_shifted) := goodIn_app (goodIn_of _ (by decide +kernel)) ggX2_countFaces_X0_shifted
set_option maxRecDepth 20000 in
theorem ggX2_countFaces_J13_bitCount_95d88 : GoodIn wsX2_countFaces wsJ13_bitCount_95d88 := goodIn_r _ [15, 16, 17, 18] (by decide +kernel) (by decide +kernel)
set_option maxRecDepth 20000 in
theorem gX2_countFaces_J13_bitCount_95d88 : GoodIn wsX2_countFaces (va_wsS RX2 73 yJ13_bitCount_95d88 wsJ13_bitCount_95d88) := goodIn_app (goodIn_of _ (by decide +kernel)) ggX2_countFaces_J13_bitCount_95d88
theorem dX2_countFaces_0 : decode cX2_countFaces 0 = .ok (.iconst 0, 1) := by decide +kernel
theorem dX2_countFaces_1 : decode cX2_countFaces 1 = .ok (.istore_n 2, 1) := by decide +kernel
theorem dX2_countFaces_2 : decode cX2_countFaces 2 = .ok (.iconst 0, 1) := by decide +kernel
theorem dX2_countFaces_3 : decode cX2_countFaces 3 = .ok (.istore_n 3, 1) := by decide +kernel
theorem dX2_countFaces_4 : decode cX2_countFaces 4 = .ok (.iload_n 3, 1) := by decide +kernel
theorem dX2_countFaces_5 : decode cX2_countFaces 5 = .ok (.bipush 6, 2) := by decide +kernel
theorem dX2_countFaces_7 : decode cX2_countFaces 7 = .ok (.if_icmp .ge 34, 3) := by decide +kernel
theorem dX2_countFaces_10 : decode cX2_countFaces 10 = .ok (.iload_n 2, 1) := by decide +kernel
theorem dX2_countFaces_11 : decode cX2_countFaces 11 = .ok (.aload_n 0, 1) := by decide +kernel
theorem dX2_countFaces_12 : decode cX2_countFaces 12 = .ok (.getfield 12, 3) := by decide +kernel
theorem dX2_countFaces_15 : decode cX2_countFaces 15 = .ok (.aload_n 0, 1) := by decide +kernel
theorem dX2_countFaces_16 : decode cX2_countFaces 16 = .ok (.getfield 35, 3) := by decide +kernel
theorem dX2_countFaces_19 : decode cX2_countFaces 19 = .ok (.iload_n 1, 1) := by decide +kernel
theorem dX2_countFaces_20 : decode cX2_countFaces 20 = .ok (.laload, 1) := by decide +kernel
theorem dX2_countFaces_21 : decode cX2_countFaces 21 = .ok (.iload_n 3, 1) := by decide +kernel
theorem dX2_countFaces_22 : decode cX2_countFaces 22 = .ok (.invokevirtual 106, 3) := by decide +kernel
theorem dX2_countFaces_25 : decode cX2_countFaces 25 = .ok (.aload_n 0, 1) := by decide +kernel
theorem dX2_countFaces_26 : decode cX2_countFaces 26 = .ok (.getfield 18, 3) := by decide +kernel
theorem dX2_countFaces_29 : decode cX2_countFaces 29 = .ok (.land, 1) := by decide +kernel
theorem dX2_countFaces_30 : decode cX2_countFaces 30 = .ok (.invokestatic 73, 3) := by decide +kernel
theorem dX2_countFaces_33 : decode cX2_countFaces 33 = .ok (.iadd, 1) := by decide +kernel
theorem dX2_countFaces_34 : decode cX2_countFaces 34 = .ok (.istore_n 2, 1) := by decide +kernel
theorem dX2_countFaces_35 : decode cX2_countFaces 35 = .ok (.iinc 3 1, 3) := by decide +kernel
theorem dX2_countFaces_38 : decode cX2_countFaces 38 = .ok (.goto (-34), 3) := by decide +kernel
theorem dX2_countFaces_41 : decode cX2_countFaces 41 = .ok (.iload_n 2, 1) := by decide +kernel
theorem dX2_countFaces_42 : decode cX2_countFaces 42 = .ok (.ireturn, 1) := by decide +kernel
set_option maxRecDepth 20000 in
theorem ggX2_mirrorAll_X0_mirrored : GoodIn wsX2_mirrorAll wsX0_mirrored := goodIn_r _ [10, 11, 12, 13, 14, 15, 9, 16, 17, 18, 19, 20, 29, 30, 31, 32, 33, 34] (by decide +kernel) (by decide +kernel)
set_option maxRecDepth 20000 in
theorem gX2_mirrorAll_X0_mirrored : GoodIn wsX2_mirrorAll (wsV RX2 110 RX0 yX0_mirrored wsX0_mirrored) := goodIn_app (goodIn_of _ (by decide +kernel)) ggX2_mirrorAll_X0_mirrored
theorem dX2_mirrorAll_0 : decode cX2_mirrorAll 0 = .ok (.aload_n 0, 1) := by decide +kernel
theorem dX2_mirrorAll_1 : decode cX2_mirrorAll 1 = .ok (.aload_n 0, 1) := by decide +kernel
theorem dX2_mirrorAll_2 : decode cX2_mirrorAll 2 = .ok (.getfield 12, 3) := by decide +kernel
theorem dX2_mirrorAll_5 : decode cX2_mirrorAll 5 = .ok (.aload_n 0, 1) := by decide +kernel
theorem dX2_mirrorAll_6 : decode cX2_mirrorAll 6 = .ok (.getfield 18, 3) := by decide +kernel
theorem dX2_mirrorAll_9 : decode cX2_mirrorAll 9 = .ok (.iload_n 1, 1) := by decide +kernel
theorem dX2_mirrorAll_10 : decode cX2_mirrorAll 10 = .ok (.invokevirtual 110, 3) := by decide +kernel
theorem dX2_mirrorAll_13 : decode cX2_mirrorAll 13 = .ok (.putfield 18, 3) := by decide +kernel
theorem dX2_mirrorAll_16 : decode cX2_mirrorAll 16 = .ok (.iconst 0, 1) := by decide +kernel
theorem dX2_mirrorAll_17 : decode cX2_mirrorAll 17 = .ok (.istore_n 2, 1) := by decide +kernel
theorem dX2_mirrorAll_18 : decode cX2_mirrorAll 18 = .ok (.iload_n 2, 1) := by decide +kernel
theorem dX2_mirrorAll_19 : decode cX2_mirrorAll 19 = .ok (.aload_n 0, 1) := by decide +kernel
theorem dX2_mirrorAll_20 : decode cX2_mirrorAll 20 = .ok (.getfield 22, 3) := by decide +kernel
theorem dX2_mirrorAll_23 : decode cX2_mirrorAll 23 = .ok (.if_icmp .ge 29, 3) := by decide +kernel
theorem dX2_mirrorAll_26 : decode cX2_mirrorAll 26 = .ok (.aload_n 0, 1) := by decide +kernel
theorem dX2_mirrorAll_27 : decode cX2_mirrorAll 27 = .ok (.getfield 35, 3) := by decide +kernel
theorem dX2_mirrorAll_30 : decode cX2_mirrorAll 30 = .ok (.iload_n 2, 1) := by decide +kernel
theorem dX2_mirrorAll_31 : decode cX2_mirrorAll 31 = .ok (.aload_n 0, 1) := by decide +kernel
theorem dX2_mirrorAll_32 : decode cX2_mirrorAll 32 = .ok (.getfield 12, 3) := by decide +kernel
theorem dX2_mirrorAll_35 : decode cX2_mirrorAll 35 = .ok (.aload_n 0, 1) := by decide +kernel
theorem dX2_mirrorAll_36 : decode cX2_mirrorAll 36 = .ok (.getfield 35, 3) := by decide +kernel
theorem dX2_mirrorAll_39 : decode cX2_mirrorAll 39 = .ok (.iload_n 2, 1) := by decide +kernel
theorem dX2_mirrorAll_40 : decode cX2_mirrorAll 40 = .ok (.laload, 1) := by decide +kernel
theorem dX2_mirrorAll_41 : decode cX2_mirrorAll 41 = .ok (.iload_n 1, 1) := by decide +kernel
theorem dX2_mirrorAll_42 : decode cX2_mirrorAll 42 = .ok (.invokevirtual 110, 3) := by decide +kernel
theorem dX2_mirrorAll_45 : decode cX2_mirrorAll 45 = .ok (.lastore, 1) := by decide +kernel
theorem dX2_mirrorAll_46 : decode cX2_mirrorAll 46 = .ok (.iinc 2 1, 3) := by decide +kernel
theorem dX2_mirrorAll_49 : decode cX2_mirrorAll 49 = .ok (.goto (-31), 3) := by decide +kernel
theorem dX2_mirrorAll_52 : decode cX2_mirrorAll 52 = .ok (.iconst 0, 1) := by decide +kernel
theorem dX2_mirrorAll_53 : decode cX2_mirrorAll 53 = .ok (.istore_n 2, 1) := by decide +kernel
theorem dX2_mirrorAll_54 : decode cX2_mirrorAll 54 = .ok (.iload_n 2, 1) := by decide +kernel
theorem dX2_mirrorAll_55 : decode cX2_mirrorAll 55 = .ok (.iconst 4, 1) := by decide +kernel
theorem dX2_mirrorAll_56 : decode cX2_mirrorAll 56 = .ok (.if_icmp .ge 29, 3) := by decide +kernel
theorem dX2_mirrorAll_59 : decode cX2_mirrorAll 59 = .ok (.aload_n 0, 1) := by decide +kernel
theorem dX2_mirrorAll_60 : decode cX2_mirrorAll 60 = .ok (.getfield 39, 3) := by decide +kernel
theorem dX2_mirrorAll_63 : decode cX2_mirrorAll 63 = .ok (.iload_n 2, 1) := by decide +kernel
theorem dX2_mirrorAll_64 : decode cX2_mirrorAll 64 = .ok (.aload_n 0, 1) := by decide +kernel
theorem dX2_mirrorAll_65 : decode cX2_mirrorAll 65 = .ok (.getfield 12, 3) := by decide +kernel
theorem dX2_mirrorAll_68 : decode cX2_mirrorAll 68 = .ok (.aload_n 0, 1) := by decide +kernel
theorem dX2_mirrorAll_69 : decode cX2_mirrorAll 69 = .ok (.getfield 39, 3) := by decide +kernel
theorem dX2_mirrorAll_72 : decode cX2_mirrorAll 72 = .ok (.iload_n 2, 1) := by decide +kernel
theorem dX2_mirrorAll_73 : decode cX2_mirrorAll 73 = .ok (.laload, 1) := by decide +kernel
theorem dX2_mirrorAll_74 : decode cX2_mirrorAll 74 = .ok (.iload_n 1, 1) := by decide +kernel
theorem dX2_mirrorAll_75 : decode cX2_mirrorAll 75 = .ok (.invokevirtual 110, 3) := by decide +kernel
theorem dX2_mirrorAll_78 : decode cX2_mirrorAll 78 = .ok (.lastore, 1) := by decide +kernel
theorem dX2_mirrorAll_79 : decode cX2_mirrorAll 79 = .ok (.iinc 2 1, 3) := by decide +kernel
theorem dX2_mirrorAll_82 : decode cX2_mirrorAll 82 = .ok (.goto (-28), 3) := by decide +kernel
theorem dX2_mirrorAll_85 : decode cX2_mirrorAll 85 = .ok (.return_, 1) := by decide +kernel
set_option maxRecDepth 20000 in
theorem ggX2_turnAll_X0_turned : GoodIn wsX2_turnAll wsX0_turned := goodIn_r _ [10, 11, 12, 13, 14, 15, 9, 16, 17, 18, 19, 20, 29, 30, 31, 32, 33, 34] (by decide +kernel) (by decide +kernel)
set_option maxRecDepth 20000 in
theorem gX2_turnAll_X0_turned : GoodIn wsX2_turnAll (wsV RX2 113 RX0 yX0_turned wsX0_turned) := goodIn_app (goodIn_of _ (by decide +kernel)) ggX2_turnAll_X0_turned
theorem dX2_turnAll_0 : decode cX2_turnAll 0 = .ok (.aload_n 0, 1) := by decide +kernel
theorem dX2_turnAll_1 : decode cX2_turnAll 1 = .ok (.aload_n 0, 1) := by decide +kernel
theorem dX2_turnAll_2 : decode cX2_turnAll 2 = .ok (.getfield 12, 3) := by decide +kernel
theorem dX2_turnAll_5 : decode cX2_turnAll 5 = .ok (.aload_n 0, 1) := by decide +kernel
theorem dX2_turnAll_6 : decode cX2_turnAll 6 = .ok (.getfield 18, 3) := by decide +kernel
theorem dX2_turnAll_9 : decode cX2_turnAll 9 = .ok (.iload_n 1, 1) := by decide +kernel
theorem dX2_turnAll_10 : decode cX2_turnAll 10 = .ok (.invokevirtual 113, 3) := by decide +kernel
theorem dX2_turnAll_13 : decode cX2_turnAll 13 = .ok (.putfield 18, 3) := by decide +kernel
theorem dX2_turnAll_16 : decode cX2_turnAll 16 = .ok (.iconst 0, 1) := by decide +kernel
theorem dX2_turnAll_17 : decode cX2_turnAll 17 = .ok (.istore_n 2, 1) := by decide +kernel
theorem dX2_turnAll_18 : decode cX2_turnAll 18 = .ok (.iload_n 2, 1) := by decide +kernel
theorem dX2_turnAll_19 : decode cX2_turnAll 19 = .ok (.aload_n 0, 1) := by decide +kernel
theorem dX2_turnAll_20 : decode cX2_turnAll 20 = .ok (.getfield 22, 3) := by decide +kernel
theorem dX2_turnAll_23 : decode cX2_turnAll 23 = .ok (.if_icmp .ge 29, 3) := by decide +kernel
theorem dX2_turnAll_26 : decode cX2_turnAll 26 = .ok (.aload_n 0, 1) := by decide +kernel
theorem dX2_turnAll_27 : decode cX2_turnAll 27 = .ok (.getfield 35, 3) := by decide +kernel
theorem dX2_turnAll_30 : decode cX2_turnAll 30 = .ok (.iload_n 2, 1) := by decide +kernel
theorem dX2_turnAll_31 : decode cX2_turnAll 31 = .ok (.aload_n 0, 1) := by decide +kernel
theorem dX2_turnAll_32 : decode cX2_turnAll 32 = .ok (.getfield 12, 3) := by decide +kernel
theorem dX2_turnAll_35 : decode cX2_turnAll 35 = .ok (.aload_n 0, 1) := by decide +kernel
theorem dX2_turnAll_36 : decode cX2_turnAll 36 = .ok (.getfield 35, 3) := by decide +kernel
theorem dX2_turnAll_39 : decode cX2_turnAll 39 = .ok (.iload_n 2, 1) := by decide +kernel
theorem dX2_turnAll_40 : decode cX2_turnAll 40 = .ok (.laload, 1) := by decide +kernel
theorem dX2_turnAll_41 : decode cX2_turnAll 41 = .ok (.iload_n 1, 1) := by decide +kernel
theorem dX2_turnAll_42 : decode cX2_turnAll 42 = .ok (.invokevirtual 113, 3) := by decide +kernel
theorem dX2_turnAll_45 : decode cX2_turnAll 45 = .ok (.lastore, 1) := by decide +kernel
theorem dX2_turnAll_46 : decode cX2_turnAll 46 = .ok (.iinc 2 1, 3) := by decide +kernel
theorem dX2_turnAll_49 : decode cX2_turnAll 49 = .ok (.goto (-31), 3) := by decide +kernel
theorem dX2_turnAll_52 : decode cX2_turnAll 52 = .ok (.iconst 0, 1) := by decide +kernel
theorem dX2_turnAll_53 : decode cX2_turnAll 53 = .ok (.istore_n 2, 1) := by decide +kernel
theorem dX2_turnAll_54 : decode cX2_turnAll 54 = .ok (.iload_n 2, 1) := by decide +kernel
theorem dX2_turnAll_55 : decode cX2_turnAll 55 = .ok (.iconst 4, 1) := by decide +kernel
theorem dX2_turnAll_56 : decode cX2_turnAll 56 = .ok (.if_icmp .ge 29, 3) := by decide +kernel
theorem dX2_turnAll_59 : decode cX2_turnAll 59 = .ok (.aload_n 0, 1) := by decide +kernel
theorem dX2_turnAll_60 : decode cX2_turnAll 60 = .ok (.getfield 39, 3) := by decide +kernel
theorem dX2_turnAll_63 : decode cX2_turnAll 63 = .ok (.iload_n 2, 1) := by decide +kernel
theorem dX2_turnAll_64 : decode cX2_turnAll 64 = .ok (.aload_n 0, 1) := by decide +kernel
theorem dX2_turnAll_65 : decode cX2_turnAll 65 = .ok (.getfield 12, 3) := by decide +kernel
theorem dX2_turnAll_68 : decode cX2_turnAll 68 = .ok (.aload_n 0, 1) := by decide +kernel
theorem dX2_turnAll_69 : decode cX2_turnAll 69 = .ok (.getfield 39, 3) := by decide +kernel
theorem dX2_turnAll_72 : decode cX2_turnAll 72 = .ok (.iload_n 2, 1) := by decide +kernel
theorem dX2_turnAll_73 : decode cX2_turnAll 73 = .ok (.laload, 1) := by decide +kernel
theorem dX2_turnAll_74 : decode cX2_turnAll 74 = .ok (.iload_n 1, 1) := by decide +kernel
theorem dX2_turnAll_75 : decode cX2_turnAll 75 = .ok (.invokevirtual 113, 3) := by decide +kernel
theorem dX2_turnAll_78 : decode cX2_turnAll 78 = .ok (.lastore, 1) := by decide +kernel
theorem dX2_turnAll_79 : decode cX2_turnAll 79 = .ok (.iinc 2 1, 3) := by decide +kernel
theorem dX2_turnAll_82 : decode cX2_turnAll 82 = .ok (.goto (-28), 3) := by decide +kernel
theorem dX2_turnAll_85 : decode cX2_turnAll 85 = .ok (.return_, 1) := by decide +kernel
theorem dX3_init_0 : decode cX3_init 0 = .ok (.aload_n 0, 1) := by decide +kernel
theorem dX3_init_1 : decode cX3_init 1 = .ok (.invokespecial 3, 3) := by decide +kernel
theorem dX3_init_4 : decode cX3_init 4 = .ok (.aload_n 0, 1) := by decide +kernel
theorem dX3_init_5 : decode cX3_init 5 = .ok (.iconst 1, 1) := by decide +kernel
theorem dX3_init_6 : decode cX3_init 6 = .ok (.putfield 9, 3) := by decide +kernel
theorem dX3_init_9 : decode cX3_init 9 = .ok (.aload_n 0, 1) := by decide +kernel
theorem dX3_init_10 : decode cX3_init 10 = .ok (.iconst 0, 1) := by decide +kernel
theorem dX3_init_11 : decode cX3_init 11 = .ok (.putfield 15, 3) := by decide +kernel
theorem dX3_init_14 : decode cX3_init 14 = .ok (.aload_n 0, 1) := by decide +kernel
theorem dX3_init_15 : decode cX3_init 15 = .ok (.iconst 0, 1) := by decide +kernel
theorem dX3_init_16 : decode cX3_init 16 = .ok (.putfield 18, 3) := by decide +kernel
theorem dX3_init_19 : decode cX3_init 19 = .ok (.return_, 1) := by decide +kernel
theorem dX3_become_0 : decode cX3_become 0 = .ok (.aload_n 0, 1) := by decide +kernel
theorem dX3_become_1 : decode cX3_become 1 = .ok (.iload_n 1, 1) := by decide +kernel
theorem dX3_become_2 : decode cX3_become 2 = .ok (.putfield 9, 3) := by decide +kernel
theorem dX3_become_5 : decode cX3_become 5 = .ok (.aload_n 0, 1) := by decide +kernel
theorem dX3_become_6 : decode cX3_become 6 = .ok (.iload_n 2, 1) := by decide +kernel
theorem dX3_become_7 : decode cX3_become 7 = .ok (.putfield 15, 3) := by decide +kernel
theorem dX3_become_10 : decode cX3_become 10 = .ok (.aload_n 0, 1) := by decide +kernel
theorem dX3_become_11 : decode cX3_become 11 = .ok (.iload_n 3, 1) := by decide +kernel
theorem dX3_become_12 : decode cX3_become 12 = .ok (.putfield 18, 3) := by decide +kernel
theorem dX3_become_15 : decode cX3_become 15 = .ok (.return_, 1) := by decide +kernel
theorem dX3_isOfKind_0 : decode cX3_isOfKind 0 = .ok (.iload_n 1, 1) := by decide +kernel
theorem dX3_isOfKind_1 : decode cX3_isOfKind 1 = .ok (.tableswitch 81 0 2 #[27, 29, 59], 27) := by decide +kernel
theorem dX3_isOfKind_28 : decode cX3_isOfKind 28 = .ok (.iconst 1, 1) := by decide +kernel
theorem dX3_isOfKind_29 : decode cX3_isOfKind 29 = .ok (.ireturn, 1) := by decide +kernel
theorem dX3_isOfKind_30 : decode cX3_isOfKind 30 = .ok (.aload_n 0, 1) := by decide +kernel
theorem dX3_isOfKind_31 : decode cX3_isOfKind 31 = .ok (.getfield 9, 3) := by decide +kernel
theorem dX3_isOfKind_34 : decode cX3_isOfKind 34 = .ok (.iconst 1, 1) := by decide +kernel
theorem dX3_isOfKind_35 : decode cX3_isOfKind 35 = .ok (.if_icmp .eq 19, 3) := by decide +kernel
theorem dX3_isOfKind_38 : decode cX3_isOfKind 38 = .ok (.aload_n 0, 1) := by decide +kernel
theorem dX3_isOfKind_39 : decode cX3_isOfKind 39 = .ok (.getfield 9, 3) := by decide +kernel
theorem dX3_isOfKind_42 : decode cX3_isOfKind 42 = .ok (.iconst 3, 1) := by decide +kernel
theorem dX3_isOfKind_43 : decode cX3_isOfKind 43 = .ok (.if_icmp .eq 11, 3) := by decide +kernel
theorem dX3_isOfKind_46 : decode cX3_isOfKind 46 = .ok (.aload_n 0, 1) := by decide +kernel
theorem dX3_isOfKind_47 : decode cX3_isOfKind 47 = .ok (.getfield 9, 3) := by decide +kernel
theorem dX3_isOfKind_50 : decode cX3_isOfKind 50 = .ok (.iconst 4, 1) := by decide +kernel
theorem dX3_isOfKind_51 : decode cX3_isOfKind 51 = .ok (.if_icmp .ne 7, 3) := by decide +kernel
theorem dX3_isOfKind_54 : decode cX3_isOfKind 54 = .ok (.iconst 1, 1) := by decide +kernel
theorem dX3_isOfKind_55 : decode cX3_isOfKind 55 = .ok (.goto 4, 3) := by decide +kernel
theorem dX3_isOfKind_58 : decode cX3_isOfKind 58 = .ok (.iconst 0, 1) := by decide +kernel
theorem dX3_isOfKind_59 : decode cX3_isOfKind 59 = .ok (.ireturn, 1) := by decide +kernel
theorem dX3_isOfKind_60 : decode cX3_isOfKind 60 = .ok (.aload_n 0, 1) := by decide +kernel
theorem dX3_isOfKind_61 : decode cX3_isOfKind 61 = .ok (.getfield 9, 3) := by decide +kernel
theorem dX3_isOfKind_64 : decode cX3_isOfKind 64 = .ok (.iconst 2, 1) := by decide +kernel
theorem dX3_isOfKind_65 : decode cX3_isOfKind 65 = .ok (.if_icmp .eq 11, 3) := by decide +kernel
theorem dX3_isOfKind_68 : decode cX3_isOfKind 68 = .ok (.aload_n 0, 1) := by decide +kernel
theorem dX3_isOfKind_69 : decode cX3_isOfKind 69 = .ok (.getfield 9, 3) := by decide +kernel
theorem dX3_isOfKind_72 : decode cX3_isOfKind 72 = .ok (.iconst 5, 1) := by decide +kernel
theorem dX3_isOfKind_73 : decode cX3_isOfKind 73 = .ok (.if_icmp .ne 7, 3) := by decide +kernel
theorem dX3_isOfKind_76 : decode cX3_isOfKind 76 = .ok (.iconst 1, 1) := by decide +kernel
theorem dX3_isOfKind_77 : decode cX3_isOfKind 77 = .ok (.goto 4, 3) := by decide +kernel
theorem dX3_isOfKind_80 : decode cX3_isOfKind 80 = .ok (.iconst 0, 1) := by decide +kernel
theorem dX3_isOfKind_81 : decode cX3_isOfKind 81 = .ok (.ireturn, 1) := by decide +kernel
theorem dX3_isOfKind_82 : decode cX3_isOfKind 82 = .ok (.aload_n 0, 1) := by decide +kernel
theorem dX3_isOfKind_83 : decode cX3_isOfKind 83 = .ok (.getfield 9, 3) := by decide +kernel
theorem dX3_isOfKind_86 : decode cX3_isOfKind 86 = .ok (.iload_n 1, 1) := by decide +kernel
theorem dX3_isOfKind_87 : decode cX3_isOfKind 87 = .ok (.if_icmp .ne 7, 3) := by decide +kernel
theorem dX3_isOfKind_90 : decode cX3_isOfKind 90 = .ok (.iconst 1, 1) := by decide +kernel
theorem dX3_isOfKind_91 : decode cX3_isOfKind 91 = .ok (.goto 4, 3) := by decide +kernel
theorem dX3_isOfKind_94 : decode cX3_isOfKind 94 = .ok (.iconst 0, 1) := by decide +kernel
theorem dX3_isOfKind_95 : decode cX3_isOfKind 95 = .ok (.ireturn, 1) := by decide +kernel
theorem dX3_wayAt_0 : decode cX3_wayAt 0 = .ok (.aload_n 0, 1) := by decide +kernel
theorem dX3_wayAt_1 : decode cX3_wayAt 1 = .ok (.getfield 9, 3) := by decide +kernel
theorem dX3_wayAt_4 : decode cX3_wayAt 4 = .ok (.lookupswitch 62 #[(2, 28), (5, 45)], 28) := by decide +kernel
theorem dX3_wayAt_32 : decode cX3_wayAt 32 = .ok (.iload_n 1, 1) := by decide +kernel
theorem dX3_wayAt_33 : decode cX3_wayAt 33 = .ok (.iconst 1, 1) := by decide +kernel
theorem dX3_wayAt_34 : decode cX3_wayAt 34 = .ok (.if_icmp .gt 10, 3) := by decide +kernel
theorem dX3_wayAt_37 : decode cX3_wayAt 37 = .ok (.aload_n 0, 1) := by decide +kernel
theorem dX3_wayAt_38 : decode cX3_wayAt 38 = .ok (.getfield 15, 3) := by decide +kernel
theorem dX3_wayAt_41 : decode cX3_wayAt 41 = .ok (.goto 7, 3) := by decide +kernel
theorem dX3_wayAt_44 : decode cX3_wayAt 44 = .ok (.aload_n 0, 1) := by decide +kernel
theorem dX3_wayAt_45 : decode cX3_wayAt 45 = .ok (.getfield 18, 3) := by decide +kernel
theorem dX3_wayAt_48 : decode cX3_wayAt 48 = .ok (.ireturn, 1) := by decide +kernel
theorem dX3_wayAt_49 : decode cX3_wayAt 49 = .ok (.iload_n 1, 1) := by decide +kernel
theorem dX3_wayAt_50 : decode cX3_wayAt 50 = .ok (.iconst 2, 1) := by decide +kernel
theorem dX3_wayAt_51 : decode cX3_wayAt 51 = .ok (.if_icmp .gt 10, 3) := by decide +kernel
theorem dX3_wayAt_54 : decode cX3_wayAt 54 = .ok (.aload_n 0, 1) := by decide +kernel
theorem dX3_wayAt_55 : decode cX3_wayAt 55 = .ok (.getfield 15, 3) := by decide +kernel
theorem dX3_wayAt_58 : decode cX3_wayAt 58 = .ok (.goto 7, 3) := by decide +kernel
theorem dX3_wayAt_61 : decode cX3_wayAt 61 = .ok (.aload_n 0, 1) := by decide +kernel
theorem dX3_wayAt_62 : decode cX3_wayAt 62 = .ok (.getfield 18, 3) := by decide +kernel
theorem dX3_wayAt_65 : decode cX3_wayAt 65 = .ok (.ireturn, 1) := by decide +kernel
theorem dX3_wayAt_66 : decode cX3_wayAt 66 = .ok (.aload_n 0, 1) := by decide +kernel
theorem dX3_wayAt_67 : decode cX3_wayAt 67 = .ok (.getfield 15, 3) := by decide +kernel
theorem dX3_wayAt_70 : decode cX3_wayAt 70 = .ok (.ireturn, 1) := by decide +kernel
set_option maxRecDepth 20000 in
theorem ggX3_suits_X0_rowThrough : GoodIn wsX3_suits wsX0_rowThrough := goodIn_r _ [8, 9, 10, 19, 20, 21, 22, 23, 24] (by decide +kernel) (by decide +kernel)
set_option maxRecDepth 20000 in
theorem gX3_suits_X0_rowThrough : GoodIn wsX3_suits (wsV RX3 21 RX0 yX0_rowThrough wsX0_rowThrough) := goodIn_app (goodIn_of _ (by decide +kernel)) ggX3_suits_X0_rowThrough
set_option maxRecDepth 20000 in
theorem ggX3_suits_X0_endTowards : GoodIn wsX3_suits wsX0_endTowards := goodIn_r _ [14, 15, 19, 20, 21, 22, 23, 24] (by decide +kernel) (by decide +kernel)
set_option maxRecDepth 20000 in
theorem gX3_suits_X0_endTowards : GoodIn wsX3_suits (wsV RX3 29 RX0 yX0_endTowards wsX0_endTowards) := goodIn_app (goodIn_of _ (by decide +kernel)) ggX3_suits_X0_endTowards
theorem dX3_suits_0 : decode cX3_suits 0 = .ok (.aload_n 0, 1) := by decide +kernel
theorem dX3_suits_1 : decode cX3_suits 1 = .ok (.getfield 9, 3) := by decide +kernel
theorem dX3_suits_4 : decode cX3_suits 4 = .ok (.lookupswitch 80 #[(3, 28), (4, 59)], 28) := by decide +kernel
theorem dX3_suits_32 : decode cX3_suits 32 = .ok (.lload_n 2, 1) := by decide +kernel
theorem dX3_suits_33 : decode cX3_suits 33 = .ok (.aload_n 1, 1) := by decide +kernel
theorem dX3_suits_34 : decode cX3_suits 34 = .ok (.lload_n 2, 1) := by decide +kernel
theorem dX3_suits_35 : decode cX3_suits 35 = .ok (.lload_n 2, 1) := by decide +kernel
theorem dX3_suits_36 : decode cX3_suits 36 = .ok (.lneg, 1) := by decide +kernel
theorem dX3_suits_37 : decode cX3_suits 37 = .ok (.land, 1) := by decide +kernel
theorem dX3_suits_38 : decode cX3_suits 38 = .ok (.aload_n 0, 1) := by decide +kernel
theorem dX3_suits_39 : decode cX3_suits 39 = .ok (.getfield 15, 3) := by decide +kernel
theorem dX3_suits_42 : decode cX3_suits 42 = .ok (.iconst 1, 1) := by decide +kernel
theorem dX3_suits_43 : decode cX3_suits 43 = .ok (.ishr, 1) := by decide +kernel
theorem dX3_suits_44 : decode cX3_suits 44 = .ok (.invokevirtual 21, 3) := by decide +kernel
theorem dX3_suits_47 : decode cX3_suits 47 = .ok (.ldc2_w 27, 3) := by decide +kernel
theorem dX3_suits_50 : decode cX3_suits 50 = .ok (.lxor, 1) := by decide +kernel
theorem dX3_suits_51 : decode cX3_suits 51 = .ok (.land, 1) := by decide +kernel
theorem dX3_suits_52 : decode cX3_suits 52 = .ok (.lconst 0, 1) := by decide +kernel
theorem dX3_suits_53 : decode cX3_suits 53 = .ok (.lcmp, 1) := by decide +kernel
theorem dX3_suits_54 : decode cX3_suits 54 = .ok (.ifCond .ne 7, 3) := by decide +kernel
theorem dX3_suits_57 : decode cX3_suits 57 = .ok (.iconst 1, 1) := by decide +kernel
theorem dX3_suits_58 : decode cX3_suits 58 = .ok (.goto 4, 3) := by decide +kernel
theorem dX3_suits_61 : decode cX3_suits 61 = .ok (.iconst 0, 1) := by decide +kernel
theorem dX3_suits_62 : decode cX3_suits 62 = .ok (.ireturn, 1) := by decide +kernel
theorem dX3_suits_63 : decode cX3_suits 63 = .ok (.lload_n 2, 1) := by decide +kernel
theorem dX3_suits_64 : decode cX3_suits 64 = .ok (.aload_n 1, 1) := by decide +kernel
theorem dX3_suits_65 : decode cX3_suits 65 = .ok (.aload_n 0, 1) := by decide +kernel
theorem dX3_suits_66 : decode cX3_suits 66 = .ok (.getfield 15, 3) := by decide +kernel
theorem dX3_suits_69 : decode cX3_suits 69 = .ok (.invokevirtual 29, 3) := by decide +kernel
theorem dX3_suits_72 : decode cX3_suits 72 = .ok (.land, 1) := by decide +kernel
theorem dX3_suits_73 : decode cX3_suits 73 = .ok (.lconst 0, 1) := by decide +kernel
theorem dX3_suits_74 : decode cX3_suits 74 = .ok (.lcmp, 1) := by decide +kernel
theorem dX3_suits_75 : decode cX3_suits 75 = .ok (.ifCond .eq 7, 3) := by decide +kernel
theorem dX3_suits_78 : decode cX3_suits 78 = .ok (.iconst 1, 1) := by decide +kernel
theorem dX3_suits_79 : decode cX3_suits 79 = .ok (.goto 4, 3) := by decide +kernel
theorem dX3_suits_82 : decode cX3_suits 82 = .ok (.iconst 0, 1) := by decide +kernel
theorem dX3_suits_83 : decode cX3_suits 83 = .ok (.ireturn, 1) := by decide +kernel
theorem dX3_suits_84 : decode cX3_suits 84 = .ok (.iconst 1, 1) := by decide +kernel
theorem dX3_suits_85 : decode cX3_suits 85 = .ok (.ireturn, 1) := by decide +kernel
set_option maxRecDepth 20000 in
theorem ggX3_takes_X3_suits : GoodIn wsX3_takes wsX3_suits := goodIn_r _ [5, 6, 7, 8, 9, 10, 11, 12, 13, 14, 15, 16, 17, 18, 19, 20, 32, 33, 34, 35, 36, 37, 38, 39, 40] (by decide +kernel) (by decide +kernel)
set_option maxRecDepth 20000 in
theorem gX3_takes_X3_suits : GoodIn wsX3_takes (wsV RX3 33 RX3 yX3_suits wsX3_suits) := goodIn_app (goodIn_of _ (by decide +kernel)) ggX3_takes_X3_suits
set_option maxRecDepth 20000 in
theorem ggX3_takes_X3_wayAt : GoodIn wsX3_takes wsX3_wayAt := goodIn_r _ [24, 6, 7, 25, 32, 33, 34] (by decide +kernel) (by decide +kernel)
set_option maxRecDepth 20000 in
theorem gX3_takes_X3_wayAt : GoodIn wsX3_takes (wsV RX3 37 RX3 yX3_wayAt wsX3_wayAt) := goodIn_app (goodIn_of _ (by decide +kernel)) ggX3_takes_X3_wayAt
set_option maxRecDepth 20000 in
theorem ggX3_takes_X0_shifted : GoodIn wsX3_takes wsX0_shifted := goodIn_r _ [29, 20, 30, 31, 35, 36, 37, 38, 39, 40] (by decide +kernel) (by decide +kernel)
set_option maxRecDepth 20000 in
theorem gX3_takes_X0_shifted : GoodIn wsX3_takes (wsV RX3 41 RX0 yX0_shifted wsX0_shifted) := goodIn_app (goodIn_of _ (by decide +kernel)) ggX3_takes_X0_shifted
theorem dX3_takes_0 : decode cX3_takes 0 = .ok (.lload_n 2, 1) := by decide +kernel
theorem dX3_takes_1 : decode cX3_takes 1 = .ok (.lconst 0, 1) := by decide +kernel
theorem dX3_takes_2 : decode cX3_takes 2 = .ok (.lcmp, 1) := by decide +kernel
theorem dX3_takes_3 : decode cX3_takes 3 = .ok (.ifCond .eq 14, 3) := by decide +kernel
theorem dX3_takes_6 : decode cX3_takes 6 = .ok (.aload_n 0, 1) := by decide +kernel
theorem dX3_takes_7 : decode cX3_takes 7 = .ok (.aload_n 1, 1) := by decide +kernel
theorem dX3_takes_8 : decode cX3_takes 8 = .ok (.lload_n 2, 1) := by decide +kernel
theorem dX3_takes_9 : decode cX3_takes 9 = .ok (.invokevirtual 33, 3) := by decide +kernel
theorem dX3_takes_12 : decode cX3_takes 12 = .ok (.ifCond .ne 5, 3) := by decide +kernel
theorem dX3_takes_15 : decode cX3_takes 15 = .ok (.iconst 0, 1) := by decide +kernel
theorem dX3_takes_16 : decode cX3_takes 16 = .ok (.ireturn, 1) := by decide +kernel
theorem dX3_takes_17 : decode cX3_takes 17 = .ok (.lload_n 2, 1) := by decide +kernel
theorem dX3_takes_18 : decode cX3_takes 18 = .ok (.lstore 6, 2) := by decide +kernel
theorem dX3_takes_20 : decode cX3_takes 20 = .ok (.iconst 1, 1) := by decide +kernel
theorem dX3_takes_21 : decode cX3_takes 21 = .ok (.istore 8, 2) := by decide +kernel
theorem dX3_takes_23 : decode cX3_takes 23 = .ok (.iload 8, 2) := by decide +kernel
theorem dX3_takes_25 : decode cX3_takes 25 = .ok (.bipush 9, 2) := by decide +kernel
theorem dX3_takes_27 : decode cX3_takes 27 = .ok (.if_icmp .gt 42, 3) := by decide +kernel
theorem dX3_takes_30 : decode cX3_takes 30 = .ok (.lload 6, 2) := by decide +kernel
theorem dX3_takes_32 : decode cX3_takes 32 = .ok (.lconst 0, 1) := by decide +kernel
theorem dX3_takes_33 : decode cX3_takes 33 = .ok (.lcmp, 1) := by decide +kernel
theorem dX3_takes_34 : decode cX3_takes 34 = .ok (.ifCond .eq 35, 3) := by decide +kernel
theorem dX3_takes_37 : decode cX3_takes 37 = .ok (.aload_n 1, 1) := by decide +kernel
theorem dX3_takes_38 : decode cX3_takes 38 = .ok (.lload 6, 2) := by decide +kernel
theorem dX3_takes_40 : decode cX3_takes 40 = .ok (.aload_n 0, 1) := by decide +kernel
theorem dX3_takes_41 : decode cX3_takes 41 = .ok (.iload 8, 2) := by decide +kernel
theorem dX3_takes_43 : decode cX3_takes 43 = .ok (.invokevirtual 37, 3) := by decide +kernel
theorem dX3_takes_46 : decode cX3_takes 46 = .ok (.invokevirtual 41, 3) := by decide +kernel
theorem dX3_takes_49 : decode cX3_takes 49 = .ok (.lstore 6, 2) := by decide +kernel
theorem dX3_takes_51 : decode cX3_takes 51 = .ok (.lload 6, 2) := by decide +kernel
theorem dX3_takes_53 : decode cX3_takes 53 = .ok (.lload 4, 2) := by decide +kernel
theorem dX3_takes_55 : decode cX3_takes 55 = .ok (.land, 1) := by decide +kernel
theorem dX3_takes_56 : decode cX3_takes 56 = .ok (.lconst 0, 1) := by decide +kernel
theorem dX3_takes_57 : decode cX3_takes 57 = .ok (.lcmp, 1) := by decide +kernel
theorem dX3_takes_58 : decode cX3_takes 58 = .ok (.ifCond .eq 5, 3) := by decide +kernel
theorem dX3_takes_61 : decode cX3_takes 61 = .ok (.iconst 0, 1) := by decide +kernel
theorem dX3_takes_62 : decode cX3_takes 62 = .ok (.ireturn, 1) := by decide +kernel
theorem dX3_takes_63 : decode cX3_takes 63 = .ok (.iinc 8 1, 3) := by decide +kernel
theorem dX3_takes_66 : decode cX3_takes 66 = .ok (.goto (-43), 3) := by decide +kernel
theorem dX3_takes_69 : decode cX3_takes 69 = .ok (.iconst 1, 1) := by decide +kernel
theorem dX3_takes_70 : decode cX3_takes 70 = .ok (.ireturn, 1) := by decide +kernel
set_option maxRecDepth 20000 in
theorem ggX3_carried_X3_wayAt : GoodIn wsX3_carried wsX3_wayAt := goodIn_r _ [5, 6, 7, 8, 17, 18, 19] (by decide +kernel) (by decide +kernel)
set_option maxRecDepth 20000 in
theorem gX3_carried_X3_wayAt : GoodIn wsX3_carried (wsV RX3 37 RX3 yX3_wayAt wsX3_wayAt) := goodIn_app (goodIn_of _ (by decide +kernel)) ggX3_carried_X3_wayAt
set_option maxRecDepth 20000 in
theorem ggX3_carried_X0_shifted : GoodIn wsX3_carried wsX0_shifted := goodIn_r _ [13, 14, 15, 16, 20, 21, 22, 23, 24, 25] (by decide +kernel) (by decide +kernel)
set_option maxRecDepth 20000 in
theorem gX3_carried_X0_shifted : GoodIn wsX3_carried (wsV RX3 41 RX0 yX0_shifted wsX0_shifted) := goodIn_app (goodIn_of _ (by decide +kernel)) ggX3_carried_X0_shifted
theorem dX3_carried_0 : decode cX3_carried 0 = .ok (.lload_n 2, 1) := by decide +kernel
theorem dX3_carried_1 : decode cX3_carried 1 = .ok (.lstore 5, 2) := by decide +kernel
theorem dX3_carried_3 : decode cX3_carried 3 = .ok (.iconst 1, 1) := by decide +kernel
theorem dX3_carried_4 : decode cX3_carried 4 = .ok (.istore 7, 2) := by decide +kernel
theorem dX3_carried_6 : decode cX3_carried 6 = .ok (.iload 7, 2) := by decide +kernel
theorem dX3_carried_8 : decode cX3_carried 8 = .ok (.iload 4, 2) := by decide +kernel
theorem dX3_carried_10 : decode cX3_carried 10 = .ok (.if_icmp .gt 23, 3) := by decide +kernel
theorem dX3_carried_13 : decode cX3_carried 13 = .ok (.aload_n 1, 1) := by decide +kernel
theorem dX3_carried_14 : decode cX3_carried 14 = .ok (.lload 5, 2) := by decide +kernel
theorem dX3_carried_16 : decode cX3_carried 16 = .ok (.aload_n 0, 1) := by decide +kernel
theorem dX3_carried_17 : decode cX3_carried 17 = .ok (.iload 7, 2) := by decide +kernel
theorem dX3_carried_19 : decode cX3_carried 19 = .ok (.invokevirtual 37, 3) := by decide +kernel
theorem dX3_carried_22 : decode cX3_carried 22 = .ok (.invokevirtual 41, 3) := by decide +kernel
theorem dX3_carried_25 : decode cX3_carried 25 = .ok (.lstore 5, 2) := by decide +kernel
theorem dX3_carried_27 : decode cX3_carried 27 = .ok (.iinc 7 1, 3) := by decide +kernel
theorem dX3_carried_30 : decode cX3_carried 30 = .ok (.goto (-24), 3) := by decide +kernel
theorem dX3_carried_33 : decode cX3_carried 33 = .ok (.lload 5, 2) := by decide +kernel
theorem dX3_carried_35 : decode cX3_carried 35 = .ok (.lreturn, 1) := by decide +kernel
set_option maxRecDepth 20000 in
theorem ggX4_readAll_X7_rewind : GoodIn wsX4_readAll wsX7_rewind := goodIn_r _ [6, 7, 8, 9, 10, 5, 11, 12, 13, 14, 15, 16, 17, 18, 178, 179, 180, 181, 182] (by decide +kernel) (by decide +kernel)
set_option maxRecDepth 20000 in
theorem gX4_readAll_X7_rewind : GoodIn wsX4_readAll (wsV RX4 9 RX7 yX7_rewind wsX7_rewind) := goodIn_app (goodIn_of _ (by decide +kernel)) ggX4_readAll_X7_rewind
set_option maxRecDepth 20000 in
theorem ggX4_readAll_X4_statement : GoodIn wsX4_readAll wsX4_statement := goodIn_r _ [22, 23, 24, 25, 26, 5, 27, 15, 7, 12, 14, 28, 29, 30, 31, 32, 33, 34, 35, 36, 37, 38, 39, 40, 41, 42, 43, 44, 45, 46, 47, 48, 49, 50, 51, 52, 53, 54, 55, 56, 57, 58, 59, 60, 61, 62, 63, 64, 65, 66, 67, 68, 69, 70, 71, 72, 73, 74, 75, 76, 77, 78, 21, 79, 80, 9, 10, 11, 13, 16, 17, 18, 81, 82, 83, 84, 85, 86, 87, 88, 89, 90, 91, 92, 93, 94, 95, 96, 97, 98, 99, 100, 101, 102, 103, 104, 105, 106, 107, 108, 109, 110, 111, 112, 113, 114, 115, 116, 117, 118, 119, 120, 121, 122, 123, 124, 125, 126, 127, 128, 129, 130, 131, 132, 133, 134, 135, 136, 137, 138, 139, 140, 141, 142, 143, 144, 145, 146, 147, 148, 149, 150, 151, 152, 153, 154, 155, 156, 157, 158, 159, 160, 161, 162, 163, 164, 165, 166, 167, 168, 169, 170, 171, 172, 173, 174, 175, 176, 177, 183, 184, 185, 186, 187, 188, 189, 190, 178, 179, 180, 181, 182, 191, 192, 193, 194, 195, 196] (by decide +kernel) (by decide +kernel)
set_option maxRecDepth 20000 in
theorem gX4_readAll_X4_statement : GoodIn wsX4_readAll (va_wsS RX4 14 yX4_statement wsX4_statement) := goodIn_app (goodIn_of _ (by decide +kernel)) ggX4_readAll_X4_statement
set_option maxRecDepth 20000 in
theorem ggX4_readAll_X7_advance : GoodIn wsX4_readAll wsX7_advance := goodIn_r _ [11, 7, 12, 13, 14, 15, 16, 17, 5, 18, 178, 179, 180, 181, 182] (by decide +kernel) (by decide +kernel)
set_option maxRecDepth 20000 in
theorem gX4_readAll_X7_advance : GoodIn wsX4_readAll (wsV RX4 24 RX7 yX7_advance wsX7_advance) := goodIn_app (goodIn_of _ (by decide +kernel)) ggX4_readAll_X7_advance
theorem dX4_readAll_0 : decode cX4_readAll 0 = .ok (.aload_n 0, 1) := by decide +kernel
theorem dX4_readAll_1 : decode cX4_readAll 1 = .ok (.invokevirtual 9, 3) := by decide +kernel
theorem dX4_readAll_4 : decode cX4_readAll 4 = .ok (.iconst 1, 1) := by decide +kernel
theorem dX4_readAll_5 : decode cX4_readAll 5 = .ok (.istore_n 2, 1) := by decide +kernel
theorem dX4_readAll_6 : decode cX4_readAll 6 = .ok (.iload_n 2, 1) := by decide +kernel
theorem dX4_readAll_7 : decode cX4_readAll 7 = .ok (.sipush 250, 3) := by decide +kernel
theorem dX4_readAll_10 : decode cX4_readAll 10 = .ok (.if_icmp .gt 42, 3) := by decide +kernel
theorem dX4_readAll_13 : decode cX4_readAll 13 = .ok (.aload_n 0, 1) := by decide +kernel
theorem dX4_readAll_14 : decode cX4_readAll 14 = .ok (.aload_n 1, 1) := by decide +kernel
theorem dX4_readAll_15 : decode cX4_readAll 15 = .ok (.invokestatic 14, 3) := by decide +kernel
theorem dX4_readAll_18 : decode cX4_readAll 18 = .ok (.ifCond .ne 5, 3) := by decide +kernel
theorem dX4_readAll_21 : decode cX4_readAll 21 = .ok (.iconst (-1), 1) := by decide +kernel
theorem dX4_readAll_22 : decode cX4_readAll 22 = .ok (.ireturn, 1) := by decide +kernel
theorem dX4_readAll_23 : decode cX4_readAll 23 = .ok (.aload_n 0, 1) := by decide +kernel
theorem dX4_readAll_24 : decode cX4_readAll 24 = .ok (.getfield 20, 3) := by decide +kernel
theorem dX4_readAll_27 : decode cX4_readAll 27 = .ok (.ifCond .ne 5, 3) := by decide +kernel
theorem dX4_readAll_30 : decode cX4_readAll 30 = .ok (.iload_n 2, 1) := by decide +kernel
theorem dX4_readAll_31 : decode cX4_readAll 31 = .ok (.ireturn, 1) := by decide +kernel
theorem dX4_readAll_32 : decode cX4_readAll 32 = .ok (.aload_n 0, 1) := by decide +kernel
theorem dX4_readAll_33 : decode cX4_readAll 33 = .ok (.getfield 20, 3) := by decide +kernel
theorem dX4_readAll_36 : decode cX4_readAll 36 = .ok (.iconst 3, 1) := by decide +kernel
theorem dX4_readAll_37 : decode cX4_readAll 37 = .ok (.if_icmp .eq 5, 3) := by decide +kernel
theorem dX4_readAll_40 : decode cX4_readAll 40 = .ok (.iconst (-1), 1) := by decide +kernel
theorem dX4_readAll_41 : decode cX4_readAll 41 = .ok (.ireturn, 1) := by decide +kernel
theorem dX4_readAll_42 : decode cX4_readAll 42 = .ok (.aload_n 0, 1) := by decide +kernel
theorem dX4_readAll_43 : decode cX4_readAll 43 = .ok (.invokevirtual 24, 3) := by decide +kernel
theorem dX4_readAll_46 : decode cX4_readAll 46 = .ok (.iinc 2 1, 3) := by decide +kernel
theorem dX4_readAll_49 : decode cX4_readAll 49 = .ok (.goto (-43), 3) := by decide +kernel
theorem dX4_readAll_52 : decode cX4_readAll 52 = .ok (.iconst (-1), 1) := by decide +kernel
theorem dX4_readAll_53 : decode cX4_readAll 53 = .ok (.ireturn, 1) := by decide +kernel
set_option maxRecDepth 20000 in
theorem ggX4_statement_X7_isWord : GoodIn wsX4_statement wsX7_isWord := goodIn_r _ [6, 7, 8, 9, 10, 11, 12, 13, 14, 15, 16, 17, 18, 19, 20, 21, 22, 23, 24, 25, 26, 27, 28, 29, 30, 31, 32, 33, 34, 35, 36, 37, 38, 39, 40, 41, 42, 43, 44, 45, 46, 47, 48, 49, 50, 51, 52, 53, 54, 55, 56, 57, 58, 59, 177, 178, 179, 180, 181] (by decide +kernel) (by decide +kernel)
set_option maxRecDepth 20000 in
theorem gX4_statement_X7_isWord : GoodIn wsX4_statement (wsV RX4 29 RX7 yX7_isWord wsX7_isWord) := goodIn_app (goodIn_of _ (by decide +kernel)) ggX4_statement_X7_isWord
set_option maxRecDepth 20000 in
theorem ggX4_statement_X4_readSize : GoodIn wsX4_statement wsX4_readSize := goodIn_r _ [63, 64, 65, 66, 5, 67, 8, 9, 68, 10, 7, 69, 70, 71, 72, 73, 62, 74, 75, 76, 77, 78, 79, 80, 81, 82, 83, 84, 85, 86, 87, 88, 89, 90, 91, 92, 93, 94, 95, 96, 97, 98, 99, 100, 101, 102, 103, 104, 105, 106, 107, 108, 109, 110, 111, 112, 113, 114, 177, 178, 179, 180, 181, 169, 170, 171, 172, 173, 174, 175, 176, 182, 183, 184, 185, 186, 187] (by decide +kernel) (by decide +kernel)
set_option maxRecDepth 20000 in
theorem gX4_statement_X4_readSize : GoodIn wsX4_statement (va_wsS RX4 33 yX4_readSize wsX4_readSize) := goodIn_app (goodIn_of _ (by decide +kernel)) ggX4_statement_X4_readSize
set_option maxRecDepth 20000 in
theorem ggX4_statement_X4_readBox : GoodIn wsX4_statement wsX4_readBox := goodIn_r _ [117, 118, 119, 120, 121, 64, 65, 66, 5, 67, 8, 9, 68, 10, 7, 69, 70, 71, 72, 73, 62, 74, 75, 76, 77, 78, 2, 3, 4, 6, 11, 12, 13, 14, 15, 16, 17, 18, 19, 20, 21, 22, 23, 24, 25, 26, 27, 28, 29, 30, 31, 32, 33, 34, 35, 36, 37, 38, 39, 40, 41, 42, 43, 44, 45, 46, 47, 48, 49, 50, 51, 52, 53, 54, 55, 56, 57, 58, 59, 122, 123, 124, 91, 125, 96, 126, 127, 128, 129, 130, 131, 132, 95, 133, 134, 135, 136, 93, 104, 105, 106, 107, 98, 137, 138, 139, 140, 141, 142, 143, 82, 144, 112, 145, 169, 170, 171, 172, 173, 174, 175, 176, 182, 183, 184, 185, 186, 187, 177, 178, 179, 180, 181] (by decide +kernel) (by decide +kernel)
set_option maxRecDepth 20000 in
theorem gX4_statement_X4_readBox : GoodIn wsX4_statement (va_wsS RX4 38 yX4_readBox wsX4_readBox) := goodIn_app (goodIn_of _ (by decide +kernel)) ggX4_statement_X4_readBox
set_option maxRecDepth 20000 in
theorem ggX4_statement_X4_readPiece : GoodIn wsX4_statement wsX4_readPiece := goodIn_r _ [148, 1, 149, 150, 151, 82, 152, 112, 145, 64, 65, 66, 5, 67, 8, 9, 68, 10, 7, 69, 70, 71, 169, 170, 171, 172, 173, 174, 175, 176, 177, 178, 179, 180, 181] (by decide +kernel) (by decide +kernel)
set_option maxRecDepth 20000 in
theorem gX4_statement_X4_readPiece : GoodIn wsX4_statement (va_wsS RX4 46 yX4_readPiece wsX4_readPiece) := goodIn_app (goodIn_of _ (by decide +kernel)) ggX4_statement_X4_readPiece
set_option maxRecDepth 20000 in
theorem ggX4_statement_X4_readShows : GoodIn wsX4_statement wsX4_readShows := goodIn_r _ [155, 118, 119, 64, 65, 66, 5, 67, 8, 9, 68, 10, 7, 69, 70, 71, 72, 73, 62, 74, 75, 76, 77, 78, 156, 157, 158, 82, 159, 86, 160, 169, 170, 171, 172, 173, 174, 175, 176, 182, 183, 184, 185, 186, 187, 177, 178, 179, 180, 181] (by decide +kernel) (by decide +kernel)
set_option maxRecDepth 20000 in
theorem gX4_statement_X4_readShows : GoodIn wsX4_statement (va_wsS RX4 58 yX4_readShows wsX4_readShows) := goodIn_app (goodIn_of _ (by decide +kernel)) ggX4_statement_X4_readShows
set_option maxRecDepth 20000 in
theorem ggX4_statement_X4_readHeavy : GoodIn wsX4_statement wsX4_readHeavy := goodIn_r _ [163, 164, 64, 65, 66, 5, 67, 8, 9, 68, 10, 7, 69, 70, 71, 72, 73, 62, 74, 75, 76, 77, 78, 169, 170, 171, 172, 173, 174, 175, 176, 177, 178, 179, 180, 181] (by decide +kernel) (by decide +kernel)
set_option maxRecDepth 20000 in
theorem gX4_statement_X4_readHeavy : GoodIn wsX4_statement (va_wsS RX4 63 yX4_readHeavy wsX4_readHeavy) := goodIn_app (goodIn_of _ (by decide +kernel)) ggX4_statement_X4_readHeavy
set_option maxRecDepth 20000 in
theorem ggX4_statement_X4_readWear : GoodIn wsX4_statement wsX4_readWear := goodIn_r _ [167, 168, 64, 65, 66, 5, 67, 8, 9, 68, 10, 7, 69, 70, 71, 72, 73, 62, 74, 75, 76, 77, 78, 169, 170, 171, 172, 173, 174, 175, 176, 177, 178, 179, 180, 181] (by decide +kernel) (by decide +kernel)
set_option maxRecDepth 20000 in
theorem gX4_statement_X4_readWear : GoodIn wsX4_statement (va_wsS RX4 68 yX4_readWear wsX4_readWear) := goodIn_app (goodIn_of _ (by decide +kernel)) ggX4_statement_X4_readWear
theorem dX4_statement_0 : decode cX4_statement 0 = .ok (.aload_n 0, 1) := by decide +kernel
theorem dX4_statement_1 : decode cX4_statement 1 = .ok (.ldc 27, 2) := by decide +kernel
theorem dX4_statement_3 : decode cX4_statement 3 = .ok (.invokevirtual 29, 3) := by decide +kernel
theorem dX4_statement_6 : decode cX4_statement 6 = .ok (.ifCond .eq 9, 3) := by decide +kernel
theorem dX4_statement_9 : decode cX4_statement 9 = .ok (.aload_n 0, 1) := by decide +kernel
theorem dX4_statement_10 : decode cX4_statement 10 = .ok (.aload_n 1, 1) := by decide +kernel
theorem dX4_statement_11 : decode cX4_statement 11 = .ok (.invokestatic 33, 3) := by decide +kernel
theorem dX4_statement_14 : decode cX4_statement 14 = .ok (.ireturn, 1) := by decide +kernel
theorem dX4_statement_15 : decode cX4_statement 15 = .ok (.aload_n 0, 1) := by decide +kernel
theorem dX4_statement_16 : decode cX4_statement 16 = .ok (.ldc 36, 2) := by decide +kernel
theorem dX4_statement_18 : decode cX4_statement 18 = .ok (.invokevirtual 29, 3) := by decide +kernel
theorem dX4_statement_21 : decode cX4_statement 21 = .ok (.ifCond .eq 10, 3) := by decide +kernel
theorem dX4_statement_24 : decode cX4_statement 24 = .ok (.aload_n 0, 1) := by decide +kernel
theorem dX4_statement_25 : decode cX4_statement 25 = .ok (.aload_n 1, 1) := by decide +kernel
theorem dX4_statement_26 : decode cX4_statement 26 = .ok (.iconst 0, 1) := by decide +kernel
theorem dX4_statement_27 : decode cX4_statement 27 = .ok (.invokestatic 38, 3) := by decide +kernel
theorem dX4_statement_30 : decode cX4_statement 30 = .ok (.ireturn, 1) := by decide +kernel
theorem dX4_statement_31 : decode cX4_statement 31 = .ok (.aload_n 0, 1) := by decide +kernel
theorem dX4_statement_32 : decode cX4_statement 32 = .ok (.ldc 42, 2) := by decide +kernel
theorem dX4_statement_34 : decode cX4_statement 34 = .ok (.invokevirtual 29, 3) := by decide +kernel
theorem dX4_statement_37 : decode cX4_statement 37 = .ok (.ifCond .eq 10, 3) := by decide +kernel
theorem dX4_statement_40 : decode cX4_statement 40 = .ok (.aload_n 0, 1) := by decide +kernel
theorem dX4_statement_41 : decode cX4_statement 41 = .ok (.aload_n 1, 1) := by decide +kernel
theorem dX4_statement_42 : decode cX4_statement 42 = .ok (.iconst 1, 1) := by decide +kernel
theorem dX4_statement_43 : decode cX4_statement 43 = .ok (.invokestatic 38, 3) := by decide +kernel
theorem dX4_statement_46 : decode cX4_statement 46 = .ok (.ireturn, 1) := by decide +kernel
theorem dX4_statement_47 : decode cX4_statement 47 = .ok (.aload_n 0, 1) := by decide +kernel
theorem dX4_statement_48 : decode cX4_statement 48 = .ok (.ldc 44, 2) := by decide +kernel
theorem dX4_statement_50 : decode cX4_statement 50 = .ok (.invokevirtual 29, 3) := by decide +kernel
theorem dX4_statement_53 : decode cX4_statement 53 = .ok (.ifCond .eq 9, 3) := by decide +kernel
theorem dX4_statement_56 : decode cX4_statement 56 = .ok (.aload_n 0, 1) := by decide +kernel
theorem dX4_statement_57 : decode cX4_statement 57 = .ok (.aload_n 1, 1) := by decide +kernel
theorem dX4_statement_58 : decode cX4_statement 58 = .ok (.invokestatic 46, 3) := by decide +kernel
theorem dX4_statement_61 : decode cX4_statement 61 = .ok (.ireturn, 1) := by decide +kernel
theorem dX4_statement_62 : decode cX4_statement 62 = .ok (.aload_n 0, 1) := by decide +kernel
theorem dX4_statement_63 : decode cX4_statement 63 = .ok (.ldc 49, 2) := by decide +kernel
theorem dX4_statement_65 : decode cX4_statement 65 = .ok (.invokevirtual 29, 3) := by decide +kernel
theorem dX4_statement_68 : decode cX4_statement 68 = .ok (.ifCond .eq 25, 3) := by decide +kernel
theorem dX4_statement_71 : decode cX4_statement 71 = .ok (.aload_n 1, 1) := by decide +kernel
theorem dX4_statement_72 : decode cX4_statement 72 = .ok (.getfield 51, 3) := by decide +kernel
theorem dX4_statement_75 : decode cX4_statement 75 = .ok (.ifCond .le 16, 3) := by decide +kernel
theorem dX4_statement_78 : decode cX4_statement 78 = .ok (.aload_n 0, 1) := by decide +kernel
theorem dX4_statement_79 : decode cX4_statement 79 = .ok (.aload_n 1, 1) := by decide +kernel
theorem dX4_statement_80 : decode cX4_statement 80 = .ok (.iconst 2, 1) := by decide +kernel
theorem dX4_statement_81 : decode cX4_statement 81 = .ok (.invokestatic 38, 3) := by decide +kernel
theorem dX4_statement_84 : decode cX4_statement 84 = .ok (.ifCond .eq 7, 3) := by decide +kernel
theorem dX4_statement_87 : decode cX4_statement 87 = .ok (.iconst 1, 1) := by decide +kernel
theorem dX4_statement_88 : decode cX4_statement 88 = .ok (.goto 4, 3) := by decide +kernel
theorem dX4_statement_91 : decode cX4_statement 91 = .ok (.iconst 0, 1) := by decide +kernel
theorem dX4_statement_92 : decode cX4_statement 92 = .ok (.ireturn, 1) := by decide +kernel
theorem dX4_statement_93 : decode cX4_statement 93 = .ok (.aload_n 0, 1) := by decide +kernel
theorem dX4_statement_94 : decode cX4_statement 94 = .ok (.ldc 56, 2) := by decide +kernel
theorem dX4_statement_96 : decode cX4_statement 96 = .ok (.invokevirtual 29, 3) := by decide +kernel
theorem dX4_statement_99 : decode cX4_statement 99 = .ok (.ifCond .eq 9, 3) := by decide +kernel
theorem dX4_statement_102 : decode cX4_statement 102 = .ok (.aload_n 0, 1) := by decide +kernel
theorem dX4_statement_103 : decode cX4_statement 103 = .ok (.aload_n 1, 1) := by decide +kernel
theorem dX4_statement_104 : decode cX4_statement 104 = .ok (.invokestatic 58, 3) := by decide +kernel
theorem dX4_statement_107 : decode cX4_statement 107 = .ok (.ireturn, 1) := by decide +kernel
theorem dX4_statement_108 : decode cX4_statement 108 = .ok (.aload_n 0, 1) := by decide +kernel
theorem dX4_statement_109 : decode cX4_statement 109 = .ok (.ldc 61, 2) := by decide +kernel
theorem dX4_statement_111 : decode cX4_statement 111 = .ok (.invokevirtual 29, 3) := by decide +kernel
theorem dX4_statement_114 : decode cX4_statement 114 = .ok (.ifCond .eq 9, 3) := by decide +kernel
theorem dX4_statement_117 : decode cX4_statement 117 = .ok (.aload_n 0, 1) := by decide +kernel
theorem dX4_statement_118 : decode cX4_statement 118 = .ok (.aload_n 1, 1) := by decide +kernel
theorem dX4_statement_119 : decode cX4_statement 119 = .ok (.invokestatic 63, 3) := by decide +kernel
theorem dX4_statement_122 : decode cX4_statement 122 = .ok (.ireturn, 1) := by decide +kernel
theorem dX4_statement_123 : decode cX4_statement 123 = .ok (.aload_n 0, 1) := by decide +kernel
theorem dX4_statement_124 : decode cX4_statement 124 = .ok (.ldc 66, 2) := by decide +kernel
theorem dX4_statement_126 : decode cX4_statement 126 = .ok (.invokevirtual 29, 3) := by decide +kernel
theorem dX4_statement_129 : decode cX4_statement 129 = .ok (.ifCond .eq 15, 3) := by decide +kernel
theorem dX4_statement_132 : decode cX4_statement 132 = .ok (.aload_n 0, 1) := by decide +kernel
theorem dX4_statement_133 : decode cX4_statement 133 = .ok (.aload_n 1, 1) := by decide +kernel
theorem dX4_statement_134 : decode cX4_statement 134 = .ok (.invokestatic 68, 3) := by decide +kernel
theorem dX4_statement_137 : decode cX4_statement 137 = .ok (.ifCond .eq 7, 3) := by decide +kernel
theorem dX4_statement_140 : decode cX4_statement 140 = .ok (.iconst 1, 1) := by decide +kernel
theorem dX4_statement_141 : decode cX4_statement 141 = .ok (.goto 4, 3) := by decide +kernel
theorem dX4_statement_144 : decode cX4_statement 144 = .ok (.iconst 0, 1) := by decide +kernel
theorem dX4_statement_145 : decode cX4_statement 145 = .ok (.ireturn, 1) := by decide +kernel
set_option maxRecDepth 20000 in
theorem ggX4_numberWithin_X7_number : GoodIn wsX4_numberWithin wsX7_number := goodIn_r _ [5, 6, 7, 8, 9, 18, 19, 20, 21, 22] (by decide +kernel) (by decide +kernel)
set_option maxRecDepth 20000 in
theorem gX4_numberWithin_X7_number : GoodIn wsX4_numberWithin (wsV RX4 71 RX7 yX7_number wsX7_number) := goodIn_app (goodIn_of _ (by decide +kernel)) ggX4_numberWithin_X7_number
set_option maxRecDepth 20000 in
theorem ggX4_numberWithin_X7_advance : GoodIn wsX4_numberWithin wsX7_advance := goodIn_r _ [13, 7, 8, 14, 9, 6, 15, 16, 4, 17, 18, 19, 20, 21, 22] (by decide +kernel) (by decide +kernel)
set_option maxRecDepth 20000 in
theorem gX4_numberWithin_X7_advance : GoodIn wsX4_numberWithin (wsV RX4 24 RX7 yX7_advance wsX7_advance) := goodIn_app (goodIn_of _ (by decide +kernel)) ggX4_numberWithin_X7_advance
theorem dX4_numberWithin_0 : decode cX4_numberWithin 0 = .ok (.aload_n 0, 1) := by decide +kernel
theorem dX4_numberWithin_1 : decode cX4_numberWithin 1 = .ok (.invokevirtual 71, 3) := by decide +kernel
theorem dX4_numberWithin_4 : decode cX4_numberWithin 4 = .ok (.istore_n 3, 1) := by decide +kernel
theorem dX4_numberWithin_5 : decode cX4_numberWithin 5 = .ok (.iload_n 3, 1) := by decide +kernel
theorem dX4_numberWithin_6 : decode cX4_numberWithin 6 = .ok (.iload_n 1, 1) := by decide +kernel
theorem dX4_numberWithin_7 : decode cX4_numberWithin 7 = .ok (.if_icmp .lt 8, 3) := by decide +kernel
theorem dX4_numberWithin_10 : decode cX4_numberWithin 10 = .ok (.iload_n 3, 1) := by decide +kernel
theorem dX4_numberWithin_11 : decode cX4_numberWithin 11 = .ok (.iload_n 2, 1) := by decide +kernel
theorem dX4_numberWithin_12 : decode cX4_numberWithin 12 = .ok (.if_icmp .le 5, 3) := by decide +kernel
theorem dX4_numberWithin_15 : decode cX4_numberWithin 15 = .ok (.iconst (-1), 1) := by decide +kernel
theorem dX4_numberWithin_16 : decode cX4_numberWithin 16 = .ok (.ireturn, 1) := by decide +kernel
theorem dX4_numberWithin_17 : decode cX4_numberWithin 17 = .ok (.aload_n 0, 1) := by decide +kernel
theorem dX4_numberWithin_18 : decode cX4_numberWithin 18 = .ok (.invokevirtual 24, 3) := by decide +kernel
theorem dX4_numberWithin_21 : decode cX4_numberWithin 21 = .ok (.iload_n 3, 1) := by decide +kernel
theorem dX4_numberWithin_22 : decode cX4_numberWithin 22 = .ok (.ireturn, 1) := by decide +kernel
set_option maxRecDepth 20000 in
theorem ggX4_readSize_X7_advance : GoodIn wsX4_readSize wsX7_advance := goodIn_r _ [5, 6, 7, 8, 9, 10, 11, 12, 4, 13, 58, 59, 60, 61, 62] (by decide +kernel) (by decide +kernel)
set_option maxRecDepth 20000 in
theorem gX4_readSize_X7_advance : GoodIn wsX4_readSize (wsV RX4 24 RX7 yX7_advance wsX7_advance) := goodIn_app (goodIn_of _ (by decide +kernel)) ggX4_readSize_X7_advance
set_option maxRecDepth 20000 in
theorem ggX4_readSize_X4_numberWithin : GoodIn wsX4_readSize wsX4_numberWithin := goodIn_r _ [17, 18, 19, 20, 4, 21, 10, 6, 7, 9, 1, 2, 3, 5, 8, 11, 12, 13, 58, 59, 60, 61, 62] (by decide +kernel) (by decide +kernel)
set_option maxRecDepth 20000 in
theorem gX4_readSize_X4_numberWithin : GoodIn wsX4_readSize (va_wsS RX4 75 yX4_numberWithin wsX4_numberWithin) := goodIn_app (goodIn_of _ (by decide +kernel)) ggX4_readSize_X4_numberWithin
set_option maxRecDepth 20000 in
theorem ggX4_readSize_X2_clearTo : GoodIn wsX4_readSize wsX2_clearTo := goodIn_r _ [26, 27, 28, 29, 30, 31, 32, 33, 34, 35, 36, 37, 38, 39, 40, 41, 42, 43, 44, 45, 46, 47, 48, 49, 50, 51, 52, 53, 25, 54, 55, 56, 57, 63, 64, 65, 66, 67, 68, 69, 70, 71, 72, 73, 74, 75, 76] (by decide +kernel) (by decide +kernel)
set_option maxRecDepth 20000 in
theorem gX4_readSize_X2_clearTo : GoodIn wsX4_readSize (wsV RX4 79 RX2 yX2_clearTo wsX2_clearTo) := goodIn_app (goodIn_of _ (by decide +kernel)) ggX4_readSize_X2_clearTo
theorem dX4_readSize_0 : decode cX4_readSize 0 = .ok (.aload_n 0, 1) := by decide +kernel
theorem dX4_readSize_1 : decode cX4_readSize 1 = .ok (.invokevirtual 24, 3) := by decide +kernel
theorem dX4_readSize_4 : decode cX4_readSize 4 = .ok (.aload_n 0, 1) := by decide +kernel
theorem dX4_readSize_5 : decode cX4_readSize 5 = .ok (.iconst 2, 1) := by decide +kernel
theorem dX4_readSize_6 : decode cX4_readSize 6 = .ok (.iconst 4, 1) := by decide +kernel
theorem dX4_readSize_7 : decode cX4_readSize 7 = .ok (.invokestatic 75, 3) := by decide +kernel
theorem dX4_readSize_10 : decode cX4_readSize 10 = .ok (.istore_n 2, 1) := by decide +kernel
theorem dX4_readSize_11 : decode cX4_readSize 11 = .ok (.iload_n 2, 1) := by decide +kernel
theorem dX4_readSize_12 : decode cX4_readSize 12 = .ok (.iconst (-1), 1) := by decide +kernel
theorem dX4_readSize_13 : decode cX4_readSize 13 = .ok (.if_icmp .eq 8, 3) := by decide +kernel
theorem dX4_readSize_16 : decode cX4_readSize 16 = .ok (.aload_n 1, 1) := by decide +kernel
theorem dX4_readSize_17 : decode cX4_readSize 17 = .ok (.iload_n 2, 1) := by decide +kernel
theorem dX4_readSize_18 : decode cX4_readSize 18 = .ok (.invokevirtual 79, 3) := by decide +kernel
theorem dX4_readSize_21 : decode cX4_readSize 21 = .ok (.iload_n 2, 1) := by decide +kernel
theorem dX4_readSize_22 : decode cX4_readSize 22 = .ok (.iconst (-1), 1) := by decide +kernel
theorem dX4_readSize_23 : decode cX4_readSize 23 = .ok (.if_icmp .eq 7, 3) := by decide +kernel
theorem dX4_readSize_26 : decode cX4_readSize 26 = .ok (.iconst 1, 1) := by decide +kernel
theorem dX4_readSize_27 : decode cX4_readSize 27 = .ok (.goto 4, 3) := by decide +kernel
theorem dX4_readSize_30 : decode cX4_readSize 30 = .ok (.iconst 0, 1) := by decide +kernel
theorem dX4_readSize_31 : decode cX4_readSize 31 = .ok (.ireturn, 1) := by decide +kernel
set_option maxRecDepth 20000 in
theorem ggX4_readBox_X7_advance : GoodIn wsX4_readBox wsX7_advance := goodIn_r _ [9, 10, 11, 12, 13, 14, 15, 16, 8, 17, 128, 129, 130, 131, 132] (by decide +kernel) (by decide +kernel)
set_option maxRecDepth 20000 in
theorem gX4_readBox_X7_advance : GoodIn wsX4_readBox (wsV RX4 24 RX7 yX7_advance wsX7_advance) := goodIn_app (goodIn_of _ (by decide +kernel)) ggX4_readBox_X7_advance
set_option maxRecDepth 20000 in
theorem ggX4_readBox_X4_numberWithin : GoodIn wsX4_readBox wsX4_numberWithin := goodIn_r _ [21, 22, 23, 24, 8, 25, 14, 10, 11, 13, 5, 6, 7, 9, 12, 15, 16, 17, 128, 129, 130, 131, 132] (by decide +kernel) (by decide +kernel)
set_option maxRecDepth 20000 in
theorem gX4_readBox_X4_numberWithin : GoodIn wsX4_readBox (va_wsS RX4 75 yX4_numberWithin wsX4_numberWithin) := goodIn_app (goodIn_of _ (by decide +kernel)) ggX4_readBox_X4_numberWithin
set_option maxRecDepth 20000 in
theorem ggX4_readBox_X7_isWord : GoodIn wsX4_readBox wsX7_isWord := goodIn_r _ [29, 14, 10, 11, 13, 30, 31, 32, 33, 34, 35, 36, 37, 38, 39, 40, 41, 42, 43, 44, 45, 46, 47, 48, 49, 50, 51, 52, 53, 54, 55, 56, 57, 58, 59, 60, 61, 62, 63, 64, 65, 66, 67, 68, 69, 70, 71, 72, 73, 74, 75, 76, 77, 78, 128, 129, 130, 131, 132] (by decide +kernel) (by decide +kernel)
set_option maxRecDepth 20000 in
theorem gX4_readBox_X7_isWord : GoodIn wsX4_readBox (wsV RX4 29 RX7 yX7_isWord wsX7_isWord) := goodIn_app (goodIn_of _ (by decide +kernel)) ggX4_readBox_X7_isWord
set_option maxRecDepth 20000 in
theorem ggX4_readBox_X0_boxOf : GoodIn wsX4_readBox wsX0_boxOf := goodIn_r _ [83, 84, 85, 86, 87, 88, 89, 90, 91, 92, 93, 94, 95, 82, 96, 97, 98, 99, 100, 101, 102, 103, 104, 105, 106, 122, 123, 124, 125, 126, 127] (by decide +kernel) (by decide +kernel)
set_option maxRecDepth 20000 in
theorem gX4_readBox_X0_boxOf : GoodIn wsX4_readBox (wsV RX4 94 RX0 yX0_boxOf wsX0_boxOf) := goodIn_app (goodIn_of _ (by decide +kernel)) ggX4_readBox_X0_boxOf
set_option maxRecDepth 20000 in
theorem ggX4_readBox_X2_fillLast : GoodIn wsX4_readBox wsX2_fillLast := goodIn_r _ [111, 112, 113, 114, 115, 116, 117, 118, 119, 120, 121] (by decide +kernel) (by decide +kernel)
set_option maxRecDepth 20000 in
theorem gX4_readBox_X2_fillLast : GoodIn wsX4_readBox (wsV RX4 104 RX2 yX2_fillLast wsX2_fillLast) := goodIn_app (goodIn_of _ (by decide +kernel)) ggX4_readBox_X2_fillLast
theorem dX4_readBox_0 : decode cX4_readBox 0 = .ok (.aload_n 1, 1) := by decide +kernel
theorem dX4_readBox_1 : decode cX4_readBox 1 = .ok (.getfield 83, 3) := by decide +kernel
theorem dX4_readBox_4 : decode cX4_readBox 4 = .ok (.getfield 87, 3) := by decide +kernel
theorem dX4_readBox_7 : decode cX4_readBox 7 = .ok (.iconst 1, 1) := by decide +kernel
theorem dX4_readBox_8 : decode cX4_readBox 8 = .ok (.isub, 1) := by decide +kernel
theorem dX4_readBox_9 : decode cX4_readBox 9 = .ok (.istore_n 3, 1) := by decide +kernel
theorem dX4_readBox_10 : decode cX4_readBox 10 = .ok (.aload_n 0, 1) := by decide +kernel
theorem dX4_readBox_11 : decode cX4_readBox 11 = .ok (.invokevirtual 24, 3) := by decide +kernel
theorem dX4_readBox_14 : decode cX4_readBox 14 = .ok (.aload_n 0, 1) := by decide +kernel
theorem dX4_readBox_15 : decode cX4_readBox 15 = .ok (.iconst 0, 1) := by decide +kernel
theorem dX4_readBox_16 : decode cX4_readBox 16 = .ok (.iload_n 3, 1) := by decide +kernel
theorem dX4_readBox_17 : decode cX4_readBox 17 = .ok (.invokestatic 75, 3) := by decide +kernel
theorem dX4_readBox_20 : decode cX4_readBox 20 = .ok (.istore 4, 2) := by decide +kernel
theorem dX4_readBox_22 : decode cX4_readBox 22 = .ok (.iload 4, 2) := by decide +kernel
theorem dX4_readBox_24 : decode cX4_readBox 24 = .ok (.iconst (-1), 1) := by decide +kernel
theorem dX4_readBox_25 : decode cX4_readBox 25 = .ok (.if_icmp .eq 12, 3) := by decide +kernel
theorem dX4_readBox_28 : decode cX4_readBox 28 = .ok (.aload_n 0, 1) := by decide +kernel
theorem dX4_readBox_29 : decode cX4_readBox 29 = .ok (.ldc 92, 2) := by decide +kernel
theorem dX4_readBox_31 : decode cX4_readBox 31 = .ok (.invokevirtual 29, 3) := by decide +kernel
theorem dX4_readBox_34 : decode cX4_readBox 34 = .ok (.ifCond .ne 5, 3) := by decide +kernel
theorem dX4_readBox_37 : decode cX4_readBox 37 = .ok (.iconst 0, 1) := by decide +kernel
theorem dX4_readBox_38 : decode cX4_readBox 38 = .ok (.ireturn, 1) := by decide +kernel
theorem dX4_readBox_39 : decode cX4_readBox 39 = .ok (.aload_n 0, 1) := by decide +kernel
theorem dX4_readBox_40 : decode cX4_readBox 40 = .ok (.invokevirtual 24, 3) := by decide +kernel
theorem dX4_readBox_43 : decode cX4_readBox 43 = .ok (.aload_n 0, 1) := by decide +kernel
theorem dX4_readBox_44 : decode cX4_readBox 44 = .ok (.iconst 0, 1) := by decide +kernel
theorem dX4_readBox_45 : decode cX4_readBox 45 = .ok (.iload_n 3, 1) := by decide +kernel
theorem dX4_readBox_46 : decode cX4_readBox 46 = .ok (.invokestatic 75, 3) := by decide +kernel
theorem dX4_readBox_49 : decode cX4_readBox 49 = .ok (.istore 5, 2) := by decide +kernel
theorem dX4_readBox_51 : decode cX4_readBox 51 = .ok (.iload 5, 2) := by decide +kernel
theorem dX4_readBox_53 : decode cX4_readBox 53 = .ok (.iconst (-1), 1) := by decide +kernel
theorem dX4_readBox_54 : decode cX4_readBox 54 = .ok (.if_icmp .ne 5, 3) := by decide +kernel
theorem dX4_readBox_57 : decode cX4_readBox 57 = .ok (.iconst 0, 1) := by decide +kernel
theorem dX4_readBox_58 : decode cX4_readBox 58 = .ok (.ireturn, 1) := by decide +kernel
theorem dX4_readBox_59 : decode cX4_readBox 59 = .ok (.aload_n 1, 1) := by decide +kernel
theorem dX4_readBox_60 : decode cX4_readBox 60 = .ok (.getfield 83, 3) := by decide +kernel
theorem dX4_readBox_63 : decode cX4_readBox 63 = .ok (.iload 4, 2) := by decide +kernel
theorem dX4_readBox_65 : decode cX4_readBox 65 = .ok (.iload 5, 2) := by decide +kernel
theorem dX4_readBox_67 : decode cX4_readBox 67 = .ok (.invokevirtual 94, 3) := by decide +kernel
theorem dX4_readBox_70 : decode cX4_readBox 70 = .ok (.lstore 6, 2) := by decide +kernel
theorem dX4_readBox_72 : decode cX4_readBox 72 = .ok (.iload_n 2, 1) := by decide +kernel
theorem dX4_readBox_73 : decode cX4_readBox 73 = .ok (.lookupswitch 59 #[(0, 27), (1, 41)], 27) := by decide +kernel
theorem dX4_readBox_100 : decode cX4_readBox 100 = .ok (.aload_n 1, 1) := by decide +kernel
theorem dX4_readBox_101 : decode cX4_readBox 101 = .ok (.dup, 1) := by decide +kernel
theorem dX4_readBox_102 : decode cX4_readBox 102 = .ok (.getfield 98, 3) := by decide +kernel
theorem dX4_readBox_105 : decode cX4_readBox 105 = .ok (.lload 6, 2) := by decide +kernel
theorem dX4_readBox_107 : decode cX4_readBox 107 = .ok (.lor, 1) := by decide +kernel
theorem dX4_readBox_108 : decode cX4_readBox 108 = .ok (.putfield 98, 3) := by decide +kernel
theorem dX4_readBox_111 : decode cX4_readBox 111 = .ok (.goto 27, 3) := by decide +kernel
theorem dX4_readBox_114 : decode cX4_readBox 114 = .ok (.aload_n 1, 1) := by decide +kernel
theorem dX4_readBox_115 : decode cX4_readBox 115 = .ok (.dup, 1) := by decide +kernel
theorem dX4_readBox_116 : decode cX4_readBox 116 = .ok (.getfield 98, 3) := by decide +kernel
theorem dX4_readBox_119 : decode cX4_readBox 119 = .ok (.lload 6, 2) := by decide +kernel
theorem dX4_readBox_121 : decode cX4_readBox 121 = .ok (.ldc2_w 102, 3) := by decide +kernel
theorem dX4_readBox_124 : decode cX4_readBox 124 = .ok (.lxor, 1) := by decide +kernel
theorem dX4_readBox_125 : decode cX4_readBox 125 = .ok (.land, 1) := by decide +kernel
theorem dX4_readBox_126 : decode cX4_readBox 126 = .ok (.putfield 98, 3) := by decide +kernel
theorem dX4_readBox_129 : decode cX4_readBox 129 = .ok (.goto 9, 3) := by decide +kernel
theorem dX4_readBox_132 : decode cX4_readBox 132 = .ok (.aload_n 1, 1) := by decide +kernel
theorem dX4_readBox_133 : decode cX4_readBox 133 = .ok (.lload 6, 2) := by decide +kernel
theorem dX4_readBox_135 : decode cX4_readBox 135 = .ok (.invokevirtual 104, 3) := by decide +kernel
theorem dX4_readBox_138 : decode cX4_readBox 138 = .ok (.iconst 1, 1) := by decide +kernel
theorem dX4_readBox_139 : decode cX4_readBox 139 = .ok (.ireturn, 1) := by decide +kernel
set_option maxRecDepth 20000 in
theorem ggX4_readPiece_X2_addPiece : GoodIn wsX4_readPiece wsX2_addPiece := goodIn_r _ [6, 7, 8, 22, 23, 24, 25, 26, 27, 28, 29] (by decide +kernel) (by decide +kernel)
set_option maxRecDepth 20000 in
theorem gX4_readPiece_X2_addPiece : GoodIn wsX4_readPiece (wsV RX4 108 RX2 yX2_addPiece wsX2_addPiece) := goodIn_app (goodIn_of _ (by decide +kernel)) ggX4_readPiece_X2_addPiece
set_option maxRecDepth 20000 in
theorem ggX4_readPiece_X7_advance : GoodIn wsX4_readPiece wsX7_advance := goodIn_r _ [13, 14, 15, 16, 17, 18, 19, 20, 12, 21, 30, 31, 32, 33, 34] (by decide +kernel) (by decide +kernel)
set_option maxRecDepth 20000 in
theorem gX4_readPiece_X7_advance : GoodIn wsX4_readPiece (wsV RX4 24 RX7 yX7_advance wsX7_advance) := goodIn_app (goodIn_of _ (by decide +kernel)) ggX4_readPiece_X7_advance
theorem dX4_readPiece_0 : decode cX4_readPiece 0 = .ok (.aload_n 1, 1) := by decide +kernel
theorem dX4_readPiece_1 : decode cX4_readPiece 1 = .ok (.getfield 51, 3) := by decide +kernel
theorem dX4_readPiece_4 : decode cX4_readPiece 4 = .ok (.bipush 8, 2) := by decide +kernel
theorem dX4_readPiece_6 : decode cX4_readPiece 6 = .ok (.if_icmp .lt 5, 3) := by decide +kernel
theorem dX4_readPiece_9 : decode cX4_readPiece 9 = .ok (.iconst 0, 1) := by decide +kernel
theorem dX4_readPiece_10 : decode cX4_readPiece 10 = .ok (.ireturn, 1) := by decide +kernel
theorem dX4_readPiece_11 : decode cX4_readPiece 11 = .ok (.aload_n 1, 1) := by decide +kernel
theorem dX4_readPiece_12 : decode cX4_readPiece 12 = .ok (.lconst 0, 1) := by decide +kernel
theorem dX4_readPiece_13 : decode cX4_readPiece 13 = .ok (.invokevirtual 108, 3) := by decide +kernel
theorem dX4_readPiece_16 : decode cX4_readPiece 16 = .ok (.aload_n 0, 1) := by decide +kernel
theorem dX4_readPiece_17 : decode cX4_readPiece 17 = .ok (.invokevirtual 24, 3) := by decide +kernel
theorem dX4_readPiece_20 : decode cX4_readPiece 20 = .ok (.iconst 1, 1) := by decide +kernel
theorem dX4_readPiece_21 : decode cX4_readPiece 21 = .ok (.ireturn, 1) := by decide +kernel
set_option maxRecDepth 20000 in
theorem ggX4_readShows_X7_advance : GoodIn wsX4_readShows wsX7_advance := goodIn_r _ [7, 8, 9, 10, 11, 12, 13, 14, 6, 15, 45, 46, 47, 48, 49] (by decide +kernel) (by decide +kernel)
set_option maxRecDepth 20000 in
theorem gX4_readShows_X7_advance : GoodIn wsX4_readShows (wsV RX4 24 RX7 yX7_advance wsX7_advance) := goodIn_app (goodIn_of _ (by decide +kernel)) ggX4_readShows_X7_advance
set_option maxRecDepth 20000 in
theorem ggX4_readShows_X4_numberWithin : GoodIn wsX4_readShows wsX4_numberWithin := goodIn_r _ [19, 20, 21, 22, 6, 23, 12, 8, 9, 11, 3, 4, 5, 7, 10, 13, 14, 15, 45, 46, 47, 48, 49] (by decide +kernel) (by decide +kernel)
set_option maxRecDepth 20000 in
theorem gX4_readShows_X4_numberWithin : GoodIn wsX4_readShows (va_wsS RX4 75 yX4_numberWithin wsX4_numberWithin) := goodIn_app (goodIn_of _ (by decide +kernel)) ggX4_readShows_X4_numberWithin
set_option maxRecDepth 20000 in
theorem ggX4_readShows_X2_putShows : GoodIn wsX4_readShows wsX2_putShows := goodIn_r _ [28, 29, 30, 31, 32, 33, 34, 35, 36, 37, 38] (by decide +kernel) (by decide +kernel)
set_option maxRecDepth 20000 in
theorem gX4_readShows_X2_putShows : GoodIn wsX4_readShows (wsV RX4 111 RX2 yX2_putShows wsX2_putShows) := goodIn_app (goodIn_of _ (by decide +kernel)) ggX4_readShows_X2_putShows
theorem dX4_readShows_0 : decode cX4_readShows 0 = .ok (.aload_n 0, 1) := by decide +kernel
theorem dX4_readShows_1 : decode cX4_readShows 1 = .ok (.invokevirtual 24, 3) := by decide +kernel
theorem dX4_readShows_4 : decode cX4_readShows 4 = .ok (.aload_n 0, 1) := by decide +kernel
theorem dX4_readShows_5 : decode cX4_readShows 5 = .ok (.iconst 0, 1) := by decide +kernel
theorem dX4_readShows_6 : decode cX4_readShows 6 = .ok (.aload_n 1, 1) := by decide +kernel
theorem dX4_readShows_7 : decode cX4_readShows 7 = .ok (.getfield 83, 3) := by decide +kernel
theorem dX4_readShows_10 : decode cX4_readShows 10 = .ok (.getfield 87, 3) := by decide +kernel
theorem dX4_readShows_13 : decode cX4_readShows 13 = .ok (.iconst 1, 1) := by decide +kernel
theorem dX4_readShows_14 : decode cX4_readShows 14 = .ok (.isub, 1) := by decide +kernel
theorem dX4_readShows_15 : decode cX4_readShows 15 = .ok (.invokestatic 75, 3) := by decide +kernel
theorem dX4_readShows_18 : decode cX4_readShows 18 = .ok (.istore_n 2, 1) := by decide +kernel
theorem dX4_readShows_19 : decode cX4_readShows 19 = .ok (.iload_n 2, 1) := by decide +kernel
theorem dX4_readShows_20 : decode cX4_readShows 20 = .ok (.iconst (-1), 1) := by decide +kernel
theorem dX4_readShows_21 : decode cX4_readShows 21 = .ok (.if_icmp .ne 5, 3) := by decide +kernel
theorem dX4_readShows_24 : decode cX4_readShows 24 = .ok (.iconst 0, 1) := by decide +kernel
theorem dX4_readShows_25 : decode cX4_readShows 25 = .ok (.ireturn, 1) := by decide +kernel
theorem dX4_readShows_26 : decode cX4_readShows 26 = .ok (.aload_n 0, 1) := by decide +kernel
theorem dX4_readShows_27 : decode cX4_readShows 27 = .ok (.iconst 0, 1) := by decide +kernel
theorem dX4_readShows_28 : decode cX4_readShows 28 = .ok (.bipush 9, 2) := by decide +kernel
theorem dX4_readShows_30 : decode cX4_readShows 30 = .ok (.invokestatic 75, 3) := by decide +kernel
theorem dX4_readShows_33 : decode cX4_readShows 33 = .ok (.istore_n 3, 1) := by decide +kernel
theorem dX4_readShows_34 : decode cX4_readShows 34 = .ok (.iload_n 3, 1) := by decide +kernel
theorem dX4_readShows_35 : decode cX4_readShows 35 = .ok (.iconst (-1), 1) := by decide +kernel
theorem dX4_readShows_36 : decode cX4_readShows 36 = .ok (.if_icmp .eq 9, 3) := by decide +kernel
theorem dX4_readShows_39 : decode cX4_readShows 39 = .ok (.aload_n 1, 1) := by decide +kernel
theorem dX4_readShows_40 : decode cX4_readShows 40 = .ok (.iload_n 2, 1) := by decide +kernel
theorem dX4_readShows_41 : decode cX4_readShows 41 = .ok (.iload_n 3, 1) := by decide +kernel
theorem dX4_readShows_42 : decode cX4_readShows 42 = .ok (.invokevirtual 111, 3) := by decide +kernel
theorem dX4_readShows_45 : decode cX4_readShows 45 = .ok (.iload_n 3, 1) := by decide +kernel
theorem dX4_readShows_46 : decode cX4_readShows 46 = .ok (.iconst (-1), 1) := by decide +kernel
theorem dX4_readShows_47 : decode cX4_readShows 47 = .ok (.if_icmp .eq 7, 3) := by decide +kernel
theorem dX4_readShows_50 : decode cX4_readShows 50 = .ok (.iconst 1, 1) := by decide +kernel
theorem dX4_readShows_51 : decode cX4_readShows 51 = .ok (.goto 4, 3) := by decide +kernel
theorem dX4_readShows_54 : decode cX4_readShows 54 = .ok (.iconst 0, 1) := by decide +kernel
theorem dX4_readShows_55 : decode cX4_readShows 55 = .ok (.ireturn, 1) := by decide +kernel
set_option maxRecDepth 20000 in
theorem ggX4_readHeavy_X7_advance : GoodIn wsX4_readHeavy wsX7_advance := goodIn_r _ [6, 7, 8, 9, 10, 11, 12, 13, 5, 14, 31, 32, 33, 34, 35] (by decide +kernel) (by decide +kernel)
set_option maxRecDepth 20000 in
theorem gX4_readHeavy_X7_advance : GoodIn wsX4_readHeavy (wsV RX4 24 RX7 yX7_advance wsX7_advance) := goodIn_app (goodIn_of _ (by decide +kernel)) ggX4_readHeavy_X7_advance
set_option maxRecDepth 20000 in
theorem ggX4_readHeavy_X4_numberWithin : GoodIn wsX4_readHeavy wsX4_numberWithin := goodIn_r _ [18, 19, 20, 21, 5, 22, 11, 7, 8, 10, 2, 3, 4, 6, 9, 12, 13, 14, 31, 32, 33, 34, 35] (by decide +kernel) (by decide +kernel)
set_option maxRecDepth 20000 in
theorem gX4_readHeavy_X4_numberWithin : GoodIn wsX4_readHeavy (va_wsS RX4 75 yX4_numberWithin wsX4_numberWithin) := goodIn_app (goodIn_of _ (by decide +kernel)) ggX4_readHeavy_X4_numberWithin
theorem dX4_readHeavy_0 : decode cX4_readHeavy 0 = .ok (.aload_n 0, 1) := by decide +kernel
theorem dX4_readHeavy_1 : decode cX4_readHeavy 1 = .ok (.invokevirtual 24, 3) := by decide +kernel
theorem dX4_readHeavy_4 : decode cX4_readHeavy 4 = .ok (.aload_n 0, 1) := by decide +kernel
theorem dX4_readHeavy_5 : decode cX4_readHeavy 5 = .ok (.iconst 1, 1) := by decide +kernel
theorem dX4_readHeavy_6 : decode cX4_readHeavy 6 = .ok (.bipush 64, 2) := by decide +kernel
theorem dX4_readHeavy_8 : decode cX4_readHeavy 8 = .ok (.invokestatic 75, 3) := by decide +kernel
theorem dX4_readHeavy_11 : decode cX4_readHeavy 11 = .ok (.istore_n 2, 1) := by decide +kernel
theorem dX4_readHeavy_12 : decode cX4_readHeavy 12 = .ok (.iload_n 2, 1) := by decide +kernel
theorem dX4_readHeavy_13 : decode cX4_readHeavy 13 = .ok (.iconst (-1), 1) := by decide +kernel
theorem dX4_readHeavy_14 : decode cX4_readHeavy 14 = .ok (.if_icmp .eq 8, 3) := by decide +kernel
theorem dX4_readHeavy_17 : decode cX4_readHeavy 17 = .ok (.aload_n 1, 1) := by decide +kernel
theorem dX4_readHeavy_18 : decode cX4_readHeavy 18 = .ok (.iload_n 2, 1) := by decide +kernel
theorem dX4_readHeavy_19 : decode cX4_readHeavy 19 = .ok (.putfield 115, 3) := by decide +kernel
theorem dX4_readHeavy_22 : decode cX4_readHeavy 22 = .ok (.iload_n 2, 1) := by decide +kernel
theorem dX4_readHeavy_23 : decode cX4_readHeavy 23 = .ok (.iconst (-1), 1) := by decide +kernel
theorem dX4_readHeavy_24 : decode cX4_readHeavy 24 = .ok (.if_icmp .eq 7, 3) := by decide +kernel
theorem dX4_readHeavy_27 : decode cX4_readHeavy 27 = .ok (.iconst 1, 1) := by decide +kernel
theorem dX4_readHeavy_28 : decode cX4_readHeavy 28 = .ok (.goto 4, 3) := by decide +kernel
theorem dX4_readHeavy_31 : decode cX4_readHeavy 31 = .ok (.iconst 0, 1) := by decide +kernel
theorem dX4_readHeavy_32 : decode cX4_readHeavy 32 = .ok (.ireturn, 1) := by decide +kernel
set_option maxRecDepth 20000 in
theorem ggX4_readWear_X7_advance : GoodIn wsX4_readWear wsX7_advance := goodIn_r _ [6, 7, 8, 9, 10, 11, 12, 13, 5, 14, 31, 32, 33, 34, 35] (by decide +kernel) (by decide +kernel)
set_option maxRecDepth 20000 in
theorem gX4_readWear_X7_advance : GoodIn wsX4_readWear (wsV RX4 24 RX7 yX7_advance wsX7_advance) := goodIn_app (goodIn_of _ (by decide +kernel)) ggX4_readWear_X7_advance
set_option maxRecDepth 20000 in
theorem ggX4_readWear_X4_numberWithin : GoodIn wsX4_readWear wsX4_numberWithin := goodIn_r _ [18, 19, 20, 21, 5, 22, 11, 7, 8, 10, 2, 3, 4, 6, 9, 12, 13, 14, 31, 32, 33, 34, 35] (by decide +kernel) (by decide +kernel)
set_option maxRecDepth 20000 in
theorem gX4_readWear_X4_numberWithin : GoodIn wsX4_readWear (va_wsS RX4 75 yX4_numberWithin wsX4_numberWithin) := goodIn_app (goodIn_of _ (by decide +kernel)) ggX4_readWear_X4_numberWithin
theorem dX4_readWear_0 : decode cX4_readWear 0 = .ok (.aload_n 0, 1) := by decide +kernel
theorem dX4_readWear_1 : decode cX4_readWear 1 = .ok (.invokevirtual 24, 3) := by decide +kernel
theorem dX4_readWear_4 : decode cX4_readWear 4 = .ok (.aload_n 0, 1) := by decide +kernel
theorem dX4_readWear_5 : decode cX4_readWear 5 = .ok (.iconst 1, 1) := by decide +kernel
theorem dX4_readWear_6 : decode cX4_readWear 6 = .ok (.sipush 999, 3) := by decide +kernel
theorem dX4_readWear_9 : decode cX4_readWear 9 = .ok (.invokestatic 75, 3) := by decide +kernel
theorem dX4_readWear_12 : decode cX4_readWear 12 = .ok (.istore_n 2, 1) := by decide +kernel
theorem dX4_readWear_13 : decode cX4_readWear 13 = .ok (.iload_n 2, 1) := by decide +kernel
theorem dX4_readWear_14 : decode cX4_readWear 14 = .ok (.iconst (-1), 1) := by decide +kernel
theorem dX4_readWear_15 : decode cX4_readWear 15 = .ok (.if_icmp .eq 8, 3) := by decide +kernel
theorem dX4_readWear_18 : decode cX4_readWear 18 = .ok (.aload_n 1, 1) := by decide +kernel
theorem dX4_readWear_19 : decode cX4_readWear 19 = .ok (.iload_n 2, 1) := by decide +kernel
theorem dX4_readWear_20 : decode cX4_readWear 20 = .ok (.putfield 117, 3) := by decide +kernel
theorem dX4_readWear_23 : decode cX4_readWear 23 = .ok (.iload_n 2, 1) := by decide +kernel
theorem dX4_readWear_24 : decode cX4_readWear 24 = .ok (.iconst (-1), 1) := by decide +kernel
theorem dX4_readWear_25 : decode cX4_readWear 25 = .ok (.if_icmp .eq 7, 3) := by decide +kernel
theorem dX4_readWear_28 : decode cX4_readWear 28 = .ok (.iconst 1, 1) := by decide +kernel
theorem dX4_readWear_29 : decode cX4_readWear 29 = .ok (.goto 4, 3) := by decide +kernel
theorem dX4_readWear_32 : decode cX4_readWear 32 = .ok (.iconst 0, 1) := by decide +kernel
theorem dX4_readWear_33 : decode cX4_readWear 33 = .ok (.ireturn, 1) := by decide +kernel
theorem dX5_init_0 : decode cX5_init 0 = .ok (.aload_n 0, 1) := by decide +kernel
theorem dX5_init_1 : decode cX5_init 1 = .ok (.invokespecial 3, 3) := by decide +kernel
theorem dX5_init_4 : decode cX5_init 4 = .ok (.aload_n 0, 1) := by decide +kernel
theorem dX5_init_5 : decode cX5_init 5 = .ok (.iconst 0, 1) := by decide +kernel
theorem dX5_init_6 : decode cX5_init 6 = .ok (.putfield 9, 3) := by decide +kernel
theorem dX5_init_9 : decode cX5_init 9 = .ok (.aload_n 0, 1) := by decide +kernel
theorem dX5_init_10 : decode cX5_init 10 = .ok (.iconst 0, 1) := by decide +kernel
theorem dX5_init_11 : decode cX5_init 11 = .ok (.putfield 15, 3) := by decide +kernel
theorem dX5_init_14 : decode cX5_init 14 = .ok (.aload_n 0, 1) := by decide +kernel
theorem dX5_init_15 : decode cX5_init 15 = .ok (.bipush 40, 2) := by decide +kernel
theorem dX5_init_17 : decode cX5_init 17 = .ok (.newarray .long, 2) := by decide +kernel
theorem dX5_init_19 : decode cX5_init 19 = .ok (.putfield 18, 3) := by decide +kernel
theorem dX5_init_22 : decode cX5_init 22 = .ok (.return_, 1) := by decide +kernel
set_option maxRecDepth 20000 in
theorem ggX5_become_J7_fill_d0a16 : GoodIn wsX5_become wsJ7_fill_d0a16 := goodIn_r _ [7] (by decide +kernel) (by decide +kernel)
set_option maxRecDepth 20000 in
theorem gX5_become_J7_fill_d0a16 : GoodIn wsX5_become (va_wsS RX5 22 yJ7_fill_d0a16 wsJ7_fill_d0a16) := goodIn_app (goodIn_of _ (by decide +kernel)) ggX5_become_J7_fill_d0a16
theorem dX5_become_0 : decode cX5_become 0 = .ok (.aload_n 0, 1) := by decide +kernel
theorem dX5_become_1 : decode cX5_become 1 = .ok (.iload_n 1, 1) := by decide +kernel
theorem dX5_become_2 : decode cX5_become 2 = .ok (.putfield 9, 3) := by decide +kernel
theorem dX5_become_5 : decode cX5_become 5 = .ok (.aload_n 0, 1) := by decide +kernel
theorem dX5_become_6 : decode cX5_become 6 = .ok (.iload_n 2, 1) := by decide +kernel
theorem dX5_become_7 : decode cX5_become 7 = .ok (.putfield 15, 3) := by decide +kernel
theorem dX5_become_10 : decode cX5_become 10 = .ok (.aload_n 0, 1) := by decide +kernel
theorem dX5_become_11 : decode cX5_become 11 = .ok (.getfield 18, 3) := by decide +kernel
theorem dX5_become_14 : decode cX5_become 14 = .ok (.lconst 0, 1) := by decide +kernel
theorem dX5_become_15 : decode cX5_become 15 = .ok (.invokestatic 22, 3) := by decide +kernel
theorem dX5_become_18 : decode cX5_become 18 = .ok (.return_, 1) := by decide +kernel
theorem dX5_fitted_0 : decode cX5_fitted 0 = .ok (.aload_n 0, 1) := by decide +kernel
theorem dX5_fitted_1 : decode cX5_fitted 1 = .ok (.getfield 9, 3) := by decide +kernel
theorem dX5_fitted_4 : decode cX5_fitted 4 = .ok (.tableswitch 62 0 4 #[36, 41, 46, 62, 50], 36) := by decide +kernel
theorem dX5_fitted_40 : decode cX5_fitted 40 = .ok (.lload_n 1, 1) := by decide +kernel
theorem dX5_fitted_41 : decode cX5_fitted 41 = .ok (.l2i, 1) := by decide +kernel
theorem dX5_fitted_42 : decode cX5_fitted 42 = .ok (.i2b, 1) := by decide +kernel
theorem dX5_fitted_43 : decode cX5_fitted 43 = .ok (.i2l, 1) := by decide +kernel
theorem dX5_fitted_44 : decode cX5_fitted 44 = .ok (.lreturn, 1) := by decide +kernel
theorem dX5_fitted_45 : decode cX5_fitted 45 = .ok (.lload_n 1, 1) := by decide +kernel
theorem dX5_fitted_46 : decode cX5_fitted 46 = .ok (.l2i, 1) := by decide +kernel
theorem dX5_fitted_47 : decode cX5_fitted 47 = .ok (.i2s, 1) := by decide +kernel
theorem dX5_fitted_48 : decode cX5_fitted 48 = .ok (.i2l, 1) := by decide +kernel
theorem dX5_fitted_49 : decode cX5_fitted 49 = .ok (.lreturn, 1) := by decide +kernel
theorem dX5_fitted_50 : decode cX5_fitted 50 = .ok (.lload_n 1, 1) := by decide +kernel
theorem dX5_fitted_51 : decode cX5_fitted 51 = .ok (.l2i, 1) := by decide +kernel
theorem dX5_fitted_52 : decode cX5_fitted 52 = .ok (.i2l, 1) := by decide +kernel
theorem dX5_fitted_53 : decode cX5_fitted 53 = .ok (.lreturn, 1) := by decide +kernel
theorem dX5_fitted_54 : decode cX5_fitted 54 = .ok (.lload_n 1, 1) := by decide +kernel
theorem dX5_fitted_55 : decode cX5_fitted 55 = .ok (.lconst 0, 1) := by decide +kernel
theorem dX5_fitted_56 : decode cX5_fitted 56 = .ok (.lcmp, 1) := by decide +kernel
theorem dX5_fitted_57 : decode cX5_fitted 57 = .ok (.ifCond .eq 7, 3) := by decide +kernel
theorem dX5_fitted_60 : decode cX5_fitted 60 = .ok (.lconst 1, 1) := by decide +kernel
theorem dX5_fitted_61 : decode cX5_fitted 61 = .ok (.goto 4, 3) := by decide +kernel
theorem dX5_fitted_64 : decode cX5_fitted 64 = .ok (.lconst 0, 1) := by decide +kernel
theorem dX5_fitted_65 : decode cX5_fitted 65 = .ok (.lreturn, 1) := by decide +kernel
theorem dX5_fitted_66 : decode cX5_fitted 66 = .ok (.lload_n 1, 1) := by decide +kernel
theorem dX5_fitted_67 : decode cX5_fitted 67 = .ok (.lreturn, 1) := by decide +kernel
theorem dX5_hasRun_0 : decode cX5_hasRun 0 = .ok (.iload_n 1, 1) := by decide +kernel
theorem dX5_hasRun_1 : decode cX5_hasRun 1 = .ok (.ifCond .lt 29, 3) := by decide +kernel
theorem dX5_hasRun_4 : decode cX5_hasRun 4 = .ok (.iload_n 1, 1) := by decide +kernel
theorem dX5_hasRun_5 : decode cX5_hasRun 5 = .ok (.aload_n 0, 1) := by decide +kernel
theorem dX5_hasRun_6 : decode cX5_hasRun 6 = .ok (.getfield 15, 3) := by decide +kernel
theorem dX5_hasRun_9 : decode cX5_hasRun 9 = .ok (.if_icmp .gt 21, 3) := by decide +kernel
theorem dX5_hasRun_12 : decode cX5_hasRun 12 = .ok (.iload_n 2, 1) := by decide +kernel
theorem dX5_hasRun_13 : decode cX5_hasRun 13 = .ok (.ifCond .lt 17, 3) := by decide +kernel
theorem dX5_hasRun_16 : decode cX5_hasRun 16 = .ok (.iload_n 2, 1) := by decide +kernel
theorem dX5_hasRun_17 : decode cX5_hasRun 17 = .ok (.aload_n 0, 1) := by decide +kernel
theorem dX5_hasRun_18 : decode cX5_hasRun 18 = .ok (.getfield 15, 3) := by decide +kernel
theorem dX5_hasRun_21 : decode cX5_hasRun 21 = .ok (.iload_n 1, 1) := by decide +kernel
theorem dX5_hasRun_22 : decode cX5_hasRun 22 = .ok (.isub, 1) := by decide +kernel
theorem dX5_hasRun_23 : decode cX5_hasRun 23 = .ok (.if_icmp .gt 7, 3) := by decide +kernel
theorem dX5_hasRun_26 : decode cX5_hasRun 26 = .ok (.iconst 1, 1) := by decide +kernel
theorem dX5_hasRun_27 : decode cX5_hasRun 27 = .ok (.goto 4, 3) := by decide +kernel
theorem dX5_hasRun_30 : decode cX5_hasRun 30 = .ok (.iconst 0, 1) := by decide +kernel
theorem dX5_hasRun_31 : decode cX5_hasRun 31 = .ok (.ireturn, 1) := by decide +kernel
theorem dX5_notZero_0 : decode cX5_notZero 0 = .ok (.lconst 0, 1) := by decide +kernel
theorem dX5_notZero_1 : decode cX5_notZero 1 = .ok (.lstore_n 1, 1) := by decide +kernel
theorem dX5_notZero_2 : decode cX5_notZero 2 = .ok (.iconst 0, 1) := by decide +kernel
theorem dX5_notZero_3 : decode cX5_notZero 3 = .ok (.istore_n 3, 1) := by decide +kernel
theorem dX5_notZero_4 : decode cX5_notZero 4 = .ok (.iload_n 3, 1) := by decide +kernel
theorem dX5_notZero_5 : decode cX5_notZero 5 = .ok (.aload_n 0, 1) := by decide +kernel
theorem dX5_notZero_6 : decode cX5_notZero 6 = .ok (.getfield 15, 3) := by decide +kernel
theorem dX5_notZero_9 : decode cX5_notZero 9 = .ok (.if_icmp .ge 26, 3) := by decide +kernel
theorem dX5_notZero_12 : decode cX5_notZero 12 = .ok (.aload_n 0, 1) := by decide +kernel
theorem dX5_notZero_13 : decode cX5_notZero 13 = .ok (.getfield 18, 3) := by decide +kernel
theorem dX5_notZero_16 : decode cX5_notZero 16 = .ok (.iload_n 3, 1) := by decide +kernel
theorem dX5_notZero_17 : decode cX5_notZero 17 = .ok (.laload, 1) := by decide +kernel
theorem dX5_notZero_18 : decode cX5_notZero 18 = .ok (.lconst 0, 1) := by decide +kernel
theorem dX5_notZero_19 : decode cX5_notZero 19 = .ok (.lcmp, 1) := by decide +kernel
theorem dX5_notZero_20 : decode cX5_notZero 20 = .ok (.ifCond .eq 9, 3) := by decide +kernel
theorem dX5_notZero_23 : decode cX5_notZero 23 = .ok (.lload_n 1, 1) := by decide +kernel
theorem dX5_notZero_24 : decode cX5_notZero 24 = .ok (.lconst 1, 1) := by decide +kernel
theorem dX5_notZero_25 : decode cX5_notZero 25 = .ok (.iload_n 3, 1) := by decide +kernel
theorem dX5_notZero_26 : decode cX5_notZero 26 = .ok (.lshl, 1) := by decide +kernel
theorem dX5_notZero_27 : decode cX5_notZero 27 = .ok (.lor, 1) := by decide +kernel
theorem dX5_notZero_28 : decode cX5_notZero 28 = .ok (.lstore_n 1, 1) := by decide +kernel
theorem dX5_notZero_29 : decode cX5_notZero 29 = .ok (.iinc 3 1, 3) := by decide +kernel
theorem dX5_notZero_32 : decode cX5_notZero 32 = .ok (.goto (-28), 3) := by decide +kernel
theorem dX5_notZero_35 : decode cX5_notZero 35 = .ok (.lload_n 1, 1) := by decide +kernel
theorem dX5_notZero_36 : decode cX5_notZero 36 = .ok (.lreturn, 1) := by decide +kernel
set_option maxRecDepth 20000 in
theorem ggX6_init_X5_init : GoodIn wsX6_init wsX5_init := goodIn_r _ [14, 15, 2, 3, 16, 17, 18, 19, 29, 30, 31] (by decide +kernel) (by decide +kernel)
set_option maxRecDepth 20000 in
theorem gX6_init_X5_init_n17 : GoodIn wsX6_init (wsX5_init) := ggX6_init_X5_init
set_option maxRecDepth 20000 in
theorem ggX6_init_X3_init : GoodIn wsX6_init wsX3_init := goodIn_r _ [21, 22, 2, 3, 23, 24, 25, 32, 33, 34] (by decide +kernel) (by decide +kernel)
set_option maxRecDepth 20000 in
theorem gX6_init_X3_init_n24 : GoodIn wsX6_init (wsX3_init) := ggX6_init_X3_init
theorem dX6_init_0 : decode cX6_init 0 = .ok (.aload_n 0, 1) := by decide +kernel
theorem dX6_init_1 : decode cX6_init 1 = .ok (.invokespecial 3, 3) := by decide +kernel
theorem dX6_init_4 : decode cX6_init 4 = .ok (.aload_n 0, 1) := by decide +kernel
theorem dX6_init_5 : decode cX6_init 5 = .ok (.iconst (-1), 1) := by decide +kernel
theorem dX6_init_6 : decode cX6_init 6 = .ok (.putfield 9, 3) := by decide +kernel
theorem dX6_init_9 : decode cX6_init 9 = .ok (.aload_n 0, 1) := by decide +kernel
theorem dX6_init_10 : decode cX6_init 10 = .ok (.new 15, 3) := by decide +kernel
theorem dX6_init_13 : decode cX6_init 13 = .ok (.dup, 1) := by decide +kernel
theorem dX6_init_14 : decode cX6_init 14 = .ok (.invokespecial 17, 3) := by decide +kernel
theorem dX6_init_17 : decode cX6_init 17 = .ok (.putfield 18, 3) := by decide +kernel
theorem dX6_init_20 : decode cX6_init 20 = .ok (.aload_n 0, 1) := by decide +kernel
theorem dX6_init_21 : decode cX6_init 21 = .ok (.new 22, 3) := by decide +kernel
theorem dX6_init_24 : decode cX6_init 24 = .ok (.dup, 1) := by decide +kernel
theorem dX6_init_25 : decode cX6_init 25 = .ok (.invokespecial 24, 3) := by decide +kernel
theorem dX6_init_28 : decode cX6_init 28 = .ok (.putfield 25, 3) := by decide +kernel
theorem dX6_init_31 : decode cX6_init 31 = .ok (.return_, 1) := by decide +kernel
theorem dX6_isRow_0 : decode cX6_isRow 0 = .ok (.aload_n 0, 1) := by decide +kernel
theorem dX6_isRow_1 : decode cX6_isRow 1 = .ok (.getfield 9, 3) := by decide +kernel
theorem dX6_isRow_4 : decode cX6_isRow 4 = .ok (.ifCond .lt 15, 3) := by decide +kernel
theorem dX6_isRow_7 : decode cX6_isRow 7 = .ok (.aload_n 0, 1) := by decide +kernel
theorem dX6_isRow_8 : decode cX6_isRow 8 = .ok (.getfield 9, 3) := by decide +kernel
theorem dX6_isRow_11 : decode cX6_isRow 11 = .ok (.iconst 4, 1) := by decide +kernel
theorem dX6_isRow_12 : decode cX6_isRow 12 = .ok (.if_icmp .gt 7, 3) := by decide +kernel
theorem dX6_isRow_15 : decode cX6_isRow 15 = .ok (.iconst 1, 1) := by decide +kernel
theorem dX6_isRow_16 : decode cX6_isRow 16 = .ok (.goto 4, 3) := by decide +kernel
theorem dX6_isRow_19 : decode cX6_isRow 19 = .ok (.iconst 0, 1) := by decide +kernel
theorem dX6_isRow_20 : decode cX6_isRow 20 = .ok (.ireturn, 1) := by decide +kernel
theorem dX6_isMove_0 : decode cX6_isMove 0 = .ok (.aload_n 0, 1) := by decide +kernel
theorem dX6_isMove_1 : decode cX6_isMove 1 = .ok (.getfield 9, 3) := by decide +kernel
theorem dX6_isMove_4 : decode cX6_isMove 4 = .ok (.bipush 10, 2) := by decide +kernel
theorem dX6_isMove_6 : decode cX6_isMove 6 = .ok (.if_icmp .le 7, 3) := by decide +kernel
theorem dX6_isMove_9 : decode cX6_isMove 9 = .ok (.iconst 1, 1) := by decide +kernel
theorem dX6_isMove_10 : decode cX6_isMove 10 = .ok (.goto 4, 3) := by decide +kernel
theorem dX6_isMove_13 : decode cX6_isMove 13 = .ok (.iconst 0, 1) := by decide +kernel
theorem dX6_isMove_14 : decode cX6_isMove 14 = .ok (.ireturn, 1) := by decide +kernel
theorem dX7_init_0 : decode cX7_init 0 = .ok (.aload_n 0, 1) := by decide +kernel
theorem dX7_init_1 : decode cX7_init 1 = .ok (.invokespecial 3, 3) := by decide +kernel
theorem dX7_init_4 : decode cX7_init 4 = .ok (.aload_n 0, 1) := by decide +kernel
theorem dX7_init_5 : decode cX7_init 5 = .ok (.iconst 0, 1) := by decide +kernel
theorem dX7_init_6 : decode cX7_init 6 = .ok (.putfield 9, 3) := by decide +kernel
theorem dX7_init_9 : decode cX7_init 9 = .ok (.aload_n 0, 1) := by decide +kernel
theorem dX7_init_10 : decode cX7_init 10 = .ok (.iconst 0, 1) := by decide +kernel
theorem dX7_init_11 : decode cX7_init 11 = .ok (.putfield 15, 3) := by decide +kernel
theorem dX7_init_14 : decode cX7_init 14 = .ok (.aload_n 0, 1) := by decide +kernel
theorem dX7_init_15 : decode cX7_init 15 = .ok (.iconst 0, 1) := by decide +kernel
theorem dX7_init_16 : decode cX7_init 16 = .ok (.putfield 18, 3) := by decide +kernel
theorem dX7_init_19 : decode cX7_init 19 = .ok (.aload_n 0, 1) := by decide +kernel
theorem dX7_init_20 : decode cX7_init 20 = .ok (.iconst 0, 1) := by decide +kernel
theorem dX7_init_21 : decode cX7_init 21 = .ok (.putfield 21, 3) := by decide +kernel
theorem dX7_init_24 : decode cX7_init 24 = .ok (.aload_n 0, 1) := by decide +kernel
theorem dX7_init_25 : decode cX7_init 25 = .ok (.sipush 250, 3) := by decide +kernel
theorem dX7_init_28 : decode cX7_init 28 = .ok (.newarray .int, 2) := by decide +kernel
theorem dX7_init_30 : decode cX7_init 30 = .ok (.putfield 24, 3) := by decide +kernel
theorem dX7_init_33 : decode cX7_init 33 = .ok (.return_, 1) := by decide +kernel
theorem dX7_add_0 : decode cX7_add 0 = .ok (.aload_n 0, 1) := by decide +kernel
theorem dX7_add_1 : decode cX7_add 1 = .ok (.getfield 9, 3) := by decide +kernel
theorem dX7_add_4 : decode cX7_add 4 = .ok (.sipush 250, 3) := by decide +kernel
theorem dX7_add_7 : decode cX7_add 7 = .ok (.if_icmp .ge 23, 3) := by decide +kernel
theorem dX7_add_10 : decode cX7_add 10 = .ok (.aload_n 0, 1) := by decide +kernel
theorem dX7_add_11 : decode cX7_add 11 = .ok (.getfield 24, 3) := by decide +kernel
theorem dX7_add_14 : decode cX7_add 14 = .ok (.aload_n 0, 1) := by decide +kernel
theorem dX7_add_15 : decode cX7_add 15 = .ok (.getfield 9, 3) := by decide +kernel
theorem dX7_add_18 : decode cX7_add 18 = .ok (.iload_n 1, 1) := by decide +kernel
theorem dX7_add_19 : decode cX7_add 19 = .ok (.iastore, 1) := by decide +kernel
theorem dX7_add_20 : decode cX7_add 20 = .ok (.aload_n 0, 1) := by decide +kernel
theorem dX7_add_21 : decode cX7_add 21 = .ok (.dup, 1) := by decide +kernel
theorem dX7_add_22 : decode cX7_add 22 = .ok (.getfield 9, 3) := by decide +kernel
theorem dX7_add_25 : decode cX7_add 25 = .ok (.iconst 1, 1) := by decide +kernel
theorem dX7_add_26 : decode cX7_add 26 = .ok (.iadd, 1) := by decide +kernel
theorem dX7_add_27 : decode cX7_add 27 = .ok (.putfield 9, 3) := by decide +kernel
theorem dX7_add_30 : decode cX7_add 30 = .ok (.return_, 1) := by decide +kernel
set_option maxRecDepth 20000 in
theorem ggX7_rewind_X7_advance : GoodIn wsX7_rewind wsX7_advance := goodIn_r _ [6, 1, 7, 8, 9, 10, 11, 12, 5, 13, 14, 15, 16, 17, 18] (by decide +kernel) (by decide +kernel)
set_option maxRecDepth 20000 in
theorem gX7_rewind_X7_advance : GoodIn wsX7_rewind (wsV RX7 28 RX7 yX7_advance wsX7_advance) := goodIn_app (goodIn_of _ (by decide +kernel)) ggX7_rewind_X7_advance
theorem dX7_rewind_0 : decode cX7_rewind 0 = .ok (.aload_n 0, 1) := by decide +kernel
theorem dX7_rewind_1 : decode cX7_rewind 1 = .ok (.iconst 0, 1) := by decide +kernel
theorem dX7_rewind_2 : decode cX7_rewind 2 = .ok (.putfield 21, 3) := by decide +kernel
theorem dX7_rewind_5 : decode cX7_rewind 5 = .ok (.aload_n 0, 1) := by decide +kernel
theorem dX7_rewind_6 : decode cX7_rewind 6 = .ok (.invokevirtual 28, 3) := by decide +kernel
theorem dX7_rewind_9 : decode cX7_rewind 9 = .ok (.return_, 1) := by decide +kernel
set_option maxRecDepth 20000 in
theorem ggX7_advance_X7_sortOf : GoodIn wsX7_advance wsX7_sortOf := goodIn_r _ [9] (by decide +kernel) (by decide +kernel)
set_option maxRecDepth 20000 in
theorem gX7_advance_X7_sortOf : GoodIn wsX7_advance (va_wsS RX7 31 yX7_sortOf wsX7_sortOf) := goodIn_app (goodIn_of _ (by decide +kernel)) ggX7_advance_X7_sortOf
theorem dX7_advance_0 : decode cX7_advance 0 = .ok (.aload_n 0, 1) := by decide +kernel
theorem dX7_advance_1 : decode cX7_advance 1 = .ok (.aload_n 0, 1) := by decide +kernel
theorem dX7_advance_2 : decode cX7_advance 2 = .ok (.getfield 21, 3) := by decide +kernel
theorem dX7_advance_5 : decode cX7_advance 5 = .ok (.putfield 15, 3) := by decide +kernel
theorem dX7_advance_8 : decode cX7_advance 8 = .ok (.aload_n 0, 1) := by decide +kernel
theorem dX7_advance_9 : decode cX7_advance 9 = .ok (.getfield 15, 3) := by decide +kernel
theorem dX7_advance_12 : decode cX7_advance 12 = .ok (.aload_n 0, 1) := by decide +kernel
theorem dX7_advance_13 : decode cX7_advance 13 = .ok (.getfield 9, 3) := by decide +kernel
theorem dX7_advance_16 : decode cX7_advance 16 = .ok (.if_icmp .ge 30, 3) := by decide +kernel
theorem dX7_advance_19 : decode cX7_advance 19 = .ok (.aload_n 0, 1) := by decide +kernel
theorem dX7_advance_20 : decode cX7_advance 20 = .ok (.getfield 24, 3) := by decide +kernel
theorem dX7_advance_23 : decode cX7_advance 23 = .ok (.aload_n 0, 1) := by decide +kernel
theorem dX7_advance_24 : decode cX7_advance 24 = .ok (.getfield 15, 3) := by decide +kernel
theorem dX7_advance_27 : decode cX7_advance 27 = .ok (.iaload, 1) := by decide +kernel
theorem dX7_advance_28 : decode cX7_advance 28 = .ok (.bipush 32, 2) := by decide +kernel
theorem dX7_advance_30 : decode cX7_advance 30 = .ok (.if_icmp .ne 16, 3) := by decide +kernel
theorem dX7_advance_33 : decode cX7_advance 33 = .ok (.aload_n 0, 1) := by decide +kernel
theorem dX7_advance_34 : decode cX7_advance 34 = .ok (.dup, 1) := by decide +kernel
theorem dX7_advance_35 : decode cX7_advance 35 = .ok (.getfield 15, 3) := by decide +kernel
theorem dX7_advance_38 : decode cX7_advance 38 = .ok (.iconst 1, 1) := by decide +kernel
theorem dX7_advance_39 : decode cX7_advance 39 = .ok (.iadd, 1) := by decide +kernel
theorem dX7_advance_40 : decode cX7_advance 40 = .ok (.putfield 15, 3) := by decide +kernel
theorem dX7_advance_43 : decode cX7_advance 43 = .ok (.goto (-35), 3) := by decide +kernel
theorem dX7_advance_46 : decode cX7_advance 46 = .ok (.aload_n 0, 1) := by decide +kernel
theorem dX7_advance_47 : decode cX7_advance 47 = .ok (.aload_n 0, 1) := by decide +kernel
theorem dX7_advance_48 : decode cX7_advance 48 = .ok (.getfield 15, 3) := by decide +kernel
theorem dX7_advance_51 : decode cX7_advance 51 = .ok (.aload_n 0, 1) := by decide +kernel
theorem dX7_advance_52 : decode cX7_advance 52 = .ok (.getfield 9, 3) := by decide +kernel
theorem dX7_advance_55 : decode cX7_advance 55 = .ok (.if_icmp .ge 18, 3) := by decide +kernel
theorem dX7_advance_58 : decode cX7_advance 58 = .ok (.aload_n 0, 1) := by decide +kernel
theorem dX7_advance_59 : decode cX7_advance 59 = .ok (.getfield 24, 3) := by decide +kernel
theorem dX7_advance_62 : decode cX7_advance 62 = .ok (.aload_n 0, 1) := by decide +kernel
theorem dX7_advance_63 : decode cX7_advance 63 = .ok (.getfield 15, 3) := by decide +kernel
theorem dX7_advance_66 : decode cX7_advance 66 = .ok (.iaload, 1) := by decide +kernel
theorem dX7_advance_67 : decode cX7_advance 67 = .ok (.invokestatic 31, 3) := by decide +kernel
theorem dX7_advance_70 : decode cX7_advance 70 = .ok (.goto 4, 3) := by decide +kernel
theorem dX7_advance_73 : decode cX7_advance 73 = .ok (.iconst 0, 1) := by decide +kernel
theorem dX7_advance_74 : decode cX7_advance 74 = .ok (.putfield 18, 3) := by decide +kernel
theorem dX7_advance_77 : decode cX7_advance 77 = .ok (.aload_n 0, 1) := by decide +kernel
theorem dX7_advance_78 : decode cX7_advance 78 = .ok (.aload_n 0, 1) := by decide +kernel
theorem dX7_advance_79 : decode cX7_advance 79 = .ok (.getfield 15, 3) := by decide +kernel
theorem dX7_advance_82 : decode cX7_advance 82 = .ok (.aload_n 0, 1) := by decide +kernel
theorem dX7_advance_83 : decode cX7_advance 83 = .ok (.getfield 9, 3) := by decide +kernel
theorem dX7_advance_86 : decode cX7_advance 86 = .ok (.if_icmp .ge 12, 3) := by decide +kernel
theorem dX7_advance_89 : decode cX7_advance 89 = .ok (.aload_n 0, 1) := by decide +kernel
theorem dX7_advance_90 : decode cX7_advance 90 = .ok (.getfield 15, 3) := by decide +kernel
theorem dX7_advance_93 : decode cX7_advance 93 = .ok (.iconst 1, 1) := by decide +kernel
theorem dX7_advance_94 : decode cX7_advance 94 = .ok (.iadd, 1) := by decide +kernel
theorem dX7_advance_95 : decode cX7_advance 95 = .ok (.goto 7, 3) := by decide +kernel
theorem dX7_advance_98 : decode cX7_advance 98 = .ok (.aload_n 0, 1) := by decide +kernel
theorem dX7_advance_99 : decode cX7_advance 99 = .ok (.getfield 15, 3) := by decide +kernel
theorem dX7_advance_102 : decode cX7_advance 102 = .ok (.putfield 21, 3) := by decide +kernel
theorem dX7_advance_105 : decode cX7_advance 105 = .ok (.aload_n 0, 1) := by decide +kernel
theorem dX7_advance_106 : decode cX7_advance 106 = .ok (.getfield 21, 3) := by decide +kernel
theorem dX7_advance_109 : decode cX7_advance 109 = .ok (.aload_n 0, 1) := by decide +kernel
theorem dX7_advance_110 : decode cX7_advance 110 = .ok (.getfield 9, 3) := by decide +kernel
theorem dX7_advance_113 : decode cX7_advance 113 = .ok (.if_icmp .ge 51, 3) := by decide +kernel
theorem dX7_advance_116 : decode cX7_advance 116 = .ok (.aload_n 0, 1) := by decide +kernel
theorem dX7_advance_117 : decode cX7_advance 117 = .ok (.getfield 18, 3) := by decide +kernel
theorem dX7_advance_120 : decode cX7_advance 120 = .ok (.iconst 1, 1) := by decide +kernel
theorem dX7_advance_121 : decode cX7_advance 121 = .ok (.if_icmp .eq 11, 3) := by decide +kernel
theorem dX7_advance_124 : decode cX7_advance 124 = .ok (.aload_n 0, 1) := by decide +kernel
theorem dX7_advance_125 : decode cX7_advance 125 = .ok (.getfield 18, 3) := by decide +kernel
theorem dX7_advance_128 : decode cX7_advance 128 = .ok (.iconst 2, 1) := by decide +kernel
theorem dX7_advance_129 : decode cX7_advance 129 = .ok (.if_icmp .ne 35, 3) := by decide +kernel
theorem dX7_advance_132 : decode cX7_advance 132 = .ok (.aload_n 0, 1) := by decide +kernel
theorem dX7_advance_133 : decode cX7_advance 133 = .ok (.getfield 24, 3) := by decide +kernel
theorem dX7_advance_136 : decode cX7_advance 136 = .ok (.aload_n 0, 1) := by decide +kernel
theorem dX7_advance_137 : decode cX7_advance 137 = .ok (.getfield 21, 3) := by decide +kernel
theorem dX7_advance_140 : decode cX7_advance 140 = .ok (.iaload, 1) := by decide +kernel
theorem dX7_advance_141 : decode cX7_advance 141 = .ok (.invokestatic 31, 3) := by decide +kernel
theorem dX7_advance_144 : decode cX7_advance 144 = .ok (.aload_n 0, 1) := by decide +kernel
theorem dX7_advance_145 : decode cX7_advance 145 = .ok (.getfield 18, 3) := by decide +kernel
theorem dX7_advance_148 : decode cX7_advance 148 = .ok (.if_icmp .ne 16, 3) := by decide +kernel
theorem dX7_advance_151 : decode cX7_advance 151 = .ok (.aload_n 0, 1) := by decide +kernel
theorem dX7_advance_152 : decode cX7_advance 152 = .ok (.dup, 1) := by decide +kernel
theorem dX7_advance_153 : decode cX7_advance 153 = .ok (.getfield 21, 3) := by decide +kernel
theorem dX7_advance_156 : decode cX7_advance 156 = .ok (.iconst 1, 1) := by decide +kernel
theorem dX7_advance_157 : decode cX7_advance 157 = .ok (.iadd, 1) := by decide +kernel
theorem dX7_advance_158 : decode cX7_advance 158 = .ok (.putfield 21, 3) := by decide +kernel
theorem dX7_advance_161 : decode cX7_advance 161 = .ok (.goto (-56), 3) := by decide +kernel
theorem dX7_advance_164 : decode cX7_advance 164 = .ok (.return_, 1) := by decide +kernel
theorem dX7_sortOf_0 : decode cX7_sortOf 0 = .ok (.iload_n 0, 1) := by decide +kernel
theorem dX7_sortOf_1 : decode cX7_sortOf 1 = .ok (.bipush 97, 2) := by decide +kernel
theorem dX7_sortOf_3 : decode cX7_sortOf 3 = .ok (.if_icmp .lt 11, 3) := by decide +kernel
theorem dX7_sortOf_6 : decode cX7_sortOf 6 = .ok (.iload_n 0, 1) := by decide +kernel
theorem dX7_sortOf_7 : decode cX7_sortOf 7 = .ok (.bipush 122, 2) := by decide +kernel
theorem dX7_sortOf_9 : decode cX7_sortOf 9 = .ok (.if_icmp .gt 5, 3) := by decide +kernel
theorem dX7_sortOf_12 : decode cX7_sortOf 12 = .ok (.iconst 1, 1) := by decide +kernel
theorem dX7_sortOf_13 : decode cX7_sortOf 13 = .ok (.ireturn, 1) := by decide +kernel
theorem dX7_sortOf_14 : decode cX7_sortOf 14 = .ok (.iload_n 0, 1) := by decide +kernel
theorem dX7_sortOf_15 : decode cX7_sortOf 15 = .ok (.bipush 48, 2) := by decide +kernel
theorem dX7_sortOf_17 : decode cX7_sortOf 17 = .ok (.if_icmp .lt 11, 3) := by decide +kernel
theorem dX7_sortOf_20 : decode cX7_sortOf 20 = .ok (.iload_n 0, 1) := by decide +kernel
theorem dX7_sortOf_21 : decode cX7_sortOf 21 = .ok (.bipush 57, 2) := by decide +kernel
theorem dX7_sortOf_23 : decode cX7_sortOf 23 = .ok (.if_icmp .gt 5, 3) := by decide +kernel
theorem dX7_sortOf_26 : decode cX7_sortOf 26 = .ok (.iconst 2, 1) := by decide +kernel
theorem dX7_sortOf_27 : decode cX7_sortOf 27 = .ok (.ireturn, 1) := by decide +kernel
theorem dX7_sortOf_28 : decode cX7_sortOf 28 = .ok (.iload_n 0, 1) := by decide +kernel
theorem dX7_sortOf_29 : decode cX7_sortOf 29 = .ok (.bipush 59, 2) := by decide +kernel
theorem dX7_sortOf_31 : decode cX7_sortOf 31 = .ok (.if_icmp .ne 7, 3) := by decide +kernel
theorem dX7_sortOf_34 : decode cX7_sortOf 34 = .ok (.iconst 3, 1) := by decide +kernel
theorem dX7_sortOf_35 : decode cX7_sortOf 35 = .ok (.goto 4, 3) := by decide +kernel
theorem dX7_sortOf_38 : decode cX7_sortOf 38 = .ok (.iconst 4, 1) := by decide +kernel
theorem dX7_sortOf_39 : decode cX7_sortOf 39 = .ok (.ireturn, 1) := by decide +kernel
set_option maxRecDepth 20000 in
theorem ggX7_isWord_J0_length_8abf5 : GoodIn wsX7_isWord wsJ0_length_8abf5 := goodIn_r _ [9, 10, 11, 12, 13, 8, 14, 15, 16] (by decide +kernel) (by decide +kernel)
set_option maxRecDepth 20000 in
theorem gX7_isWord_J0_length_8abf5 : GoodIn wsX7_isWord (wsV RX7 35 RJ0 yJ0_length_8abf5 wsJ0_length_8abf5) := goodIn_app (goodIn_of _ (by decide +kernel)) ggX7_isWord_J0_length_8abf5
set_option maxRecDepth 20000 in
theorem ggX7_isWord_J0_charAt_5068e : GoodIn wsX7_isWord wsJ0_charAt_5068e := goodIn_r _ [20, 10, 21, 22, 23, 8, 24, 15, 16, 25, 26, 27, 28, 29, 30, 31, 32, 33, 34, 35, 36, 37, 38, 39, 40, 41, 42, 43, 44, 45, 46, 47, 48, 49, 50, 51, 52, 53] (by decide +kernel) (by decide +kernel)
set_option maxRecDepth 20000 in
theorem gX7_isWord_J0_charAt_5068e : GoodIn wsX7_isWord (wsV RX7 41 RJ0 yJ0_charAt_5068e wsJ0_charAt_5068e) := goodIn_app (goodIn_of _ (by decide +kernel)) ggX7_isWord_J0_charAt_5068e
theorem dX7_isWord_0 : decode cX7_isWord 0 = .ok (.aload_n 0, 1) := by decide +kernel
theorem dX7_isWord_1 : decode cX7_isWord 1 = .ok (.getfield 18, 3) := by decide +kernel
theorem dX7_isWord_4 : decode cX7_isWord 4 = .ok (.iconst 1, 1) := by decide +kernel
theorem dX7_isWord_5 : decode cX7_isWord 5 = .ok (.if_icmp .ne 19, 3) := by decide +kernel
theorem dX7_isWord_8 : decode cX7_isWord 8 = .ok (.aload_n 0, 1) := by decide +kernel
theorem dX7_isWord_9 : decode cX7_isWord 9 = .ok (.getfield 21, 3) := by decide +kernel
theorem dX7_isWord_12 : decode cX7_isWord 12 = .ok (.aload_n 0, 1) := by decide +kernel
theorem dX7_isWord_13 : decode cX7_isWord 13 = .ok (.getfield 15, 3) := by decide +kernel
theorem dX7_isWord_16 : decode cX7_isWord 16 = .ok (.isub, 1) := by decide +kernel
theorem dX7_isWord_17 : decode cX7_isWord 17 = .ok (.aload_n 1, 1) := by decide +kernel
theorem dX7_isWord_18 : decode cX7_isWord 18 = .ok (.invokevirtual 35, 3) := by decide +kernel
theorem dX7_isWord_21 : decode cX7_isWord 21 = .ok (.if_icmp .eq 5, 3) := by decide +kernel
theorem dX7_isWord_24 : decode cX7_isWord 24 = .ok (.iconst 0, 1) := by decide +kernel
theorem dX7_isWord_25 : decode cX7_isWord 25 = .ok (.ireturn, 1) := by decide +kernel
theorem dX7_isWord_26 : decode cX7_isWord 26 = .ok (.iconst 0, 1) := by decide +kernel
theorem dX7_isWord_27 : decode cX7_isWord 27 = .ok (.istore_n 2, 1) := by decide +kernel
theorem dX7_isWord_28 : decode cX7_isWord 28 = .ok (.iload_n 2, 1) := by decide +kernel
theorem dX7_isWord_29 : decode cX7_isWord 29 = .ok (.aload_n 1, 1) := by decide +kernel
theorem dX7_isWord_30 : decode cX7_isWord 30 = .ok (.invokevirtual 35, 3) := by decide +kernel
theorem dX7_isWord_33 : decode cX7_isWord 33 = .ok (.if_icmp .ge 30, 3) := by decide +kernel
theorem dX7_isWord_36 : decode cX7_isWord 36 = .ok (.aload_n 0, 1) := by decide +kernel
theorem dX7_isWord_37 : decode cX7_isWord 37 = .ok (.getfield 24, 3) := by decide +kernel
theorem dX7_isWord_40 : decode cX7_isWord 40 = .ok (.aload_n 0, 1) := by decide +kernel
theorem dX7_isWord_41 : decode cX7_isWord 41 = .ok (.getfield 15, 3) := by decide +kernel
theorem dX7_isWord_44 : decode cX7_isWord 44 = .ok (.iload_n 2, 1) := by decide +kernel
theorem dX7_isWord_45 : decode cX7_isWord 45 = .ok (.iadd, 1) := by decide +kernel
theorem dX7_isWord_46 : decode cX7_isWord 46 = .ok (.iaload, 1) := by decide +kernel
theorem dX7_isWord_47 : decode cX7_isWord 47 = .ok (.aload_n 1, 1) := by decide +kernel
theorem dX7_isWord_48 : decode cX7_isWord 48 = .ok (.iload_n 2, 1) := by decide +kernel
theorem dX7_isWord_49 : decode cX7_isWord 49 = .ok (.invokevirtual 41, 3) := by decide +kernel
theorem dX7_isWord_52 : decode cX7_isWord 52 = .ok (.if_icmp .eq 5, 3) := by decide +kernel
theorem dX7_isWord_55 : decode cX7_isWord 55 = .ok (.iconst 0, 1) := by decide +kernel
theorem dX7_isWord_56 : decode cX7_isWord 56 = .ok (.ireturn, 1) := by decide +kernel
theorem dX7_isWord_57 : decode cX7_isWord 57 = .ok (.iinc 2 1, 3) := by decide +kernel
theorem dX7_isWord_60 : decode cX7_isWord 60 = .ok (.goto (-32), 3) := by decide +kernel
theorem dX7_isWord_63 : decode cX7_isWord 63 = .ok (.iconst 1, 1) := by decide +kernel
theorem dX7_isWord_64 : decode cX7_isWord 64 = .ok (.ireturn, 1) := by decide +kernel
theorem dX7_number_0 : decode cX7_number 0 = .ok (.aload_n 0, 1) := by decide +kernel
theorem dX7_number_1 : decode cX7_number 1 = .ok (.getfield 18, 3) := by decide +kernel
theorem dX7_number_4 : decode cX7_number 4 = .ok (.iconst 2, 1) := by decide +kernel
theorem dX7_number_5 : decode cX7_number 5 = .ok (.if_icmp .ne 16, 3) := by decide +kernel
theorem dX7_number_8 : decode cX7_number 8 = .ok (.aload_n 0, 1) := by decide +kernel
theorem dX7_number_9 : decode cX7_number 9 = .ok (.getfield 21, 3) := by decide +kernel
theorem dX7_number_12 : decode cX7_number 12 = .ok (.aload_n 0, 1) := by decide +kernel
theorem dX7_number_13 : decode cX7_number 13 = .ok (.getfield 15, 3) := by decide +kernel
theorem dX7_number_16 : decode cX7_number 16 = .ok (.isub, 1) := by decide +kernel
theorem dX7_number_17 : decode cX7_number 17 = .ok (.iconst 3, 1) := by decide +kernel
theorem dX7_number_18 : decode cX7_number 18 = .ok (.if_icmp .le 5, 3) := by decide +kernel
theorem dX7_number_21 : decode cX7_number 21 = .ok (.iconst (-1), 1) := by decide +kernel
theorem dX7_number_22 : decode cX7_number 22 = .ok (.ireturn, 1) := by decide +kernel
theorem dX7_number_23 : decode cX7_number 23 = .ok (.iconst 0, 1) := by decide +kernel
theorem dX7_number_24 : decode cX7_number 24 = .ok (.istore_n 1, 1) := by decide +kernel
theorem dX7_number_25 : decode cX7_number 25 = .ok (.aload_n 0, 1) := by decide +kernel
theorem dX7_number_26 : decode cX7_number 26 = .ok (.getfield 15, 3) := by decide +kernel
theorem dX7_number_29 : decode cX7_number 29 = .ok (.istore_n 2, 1) := by decide +kernel
theorem dX7_number_30 : decode cX7_number 30 = .ok (.iload_n 2, 1) := by decide +kernel
theorem dX7_number_31 : decode cX7_number 31 = .ok (.aload_n 0, 1) := by decide +kernel
theorem dX7_number_32 : decode cX7_number 32 = .ok (.getfield 21, 3) := by decide +kernel
theorem dX7_number_35 : decode cX7_number 35 = .ok (.if_icmp .ge 24, 3) := by decide +kernel
theorem dX7_number_38 : decode cX7_number 38 = .ok (.bipush 10, 2) := by decide +kernel
theorem dX7_number_40 : decode cX7_number 40 = .ok (.iload_n 1, 1) := by decide +kernel
theorem dX7_number_41 : decode cX7_number 41 = .ok (.imul, 1) := by decide +kernel
theorem dX7_number_42 : decode cX7_number 42 = .ok (.aload_n 0, 1) := by decide +kernel
theorem dX7_number_43 : decode cX7_number 43 = .ok (.getfield 24, 3) := by decide +kernel
theorem dX7_number_46 : decode cX7_number 46 = .ok (.iload_n 2, 1) := by decide +kernel
theorem dX7_number_47 : decode cX7_number 47 = .ok (.iaload, 1) := by decide +kernel
theorem dX7_number_48 : decode cX7_number 48 = .ok (.iadd, 1) := by decide +kernel
theorem dX7_number_49 : decode cX7_number 49 = .ok (.bipush 48, 2) := by decide +kernel
theorem dX7_number_51 : decode cX7_number 51 = .ok (.isub, 1) := by decide +kernel
theorem dX7_number_52 : decode cX7_number 52 = .ok (.istore_n 1, 1) := by decide +kernel
theorem dX7_number_53 : decode cX7_number 53 = .ok (.iinc 2 1, 3) := by decide +kernel
theorem dX7_number_56 : decode cX7_number 56 = .ok (.goto (-26), 3) := by decide +kernel
theorem dX7_number_59 : decode cX7_number 59 = .ok (.iload_n 1, 1) := by decide +kernel
theorem dX7_number_60 : decode cX7_number 60 = .ok (.ireturn, 1) := by decide +kernel
set_option maxRecDepth 20000 in
theorem ggX8_init_X2_init : GoodIn wsX8_init wsX2_init := goodIn_r _ [31, 32, 2, 3, 33, 34, 35, 36, 37, 38, 39, 40, 41, 42, 43, 44, 45, 46, 47, 48, 49, 21, 50, 51, 52, 53, 54, 55, 56, 57, 58, 59, 60, 61, 62, 63, 64, 65, 66, 67, 68, 138, 139, 140, 141, 142, 143, 107, 108, 109, 110, 111, 112, 113, 114] (by decide +kernel) (by decide +kernel)
set_option maxRecDepth 20000 in
theorem gX8_init_X2_init : GoodIn wsX8_init (wsX2_init) := ggX8_init_X2_init
set_option maxRecDepth 20000 in
theorem ggX8_init_X7_init : GoodIn wsX8_init wsX7_init := goodIn_r _ [70, 71, 2, 3, 72, 73, 74, 75, 21, 76, 127, 128, 129, 130, 131] (by decide +kernel) (by decide +kernel)
set_option maxRecDepth 20000 in
theorem gX8_init_X7_init_n34 : GoodIn wsX8_init (wsX7_init) := ggX8_init_X7_init
set_option maxRecDepth 20000 in
theorem ggX8_init_X1_init : GoodIn wsX8_init wsX1_init := goodIn_r _ [78, 79, 2, 3, 80, 42, 81, 82, 132, 133, 134] (by decide +kernel) (by decide +kernel)
set_option maxRecDepth 20000 in
theorem gX8_init_X1_init_n41 : GoodIn wsX8_init (wsX1_init) := ggX8_init_X1_init
set_option maxRecDepth 20000 in
theorem ggX8_init_X6_init : GoodIn wsX8_init wsX6_init := goodIn_r _ [84, 85, 2, 3, 86, 87, 88, 89, 90, 91, 92, 93, 94, 95, 96, 97, 98, 99, 42, 100, 101, 102, 103, 104, 105, 106, 135, 136, 137, 144, 145, 146, 147, 148, 149] (by decide +kernel) (by decide +kernel)
set_option maxRecDepth 20000 in
theorem gX8_init_X6_init_n63 : GoodIn wsX8_init (wsX6_init) := ggX8_init_X6_init
theorem dX8_init_0 : decode cX8_init 0 = .ok (.aload_n 0, 1) := by decide +kernel
theorem dX8_init_1 : decode cX8_init 1 = .ok (.invokespecial 1, 3) := by decide +kernel
theorem dX8_init_4 : decode cX8_init 4 = .ok (.aload_n 0, 1) := by decide +kernel
theorem dX8_init_5 : decode cX8_init 5 = .ok (.new 7, 3) := by decide +kernel
theorem dX8_init_8 : decode cX8_init 8 = .ok (.dup, 1) := by decide +kernel
theorem dX8_init_9 : decode cX8_init 9 = .ok (.invokespecial 9, 3) := by decide +kernel
theorem dX8_init_12 : decode cX8_init 12 = .ok (.putfield 10, 3) := by decide +kernel
theorem dX8_init_15 : decode cX8_init 15 = .ok (.aload_n 0, 1) := by decide +kernel
theorem dX8_init_16 : decode cX8_init 16 = .ok (.new 7, 3) := by decide +kernel
theorem dX8_init_19 : decode cX8_init 19 = .ok (.dup, 1) := by decide +kernel
theorem dX8_init_20 : decode cX8_init 20 = .ok (.invokespecial 9, 3) := by decide +kernel
theorem dX8_init_23 : decode cX8_init 23 = .ok (.putfield 16, 3) := by decide +kernel
theorem dX8_init_26 : decode cX8_init 26 = .ok (.aload_n 0, 1) := by decide +kernel
theorem dX8_init_27 : decode cX8_init 27 = .ok (.new 7, 3) := by decide +kernel
theorem dX8_init_30 : decode cX8_init 30 = .ok (.dup, 1) := by decide +kernel
theorem dX8_init_31 : decode cX8_init 31 = .ok (.invokespecial 9, 3) := by decide +kernel
theorem dX8_init_34 : decode cX8_init 34 = .ok (.putfield 19, 3) := by decide +kernel
theorem dX8_init_37 : decode cX8_init 37 = .ok (.aload_n 0, 1) := by decide +kernel
theorem dX8_init_38 : decode cX8_init 38 = .ok (.iconst 0, 1) := by decide +kernel
theorem dX8_init_39 : decode cX8_init 39 = .ok (.putfield 22, 3) := by decide +kernel
theorem dX8_init_42 : decode cX8_init 42 = .ok (.aload_n 0, 1) := by decide +kernel
theorem dX8_init_43 : decode cX8_init 43 = .ok (.bipush 8, 2) := by decide +kernel
theorem dX8_init_45 : decode cX8_init 45 = .ok (.anewarray 26, 3) := by decide +kernel
theorem dX8_init_48 : decode cX8_init 48 = .ok (.putfield 28, 3) := by decide +kernel
theorem dX8_init_51 : decode cX8_init 51 = .ok (.aload_n 0, 1) := by decide +kernel
theorem dX8_init_52 : decode cX8_init 52 = .ok (.new 32, 3) := by decide +kernel
theorem dX8_init_55 : decode cX8_init 55 = .ok (.dup, 1) := by decide +kernel
theorem dX8_init_56 : decode cX8_init 56 = .ok (.invokespecial 34, 3) := by decide +kernel
theorem dX8_init_59 : decode cX8_init 59 = .ok (.putfield 35, 3) := by decide +kernel
theorem dX8_init_62 : decode cX8_init 62 = .ok (.aload_n 0, 1) := by decide +kernel
theorem dX8_init_63 : decode cX8_init 63 = .ok (.new 39, 3) := by decide +kernel
theorem dX8_init_66 : decode cX8_init 66 = .ok (.dup, 1) := by decide +kernel
theorem dX8_init_67 : decode cX8_init 67 = .ok (.invokespecial 41, 3) := by decide +kernel
theorem dX8_init_70 : decode cX8_init 70 = .ok (.putfield 42, 3) := by decide +kernel
theorem dX8_init_73 : decode cX8_init 73 = .ok (.aload_n 0, 1) := by decide +kernel
theorem dX8_init_74 : decode cX8_init 74 = .ok (.iconst 5, 1) := by decide +kernel
theorem dX8_init_75 : decode cX8_init 75 = .ok (.newarray .int, 2) := by decide +kernel
theorem dX8_init_77 : decode cX8_init 77 = .ok (.putfield 46, 3) := by decide +kernel
theorem dX8_init_80 : decode cX8_init 80 = .ok (.aload_n 0, 1) := by decide +kernel
theorem dX8_init_81 : decode cX8_init 81 = .ok (.bipush 8, 2) := by decide +kernel
theorem dX8_init_83 : decode cX8_init 83 = .ok (.newarray .int, 2) := by decide +kernel
theorem dX8_init_85 : decode cX8_init 85 = .ok (.putfield 50, 3) := by decide +kernel
theorem dX8_init_88 : decode cX8_init 88 = .ok (.aload_n 0, 1) := by decide +kernel
theorem dX8_init_89 : decode cX8_init 89 = .ok (.bipush 8, 2) := by decide +kernel
theorem dX8_init_91 : decode cX8_init 91 = .ok (.newarray .int, 2) := by decide +kernel
theorem dX8_init_93 : decode cX8_init 93 = .ok (.putfield 53, 3) := by decide +kernel
theorem dX8_init_96 : decode cX8_init 96 = .ok (.aload_n 0, 1) := by decide +kernel
theorem dX8_init_97 : decode cX8_init 97 = .ok (.iconst 0, 1) := by decide +kernel
theorem dX8_init_98 : decode cX8_init 98 = .ok (.putfield 56, 3) := by decide +kernel
theorem dX8_init_101 : decode cX8_init 101 = .ok (.aload_n 0, 1) := by decide +kernel
theorem dX8_init_102 : decode cX8_init 102 = .ok (.iconst 0, 1) := by decide +kernel
theorem dX8_init_103 : decode cX8_init 103 = .ok (.putfield 60, 3) := by decide +kernel
theorem dX8_init_106 : decode cX8_init 106 = .ok (.iconst 0, 1) := by decide +kernel
theorem dX8_init_107 : decode cX8_init 107 = .ok (.istore_n 1, 1) := by decide +kernel
theorem dX8_init_108 : decode cX8_init 108 = .ok (.iload_n 1, 1) := by decide +kernel
theorem dX8_init_109 : decode cX8_init 109 = .ok (.aload_n 0, 1) := by decide +kernel
theorem dX8_init_110 : decode cX8_init 110 = .ok (.getfield 28, 3) := by decide +kernel
theorem dX8_init_113 : decode cX8_init 113 = .ok (.arraylength, 1) := by decide +kernel
theorem dX8_init_114 : decode cX8_init 114 = .ok (.if_icmp .ge 22, 3) := by decide +kernel
theorem dX8_init_117 : decode cX8_init 117 = .ok (.aload_n 0, 1) := by decide +kernel
theorem dX8_init_118 : decode cX8_init 118 = .ok (.getfield 28, 3) := by decide +kernel
theorem dX8_init_121 : decode cX8_init 121 = .ok (.iload_n 1, 1) := by decide +kernel
theorem dX8_init_122 : decode cX8_init 122 = .ok (.new 26, 3) := by decide +kernel
theorem dX8_init_125 : decode cX8_init 125 = .ok (.dup, 1) := by decide +kernel
theorem dX8_init_126 : decode cX8_init 126 = .ok (.invokespecial 63, 3) := by decide +kernel
theorem dX8_init_129 : decode cX8_init 129 = .ok (.aastore, 1) := by decide +kernel
theorem dX8_init_130 : decode cX8_init 130 = .ok (.iinc 1 1, 3) := by decide +kernel
theorem dX8_init_133 : decode cX8_init 133 = .ok (.goto (-25), 3) := by decide +kernel
theorem dX8_init_136 : decode cX8_init 136 = .ok (.return_, 1) := by decide +kernel
set_option maxRecDepth 20000 in
theorem ggX8_row_X8_isShelf : GoodIn wsX8_row wsX8_isShelf := goodIn_r _ [7] (by decide +kernel) (by decide +kernel)
set_option maxRecDepth 20000 in
theorem gX8_row_X8_isShelf : GoodIn wsX8_row (va_wsS RX8 64 yX8_isShelf wsX8_isShelf) := goodIn_app (goodIn_of _ (by decide +kernel)) ggX8_row_X8_isShelf
set_option maxRecDepth 20000 in
theorem ggX8_row_X8_refuse : GoodIn wsX8_row wsX8_refuse := goodIn_r _ [11, 12, 25, 26, 27, 28, 29, 30, 31, 32, 33, 34, 35, 36] (by decide +kernel) (by decide +kernel)
set_option maxRecDepth 20000 in
theorem gX8_row_X8_refuse : GoodIn wsX8_row (wsV RX8 68 RX8 yX8_refuse wsX8_refuse) := goodIn_app (goodIn_of _ (by decide +kernel)) ggX8_row_X8_refuse
set_option maxRecDepth 20000 in
theorem ggX8_row_X5_become : GoodIn wsX8_row wsX5_become := goodIn_r _ [17, 18, 19, 20, 21, 22, 23, 24, 40, 41, 42] (by decide +kernel) (by decide +kernel)
set_option maxRecDepth 20000 in
theorem gX8_row_X5_become : GoodIn wsX8_row (wsV RX8 79 RX5 yX5_become wsX5_become) := goodIn_app (goodIn_of _ (by decide +kernel)) ggX8_row_X5_become
theorem dX8_row_0 : decode cX8_row 0 = .ok (.iload_n 1, 1) := by decide +kernel
theorem dX8_row_1 : decode cX8_row 1 = .ok (.invokestatic 64, 3) := by decide +kernel
theorem dX8_row_4 : decode cX8_row 4 = .ok (.ifCond .eq 22, 3) := by decide +kernel
theorem dX8_row_7 : decode cX8_row 7 = .ok (.iload_n 2, 1) := by decide +kernel
theorem dX8_row_8 : decode cX8_row 8 = .ok (.ifCond .lt 18, 3) := by decide +kernel
theorem dX8_row_11 : decode cX8_row 11 = .ok (.iload_n 2, 1) := by decide +kernel
theorem dX8_row_12 : decode cX8_row 12 = .ok (.iconst 4, 1) := by decide +kernel
theorem dX8_row_13 : decode cX8_row 13 = .ok (.if_icmp .gt 13, 3) := by decide +kernel
theorem dX8_row_16 : decode cX8_row 16 = .ok (.iload_n 3, 1) := by decide +kernel
theorem dX8_row_17 : decode cX8_row 17 = .ok (.ifCond .lt 9, 3) := by decide +kernel
theorem dX8_row_20 : decode cX8_row 20 = .ok (.iload_n 3, 1) := by decide +kernel
theorem dX8_row_21 : decode cX8_row 21 = .ok (.bipush 40, 2) := by decide +kernel
theorem dX8_row_23 : decode cX8_row 23 = .ok (.if_icmp .le 10, 3) := by decide +kernel
theorem dX8_row_26 : decode cX8_row 26 = .ok (.aload_n 0, 1) := by decide +kernel
theorem dX8_row_27 : decode cX8_row 27 = .ok (.bipush (-2), 2) := by decide +kernel
theorem dX8_row_29 : decode cX8_row 29 = .ok (.invokevirtual 68, 3) := by decide +kernel
theorem dX8_row_32 : decode cX8_row 32 = .ok (.ireturn, 1) := by decide +kernel
theorem dX8_row_33 : decode cX8_row 33 = .ok (.aload_n 0, 1) := by decide +kernel
theorem dX8_row_34 : decode cX8_row 34 = .ok (.getfield 28, 3) := by decide +kernel
theorem dX8_row_37 : decode cX8_row 37 = .ok (.iload_n 1, 1) := by decide +kernel
theorem dX8_row_38 : decode cX8_row 38 = .ok (.aaload, 1) := by decide +kernel
theorem dX8_row_39 : decode cX8_row 39 = .ok (.iload_n 2, 1) := by decide +kernel
theorem dX8_row_40 : decode cX8_row 40 = .ok (.putfield 72, 3) := by decide +kernel
theorem dX8_row_43 : decode cX8_row 43 = .ok (.aload_n 0, 1) := by decide +kernel
theorem dX8_row_44 : decode cX8_row 44 = .ok (.getfield 28, 3) := by decide +kernel
theorem dX8_row_47 : decode cX8_row 47 = .ok (.iload_n 1, 1) := by decide +kernel
theorem dX8_row_48 : decode cX8_row 48 = .ok (.aaload, 1) := by decide +kernel
theorem dX8_row_49 : decode cX8_row 49 = .ok (.getfield 75, 3) := by decide +kernel
theorem dX8_row_52 : decode cX8_row 52 = .ok (.iload_n 2, 1) := by decide +kernel
theorem dX8_row_53 : decode cX8_row 53 = .ok (.iload_n 3, 1) := by decide +kernel
theorem dX8_row_54 : decode cX8_row 54 = .ok (.invokevirtual 79, 3) := by decide +kernel
theorem dX8_row_57 : decode cX8_row 57 = .ok (.iconst 1, 1) := by decide +kernel
theorem dX8_row_58 : decode cX8_row 58 = .ok (.ireturn, 1) := by decide +kernel
set_option maxRecDepth 20000 in
theorem ggX8_set_X8_rowRefusal : GoodIn wsX8_set wsX8_rowRefusal := goodIn_r _ [9, 1, 10, 11, 8, 12, 13, 14, 15, 16, 17, 18, 19, 20, 21, 22, 34, 35, 36, 37, 38, 39, 40, 41, 42, 43, 44, 45, 46, 47, 48] (by decide +kernel) (by decide +kernel)
set_option maxRecDepth 20000 in
theorem gX8_set_X8_rowRefusal : GoodIn wsX8_set (wsV RX8 85 RX8 yX8_rowRefusal wsX8_rowRefusal) := goodIn_app (goodIn_of _ (by decide +kernel)) ggX8_set_X8_rowRefusal
set_option maxRecDepth 20000 in
theorem ggX8_set_X8_refuse : GoodIn wsX8_set wsX8_refuse := goodIn_r _ [26, 27, 34, 35, 36, 37, 38, 39, 40, 41, 42, 43, 44, 45] (by decide +kernel) (by decide +kernel)
set_option maxRecDepth 20000 in
theorem gX8_set_X8_refuse : GoodIn wsX8_set (wsV RX8 68 RX8 yX8_refuse wsX8_refuse) := goodIn_app (goodIn_of _ (by decide +kernel)) ggX8_set_X8_refuse
set_option maxRecDepth 20000 in
theorem ggX8_set_X5_fitted : GoodIn wsX8_set wsX5_fitted := goodIn_r _ [32, 33, 49, 50, 51] (by decide +kernel) (by decide +kernel)
set_option maxRecDepth 20000 in
theorem gX8_set_X5_fitted : GoodIn wsX8_set (wsV RX8 95 RX5 yX5_fitted wsX5_fitted) := goodIn_app (goodIn_of _ (by decide +kernel)) ggX8_set_X5_fitted
theorem dX8_set_0 : decode cX8_set 0 = .ok (.aload_n 0, 1) := by decide +kernel
theorem dX8_set_1 : decode cX8_set 1 = .ok (.iload_n 1, 1) := by decide +kernel
theorem dX8_set_2 : decode cX8_set 2 = .ok (.invokevirtual 85, 3) := by decide +kernel
theorem dX8_set_5 : decode cX8_set 5 = .ok (.istore 5, 2) := by decide +kernel
theorem dX8_set_7 : decode cX8_set 7 = .ok (.iload 5, 2) := by decide +kernel
theorem dX8_set_9 : decode cX8_set 9 = .ok (.ifCond .eq 10, 3) := by decide +kernel
theorem dX8_set_12 : decode cX8_set 12 = .ok (.aload_n 0, 1) := by decide +kernel
theorem dX8_set_13 : decode cX8_set 13 = .ok (.iload 5, 2) := by decide +kernel
theorem dX8_set_15 : decode cX8_set 15 = .ok (.invokevirtual 68, 3) := by decide +kernel
theorem dX8_set_18 : decode cX8_set 18 = .ok (.ireturn, 1) := by decide +kernel
theorem dX8_set_19 : decode cX8_set 19 = .ok (.aload_n 0, 1) := by decide +kernel
theorem dX8_set_20 : decode cX8_set 20 = .ok (.getfield 28, 3) := by decide +kernel
theorem dX8_set_23 : decode cX8_set 23 = .ok (.iload_n 1, 1) := by decide +kernel
theorem dX8_set_24 : decode cX8_set 24 = .ok (.aaload, 1) := by decide +kernel
theorem dX8_set_25 : decode cX8_set 25 = .ok (.getfield 75, 3) := by decide +kernel
theorem dX8_set_28 : decode cX8_set 28 = .ok (.astore 6, 2) := by decide +kernel
theorem dX8_set_30 : decode cX8_set 30 = .ok (.iload_n 2, 1) := by decide +kernel
theorem dX8_set_31 : decode cX8_set 31 = .ok (.ifCond .lt 12, 3) := by decide +kernel
theorem dX8_set_34 : decode cX8_set 34 = .ok (.iload_n 2, 1) := by decide +kernel
theorem dX8_set_35 : decode cX8_set 35 = .ok (.aload 6, 2) := by decide +kernel
theorem dX8_set_37 : decode cX8_set 37 = .ok (.getfield 88, 3) := by decide +kernel
theorem dX8_set_40 : decode cX8_set 40 = .ok (.if_icmp .lt 10, 3) := by decide +kernel
theorem dX8_set_43 : decode cX8_set 43 = .ok (.aload_n 0, 1) := by decide +kernel
theorem dX8_set_44 : decode cX8_set 44 = .ok (.bipush (-2), 2) := by decide +kernel
theorem dX8_set_46 : decode cX8_set 46 = .ok (.invokevirtual 68, 3) := by decide +kernel
theorem dX8_set_49 : decode cX8_set 49 = .ok (.ireturn, 1) := by decide +kernel
theorem dX8_set_50 : decode cX8_set 50 = .ok (.aload 6, 2) := by decide +kernel
theorem dX8_set_52 : decode cX8_set 52 = .ok (.getfield 91, 3) := by decide +kernel
theorem dX8_set_55 : decode cX8_set 55 = .ok (.iload_n 2, 1) := by decide +kernel
theorem dX8_set_56 : decode cX8_set 56 = .ok (.aload 6, 2) := by decide +kernel
theorem dX8_set_58 : decode cX8_set 58 = .ok (.lload_n 3, 1) := by decide +kernel
theorem dX8_set_59 : decode cX8_set 59 = .ok (.invokevirtual 95, 3) := by decide +kernel
theorem dX8_set_62 : decode cX8_set 62 = .ok (.lastore, 1) := by decide +kernel
theorem dX8_set_63 : decode cX8_set 63 = .ok (.iconst 1, 1) := by decide +kernel
theorem dX8_set_64 : decode cX8_set 64 = .ok (.ireturn, 1) := by decide +kernel
set_option maxRecDepth 20000 in
theorem ggX8_copy_X8_isShelf : GoodIn wsX8_copy wsX8_isShelf := goodIn_r _ [12] (by decide +kernel) (by decide +kernel)
set_option maxRecDepth 20000 in
theorem gX8_copy_X8_isShelf : GoodIn wsX8_copy (va_wsS RX8 64 yX8_isShelf wsX8_isShelf) := goodIn_app (goodIn_of _ (by decide +kernel)) ggX8_copy_X8_isShelf
set_option maxRecDepth 20000 in
theorem ggX8_copy_X8_refuse : GoodIn wsX8_copy wsX8_refuse := goodIn_r _ [16, 17, 34, 35, 36, 37, 38, 39, 40, 41, 42, 43, 44, 45] (by decide +kernel) (by decide +kernel)
set_option maxRecDepth 20000 in
theorem gX8_copy_X8_refuse : GoodIn wsX8_copy (wsV RX8 68 RX8 yX8_refuse wsX8_refuse) := goodIn_app (goodIn_of _ (by decide +kernel)) ggX8_copy_X8_refuse
set_option maxRecDepth 20000 in
theorem ggX8_copy_X6_isMove : GoodIn wsX8_copy wsX6_isMove := goodIn_r _ [22, 23, 46, 47, 48] (by decide +kernel) (by decide +kernel)
set_option maxRecDepth 20000 in
theorem gX8_copy_X6_isMove : GoodIn wsX8_copy (wsV RX8 99 RX6 yX6_isMove wsX6_isMove) := goodIn_app (goodIn_of _ (by decide +kernel)) ggX8_copy_X6_isMove
set_option maxRecDepth 20000 in
theorem ggX8_copy_X6_isRow : GoodIn wsX8_copy wsX6_isRow := goodIn_r _ [27, 23, 46, 47, 48] (by decide +kernel) (by decide +kernel)
set_option maxRecDepth 20000 in
theorem gX8_copy_X6_isRow : GoodIn wsX8_copy (wsV RX8 103 RX6 yX6_isRow wsX6_isRow) := goodIn_app (goodIn_of _ (by decide +kernel)) ggX8_copy_X6_isRow
set_option maxRecDepth 20000 in
theorem ggX8_copy_X5_hasRun : GoodIn wsX8_copy wsX5_hasRun := goodIn_r _ [32, 33, 49, 50, 51] (by decide +kernel) (by decide +kernel)
set_option maxRecDepth 20000 in
theorem gX8_copy_X5_hasRun : GoodIn wsX8_copy (wsV RX8 106 RX5 yX5_hasRun wsX5_hasRun) := goodIn_app (goodIn_of _ (by decide +kernel)) ggX8_copy_X5_hasRun
theorem dX8_copy_0 : decode cX8_copy 0 = .ok (.iload_n 1, 1) := by decide +kernel
theorem dX8_copy_1 : decode cX8_copy 1 = .ok (.invokestatic 64, 3) := by decide +kernel
theorem dX8_copy_4 : decode cX8_copy 4 = .ok (.ifCond .eq 10, 3) := by decide +kernel
theorem dX8_copy_7 : decode cX8_copy 7 = .ok (.iload_n 2, 1) := by decide +kernel
theorem dX8_copy_8 : decode cX8_copy 8 = .ok (.invokestatic 64, 3) := by decide +kernel
theorem dX8_copy_11 : decode cX8_copy 11 = .ok (.ifCond .ne 10, 3) := by decide +kernel
theorem dX8_copy_14 : decode cX8_copy 14 = .ok (.aload_n 0, 1) := by decide +kernel
theorem dX8_copy_15 : decode cX8_copy 15 = .ok (.bipush (-2), 2) := by decide +kernel
theorem dX8_copy_17 : decode cX8_copy 17 = .ok (.invokevirtual 68, 3) := by decide +kernel
theorem dX8_copy_20 : decode cX8_copy 20 = .ok (.ireturn, 1) := by decide +kernel
theorem dX8_copy_21 : decode cX8_copy 21 = .ok (.aload_n 0, 1) := by decide +kernel
theorem dX8_copy_22 : decode cX8_copy 22 = .ok (.getfield 28, 3) := by decide +kernel
theorem dX8_copy_25 : decode cX8_copy 25 = .ok (.iload_n 1, 1) := by decide +kernel
theorem dX8_copy_26 : decode cX8_copy 26 = .ok (.aaload, 1) := by decide +kernel
theorem dX8_copy_27 : decode cX8_copy 27 = .ok (.astore 6, 2) := by decide +kernel
theorem dX8_copy_29 : decode cX8_copy 29 = .ok (.aload_n 0, 1) := by decide +kernel
theorem dX8_copy_30 : decode cX8_copy 30 = .ok (.getfield 28, 3) := by decide +kernel
theorem dX8_copy_33 : decode cX8_copy 33 = .ok (.iload_n 2, 1) := by decide +kernel
theorem dX8_copy_34 : decode cX8_copy 34 = .ok (.aaload, 1) := by decide +kernel
theorem dX8_copy_35 : decode cX8_copy 35 = .ok (.astore 7, 2) := by decide +kernel
theorem dX8_copy_37 : decode cX8_copy 37 = .ok (.aload 6, 2) := by decide +kernel
theorem dX8_copy_39 : decode cX8_copy 39 = .ok (.invokevirtual 99, 3) := by decide +kernel
theorem dX8_copy_42 : decode cX8_copy 42 = .ok (.ifCond .ne 11, 3) := by decide +kernel
theorem dX8_copy_45 : decode cX8_copy 45 = .ok (.aload 7, 2) := by decide +kernel
theorem dX8_copy_47 : decode cX8_copy 47 = .ok (.invokevirtual 99, 3) := by decide +kernel
theorem dX8_copy_50 : decode cX8_copy 50 = .ok (.ifCond .eq 10, 3) := by decide +kernel
theorem dX8_copy_53 : decode cX8_copy 53 = .ok (.aload_n 0, 1) := by decide +kernel
theorem dX8_copy_54 : decode cX8_copy 54 = .ok (.bipush (-3), 2) := by decide +kernel
theorem dX8_copy_56 : decode cX8_copy 56 = .ok (.invokevirtual 68, 3) := by decide +kernel
theorem dX8_copy_59 : decode cX8_copy 59 = .ok (.ireturn, 1) := by decide +kernel
theorem dX8_copy_60 : decode cX8_copy 60 = .ok (.aload 6, 2) := by decide +kernel
theorem dX8_copy_62 : decode cX8_copy 62 = .ok (.invokevirtual 103, 3) := by decide +kernel
theorem dX8_copy_65 : decode cX8_copy 65 = .ok (.ifCond .eq 31, 3) := by decide +kernel
theorem dX8_copy_68 : decode cX8_copy 68 = .ok (.aload 7, 2) := by decide +kernel
theorem dX8_copy_70 : decode cX8_copy 70 = .ok (.invokevirtual 103, 3) := by decide +kernel
theorem dX8_copy_73 : decode cX8_copy 73 = .ok (.ifCond .eq 23, 3) := by decide +kernel
theorem dX8_copy_76 : decode cX8_copy 76 = .ok (.aload 6, 2) := by decide +kernel
theorem dX8_copy_78 : decode cX8_copy 78 = .ok (.getfield 72, 3) := by decide +kernel
theorem dX8_copy_81 : decode cX8_copy 81 = .ok (.aload 7, 2) := by decide +kernel
theorem dX8_copy_83 : decode cX8_copy 83 = .ok (.getfield 72, 3) := by decide +kernel
theorem dX8_copy_86 : decode cX8_copy 86 = .ok (.if_icmp .eq 10, 3) := by decide +kernel
theorem dX8_copy_89 : decode cX8_copy 89 = .ok (.aload_n 0, 1) := by decide +kernel
theorem dX8_copy_90 : decode cX8_copy 90 = .ok (.bipush (-3), 2) := by decide +kernel
theorem dX8_copy_92 : decode cX8_copy 92 = .ok (.invokevirtual 68, 3) := by decide +kernel
theorem dX8_copy_95 : decode cX8_copy 95 = .ok (.ireturn, 1) := by decide +kernel
theorem dX8_copy_96 : decode cX8_copy 96 = .ok (.aload 6, 2) := by decide +kernel
theorem dX8_copy_98 : decode cX8_copy 98 = .ok (.invokevirtual 103, 3) := by decide +kernel
theorem dX8_copy_101 : decode cX8_copy 101 = .ok (.ifCond .eq 11, 3) := by decide +kernel
theorem dX8_copy_104 : decode cX8_copy 104 = .ok (.aload 7, 2) := by decide +kernel
theorem dX8_copy_106 : decode cX8_copy 106 = .ok (.invokevirtual 103, 3) := by decide +kernel
theorem dX8_copy_109 : decode cX8_copy 109 = .ok (.ifCond .ne 10, 3) := by decide +kernel
theorem dX8_copy_112 : decode cX8_copy 112 = .ok (.aload_n 0, 1) := by decide +kernel
theorem dX8_copy_113 : decode cX8_copy 113 = .ok (.bipush (-4), 2) := by decide +kernel
theorem dX8_copy_115 : decode cX8_copy 115 = .ok (.invokevirtual 68, 3) := by decide +kernel
theorem dX8_copy_118 : decode cX8_copy 118 = .ok (.ireturn, 1) := by decide +kernel
theorem dX8_copy_119 : decode cX8_copy 119 = .ok (.aload 6, 2) := by decide +kernel
theorem dX8_copy_121 : decode cX8_copy 121 = .ok (.getfield 75, 3) := by decide +kernel
theorem dX8_copy_124 : decode cX8_copy 124 = .ok (.iload_n 3, 1) := by decide +kernel
theorem dX8_copy_125 : decode cX8_copy 125 = .ok (.iload 5, 2) := by decide +kernel
theorem dX8_copy_127 : decode cX8_copy 127 = .ok (.invokevirtual 106, 3) := by decide +kernel
theorem dX8_copy_130 : decode cX8_copy 130 = .ok (.ifCond .eq 18, 3) := by decide +kernel
theorem dX8_copy_133 : decode cX8_copy 133 = .ok (.aload 7, 2) := by decide +kernel
theorem dX8_copy_135 : decode cX8_copy 135 = .ok (.getfield 75, 3) := by decide +kernel
theorem dX8_copy_138 : decode cX8_copy 138 = .ok (.iload 4, 2) := by decide +kernel
theorem dX8_copy_140 : decode cX8_copy 140 = .ok (.iload 5, 2) := by decide +kernel
theorem dX8_copy_142 : decode cX8_copy 142 = .ok (.invokevirtual 106, 3) := by decide +kernel
theorem dX8_copy_145 : decode cX8_copy 145 = .ok (.ifCond .ne 10, 3) := by decide +kernel
theorem dX8_copy_148 : decode cX8_copy 148 = .ok (.aload_n 0, 1) := by decide +kernel
theorem dX8_copy_149 : decode cX8_copy 149 = .ok (.bipush (-2), 2) := by decide +kernel
theorem dX8_copy_151 : decode cX8_copy 151 = .ok (.invokevirtual 68, 3) := by decide +kernel
theorem dX8_copy_154 : decode cX8_copy 154 = .ok (.ireturn, 1) := by decide +kernel
theorem dX8_copy_155 : decode cX8_copy 155 = .ok (.aload 6, 2) := by decide +kernel
theorem dX8_copy_157 : decode cX8_copy 157 = .ok (.getfield 75, 3) := by decide +kernel
theorem dX8_copy_160 : decode cX8_copy 160 = .ok (.getfield 91, 3) := by decide +kernel
theorem dX8_copy_163 : decode cX8_copy 163 = .ok (.iload_n 3, 1) := by decide +kernel
theorem dX8_copy_164 : decode cX8_copy 164 = .ok (.aload 7, 2) := by decide +kernel
theorem dX8_copy_166 : decode cX8_copy 166 = .ok (.getfield 75, 3) := by decide +kernel
theorem dX8_copy_169 : decode cX8_copy 169 = .ok (.getfield 91, 3) := by decide +kernel
theorem dX8_copy_172 : decode cX8_copy 172 = .ok (.iload 4, 2) := by decide +kernel
theorem dX8_copy_174 : decode cX8_copy 174 = .ok (.iload 5, 2) := by decide +kernel
theorem dX8_copy_176 : decode cX8_copy 176 = .ok (.invokestatic 110, 3) := by decide +kernel
theorem dX8_copy_179 : decode cX8_copy 179 = .ok (.iload 5, 2) := by decide +kernel
theorem dX8_copy_181 : decode cX8_copy 181 = .ok (.ireturn, 1) := by decide +kernel
set_option maxRecDepth 20000 in
theorem ggX8_element_X8_isShelf : GoodIn wsX8_element wsX8_isShelf := goodIn_r _ [8] (by decide +kernel) (by decide +kernel)
set_option maxRecDepth 20000 in
theorem gX8_element_X8_isShelf : GoodIn wsX8_element (va_wsS RX8 64 yX8_isShelf wsX8_isShelf) := goodIn_app (goodIn_of _ (by decide +kernel)) ggX8_element_X8_isShelf
set_option maxRecDepth 20000 in
theorem ggX8_element_X6_isRow : GoodIn wsX8_element wsX6_isRow := goodIn_r _ [13, 14, 27, 28, 29] (by decide +kernel) (by decide +kernel)
set_option maxRecDepth 20000 in
theorem gX8_element_X6_isRow : GoodIn wsX8_element (wsV RX8 103 RX6 yX6_isRow wsX6_isRow) := goodIn_app (goodIn_of _ (by decide +kernel)) ggX8_element_X6_isRow
theorem dX8_element_0 : decode cX8_element 0 = .ok (.iload_n 1, 1) := by decide +kernel
theorem dX8_element_1 : decode cX8_element 1 = .ok (.invokestatic 64, 3) := by decide +kernel
theorem dX8_element_4 : decode cX8_element 4 = .ok (.ifCond .eq 15, 3) := by decide +kernel
theorem dX8_element_7 : decode cX8_element 7 = .ok (.aload_n 0, 1) := by decide +kernel
theorem dX8_element_8 : decode cX8_element 8 = .ok (.getfield 28, 3) := by decide +kernel
theorem dX8_element_11 : decode cX8_element 11 = .ok (.iload_n 1, 1) := by decide +kernel
theorem dX8_element_12 : decode cX8_element 12 = .ok (.aaload, 1) := by decide +kernel
theorem dX8_element_13 : decode cX8_element 13 = .ok (.invokevirtual 103, 3) := by decide +kernel
theorem dX8_element_16 : decode cX8_element 16 = .ok (.ifCond .ne 5, 3) := by decide +kernel
theorem dX8_element_19 : decode cX8_element 19 = .ok (.lconst 0, 1) := by decide +kernel
theorem dX8_element_20 : decode cX8_element 20 = .ok (.lreturn, 1) := by decide +kernel
theorem dX8_element_21 : decode cX8_element 21 = .ok (.aload_n 0, 1) := by decide +kernel
theorem dX8_element_22 : decode cX8_element 22 = .ok (.getfield 28, 3) := by decide +kernel
theorem dX8_element_25 : decode cX8_element 25 = .ok (.iload_n 1, 1) := by decide +kernel
theorem dX8_element_26 : decode cX8_element 26 = .ok (.aaload, 1) := by decide +kernel
theorem dX8_element_27 : decode cX8_element 27 = .ok (.getfield 75, 3) := by decide +kernel
theorem dX8_element_30 : decode cX8_element 30 = .ok (.astore_n 3, 1) := by decide +kernel
theorem dX8_element_31 : decode cX8_element 31 = .ok (.iload_n 2, 1) := by decide +kernel
theorem dX8_element_32 : decode cX8_element 32 = .ok (.ifCond .lt 20, 3) := by decide +kernel
theorem dX8_element_35 : decode cX8_element 35 = .ok (.iload_n 2, 1) := by decide +kernel
theorem dX8_element_36 : decode cX8_element 36 = .ok (.aload_n 3, 1) := by decide +kernel
theorem dX8_element_37 : decode cX8_element 37 = .ok (.getfield 88, 3) := by decide +kernel
theorem dX8_element_40 : decode cX8_element 40 = .ok (.if_icmp .ge 12, 3) := by decide +kernel
theorem dX8_element_43 : decode cX8_element 43 = .ok (.aload_n 3, 1) := by decide +kernel
theorem dX8_element_44 : decode cX8_element 44 = .ok (.getfield 91, 3) := by decide +kernel
theorem dX8_element_47 : decode cX8_element 47 = .ok (.iload_n 2, 1) := by decide +kernel
theorem dX8_element_48 : decode cX8_element 48 = .ok (.laload, 1) := by decide +kernel
theorem dX8_element_49 : decode cX8_element 49 = .ok (.goto 4, 3) := by decide +kernel
theorem dX8_element_52 : decode cX8_element 52 = .ok (.lconst 0, 1) := by decide +kernel
theorem dX8_element_53 : decode cX8_element 53 = .ok (.lreturn, 1) := by decide +kernel
set_option maxRecDepth 20000 in
theorem ggX8_holds_X8_isShelf : GoodIn wsX8_holds wsX8_isShelf := goodIn_r _ [6] (by decide +kernel) (by decide +kernel)
set_option maxRecDepth 20000 in
theorem gX8_holds_X8_isShelf : GoodIn wsX8_holds (va_wsS RX8 64 yX8_isShelf wsX8_isShelf) := goodIn_app (goodIn_of _ (by decide +kernel)) ggX8_holds_X8_isShelf
theorem dX8_holds_0 : decode cX8_holds 0 = .ok (.iload_n 1, 1) := by decide +kernel
theorem dX8_holds_1 : decode cX8_holds 1 = .ok (.invokestatic 64, 3) := by decide +kernel
theorem dX8_holds_4 : decode cX8_holds 4 = .ok (.ifCond .eq 15, 3) := by decide +kernel
theorem dX8_holds_7 : decode cX8_holds 7 = .ok (.aload_n 0, 1) := by decide +kernel
theorem dX8_holds_8 : decode cX8_holds 8 = .ok (.getfield 28, 3) := by decide +kernel
theorem dX8_holds_11 : decode cX8_holds 11 = .ok (.iload_n 1, 1) := by decide +kernel
theorem dX8_holds_12 : decode cX8_holds 12 = .ok (.aaload, 1) := by decide +kernel
theorem dX8_holds_13 : decode cX8_holds 13 = .ok (.getfield 72, 3) := by decide +kernel
theorem dX8_holds_16 : decode cX8_holds 16 = .ok (.goto 4, 3) := by decide +kernel
theorem dX8_holds_19 : decode cX8_holds 19 = .ok (.iconst (-1), 1) := by decide +kernel
theorem dX8_holds_20 : decode cX8_holds 20 = .ok (.ireturn, 1) := by decide +kernel
set_option maxRecDepth 20000 in
theorem ggX8_move_X8_isShelf : GoodIn wsX8_move wsX8_isShelf := goodIn_r _ [7] (by decide +kernel) (by decide +kernel)
set_option maxRecDepth 20000 in
theorem gX8_move_X8_isShelf : GoodIn wsX8_move (va_wsS RX8 64 yX8_isShelf wsX8_isShelf) := goodIn_app (goodIn_of _ (by decide +kernel)) ggX8_move_X8_isShelf
set_option maxRecDepth 20000 in
theorem ggX8_move_X8_isWay : GoodIn wsX8_move wsX8_isWay := goodIn_r _ [10] (by decide +kernel) (by decide +kernel)
set_option maxRecDepth 20000 in
theorem gX8_move_X8_isWay : GoodIn wsX8_move (va_wsS RX8 116 yX8_isWay wsX8_isWay) := goodIn_app (goodIn_of _ (by decide +kernel)) ggX8_move_X8_isWay
set_option maxRecDepth 20000 in
theorem ggX8_move_X8_refuse : GoodIn wsX8_move wsX8_refuse := goodIn_r _ [14, 15, 24, 25, 26, 27, 28, 29, 30, 31, 32, 33, 34, 35] (by decide +kernel) (by decide +kernel)
set_option maxRecDepth 20000 in
theorem gX8_move_X8_refuse : GoodIn wsX8_move (wsV RX8 68 RX8 yX8_refuse wsX8_refuse) := goodIn_app (goodIn_of _ (by decide +kernel)) ggX8_move_X8_refuse
set_option maxRecDepth 20000 in
theorem ggX8_move_X3_become : GoodIn wsX8_move wsX3_become := goodIn_r _ [20, 21, 22, 23, 39, 40, 41] (by decide +kernel) (by decide +kernel)
set_option maxRecDepth 20000 in
theorem gX8_move_X3_become : GoodIn wsX8_move (wsV RX8 123 RX3 yX3_become wsX3_become) := goodIn_app (goodIn_of _ (by decide +kernel)) ggX8_move_X3_become
theorem dX8_move_0 : decode cX8_move 0 = .ok (.iload_n 1, 1) := by decide +kernel
theorem dX8_move_1 : decode cX8_move 1 = .ok (.invokestatic 64, 3) := by decide +kernel
theorem dX8_move_4 : decode cX8_move 4 = .ok (.ifCond .eq 28, 3) := by decide +kernel
theorem dX8_move_7 : decode cX8_move 7 = .ok (.iload_n 2, 1) := by decide +kernel
theorem dX8_move_8 : decode cX8_move 8 = .ok (.iconst 1, 1) := by decide +kernel
theorem dX8_move_9 : decode cX8_move 9 = .ok (.if_icmp .lt 23, 3) := by decide +kernel
theorem dX8_move_12 : decode cX8_move 12 = .ok (.iload_n 2, 1) := by decide +kernel
theorem dX8_move_13 : decode cX8_move 13 = .ok (.iconst 5, 1) := by decide +kernel
theorem dX8_move_14 : decode cX8_move 14 = .ok (.if_icmp .gt 18, 3) := by decide +kernel
theorem dX8_move_17 : decode cX8_move 17 = .ok (.iload_n 3, 1) := by decide +kernel
theorem dX8_move_18 : decode cX8_move 18 = .ok (.invokestatic 116, 3) := by decide +kernel
theorem dX8_move_21 : decode cX8_move 21 = .ok (.ifCond .eq 11, 3) := by decide +kernel
theorem dX8_move_24 : decode cX8_move 24 = .ok (.iload 4, 2) := by decide +kernel
theorem dX8_move_26 : decode cX8_move 26 = .ok (.invokestatic 116, 3) := by decide +kernel
theorem dX8_move_29 : decode cX8_move 29 = .ok (.ifCond .ne 10, 3) := by decide +kernel
theorem dX8_move_32 : decode cX8_move 32 = .ok (.aload_n 0, 1) := by decide +kernel
theorem dX8_move_33 : decode cX8_move 33 = .ok (.bipush (-2), 2) := by decide +kernel
theorem dX8_move_35 : decode cX8_move 35 = .ok (.invokevirtual 68, 3) := by decide +kernel
theorem dX8_move_38 : decode cX8_move 38 = .ok (.ireturn, 1) := by decide +kernel
theorem dX8_move_39 : decode cX8_move 39 = .ok (.aload_n 0, 1) := by decide +kernel
theorem dX8_move_40 : decode cX8_move 40 = .ok (.getfield 28, 3) := by decide +kernel
theorem dX8_move_43 : decode cX8_move 43 = .ok (.iload_n 1, 1) := by decide +kernel
theorem dX8_move_44 : decode cX8_move 44 = .ok (.aaload, 1) := by decide +kernel
theorem dX8_move_45 : decode cX8_move 45 = .ok (.bipush 10, 2) := by decide +kernel
theorem dX8_move_47 : decode cX8_move 47 = .ok (.iload_n 2, 1) := by decide +kernel
theorem dX8_move_48 : decode cX8_move 48 = .ok (.iadd, 1) := by decide +kernel
theorem dX8_move_49 : decode cX8_move 49 = .ok (.putfield 72, 3) := by decide +kernel
theorem dX8_move_52 : decode cX8_move 52 = .ok (.aload_n 0, 1) := by decide +kernel
theorem dX8_move_53 : decode cX8_move 53 = .ok (.getfield 28, 3) := by decide +kernel
theorem dX8_move_56 : decode cX8_move 56 = .ok (.iload_n 1, 1) := by decide +kernel
theorem dX8_move_57 : decode cX8_move 57 = .ok (.aaload, 1) := by decide +kernel
theorem dX8_move_58 : decode cX8_move 58 = .ok (.getfield 119, 3) := by decide +kernel
theorem dX8_move_61 : decode cX8_move 61 = .ok (.iload_n 2, 1) := by decide +kernel
theorem dX8_move_62 : decode cX8_move 62 = .ok (.iload_n 3, 1) := by decide +kernel
theorem dX8_move_63 : decode cX8_move 63 = .ok (.iload 4, 2) := by decide +kernel
theorem dX8_move_65 : decode cX8_move 65 = .ok (.invokevirtual 123, 3) := by decide +kernel
theorem dX8_move_68 : decode cX8_move 68 = .ok (.iconst 1, 1) := by decide +kernel
theorem dX8_move_69 : decode cX8_move 69 = .ok (.ireturn, 1) := by decide +kernel
set_option maxRecDepth 20000 in
theorem ggX8_says_X8_moveRefusal : GoodIn wsX8_says wsX8_moveRefusal := goodIn_r _ [10, 1, 11, 12, 9, 13, 14, 15, 16, 17, 18, 19, 20, 21, 22, 23, 84, 85, 86, 87, 88, 89, 90, 91, 92, 93, 94, 95, 96, 97, 98] (by decide +kernel) (by decide +kernel)
set_option maxRecDepth 20000 in
theorem gX8_says_X8_moveRefusal : GoodIn wsX8_says (wsV RX8 128 RX8 yX8_moveRefusal wsX8_moveRefusal) := goodIn_app (goodIn_of _ (by decide +kernel)) ggX8_says_X8_moveRefusal
set_option maxRecDepth 20000 in
theorem ggX8_says_X8_refuse : GoodIn wsX8_says wsX8_refuse := goodIn_r _ [27, 28, 84, 85, 86, 87, 88, 89, 90, 91, 92, 93, 94, 95] (by decide +kernel) (by decide +kernel)
set_option maxRecDepth 20000 in
theorem gX8_says_X8_refuse : GoodIn wsX8_says (wsV RX8 68 RX8 yX8_refuse wsX8_refuse) := goodIn_app (goodIn_of _ (by decide +kernel)) ggX8_says_X8_refuse
set_option maxRecDepth 20000 in
theorem ggX8_says_X3_isOfKind : GoodIn wsX8_says wsX3_isOfKind := goodIn_r _ [33, 34, 99, 100, 101] (by decide +kernel) (by decide +kernel)
set_option maxRecDepth 20000 in
theorem gX8_says_X3_isOfKind : GoodIn wsX8_says (wsV RX8 131 RX3 yX3_isOfKind wsX3_isOfKind) := goodIn_app (goodIn_of _ (by decide +kernel)) ggX8_says_X3_isOfKind
set_option maxRecDepth 20000 in
theorem ggX8_says_X2_emptyCubes : GoodIn wsX8_says wsX2_emptyCubes := goodIn_r _ [39, 40, 41, 42, 43, 102, 103, 104, 105, 106, 107, 108, 109, 110, 111, 112, 113, 114, 115] (by decide +kernel) (by decide +kernel)
set_option maxRecDepth 20000 in
theorem gX8_says_X2_emptyCubes : GoodIn wsX8_says (wsV RX8 140 RX2 yX2_emptyCubes wsX2_emptyCubes) := goodIn_app (goodIn_of _ (by decide +kernel)) ggX8_says_X2_emptyCubes
set_option maxRecDepth 20000 in
theorem ggX8_says_X8_countComing : GoodIn wsX8_says wsX8_countComing := goodIn_r _ [47, 5, 48, 49, 50, 51, 52, 53, 32, 54, 55, 56, 57, 58, 34, 59, 60, 61, 62, 63, 64, 65, 66, 67, 68, 69, 70, 71, 72, 73, 74, 75, 76, 77, 78, 79, 80, 81, 82, 83, 84, 85, 86, 87, 88, 89, 90, 91, 92, 93, 94, 95, 102, 103, 104, 105, 106, 107, 108, 109, 110, 111, 112, 113, 114, 115, 99, 100, 101] (by decide +kernel) (by decide +kernel)
set_option maxRecDepth 20000 in
theorem gX8_says_X8_countComing : GoodIn wsX8_says (wsV RX8 144 RX8 yX8_countComing wsX8_countComing) := goodIn_app (goodIn_of _ (by decide +kernel)) ggX8_says_X8_countComing
theorem dX8_says_0 : decode cX8_says 0 = .ok (.iload_n 2, 1) := by decide +kernel
theorem dX8_says_1 : decode cX8_says 1 = .ok (.ifCond .lt 8, 3) := by decide +kernel
theorem dX8_says_4 : decode cX8_says 4 = .ok (.iload_n 2, 1) := by decide +kernel
theorem dX8_says_5 : decode cX8_says 5 = .ok (.iconst 5, 1) := by decide +kernel
theorem dX8_says_6 : decode cX8_says 6 = .ok (.if_icmp .le 8, 3) := by decide +kernel
theorem dX8_says_9 : decode cX8_says 9 = .ok (.bipush (-2), 2) := by decide +kernel
theorem dX8_says_11 : decode cX8_says 11 = .ok (.goto 8, 3) := by decide +kernel
theorem dX8_says_14 : decode cX8_says 14 = .ok (.aload_n 0, 1) := by decide +kernel
theorem dX8_says_15 : decode cX8_says 15 = .ok (.iload_n 1, 1) := by decide +kernel
theorem dX8_says_16 : decode cX8_says 16 = .ok (.invokevirtual 128, 3) := by decide +kernel
theorem dX8_says_19 : decode cX8_says 19 = .ok (.istore_n 3, 1) := by decide +kernel
theorem dX8_says_20 : decode cX8_says 20 = .ok (.iload_n 3, 1) := by decide +kernel
theorem dX8_says_21 : decode cX8_says 21 = .ok (.ifCond .eq 9, 3) := by decide +kernel
theorem dX8_says_24 : decode cX8_says 24 = .ok (.aload_n 0, 1) := by decide +kernel
theorem dX8_says_25 : decode cX8_says 25 = .ok (.iload_n 3, 1) := by decide +kernel
theorem dX8_says_26 : decode cX8_says 26 = .ok (.invokevirtual 68, 3) := by decide +kernel
theorem dX8_says_29 : decode cX8_says 29 = .ok (.ireturn, 1) := by decide +kernel
theorem dX8_says_30 : decode cX8_says 30 = .ok (.aload_n 0, 1) := by decide +kernel
theorem dX8_says_31 : decode cX8_says 31 = .ok (.getfield 28, 3) := by decide +kernel
theorem dX8_says_34 : decode cX8_says 34 = .ok (.iload_n 1, 1) := by decide +kernel
theorem dX8_says_35 : decode cX8_says 35 = .ok (.aaload, 1) := by decide +kernel
theorem dX8_says_36 : decode cX8_says 36 = .ok (.getfield 119, 3) := by decide +kernel
theorem dX8_says_39 : decode cX8_says 39 = .ok (.astore 4, 2) := by decide +kernel
theorem dX8_says_41 : decode cX8_says 41 = .ok (.aload 4, 2) := by decide +kernel
theorem dX8_says_43 : decode cX8_says 43 = .ok (.iload_n 2, 1) := by decide +kernel
theorem dX8_says_44 : decode cX8_says 44 = .ok (.invokevirtual 131, 3) := by decide +kernel
theorem dX8_says_47 : decode cX8_says 47 = .ok (.ifCond .ne 10, 3) := by decide +kernel
theorem dX8_says_50 : decode cX8_says 50 = .ok (.aload_n 0, 1) := by decide +kernel
theorem dX8_says_51 : decode cX8_says 51 = .ok (.bipush (-3), 2) := by decide +kernel
theorem dX8_says_53 : decode cX8_says 53 = .ok (.invokevirtual 68, 3) := by decide +kernel
theorem dX8_says_56 : decode cX8_says 56 = .ok (.ireturn, 1) := by decide +kernel
theorem dX8_says_57 : decode cX8_says 57 = .ok (.iload_n 2, 1) := by decide +kernel
theorem dX8_says_58 : decode cX8_says 58 = .ok (.lookupswitch 46 #[(0, 34), (2, 40), (5, 40)], 34) := by decide +kernel
theorem dX8_says_92 : decode cX8_says 92 = .ok (.aload 4, 2) := by decide +kernel
theorem dX8_says_94 : decode cX8_says 94 = .ok (.getfield 134, 3) := by decide +kernel
theorem dX8_says_97 : decode cX8_says 97 = .ok (.ireturn, 1) := by decide +kernel
theorem dX8_says_98 : decode cX8_says 98 = .ok (.aload 4, 2) := by decide +kernel
theorem dX8_says_100 : decode cX8_says 100 = .ok (.getfield 137, 3) := by decide +kernel
theorem dX8_says_103 : decode cX8_says 103 = .ok (.ireturn, 1) := by decide +kernel
theorem dX8_says_104 : decode cX8_says 104 = .ok (.aload_n 0, 1) := by decide +kernel
theorem dX8_says_105 : decode cX8_says 105 = .ok (.aload 4, 2) := by decide +kernel
theorem dX8_says_107 : decode cX8_says 107 = .ok (.aload_n 0, 1) := by decide +kernel
theorem dX8_says_108 : decode cX8_says 108 = .ok (.getfield 10, 3) := by decide +kernel
theorem dX8_says_111 : decode cX8_says 111 = .ok (.invokevirtual 140, 3) := by decide +kernel
theorem dX8_says_114 : decode cX8_says 114 = .ok (.invokevirtual 144, 3) := by decide +kernel
theorem dX8_says_117 : decode cX8_says 117 = .ok (.ireturn, 1) := by decide +kernel
set_option maxRecDepth 20000 in
theorem ggX8_size_X8_refuse : GoodIn wsX8_size wsX8_refuse := goodIn_r _ [8, 9, 46, 47, 48, 49, 50, 51, 52, 53, 54, 55, 56, 57] (by decide +kernel) (by decide +kernel)
set_option maxRecDepth 20000 in
theorem gX8_size_X8_refuse : GoodIn wsX8_size (wsV RX8 68 RX8 yX8_refuse wsX8_refuse) := goodIn_app (goodIn_of _ (by decide +kernel)) ggX8_size_X8_refuse
set_option maxRecDepth 20000 in
theorem ggX8_size_X2_clearTo : GoodIn wsX8_size wsX2_clearTo := goodIn_r _ [14, 15, 16, 17, 18, 19, 20, 21, 22, 23, 24, 25, 26, 27, 28, 29, 30, 31, 32, 33, 34, 35, 36, 37, 38, 39, 40, 41, 13, 42, 43, 44, 45, 58, 59, 60, 61, 62, 63, 64, 65, 66, 67, 68, 69, 70, 71] (by decide +kernel) (by decide +kernel)
set_option maxRecDepth 20000 in
theorem gX8_size_X2_clearTo : GoodIn wsX8_size (wsV RX8 157 RX2 yX2_clearTo wsX2_clearTo) := goodIn_app (goodIn_of _ (by decide +kernel)) ggX8_size_X2_clearTo
theorem dX8_size_0 : decode cX8_size 0 = .ok (.iload_n 1, 1) := by decide +kernel
theorem dX8_size_1 : decode cX8_size 1 = .ok (.iconst 2, 1) := by decide +kernel
theorem dX8_size_2 : decode cX8_size 2 = .ok (.if_icmp .lt 8, 3) := by decide +kernel
theorem dX8_size_5 : decode cX8_size 5 = .ok (.iload_n 1, 1) := by decide +kernel
theorem dX8_size_6 : decode cX8_size 6 = .ok (.iconst 4, 1) := by decide +kernel
theorem dX8_size_7 : decode cX8_size 7 = .ok (.if_icmp .le 10, 3) := by decide +kernel
theorem dX8_size_10 : decode cX8_size 10 = .ok (.aload_n 0, 1) := by decide +kernel
theorem dX8_size_11 : decode cX8_size 11 = .ok (.bipush (-2), 2) := by decide +kernel
theorem dX8_size_13 : decode cX8_size 13 = .ok (.invokevirtual 68, 3) := by decide +kernel
theorem dX8_size_16 : decode cX8_size 16 = .ok (.ireturn, 1) := by decide +kernel
theorem dX8_size_17 : decode cX8_size 17 = .ok (.aload_n 0, 1) := by decide +kernel
theorem dX8_size_18 : decode cX8_size 18 = .ok (.getfield 10, 3) := by decide +kernel
theorem dX8_size_21 : decode cX8_size 21 = .ok (.getfield 148, 3) := by decide +kernel
theorem dX8_size_24 : decode cX8_size 24 = .ok (.getfield 152, 3) := by decide +kernel
theorem dX8_size_27 : decode cX8_size 27 = .ok (.istore_n 2, 1) := by decide +kernel
theorem dX8_size_28 : decode cX8_size 28 = .ok (.aload_n 0, 1) := by decide +kernel
theorem dX8_size_29 : decode cX8_size 29 = .ok (.getfield 10, 3) := by decide +kernel
theorem dX8_size_32 : decode cX8_size 32 = .ok (.iload_n 1, 1) := by decide +kernel
theorem dX8_size_33 : decode cX8_size 33 = .ok (.invokevirtual 157, 3) := by decide +kernel
theorem dX8_size_36 : decode cX8_size 36 = .ok (.iload_n 2, 1) := by decide +kernel
theorem dX8_size_37 : decode cX8_size 37 = .ok (.ireturn, 1) := by decide +kernel
set_option maxRecDepth 20000 in
theorem ggX8_solid_J13_bitCount_95d88 : GoodIn wsX8_solid wsJ13_bitCount_95d88 := goodIn_r _ [9, 10, 11, 12] (by decide +kernel) (by decide +kernel)
set_option maxRecDepth 20000 in
theorem gX8_solid_J13_bitCount_95d88 : GoodIn wsX8_solid (va_wsS RX8 170 yJ13_bitCount_95d88 wsJ13_bitCount_95d88) := goodIn_app (goodIn_of _ (by decide +kernel)) ggX8_solid_J13_bitCount_95d88
theorem dX8_solid_0 : decode cX8_solid 0 = .ok (.aload_n 0, 1) := by decide +kernel
theorem dX8_solid_1 : decode cX8_solid 1 = .ok (.getfield 10, 3) := by decide +kernel
theorem dX8_solid_4 : decode cX8_solid 4 = .ok (.getfield 161, 3) := by decide +kernel
theorem dX8_solid_7 : decode cX8_solid 7 = .ok (.lstore 4, 2) := by decide +kernel
theorem dX8_solid_9 : decode cX8_solid 9 = .ok (.aload_n 0, 1) := by decide +kernel
theorem dX8_solid_10 : decode cX8_solid 10 = .ok (.getfield 10, 3) := by decide +kernel
theorem dX8_solid_13 : decode cX8_solid 13 = .ok (.iload_n 3, 1) := by decide +kernel
theorem dX8_solid_14 : decode cX8_solid 14 = .ok (.ifCond .eq 21, 3) := by decide +kernel
theorem dX8_solid_17 : decode cX8_solid 17 = .ok (.lload 4, 2) := by decide +kernel
theorem dX8_solid_19 : decode cX8_solid 19 = .ok (.lload_n 1, 1) := by decide +kernel
theorem dX8_solid_20 : decode cX8_solid 20 = .ok (.aload_n 0, 1) := by decide +kernel
theorem dX8_solid_21 : decode cX8_solid 21 = .ok (.getfield 10, 3) := by decide +kernel
theorem dX8_solid_24 : decode cX8_solid 24 = .ok (.getfield 148, 3) := by decide +kernel
theorem dX8_solid_27 : decode cX8_solid 27 = .ok (.getfield 165, 3) := by decide +kernel
theorem dX8_solid_30 : decode cX8_solid 30 = .ok (.land, 1) := by decide +kernel
