set_option maxRecDepth 20000 in
theorem ggX0_init_X0_become : GoodIn wsX0_init wsX0_become := goodIn_r _ [13, 14, 15, 16, 17, 5, 7, 8, 18, 19, 20, 21, 22, 23, 24, 12, 25, 26, 27, 28, 29, 30, 31] (by decide +kernel) (by decide +kernel)
set_option maxRecDepth 20000 in
theorem gX0_init_X0_become : GoodIn wsX0_init (wsV RX0 22 RX0 yX0_become wsX0_become) := goodIn_app (goodIn_of _ (by decide +kernel)) ggX0_init_X0_become
theorem dX0_init_0 : decode cX0_init 0 = .ok (.aload_n 0, 1) := by decide +kernel
theorem dX0_init_1 : decode cX0_init 1 = .ok (.invokespecial 3, 3) := by decide +kernel
theorem dX0_init_4 : decode cX0_init 4 = .ok (.aload_n 0, 1) := by decide +kernel
theorem dX0_init_5 : decode cX0_init 5 = .ok (.iconst 3, 1) := by decide +kernel
theorem dX0_init_6 : decode cX0_init 6 = .ok (.newarray .int, 2) := by decide +kernel
theorem dX0_init_8 : decode cX0_init 8 = .ok (.putfield 9, 3) := by decide +kernel
theorem dX0_init_11 : decode cX0_init 11 = .ok (.aload_n 0, 1) := by decide +kernel
theorem dX0_init_12 : decode cX0_init 12 = .ok (.bipush 12, 2) := by decide +kernel
theorem dX0_init_14 : decode cX0_init 14 = .ok (.newarray .long, 2) := by decide +kernel
theorem dX0_init_16 : decode cX0_init 16 = .ok (.putfield 15, 3) := by decide +kernel
theorem dX0_init_19 : decode cX0_init 19 = .ok (.aload_n 0, 1) := by decide +kernel
theorem dX0_init_20 : decode cX0_init 20 = .ok (.bipush 6, 2) := by decide +kernel
theorem dX0_init_22 : decode cX0_init 22 = .ok (.newarray .long, 2) := by decide +kernel
theorem dX0_init_24 : decode cX0_init 24 = .ok (.putfield 19, 3) := by decide +kernel
theorem dX0_init_27 : decode cX0_init 27 = .ok (.aload_n 0, 1) := by decide +kernel
theorem dX0_init_28 : decode cX0_init 28 = .ok (.iconst 3, 1) := by decide +kernel
theorem dX0_init_29 : decode cX0_init 29 = .ok (.invokevirtual 22, 3) := by decide +kernel
theorem dX0_init_32 : decode cX0_init 32 = .ok (.return_, 1) := by decide +kernel
set_option maxRecDepth 20000 in
theorem ggX0_become_J7_fill_d0a16 : GoodIn wsX0_become wsJ7_fill_d0a16 := goodIn_r _ [11] (by decide +kernel) (by decide +kernel)
set_option maxRecDepth 20000 in
theorem gX0_become_J7_fill_d0a16 : GoodIn wsX0_become (va_wsS RX0 39 yJ7_fill_d0a16 wsJ7_fill_d0a16) := goodIn_app (goodIn_of _ (by decide +kernel)) ggX0_become_J7_fill_d0a16
set_option maxRecDepth 20000 in
theorem ggX0_become_X0_layer : GoodIn wsX0_become wsX0_layer := goodIn_r _ [16, 6, 17, 18, 19, 20, 21, 22] (by decide +kernel) (by decide +kernel)
set_option maxRecDepth 20000 in
theorem gX0_become_X0_layer : GoodIn wsX0_become (wsV RX0 45 RX0 yX0_layer wsX0_layer) := goodIn_app (goodIn_of _ (by decide +kernel)) ggX0_become_X0_layer
theorem dX0_become_0 : decode cX0_become 0 = .ok (.aload_n 0, 1) := by decide +kernel
theorem dX0_become_1 : decode cX0_become 1 = .ok (.iload_n 1, 1) := by decide +kernel
theorem dX0_become_2 : decode cX0_become 2 = .ok (.putfield 26, 3) := by decide +kernel
theorem dX0_become_5 : decode cX0_become 5 = .ok (.aload_n 0, 1) := by decide +kernel
theorem dX0_become_6 : decode cX0_become 6 = .ok (.iload_n 1, 1) := by decide +kernel
theorem dX0_become_7 : decode cX0_become 7 = .ok (.iload_n 1, 1) := by decide +kernel
theorem dX0_become_8 : decode cX0_become 8 = .ok (.imul, 1) := by decide +kernel
theorem dX0_become_9 : decode cX0_become 9 = .ok (.iload_n 1, 1) := by decide +kernel
theorem dX0_become_10 : decode cX0_become 10 = .ok (.imul, 1) := by decide +kernel
theorem dX0_become_11 : decode cX0_become 11 = .ok (.putfield 30, 3) := by decide +kernel
theorem dX0_become_14 : decode cX0_become 14 = .ok (.aload_n 0, 1) := by decide +kernel
theorem dX0_become_15 : decode cX0_become 15 = .ok (.aload_n 0, 1) := by decide +kernel
theorem dX0_become_16 : decode cX0_become 16 = .ok (.getfield 30, 3) := by decide +kernel
theorem dX0_become_19 : decode cX0_become 19 = .ok (.bipush 64, 2) := by decide +kernel
theorem dX0_become_21 : decode cX0_become 21 = .ok (.if_icmp .ne 9, 3) := by decide +kernel
theorem dX0_become_24 : decode cX0_become 24 = .ok (.ldc2_w 33, 3) := by decide +kernel
theorem dX0_become_27 : decode cX0_become 27 = .ok (.goto 11, 3) := by decide +kernel
theorem dX0_become_30 : decode cX0_become 30 = .ok (.lconst 1, 1) := by decide +kernel
theorem dX0_become_31 : decode cX0_become 31 = .ok (.aload_n 0, 1) := by decide +kernel
theorem dX0_become_32 : decode cX0_become 32 = .ok (.getfield 30, 3) := by decide +kernel
theorem dX0_become_35 : decode cX0_become 35 = .ok (.lshl, 1) := by decide +kernel
theorem dX0_become_36 : decode cX0_become 36 = .ok (.lconst 1, 1) := by decide +kernel
theorem dX0_become_37 : decode cX0_become 37 = .ok (.lsub, 1) := by decide +kernel
theorem dX0_become_38 : decode cX0_become 38 = .ok (.putfield 35, 3) := by decide +kernel
theorem dX0_become_41 : decode cX0_become 41 = .ok (.aload_n 0, 1) := by decide +kernel
theorem dX0_become_42 : decode cX0_become 42 = .ok (.getfield 9, 3) := by decide +kernel
theorem dX0_become_45 : decode cX0_become 45 = .ok (.iconst 0, 1) := by decide +kernel
theorem dX0_become_46 : decode cX0_become 46 = .ok (.iconst 1, 1) := by decide +kernel
theorem dX0_become_47 : decode cX0_become 47 = .ok (.iastore, 1) := by decide +kernel
theorem dX0_become_48 : decode cX0_become 48 = .ok (.aload_n 0, 1) := by decide +kernel
theorem dX0_become_49 : decode cX0_become 49 = .ok (.getfield 9, 3) := by decide +kernel
theorem dX0_become_52 : decode cX0_become 52 = .ok (.iconst 1, 1) := by decide +kernel
theorem dX0_become_53 : decode cX0_become 53 = .ok (.iload_n 1, 1) := by decide +kernel
theorem dX0_become_54 : decode cX0_become 54 = .ok (.iastore, 1) := by decide +kernel
theorem dX0_become_55 : decode cX0_become 55 = .ok (.aload_n 0, 1) := by decide +kernel
theorem dX0_become_56 : decode cX0_become 56 = .ok (.getfield 9, 3) := by decide +kernel
theorem dX0_become_59 : decode cX0_become 59 = .ok (.iconst 2, 1) := by decide +kernel
theorem dX0_become_60 : decode cX0_become 60 = .ok (.iload_n 1, 1) := by decide +kernel
theorem dX0_become_61 : decode cX0_become 61 = .ok (.iload_n 1, 1) := by decide +kernel
theorem dX0_become_62 : decode cX0_become 62 = .ok (.imul, 1) := by decide +kernel
theorem dX0_become_63 : decode cX0_become 63 = .ok (.iastore, 1) := by decide +kernel
theorem dX0_become_64 : decode cX0_become 64 = .ok (.aload_n 0, 1) := by decide +kernel
theorem dX0_become_65 : decode cX0_become 65 = .ok (.getfield 15, 3) := by decide +kernel
theorem dX0_become_68 : decode cX0_become 68 = .ok (.lconst 0, 1) := by decide +kernel
theorem dX0_become_69 : decode cX0_become 69 = .ok (.invokestatic 39, 3) := by decide +kernel
theorem dX0_become_72 : decode cX0_become 72 = .ok (.lconst 1, 1) := by decide +kernel
theorem dX0_become_73 : decode cX0_become 73 = .ok (.lstore_n 2, 1) := by decide +kernel
theorem dX0_become_74 : decode cX0_become 74 = .ok (.iconst 0, 1) := by decide +kernel
theorem dX0_become_75 : decode cX0_become 75 = .ok (.istore 4, 2) := by decide +kernel
theorem dX0_become_77 : decode cX0_become 77 = .ok (.iload 4, 2) := by decide +kernel
theorem dX0_become_79 : decode cX0_become 79 = .ok (.iload_n 1, 1) := by decide +kernel
theorem dX0_become_80 : decode cX0_become 80 = .ok (.if_icmp .ge 81, 3) := by decide +kernel
theorem dX0_become_83 : decode cX0_become 83 = .ok (.iconst 0, 1) := by decide +kernel
theorem dX0_become_84 : decode cX0_become 84 = .ok (.istore 5, 2) := by decide +kernel
theorem dX0_become_86 : decode cX0_become 86 = .ok (.iload 5, 2) := by decide +kernel
theorem dX0_become_88 : decode cX0_become 88 = .ok (.iload_n 1, 1) := by decide +kernel
theorem dX0_become_89 : decode cX0_become 89 = .ok (.if_icmp .ge 66, 3) := by decide +kernel
theorem dX0_become_92 : decode cX0_become 92 = .ok (.iconst 0, 1) := by decide +kernel
theorem dX0_become_93 : decode cX0_become 93 = .ok (.istore 6, 2) := by decide +kernel
theorem dX0_become_95 : decode cX0_become 95 = .ok (.iload 6, 2) := by decide +kernel
theorem dX0_become_97 : decode cX0_become 97 = .ok (.iload_n 1, 1) := by decide +kernel
theorem dX0_become_98 : decode cX0_become 98 = .ok (.if_icmp .ge 51, 3) := by decide +kernel
theorem dX0_become_101 : decode cX0_become 101 = .ok (.aload_n 0, 1) := by decide +kernel
theorem dX0_become_102 : decode cX0_become 102 = .ok (.getfield 15, 3) := by decide +kernel
theorem dX0_become_105 : decode cX0_become 105 = .ok (.iload 6, 2) := by decide +kernel
theorem dX0_become_107 : decode cX0_become 107 = .ok (.dup2, 1) := by decide +kernel
theorem dX0_become_108 : decode cX0_become 108 = .ok (.laload, 1) := by decide +kernel
theorem dX0_become_109 : decode cX0_become 109 = .ok (.lload_n 2, 1) := by decide +kernel
theorem dX0_become_110 : decode cX0_become 110 = .ok (.lor, 1) := by decide +kernel
theorem dX0_become_111 : decode cX0_become 111 = .ok (.lastore, 1) := by decide +kernel
theorem dX0_become_112 : decode cX0_become 112 = .ok (.aload_n 0, 1) := by decide +kernel
theorem dX0_become_113 : decode cX0_become 113 = .ok (.getfield 15, 3) := by decide +kernel
theorem dX0_become_116 : decode cX0_become 116 = .ok (.iconst 4, 1) := by decide +kernel
theorem dX0_become_117 : decode cX0_become 117 = .ok (.iload 5, 2) := by decide +kernel
theorem dX0_become_119 : decode cX0_become 119 = .ok (.iadd, 1) := by decide +kernel
theorem dX0_become_120 : decode cX0_become 120 = .ok (.dup2, 1) := by decide +kernel
theorem dX0_become_121 : decode cX0_become 121 = .ok (.laload, 1) := by decide +kernel
theorem dX0_become_122 : decode cX0_become 122 = .ok (.lload_n 2, 1) := by decide +kernel
theorem dX0_become_123 : decode cX0_become 123 = .ok (.lor, 1) := by decide +kernel
theorem dX0_become_124 : decode cX0_become 124 = .ok (.lastore, 1) := by decide +kernel
theorem dX0_become_125 : decode cX0_become 125 = .ok (.aload_n 0, 1) := by decide +kernel
theorem dX0_become_126 : decode cX0_become 126 = .ok (.getfield 15, 3) := by decide +kernel
theorem dX0_become_129 : decode cX0_become 129 = .ok (.bipush 8, 2) := by decide +kernel
theorem dX0_become_131 : decode cX0_become 131 = .ok (.iload 4, 2) := by decide +kernel
theorem dX0_become_133 : decode cX0_become 133 = .ok (.iadd, 1) := by decide +kernel
theorem dX0_become_134 : decode cX0_become 134 = .ok (.dup2, 1) := by decide +kernel
theorem dX0_become_135 : decode cX0_become 135 = .ok (.laload, 1) := by decide +kernel
theorem dX0_become_136 : decode cX0_become 136 = .ok (.lload_n 2, 1) := by decide +kernel
theorem dX0_become_137 : decode cX0_become 137 = .ok (.lor, 1) := by decide +kernel
theorem dX0_become_138 : decode cX0_become 138 = .ok (.lastore, 1) := by decide +kernel
theorem dX0_become_139 : decode cX0_become 139 = .ok (.lload_n 2, 1) := by decide +kernel
theorem dX0_become_140 : decode cX0_become 140 = .ok (.iconst 1, 1) := by decide +kernel
theorem dX0_become_141 : decode cX0_become 141 = .ok (.lshl, 1) := by decide +kernel
theorem dX0_become_142 : decode cX0_become 142 = .ok (.lstore_n 2, 1) := by decide +kernel
theorem dX0_become_143 : decode cX0_become 143 = .ok (.iinc 6 1, 3) := by decide +kernel
theorem dX0_become_146 : decode cX0_become 146 = .ok (.goto (-51), 3) := by decide +kernel
theorem dX0_become_149 : decode cX0_become 149 = .ok (.iinc 5 1, 3) := by decide +kernel
theorem dX0_become_152 : decode cX0_become 152 = .ok (.goto (-66), 3) := by decide +kernel
theorem dX0_become_155 : decode cX0_become 155 = .ok (.iinc 4 1, 3) := by decide +kernel
theorem dX0_become_158 : decode cX0_become 158 = .ok (.goto (-81), 3) := by decide +kernel
theorem dX0_become_161 : decode cX0_become 161 = .ok (.iconst 0, 1) := by decide +kernel
theorem dX0_become_162 : decode cX0_become 162 = .ok (.istore 4, 2) := by decide +kernel
theorem dX0_become_164 : decode cX0_become 164 = .ok (.iload 4, 2) := by decide +kernel
theorem dX0_become_166 : decode cX0_become 166 = .ok (.iconst 3, 1) := by decide +kernel
theorem dX0_become_167 : decode cX0_become 167 = .ok (.if_icmp .ge 45, 3) := by decide +kernel
theorem dX0_become_170 : decode cX0_become 170 = .ok (.aload_n 0, 1) := by decide +kernel
theorem dX0_become_171 : decode cX0_become 171 = .ok (.getfield 19, 3) := by decide +kernel
theorem dX0_become_174 : decode cX0_become 174 = .ok (.iconst 2, 1) := by decide +kernel
theorem dX0_become_175 : decode cX0_become 175 = .ok (.iload 4, 2) := by decide +kernel
theorem dX0_become_177 : decode cX0_become 177 = .ok (.imul, 1) := by decide +kernel
theorem dX0_become_178 : decode cX0_become 178 = .ok (.aload_n 0, 1) := by decide +kernel
theorem dX0_become_179 : decode cX0_become 179 = .ok (.iload 4, 2) := by decide +kernel
theorem dX0_become_181 : decode cX0_become 181 = .ok (.iload_n 1, 1) := by decide +kernel
theorem dX0_become_182 : decode cX0_become 182 = .ok (.iconst 1, 1) := by decide +kernel
theorem dX0_become_183 : decode cX0_become 183 = .ok (.isub, 1) := by decide +kernel
theorem dX0_become_184 : decode cX0_become 184 = .ok (.invokevirtual 45, 3) := by decide +kernel
theorem dX0_become_187 : decode cX0_become 187 = .ok (.lastore, 1) := by decide +kernel
theorem dX0_become_188 : decode cX0_become 188 = .ok (.aload_n 0, 1) := by decide +kernel
theorem dX0_become_189 : decode cX0_become 189 = .ok (.getfield 19, 3) := by decide +kernel
theorem dX0_become_192 : decode cX0_become 192 = .ok (.iconst 2, 1) := by decide +kernel
theorem dX0_become_193 : decode cX0_become 193 = .ok (.iload 4, 2) := by decide +kernel
theorem dX0_become_195 : decode cX0_become 195 = .ok (.imul, 1) := by decide +kernel
theorem dX0_become_196 : decode cX0_become 196 = .ok (.iconst 1, 1) := by decide +kernel
theorem dX0_become_197 : decode cX0_become 197 = .ok (.iadd, 1) := by decide +kernel
theorem dX0_become_198 : decode cX0_become 198 = .ok (.aload_n 0, 1) := by decide +kernel
theorem dX0_become_199 : decode cX0_become 199 = .ok (.iload 4, 2) := by decide +kernel
theorem dX0_become_201 : decode cX0_become 201 = .ok (.iconst 0, 1) := by decide +kernel
theorem dX0_become_202 : decode cX0_become 202 = .ok (.invokevirtual 45, 3) := by decide +kernel
theorem dX0_become_205 : decode cX0_become 205 = .ok (.lastore, 1) := by decide +kernel
theorem dX0_become_206 : decode cX0_become 206 = .ok (.iinc 4 1, 3) := by decide +kernel
theorem dX0_become_209 : decode cX0_become 209 = .ok (.goto (-45), 3) := by decide +kernel
theorem dX0_become_212 : decode cX0_become 212 = .ok (.return_, 1) := by decide +kernel
theorem dX0_layer_0 : decode cX0_layer 0 = .ok (.aload_n 0, 1) := by decide +kernel
theorem dX0_layer_1 : decode cX0_layer 1 = .ok (.getfield 15, 3) := by decide +kernel
theorem dX0_layer_4 : decode cX0_layer 4 = .ok (.iconst 4, 1) := by decide +kernel
theorem dX0_layer_5 : decode cX0_layer 5 = .ok (.iload_n 1, 1) := by decide +kernel
theorem dX0_layer_6 : decode cX0_layer 6 = .ok (.imul, 1) := by decide +kernel
theorem dX0_layer_7 : decode cX0_layer 7 = .ok (.iload_n 2, 1) := by decide +kernel
theorem dX0_layer_8 : decode cX0_layer 8 = .ok (.iadd, 1) := by decide +kernel
theorem dX0_layer_9 : decode cX0_layer 9 = .ok (.laload, 1) := by decide +kernel
theorem dX0_layer_10 : decode cX0_layer 10 = .ok (.lreturn, 1) := by decide +kernel
set_option maxRecDepth 20000 in
theorem ggX0_below_X0_layer : GoodIn wsX0_below wsX0_layer := goodIn_r _ [5, 6, 7, 8, 9, 10, 11, 12] (by decide +kernel) (by decide +kernel)
set_option maxRecDepth 20000 in
theorem gX0_below_X0_layer : GoodIn wsX0_below (wsV RX0 45 RX0 yX0_layer wsX0_layer) := goodIn_app (goodIn_of _ (by decide +kernel)) ggX0_below_X0_layer
theorem dX0_below_0 : decode cX0_below 0 = .ok (.lconst 0, 1) := by decide +kernel
theorem dX0_below_1 : decode cX0_below 1 = .ok (.lstore_n 3, 1) := by decide +kernel
theorem dX0_below_2 : decode cX0_below 2 = .ok (.iconst 0, 1) := by decide +kernel
theorem dX0_below_3 : decode cX0_below 3 = .ok (.istore 5, 2) := by decide +kernel
theorem dX0_below_5 : decode cX0_below 5 = .ok (.iload 5, 2) := by decide +kernel
theorem dX0_below_7 : decode cX0_below 7 = .ok (.iload_n 2, 1) := by decide +kernel
theorem dX0_below_8 : decode cX0_below 8 = .ok (.if_icmp .ge 19, 3) := by decide +kernel
theorem dX0_below_11 : decode cX0_below 11 = .ok (.lload_n 3, 1) := by decide +kernel
theorem dX0_below_12 : decode cX0_below 12 = .ok (.aload_n 0, 1) := by decide +kernel
theorem dX0_below_13 : decode cX0_below 13 = .ok (.iload_n 1, 1) := by decide +kernel
theorem dX0_below_14 : decode cX0_below 14 = .ok (.iload 5, 2) := by decide +kernel
theorem dX0_below_16 : decode cX0_below 16 = .ok (.invokevirtual 45, 3) := by decide +kernel
theorem dX0_below_19 : decode cX0_below 19 = .ok (.lor, 1) := by decide +kernel
theorem dX0_below_20 : decode cX0_below 20 = .ok (.lstore_n 3, 1) := by decide +kernel
theorem dX0_below_21 : decode cX0_below 21 = .ok (.iinc 5 1, 3) := by decide +kernel
theorem dX0_below_24 : decode cX0_below 24 = .ok (.goto (-19), 3) := by decide +kernel
theorem dX0_below_27 : decode cX0_below 27 = .ok (.lload_n 3, 1) := by decide +kernel
theorem dX0_below_28 : decode cX0_below 28 = .ok (.lreturn, 1) := by decide +kernel
set_option maxRecDepth 20000 in
theorem ggX0_place_X0_layer : GoodIn wsX0_place wsX0_layer := goodIn_r _ [6, 7, 8, 9, 10, 11, 12, 13] (by decide +kernel) (by decide +kernel)
set_option maxRecDepth 20000 in
theorem gX0_place_X0_layer : GoodIn wsX0_place (wsV RX0 45 RX0 yX0_layer wsX0_layer) := goodIn_app (goodIn_of _ (by decide +kernel)) ggX0_place_X0_layer
theorem dX0_place_0 : decode cX0_place 0 = .ok (.iconst 0, 1) := by decide +kernel
theorem dX0_place_1 : decode cX0_place 1 = .ok (.istore_n 3, 1) := by decide +kernel
theorem dX0_place_2 : decode cX0_place 2 = .ok (.iconst 0, 1) := by decide +kernel
theorem dX0_place_3 : decode cX0_place 3 = .ok (.istore 4, 2) := by decide +kernel
theorem dX0_place_5 : decode cX0_place 5 = .ok (.iload 4, 2) := by decide +kernel
theorem dX0_place_7 : decode cX0_place 7 = .ok (.aload_n 0, 1) := by decide +kernel
theorem dX0_place_8 : decode cX0_place 8 = .ok (.getfield 26, 3) := by decide +kernel
theorem dX0_place_11 : decode cX0_place 11 = .ok (.if_icmp .ge 28, 3) := by decide +kernel
theorem dX0_place_14 : decode cX0_place 14 = .ok (.aload_n 0, 1) := by decide +kernel
theorem dX0_place_15 : decode cX0_place 15 = .ok (.iload_n 2, 1) := by decide +kernel
theorem dX0_place_16 : decode cX0_place 16 = .ok (.iload 4, 2) := by decide +kernel
theorem dX0_place_18 : decode cX0_place 18 = .ok (.invokevirtual 45, 3) := by decide +kernel
theorem dX0_place_21 : decode cX0_place 21 = .ok (.iload_n 1, 1) := by decide +kernel
theorem dX0_place_22 : decode cX0_place 22 = .ok (.lushr, 1) := by decide +kernel
theorem dX0_place_23 : decode cX0_place 23 = .ok (.lconst 1, 1) := by decide +kernel
theorem dX0_place_24 : decode cX0_place 24 = .ok (.land, 1) := by decide +kernel
theorem dX0_place_25 : decode cX0_place 25 = .ok (.lconst 0, 1) := by decide +kernel
theorem dX0_place_26 : decode cX0_place 26 = .ok (.lcmp, 1) := by decide +kernel
theorem dX0_place_27 : decode cX0_place 27 = .ok (.ifCond .eq 6, 3) := by decide +kernel
theorem dX0_place_30 : decode cX0_place 30 = .ok (.iload 4, 2) := by decide +kernel
theorem dX0_place_32 : decode cX0_place 32 = .ok (.istore_n 3, 1) := by decide +kernel
theorem dX0_place_33 : decode cX0_place 33 = .ok (.iinc 4 1, 3) := by decide +kernel
theorem dX0_place_36 : decode cX0_place 36 = .ok (.goto (-31), 3) := by decide +kernel
theorem dX0_place_39 : decode cX0_place 39 = .ok (.iload_n 3, 1) := by decide +kernel
theorem dX0_place_40 : decode cX0_place 40 = .ok (.ireturn, 1) := by decide +kernel
set_option maxRecDepth 20000 in
theorem ggX0_boxOf_X0_place : GoodIn wsX0_boxOf wsX0_place := goodIn_r _ [14, 15, 16, 17, 18, 13, 19, 20, 25, 26, 27, 28, 29, 30] (by decide +kernel) (by decide +kernel)
set_option maxRecDepth 20000 in
theorem gX0_boxOf_X0_place : GoodIn wsX0_boxOf (wsV RX0 49 RX0 yX0_place wsX0_place) := goodIn_app (goodIn_of _ (by decide +kernel)) ggX0_boxOf_X0_place
set_option maxRecDepth 20000 in
theorem ggX0_boxOf_X0_below : GoodIn wsX0_boxOf wsX0_below := goodIn_r _ [24, 16, 17, 18, 13, 19, 20, 25, 26, 27, 28, 29, 30] (by decide +kernel) (by decide +kernel)
set_option maxRecDepth 20000 in
theorem gX0_boxOf_X0_below : GoodIn wsX0_boxOf (wsV RX0 61 RX0 yX0_below wsX0_below) := goodIn_app (goodIn_of _ (by decide +kernel)) ggX0_boxOf_X0_below
theorem dX0_boxOf_0 : decode cX0_boxOf 0 = .ok (.aload_n 0, 1) := by decide +kernel
theorem dX0_boxOf_1 : decode cX0_boxOf 1 = .ok (.getfield 35, 3) := by decide +kernel
theorem dX0_boxOf_4 : decode cX0_boxOf 4 = .ok (.lstore_n 3, 1) := by decide +kernel
theorem dX0_boxOf_5 : decode cX0_boxOf 5 = .ok (.iconst 0, 1) := by decide +kernel
theorem dX0_boxOf_6 : decode cX0_boxOf 6 = .ok (.istore 5, 2) := by decide +kernel
theorem dX0_boxOf_8 : decode cX0_boxOf 8 = .ok (.iload 5, 2) := by decide +kernel
theorem dX0_boxOf_10 : decode cX0_boxOf 10 = .ok (.iconst 3, 1) := by decide +kernel
theorem dX0_boxOf_11 : decode cX0_boxOf 11 = .ok (.if_icmp .ge 73, 3) := by decide +kernel
theorem dX0_boxOf_14 : decode cX0_boxOf 14 = .ok (.aload_n 0, 1) := by decide +kernel
theorem dX0_boxOf_15 : decode cX0_boxOf 15 = .ok (.iload_n 1, 1) := by decide +kernel
theorem dX0_boxOf_16 : decode cX0_boxOf 16 = .ok (.iload 5, 2) := by decide +kernel
theorem dX0_boxOf_18 : decode cX0_boxOf 18 = .ok (.invokevirtual 49, 3) := by decide +kernel
theorem dX0_boxOf_21 : decode cX0_boxOf 21 = .ok (.aload_n 0, 1) := by decide +kernel
theorem dX0_boxOf_22 : decode cX0_boxOf 22 = .ok (.iload_n 2, 1) := by decide +kernel
theorem dX0_boxOf_23 : decode cX0_boxOf 23 = .ok (.iload 5, 2) := by decide +kernel
theorem dX0_boxOf_25 : decode cX0_boxOf 25 = .ok (.invokevirtual 49, 3) := by decide +kernel
theorem dX0_boxOf_28 : decode cX0_boxOf 28 = .ok (.invokestatic 53, 3) := by decide +kernel
theorem dX0_boxOf_31 : decode cX0_boxOf 31 = .ok (.istore 6, 2) := by decide +kernel
theorem dX0_boxOf_33 : decode cX0_boxOf 33 = .ok (.aload_n 0, 1) := by decide +kernel
theorem dX0_boxOf_34 : decode cX0_boxOf 34 = .ok (.iload_n 1, 1) := by decide +kernel
theorem dX0_boxOf_35 : decode cX0_boxOf 35 = .ok (.iload 5, 2) := by decide +kernel
theorem dX0_boxOf_37 : decode cX0_boxOf 37 = .ok (.invokevirtual 49, 3) := by decide +kernel
theorem dX0_boxOf_40 : decode cX0_boxOf 40 = .ok (.aload_n 0, 1) := by decide +kernel
theorem dX0_boxOf_41 : decode cX0_boxOf 41 = .ok (.iload_n 2, 1) := by decide +kernel
theorem dX0_boxOf_42 : decode cX0_boxOf 42 = .ok (.iload 5, 2) := by decide +kernel
theorem dX0_boxOf_44 : decode cX0_boxOf 44 = .ok (.invokevirtual 49, 3) := by decide +kernel
theorem dX0_boxOf_47 : decode cX0_boxOf 47 = .ok (.invokestatic 58, 3) := by decide +kernel
theorem dX0_boxOf_50 : decode cX0_boxOf 50 = .ok (.istore 7, 2) := by decide +kernel
theorem dX0_boxOf_52 : decode cX0_boxOf 52 = .ok (.lload_n 3, 1) := by decide +kernel
theorem dX0_boxOf_53 : decode cX0_boxOf 53 = .ok (.aload_n 0, 1) := by decide +kernel
theorem dX0_boxOf_54 : decode cX0_boxOf 54 = .ok (.iload 5, 2) := by decide +kernel
theorem dX0_boxOf_56 : decode cX0_boxOf 56 = .ok (.iload 7, 2) := by decide +kernel
theorem dX0_boxOf_58 : decode cX0_boxOf 58 = .ok (.iconst 1, 1) := by decide +kernel
theorem dX0_boxOf_59 : decode cX0_boxOf 59 = .ok (.iadd, 1) := by decide +kernel
theorem dX0_boxOf_60 : decode cX0_boxOf 60 = .ok (.invokevirtual 61, 3) := by decide +kernel
theorem dX0_boxOf_63 : decode cX0_boxOf 63 = .ok (.aload_n 0, 1) := by decide +kernel
theorem dX0_boxOf_64 : decode cX0_boxOf 64 = .ok (.iload 5, 2) := by decide +kernel
theorem dX0_boxOf_66 : decode cX0_boxOf 66 = .ok (.iload 6, 2) := by decide +kernel
theorem dX0_boxOf_68 : decode cX0_boxOf 68 = .ok (.invokevirtual 61, 3) := by decide +kernel
theorem dX0_boxOf_71 : decode cX0_boxOf 71 = .ok (.ldc2_w 33, 3) := by decide +kernel
theorem dX0_boxOf_74 : decode cX0_boxOf 74 = .ok (.lxor, 1) := by decide +kernel
theorem dX0_boxOf_75 : decode cX0_boxOf 75 = .ok (.land, 1) := by decide +kernel
theorem dX0_boxOf_76 : decode cX0_boxOf 76 = .ok (.land, 1) := by decide +kernel
theorem dX0_boxOf_77 : decode cX0_boxOf 77 = .ok (.lstore_n 3, 1) := by decide +kernel
theorem dX0_boxOf_78 : decode cX0_boxOf 78 = .ok (.iinc 5 1, 3) := by decide +kernel
theorem dX0_boxOf_81 : decode cX0_boxOf 81 = .ok (.goto (-73), 3) := by decide +kernel
theorem dX0_boxOf_84 : decode cX0_boxOf 84 = .ok (.lload_n 3, 1) := by decide +kernel
theorem dX0_boxOf_85 : decode cX0_boxOf 85 = .ok (.lreturn, 1) := by decide +kernel
theorem dX0_endTowards_0 : decode cX0_endTowards 0 = .ok (.aload_n 0, 1) := by decide +kernel
theorem dX0_endTowards_1 : decode cX0_endTowards 1 = .ok (.getfield 19, 3) := by decide +kernel
theorem dX0_endTowards_4 : decode cX0_endTowards 4 = .ok (.iload_n 1, 1) := by decide +kernel
theorem dX0_endTowards_5 : decode cX0_endTowards 5 = .ok (.laload, 1) := by decide +kernel
theorem dX0_endTowards_6 : decode cX0_endTowards 6 = .ok (.lreturn, 1) := by decide +kernel
theorem dX0_shifted_0 : decode cX0_shifted 0 = .ok (.lload_n 1, 1) := by decide +kernel
theorem dX0_shifted_1 : decode cX0_shifted 1 = .ok (.aload_n 0, 1) := by decide +kernel
theorem dX0_shifted_2 : decode cX0_shifted 2 = .ok (.getfield 19, 3) := by decide +kernel
theorem dX0_shifted_5 : decode cX0_shifted 5 = .ok (.iload_n 3, 1) := by decide +kernel
theorem dX0_shifted_6 : decode cX0_shifted 6 = .ok (.laload, 1) := by decide +kernel
theorem dX0_shifted_7 : decode cX0_shifted 7 = .ok (.ldc2_w 33, 3) := by decide +kernel
theorem dX0_shifted_10 : decode cX0_shifted 10 = .ok (.lxor, 1) := by decide +kernel
theorem dX0_shifted_11 : decode cX0_shifted 11 = .ok (.land, 1) := by decide +kernel
theorem dX0_shifted_12 : decode cX0_shifted 12 = .ok (.lstore 4, 2) := by decide +kernel
theorem dX0_shifted_14 : decode cX0_shifted 14 = .ok (.aload_n 0, 1) := by decide +kernel
theorem dX0_shifted_15 : decode cX0_shifted 15 = .ok (.getfield 9, 3) := by decide +kernel
theorem dX0_shifted_18 : decode cX0_shifted 18 = .ok (.iload_n 3, 1) := by decide +kernel
theorem dX0_shifted_19 : decode cX0_shifted 19 = .ok (.iconst 1, 1) := by decide +kernel
theorem dX0_shifted_20 : decode cX0_shifted 20 = .ok (.ishr, 1) := by decide +kernel
theorem dX0_shifted_21 : decode cX0_shifted 21 = .ok (.iaload, 1) := by decide +kernel
theorem dX0_shifted_22 : decode cX0_shifted 22 = .ok (.istore 6, 2) := by decide +kernel
theorem dX0_shifted_24 : decode cX0_shifted 24 = .ok (.iload_n 3, 1) := by decide +kernel
theorem dX0_shifted_25 : decode cX0_shifted 25 = .ok (.iconst 1, 1) := by decide +kernel
theorem dX0_shifted_26 : decode cX0_shifted 26 = .ok (.iand, 1) := by decide +kernel
theorem dX0_shifted_27 : decode cX0_shifted 27 = .ok (.ifCond .ne 11, 3) := by decide +kernel
theorem dX0_shifted_30 : decode cX0_shifted 30 = .ok (.lload 4, 2) := by decide +kernel
theorem dX0_shifted_32 : decode cX0_shifted 32 = .ok (.iload 6, 2) := by decide +kernel
theorem dX0_shifted_34 : decode cX0_shifted 34 = .ok (.lshl, 1) := by decide +kernel
theorem dX0_shifted_35 : decode cX0_shifted 35 = .ok (.goto 8, 3) := by decide +kernel
theorem dX0_shifted_38 : decode cX0_shifted 38 = .ok (.lload 4, 2) := by decide +kernel
theorem dX0_shifted_40 : decode cX0_shifted 40 = .ok (.iload 6, 2) := by decide +kernel
theorem dX0_shifted_42 : decode cX0_shifted 42 = .ok (.lushr, 1) := by decide +kernel
theorem dX0_shifted_43 : decode cX0_shifted 43 = .ok (.lreturn, 1) := by decide +kernel
set_option maxRecDepth 20000 in
theorem ggX0_behind_X0_shifted : GoodIn wsX0_behind wsX0_shifted := goodIn_r _ [6, 7, 8, 9, 10, 11, 12, 13, 14, 15] (by decide +kernel) (by decide +kernel)
set_option maxRecDepth 20000 in
theorem gX0_behind_X0_shifted : GoodIn wsX0_behind (wsV RX0 64 RX0 yX0_shifted wsX0_shifted) := goodIn_app (goodIn_of _ (by decide +kernel)) ggX0_behind_X0_shifted
theorem dX0_behind_0 : decode cX0_behind 0 = .ok (.lconst 0, 1) := by decide +kernel
theorem dX0_behind_1 : decode cX0_behind 1 = .ok (.lstore 4, 2) := by decide +kernel
theorem dX0_behind_3 : decode cX0_behind 3 = .ok (.lload_n 1, 1) := by decide +kernel
theorem dX0_behind_4 : decode cX0_behind 4 = .ok (.lstore 6, 2) := by decide +kernel
theorem dX0_behind_6 : decode cX0_behind 6 = .ok (.iconst 1, 1) := by decide +kernel
theorem dX0_behind_7 : decode cX0_behind 7 = .ok (.istore 8, 2) := by decide +kernel
theorem dX0_behind_9 : decode cX0_behind 9 = .ok (.iload 8, 2) := by decide +kernel
theorem dX0_behind_11 : decode cX0_behind 11 = .ok (.aload_n 0, 1) := by decide +kernel
theorem dX0_behind_12 : decode cX0_behind 12 = .ok (.getfield 26, 3) := by decide +kernel
theorem dX0_behind_15 : decode cX0_behind 15 = .ok (.if_icmp .ge 27, 3) := by decide +kernel
theorem dX0_behind_18 : decode cX0_behind 18 = .ok (.aload_n 0, 1) := by decide +kernel
theorem dX0_behind_19 : decode cX0_behind 19 = .ok (.lload 6, 2) := by decide +kernel
theorem dX0_behind_21 : decode cX0_behind 21 = .ok (.iload_n 3, 1) := by decide +kernel
theorem dX0_behind_22 : decode cX0_behind 22 = .ok (.iconst 1, 1) := by decide +kernel
theorem dX0_behind_23 : decode cX0_behind 23 = .ok (.ixor, 1) := by decide +kernel
theorem dX0_behind_24 : decode cX0_behind 24 = .ok (.invokevirtual 64, 3) := by decide +kernel
theorem dX0_behind_27 : decode cX0_behind 27 = .ok (.lstore 6, 2) := by decide +kernel
theorem dX0_behind_29 : decode cX0_behind 29 = .ok (.lload 4, 2) := by decide +kernel
theorem dX0_behind_31 : decode cX0_behind 31 = .ok (.lload 6, 2) := by decide +kernel
theorem dX0_behind_33 : decode cX0_behind 33 = .ok (.lor, 1) := by decide +kernel
theorem dX0_behind_34 : decode cX0_behind 34 = .ok (.lstore 4, 2) := by decide +kernel
theorem dX0_behind_36 : decode cX0_behind 36 = .ok (.iinc 8 1, 3) := by decide +kernel
theorem dX0_behind_39 : decode cX0_behind 39 = .ok (.goto (-30), 3) := by decide +kernel
theorem dX0_behind_42 : decode cX0_behind 42 = .ok (.lload 4, 2) := by decide +kernel
theorem dX0_behind_44 : decode cX0_behind 44 = .ok (.lreturn, 1) := by decide +kernel
set_option maxRecDepth 20000 in
theorem ggX0_beside_X0_shifted : GoodIn wsX0_beside wsX0_shifted := goodIn_r _ [5, 6, 7, 8, 9, 10, 11, 12, 13, 14] (by decide +kernel) (by decide +kernel)
set_option maxRecDepth 20000 in
theorem gX0_beside_X0_shifted : GoodIn wsX0_beside (wsV RX0 64 RX0 yX0_shifted wsX0_shifted) := goodIn_app (goodIn_of _ (by decide +kernel)) ggX0_beside_X0_shifted
theorem dX0_beside_0 : decode cX0_beside 0 = .ok (.lconst 0, 1) := by decide +kernel
theorem dX0_beside_1 : decode cX0_beside 1 = .ok (.lstore_n 3, 1) := by decide +kernel
theorem dX0_beside_2 : decode cX0_beside 2 = .ok (.iconst 0, 1) := by decide +kernel
theorem dX0_beside_3 : decode cX0_beside 3 = .ok (.istore 5, 2) := by decide +kernel
theorem dX0_beside_5 : decode cX0_beside 5 = .ok (.iload 5, 2) := by decide +kernel
theorem dX0_beside_7 : decode cX0_beside 7 = .ok (.bipush 6, 2) := by decide +kernel
theorem dX0_beside_9 : decode cX0_beside 9 = .ok (.if_icmp .ge 19, 3) := by decide +kernel
theorem dX0_beside_12 : decode cX0_beside 12 = .ok (.lload_n 3, 1) := by decide +kernel
theorem dX0_beside_13 : decode cX0_beside 13 = .ok (.aload_n 0, 1) := by decide +kernel
theorem dX0_beside_14 : decode cX0_beside 14 = .ok (.lload_n 1, 1) := by decide +kernel
theorem dX0_beside_15 : decode cX0_beside 15 = .ok (.iload 5, 2) := by decide +kernel
theorem dX0_beside_17 : decode cX0_beside 17 = .ok (.invokevirtual 64, 3) := by decide +kernel
theorem dX0_beside_20 : decode cX0_beside 20 = .ok (.lor, 1) := by decide +kernel
theorem dX0_beside_21 : decode cX0_beside 21 = .ok (.lstore_n 3, 1) := by decide +kernel
theorem dX0_beside_22 : decode cX0_beside 22 = .ok (.iinc 5 1, 3) := by decide +kernel
theorem dX0_beside_25 : decode cX0_beside 25 = .ok (.goto (-20), 3) := by decide +kernel
theorem dX0_beside_28 : decode cX0_beside 28 = .ok (.lload_n 3, 1) := by decide +kernel
theorem dX0_beside_29 : decode cX0_beside 29 = .ok (.lreturn, 1) := by decide +kernel
theorem dX0_rowThrough_0 : decode cX0_rowThrough 0 = .ok (.aload_n 0, 1) := by decide +kernel
theorem dX0_rowThrough_1 : decode cX0_rowThrough 1 = .ok (.getfield 35, 3) := by decide +kernel
theorem dX0_rowThrough_4 : decode cX0_rowThrough 4 = .ok (.lstore 4, 2) := by decide +kernel
theorem dX0_rowThrough_6 : decode cX0_rowThrough 6 = .ok (.iconst 0, 1) := by decide +kernel
theorem dX0_rowThrough_7 : decode cX0_rowThrough 7 = .ok (.istore 6, 2) := by decide +kernel
theorem dX0_rowThrough_9 : decode cX0_rowThrough 9 = .ok (.iload 6, 2) := by decide +kernel
theorem dX0_rowThrough_11 : decode cX0_rowThrough 11 = .ok (.bipush 12, 2) := by decide +kernel
theorem dX0_rowThrough_13 : decode cX0_rowThrough 13 = .ok (.if_icmp .ge 65, 3) := by decide +kernel
theorem dX0_rowThrough_16 : decode cX0_rowThrough 16 = .ok (.iload 6, 2) := by decide +kernel
theorem dX0_rowThrough_18 : decode cX0_rowThrough 18 = .ok (.iconst 4, 1) := by decide +kernel
theorem dX0_rowThrough_19 : decode cX0_rowThrough 19 = .ok (.iload_n 3, 1) := by decide +kernel
theorem dX0_rowThrough_20 : decode cX0_rowThrough 20 = .ok (.imul, 1) := by decide +kernel
theorem dX0_rowThrough_21 : decode cX0_rowThrough 21 = .ok (.if_icmp .lt 13, 3) := by decide +kernel
theorem dX0_rowThrough_24 : decode cX0_rowThrough 24 = .ok (.iload 6, 2) := by decide +kernel
theorem dX0_rowThrough_26 : decode cX0_rowThrough 26 = .ok (.iconst 4, 1) := by decide +kernel
theorem dX0_rowThrough_27 : decode cX0_rowThrough 27 = .ok (.iload_n 3, 1) := by decide +kernel
theorem dX0_rowThrough_28 : decode cX0_rowThrough 28 = .ok (.iconst 1, 1) := by decide +kernel
theorem dX0_rowThrough_29 : decode cX0_rowThrough 29 = .ok (.iadd, 1) := by decide +kernel
theorem dX0_rowThrough_30 : decode cX0_rowThrough 30 = .ok (.imul, 1) := by decide +kernel
theorem dX0_rowThrough_31 : decode cX0_rowThrough 31 = .ok (.if_icmp .lt 7, 3) := by decide +kernel
theorem dX0_rowThrough_34 : decode cX0_rowThrough 34 = .ok (.iconst 1, 1) := by decide +kernel
theorem dX0_rowThrough_35 : decode cX0_rowThrough 35 = .ok (.goto 4, 3) := by decide +kernel
theorem dX0_rowThrough_38 : decode cX0_rowThrough 38 = .ok (.iconst 0, 1) := by decide +kernel
theorem dX0_rowThrough_39 : decode cX0_rowThrough 39 = .ok (.istore 7, 2) := by decide +kernel
theorem dX0_rowThrough_41 : decode cX0_rowThrough 41 = .ok (.iload 7, 2) := by decide +kernel
theorem dX0_rowThrough_43 : decode cX0_rowThrough 43 = .ok (.ifCond .eq 29, 3) := by decide +kernel
theorem dX0_rowThrough_46 : decode cX0_rowThrough 46 = .ok (.aload_n 0, 1) := by decide +kernel
theorem dX0_rowThrough_47 : decode cX0_rowThrough 47 = .ok (.getfield 15, 3) := by decide +kernel
theorem dX0_rowThrough_50 : decode cX0_rowThrough 50 = .ok (.iload 6, 2) := by decide +kernel
theorem dX0_rowThrough_52 : decode cX0_rowThrough 52 = .ok (.laload, 1) := by decide +kernel
theorem dX0_rowThrough_53 : decode cX0_rowThrough 53 = .ok (.lload_n 1, 1) := by decide +kernel
theorem dX0_rowThrough_54 : decode cX0_rowThrough 54 = .ok (.land, 1) := by decide +kernel
theorem dX0_rowThrough_55 : decode cX0_rowThrough 55 = .ok (.lconst 0, 1) := by decide +kernel
theorem dX0_rowThrough_56 : decode cX0_rowThrough 56 = .ok (.lcmp, 1) := by decide +kernel
theorem dX0_rowThrough_57 : decode cX0_rowThrough 57 = .ok (.ifCond .eq 15, 3) := by decide +kernel
theorem dX0_rowThrough_60 : decode cX0_rowThrough 60 = .ok (.lload 4, 2) := by decide +kernel
theorem dX0_rowThrough_62 : decode cX0_rowThrough 62 = .ok (.aload_n 0, 1) := by decide +kernel
theorem dX0_rowThrough_63 : decode cX0_rowThrough 63 = .ok (.getfield 15, 3) := by decide +kernel
theorem dX0_rowThrough_66 : decode cX0_rowThrough 66 = .ok (.iload 6, 2) := by decide +kernel
theorem dX0_rowThrough_68 : decode cX0_rowThrough 68 = .ok (.laload, 1) := by decide +kernel
theorem dX0_rowThrough_69 : decode cX0_rowThrough 69 = .ok (.land, 1) := by decide +kernel
theorem dX0_rowThrough_70 : decode cX0_rowThrough 70 = .ok (.lstore 4, 2) := by decide +kernel
theorem dX0_rowThrough_72 : decode cX0_rowThrough 72 = .ok (.iinc 6 1, 3) := by decide +kernel
theorem dX0_rowThrough_75 : decode cX0_rowThrough 75 = .ok (.goto (-66), 3) := by decide +kernel
theorem dX0_rowThrough_78 : decode cX0_rowThrough 78 = .ok (.lload 4, 2) := by decide +kernel
theorem dX0_rowThrough_80 : decode cX0_rowThrough 80 = .ok (.lreturn, 1) := by decide +kernel
set_option maxRecDepth 20000 in
theorem ggX0_partAround_X0_beside : GoodIn wsX0_partAround wsX0_beside := goodIn_r _ [5, 6, 7, 8, 4, 9, 10, 11, 12, 13, 14, 15, 16, 17, 18] (by decide +kernel) (by decide +kernel)
set_option maxRecDepth 20000 in
theorem gX0_partAround_X0_beside : GoodIn wsX0_partAround (wsV RX0 68 RX0 yX0_beside wsX0_beside) := goodIn_app (goodIn_of _ (by decide +kernel)) ggX0_partAround_X0_beside
theorem dX0_partAround_0 : decode cX0_partAround 0 = .ok (.lload_n 3, 1) := by decide +kernel
theorem dX0_partAround_1 : decode cX0_partAround 1 = .ok (.lload_n 1, 1) := by decide +kernel
theorem dX0_partAround_2 : decode cX0_partAround 2 = .ok (.land, 1) := by decide +kernel
theorem dX0_partAround_3 : decode cX0_partAround 3 = .ok (.lstore 5, 2) := by decide +kernel
theorem dX0_partAround_5 : decode cX0_partAround 5 = .ok (.iconst 0, 1) := by decide +kernel
theorem dX0_partAround_6 : decode cX0_partAround 6 = .ok (.istore 7, 2) := by decide +kernel
theorem dX0_partAround_8 : decode cX0_partAround 8 = .ok (.iload 7, 2) := by decide +kernel
theorem dX0_partAround_10 : decode cX0_partAround 10 = .ok (.bipush 64, 2) := by decide +kernel
theorem dX0_partAround_12 : decode cX0_partAround 12 = .ok (.if_icmp .ge 37, 3) := by decide +kernel
theorem dX0_partAround_15 : decode cX0_partAround 15 = .ok (.lload 5, 2) := by decide +kernel
theorem dX0_partAround_17 : decode cX0_partAround 17 = .ok (.aload_n 0, 1) := by decide +kernel
theorem dX0_partAround_18 : decode cX0_partAround 18 = .ok (.lload 5, 2) := by decide +kernel
theorem dX0_partAround_20 : decode cX0_partAround 20 = .ok (.invokevirtual 68, 3) := by decide +kernel
theorem dX0_partAround_23 : decode cX0_partAround 23 = .ok (.lload_n 1, 1) := by decide +kernel
theorem dX0_partAround_24 : decode cX0_partAround 24 = .ok (.land, 1) := by decide +kernel
theorem dX0_partAround_25 : decode cX0_partAround 25 = .ok (.lor, 1) := by decide +kernel
theorem dX0_partAround_26 : decode cX0_partAround 26 = .ok (.lstore 8, 2) := by decide +kernel
theorem dX0_partAround_28 : decode cX0_partAround 28 = .ok (.lload 8, 2) := by decide +kernel
theorem dX0_partAround_30 : decode cX0_partAround 30 = .ok (.lload 5, 2) := by decide +kernel
theorem dX0_partAround_32 : decode cX0_partAround 32 = .ok (.lcmp, 1) := by decide +kernel
theorem dX0_partAround_33 : decode cX0_partAround 33 = .ok (.ifCond .ne 6, 3) := by decide +kernel
theorem dX0_partAround_36 : decode cX0_partAround 36 = .ok (.goto 13, 3) := by decide +kernel
theorem dX0_partAround_39 : decode cX0_partAround 39 = .ok (.lload 8, 2) := by decide +kernel
theorem dX0_partAround_41 : decode cX0_partAround 41 = .ok (.lstore 5, 2) := by decide +kernel
theorem dX0_partAround_43 : decode cX0_partAround 43 = .ok (.iinc 7 1, 3) := by decide +kernel
theorem dX0_partAround_46 : decode cX0_partAround 46 = .ok (.goto (-38), 3) := by decide +kernel
theorem dX0_partAround_49 : decode cX0_partAround 49 = .ok (.lload 5, 2) := by decide +kernel
theorem dX0_partAround_51 : decode cX0_partAround 51 = .ok (.lreturn, 1) := by decide +kernel
set_option maxRecDepth 20000 in
theorem ggX0_isOnePart_X0_partAround : GoodIn wsX0_isOnePart wsX0_partAround := goodIn_r _ [5, 6, 7, 8, 4, 9, 10, 11, 12, 13, 14, 15, 16, 17, 18, 19, 20, 21, 22] (by decide +kernel) (by decide +kernel)
set_option maxRecDepth 20000 in
theorem gX0_isOnePart_X0_partAround : GoodIn wsX0_isOnePart (wsV RX0 72 RX0 yX0_partAround wsX0_partAround) := goodIn_app (goodIn_of _ (by decide +kernel)) ggX0_isOnePart_X0_partAround
theorem dX0_isOnePart_0 : decode cX0_isOnePart 0 = .ok (.aload_n 0, 1) := by decide +kernel
theorem dX0_isOnePart_1 : decode cX0_isOnePart 1 = .ok (.lload_n 1, 1) := by decide +kernel
theorem dX0_isOnePart_2 : decode cX0_isOnePart 2 = .ok (.lload_n 1, 1) := by decide +kernel
theorem dX0_isOnePart_3 : decode cX0_isOnePart 3 = .ok (.lload_n 1, 1) := by decide +kernel
theorem dX0_isOnePart_4 : decode cX0_isOnePart 4 = .ok (.lneg, 1) := by decide +kernel
theorem dX0_isOnePart_5 : decode cX0_isOnePart 5 = .ok (.land, 1) := by decide +kernel
theorem dX0_isOnePart_6 : decode cX0_isOnePart 6 = .ok (.invokevirtual 72, 3) := by decide +kernel
theorem dX0_isOnePart_9 : decode cX0_isOnePart 9 = .ok (.lload_n 1, 1) := by decide +kernel
theorem dX0_isOnePart_10 : decode cX0_isOnePart 10 = .ok (.lcmp, 1) := by decide +kernel
theorem dX0_isOnePart_11 : decode cX0_isOnePart 11 = .ok (.ifCond .ne 7, 3) := by decide +kernel
theorem dX0_isOnePart_14 : decode cX0_isOnePart 14 = .ok (.iconst 1, 1) := by decide +kernel
theorem dX0_isOnePart_15 : decode cX0_isOnePart 15 = .ok (.goto 4, 3) := by decide +kernel
theorem dX0_isOnePart_18 : decode cX0_isOnePart 18 = .ok (.iconst 0, 1) := by decide +kernel
theorem dX0_isOnePart_19 : decode cX0_isOnePart 19 = .ok (.ireturn, 1) := by decide +kernel
set_option maxRecDepth 20000 in
theorem ggX0_countParts_X0_partAround : GoodIn wsX0_countParts wsX0_partAround := goodIn_r _ [6, 7, 8, 9, 5, 10, 11, 12, 13, 14, 15, 1, 16, 17, 18, 19, 20, 21, 22] (by decide +kernel) (by decide +kernel)
set_option maxRecDepth 20000 in
theorem gX0_countParts_X0_partAround : GoodIn wsX0_countParts (wsV RX0 72 RX0 yX0_partAround wsX0_partAround) := goodIn_app (goodIn_of _ (by decide +kernel)) ggX0_countParts_X0_partAround
theorem dX0_countParts_0 : decode cX0_countParts 0 = .ok (.iconst 0, 1) := by decide +kernel
theorem dX0_countParts_1 : decode cX0_countParts 1 = .ok (.istore_n 3, 1) := by decide +kernel
theorem dX0_countParts_2 : decode cX0_countParts 2 = .ok (.lload_n 1, 1) := by decide +kernel
theorem dX0_countParts_3 : decode cX0_countParts 3 = .ok (.lstore 4, 2) := by decide +kernel
theorem dX0_countParts_5 : decode cX0_countParts 5 = .ok (.iconst 0, 1) := by decide +kernel
theorem dX0_countParts_6 : decode cX0_countParts 6 = .ok (.istore 6, 2) := by decide +kernel
theorem dX0_countParts_8 : decode cX0_countParts 8 = .ok (.iload 6, 2) := by decide +kernel
theorem dX0_countParts_10 : decode cX0_countParts 10 = .ok (.bipush 64, 2) := by decide +kernel
theorem dX0_countParts_12 : decode cX0_countParts 12 = .ok (.if_icmp .ge 40, 3) := by decide +kernel
theorem dX0_countParts_15 : decode cX0_countParts 15 = .ok (.lload 4, 2) := by decide +kernel
theorem dX0_countParts_17 : decode cX0_countParts 17 = .ok (.lconst 0, 1) := by decide +kernel
theorem dX0_countParts_18 : decode cX0_countParts 18 = .ok (.lcmp, 1) := by decide +kernel
theorem dX0_countParts_19 : decode cX0_countParts 19 = .ok (.ifCond .eq 33, 3) := by decide +kernel
theorem dX0_countParts_22 : decode cX0_countParts 22 = .ok (.lload 4, 2) := by decide +kernel
theorem dX0_countParts_24 : decode cX0_countParts 24 = .ok (.aload_n 0, 1) := by decide +kernel
theorem dX0_countParts_25 : decode cX0_countParts 25 = .ok (.lload 4, 2) := by decide +kernel
theorem dX0_countParts_27 : decode cX0_countParts 27 = .ok (.lload 4, 2) := by decide +kernel
theorem dX0_countParts_29 : decode cX0_countParts 29 = .ok (.lload 4, 2) := by decide +kernel
theorem dX0_countParts_31 : decode cX0_countParts 31 = .ok (.lneg, 1) := by decide +kernel
theorem dX0_countParts_32 : decode cX0_countParts 32 = .ok (.land, 1) := by decide +kernel
theorem dX0_countParts_33 : decode cX0_countParts 33 = .ok (.invokevirtual 72, 3) := by decide +kernel
theorem dX0_countParts_36 : decode cX0_countParts 36 = .ok (.ldc2_w 33, 3) := by decide +kernel
theorem dX0_countParts_39 : decode cX0_countParts 39 = .ok (.lxor, 1) := by decide +kernel
theorem dX0_countParts_40 : decode cX0_countParts 40 = .ok (.land, 1) := by decide +kernel
theorem dX0_countParts_41 : decode cX0_countParts 41 = .ok (.lstore 4, 2) := by decide +kernel
theorem dX0_countParts_43 : decode cX0_countParts 43 = .ok (.iinc 3 1, 3) := by decide +kernel
theorem dX0_countParts_46 : decode cX0_countParts 46 = .ok (.iinc 6 1, 3) := by decide +kernel
theorem dX0_countParts_49 : decode cX0_countParts 49 = .ok (.goto (-41), 3) := by decide +kernel
theorem dX0_countParts_52 : decode cX0_countParts 52 = .ok (.iload_n 3, 1) := by decide +kernel
theorem dX0_countParts_53 : decode cX0_countParts 53 = .ok (.ireturn, 1) := by decide +kernel
set_option maxRecDepth 20000 in
theorem ggX0_holdsTogether_X0_beside : GoodIn wsX0_holdsTogether wsX0_beside := goodIn_r _ [6, 7, 8, 9, 5, 10, 11, 1, 12, 17, 18, 19, 20, 21, 22] (by decide +kernel) (by decide +kernel)
set_option maxRecDepth 20000 in
theorem gX0_holdsTogether_X0_beside : GoodIn wsX0_holdsTogether (wsV RX0 68 RX0 yX0_beside wsX0_beside) := goodIn_app (goodIn_of _ (by decide +kernel)) ggX0_holdsTogether_X0_beside
set_option maxRecDepth 20000 in
theorem ggX0_holdsTogether_X0_partAround : GoodIn wsX0_holdsTogether wsX0_partAround := goodIn_r _ [16, 2, 3, 4, 5, 6, 7, 8, 9, 10, 11, 1, 12, 17, 18, 19, 20, 21, 22] (by decide +kernel) (by decide +kernel)
set_option maxRecDepth 20000 in
theorem gX0_holdsTogether_X0_partAround : GoodIn wsX0_holdsTogether (wsV RX0 72 RX0 yX0_partAround wsX0_partAround) := goodIn_app (goodIn_of _ (by decide +kernel)) ggX0_holdsTogether_X0_partAround
theorem dX0_holdsTogether_0 : decode cX0_holdsTogether 0 = .ok (.lload_n 1, 1) := by decide +kernel
theorem dX0_holdsTogether_1 : decode cX0_holdsTogether 1 = .ok (.lload_n 3, 1) := by decide +kernel
theorem dX0_holdsTogether_2 : decode cX0_holdsTogether 2 = .ok (.ldc2_w 33, 3) := by decide +kernel
theorem dX0_holdsTogether_5 : decode cX0_holdsTogether 5 = .ok (.lxor, 1) := by decide +kernel
theorem dX0_holdsTogether_6 : decode cX0_holdsTogether 6 = .ok (.land, 1) := by decide +kernel
theorem dX0_holdsTogether_7 : decode cX0_holdsTogether 7 = .ok (.lstore 5, 2) := by decide +kernel
theorem dX0_holdsTogether_9 : decode cX0_holdsTogether 9 = .ok (.aload_n 0, 1) := by decide +kernel
theorem dX0_holdsTogether_10 : decode cX0_holdsTogether 10 = .ok (.lload_n 3, 1) := by decide +kernel
theorem dX0_holdsTogether_11 : decode cX0_holdsTogether 11 = .ok (.invokevirtual 68, 3) := by decide +kernel
theorem dX0_holdsTogether_14 : decode cX0_holdsTogether 14 = .ok (.lload 5, 2) := by decide +kernel
theorem dX0_holdsTogether_16 : decode cX0_holdsTogether 16 = .ok (.land, 1) := by decide +kernel
theorem dX0_holdsTogether_17 : decode cX0_holdsTogether 17 = .ok (.lstore 7, 2) := by decide +kernel
theorem dX0_holdsTogether_19 : decode cX0_holdsTogether 19 = .ok (.lload 7, 2) := by decide +kernel
theorem dX0_holdsTogether_21 : decode cX0_holdsTogether 21 = .ok (.aload_n 0, 1) := by decide +kernel
theorem dX0_holdsTogether_22 : decode cX0_holdsTogether 22 = .ok (.lload 5, 2) := by decide +kernel
theorem dX0_holdsTogether_24 : decode cX0_holdsTogether 24 = .ok (.lload 7, 2) := by decide +kernel
theorem dX0_holdsTogether_26 : decode cX0_holdsTogether 26 = .ok (.lload 7, 2) := by decide +kernel
theorem dX0_holdsTogether_28 : decode cX0_holdsTogether 28 = .ok (.lneg, 1) := by decide +kernel
theorem dX0_holdsTogether_29 : decode cX0_holdsTogether 29 = .ok (.land, 1) := by decide +kernel
theorem dX0_holdsTogether_30 : decode cX0_holdsTogether 30 = .ok (.invokevirtual 72, 3) := by decide +kernel
theorem dX0_holdsTogether_33 : decode cX0_holdsTogether 33 = .ok (.ldc2_w 33, 3) := by decide +kernel
theorem dX0_holdsTogether_36 : decode cX0_holdsTogether 36 = .ok (.lxor, 1) := by decide +kernel
theorem dX0_holdsTogether_37 : decode cX0_holdsTogether 37 = .ok (.land, 1) := by decide +kernel
theorem dX0_holdsTogether_38 : decode cX0_holdsTogether 38 = .ok (.lconst 0, 1) := by decide +kernel
theorem dX0_holdsTogether_39 : decode cX0_holdsTogether 39 = .ok (.lcmp, 1) := by decide +kernel
theorem dX0_holdsTogether_40 : decode cX0_holdsTogether 40 = .ok (.ifCond .eq 7, 3) := by decide +kernel
theorem dX0_holdsTogether_43 : decode cX0_holdsTogether 43 = .ok (.iconst 1, 1) := by decide +kernel
theorem dX0_holdsTogether_44 : decode cX0_holdsTogether 44 = .ok (.goto 4, 3) := by decide +kernel
theorem dX0_holdsTogether_47 : decode cX0_holdsTogether 47 = .ok (.iconst 0, 1) := by decide +kernel
theorem dX0_holdsTogether_48 : decode cX0_holdsTogether 48 = .ok (.ireturn, 1) := by decide +kernel
set_option maxRecDepth 20000 in
theorem ggX0_thinnestRow_X0_rowThrough : GoodIn wsX0_thinnestRow wsX0_rowThrough := goodIn_r _ [6, 7, 8, 16, 17, 18, 19, 20, 21] (by decide +kernel) (by decide +kernel)
set_option maxRecDepth 20000 in
theorem gX0_thinnestRow_X0_rowThrough : GoodIn wsX0_thinnestRow (wsV RX0 76 RX0 yX0_rowThrough wsX0_rowThrough) := goodIn_app (goodIn_of _ (by decide +kernel)) ggX0_thinnestRow_X0_rowThrough
set_option maxRecDepth 20000 in
theorem ggX0_thinnestRow_J13_bitCount_95d88 : GoodIn wsX0_thinnestRow wsJ13_bitCount_95d88 := goodIn_r _ [12, 13, 14, 15] (by decide +kernel) (by decide +kernel)
set_option maxRecDepth 20000 in
theorem gX0_thinnestRow_J13_bitCount_95d88 : GoodIn wsX0_thinnestRow (va_wsS RX0 79 yJ13_bitCount_95d88 wsJ13_bitCount_95d88) := goodIn_app (goodIn_of _ (by decide +kernel)) ggX0_thinnestRow_J13_bitCount_95d88
theorem dX0_thinnestRow_0 : decode cX0_thinnestRow 0 = .ok (.iconst 0, 1) := by decide +kernel
theorem dX0_thinnestRow_1 : decode cX0_thinnestRow 1 = .ok (.istore 4, 2) := by decide +kernel
theorem dX0_thinnestRow_3 : decode cX0_thinnestRow 3 = .ok (.iconst 0, 1) := by decide +kernel
theorem dX0_thinnestRow_4 : decode cX0_thinnestRow 4 = .ok (.istore 5, 2) := by decide +kernel
theorem dX0_thinnestRow_6 : decode cX0_thinnestRow 6 = .ok (.iload 5, 2) := by decide +kernel
theorem dX0_thinnestRow_8 : decode cX0_thinnestRow 8 = .ok (.aload_n 0, 1) := by decide +kernel
theorem dX0_thinnestRow_9 : decode cX0_thinnestRow 9 = .ok (.getfield 30, 3) := by decide +kernel
theorem dX0_thinnestRow_12 : decode cX0_thinnestRow 12 = .ok (.if_icmp .ge 57, 3) := by decide +kernel
theorem dX0_thinnestRow_15 : decode cX0_thinnestRow 15 = .ok (.lconst 1, 1) := by decide +kernel
theorem dX0_thinnestRow_16 : decode cX0_thinnestRow 16 = .ok (.iload 5, 2) := by decide +kernel
theorem dX0_thinnestRow_18 : decode cX0_thinnestRow 18 = .ok (.lshl, 1) := by decide +kernel
theorem dX0_thinnestRow_19 : decode cX0_thinnestRow 19 = .ok (.lstore 6, 2) := by decide +kernel
theorem dX0_thinnestRow_21 : decode cX0_thinnestRow 21 = .ok (.lload_n 1, 1) := by decide +kernel
theorem dX0_thinnestRow_22 : decode cX0_thinnestRow 22 = .ok (.lload 6, 2) := by decide +kernel
theorem dX0_thinnestRow_24 : decode cX0_thinnestRow 24 = .ok (.land, 1) := by decide +kernel
theorem dX0_thinnestRow_25 : decode cX0_thinnestRow 25 = .ok (.lconst 0, 1) := by decide +kernel
theorem dX0_thinnestRow_26 : decode cX0_thinnestRow 26 = .ok (.lcmp, 1) := by decide +kernel
theorem dX0_thinnestRow_27 : decode cX0_thinnestRow 27 = .ok (.ifCond .ne 6, 3) := by decide +kernel
theorem dX0_thinnestRow_30 : decode cX0_thinnestRow 30 = .ok (.goto 33, 3) := by decide +kernel
theorem dX0_thinnestRow_33 : decode cX0_thinnestRow 33 = .ok (.lload_n 1, 1) := by decide +kernel
theorem dX0_thinnestRow_34 : decode cX0_thinnestRow 34 = .ok (.aload_n 0, 1) := by decide +kernel
theorem dX0_thinnestRow_35 : decode cX0_thinnestRow 35 = .ok (.lload 6, 2) := by decide +kernel
theorem dX0_thinnestRow_37 : decode cX0_thinnestRow 37 = .ok (.iload_n 3, 1) := by decide +kernel
theorem dX0_thinnestRow_38 : decode cX0_thinnestRow 38 = .ok (.invokevirtual 76, 3) := by decide +kernel
theorem dX0_thinnestRow_41 : decode cX0_thinnestRow 41 = .ok (.land, 1) := by decide +kernel
theorem dX0_thinnestRow_42 : decode cX0_thinnestRow 42 = .ok (.invokestatic 79, 3) := by decide +kernel
theorem dX0_thinnestRow_45 : decode cX0_thinnestRow 45 = .ok (.istore 8, 2) := by decide +kernel
theorem dX0_thinnestRow_47 : decode cX0_thinnestRow 47 = .ok (.iload 4, 2) := by decide +kernel
theorem dX0_thinnestRow_49 : decode cX0_thinnestRow 49 = .ok (.ifCond .eq 10, 3) := by decide +kernel
theorem dX0_thinnestRow_52 : decode cX0_thinnestRow 52 = .ok (.iload 8, 2) := by decide +kernel
theorem dX0_thinnestRow_54 : decode cX0_thinnestRow 54 = .ok (.iload 4, 2) := by decide +kernel
theorem dX0_thinnestRow_56 : decode cX0_thinnestRow 56 = .ok (.if_icmp .ge 7, 3) := by decide +kernel
theorem dX0_thinnestRow_59 : decode cX0_thinnestRow 59 = .ok (.iload 8, 2) := by decide +kernel
theorem dX0_thinnestRow_61 : decode cX0_thinnestRow 61 = .ok (.istore 4, 2) := by decide +kernel
theorem dX0_thinnestRow_63 : decode cX0_thinnestRow 63 = .ok (.iinc 5 1, 3) := by decide +kernel
theorem dX0_thinnestRow_66 : decode cX0_thinnestRow 66 = .ok (.goto (-60), 3) := by decide +kernel
theorem dX0_thinnestRow_69 : decode cX0_thinnestRow 69 = .ok (.iload 4, 2) := by decide +kernel
theorem dX0_thinnestRow_71 : decode cX0_thinnestRow 71 = .ok (.ireturn, 1) := by decide +kernel
set_option maxRecDepth 20000 in
theorem ggX0_mirrored_X0_layer : GoodIn wsX0_mirrored wsX0_layer := goodIn_r _ [7, 8, 12, 13, 14, 15, 16, 17] (by decide +kernel) (by decide +kernel)
set_option maxRecDepth 20000 in
theorem gX0_mirrored_X0_layer : GoodIn wsX0_mirrored (wsV RX0 45 RX0 yX0_layer wsX0_layer) := goodIn_app (goodIn_of _ (by decide +kernel)) ggX0_mirrored_X0_layer
set_option maxRecDepth 20000 in
theorem ggX0_mirrored_X0_shiftedBy : GoodIn wsX0_mirrored wsX0_shiftedBy := goodIn_r _ [11] (by decide +kernel) (by decide +kernel)
set_option maxRecDepth 20000 in
theorem gX0_mirrored_X0_shiftedBy : GoodIn wsX0_mirrored (va_wsS RX0 85 yX0_shiftedBy wsX0_shiftedBy) := goodIn_app (goodIn_of _ (by decide +kernel)) ggX0_mirrored_X0_shiftedBy
theorem dX0_mirrored_0 : decode cX0_mirrored 0 = .ok (.lconst 0, 1) := by decide +kernel
theorem dX0_mirrored_1 : decode cX0_mirrored 1 = .ok (.lstore 4, 2) := by decide +kernel
theorem dX0_mirrored_3 : decode cX0_mirrored 3 = .ok (.iconst 0, 1) := by decide +kernel
theorem dX0_mirrored_4 : decode cX0_mirrored 4 = .ok (.istore 6, 2) := by decide +kernel
theorem dX0_mirrored_6 : decode cX0_mirrored 6 = .ok (.iload 6, 2) := by decide +kernel
theorem dX0_mirrored_8 : decode cX0_mirrored 8 = .ok (.aload_n 0, 1) := by decide +kernel
theorem dX0_mirrored_9 : decode cX0_mirrored 9 = .ok (.getfield 26, 3) := by decide +kernel
theorem dX0_mirrored_12 : decode cX0_mirrored 12 = .ok (.if_icmp .ge 44, 3) := by decide +kernel
theorem dX0_mirrored_15 : decode cX0_mirrored 15 = .ok (.lload 4, 2) := by decide +kernel
theorem dX0_mirrored_17 : decode cX0_mirrored 17 = .ok (.lload_n 1, 1) := by decide +kernel
theorem dX0_mirrored_18 : decode cX0_mirrored 18 = .ok (.aload_n 0, 1) := by decide +kernel
theorem dX0_mirrored_19 : decode cX0_mirrored 19 = .ok (.iload_n 3, 1) := by decide +kernel
theorem dX0_mirrored_20 : decode cX0_mirrored 20 = .ok (.iload 6, 2) := by decide +kernel
theorem dX0_mirrored_22 : decode cX0_mirrored 22 = .ok (.invokevirtual 45, 3) := by decide +kernel
theorem dX0_mirrored_25 : decode cX0_mirrored 25 = .ok (.land, 1) := by decide +kernel
theorem dX0_mirrored_26 : decode cX0_mirrored 26 = .ok (.aload_n 0, 1) := by decide +kernel
theorem dX0_mirrored_27 : decode cX0_mirrored 27 = .ok (.getfield 26, 3) := by decide +kernel
theorem dX0_mirrored_30 : decode cX0_mirrored 30 = .ok (.iconst 1, 1) := by decide +kernel
theorem dX0_mirrored_31 : decode cX0_mirrored 31 = .ok (.isub, 1) := by decide +kernel
theorem dX0_mirrored_32 : decode cX0_mirrored 32 = .ok (.iconst 2, 1) := by decide +kernel
theorem dX0_mirrored_33 : decode cX0_mirrored 33 = .ok (.iload 6, 2) := by decide +kernel
theorem dX0_mirrored_35 : decode cX0_mirrored 35 = .ok (.imul, 1) := by decide +kernel
theorem dX0_mirrored_36 : decode cX0_mirrored 36 = .ok (.isub, 1) := by decide +kernel
theorem dX0_mirrored_37 : decode cX0_mirrored 37 = .ok (.aload_n 0, 1) := by decide +kernel
theorem dX0_mirrored_38 : decode cX0_mirrored 38 = .ok (.getfield 9, 3) := by decide +kernel
theorem dX0_mirrored_41 : decode cX0_mirrored 41 = .ok (.iload_n 3, 1) := by decide +kernel
theorem dX0_mirrored_42 : decode cX0_mirrored 42 = .ok (.iaload, 1) := by decide +kernel
theorem dX0_mirrored_43 : decode cX0_mirrored 43 = .ok (.imul, 1) := by decide +kernel
theorem dX0_mirrored_44 : decode cX0_mirrored 44 = .ok (.invokestatic 85, 3) := by decide +kernel
theorem dX0_mirrored_47 : decode cX0_mirrored 47 = .ok (.lor, 1) := by decide +kernel
theorem dX0_mirrored_48 : decode cX0_mirrored 48 = .ok (.lstore 4, 2) := by decide +kernel
theorem dX0_mirrored_50 : decode cX0_mirrored 50 = .ok (.iinc 6 1, 3) := by decide +kernel
theorem dX0_mirrored_53 : decode cX0_mirrored 53 = .ok (.goto (-47), 3) := by decide +kernel
theorem dX0_mirrored_56 : decode cX0_mirrored 56 = .ok (.lload 4, 2) := by decide +kernel
theorem dX0_mirrored_58 : decode cX0_mirrored 58 = .ok (.lreturn, 1) := by decide +kernel
set_option maxRecDepth 20000 in
theorem ggX0_turned_X0_layer : GoodIn wsX0_turned wsX0_layer := goodIn_r _ [7, 8, 12, 13, 14, 15, 16, 17] (by decide +kernel) (by decide +kernel)
set_option maxRecDepth 20000 in
theorem gX0_turned_X0_layer : GoodIn wsX0_turned (wsV RX0 45 RX0 yX0_layer wsX0_layer) := goodIn_app (goodIn_of _ (by decide +kernel)) ggX0_turned_X0_layer
set_option maxRecDepth 20000 in
theorem ggX0_turned_X0_shiftedBy : GoodIn wsX0_turned wsX0_shiftedBy := goodIn_r _ [11] (by decide +kernel) (by decide +kernel)
set_option maxRecDepth 20000 in
theorem gX0_turned_X0_shiftedBy : GoodIn wsX0_turned (va_wsS RX0 85 yX0_shiftedBy wsX0_shiftedBy) := goodIn_app (goodIn_of _ (by decide +kernel)) ggX0_turned_X0_shiftedBy
theorem dX0_turned_0 : decode cX0_turned 0 = .ok (.iload_n 3, 1) := by decide +kernel
theorem dX0_turned_1 : decode cX0_turned 1 = .ok (.ifCond .ne 7, 3) := by decide +kernel
theorem dX0_turned_4 : decode cX0_turned 4 = .ok (.iconst 1, 1) := by decide +kernel
theorem dX0_turned_5 : decode cX0_turned 5 = .ok (.goto 4, 3) := by decide +kernel
theorem dX0_turned_8 : decode cX0_turned 8 = .ok (.iconst 0, 1) := by decide +kernel
theorem dX0_turned_9 : decode cX0_turned 9 = .ok (.istore 4, 2) := by decide +kernel
theorem dX0_turned_11 : decode cX0_turned 11 = .ok (.iload_n 3, 1) := by decide +kernel
theorem dX0_turned_12 : decode cX0_turned 12 = .ok (.iconst 2, 1) := by decide +kernel
theorem dX0_turned_13 : decode cX0_turned 13 = .ok (.if_icmp .ne 7, 3) := by decide +kernel
theorem dX0_turned_16 : decode cX0_turned 16 = .ok (.iconst 1, 1) := by decide +kernel
theorem dX0_turned_17 : decode cX0_turned 17 = .ok (.goto 4, 3) := by decide +kernel
theorem dX0_turned_20 : decode cX0_turned 20 = .ok (.iconst 2, 1) := by decide +kernel
theorem dX0_turned_21 : decode cX0_turned 21 = .ok (.istore 5, 2) := by decide +kernel
theorem dX0_turned_23 : decode cX0_turned 23 = .ok (.lconst 0, 1) := by decide +kernel
theorem dX0_turned_24 : decode cX0_turned 24 = .ok (.lstore 6, 2) := by decide +kernel
theorem dX0_turned_26 : decode cX0_turned 26 = .ok (.iconst 0, 1) := by decide +kernel
theorem dX0_turned_27 : decode cX0_turned 27 = .ok (.istore 8, 2) := by decide +kernel
theorem dX0_turned_29 : decode cX0_turned 29 = .ok (.iload 8, 2) := by decide +kernel
theorem dX0_turned_31 : decode cX0_turned 31 = .ok (.aload_n 0, 1) := by decide +kernel
theorem dX0_turned_32 : decode cX0_turned 32 = .ok (.getfield 26, 3) := by decide +kernel
theorem dX0_turned_35 : decode cX0_turned 35 = .ok (.if_icmp .ge 92, 3) := by decide +kernel
theorem dX0_turned_38 : decode cX0_turned 38 = .ok (.iconst 0, 1) := by decide +kernel
theorem dX0_turned_39 : decode cX0_turned 39 = .ok (.istore 9, 2) := by decide +kernel
theorem dX0_turned_41 : decode cX0_turned 41 = .ok (.iload 9, 2) := by decide +kernel
theorem dX0_turned_43 : decode cX0_turned 43 = .ok (.aload_n 0, 1) := by decide +kernel
theorem dX0_turned_44 : decode cX0_turned 44 = .ok (.getfield 26, 3) := by decide +kernel
theorem dX0_turned_47 : decode cX0_turned 47 = .ok (.if_icmp .ge 74, 3) := by decide +kernel
theorem dX0_turned_50 : decode cX0_turned 50 = .ok (.lload_n 1, 1) := by decide +kernel
theorem dX0_turned_51 : decode cX0_turned 51 = .ok (.aload_n 0, 1) := by decide +kernel
theorem dX0_turned_52 : decode cX0_turned 52 = .ok (.iload 4, 2) := by decide +kernel
theorem dX0_turned_54 : decode cX0_turned 54 = .ok (.iload 8, 2) := by decide +kernel
theorem dX0_turned_56 : decode cX0_turned 56 = .ok (.invokevirtual 45, 3) := by decide +kernel
theorem dX0_turned_59 : decode cX0_turned 59 = .ok (.land, 1) := by decide +kernel
theorem dX0_turned_60 : decode cX0_turned 60 = .ok (.aload_n 0, 1) := by decide +kernel
theorem dX0_turned_61 : decode cX0_turned 61 = .ok (.iload 5, 2) := by decide +kernel
theorem dX0_turned_63 : decode cX0_turned 63 = .ok (.iload 9, 2) := by decide +kernel
theorem dX0_turned_65 : decode cX0_turned 65 = .ok (.invokevirtual 45, 3) := by decide +kernel
theorem dX0_turned_68 : decode cX0_turned 68 = .ok (.land, 1) := by decide +kernel
theorem dX0_turned_69 : decode cX0_turned 69 = .ok (.lstore 10, 2) := by decide +kernel
theorem dX0_turned_71 : decode cX0_turned 71 = .ok (.lload 6, 2) := by decide +kernel
theorem dX0_turned_73 : decode cX0_turned 73 = .ok (.lload 10, 2) := by decide +kernel
theorem dX0_turned_75 : decode cX0_turned 75 = .ok (.iload 9, 2) := by decide +kernel
theorem dX0_turned_77 : decode cX0_turned 77 = .ok (.iload 8, 2) := by decide +kernel
theorem dX0_turned_79 : decode cX0_turned 79 = .ok (.isub, 1) := by decide +kernel
theorem dX0_turned_80 : decode cX0_turned 80 = .ok (.aload_n 0, 1) := by decide +kernel
theorem dX0_turned_81 : decode cX0_turned 81 = .ok (.getfield 9, 3) := by decide +kernel
theorem dX0_turned_84 : decode cX0_turned 84 = .ok (.iload 4, 2) := by decide +kernel
theorem dX0_turned_86 : decode cX0_turned 86 = .ok (.iaload, 1) := by decide +kernel
theorem dX0_turned_87 : decode cX0_turned 87 = .ok (.imul, 1) := by decide +kernel
theorem dX0_turned_88 : decode cX0_turned 88 = .ok (.aload_n 0, 1) := by decide +kernel
theorem dX0_turned_89 : decode cX0_turned 89 = .ok (.getfield 26, 3) := by decide +kernel
theorem dX0_turned_92 : decode cX0_turned 92 = .ok (.iconst 1, 1) := by decide +kernel
theorem dX0_turned_93 : decode cX0_turned 93 = .ok (.isub, 1) := by decide +kernel
theorem dX0_turned_94 : decode cX0_turned 94 = .ok (.iload 8, 2) := by decide +kernel
theorem dX0_turned_96 : decode cX0_turned 96 = .ok (.isub, 1) := by decide +kernel
theorem dX0_turned_97 : decode cX0_turned 97 = .ok (.iload 9, 2) := by decide +kernel
theorem dX0_turned_99 : decode cX0_turned 99 = .ok (.isub, 1) := by decide +kernel
theorem dX0_turned_100 : decode cX0_turned 100 = .ok (.aload_n 0, 1) := by decide +kernel
theorem dX0_turned_101 : decode cX0_turned 101 = .ok (.getfield 9, 3) := by decide +kernel
theorem dX0_turned_104 : decode cX0_turned 104 = .ok (.iload 5, 2) := by decide +kernel
theorem dX0_turned_106 : decode cX0_turned 106 = .ok (.iaload, 1) := by decide +kernel
theorem dX0_turned_107 : decode cX0_turned 107 = .ok (.imul, 1) := by decide +kernel
theorem dX0_turned_108 : decode cX0_turned 108 = .ok (.iadd, 1) := by decide +kernel
theorem dX0_turned_109 : decode cX0_turned 109 = .ok (.invokestatic 85, 3) := by decide +kernel
theorem dX0_turned_112 : decode cX0_turned 112 = .ok (.lor, 1) := by decide +kernel
theorem dX0_turned_113 : decode cX0_turned 113 = .ok (.lstore 6, 2) := by decide +kernel
theorem dX0_turned_115 : decode cX0_turned 115 = .ok (.iinc 9 1, 3) := by decide +kernel
theorem dX0_turned_118 : decode cX0_turned 118 = .ok (.goto (-77), 3) := by decide +kernel
theorem dX0_turned_121 : decode cX0_turned 121 = .ok (.iinc 8 1, 3) := by decide +kernel
theorem dX0_turned_124 : decode cX0_turned 124 = .ok (.goto (-95), 3) := by decide +kernel
theorem dX0_turned_127 : decode cX0_turned 127 = .ok (.lload 6, 2) := by decide +kernel
theorem dX0_turned_129 : decode cX0_turned 129 = .ok (.lreturn, 1) := by decide +kernel
theorem dX0_shiftedBy_0 : decode cX0_shiftedBy 0 = .ok (.iload_n 2, 1) := by decide +kernel
theorem dX0_shiftedBy_1 : decode cX0_shiftedBy 1 = .ok (.ifCond .lt 9, 3) := by decide +kernel
theorem dX0_shiftedBy_4 : decode cX0_shiftedBy 4 = .ok (.lload_n 0, 1) := by decide +kernel
theorem dX0_shiftedBy_5 : decode cX0_shiftedBy 5 = .ok (.iload_n 2, 1) := by decide +kernel
theorem dX0_shiftedBy_6 : decode cX0_shiftedBy 6 = .ok (.lshl, 1) := by decide +kernel
theorem dX0_shiftedBy_7 : decode cX0_shiftedBy 7 = .ok (.goto 7, 3) := by decide +kernel
theorem dX0_shiftedBy_10 : decode cX0_shiftedBy 10 = .ok (.lload_n 0, 1) := by decide +kernel
theorem dX0_shiftedBy_11 : decode cX0_shiftedBy 11 = .ok (.iload_n 2, 1) := by decide +kernel
theorem dX0_shiftedBy_12 : decode cX0_shiftedBy 12 = .ok (.ineg, 1) := by decide +kernel
theorem dX0_shiftedBy_13 : decode cX0_shiftedBy 13 = .ok (.lushr, 1) := by decide +kernel
theorem dX0_shiftedBy_14 : decode cX0_shiftedBy 14 = .ok (.lreturn, 1) := by decide +kernel
theorem dX1_init_0 : decode cX1_init 0 = .ok (.aload_n 0, 1) := by decide +kernel
theorem dX1_init_1 : decode cX1_init 1 = .ok (.invokespecial 3, 3) := by decide +kernel
theorem dX1_init_4 : decode cX1_init 4 = .ok (.aload_n 0, 1) := by decide +kernel
theorem dX1_init_5 : decode cX1_init 5 = .ok (.lconst 0, 1) := by decide +kernel
theorem dX1_init_6 : decode cX1_init 6 = .ok (.putfield 9, 3) := by decide +kernel
theorem dX1_init_9 : decode cX1_init 9 = .ok (.aload_n 0, 1) := by decide +kernel
theorem dX1_init_10 : decode cX1_init 10 = .ok (.bipush 6, 2) := by decide +kernel
theorem dX1_init_12 : decode cX1_init 12 = .ok (.newarray .long, 2) := by decide +kernel
theorem dX1_init_14 : decode cX1_init 14 = .ok (.putfield 15, 3) := by decide +kernel
theorem dX1_init_17 : decode cX1_init 17 = .ok (.aload_n 0, 1) := by decide +kernel
theorem dX1_init_18 : decode cX1_init 18 = .ok (.bipush 6, 2) := by decide +kernel
theorem dX1_init_20 : decode cX1_init 20 = .ok (.newarray .long, 2) := by decide +kernel
theorem dX1_init_22 : decode cX1_init 22 = .ok (.putfield 19, 3) := by decide +kernel
theorem dX1_init_25 : decode cX1_init 25 = .ok (.return_, 1) := by decide +kernel
set_option maxRecDepth 20000 in
theorem ggX1_look_X0_behind : GoodIn wsX1_look wsX0_behind := goodIn_r _ [9, 10, 11, 12, 13, 8, 14, 15, 16, 17, 18, 19, 20, 21, 22, 23] (by decide +kernel) (by decide +kernel)
set_option maxRecDepth 20000 in
theorem gX1_look_X0_behind : GoodIn wsX1_look (wsV RX1 29 RX0 yX0_behind wsX0_behind) := goodIn_app (goodIn_of _ (by decide +kernel)) ggX1_look_X0_behind
theorem dX1_look_0 : decode cX1_look 0 = .ok (.aload_n 0, 1) := by decide +kernel
theorem dX1_look_1 : decode cX1_look 1 = .ok (.aload_n 1, 1) := by decide +kernel
theorem dX1_look_2 : decode cX1_look 2 = .ok (.getfield 22, 3) := by decide +kernel
theorem dX1_look_5 : decode cX1_look 5 = .ok (.lload_n 2, 1) := by decide +kernel
theorem dX1_look_6 : decode cX1_look 6 = .ok (.ldc2_w 27, 3) := by decide +kernel
theorem dX1_look_9 : decode cX1_look 9 = .ok (.lxor, 1) := by decide +kernel
theorem dX1_look_10 : decode cX1_look 10 = .ok (.land, 1) := by decide +kernel
theorem dX1_look_11 : decode cX1_look 11 = .ok (.putfield 9, 3) := by decide +kernel
theorem dX1_look_14 : decode cX1_look 14 = .ok (.iconst 0, 1) := by decide +kernel
theorem dX1_look_15 : decode cX1_look 15 = .ok (.istore 4, 2) := by decide +kernel
theorem dX1_look_17 : decode cX1_look 17 = .ok (.iload 4, 2) := by decide +kernel
theorem dX1_look_19 : decode cX1_look 19 = .ok (.bipush 6, 2) := by decide +kernel
theorem dX1_look_21 : decode cX1_look 21 = .ok (.if_icmp .ge 32, 3) := by decide +kernel
theorem dX1_look_24 : decode cX1_look 24 = .ok (.aload_n 0, 1) := by decide +kernel
theorem dX1_look_25 : decode cX1_look 25 = .ok (.getfield 15, 3) := by decide +kernel
theorem dX1_look_28 : decode cX1_look 28 = .ok (.iload 4, 2) := by decide +kernel
theorem dX1_look_30 : decode cX1_look 30 = .ok (.aload_n 0, 1) := by decide +kernel
theorem dX1_look_31 : decode cX1_look 31 = .ok (.getfield 9, 3) := by decide +kernel
theorem dX1_look_34 : decode cX1_look 34 = .ok (.aload_n 1, 1) := by decide +kernel
theorem dX1_look_35 : decode cX1_look 35 = .ok (.lload_n 2, 1) := by decide +kernel
theorem dX1_look_36 : decode cX1_look 36 = .ok (.iload 4, 2) := by decide +kernel
theorem dX1_look_38 : decode cX1_look 38 = .ok (.invokevirtual 29, 3) := by decide +kernel
theorem dX1_look_41 : decode cX1_look 41 = .ok (.ldc2_w 27, 3) := by decide +kernel
theorem dX1_look_44 : decode cX1_look 44 = .ok (.lxor, 1) := by decide +kernel
theorem dX1_look_45 : decode cX1_look 45 = .ok (.land, 1) := by decide +kernel
theorem dX1_look_46 : decode cX1_look 46 = .ok (.lastore, 1) := by decide +kernel
theorem dX1_look_47 : decode cX1_look 47 = .ok (.iinc 4 1, 3) := by decide +kernel
theorem dX1_look_50 : decode cX1_look 50 = .ok (.goto (-33), 3) := by decide +kernel
theorem dX1_look_53 : decode cX1_look 53 = .ok (.return_, 1) := by decide +kernel
theorem dX1_waysOf_0 : decode cX1_waysOf 0 = .ok (.iconst 0, 1) := by decide +kernel
theorem dX1_waysOf_1 : decode cX1_waysOf 1 = .ok (.istore_n 3, 1) := by decide +kernel
theorem dX1_waysOf_2 : decode cX1_waysOf 2 = .ok (.iconst 0, 1) := by decide +kernel
theorem dX1_waysOf_3 : decode cX1_waysOf 3 = .ok (.istore 4, 2) := by decide +kernel
theorem dX1_waysOf_5 : decode cX1_waysOf 5 = .ok (.iload 4, 2) := by decide +kernel
theorem dX1_waysOf_7 : decode cX1_waysOf 7 = .ok (.bipush 6, 2) := by decide +kernel
theorem dX1_waysOf_9 : decode cX1_waysOf 9 = .ok (.if_icmp .ge 30, 3) := by decide +kernel
theorem dX1_waysOf_12 : decode cX1_waysOf 12 = .ok (.aload_n 0, 1) := by decide +kernel
theorem dX1_waysOf_13 : decode cX1_waysOf 13 = .ok (.getfield 15, 3) := by decide +kernel
theorem dX1_waysOf_16 : decode cX1_waysOf 16 = .ok (.iload 4, 2) := by decide +kernel
theorem dX1_waysOf_18 : decode cX1_waysOf 18 = .ok (.laload, 1) := by decide +kernel
theorem dX1_waysOf_19 : decode cX1_waysOf 19 = .ok (.lload_n 1, 1) := by decide +kernel
theorem dX1_waysOf_20 : decode cX1_waysOf 20 = .ok (.land, 1) := by decide +kernel
theorem dX1_waysOf_21 : decode cX1_waysOf 21 = .ok (.lconst 0, 1) := by decide +kernel
theorem dX1_waysOf_22 : decode cX1_waysOf 22 = .ok (.lcmp, 1) := by decide +kernel
theorem dX1_waysOf_23 : decode cX1_waysOf 23 = .ok (.ifCond .eq 10, 3) := by decide +kernel
theorem dX1_waysOf_26 : decode cX1_waysOf 26 = .ok (.iload_n 3, 1) := by decide +kernel
theorem dX1_waysOf_27 : decode cX1_waysOf 27 = .ok (.iconst 1, 1) := by decide +kernel
theorem dX1_waysOf_28 : decode cX1_waysOf 28 = .ok (.iload 4, 2) := by decide +kernel
theorem dX1_waysOf_30 : decode cX1_waysOf 30 = .ok (.ishl, 1) := by decide +kernel
theorem dX1_waysOf_31 : decode cX1_waysOf 31 = .ok (.ior, 1) := by decide +kernel
theorem dX1_waysOf_32 : decode cX1_waysOf 32 = .ok (.istore_n 3, 1) := by decide +kernel
theorem dX1_waysOf_33 : decode cX1_waysOf 33 = .ok (.iinc 4 1, 3) := by decide +kernel
theorem dX1_waysOf_36 : decode cX1_waysOf 36 = .ok (.goto (-31), 3) := by decide +kernel
theorem dX1_waysOf_39 : decode cX1_waysOf 39 = .ok (.iload_n 3, 1) := by decide +kernel
theorem dX1_waysOf_40 : decode cX1_waysOf 40 = .ok (.ireturn, 1) := by decide +kernel
theorem dX1_freeByOneOf_0 : decode cX1_freeByOneOf 0 = .ok (.lconst 0, 1) := by decide +kernel
theorem dX1_freeByOneOf_1 : decode cX1_freeByOneOf 1 = .ok (.lstore_n 2, 1) := by decide +kernel
theorem dX1_freeByOneOf_2 : decode cX1_freeByOneOf 2 = .ok (.iconst 0, 1) := by decide +kernel
theorem dX1_freeByOneOf_3 : decode cX1_freeByOneOf 3 = .ok (.istore 4, 2) := by decide +kernel
theorem dX1_freeByOneOf_5 : decode cX1_freeByOneOf 5 = .ok (.iload 4, 2) := by decide +kernel
theorem dX1_freeByOneOf_7 : decode cX1_freeByOneOf 7 = .ok (.bipush 6, 2) := by decide +kernel
theorem dX1_freeByOneOf_9 : decode cX1_freeByOneOf 9 = .ok (.if_icmp .ge 28, 3) := by decide +kernel
theorem dX1_freeByOneOf_12 : decode cX1_freeByOneOf 12 = .ok (.iload_n 1, 1) := by decide +kernel
theorem dX1_freeByOneOf_13 : decode cX1_freeByOneOf 13 = .ok (.iload 4, 2) := by decide +kernel
theorem dX1_freeByOneOf_15 : decode cX1_freeByOneOf 15 = .ok (.ishr, 1) := by decide +kernel
theorem dX1_freeByOneOf_16 : decode cX1_freeByOneOf 16 = .ok (.iconst 1, 1) := by decide +kernel
theorem dX1_freeByOneOf_17 : decode cX1_freeByOneOf 17 = .ok (.iand, 1) := by decide +kernel
theorem dX1_freeByOneOf_18 : decode cX1_freeByOneOf 18 = .ok (.ifCond .eq 13, 3) := by decide +kernel
theorem dX1_freeByOneOf_21 : decode cX1_freeByOneOf 21 = .ok (.lload_n 2, 1) := by decide +kernel
theorem dX1_freeByOneOf_22 : decode cX1_freeByOneOf 22 = .ok (.aload_n 0, 1) := by decide +kernel
theorem dX1_freeByOneOf_23 : decode cX1_freeByOneOf 23 = .ok (.getfield 15, 3) := by decide +kernel
theorem dX1_freeByOneOf_26 : decode cX1_freeByOneOf 26 = .ok (.iload 4, 2) := by decide +kernel
theorem dX1_freeByOneOf_28 : decode cX1_freeByOneOf 28 = .ok (.laload, 1) := by decide +kernel
theorem dX1_freeByOneOf_29 : decode cX1_freeByOneOf 29 = .ok (.lor, 1) := by decide +kernel
theorem dX1_freeByOneOf_30 : decode cX1_freeByOneOf 30 = .ok (.lstore_n 2, 1) := by decide +kernel
theorem dX1_freeByOneOf_31 : decode cX1_freeByOneOf 31 = .ok (.iinc 4 1, 3) := by decide +kernel
theorem dX1_freeByOneOf_34 : decode cX1_freeByOneOf 34 = .ok (.goto (-29), 3) := by decide +kernel
theorem dX1_freeByOneOf_37 : decode cX1_freeByOneOf 37 = .ok (.lload_n 2, 1) := by decide +kernel
theorem dX1_freeByOneOf_38 : decode cX1_freeByOneOf 38 = .ok (.lreturn, 1) := by decide +kernel
set_option maxRecDepth 20000 in
theorem ggX1_neverFree_X1_freeByOneOf : GoodIn wsX1_neverFree wsX1_freeByOneOf := goodIn_r _ [7, 8, 9, 10, 11] (by decide +kernel) (by decide +kernel)
set_option maxRecDepth 20000 in
theorem gX1_neverFree_X1_freeByOneOf : GoodIn wsX1_neverFree (wsV RX1 33 RX1 yX1_freeByOneOf wsX1_freeByOneOf) := goodIn_app (goodIn_of _ (by decide +kernel)) ggX1_neverFree_X1_freeByOneOf
theorem dX1_neverFree_0 : decode cX1_neverFree 0 = .ok (.aload_n 0, 1) := by decide +kernel
theorem dX1_neverFree_1 : decode cX1_neverFree 1 = .ok (.getfield 9, 3) := by decide +kernel
theorem dX1_neverFree_4 : decode cX1_neverFree 4 = .ok (.aload_n 0, 1) := by decide +kernel
theorem dX1_neverFree_5 : decode cX1_neverFree 5 = .ok (.bipush 63, 2) := by decide +kernel
theorem dX1_neverFree_7 : decode cX1_neverFree 7 = .ok (.invokevirtual 33, 3) := by decide +kernel
theorem dX1_neverFree_10 : decode cX1_neverFree 10 = .ok (.ldc2_w 27, 3) := by decide +kernel
theorem dX1_neverFree_13 : decode cX1_neverFree 13 = .ok (.lxor, 1) := by decide +kernel
theorem dX1_neverFree_14 : decode cX1_neverFree 14 = .ok (.land, 1) := by decide +kernel
theorem dX1_neverFree_15 : decode cX1_neverFree 15 = .ok (.lreturn, 1) := by decide +kernel
set_option maxRecDepth 20000 in
theorem ggX1_suffices_X1_freeByOneOf : GoodIn wsX1_suffices wsX1_freeByOneOf := goodIn_r _ [6, 7, 8, 9, 10] (by decide +kernel) (by decide +kernel)
set_option maxRecDepth 20000 in
theorem gX1_suffices_X1_freeByOneOf : GoodIn wsX1_suffices (wsV RX1 33 RX1 yX1_freeByOneOf wsX1_freeByOneOf) := goodIn_app (goodIn_of _ (by decide +kernel)) ggX1_suffices_X1_freeByOneOf
theorem dX1_suffices_0 : decode cX1_suffices 0 = .ok (.aload_n 0, 1) := by decide +kernel
theorem dX1_suffices_1 : decode cX1_suffices 1 = .ok (.iload_n 1, 1) := by decide +kernel
theorem dX1_suffices_2 : decode cX1_suffices 2 = .ok (.invokevirtual 33, 3) := by decide +kernel
theorem dX1_suffices_5 : decode cX1_suffices 5 = .ok (.aload_n 0, 1) := by decide +kernel
theorem dX1_suffices_6 : decode cX1_suffices 6 = .ok (.getfield 9, 3) := by decide +kernel
theorem dX1_suffices_9 : decode cX1_suffices 9 = .ok (.lcmp, 1) := by decide +kernel
theorem dX1_suffices_10 : decode cX1_suffices 10 = .ok (.ifCond .ne 7, 3) := by decide +kernel
theorem dX1_suffices_13 : decode cX1_suffices 13 = .ok (.iconst 1, 1) := by decide +kernel
theorem dX1_suffices_14 : decode cX1_suffices 14 = .ok (.goto 4, 3) := by decide +kernel
theorem dX1_suffices_17 : decode cX1_suffices 17 = .ok (.iconst 0, 1) := by decide +kernel
theorem dX1_suffices_18 : decode cX1_suffices 18 = .ok (.ireturn, 1) := by decide +kernel
theorem dX1_planeDoes_0 : decode cX1_planeDoes 0 = .ok (.lload_n 2, 1) := by decide +kernel
theorem dX1_planeDoes_1 : decode cX1_planeDoes 1 = .ok (.aload_n 0, 1) := by decide +kernel
theorem dX1_planeDoes_2 : decode cX1_planeDoes 2 = .ok (.getfield 15, 3) := by decide +kernel
theorem dX1_planeDoes_5 : decode cX1_planeDoes 5 = .ok (.iconst 2, 1) := by decide +kernel
theorem dX1_planeDoes_6 : decode cX1_planeDoes 6 = .ok (.iload_n 1, 1) := by decide +kernel
theorem dX1_planeDoes_7 : decode cX1_planeDoes 7 = .ok (.imul, 1) := by decide +kernel
theorem dX1_planeDoes_8 : decode cX1_planeDoes 8 = .ok (.iconst 1, 1) := by decide +kernel
theorem dX1_planeDoes_9 : decode cX1_planeDoes 9 = .ok (.iadd, 1) := by decide +kernel
theorem dX1_planeDoes_10 : decode cX1_planeDoes 10 = .ok (.laload, 1) := by decide +kernel
theorem dX1_planeDoes_11 : decode cX1_planeDoes 11 = .ok (.ldc2_w 27, 3) := by decide +kernel
theorem dX1_planeDoes_14 : decode cX1_planeDoes 14 = .ok (.lxor, 1) := by decide +kernel
theorem dX1_planeDoes_15 : decode cX1_planeDoes 15 = .ok (.land, 1) := by decide +kernel
theorem dX1_planeDoes_16 : decode cX1_planeDoes 16 = .ok (.lload_n 2, 1) := by decide +kernel
theorem dX1_planeDoes_17 : decode cX1_planeDoes 17 = .ok (.ldc2_w 27, 3) := by decide +kernel
theorem dX1_planeDoes_20 : decode cX1_planeDoes 20 = .ok (.lxor, 1) := by decide +kernel
theorem dX1_planeDoes_21 : decode cX1_planeDoes 21 = .ok (.aload_n 0, 1) := by decide +kernel
theorem dX1_planeDoes_22 : decode cX1_planeDoes 22 = .ok (.getfield 15, 3) := by decide +kernel
theorem dX1_planeDoes_25 : decode cX1_planeDoes 25 = .ok (.iconst 2, 1) := by decide +kernel
theorem dX1_planeDoes_26 : decode cX1_planeDoes 26 = .ok (.iload_n 1, 1) := by decide +kernel
theorem dX1_planeDoes_27 : decode cX1_planeDoes 27 = .ok (.imul, 1) := by decide +kernel
theorem dX1_planeDoes_28 : decode cX1_planeDoes 28 = .ok (.laload, 1) := by decide +kernel
theorem dX1_planeDoes_29 : decode cX1_planeDoes 29 = .ok (.ldc2_w 27, 3) := by decide +kernel
theorem dX1_planeDoes_32 : decode cX1_planeDoes 32 = .ok (.lxor, 1) := by decide +kernel
theorem dX1_planeDoes_33 : decode cX1_planeDoes 33 = .ok (.land, 1) := by decide +kernel
theorem dX1_planeDoes_34 : decode cX1_planeDoes 34 = .ok (.lor, 1) := by decide +kernel
theorem dX1_planeDoes_35 : decode cX1_planeDoes 35 = .ok (.lstore 4, 2) := by decide +kernel
theorem dX1_planeDoes_37 : decode cX1_planeDoes 37 = .ok (.aload_n 0, 1) := by decide +kernel
theorem dX1_planeDoes_38 : decode cX1_planeDoes 38 = .ok (.getfield 9, 3) := by decide +kernel
theorem dX1_planeDoes_41 : decode cX1_planeDoes 41 = .ok (.lload 4, 2) := by decide +kernel
theorem dX1_planeDoes_43 : decode cX1_planeDoes 43 = .ok (.land, 1) := by decide +kernel
theorem dX1_planeDoes_44 : decode cX1_planeDoes 44 = .ok (.lconst 0, 1) := by decide +kernel
theorem dX1_planeDoes_45 : decode cX1_planeDoes 45 = .ok (.lcmp, 1) := by decide +kernel
theorem dX1_planeDoes_46 : decode cX1_planeDoes 46 = .ok (.ifCond .ne 7, 3) := by decide +kernel
theorem dX1_planeDoes_49 : decode cX1_planeDoes 49 = .ok (.iconst 1, 1) := by decide +kernel
theorem dX1_planeDoes_50 : decode cX1_planeDoes 50 = .ok (.goto 4, 3) := by decide +kernel
theorem dX1_planeDoes_53 : decode cX1_planeDoes 53 = .ok (.iconst 0, 1) := by decide +kernel
theorem dX1_planeDoes_54 : decode cX1_planeDoes 54 = .ok (.ireturn, 1) := by decide +kernel
set_option maxRecDepth 20000 in
theorem ggX1_fewestWays_J6_bitCount_0f7a4 : GoodIn wsX1_fewestWays wsJ6_bitCount_0f7a4 := goodIn_r _ [4, 5, 6, 7] (by decide +kernel) (by decide +kernel)
set_option maxRecDepth 20000 in
theorem gX1_fewestWays_J6_bitCount_0f7a4 : GoodIn wsX1_fewestWays (va_wsS RX1 37 yJ6_bitCount_0f7a4 wsJ6_bitCount_0f7a4) := goodIn_app (goodIn_of _ (by decide +kernel)) ggX1_fewestWays_J6_bitCount_0f7a4
set_option maxRecDepth 20000 in
theorem ggX1_fewestWays_X1_suffices : GoodIn wsX1_fewestWays wsX1_suffices := goodIn_r _ [12, 13, 14, 15, 16, 11, 17, 18, 19, 20, 21] (by decide +kernel) (by decide +kernel)
set_option maxRecDepth 20000 in
theorem gX1_fewestWays_X1_suffices : GoodIn wsX1_fewestWays (wsV RX1 43 RX1 yX1_suffices wsX1_suffices) := goodIn_app (goodIn_of _ (by decide +kernel)) ggX1_fewestWays_X1_suffices
theorem dX1_fewestWays_0 : decode cX1_fewestWays 0 = .ok (.iconst (-1), 1) := by decide +kernel
theorem dX1_fewestWays_1 : decode cX1_fewestWays 1 = .ok (.istore_n 1, 1) := by decide +kernel
theorem dX1_fewestWays_2 : decode cX1_fewestWays 2 = .ok (.bipush 7, 2) := by decide +kernel
theorem dX1_fewestWays_4 : decode cX1_fewestWays 4 = .ok (.istore_n 2, 1) := by decide +kernel
theorem dX1_fewestWays_5 : decode cX1_fewestWays 5 = .ok (.iconst 0, 1) := by decide +kernel
theorem dX1_fewestWays_6 : decode cX1_fewestWays 6 = .ok (.istore_n 3, 1) := by decide +kernel
theorem dX1_fewestWays_7 : decode cX1_fewestWays 7 = .ok (.iload_n 3, 1) := by decide +kernel
theorem dX1_fewestWays_8 : decode cX1_fewestWays 8 = .ok (.bipush 64, 2) := by decide +kernel
theorem dX1_fewestWays_10 : decode cX1_fewestWays 10 = .ok (.if_icmp .ge 34, 3) := by decide +kernel
theorem dX1_fewestWays_13 : decode cX1_fewestWays 13 = .ok (.iload_n 3, 1) := by decide +kernel
theorem dX1_fewestWays_14 : decode cX1_fewestWays 14 = .ok (.invokestatic 37, 3) := by decide +kernel
theorem dX1_fewestWays_17 : decode cX1_fewestWays 17 = .ok (.istore 4, 2) := by decide +kernel
theorem dX1_fewestWays_19 : decode cX1_fewestWays 19 = .ok (.iload 4, 2) := by decide +kernel
theorem dX1_fewestWays_21 : decode cX1_fewestWays 21 = .ok (.iload_n 2, 1) := by decide +kernel
theorem dX1_fewestWays_22 : decode cX1_fewestWays 22 = .ok (.if_icmp .ge 16, 3) := by decide +kernel
theorem dX1_fewestWays_25 : decode cX1_fewestWays 25 = .ok (.aload_n 0, 1) := by decide +kernel
theorem dX1_fewestWays_26 : decode cX1_fewestWays 26 = .ok (.iload_n 3, 1) := by decide +kernel
theorem dX1_fewestWays_27 : decode cX1_fewestWays 27 = .ok (.invokevirtual 43, 3) := by decide +kernel
theorem dX1_fewestWays_30 : decode cX1_fewestWays 30 = .ok (.ifCond .eq 8, 3) := by decide +kernel
theorem dX1_fewestWays_33 : decode cX1_fewestWays 33 = .ok (.iload 4, 2) := by decide +kernel
theorem dX1_fewestWays_35 : decode cX1_fewestWays 35 = .ok (.istore_n 2, 1) := by decide +kernel
theorem dX1_fewestWays_36 : decode cX1_fewestWays 36 = .ok (.iload_n 3, 1) := by decide +kernel
theorem dX1_fewestWays_37 : decode cX1_fewestWays 37 = .ok (.istore_n 1, 1) := by decide +kernel
theorem dX1_fewestWays_38 : decode cX1_fewestWays 38 = .ok (.iinc 3 1, 3) := by decide +kernel
theorem dX1_fewestWays_41 : decode cX1_fewestWays 41 = .ok (.goto (-34), 3) := by decide +kernel
theorem dX1_fewestWays_44 : decode cX1_fewestWays 44 = .ok (.iload_n 1, 1) := by decide +kernel
theorem dX1_fewestWays_45 : decode cX1_fewestWays 45 = .ok (.ireturn, 1) := by decide +kernel
set_option maxRecDepth 20000 in
theorem ggX1_leastSeamWays_X1_suffices : GoodIn wsX1_leastSeamWays wsX1_suffices := goodIn_r _ [5, 6, 7, 8, 9, 4, 10, 11, 44, 45, 46] (by decide +kernel) (by decide +kernel)
set_option maxRecDepth 20000 in
theorem gX1_leastSeamWays_X1_suffices : GoodIn wsX1_leastSeamWays (wsV RX1 43 RX1 yX1_suffices wsX1_suffices) := goodIn_app (goodIn_of _ (by decide +kernel)) ggX1_leastSeamWays_X1_suffices
set_option maxRecDepth 20000 in
theorem ggX1_leastSeamWays_X1_share : GoodIn wsX1_leastSeamWays wsX1_share := goodIn_r _ [15, 6, 16, 11, 17, 44, 45, 46] (by decide +kernel) (by decide +kernel)
set_option maxRecDepth 20000 in
theorem gX1_leastSeamWays_X1_share : GoodIn wsX1_leastSeamWays (wsV RX1 47 RX1 yX1_share wsX1_share) := goodIn_app (goodIn_of _ (by decide +kernel)) ggX1_leastSeamWays_X1_share
set_option maxRecDepth 20000 in
theorem ggX1_leastSeamWays_X1_seam : GoodIn wsX1_leastSeamWays wsX1_seam := goodIn_r _ [21, 22, 6, 16, 17, 23, 24, 25, 26, 27, 28, 29, 30, 31, 32, 33, 34, 35, 36, 37, 38, 39, 40, 41, 42, 43, 47, 48, 49, 50, 51, 52, 53, 54, 44, 45, 46, 55, 56, 57, 58, 59, 60] (by decide +kernel) (by decide +kernel)
set_option maxRecDepth 20000 in
theorem gX1_leastSeamWays_X1_seam : GoodIn wsX1_leastSeamWays (wsV RX1 51 RX1 yX1_seam wsX1_seam) := goodIn_app (goodIn_of _ (by decide +kernel)) ggX1_leastSeamWays_X1_seam
theorem dX1_leastSeamWays_0 : decode cX1_leastSeamWays 0 = .ok (.iconst (-1), 1) := by decide +kernel
theorem dX1_leastSeamWays_1 : decode cX1_leastSeamWays 1 = .ok (.istore_n 2, 1) := by decide +kernel
theorem dX1_leastSeamWays_2 : decode cX1_leastSeamWays 2 = .ok (.iconst 0, 1) := by decide +kernel
theorem dX1_leastSeamWays_3 : decode cX1_leastSeamWays 3 = .ok (.istore_n 3, 1) := by decide +kernel
theorem dX1_leastSeamWays_4 : decode cX1_leastSeamWays 4 = .ok (.iconst 0, 1) := by decide +kernel
theorem dX1_leastSeamWays_5 : decode cX1_leastSeamWays 5 = .ok (.istore 4, 2) := by decide +kernel
theorem dX1_leastSeamWays_7 : decode cX1_leastSeamWays 7 = .ok (.iload 4, 2) := by decide +kernel
theorem dX1_leastSeamWays_9 : decode cX1_leastSeamWays 9 = .ok (.bipush 64, 2) := by decide +kernel
theorem dX1_leastSeamWays_11 : decode cX1_leastSeamWays 11 = .ok (.if_icmp .ge 51, 3) := by decide +kernel
theorem dX1_leastSeamWays_14 : decode cX1_leastSeamWays 14 = .ok (.aload_n 0, 1) := by decide +kernel
theorem dX1_leastSeamWays_15 : decode cX1_leastSeamWays 15 = .ok (.iload 4, 2) := by decide +kernel
theorem dX1_leastSeamWays_17 : decode cX1_leastSeamWays 17 = .ok (.invokevirtual 43, 3) := by decide +kernel
theorem dX1_leastSeamWays_20 : decode cX1_leastSeamWays 20 = .ok (.ifCond .ne 6, 3) := by decide +kernel
theorem dX1_leastSeamWays_23 : decode cX1_leastSeamWays 23 = .ok (.goto 33, 3) := by decide +kernel
theorem dX1_leastSeamWays_26 : decode cX1_leastSeamWays 26 = .ok (.aload_n 0, 1) := by decide +kernel
theorem dX1_leastSeamWays_27 : decode cX1_leastSeamWays 27 = .ok (.iload 4, 2) := by decide +kernel
theorem dX1_leastSeamWays_29 : decode cX1_leastSeamWays 29 = .ok (.invokevirtual 47, 3) := by decide +kernel
theorem dX1_leastSeamWays_32 : decode cX1_leastSeamWays 32 = .ok (.aload_n 0, 1) := by decide +kernel
theorem dX1_leastSeamWays_33 : decode cX1_leastSeamWays 33 = .ok (.aload_n 1, 1) := by decide +kernel
theorem dX1_leastSeamWays_34 : decode cX1_leastSeamWays 34 = .ok (.invokevirtual 51, 3) := by decide +kernel
theorem dX1_leastSeamWays_37 : decode cX1_leastSeamWays 37 = .ok (.istore 5, 2) := by decide +kernel
theorem dX1_leastSeamWays_39 : decode cX1_leastSeamWays 39 = .ok (.iload_n 2, 1) := by decide +kernel
theorem dX1_leastSeamWays_40 : decode cX1_leastSeamWays 40 = .ok (.iconst (-1), 1) := by decide +kernel
theorem dX1_leastSeamWays_41 : decode cX1_leastSeamWays 41 = .ok (.if_icmp .eq 9, 3) := by decide +kernel
theorem dX1_leastSeamWays_44 : decode cX1_leastSeamWays 44 = .ok (.iload 5, 2) := by decide +kernel
theorem dX1_leastSeamWays_46 : decode cX1_leastSeamWays 46 = .ok (.iload_n 3, 1) := by decide +kernel
theorem dX1_leastSeamWays_47 : decode cX1_leastSeamWays 47 = .ok (.if_icmp .ge 9, 3) := by decide +kernel
theorem dX1_leastSeamWays_50 : decode cX1_leastSeamWays 50 = .ok (.iload 5, 2) := by decide +kernel
theorem dX1_leastSeamWays_52 : decode cX1_leastSeamWays 52 = .ok (.istore_n 3, 1) := by decide +kernel
theorem dX1_leastSeamWays_53 : decode cX1_leastSeamWays 53 = .ok (.iload 4, 2) := by decide +kernel
theorem dX1_leastSeamWays_55 : decode cX1_leastSeamWays 55 = .ok (.istore_n 2, 1) := by decide +kernel
theorem dX1_leastSeamWays_56 : decode cX1_leastSeamWays 56 = .ok (.iinc 4 1, 3) := by decide +kernel
theorem dX1_leastSeamWays_59 : decode cX1_leastSeamWays 59 = .ok (.goto (-52), 3) := by decide +kernel
theorem dX1_leastSeamWays_62 : decode cX1_leastSeamWays 62 = .ok (.iload_n 2, 1) := by decide +kernel
theorem dX1_leastSeamWays_63 : decode cX1_leastSeamWays 63 = .ok (.ireturn, 1) := by decide +kernel
theorem dX1_share_0 : decode cX1_share 0 = .ok (.aload_n 0, 1) := by decide +kernel
theorem dX1_share_1 : decode cX1_share 1 = .ok (.getfield 9, 3) := by decide +kernel
theorem dX1_share_4 : decode cX1_share 4 = .ok (.lstore_n 2, 1) := by decide +kernel
theorem dX1_share_5 : decode cX1_share 5 = .ok (.iconst 0, 1) := by decide +kernel
theorem dX1_share_6 : decode cX1_share 6 = .ok (.istore 4, 2) := by decide +kernel
theorem dX1_share_8 : decode cX1_share 8 = .ok (.iload 4, 2) := by decide +kernel
theorem dX1_share_10 : decode cX1_share 10 = .ok (.bipush 6, 2) := by decide +kernel
theorem dX1_share_12 : decode cX1_share 12 = .ok (.if_icmp .ge 52, 3) := by decide +kernel
theorem dX1_share_15 : decode cX1_share 15 = .ok (.aload_n 0, 1) := by decide +kernel
theorem dX1_share_16 : decode cX1_share 16 = .ok (.getfield 19, 3) := by decide +kernel
theorem dX1_share_19 : decode cX1_share 19 = .ok (.iload 4, 2) := by decide +kernel
theorem dX1_share_21 : decode cX1_share 21 = .ok (.iload_n 1, 1) := by decide +kernel
theorem dX1_share_22 : decode cX1_share 22 = .ok (.iload 4, 2) := by decide +kernel
theorem dX1_share_24 : decode cX1_share 24 = .ok (.ishr, 1) := by decide +kernel
theorem dX1_share_25 : decode cX1_share 25 = .ok (.iconst 1, 1) := by decide +kernel
theorem dX1_share_26 : decode cX1_share 26 = .ok (.iand, 1) := by decide +kernel
theorem dX1_share_27 : decode cX1_share 27 = .ok (.ifCond .eq 15, 3) := by decide +kernel
theorem dX1_share_30 : decode cX1_share 30 = .ok (.aload_n 0, 1) := by decide +kernel
theorem dX1_share_31 : decode cX1_share 31 = .ok (.getfield 15, 3) := by decide +kernel
theorem dX1_share_34 : decode cX1_share 34 = .ok (.iload 4, 2) := by decide +kernel
theorem dX1_share_36 : decode cX1_share 36 = .ok (.laload, 1) := by decide +kernel
theorem dX1_share_37 : decode cX1_share 37 = .ok (.lload_n 2, 1) := by decide +kernel
theorem dX1_share_38 : decode cX1_share 38 = .ok (.land, 1) := by decide +kernel
theorem dX1_share_39 : decode cX1_share 39 = .ok (.goto 4, 3) := by decide +kernel
theorem dX1_share_42 : decode cX1_share 42 = .ok (.lconst 0, 1) := by decide +kernel
theorem dX1_share_43 : decode cX1_share 43 = .ok (.lastore, 1) := by decide +kernel
theorem dX1_share_44 : decode cX1_share 44 = .ok (.lload_n 2, 1) := by decide +kernel
theorem dX1_share_45 : decode cX1_share 45 = .ok (.aload_n 0, 1) := by decide +kernel
theorem dX1_share_46 : decode cX1_share 46 = .ok (.getfield 19, 3) := by decide +kernel
theorem dX1_share_49 : decode cX1_share 49 = .ok (.iload 4, 2) := by decide +kernel
theorem dX1_share_51 : decode cX1_share 51 = .ok (.laload, 1) := by decide +kernel
theorem dX1_share_52 : decode cX1_share 52 = .ok (.ldc2_w 27, 3) := by decide +kernel
theorem dX1_share_55 : decode cX1_share 55 = .ok (.lxor, 1) := by decide +kernel
theorem dX1_share_56 : decode cX1_share 56 = .ok (.land, 1) := by decide +kernel
theorem dX1_share_57 : decode cX1_share 57 = .ok (.lstore_n 2, 1) := by decide +kernel
theorem dX1_share_58 : decode cX1_share 58 = .ok (.iinc 4 1, 3) := by decide +kernel
theorem dX1_share_61 : decode cX1_share 61 = .ok (.goto (-53), 3) := by decide +kernel
theorem dX1_share_64 : decode cX1_share 64 = .ok (.return_, 1) := by decide +kernel
set_option maxRecDepth 20000 in
theorem ggX1_countOwnedParts_X0_countParts : GoodIn wsX1_countOwnedParts wsX0_countParts := goodIn_r _ [6, 7, 8, 9, 10, 5, 11, 12, 13, 14, 15, 16, 17, 18, 19, 20, 21, 25, 26, 27, 28, 29, 30] (by decide +kernel) (by decide +kernel)
set_option maxRecDepth 20000 in
theorem gX1_countOwnedParts_X0_countParts : GoodIn wsX1_countOwnedParts (wsV RX1 55 RX0 yX0_countParts wsX0_countParts) := goodIn_app (goodIn_of _ (by decide +kernel)) ggX1_countOwnedParts_X0_countParts
theorem dX1_countOwnedParts_0 : decode cX1_countOwnedParts 0 = .ok (.iconst 0, 1) := by decide +kernel
theorem dX1_countOwnedParts_1 : decode cX1_countOwnedParts 1 = .ok (.istore_n 2, 1) := by decide +kernel
theorem dX1_countOwnedParts_2 : decode cX1_countOwnedParts 2 = .ok (.iconst 0, 1) := by decide +kernel
theorem dX1_countOwnedParts_3 : decode cX1_countOwnedParts 3 = .ok (.istore_n 3, 1) := by decide +kernel
theorem dX1_countOwnedParts_4 : decode cX1_countOwnedParts 4 = .ok (.iload_n 3, 1) := by decide +kernel
theorem dX1_countOwnedParts_5 : decode cX1_countOwnedParts 5 = .ok (.bipush 6, 2) := by decide +kernel
theorem dX1_countOwnedParts_7 : decode cX1_countOwnedParts 7 = .ok (.if_icmp .ge 22, 3) := by decide +kernel
theorem dX1_countOwnedParts_10 : decode cX1_countOwnedParts 10 = .ok (.iload_n 2, 1) := by decide +kernel
theorem dX1_countOwnedParts_11 : decode cX1_countOwnedParts 11 = .ok (.aload_n 1, 1) := by decide +kernel
theorem dX1_countOwnedParts_12 : decode cX1_countOwnedParts 12 = .ok (.aload_n 0, 1) := by decide +kernel
theorem dX1_countOwnedParts_13 : decode cX1_countOwnedParts 13 = .ok (.getfield 19, 3) := by decide +kernel
theorem dX1_countOwnedParts_16 : decode cX1_countOwnedParts 16 = .ok (.iload_n 3, 1) := by decide +kernel
theorem dX1_countOwnedParts_17 : decode cX1_countOwnedParts 17 = .ok (.laload, 1) := by decide +kernel
theorem dX1_countOwnedParts_18 : decode cX1_countOwnedParts 18 = .ok (.invokevirtual 55, 3) := by decide +kernel
theorem dX1_countOwnedParts_21 : decode cX1_countOwnedParts 21 = .ok (.iadd, 1) := by decide +kernel
theorem dX1_countOwnedParts_22 : decode cX1_countOwnedParts 22 = .ok (.istore_n 2, 1) := by decide +kernel
theorem dX1_countOwnedParts_23 : decode cX1_countOwnedParts 23 = .ok (.iinc 3 1, 3) := by decide +kernel
theorem dX1_countOwnedParts_26 : decode cX1_countOwnedParts 26 = .ok (.goto (-22), 3) := by decide +kernel
theorem dX1_countOwnedParts_29 : decode cX1_countOwnedParts 29 = .ok (.iload_n 2, 1) := by decide +kernel
theorem dX1_countOwnedParts_30 : decode cX1_countOwnedParts 30 = .ok (.ireturn, 1) := by decide +kernel
set_option maxRecDepth 20000 in
theorem ggX1_seam_X0_shifted : GoodIn wsX1_seam wsX0_shifted := goodIn_r _ [9, 10, 11, 12, 37, 38, 39, 40, 41, 42] (by decide +kernel) (by decide +kernel)
set_option maxRecDepth 20000 in
theorem gX1_seam_X0_shifted : GoodIn wsX1_seam (wsV RX1 65 RX0 yX0_shifted wsX0_shifted) := goodIn_app (goodIn_of _ (by decide +kernel)) ggX1_seam_X0_shifted
set_option maxRecDepth 20000 in
theorem ggX1_seam_X2_sumOfShows : GoodIn wsX1_seam wsX2_sumOfShows := goodIn_r _ [17, 18, 19, 20, 21, 22, 23, 24, 25, 26, 27, 28, 29, 30, 31, 32, 33] (by decide +kernel) (by decide +kernel)
set_option maxRecDepth 20000 in
theorem gX1_seam_X2_sumOfShows : GoodIn wsX1_seam (wsV RX1 68 RX2 yX2_sumOfShows wsX2_sumOfShows) := goodIn_app (goodIn_of _ (by decide +kernel)) ggX1_seam_X2_sumOfShows
theorem dX1_seam_0 : decode cX1_seam 0 = .ok (.aload_n 1, 1) := by decide +kernel
theorem dX1_seam_1 : decode cX1_seam 1 = .ok (.getfield 59, 3) := by decide +kernel
theorem dX1_seam_4 : decode cX1_seam 4 = .ok (.astore_n 2, 1) := by decide +kernel
theorem dX1_seam_5 : decode cX1_seam 5 = .ok (.iconst 0, 1) := by decide +kernel
theorem dX1_seam_6 : decode cX1_seam 6 = .ok (.istore_n 3, 1) := by decide +kernel
theorem dX1_seam_7 : decode cX1_seam 7 = .ok (.iconst 0, 1) := by decide +kernel
theorem dX1_seam_8 : decode cX1_seam 8 = .ok (.istore 4, 2) := by decide +kernel
theorem dX1_seam_10 : decode cX1_seam 10 = .ok (.iload 4, 2) := by decide +kernel
theorem dX1_seam_12 : decode cX1_seam 12 = .ok (.bipush 6, 2) := by decide +kernel
theorem dX1_seam_14 : decode cX1_seam 14 = .ok (.if_icmp .ge 98, 3) := by decide +kernel
theorem dX1_seam_17 : decode cX1_seam 17 = .ok (.aload_n 0, 1) := by decide +kernel
theorem dX1_seam_18 : decode cX1_seam 18 = .ok (.getfield 9, 3) := by decide +kernel
theorem dX1_seam_21 : decode cX1_seam 21 = .ok (.aload_n 2, 1) := by decide +kernel
theorem dX1_seam_22 : decode cX1_seam 22 = .ok (.aload_n 0, 1) := by decide +kernel
theorem dX1_seam_23 : decode cX1_seam 23 = .ok (.getfield 9, 3) := by decide +kernel
theorem dX1_seam_26 : decode cX1_seam 26 = .ok (.iload 4, 2) := by decide +kernel
theorem dX1_seam_28 : decode cX1_seam 28 = .ok (.iconst 1, 1) := by decide +kernel
theorem dX1_seam_29 : decode cX1_seam 29 = .ok (.iadd, 1) := by decide +kernel
theorem dX1_seam_30 : decode cX1_seam 30 = .ok (.invokevirtual 65, 3) := by decide +kernel
theorem dX1_seam_33 : decode cX1_seam 33 = .ok (.land, 1) := by decide +kernel
theorem dX1_seam_34 : decode cX1_seam 34 = .ok (.lstore 5, 2) := by decide +kernel
theorem dX1_seam_36 : decode cX1_seam 36 = .ok (.iconst 0, 1) := by decide +kernel
theorem dX1_seam_37 : decode cX1_seam 37 = .ok (.istore 7, 2) := by decide +kernel
theorem dX1_seam_39 : decode cX1_seam 39 = .ok (.iload 7, 2) := by decide +kernel
theorem dX1_seam_41 : decode cX1_seam 41 = .ok (.bipush 6, 2) := by decide +kernel
theorem dX1_seam_43 : decode cX1_seam 43 = .ok (.if_icmp .ge 41, 3) := by decide +kernel
theorem dX1_seam_46 : decode cX1_seam 46 = .ok (.lload 5, 2) := by decide +kernel
theorem dX1_seam_48 : decode cX1_seam 48 = .ok (.aload_n 0, 1) := by decide +kernel
theorem dX1_seam_49 : decode cX1_seam 49 = .ok (.getfield 19, 3) := by decide +kernel
theorem dX1_seam_52 : decode cX1_seam 52 = .ok (.iload 7, 2) := by decide +kernel
theorem dX1_seam_54 : decode cX1_seam 54 = .ok (.laload, 1) := by decide +kernel
theorem dX1_seam_55 : decode cX1_seam 55 = .ok (.aload_n 2, 1) := by decide +kernel
theorem dX1_seam_56 : decode cX1_seam 56 = .ok (.aload_n 0, 1) := by decide +kernel
theorem dX1_seam_57 : decode cX1_seam 57 = .ok (.getfield 19, 3) := by decide +kernel
theorem dX1_seam_60 : decode cX1_seam 60 = .ok (.iload 7, 2) := by decide +kernel
theorem dX1_seam_62 : decode cX1_seam 62 = .ok (.laload, 1) := by decide +kernel
theorem dX1_seam_63 : decode cX1_seam 63 = .ok (.iload 4, 2) := by decide +kernel
theorem dX1_seam_65 : decode cX1_seam 65 = .ok (.iconst 1, 1) := by decide +kernel
theorem dX1_seam_66 : decode cX1_seam 66 = .ok (.iadd, 1) := by decide +kernel
theorem dX1_seam_67 : decode cX1_seam 67 = .ok (.invokevirtual 65, 3) := by decide +kernel
theorem dX1_seam_70 : decode cX1_seam 70 = .ok (.land, 1) := by decide +kernel
theorem dX1_seam_71 : decode cX1_seam 71 = .ok (.ldc2_w 27, 3) := by decide +kernel
theorem dX1_seam_74 : decode cX1_seam 74 = .ok (.lxor, 1) := by decide +kernel
theorem dX1_seam_75 : decode cX1_seam 75 = .ok (.land, 1) := by decide +kernel
theorem dX1_seam_76 : decode cX1_seam 76 = .ok (.lstore 5, 2) := by decide +kernel
theorem dX1_seam_78 : decode cX1_seam 78 = .ok (.iinc 7 1, 3) := by decide +kernel
theorem dX1_seam_81 : decode cX1_seam 81 = .ok (.goto (-42), 3) := by decide +kernel
theorem dX1_seam_84 : decode cX1_seam 84 = .ok (.iload_n 3, 1) := by decide +kernel
theorem dX1_seam_85 : decode cX1_seam 85 = .ok (.aload_n 1, 1) := by decide +kernel
theorem dX1_seam_86 : decode cX1_seam 86 = .ok (.lload 5, 2) := by decide +kernel
theorem dX1_seam_88 : decode cX1_seam 88 = .ok (.invokevirtual 68, 3) := by decide +kernel
theorem dX1_seam_91 : decode cX1_seam 91 = .ok (.aload_n 1, 1) := by decide +kernel
theorem dX1_seam_92 : decode cX1_seam 92 = .ok (.aload_n 2, 1) := by decide +kernel
theorem dX1_seam_93 : decode cX1_seam 93 = .ok (.lload 5, 2) := by decide +kernel
theorem dX1_seam_95 : decode cX1_seam 95 = .ok (.iload 4, 2) := by decide +kernel
theorem dX1_seam_97 : decode cX1_seam 97 = .ok (.invokevirtual 65, 3) := by decide +kernel
theorem dX1_seam_100 : decode cX1_seam 100 = .ok (.invokevirtual 68, 3) := by decide +kernel
theorem dX1_seam_103 : decode cX1_seam 103 = .ok (.iadd, 1) := by decide +kernel
theorem dX1_seam_104 : decode cX1_seam 104 = .ok (.iadd, 1) := by decide +kernel
theorem dX1_seam_105 : decode cX1_seam 105 = .ok (.istore_n 3, 1) := by decide +kernel
theorem dX1_seam_106 : decode cX1_seam 106 = .ok (.iinc 4 2, 3) := by decide +kernel
theorem dX1_seam_109 : decode cX1_seam 109 = .ok (.goto (-99), 3) := by decide +kernel
theorem dX1_seam_112 : decode cX1_seam 112 = .ok (.iload_n 3, 1) := by decide +kernel
theorem dX1_seam_113 : decode cX1_seam 113 = .ok (.ireturn, 1) := by decide +kernel
set_option maxRecDepth 20000 in
theorem ggX1_layPieces_X2_dropPieces : GoodIn wsX1_layPieces wsX2_dropPieces := goodIn_r _ [8, 9, 10, 41, 42, 43, 44, 45, 46, 47, 48] (by decide +kernel) (by decide +kernel)
set_option maxRecDepth 20000 in
theorem gX1_layPieces_X2_dropPieces : GoodIn wsX1_layPieces (wsV RX1 71 RX2 yX2_dropPieces wsX2_dropPieces) := goodIn_app (goodIn_of _ (by decide +kernel)) ggX1_layPieces_X2_dropPieces
set_option maxRecDepth 20000 in
theorem ggX1_layPieces_X1_partOfLeast : GoodIn wsX1_layPieces wsX1_partOfLeast := goodIn_r _ [15, 16, 17, 18, 19, 20, 21, 22, 23, 24, 25, 26, 27, 28, 29, 30, 31, 32, 38, 39, 40, 49, 50, 51, 52, 53, 54] (by decide +kernel) (by decide +kernel)
set_option maxRecDepth 20000 in
theorem gX1_layPieces_X1_partOfLeast : GoodIn wsX1_layPieces (wsV RX1 74 RX1 yX1_partOfLeast wsX1_partOfLeast) := goodIn_app (goodIn_of _ (by decide +kernel)) ggX1_layPieces_X1_partOfLeast
set_option maxRecDepth 20000 in
theorem ggX1_layPieces_X2_addPiece : GoodIn wsX1_layPieces wsX2_addPiece := goodIn_r _ [36, 9, 37, 41, 42, 43, 44, 45, 46, 47, 48] (by decide +kernel) (by decide +kernel)
set_option maxRecDepth 20000 in
theorem gX1_layPieces_X2_addPiece : GoodIn wsX1_layPieces (wsV RX1 78 RX2 yX2_addPiece wsX2_addPiece) := goodIn_app (goodIn_of _ (by decide +kernel)) ggX1_layPieces_X2_addPiece
theorem dX1_layPieces_0 : decode cX1_layPieces 0 = .ok (.aload_n 1, 1) := by decide +kernel
theorem dX1_layPieces_1 : decode cX1_layPieces 1 = .ok (.invokevirtual 71, 3) := by decide +kernel
theorem dX1_layPieces_4 : decode cX1_layPieces 4 = .ok (.aload_n 0, 1) := by decide +kernel
theorem dX1_layPieces_5 : decode cX1_layPieces 5 = .ok (.getfield 9, 3) := by decide +kernel
theorem dX1_layPieces_8 : decode cX1_layPieces 8 = .ok (.lstore_n 2, 1) := by decide +kernel
theorem dX1_layPieces_9 : decode cX1_layPieces 9 = .ok (.iconst 0, 1) := by decide +kernel
theorem dX1_layPieces_10 : decode cX1_layPieces 10 = .ok (.istore 4, 2) := by decide +kernel
theorem dX1_layPieces_12 : decode cX1_layPieces 12 = .ok (.iload 4, 2) := by decide +kernel
theorem dX1_layPieces_14 : decode cX1_layPieces 14 = .ok (.bipush 8, 2) := by decide +kernel
theorem dX1_layPieces_16 : decode cX1_layPieces 16 = .ok (.if_icmp .ge 41, 3) := by decide +kernel
theorem dX1_layPieces_19 : decode cX1_layPieces 19 = .ok (.lload_n 2, 1) := by decide +kernel
theorem dX1_layPieces_20 : decode cX1_layPieces 20 = .ok (.lconst 0, 1) := by decide +kernel
theorem dX1_layPieces_21 : decode cX1_layPieces 21 = .ok (.lcmp, 1) := by decide +kernel
theorem dX1_layPieces_22 : decode cX1_layPieces 22 = .ok (.ifCond .eq 35, 3) := by decide +kernel
theorem dX1_layPieces_25 : decode cX1_layPieces 25 = .ok (.aload_n 0, 1) := by decide +kernel
theorem dX1_layPieces_26 : decode cX1_layPieces 26 = .ok (.aload_n 1, 1) := by decide +kernel
theorem dX1_layPieces_27 : decode cX1_layPieces 27 = .ok (.getfield 59, 3) := by decide +kernel
theorem dX1_layPieces_30 : decode cX1_layPieces 30 = .ok (.lload_n 2, 1) := by decide +kernel
theorem dX1_layPieces_31 : decode cX1_layPieces 31 = .ok (.invokevirtual 74, 3) := by decide +kernel
theorem dX1_layPieces_34 : decode cX1_layPieces 34 = .ok (.lstore 5, 2) := by decide +kernel
theorem dX1_layPieces_36 : decode cX1_layPieces 36 = .ok (.aload_n 1, 1) := by decide +kernel
theorem dX1_layPieces_37 : decode cX1_layPieces 37 = .ok (.lload 5, 2) := by decide +kernel
theorem dX1_layPieces_39 : decode cX1_layPieces 39 = .ok (.invokevirtual 78, 3) := by decide +kernel
theorem dX1_layPieces_42 : decode cX1_layPieces 42 = .ok (.lload_n 2, 1) := by decide +kernel
theorem dX1_layPieces_43 : decode cX1_layPieces 43 = .ok (.lload 5, 2) := by decide +kernel
theorem dX1_layPieces_45 : decode cX1_layPieces 45 = .ok (.ldc2_w 27, 3) := by decide +kernel
theorem dX1_layPieces_48 : decode cX1_layPieces 48 = .ok (.lxor, 1) := by decide +kernel
theorem dX1_layPieces_49 : decode cX1_layPieces 49 = .ok (.land, 1) := by decide +kernel
theorem dX1_layPieces_50 : decode cX1_layPieces 50 = .ok (.lstore_n 2, 1) := by decide +kernel
theorem dX1_layPieces_51 : decode cX1_layPieces 51 = .ok (.iinc 4 1, 3) := by decide +kernel
theorem dX1_layPieces_54 : decode cX1_layPieces 54 = .ok (.goto (-42), 3) := by decide +kernel
theorem dX1_layPieces_57 : decode cX1_layPieces 57 = .ok (.return_, 1) := by decide +kernel
set_option maxRecDepth 20000 in
theorem ggX1_partOfLeast_X0_partAround : GoodIn wsX1_partOfLeast wsX0_partAround := goodIn_r _ [6, 7, 8, 9, 5, 10, 11, 12, 13, 14, 15, 16, 17, 21, 22, 23, 24, 25, 26] (by decide +kernel) (by decide +kernel)
set_option maxRecDepth 20000 in
theorem gX1_partOfLeast_X0_partAround : GoodIn wsX1_partOfLeast (wsV RX1 82 RX0 yX0_partAround wsX0_partAround) := goodIn_app (goodIn_of _ (by decide +kernel)) ggX1_partOfLeast_X0_partAround
theorem dX1_partOfLeast_0 : decode cX1_partOfLeast 0 = .ok (.lconst 0, 1) := by decide +kernel
theorem dX1_partOfLeast_1 : decode cX1_partOfLeast 1 = .ok (.lstore 4, 2) := by decide +kernel
theorem dX1_partOfLeast_3 : decode cX1_partOfLeast 3 = .ok (.iconst 0, 1) := by decide +kernel
theorem dX1_partOfLeast_4 : decode cX1_partOfLeast 4 = .ok (.istore 6, 2) := by decide +kernel
theorem dX1_partOfLeast_6 : decode cX1_partOfLeast 6 = .ok (.iload 6, 2) := by decide +kernel
theorem dX1_partOfLeast_8 : decode cX1_partOfLeast 8 = .ok (.bipush 6, 2) := by decide +kernel
theorem dX1_partOfLeast_10 : decode cX1_partOfLeast 10 = .ok (.if_icmp .ge 29, 3) := by decide +kernel
theorem dX1_partOfLeast_13 : decode cX1_partOfLeast 13 = .ok (.lload 4, 2) := by decide +kernel
theorem dX1_partOfLeast_15 : decode cX1_partOfLeast 15 = .ok (.aload_n 1, 1) := by decide +kernel
theorem dX1_partOfLeast_16 : decode cX1_partOfLeast 16 = .ok (.aload_n 0, 1) := by decide +kernel
theorem dX1_partOfLeast_17 : decode cX1_partOfLeast 17 = .ok (.getfield 19, 3) := by decide +kernel
theorem dX1_partOfLeast_20 : decode cX1_partOfLeast 20 = .ok (.iload 6, 2) := by decide +kernel
theorem dX1_partOfLeast_22 : decode cX1_partOfLeast 22 = .ok (.laload, 1) := by decide +kernel
theorem dX1_partOfLeast_23 : decode cX1_partOfLeast 23 = .ok (.lload_n 2, 1) := by decide +kernel
theorem dX1_partOfLeast_24 : decode cX1_partOfLeast 24 = .ok (.lload_n 2, 1) := by decide +kernel
theorem dX1_partOfLeast_25 : decode cX1_partOfLeast 25 = .ok (.lneg, 1) := by decide +kernel
theorem dX1_partOfLeast_26 : decode cX1_partOfLeast 26 = .ok (.land, 1) := by decide +kernel
theorem dX1_partOfLeast_27 : decode cX1_partOfLeast 27 = .ok (.invokevirtual 82, 3) := by decide +kernel
theorem dX1_partOfLeast_30 : decode cX1_partOfLeast 30 = .ok (.lor, 1) := by decide +kernel
theorem dX1_partOfLeast_31 : decode cX1_partOfLeast 31 = .ok (.lstore 4, 2) := by decide +kernel
theorem dX1_partOfLeast_33 : decode cX1_partOfLeast 33 = .ok (.iinc 6 1, 3) := by decide +kernel
theorem dX1_partOfLeast_36 : decode cX1_partOfLeast 36 = .ok (.goto (-30), 3) := by decide +kernel
theorem dX1_partOfLeast_39 : decode cX1_partOfLeast 39 = .ok (.lload 4, 2) := by decide +kernel
theorem dX1_partOfLeast_41 : decode cX1_partOfLeast 41 = .ok (.lreturn, 1) := by decide +kernel
set_option maxRecDepth 20000 in
theorem ggX2_init_X0_init : GoodIn wsX2_init wsX0_init := goodIn_r _ [19, 20, 2, 3, 21, 22, 13, 23, 24, 25, 26, 27, 6, 28, 29, 30, 31, 32, 33, 34, 35, 36, 37, 38, 39, 40, 41, 42, 43, 44, 45, 46] (by decide +kernel) (by decide +kernel)
set_option maxRecDepth 20000 in
theorem gX2_init_X0_init : GoodIn wsX2_init (wsX0_init) := ggX2_init_X0_init
theorem dX2_init_0 : decode cX2_init 0 = .ok (.aload_n 0, 1) := by decide +kernel
theorem dX2_init_1 : decode cX2_init 1 = .ok (.invokespecial 3, 3) := by decide +kernel
theorem dX2_init_4 : decode cX2_init 4 = .ok (.aload_n 0, 1) := by decide +kernel
theorem dX2_init_5 : decode cX2_init 5 = .ok (.new 9, 3) := by decide +kernel
theorem dX2_init_8 : decode cX2_init 8 = .ok (.dup, 1) := by decide +kernel
theorem dX2_init_9 : decode cX2_init 9 = .ok (.invokespecial 11, 3) := by decide +kernel
theorem dX2_init_12 : decode cX2_init 12 = .ok (.putfield 12, 3) := by decide +kernel
theorem dX2_init_15 : decode cX2_init 15 = .ok (.aload_n 0, 1) := by decide +kernel
theorem dX2_init_16 : decode cX2_init 16 = .ok (.lconst 0, 1) := by decide +kernel
theorem dX2_init_17 : decode cX2_init 17 = .ok (.putfield 18, 3) := by decide +kernel
theorem dX2_init_20 : decode cX2_init 20 = .ok (.aload_n 0, 1) := by decide +kernel
theorem dX2_init_21 : decode cX2_init 21 = .ok (.iconst 0, 1) := by decide +kernel
theorem dX2_init_22 : decode cX2_init 22 = .ok (.putfield 22, 3) := by decide +kernel
theorem dX2_init_25 : decode cX2_init 25 = .ok (.aload_n 0, 1) := by decide +kernel
theorem dX2_init_26 : decode cX2_init 26 = .ok (.iconst 0, 1) := by decide +kernel
theorem dX2_init_27 : decode cX2_init 27 = .ok (.putfield 26, 3) := by decide +kernel
theorem dX2_init_30 : decode cX2_init 30 = .ok (.aload_n 0, 1) := by decide +kernel
theorem dX2_init_31 : decode cX2_init 31 = .ok (.bipush 64, 2) := by decide +kernel
theorem dX2_init_33 : decode cX2_init 33 = .ok (.putfield 29, 3) := by decide +kernel
theorem dX2_init_36 : decode cX2_init 36 = .ok (.aload_n 0, 1) := by decide +kernel
theorem dX2_init_37 : decode cX2_init 37 = .ok (.bipush 100, 2) := by decide +kernel
theorem dX2_init_39 : decode cX2_init 39 = .ok (.putfield 32, 3) := by decide +kernel
theorem dX2_init_42 : decode cX2_init 42 = .ok (.aload_n 0, 1) := by decide +kernel
theorem dX2_init_43 : decode cX2_init 43 = .ok (.bipush 8, 2) := by decide +kernel
theorem dX2_init_45 : decode cX2_init 45 = .ok (.newarray .long, 2) := by decide +kernel
theorem dX2_init_47 : decode cX2_init 47 = .ok (.putfield 35, 3) := by decide +kernel
theorem dX2_init_50 : decode cX2_init 50 = .ok (.aload_n 0, 1) := by decide +kernel
theorem dX2_init_51 : decode cX2_init 51 = .ok (.iconst 4, 1) := by decide +kernel
theorem dX2_init_52 : decode cX2_init 52 = .ok (.newarray .long, 2) := by decide +kernel
theorem dX2_init_54 : decode cX2_init 54 = .ok (.putfield 39, 3) := by decide +kernel
theorem dX2_init_57 : decode cX2_init 57 = .ok (.aload_n 0, 1) := by decide +kernel
theorem dX2_init_58 : decode cX2_init 58 = .ok (.getfield 39, 3) := by decide +kernel
theorem dX2_init_61 : decode cX2_init 61 = .ok (.iconst 0, 1) := by decide +kernel
theorem dX2_init_62 : decode cX2_init 62 = .ok (.aload_n 0, 1) := by decide +kernel
theorem dX2_init_63 : decode cX2_init 63 = .ok (.getfield 12, 3) := by decide +kernel
theorem dX2_init_66 : decode cX2_init 66 = .ok (.getfield 42, 3) := by decide +kernel
theorem dX2_init_69 : decode cX2_init 69 = .ok (.lastore, 1) := by decide +kernel
theorem dX2_init_70 : decode cX2_init 70 = .ok (.return_, 1) := by decide +kernel
set_option maxRecDepth 20000 in
theorem ggX2_clearTo_X0_become : GoodIn wsX2_clearTo wsX0_become := goodIn_r _ [9, 10, 11, 12, 13, 14, 15, 16, 17, 18, 19, 20, 21, 22, 23, 8, 24, 41, 42, 43, 44, 45, 46] (by decide +kernel) (by decide +kernel)
set_option maxRecDepth 20000 in
theorem gX2_clearTo_X0_become : GoodIn wsX2_clearTo (wsV RX2 45 RX0 yX0_become wsX0_become) := goodIn_app (goodIn_of _ (by decide +kernel)) ggX2_clearTo_X0_become
set_option maxRecDepth 20000 in
theorem ggX2_clearTo_X2_dropPieces : GoodIn wsX2_clearTo wsX2_dropPieces := goodIn_r _ [29, 30, 31, 33, 34, 35, 36, 37, 38, 39, 40] (by decide +kernel) (by decide +kernel)
set_option maxRecDepth 20000 in
theorem gX2_clearTo_X2_dropPieces : GoodIn wsX2_clearTo (wsV RX2 49 RX2 yX2_dropPieces wsX2_dropPieces) := goodIn_app (goodIn_of _ (by decide +kernel)) ggX2_clearTo_X2_dropPieces
set_option maxRecDepth 20000 in
theorem ggX2_clearTo_J7_fill_d0a16 : GoodIn wsX2_clearTo wsJ7_fill_d0a16 := goodIn_r _ [20] (by decide +kernel) (by decide +kernel)
set_option maxRecDepth 20000 in
theorem gX2_clearTo_J7_fill_d0a16 : GoodIn wsX2_clearTo (va_wsS RX2 52 yJ7_fill_d0a16 wsJ7_fill_d0a16) := goodIn_app (goodIn_of _ (by decide +kernel)) ggX2_clearTo_J7_fill_d0a16
theorem dX2_clearTo_0 : decode cX2_clearTo 0 = .ok (.aload_n 0, 1) := by decide +kernel
theorem dX2_clearTo_1 : decode cX2_clearTo 1 = .ok (.getfield 12, 3) := by decide +kernel
theorem dX2_clearTo_4 : decode cX2_clearTo 4 = .ok (.iload_n 1, 1) := by decide +kernel
theorem dX2_clearTo_5 : decode cX2_clearTo 5 = .ok (.invokevirtual 45, 3) := by decide +kernel
theorem dX2_clearTo_8 : decode cX2_clearTo 8 = .ok (.aload_n 0, 1) := by decide +kernel
theorem dX2_clearTo_9 : decode cX2_clearTo 9 = .ok (.lconst 0, 1) := by decide +kernel
theorem dX2_clearTo_10 : decode cX2_clearTo 10 = .ok (.putfield 18, 3) := by decide +kernel
theorem dX2_clearTo_13 : decode cX2_clearTo 13 = .ok (.aload_n 0, 1) := by decide +kernel
theorem dX2_clearTo_14 : decode cX2_clearTo 14 = .ok (.invokevirtual 49, 3) := by decide +kernel
theorem dX2_clearTo_17 : decode cX2_clearTo 17 = .ok (.aload_n 0, 1) := by decide +kernel
theorem dX2_clearTo_18 : decode cX2_clearTo 18 = .ok (.getfield 39, 3) := by decide +kernel
theorem dX2_clearTo_21 : decode cX2_clearTo 21 = .ok (.lconst 0, 1) := by decide +kernel
theorem dX2_clearTo_22 : decode cX2_clearTo 22 = .ok (.invokestatic 52, 3) := by decide +kernel
theorem dX2_clearTo_25 : decode cX2_clearTo 25 = .ok (.aload_n 0, 1) := by decide +kernel
theorem dX2_clearTo_26 : decode cX2_clearTo 26 = .ok (.getfield 39, 3) := by decide +kernel
theorem dX2_clearTo_29 : decode cX2_clearTo 29 = .ok (.iconst 0, 1) := by decide +kernel
theorem dX2_clearTo_30 : decode cX2_clearTo 30 = .ok (.aload_n 0, 1) := by decide +kernel
theorem dX2_clearTo_31 : decode cX2_clearTo 31 = .ok (.getfield 12, 3) := by decide +kernel
theorem dX2_clearTo_34 : decode cX2_clearTo 34 = .ok (.getfield 42, 3) := by decide +kernel
theorem dX2_clearTo_37 : decode cX2_clearTo 37 = .ok (.lastore, 1) := by decide +kernel
theorem dX2_clearTo_38 : decode cX2_clearTo 38 = .ok (.return_, 1) := by decide +kernel
set_option maxRecDepth 20000 in
theorem ggX2_takeFrom_X0_become : GoodIn wsX2_takeFrom wsX0_become := goodIn_r _ [18, 19, 20, 21, 22, 23, 24, 25, 26, 27, 28, 29, 30, 31, 32, 17, 33, 42, 43, 44, 45, 46, 47] (by decide +kernel) (by decide +kernel)
set_option maxRecDepth 20000 in
theorem gX2_takeFrom_X0_become : GoodIn wsX2_takeFrom (wsV RX2 45 RX0 yX0_become wsX0_become) := goodIn_app (goodIn_of _ (by decide +kernel)) ggX2_takeFrom_X0_become
theorem dX2_takeFrom_0 : decode cX2_takeFrom 0 = .ok (.aload_n 0, 1) := by decide +kernel
theorem dX2_takeFrom_1 : decode cX2_takeFrom 1 = .ok (.getfield 12, 3) := by decide +kernel
theorem dX2_takeFrom_4 : decode cX2_takeFrom 4 = .ok (.getfield 58, 3) := by decide +kernel
theorem dX2_takeFrom_7 : decode cX2_takeFrom 7 = .ok (.aload_n 1, 1) := by decide +kernel
theorem dX2_takeFrom_8 : decode cX2_takeFrom 8 = .ok (.getfield 12, 3) := by decide +kernel
theorem dX2_takeFrom_11 : decode cX2_takeFrom 11 = .ok (.getfield 58, 3) := by decide +kernel
theorem dX2_takeFrom_14 : decode cX2_takeFrom 14 = .ok (.if_icmp .eq 17, 3) := by decide +kernel
theorem dX2_takeFrom_17 : decode cX2_takeFrom 17 = .ok (.aload_n 0, 1) := by decide +kernel
theorem dX2_takeFrom_18 : decode cX2_takeFrom 18 = .ok (.getfield 12, 3) := by decide +kernel
theorem dX2_takeFrom_21 : decode cX2_takeFrom 21 = .ok (.aload_n 1, 1) := by decide +kernel
theorem dX2_takeFrom_22 : decode cX2_takeFrom 22 = .ok (.getfield 12, 3) := by decide +kernel
theorem dX2_takeFrom_25 : decode cX2_takeFrom 25 = .ok (.getfield 58, 3) := by decide +kernel
theorem dX2_takeFrom_28 : decode cX2_takeFrom 28 = .ok (.invokevirtual 45, 3) := by decide +kernel
theorem dX2_takeFrom_31 : decode cX2_takeFrom 31 = .ok (.aload_n 0, 1) := by decide +kernel
theorem dX2_takeFrom_32 : decode cX2_takeFrom 32 = .ok (.aload_n 1, 1) := by decide +kernel
theorem dX2_takeFrom_33 : decode cX2_takeFrom 33 = .ok (.getfield 18, 3) := by decide +kernel
theorem dX2_takeFrom_36 : decode cX2_takeFrom 36 = .ok (.putfield 18, 3) := by decide +kernel
theorem dX2_takeFrom_39 : decode cX2_takeFrom 39 = .ok (.aload_n 0, 1) := by decide +kernel
theorem dX2_takeFrom_40 : decode cX2_takeFrom 40 = .ok (.aload_n 1, 1) := by decide +kernel
theorem dX2_takeFrom_41 : decode cX2_takeFrom 41 = .ok (.getfield 22, 3) := by decide +kernel
theorem dX2_takeFrom_44 : decode cX2_takeFrom 44 = .ok (.putfield 22, 3) := by decide +kernel
theorem dX2_takeFrom_47 : decode cX2_takeFrom 47 = .ok (.aload_n 0, 1) := by decide +kernel
theorem dX2_takeFrom_48 : decode cX2_takeFrom 48 = .ok (.aload_n 1, 1) := by decide +kernel
theorem dX2_takeFrom_49 : decode cX2_takeFrom 49 = .ok (.getfield 26, 3) := by decide +kernel
theorem dX2_takeFrom_52 : decode cX2_takeFrom 52 = .ok (.putfield 26, 3) := by decide +kernel
theorem dX2_takeFrom_55 : decode cX2_takeFrom 55 = .ok (.aload_n 0, 1) := by decide +kernel
theorem dX2_takeFrom_56 : decode cX2_takeFrom 56 = .ok (.aload_n 1, 1) := by decide +kernel
theorem dX2_takeFrom_57 : decode cX2_takeFrom 57 = .ok (.getfield 29, 3) := by decide +kernel
theorem dX2_takeFrom_60 : decode cX2_takeFrom 60 = .ok (.putfield 29, 3) := by decide +kernel
theorem dX2_takeFrom_63 : decode cX2_takeFrom 63 = .ok (.aload_n 0, 1) := by decide +kernel
theorem dX2_takeFrom_64 : decode cX2_takeFrom 64 = .ok (.aload_n 1, 1) := by decide +kernel
theorem dX2_takeFrom_65 : decode cX2_takeFrom 65 = .ok (.getfield 32, 3) := by decide +kernel
theorem dX2_takeFrom_68 : decode cX2_takeFrom 68 = .ok (.putfield 32, 3) := by decide +kernel
theorem dX2_takeFrom_71 : decode cX2_takeFrom 71 = .ok (.aload_n 1, 1) := by decide +kernel
theorem dX2_takeFrom_72 : decode cX2_takeFrom 72 = .ok (.getfield 35, 3) := by decide +kernel
theorem dX2_takeFrom_75 : decode cX2_takeFrom 75 = .ok (.iconst 0, 1) := by decide +kernel
theorem dX2_takeFrom_76 : decode cX2_takeFrom 76 = .ok (.aload_n 0, 1) := by decide +kernel
theorem dX2_takeFrom_77 : decode cX2_takeFrom 77 = .ok (.getfield 35, 3) := by decide +kernel
theorem dX2_takeFrom_80 : decode cX2_takeFrom 80 = .ok (.iconst 0, 1) := by decide +kernel
theorem dX2_takeFrom_81 : decode cX2_takeFrom 81 = .ok (.bipush 8, 2) := by decide +kernel
theorem dX2_takeFrom_83 : decode cX2_takeFrom 83 = .ok (.invokestatic 61, 3) := by decide +kernel
theorem dX2_takeFrom_86 : decode cX2_takeFrom 86 = .ok (.aload_n 1, 1) := by decide +kernel
theorem dX2_takeFrom_87 : decode cX2_takeFrom 87 = .ok (.getfield 39, 3) := by decide +kernel
theorem dX2_takeFrom_90 : decode cX2_takeFrom 90 = .ok (.iconst 0, 1) := by decide +kernel
theorem dX2_takeFrom_91 : decode cX2_takeFrom 91 = .ok (.aload_n 0, 1) := by decide +kernel
theorem dX2_takeFrom_92 : decode cX2_takeFrom 92 = .ok (.getfield 39, 3) := by decide +kernel
theorem dX2_takeFrom_95 : decode cX2_takeFrom 95 = .ok (.iconst 0, 1) := by decide +kernel
theorem dX2_takeFrom_96 : decode cX2_takeFrom 96 = .ok (.iconst 4, 1) := by decide +kernel
theorem dX2_takeFrom_97 : decode cX2_takeFrom 97 = .ok (.invokestatic 61, 3) := by decide +kernel
theorem dX2_takeFrom_100 : decode cX2_takeFrom 100 = .ok (.return_, 1) := by decide +kernel
theorem dX2_dropPieces_0 : decode cX2_dropPieces 0 = .ok (.aload_n 0, 1) := by decide +kernel
theorem dX2_dropPieces_1 : decode cX2_dropPieces 1 = .ok (.iconst 0, 1) := by decide +kernel
theorem dX2_dropPieces_2 : decode cX2_dropPieces 2 = .ok (.putfield 22, 3) := by decide +kernel
theorem dX2_dropPieces_5 : decode cX2_dropPieces 5 = .ok (.aload_n 0, 1) := by decide +kernel
theorem dX2_dropPieces_6 : decode cX2_dropPieces 6 = .ok (.iconst 0, 1) := by decide +kernel
theorem dX2_dropPieces_7 : decode cX2_dropPieces 7 = .ok (.putfield 26, 3) := by decide +kernel
theorem dX2_dropPieces_10 : decode cX2_dropPieces 10 = .ok (.return_, 1) := by decide +kernel
theorem dX2_addPiece_0 : decode cX2_addPiece 0 = .ok (.aload_n 0, 1) := by decide +kernel
theorem dX2_addPiece_1 : decode cX2_addPiece 1 = .ok (.getfield 22, 3) := by decide +kernel
theorem dX2_addPiece_4 : decode cX2_addPiece 4 = .ok (.bipush 8, 2) := by decide +kernel
theorem dX2_addPiece_6 : decode cX2_addPiece 6 = .ok (.if_icmp .ge 23, 3) := by decide +kernel
theorem dX2_addPiece_9 : decode cX2_addPiece 9 = .ok (.aload_n 0, 1) := by decide +kernel
theorem dX2_addPiece_10 : decode cX2_addPiece 10 = .ok (.getfield 35, 3) := by decide +kernel
theorem dX2_addPiece_13 : decode cX2_addPiece 13 = .ok (.aload_n 0, 1) := by decide +kernel
theorem dX2_addPiece_14 : decode cX2_addPiece 14 = .ok (.getfield 22, 3) := by decide +kernel
theorem dX2_addPiece_17 : decode cX2_addPiece 17 = .ok (.lload_n 1, 1) := by decide +kernel
theorem dX2_addPiece_18 : decode cX2_addPiece 18 = .ok (.lastore, 1) := by decide +kernel
theorem dX2_addPiece_19 : decode cX2_addPiece 19 = .ok (.aload_n 0, 1) := by decide +kernel
theorem dX2_addPiece_20 : decode cX2_addPiece 20 = .ok (.dup, 1) := by decide +kernel
theorem dX2_addPiece_21 : decode cX2_addPiece 21 = .ok (.getfield 22, 3) := by decide +kernel
theorem dX2_addPiece_24 : decode cX2_addPiece 24 = .ok (.iconst 1, 1) := by decide +kernel
theorem dX2_addPiece_25 : decode cX2_addPiece 25 = .ok (.iadd, 1) := by decide +kernel
theorem dX2_addPiece_26 : decode cX2_addPiece 26 = .ok (.putfield 22, 3) := by decide +kernel
theorem dX2_addPiece_29 : decode cX2_addPiece 29 = .ok (.return_, 1) := by decide +kernel
theorem dX2_fillLast_0 : decode cX2_fillLast 0 = .ok (.aload_n 0, 1) := by decide +kernel
theorem dX2_fillLast_1 : decode cX2_fillLast 1 = .ok (.getfield 22, 3) := by decide +kernel
theorem dX2_fillLast_4 : decode cX2_fillLast 4 = .ok (.ifCond .le 18, 3) := by decide +kernel
theorem dX2_fillLast_7 : decode cX2_fillLast 7 = .ok (.aload_n 0, 1) := by decide +kernel
theorem dX2_fillLast_8 : decode cX2_fillLast 8 = .ok (.getfield 35, 3) := by decide +kernel
theorem dX2_fillLast_11 : decode cX2_fillLast 11 = .ok (.aload_n 0, 1) := by decide +kernel
theorem dX2_fillLast_12 : decode cX2_fillLast 12 = .ok (.getfield 22, 3) := by decide +kernel
theorem dX2_fillLast_15 : decode cX2_fillLast 15 = .ok (.iconst 1, 1) := by decide +kernel
theorem dX2_fillLast_16 : decode cX2_fillLast 16 = .ok (.isub, 1) := by decide +kernel
theorem dX2_fillLast_17 : decode cX2_fillLast 17 = .ok (.dup2, 1) := by decide +kernel
theorem dX2_fillLast_18 : decode cX2_fillLast 18 = .ok (.laload, 1) := by decide +kernel
theorem dX2_fillLast_19 : decode cX2_fillLast 19 = .ok (.lload_n 1, 1) := by decide +kernel
theorem dX2_fillLast_20 : decode cX2_fillLast 20 = .ok (.lor, 1) := by decide +kernel
theorem dX2_fillLast_21 : decode cX2_fillLast 21 = .ok (.lastore, 1) := by decide +kernel
theorem dX2_fillLast_22 : decode cX2_fillLast 22 = .ok (.return_, 1) := by decide +kernel
theorem dX2_isOff_0 : decode cX2_isOff 0 = .ok (.aload_n 0, 1) := by decide +kernel
theorem dX2_isOff_1 : decode cX2_isOff 1 = .ok (.getfield 26, 3) := by decide +kernel
theorem dX2_isOff_4 : decode cX2_isOff 4 = .ok (.iload_n 1, 1) := by decide +kernel
theorem dX2_isOff_5 : decode cX2_isOff 5 = .ok (.ishr, 1) := by decide +kernel
theorem dX2_isOff_6 : decode cX2_isOff 6 = .ok (.iconst 1, 1) := by decide +kernel
theorem dX2_isOff_7 : decode cX2_isOff 7 = .ok (.iand, 1) := by decide +kernel
theorem dX2_isOff_8 : decode cX2_isOff 8 = .ok (.ifCond .eq 7, 3) := by decide +kernel
theorem dX2_isOff_11 : decode cX2_isOff 11 = .ok (.iconst 1, 1) := by decide +kernel
theorem dX2_isOff_12 : decode cX2_isOff 12 = .ok (.goto 4, 3) := by decide +kernel
theorem dX2_isOff_15 : decode cX2_isOff 15 = .ok (.iconst 0, 1) := by decide +kernel
theorem dX2_isOff_16 : decode cX2_isOff 16 = .ok (.ireturn, 1) := by decide +kernel
theorem dX2_emptyCubes_0 : decode cX2_emptyCubes 0 = .ok (.aload_n 0, 1) := by decide +kernel
theorem dX2_emptyCubes_1 : decode cX2_emptyCubes 1 = .ok (.getfield 12, 3) := by decide +kernel
theorem dX2_emptyCubes_4 : decode cX2_emptyCubes 4 = .ok (.getfield 42, 3) := by decide +kernel
theorem dX2_emptyCubes_7 : decode cX2_emptyCubes 7 = .ok (.aload_n 0, 1) := by decide +kernel
theorem dX2_emptyCubes_8 : decode cX2_emptyCubes 8 = .ok (.getfield 18, 3) := by decide +kernel
theorem dX2_emptyCubes_11 : decode cX2_emptyCubes 11 = .ok (.ldc2_w 67, 3) := by decide +kernel
theorem dX2_emptyCubes_14 : decode cX2_emptyCubes 14 = .ok (.lxor, 1) := by decide +kernel
theorem dX2_emptyCubes_15 : decode cX2_emptyCubes 15 = .ok (.land, 1) := by decide +kernel
theorem dX2_emptyCubes_16 : decode cX2_emptyCubes 16 = .ok (.lreturn, 1) := by decide +kernel
theorem dX2_inPieces_0 : decode cX2_inPieces 0 = .ok (.lconst 0, 1) := by decide +kernel
theorem dX2_inPieces_1 : decode cX2_inPieces 1 = .ok (.lstore_n 2, 1) := by decide +kernel
theorem dX2_inPieces_2 : decode cX2_inPieces 2 = .ok (.iconst 0, 1) := by decide +kernel
theorem dX2_inPieces_3 : decode cX2_inPieces 3 = .ok (.istore 4, 2) := by decide +kernel
theorem dX2_inPieces_5 : decode cX2_inPieces 5 = .ok (.iload 4, 2) := by decide +kernel
theorem dX2_inPieces_7 : decode cX2_inPieces 7 = .ok (.aload_n 0, 1) := by decide +kernel
theorem dX2_inPieces_8 : decode cX2_inPieces 8 = .ok (.getfield 22, 3) := by decide +kernel
theorem dX2_inPieces_11 : decode cX2_inPieces 11 = .ok (.if_icmp .ge 28, 3) := by decide +kernel
theorem dX2_inPieces_14 : decode cX2_inPieces 14 = .ok (.iload_n 1, 1) := by decide +kernel
theorem dX2_inPieces_15 : decode cX2_inPieces 15 = .ok (.iload 4, 2) := by decide +kernel
theorem dX2_inPieces_17 : decode cX2_inPieces 17 = .ok (.ishr, 1) := by decide +kernel
theorem dX2_inPieces_18 : decode cX2_inPieces 18 = .ok (.iconst 1, 1) := by decide +kernel
theorem dX2_inPieces_19 : decode cX2_inPieces 19 = .ok (.iand, 1) := by decide +kernel
theorem dX2_inPieces_20 : decode cX2_inPieces 20 = .ok (.ifCond .ne 13, 3) := by decide +kernel
theorem dX2_inPieces_23 : decode cX2_inPieces 23 = .ok (.lload_n 2, 1) := by decide +kernel
theorem dX2_inPieces_24 : decode cX2_inPieces 24 = .ok (.aload_n 0, 1) := by decide +kernel
theorem dX2_inPieces_25 : decode cX2_inPieces 25 = .ok (.getfield 35, 3) := by decide +kernel
theorem dX2_inPieces_28 : decode cX2_inPieces 28 = .ok (.iload 4, 2) := by decide +kernel
theorem dX2_inPieces_30 : decode cX2_inPieces 30 = .ok (.laload, 1) := by decide +kernel
theorem dX2_inPieces_31 : decode cX2_inPieces 31 = .ok (.lor, 1) := by decide +kernel
theorem dX2_inPieces_32 : decode cX2_inPieces 32 = .ok (.lstore_n 2, 1) := by decide +kernel
theorem dX2_inPieces_33 : decode cX2_inPieces 33 = .ok (.iinc 4 1, 3) := by decide +kernel
theorem dX2_inPieces_36 : decode cX2_inPieces 36 = .ok (.goto (-31), 3) := by decide +kernel
theorem dX2_inPieces_39 : decode cX2_inPieces 39 = .ok (.lload_n 2, 1) := by decide +kernel
theorem dX2_inPieces_40 : decode cX2_inPieces 40 = .ok (.lreturn, 1) := by decide +kernel
set_option maxRecDepth 20000 in
theorem ggX2_showsOf_X2_sumOfShows : GoodIn wsX2_showsOf wsX2_sumOfShows := goodIn_r _ [5, 6, 7, 8, 9, 10, 11, 12, 13, 14, 15, 16, 17, 18, 19, 20, 21] (by decide +kernel) (by decide +kernel)
set_option maxRecDepth 20000 in
theorem gX2_showsOf_X2_sumOfShows : GoodIn wsX2_showsOf (wsV RX2 69 RX2 yX2_sumOfShows wsX2_sumOfShows) := goodIn_app (goodIn_of _ (by decide +kernel)) ggX2_showsOf_X2_sumOfShows
theorem dX2_showsOf_0 : decode cX2_showsOf 0 = .ok (.aload_n 0, 1) := by decide +kernel
theorem dX2_showsOf_1 : decode cX2_showsOf 1 = .ok (.lconst 1, 1) := by decide +kernel
theorem dX2_showsOf_2 : decode cX2_showsOf 2 = .ok (.iload_n 1, 1) := by decide +kernel
theorem dX2_showsOf_3 : decode cX2_showsOf 3 = .ok (.lshl, 1) := by decide +kernel
theorem dX2_showsOf_4 : decode cX2_showsOf 4 = .ok (.invokevirtual 69, 3) := by decide +kernel
theorem dX2_showsOf_7 : decode cX2_showsOf 7 = .ok (.ireturn, 1) := by decide +kernel
theorem dX2_putShows_0 : decode cX2_putShows 0 = .ok (.lconst 1, 1) := by decide +kernel
theorem dX2_putShows_1 : decode cX2_putShows 1 = .ok (.iload_n 1, 1) := by decide +kernel
theorem dX2_putShows_2 : decode cX2_putShows 2 = .ok (.lshl, 1) := by decide +kernel
theorem dX2_putShows_3 : decode cX2_putShows 3 = .ok (.lstore_n 3, 1) := by decide +kernel
theorem dX2_putShows_4 : decode cX2_putShows 4 = .ok (.iconst 0, 1) := by decide +kernel
theorem dX2_putShows_5 : decode cX2_putShows 5 = .ok (.istore 5, 2) := by decide +kernel
theorem dX2_putShows_7 : decode cX2_putShows 7 = .ok (.iload 5, 2) := by decide +kernel
theorem dX2_putShows_9 : decode cX2_putShows 9 = .ok (.iconst 4, 1) := by decide +kernel
theorem dX2_putShows_10 : decode cX2_putShows 10 = .ok (.if_icmp .ge 50, 3) := by decide +kernel
theorem dX2_putShows_13 : decode cX2_putShows 13 = .ok (.aload_n 0, 1) := by decide +kernel
theorem dX2_putShows_14 : decode cX2_putShows 14 = .ok (.getfield 39, 3) := by decide +kernel
theorem dX2_putShows_17 : decode cX2_putShows 17 = .ok (.iload 5, 2) := by decide +kernel
theorem dX2_putShows_19 : decode cX2_putShows 19 = .ok (.iload_n 2, 1) := by decide +kernel
theorem dX2_putShows_20 : decode cX2_putShows 20 = .ok (.iload 5, 2) := by decide +kernel
theorem dX2_putShows_22 : decode cX2_putShows 22 = .ok (.ishr, 1) := by decide +kernel
theorem dX2_putShows_23 : decode cX2_putShows 23 = .ok (.iconst 1, 1) := by decide +kernel
theorem dX2_putShows_24 : decode cX2_putShows 24 = .ok (.iand, 1) := by decide +kernel
theorem dX2_putShows_25 : decode cX2_putShows 25 = .ok (.ifCond .eq 15, 3) := by decide +kernel
theorem dX2_putShows_28 : decode cX2_putShows 28 = .ok (.aload_n 0, 1) := by decide +kernel
theorem dX2_putShows_29 : decode cX2_putShows 29 = .ok (.getfield 39, 3) := by decide +kernel
theorem dX2_putShows_32 : decode cX2_putShows 32 = .ok (.iload 5, 2) := by decide +kernel
theorem dX2_putShows_34 : decode cX2_putShows 34 = .ok (.laload, 1) := by decide +kernel
theorem dX2_putShows_35 : decode cX2_putShows 35 = .ok (.lload_n 3, 1) := by decide +kernel
theorem dX2_putShows_36 : decode cX2_putShows 36 = .ok (.lor, 1) := by decide +kernel
theorem dX2_putShows_37 : decode cX2_putShows 37 = .ok (.goto 16, 3) := by decide +kernel
theorem dX2_putShows_40 : decode cX2_putShows 40 = .ok (.aload_n 0, 1) := by decide +kernel
theorem dX2_putShows_41 : decode cX2_putShows 41 = .ok (.getfield 39, 3) := by decide +kernel
theorem dX2_putShows_44 : decode cX2_putShows 44 = .ok (.iload 5, 2) := by decide +kernel
theorem dX2_putShows_46 : decode cX2_putShows 46 = .ok (.laload, 1) := by decide +kernel
theorem dX2_putShows_47 : decode cX2_putShows 47 = .ok (.lload_n 3, 1) := by decide +kernel
theorem dX2_putShows_48 : decode cX2_putShows 48 = .ok (.ldc2_w 67, 3) := by decide +kernel
theorem dX2_putShows_51 : decode cX2_putShows 51 = .ok (.lxor, 1) := by decide +kernel
theorem dX2_putShows_52 : decode cX2_putShows 52 = .ok (.land, 1) := by decide +kernel
theorem dX2_putShows_53 : decode cX2_putShows 53 = .ok (.lastore, 1) := by decide +kernel
theorem dX2_putShows_54 : decode cX2_putShows 54 = .ok (.iinc 5 1, 3) := by decide +kernel
theorem dX2_putShows_57 : decode cX2_putShows 57 = .ok (.goto (-50), 3) := by decide +kernel
theorem dX2_putShows_60 : decode cX2_putShows 60 = .ok (.return_, 1) := by decide +kernel
set_option maxRecDepth 20000 in
theorem ggX2_sumOfShows_J13_bitCount_95d88 : GoodIn wsX2_sumOfShows wsJ13_bitCount_95d88 := goodIn_r _ [5, 6, 7, 8] (by decide +kernel) (by decide +kernel)
set_option maxRecDepth 20000 in
theorem gX2_sumOfShows_J13_bitCount_95d88 : GoodIn wsX2_sumOfShows (va_wsS RX2 73 yJ13_bitCount_95d88 wsJ13_bitCount_95d88) := goodIn_app (goodIn_of _ (by decide +kernel)) ggX2_sumOfShows_J13_bitCount_95d88
theorem dX2_sumOfShows_0 : decode cX2_sumOfShows 0 = .ok (.iconst 0, 1) := by decide +kernel
theorem dX2_sumOfShows_1 : decode cX2_sumOfShows 1 = .ok (.istore_n 3, 1) := by decide +kernel
theorem dX2_sumOfShows_2 : decode cX2_sumOfShows 2 = .ok (.iconst 0, 1) := by decide +kernel
theorem dX2_sumOfShows_3 : decode cX2_sumOfShows 3 = .ok (.istore 4, 2) := by decide +kernel
theorem dX2_sumOfShows_5 : decode cX2_sumOfShows 5 = .ok (.iload 4, 2) := by decide +kernel
theorem dX2_sumOfShows_7 : decode cX2_sumOfShows 7 = .ok (.iconst 4, 1) := by decide +kernel
theorem dX2_sumOfShows_8 : decode cX2_sumOfShows 8 = .ok (.if_icmp .ge 27, 3) := by decide +kernel
theorem dX2_sumOfShows_11 : decode cX2_sumOfShows 11 = .ok (.iload_n 3, 1) := by decide +kernel
theorem dX2_sumOfShows_12 : decode cX2_sumOfShows 12 = .ok (.lload_n 1, 1) := by decide +kernel
theorem dX2_sumOfShows_13 : decode cX2_sumOfShows 13 = .ok (.aload_n 0, 1) := by decide +kernel
theorem dX2_sumOfShows_14 : decode cX2_sumOfShows 14 = .ok (.getfield 39, 3) := by decide +kernel
theorem dX2_sumOfShows_17 : decode cX2_sumOfShows 17 = .ok (.iload 4, 2) := by decide +kernel
theorem dX2_sumOfShows_19 : decode cX2_sumOfShows 19 = .ok (.laload, 1) := by decide +kernel
theorem dX2_sumOfShows_20 : decode cX2_sumOfShows 20 = .ok (.land, 1) := by decide +kernel
theorem dX2_sumOfShows_21 : decode cX2_sumOfShows 21 = .ok (.invokestatic 73, 3) := by decide +kernel
theorem dX2_sumOfShows_24 : decode cX2_sumOfShows 24 = .ok (.iload 4, 2) := by decide +kernel
theorem dX2_sumOfShows_26 : decode cX2_sumOfShows 26 = .ok (.ishl, 1) := by decide +kernel
theorem dX2_sumOfShows_27 : decode cX2_sumOfShows 27 = .ok (.iadd, 1) := by decide +kernel
theorem dX2_sumOfShows_28 : decode cX2_sumOfShows 28 = .ok (.istore_n 3, 1) := by decide +kernel
theorem dX2_sumOfShows_29 : decode cX2_sumOfShows 29 = .ok (.iinc 4 1, 3) := by decide +kernel
theorem dX2_sumOfShows_32 : decode cX2_sumOfShows 32 = .ok (.goto (-27), 3) := by decide +kernel
theorem dX2_sumOfShows_35 : decode cX2_sumOfShows 35 = .ok (.iload_n 3, 1) := by decide +kernel
theorem dX2_sumOfShows_36 : decode cX2_sumOfShows 36 = .ok (.ireturn, 1) := by decide +kernel
set_option maxRecDepth 20000 in
theorem ggX2_wrongPlace_X2_firstBareCube : GoodIn wsX2_wrongPlace wsX2_firstBareCube := goodIn_r _ [6, 7, 8, 9, 10, 11, 5, 12, 13, 14, 15, 16, 17, 18, 19, 1, 20, 21, 22, 23, 24, 25, 26, 27, 57, 58, 59, 60, 61, 62, 63, 64, 65, 66, 67, 68, 69, 70] (by decide +kernel) (by decide +kernel)
set_option maxRecDepth 20000 in
theorem gX2_wrongPlace_X2_firstBareCube : GoodIn wsX2_wrongPlace (wsV RX2 78 RX2 yX2_firstBareCube wsX2_firstBareCube) := goodIn_app (goodIn_of _ (by decide +kernel)) ggX2_wrongPlace_X2_firstBareCube
set_option maxRecDepth 20000 in
theorem ggX2_wrongPlace_X2_isOff : GoodIn wsX2_wrongPlace wsX2_isOff := goodIn_r _ [31, 8, 57, 58, 59, 60, 61, 62, 63, 64] (by decide +kernel) (by decide +kernel)
set_option maxRecDepth 20000 in
theorem gX2_wrongPlace_X2_isOff : GoodIn wsX2_wrongPlace (wsV RX2 82 RX2 yX2_isOff wsX2_isOff) := goodIn_app (goodIn_of _ (by decide +kernel)) ggX2_wrongPlace_X2_isOff
set_option maxRecDepth 20000 in
theorem ggX2_wrongPlace_X2_isWrong : GoodIn wsX2_wrongPlace wsX2_isWrong := goodIn_r _ [35, 20, 15, 8, 13, 36, 16, 17, 18, 5, 19, 1, 37, 38, 39, 40, 41, 42, 43, 44, 45, 46, 47, 48, 49, 50, 51, 52, 53, 54, 55, 56, 21, 22, 23, 24, 25, 26, 27, 57, 58, 59, 60, 61, 62, 63, 64, 65, 66, 67, 68, 69, 70] (by decide +kernel) (by decide +kernel)
set_option maxRecDepth 20000 in
theorem gX2_wrongPlace_X2_isWrong : GoodIn wsX2_wrongPlace (wsV RX2 86 RX2 yX2_isWrong wsX2_isWrong) := goodIn_app (goodIn_of _ (by decide +kernel)) ggX2_wrongPlace_X2_isWrong
theorem dX2_wrongPlace_0 : decode cX2_wrongPlace 0 = .ok (.iload_n 1, 1) := by decide +kernel
theorem dX2_wrongPlace_1 : decode cX2_wrongPlace 1 = .ok (.iconst 5, 1) := by decide +kernel
theorem dX2_wrongPlace_2 : decode cX2_wrongPlace 2 = .ok (.if_icmp .ne 8, 3) := by decide +kernel
theorem dX2_wrongPlace_5 : decode cX2_wrongPlace 5 = .ok (.aload_n 0, 1) := by decide +kernel
theorem dX2_wrongPlace_6 : decode cX2_wrongPlace 6 = .ok (.invokevirtual 78, 3) := by decide +kernel
theorem dX2_wrongPlace_9 : decode cX2_wrongPlace 9 = .ok (.ireturn, 1) := by decide +kernel
theorem dX2_wrongPlace_10 : decode cX2_wrongPlace 10 = .ok (.iconst 0, 1) := by decide +kernel
theorem dX2_wrongPlace_11 : decode cX2_wrongPlace 11 = .ok (.istore_n 2, 1) := by decide +kernel
theorem dX2_wrongPlace_12 : decode cX2_wrongPlace 12 = .ok (.iload_n 2, 1) := by decide +kernel
theorem dX2_wrongPlace_13 : decode cX2_wrongPlace 13 = .ok (.aload_n 0, 1) := by decide +kernel
theorem dX2_wrongPlace_14 : decode cX2_wrongPlace 14 = .ok (.getfield 22, 3) := by decide +kernel
theorem dX2_wrongPlace_17 : decode cX2_wrongPlace 17 = .ok (.if_icmp .ge 28, 3) := by decide +kernel
theorem dX2_wrongPlace_20 : decode cX2_wrongPlace 20 = .ok (.aload_n 0, 1) := by decide +kernel
theorem dX2_wrongPlace_21 : decode cX2_wrongPlace 21 = .ok (.iload_n 2, 1) := by decide +kernel
theorem dX2_wrongPlace_22 : decode cX2_wrongPlace 22 = .ok (.invokevirtual 82, 3) := by decide +kernel
theorem dX2_wrongPlace_25 : decode cX2_wrongPlace 25 = .ok (.ifCond .ne 14, 3) := by decide +kernel
theorem dX2_wrongPlace_28 : decode cX2_wrongPlace 28 = .ok (.aload_n 0, 1) := by decide +kernel
theorem dX2_wrongPlace_29 : decode cX2_wrongPlace 29 = .ok (.iload_n 1, 1) := by decide +kernel
theorem dX2_wrongPlace_30 : decode cX2_wrongPlace 30 = .ok (.iload_n 2, 1) := by decide +kernel
theorem dX2_wrongPlace_31 : decode cX2_wrongPlace 31 = .ok (.invokevirtual 86, 3) := by decide +kernel
theorem dX2_wrongPlace_34 : decode cX2_wrongPlace 34 = .ok (.ifCond .eq 5, 3) := by decide +kernel
theorem dX2_wrongPlace_37 : decode cX2_wrongPlace 37 = .ok (.iload_n 2, 1) := by decide +kernel
theorem dX2_wrongPlace_38 : decode cX2_wrongPlace 38 = .ok (.ireturn, 1) := by decide +kernel
theorem dX2_wrongPlace_39 : decode cX2_wrongPlace 39 = .ok (.iinc 2 1, 3) := by decide +kernel
theorem dX2_wrongPlace_42 : decode cX2_wrongPlace 42 = .ok (.goto (-30), 3) := by decide +kernel
theorem dX2_wrongPlace_45 : decode cX2_wrongPlace 45 = .ok (.iconst (-1), 1) := by decide +kernel
theorem dX2_wrongPlace_46 : decode cX2_wrongPlace 46 = .ok (.ireturn, 1) := by decide +kernel
set_option maxRecDepth 20000 in
theorem ggX2_isWrong_X2_inPieces : GoodIn wsX2_isWrong wsX2_inPieces := goodIn_r _ [10, 11, 1, 39, 40, 41, 42, 43, 44, 45, 46] (by decide +kernel) (by decide +kernel)
set_option maxRecDepth 20000 in
theorem gX2_isWrong_X2_inPieces : GoodIn wsX2_isWrong (wsV RX2 90 RX2 yX2_inPieces wsX2_inPieces) := goodIn_app (goodIn_of _ (by decide +kernel)) ggX2_isWrong_X2_inPieces
set_option maxRecDepth 20000 in
theorem ggX2_isWrong_X0_isOnePart : GoodIn wsX2_isWrong wsX0_isOnePart := goodIn_r _ [16, 17, 18, 19, 15, 20, 21, 22, 23, 24, 25, 26, 27, 28, 29, 30, 31, 47, 48, 49, 50, 51, 52] (by decide +kernel) (by decide +kernel)
set_option maxRecDepth 20000 in
theorem gX2_isWrong_X0_isOnePart : GoodIn wsX2_isWrong (wsV RX2 94 RX0 yX0_isOnePart wsX0_isOnePart) := goodIn_app (goodIn_of _ (by decide +kernel)) ggX2_isWrong_X0_isOnePart
set_option maxRecDepth 20000 in
theorem ggX2_isWrong_J13_bitCount_95d88 : GoodIn wsX2_isWrong wsJ13_bitCount_95d88 := goodIn_r _ [35, 36, 37, 38] (by decide +kernel) (by decide +kernel)
set_option maxRecDepth 20000 in
theorem gX2_isWrong_J13_bitCount_95d88 : GoodIn wsX2_isWrong (va_wsS RX2 73 yJ13_bitCount_95d88 wsJ13_bitCount_95d88) := goodIn_app (goodIn_of _ (by decide +kernel)) ggX2_isWrong_J13_bitCount_95d88
theorem dX2_isWrong_0 : decode cX2_isWrong 0 = .ok (.aload_n 0, 1) := by decide +kernel
theorem dX2_isWrong_1 : decode cX2_isWrong 1 = .ok (.getfield 35, 3) := by decide +kernel
theorem dX2_isWrong_4 : decode cX2_isWrong 4 = .ok (.iload_n 2, 1) := by decide +kernel
theorem dX2_isWrong_5 : decode cX2_isWrong 5 = .ok (.laload, 1) := by decide +kernel
theorem dX2_isWrong_6 : decode cX2_isWrong 6 = .ok (.lstore_n 3, 1) := by decide +kernel
theorem dX2_isWrong_7 : decode cX2_isWrong 7 = .ok (.iload_n 1, 1) := by decide +kernel
theorem dX2_isWrong_8 : decode cX2_isWrong 8 = .ok (.tableswitch 93 1 3 #[28, 45, 70], 28) := by decide +kernel
theorem dX2_isWrong_36 : decode cX2_isWrong 36 = .ok (.lload_n 3, 1) := by decide +kernel
theorem dX2_isWrong_37 : decode cX2_isWrong 37 = .ok (.aload_n 0, 1) := by decide +kernel
theorem dX2_isWrong_38 : decode cX2_isWrong 38 = .ok (.getfield 18, 3) := by decide +kernel
theorem dX2_isWrong_41 : decode cX2_isWrong 41 = .ok (.land, 1) := by decide +kernel
theorem dX2_isWrong_42 : decode cX2_isWrong 42 = .ok (.lconst 0, 1) := by decide +kernel
theorem dX2_isWrong_43 : decode cX2_isWrong 43 = .ok (.lcmp, 1) := by decide +kernel
theorem dX2_isWrong_44 : decode cX2_isWrong 44 = .ok (.ifCond .eq 7, 3) := by decide +kernel
theorem dX2_isWrong_47 : decode cX2_isWrong 47 = .ok (.iconst 1, 1) := by decide +kernel
theorem dX2_isWrong_48 : decode cX2_isWrong 48 = .ok (.goto 4, 3) := by decide +kernel
theorem dX2_isWrong_51 : decode cX2_isWrong 51 = .ok (.iconst 0, 1) := by decide +kernel
theorem dX2_isWrong_52 : decode cX2_isWrong 52 = .ok (.ireturn, 1) := by decide +kernel
theorem dX2_isWrong_53 : decode cX2_isWrong 53 = .ok (.lload_n 3, 1) := by decide +kernel
theorem dX2_isWrong_54 : decode cX2_isWrong 54 = .ok (.aload_n 0, 1) := by decide +kernel
theorem dX2_isWrong_55 : decode cX2_isWrong 55 = .ok (.aload_n 0, 1) := by decide +kernel
theorem dX2_isWrong_56 : decode cX2_isWrong 56 = .ok (.getfield 26, 3) := by decide +kernel
theorem dX2_isWrong_59 : decode cX2_isWrong 59 = .ok (.iconst (-1), 1) := by decide +kernel
theorem dX2_isWrong_60 : decode cX2_isWrong 60 = .ok (.iload_n 2, 1) := by decide +kernel
theorem dX2_isWrong_61 : decode cX2_isWrong 61 = .ok (.ishl, 1) := by decide +kernel
theorem dX2_isWrong_62 : decode cX2_isWrong 62 = .ok (.ior, 1) := by decide +kernel
theorem dX2_isWrong_63 : decode cX2_isWrong 63 = .ok (.invokevirtual 90, 3) := by decide +kernel
theorem dX2_isWrong_66 : decode cX2_isWrong 66 = .ok (.land, 1) := by decide +kernel
theorem dX2_isWrong_67 : decode cX2_isWrong 67 = .ok (.lconst 0, 1) := by decide +kernel
theorem dX2_isWrong_68 : decode cX2_isWrong 68 = .ok (.lcmp, 1) := by decide +kernel
theorem dX2_isWrong_69 : decode cX2_isWrong 69 = .ok (.ifCond .eq 7, 3) := by decide +kernel
theorem dX2_isWrong_72 : decode cX2_isWrong 72 = .ok (.iconst 1, 1) := by decide +kernel
theorem dX2_isWrong_73 : decode cX2_isWrong 73 = .ok (.goto 4, 3) := by decide +kernel
theorem dX2_isWrong_76 : decode cX2_isWrong 76 = .ok (.iconst 0, 1) := by decide +kernel
theorem dX2_isWrong_77 : decode cX2_isWrong 77 = .ok (.ireturn, 1) := by decide +kernel
theorem dX2_isWrong_78 : decode cX2_isWrong 78 = .ok (.lload_n 3, 1) := by decide +kernel
theorem dX2_isWrong_79 : decode cX2_isWrong 79 = .ok (.lconst 0, 1) := by decide +kernel
theorem dX2_isWrong_80 : decode cX2_isWrong 80 = .ok (.lcmp, 1) := by decide +kernel
theorem dX2_isWrong_81 : decode cX2_isWrong 81 = .ok (.ifCond .eq 14, 3) := by decide +kernel
theorem dX2_isWrong_84 : decode cX2_isWrong 84 = .ok (.aload_n 0, 1) := by decide +kernel
theorem dX2_isWrong_85 : decode cX2_isWrong 85 = .ok (.getfield 12, 3) := by decide +kernel
theorem dX2_isWrong_88 : decode cX2_isWrong 88 = .ok (.lload_n 3, 1) := by decide +kernel
theorem dX2_isWrong_89 : decode cX2_isWrong 89 = .ok (.invokevirtual 94, 3) := by decide +kernel
theorem dX2_isWrong_92 : decode cX2_isWrong 92 = .ok (.ifCond .ne 7, 3) := by decide +kernel
theorem dX2_isWrong_95 : decode cX2_isWrong 95 = .ok (.iconst 1, 1) := by decide +kernel
theorem dX2_isWrong_96 : decode cX2_isWrong 96 = .ok (.goto 4, 3) := by decide +kernel
theorem dX2_isWrong_99 : decode cX2_isWrong 99 = .ok (.iconst 0, 1) := by decide +kernel
theorem dX2_isWrong_100 : decode cX2_isWrong 100 = .ok (.ireturn, 1) := by decide +kernel
theorem dX2_isWrong_101 : decode cX2_isWrong 101 = .ok (.lload_n 3, 1) := by decide +kernel
theorem dX2_isWrong_102 : decode cX2_isWrong 102 = .ok (.invokestatic 73, 3) := by decide +kernel
theorem dX2_isWrong_105 : decode cX2_isWrong 105 = .ok (.aload_n 0, 1) := by decide +kernel
theorem dX2_isWrong_106 : decode cX2_isWrong 106 = .ok (.getfield 29, 3) := by decide +kernel
theorem dX2_isWrong_109 : decode cX2_isWrong 109 = .ok (.if_icmp .le 7, 3) := by decide +kernel
theorem dX2_isWrong_112 : decode cX2_isWrong 112 = .ok (.iconst 1, 1) := by decide +kernel
theorem dX2_isWrong_113 : decode cX2_isWrong 113 = .ok (.goto 4, 3) := by decide +kernel
theorem dX2_isWrong_116 : decode cX2_isWrong 116 = .ok (.iconst 0, 1) := by decide +kernel
theorem dX2_isWrong_117 : decode cX2_isWrong 117 = .ok (.ireturn, 1) := by decide +kernel
set_option maxRecDepth 20000 in
theorem ggX2_firstBareCube_X2_emptyCubes : GoodIn wsX2_firstBareCube wsX2_emptyCubes := goodIn_r _ [7, 8, 9, 10, 1, 24, 25, 26, 27, 28, 29, 30, 31, 32, 33, 34, 35, 36, 37] (by decide +kernel) (by decide +kernel)
set_option maxRecDepth 20000 in
theorem gX2_firstBareCube_X2_emptyCubes : GoodIn wsX2_firstBareCube (wsV RX2 98 RX2 yX2_emptyCubes wsX2_emptyCubes) := goodIn_app (goodIn_of _ (by decide +kernel)) ggX2_firstBareCube_X2_emptyCubes
set_option maxRecDepth 20000 in
theorem ggX2_firstBareCube_X2_inPieces : GoodIn wsX2_firstBareCube wsX2_inPieces := goodIn_r _ [14, 15, 16, 24, 25, 26, 27, 28, 29, 30, 31] (by decide +kernel) (by decide +kernel)
set_option maxRecDepth 20000 in
theorem gX2_firstBareCube_X2_inPieces : GoodIn wsX2_firstBareCube (wsV RX2 90 RX2 yX2_inPieces wsX2_inPieces) := goodIn_app (goodIn_of _ (by decide +kernel)) ggX2_firstBareCube_X2_inPieces
set_option maxRecDepth 20000 in
theorem ggX2_firstBareCube_J13_bitCount_95d88 : GoodIn wsX2_firstBareCube wsJ13_bitCount_95d88 := goodIn_r _ [20, 21, 22, 23] (by decide +kernel) (by decide +kernel)
set_option maxRecDepth 20000 in
theorem gX2_firstBareCube_J13_bitCount_95d88 : GoodIn wsX2_firstBareCube (va_wsS RX2 73 yJ13_bitCount_95d88 wsJ13_bitCount_95d88) := goodIn_app (goodIn_of _ (by decide +kernel)) ggX2_firstBareCube_J13_bitCount_95d88
theorem dX2_firstBareCube_0 : decode cX2_firstBareCube 0 = .ok (.aload_n 0, 1) := by decide +kernel
theorem dX2_firstBareCube_1 : decode cX2_firstBareCube 1 = .ok (.invokevirtual 98, 3) := by decide +kernel
theorem dX2_firstBareCube_4 : decode cX2_firstBareCube 4 = .ok (.aload_n 0, 1) := by decide +kernel
theorem dX2_firstBareCube_5 : decode cX2_firstBareCube 5 = .ok (.iconst 0, 1) := by decide +kernel
theorem dX2_firstBareCube_6 : decode cX2_firstBareCube 6 = .ok (.invokevirtual 90, 3) := by decide +kernel
theorem dX2_firstBareCube_9 : decode cX2_firstBareCube 9 = .ok (.ldc2_w 67, 3) := by decide +kernel
theorem dX2_firstBareCube_12 : decode cX2_firstBareCube 12 = .ok (.lxor, 1) := by decide +kernel
theorem dX2_firstBareCube_13 : decode cX2_firstBareCube 13 = .ok (.land, 1) := by decide +kernel
theorem dX2_firstBareCube_14 : decode cX2_firstBareCube 14 = .ok (.lstore_n 1, 1) := by decide +kernel
theorem dX2_firstBareCube_15 : decode cX2_firstBareCube 15 = .ok (.aload_n 0, 1) := by decide +kernel
theorem dX2_firstBareCube_16 : decode cX2_firstBareCube 16 = .ok (.getfield 26, 3) := by decide +kernel
theorem dX2_firstBareCube_19 : decode cX2_firstBareCube 19 = .ok (.ifCond .ne 9, 3) := by decide +kernel
theorem dX2_firstBareCube_22 : decode cX2_firstBareCube 22 = .ok (.lload_n 1, 1) := by decide +kernel
theorem dX2_firstBareCube_23 : decode cX2_firstBareCube 23 = .ok (.lconst 0, 1) := by decide +kernel
theorem dX2_firstBareCube_24 : decode cX2_firstBareCube 24 = .ok (.lcmp, 1) := by decide +kernel
theorem dX2_firstBareCube_25 : decode cX2_firstBareCube 25 = .ok (.ifCond .ne 5, 3) := by decide +kernel
theorem dX2_firstBareCube_28 : decode cX2_firstBareCube 28 = .ok (.iconst (-1), 1) := by decide +kernel
theorem dX2_firstBareCube_29 : decode cX2_firstBareCube 29 = .ok (.ireturn, 1) := by decide +kernel
theorem dX2_firstBareCube_30 : decode cX2_firstBareCube 30 = .ok (.lload_n 1, 1) := by decide +kernel
theorem dX2_firstBareCube_31 : decode cX2_firstBareCube 31 = .ok (.lload_n 1, 1) := by decide +kernel
theorem dX2_firstBareCube_32 : decode cX2_firstBareCube 32 = .ok (.lneg, 1) := by decide +kernel
theorem dX2_firstBareCube_33 : decode cX2_firstBareCube 33 = .ok (.land, 1) := by decide +kernel
theorem dX2_firstBareCube_34 : decode cX2_firstBareCube 34 = .ok (.lconst 1, 1) := by decide +kernel
theorem dX2_firstBareCube_35 : decode cX2_firstBareCube 35 = .ok (.lsub, 1) := by decide +kernel
theorem dX2_firstBareCube_36 : decode cX2_firstBareCube 36 = .ok (.invokestatic 73, 3) := by decide +kernel
theorem dX2_firstBareCube_39 : decode cX2_firstBareCube 39 = .ok (.ireturn, 1) := by decide +kernel
set_option maxRecDepth 20000 in
theorem ggX2_spareBeside_X0_beside : GoodIn wsX2_spareBeside wsX0_beside := goodIn_r _ [9, 10, 11, 12, 8, 13, 14, 15, 16, 37, 38, 39, 40, 41, 42] (by decide +kernel) (by decide +kernel)
set_option maxRecDepth 20000 in
theorem gX2_spareBeside_X0_beside : GoodIn wsX2_spareBeside (wsV RX2 102 RX0 yX0_beside wsX0_beside) := goodIn_app (goodIn_of _ (by decide +kernel)) ggX2_spareBeside_X0_beside
set_option maxRecDepth 20000 in
theorem ggX2_spareBeside_X2_emptyCubes : GoodIn wsX2_spareBeside wsX2_emptyCubes := goodIn_r _ [21, 1, 22, 23, 4, 29, 30, 31, 32, 33, 34, 35, 36, 37, 38, 39, 40, 41, 42] (by decide +kernel) (by decide +kernel)
set_option maxRecDepth 20000 in
theorem gX2_spareBeside_X2_emptyCubes : GoodIn wsX2_spareBeside (wsV RX2 98 RX2 yX2_emptyCubes wsX2_emptyCubes) := goodIn_app (goodIn_of _ (by decide +kernel)) ggX2_spareBeside_X2_emptyCubes
set_option maxRecDepth 20000 in
theorem ggX2_spareBeside_X2_inPieces : GoodIn wsX2_spareBeside wsX2_inPieces := goodIn_r _ [27, 28, 2, 29, 30, 31, 32, 33, 34, 35, 36] (by decide +kernel) (by decide +kernel)
set_option maxRecDepth 20000 in
theorem gX2_spareBeside_X2_inPieces : GoodIn wsX2_spareBeside (wsV RX2 90 RX2 yX2_inPieces wsX2_inPieces) := goodIn_app (goodIn_of _ (by decide +kernel)) ggX2_spareBeside_X2_inPieces
theorem dX2_spareBeside_0 : decode cX2_spareBeside 0 = .ok (.aload_n 0, 1) := by decide +kernel
theorem dX2_spareBeside_1 : decode cX2_spareBeside 1 = .ok (.getfield 12, 3) := by decide +kernel
theorem dX2_spareBeside_4 : decode cX2_spareBeside 4 = .ok (.aload_n 0, 1) := by decide +kernel
