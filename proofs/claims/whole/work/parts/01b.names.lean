theorem dX2_worth_9 : decode cX2_worth 9 = .ok (.iconst 3, 1) := by decide +kernel
theorem dX2_worth_10 : decode cX2_worth 10 = .ok (.goto 4, 3) := by decide +kernel
theorem dX2_worth_13 : decode cX2_worth 13 = .ok (.iconst 0, 1) := by decide +kernel
theorem dX2_worth_14 : decode cX2_worth 14 = .ok (.istore_n 3, 1) := by decide +kernel
theorem dX2_worth_15 : decode cX2_worth 15 = .ok (.iload_n 0, 1) := by decide +kernel
theorem dX2_worth_16 : decode cX2_worth 16 = .ok (.iconst 3, 1) := by decide +kernel
theorem dX2_worth_17 : decode cX2_worth 17 = .ok (.if_icmp .ne 11, 3) := by decide +kernel
theorem dX2_worth_20 : decode cX2_worth 20 = .ok (.iload_n 1, 1) := by decide +kernel
theorem dX2_worth_21 : decode cX2_worth 21 = .ok (.ifCond .ne 7, 3) := by decide +kernel
theorem dX2_worth_24 : decode cX2_worth 24 = .ok (.iload_n 3, 1) := by decide +kernel
theorem dX2_worth_25 : decode cX2_worth 25 = .ok (.iconst 1, 1) := by decide +kernel
theorem dX2_worth_26 : decode cX2_worth 26 = .ok (.isub, 1) := by decide +kernel
theorem dX2_worth_27 : decode cX2_worth 27 = .ok (.ireturn, 1) := by decide +kernel
theorem dX2_worth_28 : decode cX2_worth 28 = .ok (.iload_n 0, 1) := by decide +kernel
theorem dX2_worth_29 : decode cX2_worth 29 = .ok (.iconst 5, 1) := by decide +kernel
theorem dX2_worth_30 : decode cX2_worth 30 = .ok (.if_icmp .ne 9, 3) := by decide +kernel
theorem dX2_worth_33 : decode cX2_worth 33 = .ok (.iload_n 3, 1) := by decide +kernel
theorem dX2_worth_34 : decode cX2_worth 34 = .ok (.iload_n 1, 1) := by decide +kernel
theorem dX2_worth_35 : decode cX2_worth 35 = .ok (.iadd, 1) := by decide +kernel
theorem dX2_worth_36 : decode cX2_worth 36 = .ok (.goto 4, 3) := by decide +kernel
theorem dX2_worth_39 : decode cX2_worth 39 = .ok (.iload_n 3, 1) := by decide +kernel
theorem dX2_worth_40 : decode cX2_worth 40 = .ok (.ireturn, 1) := by decide +kernel
theorem dX2_isOne_0 : decode cX2_isOne 0 = .ok (.iload_n 0, 1) := by decide +kernel
theorem dX2_isOne_1 : decode cX2_isOne 1 = .ok (.istore_n 2, 1) := by decide +kernel
theorem dX2_isOne_2 : decode cX2_isOne 2 = .ok (.iconst 0, 1) := by decide +kernel
theorem dX2_isOne_3 : decode cX2_isOne 3 = .ok (.istore_n 3, 1) := by decide +kernel
theorem dX2_isOne_4 : decode cX2_isOne 4 = .ok (.iload_n 3, 1) := by decide +kernel
theorem dX2_isOne_5 : decode cX2_isOne 5 = .ok (.bipush 6, 2) := by decide +kernel
theorem dX2_isOne_7 : decode cX2_isOne 7 = .ok (.if_icmp .ge 32, 3) := by decide +kernel
theorem dX2_isOne_10 : decode cX2_isOne 10 = .ok (.iload_n 2, 1) := by decide +kernel
theorem dX2_isOne_11 : decode cX2_isOne 11 = .ok (.ifCond .lt 28, 3) := by decide +kernel
theorem dX2_isOne_14 : decode cX2_isOne 14 = .ok (.iload_n 2, 1) := by decide +kernel
theorem dX2_isOne_15 : decode cX2_isOne 15 = .ok (.bipush 6, 2) := by decide +kernel
theorem dX2_isOne_17 : decode cX2_isOne 17 = .ok (.if_icmp .ge 22, 3) := by decide +kernel
theorem dX2_isOne_20 : decode cX2_isOne 20 = .ok (.iload_n 2, 1) := by decide +kernel
theorem dX2_isOne_21 : decode cX2_isOne 21 = .ok (.iload_n 1, 1) := by decide +kernel
theorem dX2_isOne_22 : decode cX2_isOne 22 = .ok (.if_icmp .ne 5, 3) := by decide +kernel
theorem dX2_isOne_25 : decode cX2_isOne 25 = .ok (.iconst 1, 1) := by decide +kernel
theorem dX2_isOne_26 : decode cX2_isOne 26 = .ok (.ireturn, 1) := by decide +kernel
theorem dX2_isOne_27 : decode cX2_isOne 27 = .ok (.getstatic 13, 3) := by decide +kernel
theorem dX2_isOne_30 : decode cX2_isOne 30 = .ok (.iload_n 2, 1) := by decide +kernel
theorem dX2_isOne_31 : decode cX2_isOne 31 = .ok (.iaload, 1) := by decide +kernel
theorem dX2_isOne_32 : decode cX2_isOne 32 = .ok (.istore_n 2, 1) := by decide +kernel
theorem dX2_isOne_33 : decode cX2_isOne 33 = .ok (.iinc 3 1, 3) := by decide +kernel
theorem dX2_isOne_36 : decode cX2_isOne 36 = .ok (.goto (-32), 3) := by decide +kernel
theorem dX2_isOne_39 : decode cX2_isOne 39 = .ok (.iconst 0, 1) := by decide +kernel
theorem dX2_isOne_40 : decode cX2_isOne 40 = .ok (.ireturn, 1) := by decide +kernel
theorem dX3_init_0 : decode cX3_init 0 = .ok (.aload_n 0, 1) := by decide +kernel
theorem dX3_init_1 : decode cX3_init 1 = .ok (.invokespecial 3, 3) := by decide +kernel
theorem dX3_init_4 : decode cX3_init 4 = .ok (.return_, 1) := by decide +kernel
set_option maxRecDepth 20000 in
theorem ggX3_fill_X7_begin : GoodIn wsX3_fill wsX7_begin := goodIn_r _ [11, 12, 13, 14, 15, 16, 17, 69, 70, 71, 72, 73, 74, 75, 76] (by decide +kernel) (by decide +kernel)
set_option maxRecDepth 20000 in
theorem gX3_fill_X7_begin : GoodIn wsX3_fill (wsV RX3 24 RX7 yX7_begin wsX7_begin) := goodIn_app (goodIn_of _ (by decide +kernel)) ggX3_fill_X7_begin
set_option maxRecDepth 20000 in
theorem ggX3_fill_X3_draw : GoodIn wsX3_fill wsX3_draw := goodIn_r _ [22, 1, 23, 24, 25, 63] (by decide +kernel) (by decide +kernel)
set_option maxRecDepth 20000 in
theorem gX3_fill_X3_draw : GoodIn wsX3_fill (wsV RX3 30 RX3 yX3_draw wsX3_draw) := goodIn_app (goodIn_of _ (by decide +kernel)) ggX3_fill_X3_draw
set_option maxRecDepth 20000 in
theorem ggX3_fill_X3_drawLetters : GoodIn wsX3_fill wsX3_drawLetters := goodIn_r _ [29, 18, 19, 20, 21, 22, 1, 23, 24, 25, 30, 31, 32, 63] (by decide +kernel) (by decide +kernel)
set_option maxRecDepth 20000 in
theorem gX3_fill_X3_drawLetters : GoodIn wsX3_fill (wsV RX3 43 RX3 yX3_drawLetters wsX3_drawLetters) := goodIn_app (goodIn_of _ (by decide +kernel)) ggX3_fill_X3_drawLetters
set_option maxRecDepth 20000 in
theorem ggX3_fill_X3_drawTrue : GoodIn wsX3_fill wsX3_drawTrue := goodIn_r _ [36, 6, 37, 38, 39, 40, 41, 42, 43, 44, 45, 46, 47, 48, 49, 50, 51, 52, 18, 19, 20, 21, 22, 1, 23, 24, 25, 53, 54, 55, 56, 30, 31, 32, 64, 65, 66, 67, 68, 63] (by decide +kernel) (by decide +kernel)
set_option maxRecDepth 20000 in
theorem gX3_fill_X3_drawTrue : GoodIn wsX3_fill (wsV RX3 47 RX3 yX3_drawTrue wsX3_drawTrue) := goodIn_app (goodIn_of _ (by decide +kernel)) ggX3_fill_X3_drawTrue
set_option maxRecDepth 20000 in
theorem ggX3_fill_X7_addClause : GoodIn wsX3_fill wsX7_addClause := goodIn_r _ [60, 14, 61, 62, 69, 70, 71, 72, 73, 74, 75, 76] (by decide +kernel) (by decide +kernel)
set_option maxRecDepth 20000 in
theorem gX3_fill_X7_addClause : GoodIn wsX3_fill (wsV RX3 51 RX7 yX7_addClause wsX7_addClause) := goodIn_app (goodIn_of _ (by decide +kernel)) ggX3_fill_X7_addClause
theorem dX3_fill_0 : decode cX3_fill 0 = .ok (.aload_n 0, 1) := by decide +kernel
theorem dX3_fill_1 : decode cX3_fill 1 = .ok (.iload_n 3, 1) := by decide +kernel
theorem dX3_fill_2 : decode cX3_fill 2 = .ok (.i2l, 1) := by decide +kernel
theorem dX3_fill_3 : decode cX3_fill 3 = .ok (.lconst 1, 1) := by decide +kernel
theorem dX3_fill_4 : decode cX3_fill 4 = .ok (.ladd, 1) := by decide +kernel
theorem dX3_fill_5 : decode cX3_fill 5 = .ok (.putfield 9, 3) := by decide +kernel
theorem dX3_fill_8 : decode cX3_fill 8 = .ok (.aload_n 1, 1) := by decide +kernel
theorem dX3_fill_9 : decode cX3_fill 9 = .ok (.aload_n 2, 1) := by decide +kernel
theorem dX3_fill_10 : decode cX3_fill 10 = .ok (.getfield 15, 3) := by decide +kernel
theorem dX3_fill_13 : decode cX3_fill 13 = .ok (.aload_n 2, 1) := by decide +kernel
theorem dX3_fill_14 : decode cX3_fill 14 = .ok (.getfield 21, 3) := by decide +kernel
theorem dX3_fill_17 : decode cX3_fill 17 = .ok (.invokevirtual 24, 3) := by decide +kernel
theorem dX3_fill_20 : decode cX3_fill 20 = .ok (.iconst 0, 1) := by decide +kernel
theorem dX3_fill_21 : decode cX3_fill 21 = .ok (.istore 4, 2) := by decide +kernel
theorem dX3_fill_23 : decode cX3_fill 23 = .ok (.iconst 0, 1) := by decide +kernel
theorem dX3_fill_24 : decode cX3_fill 24 = .ok (.istore 5, 2) := by decide +kernel
theorem dX3_fill_26 : decode cX3_fill 26 = .ok (.iload 5, 2) := by decide +kernel
theorem dX3_fill_28 : decode cX3_fill 28 = .ok (.aload_n 2, 1) := by decide +kernel
theorem dX3_fill_29 : decode cX3_fill 29 = .ok (.getfield 21, 3) := by decide +kernel
theorem dX3_fill_32 : decode cX3_fill 32 = .ok (.if_icmp .ge 22, 3) := by decide +kernel
theorem dX3_fill_35 : decode cX3_fill 35 = .ok (.iload 4, 2) := by decide +kernel
theorem dX3_fill_37 : decode cX3_fill 37 = .ok (.aload_n 0, 1) := by decide +kernel
theorem dX3_fill_38 : decode cX3_fill 38 = .ok (.iconst 2, 1) := by decide +kernel
theorem dX3_fill_39 : decode cX3_fill 39 = .ok (.invokevirtual 30, 3) := by decide +kernel
theorem dX3_fill_42 : decode cX3_fill 42 = .ok (.iload 5, 2) := by decide +kernel
theorem dX3_fill_44 : decode cX3_fill 44 = .ok (.ishl, 1) := by decide +kernel
theorem dX3_fill_45 : decode cX3_fill 45 = .ok (.ior, 1) := by decide +kernel
theorem dX3_fill_46 : decode cX3_fill 46 = .ok (.istore 4, 2) := by decide +kernel
theorem dX3_fill_48 : decode cX3_fill 48 = .ok (.iinc 5 1, 3) := by decide +kernel
theorem dX3_fill_51 : decode cX3_fill 51 = .ok (.goto (-25), 3) := by decide +kernel
theorem dX3_fill_54 : decode cX3_fill 54 = .ok (.aload_n 1, 1) := by decide +kernel
theorem dX3_fill_55 : decode cX3_fill 55 = .ok (.iload 4, 2) := by decide +kernel
theorem dX3_fill_57 : decode cX3_fill 57 = .ok (.putfield 34, 3) := by decide +kernel
theorem dX3_fill_60 : decode cX3_fill 60 = .ok (.iconst 0, 1) := by decide +kernel
theorem dX3_fill_61 : decode cX3_fill 61 = .ok (.istore 5, 2) := by decide +kernel
theorem dX3_fill_63 : decode cX3_fill 63 = .ok (.iload 5, 2) := by decide +kernel
theorem dX3_fill_65 : decode cX3_fill 65 = .ok (.aload_n 2, 1) := by decide +kernel
theorem dX3_fill_66 : decode cX3_fill 66 = .ok (.getfield 37, 3) := by decide +kernel
theorem dX3_fill_69 : decode cX3_fill 69 = .ok (.if_icmp .ge 51, 3) := by decide +kernel
theorem dX3_fill_72 : decode cX3_fill 72 = .ok (.aload_n 0, 1) := by decide +kernel
theorem dX3_fill_73 : decode cX3_fill 73 = .ok (.aload_n 2, 1) := by decide +kernel
theorem dX3_fill_74 : decode cX3_fill 74 = .ok (.getfield 21, 3) := by decide +kernel
theorem dX3_fill_77 : decode cX3_fill 77 = .ok (.aload_n 2, 1) := by decide +kernel
theorem dX3_fill_78 : decode cX3_fill 78 = .ok (.getfield 40, 3) := by decide +kernel
theorem dX3_fill_81 : decode cX3_fill 81 = .ok (.invokevirtual 43, 3) := by decide +kernel
theorem dX3_fill_84 : decode cX3_fill 84 = .ok (.istore 6, 2) := by decide +kernel
theorem dX3_fill_86 : decode cX3_fill 86 = .ok (.iload 6, 2) := by decide +kernel
theorem dX3_fill_88 : decode cX3_fill 88 = .ok (.aload_n 0, 1) := by decide +kernel
theorem dX3_fill_89 : decode cX3_fill 89 = .ok (.aload_n 2, 1) := by decide +kernel
theorem dX3_fill_90 : decode cX3_fill 90 = .ok (.iload 6, 2) := by decide +kernel
theorem dX3_fill_92 : decode cX3_fill 92 = .ok (.invokevirtual 47, 3) := by decide +kernel
theorem dX3_fill_95 : decode cX3_fill 95 = .ok (.iload 4, 2) := by decide +kernel
theorem dX3_fill_97 : decode cX3_fill 97 = .ok (.ixor, 1) := by decide +kernel
theorem dX3_fill_98 : decode cX3_fill 98 = .ok (.iand, 1) := by decide +kernel
theorem dX3_fill_99 : decode cX3_fill 99 = .ok (.istore 7, 2) := by decide +kernel
theorem dX3_fill_101 : decode cX3_fill 101 = .ok (.aload_n 1, 1) := by decide +kernel
theorem dX3_fill_102 : decode cX3_fill 102 = .ok (.iload 6, 2) := by decide +kernel
theorem dX3_fill_104 : decode cX3_fill 104 = .ok (.iload 7, 2) := by decide +kernel
theorem dX3_fill_106 : decode cX3_fill 106 = .ok (.iconst (-1), 1) := by decide +kernel
theorem dX3_fill_107 : decode cX3_fill 107 = .ok (.ixor, 1) := by decide +kernel
theorem dX3_fill_108 : decode cX3_fill 108 = .ok (.iand, 1) := by decide +kernel
theorem dX3_fill_109 : decode cX3_fill 109 = .ok (.iload 7, 2) := by decide +kernel
theorem dX3_fill_111 : decode cX3_fill 111 = .ok (.invokevirtual 51, 3) := by decide +kernel
theorem dX3_fill_114 : decode cX3_fill 114 = .ok (.iinc 5 1, 3) := by decide +kernel
theorem dX3_fill_117 : decode cX3_fill 117 = .ok (.goto (-54), 3) := by decide +kernel
theorem dX3_fill_120 : decode cX3_fill 120 = .ok (.return_, 1) := by decide +kernel
theorem dX3_draw_0 : decode cX3_draw 0 = .ok (.aload_n 0, 1) := by decide +kernel
theorem dX3_draw_1 : decode cX3_draw 1 = .ok (.aload_n 0, 1) := by decide +kernel
theorem dX3_draw_2 : decode cX3_draw 2 = .ok (.getfield 9, 3) := by decide +kernel
theorem dX3_draw_5 : decode cX3_draw 5 = .ok (.ldc2_w 54, 3) := by decide +kernel
theorem dX3_draw_8 : decode cX3_draw 8 = .ok (.lmul, 1) := by decide +kernel
theorem dX3_draw_9 : decode cX3_draw 9 = .ok (.ldc2_w 56, 3) := by decide +kernel
theorem dX3_draw_12 : decode cX3_draw 12 = .ok (.lrem, 1) := by decide +kernel
theorem dX3_draw_13 : decode cX3_draw 13 = .ok (.putfield 9, 3) := by decide +kernel
theorem dX3_draw_16 : decode cX3_draw 16 = .ok (.iload_n 1, 1) := by decide +kernel
theorem dX3_draw_17 : decode cX3_draw 17 = .ok (.iconst 1, 1) := by decide +kernel
theorem dX3_draw_18 : decode cX3_draw 18 = .ok (.if_icmp .ge 7, 3) := by decide +kernel
theorem dX3_draw_21 : decode cX3_draw 21 = .ok (.iconst 0, 1) := by decide +kernel
theorem dX3_draw_22 : decode cX3_draw 22 = .ok (.goto 15, 3) := by decide +kernel
theorem dX3_draw_25 : decode cX3_draw 25 = .ok (.aload_n 0, 1) := by decide +kernel
theorem dX3_draw_26 : decode cX3_draw 26 = .ok (.getfield 9, 3) := by decide +kernel
theorem dX3_draw_29 : decode cX3_draw 29 = .ok (.ldc2_w 58, 3) := by decide +kernel
theorem dX3_draw_32 : decode cX3_draw 32 = .ok (.ldiv, 1) := by decide +kernel
theorem dX3_draw_33 : decode cX3_draw 33 = .ok (.iload_n 1, 1) := by decide +kernel
theorem dX3_draw_34 : decode cX3_draw 34 = .ok (.i2l, 1) := by decide +kernel
theorem dX3_draw_35 : decode cX3_draw 35 = .ok (.lrem, 1) := by decide +kernel
theorem dX3_draw_36 : decode cX3_draw 36 = .ok (.l2i, 1) := by decide +kernel
theorem dX3_draw_37 : decode cX3_draw 37 = .ok (.ireturn, 1) := by decide +kernel
set_option maxRecDepth 20000 in
theorem ggX3_drawLetters_X3_draw : GoodIn wsX3_drawLetters wsX3_draw := goodIn_r _ [5, 6, 7, 8, 9, 13] (by decide +kernel) (by decide +kernel)
set_option maxRecDepth 20000 in
theorem gX3_drawLetters_X3_draw : GoodIn wsX3_drawLetters (wsV RX3 30 RX3 yX3_draw wsX3_draw) := goodIn_app (goodIn_of _ (by decide +kernel)) ggX3_drawLetters_X3_draw
set_option maxRecDepth 20000 in
theorem ggX3_drawLetters_X3_bitAt : GoodIn wsX3_drawLetters wsX3_bitAt := goodIn_r _ [12] (by decide +kernel) (by decide +kernel)
set_option maxRecDepth 20000 in
theorem gX3_drawLetters_X3_bitAt : GoodIn wsX3_drawLetters (va_wsS RX3 60 yX3_bitAt wsX3_bitAt) := goodIn_app (goodIn_of _ (by decide +kernel)) ggX3_drawLetters_X3_bitAt
theorem dX3_drawLetters_0 : decode cX3_drawLetters 0 = .ok (.iconst 1, 1) := by decide +kernel
theorem dX3_drawLetters_1 : decode cX3_drawLetters 1 = .ok (.iload_n 1, 1) := by decide +kernel
theorem dX3_drawLetters_2 : decode cX3_drawLetters 2 = .ok (.ishl, 1) := by decide +kernel
theorem dX3_drawLetters_3 : decode cX3_drawLetters 3 = .ok (.iconst 1, 1) := by decide +kernel
theorem dX3_drawLetters_4 : decode cX3_drawLetters 4 = .ok (.isub, 1) := by decide +kernel
theorem dX3_drawLetters_5 : decode cX3_drawLetters 5 = .ok (.istore_n 3, 1) := by decide +kernel
theorem dX3_drawLetters_6 : decode cX3_drawLetters 6 = .ok (.iconst 0, 1) := by decide +kernel
theorem dX3_drawLetters_7 : decode cX3_drawLetters 7 = .ok (.istore 4, 2) := by decide +kernel
theorem dX3_drawLetters_9 : decode cX3_drawLetters 9 = .ok (.iconst 0, 1) := by decide +kernel
theorem dX3_drawLetters_10 : decode cX3_drawLetters 10 = .ok (.istore 5, 2) := by decide +kernel
theorem dX3_drawLetters_12 : decode cX3_drawLetters 12 = .ok (.iload 5, 2) := by decide +kernel
theorem dX3_drawLetters_14 : decode cX3_drawLetters 14 = .ok (.iload_n 2, 1) := by decide +kernel
theorem dX3_drawLetters_15 : decode cX3_drawLetters 15 = .ok (.if_icmp .ge 37, 3) := by decide +kernel
theorem dX3_drawLetters_18 : decode cX3_drawLetters 18 = .ok (.iload_n 3, 1) := by decide +kernel
theorem dX3_drawLetters_19 : decode cX3_drawLetters 19 = .ok (.aload_n 0, 1) := by decide +kernel
theorem dX3_drawLetters_20 : decode cX3_drawLetters 20 = .ok (.iload_n 1, 1) := by decide +kernel
theorem dX3_drawLetters_21 : decode cX3_drawLetters 21 = .ok (.iload 5, 2) := by decide +kernel
theorem dX3_drawLetters_23 : decode cX3_drawLetters 23 = .ok (.isub, 1) := by decide +kernel
theorem dX3_drawLetters_24 : decode cX3_drawLetters 24 = .ok (.invokevirtual 30, 3) := by decide +kernel
theorem dX3_drawLetters_27 : decode cX3_drawLetters 27 = .ok (.invokestatic 60, 3) := by decide +kernel
theorem dX3_drawLetters_30 : decode cX3_drawLetters 30 = .ok (.istore 6, 2) := by decide +kernel
theorem dX3_drawLetters_32 : decode cX3_drawLetters 32 = .ok (.iload 4, 2) := by decide +kernel
theorem dX3_drawLetters_34 : decode cX3_drawLetters 34 = .ok (.iload 6, 2) := by decide +kernel
theorem dX3_drawLetters_36 : decode cX3_drawLetters 36 = .ok (.ior, 1) := by decide +kernel
theorem dX3_drawLetters_37 : decode cX3_drawLetters 37 = .ok (.istore 4, 2) := by decide +kernel
theorem dX3_drawLetters_39 : decode cX3_drawLetters 39 = .ok (.iload_n 3, 1) := by decide +kernel
theorem dX3_drawLetters_40 : decode cX3_drawLetters 40 = .ok (.iload 6, 2) := by decide +kernel
theorem dX3_drawLetters_42 : decode cX3_drawLetters 42 = .ok (.iconst (-1), 1) := by decide +kernel
theorem dX3_drawLetters_43 : decode cX3_drawLetters 43 = .ok (.ixor, 1) := by decide +kernel
theorem dX3_drawLetters_44 : decode cX3_drawLetters 44 = .ok (.iand, 1) := by decide +kernel
theorem dX3_drawLetters_45 : decode cX3_drawLetters 45 = .ok (.istore_n 3, 1) := by decide +kernel
theorem dX3_drawLetters_46 : decode cX3_drawLetters 46 = .ok (.iinc 5 1, 3) := by decide +kernel
theorem dX3_drawLetters_49 : decode cX3_drawLetters 49 = .ok (.goto (-37), 3) := by decide +kernel
theorem dX3_drawLetters_52 : decode cX3_drawLetters 52 = .ok (.iload 4, 2) := by decide +kernel
theorem dX3_drawLetters_54 : decode cX3_drawLetters 54 = .ok (.ireturn, 1) := by decide +kernel
set_option maxRecDepth 20000 in
theorem ggX3_drawTrue_X4_allWays : GoodIn wsX3_drawTrue wsX4_allWays := goodIn_r _ [7, 8, 9, 10, 11, 6, 12, 13, 14, 15, 16, 17, 34, 35, 36, 37, 38] (by decide +kernel) (by decide +kernel)
set_option maxRecDepth 20000 in
theorem gX3_drawTrue_X4_allWays : GoodIn wsX3_drawTrue (wsV RX3 63 RX4 yX4_allWays wsX4_allWays) := goodIn_app (goodIn_of _ (by decide +kernel)) ggX3_drawTrue_X4_allWays
set_option maxRecDepth 20000 in
theorem ggX3_drawTrue_X3_draw : GoodIn wsX3_drawTrue wsX3_draw := goodIn_r _ [22, 23, 24, 25, 26, 39] (by decide +kernel) (by decide +kernel)
set_option maxRecDepth 20000 in
theorem gX3_drawTrue_X3_draw : GoodIn wsX3_drawTrue (wsV RX3 30 RX3 yX3_draw wsX3_draw) := goodIn_app (goodIn_of _ (by decide +kernel)) ggX3_drawTrue_X3_draw
set_option maxRecDepth 20000 in
theorem ggX3_drawTrue_X4_share : GoodIn wsX3_drawTrue wsX4_share := goodIn_r _ [12, 13, 14, 15, 16, 6, 17, 8, 34, 35, 36, 37, 38] (by decide +kernel) (by decide +kernel)
set_option maxRecDepth 20000 in
theorem gX3_drawTrue_X4_share : GoodIn wsX3_drawTrue (wsV RX3 71 RX4 yX4_share wsX4_share) := goodIn_app (goodIn_of _ (by decide +kernel)) ggX3_drawTrue_X4_share
set_option maxRecDepth 20000 in
theorem ggX3_drawTrue_X3_trueByWay : GoodIn wsX3_drawTrue wsX3_trueByWay := goodIn_r _ [30, 31, 32, 21, 33] (by decide +kernel) (by decide +kernel)
set_option maxRecDepth 20000 in
theorem gX3_drawTrue_X3_trueByWay : GoodIn wsX3_drawTrue (va_wsS RX3 74 yX3_trueByWay wsX3_trueByWay) := goodIn_app (goodIn_of _ (by decide +kernel)) ggX3_drawTrue_X3_trueByWay
theorem dX3_drawTrue_0 : decode cX3_drawTrue 0 = .ok (.aload_n 0, 1) := by decide +kernel
theorem dX3_drawTrue_1 : decode cX3_drawTrue 1 = .ok (.aload_n 1, 1) := by decide +kernel
theorem dX3_drawTrue_2 : decode cX3_drawTrue 2 = .ok (.invokevirtual 63, 3) := by decide +kernel
theorem dX3_drawTrue_5 : decode cX3_drawTrue 5 = .ok (.invokevirtual 30, 3) := by decide +kernel
theorem dX3_drawTrue_8 : decode cX3_drawTrue 8 = .ok (.istore_n 3, 1) := by decide +kernel
theorem dX3_drawTrue_9 : decode cX3_drawTrue 9 = .ok (.iconst 0, 1) := by decide +kernel
theorem dX3_drawTrue_10 : decode cX3_drawTrue 10 = .ok (.istore 4, 2) := by decide +kernel
theorem dX3_drawTrue_12 : decode cX3_drawTrue 12 = .ok (.iload 4, 2) := by decide +kernel
theorem dX3_drawTrue_14 : decode cX3_drawTrue 14 = .ok (.aload_n 1, 1) := by decide +kernel
theorem dX3_drawTrue_15 : decode cX3_drawTrue 15 = .ok (.getfield 40, 3) := by decide +kernel
theorem dX3_drawTrue_18 : decode cX3_drawTrue 18 = .ok (.if_icmp .gt 57, 3) := by decide +kernel
theorem dX3_drawTrue_21 : decode cX3_drawTrue 21 = .ok (.aload_n 1, 1) := by decide +kernel
theorem dX3_drawTrue_22 : decode cX3_drawTrue 22 = .ok (.getfield 67, 3) := by decide +kernel
theorem dX3_drawTrue_25 : decode cX3_drawTrue 25 = .ok (.iload 4, 2) := by decide +kernel
theorem dX3_drawTrue_27 : decode cX3_drawTrue 27 = .ok (.iaload, 1) := by decide +kernel
theorem dX3_drawTrue_28 : decode cX3_drawTrue 28 = .ok (.istore 5, 2) := by decide +kernel
theorem dX3_drawTrue_30 : decode cX3_drawTrue 30 = .ok (.aload_n 1, 1) := by decide +kernel
theorem dX3_drawTrue_31 : decode cX3_drawTrue 31 = .ok (.iload 4, 2) := by decide +kernel
theorem dX3_drawTrue_33 : decode cX3_drawTrue 33 = .ok (.invokevirtual 71, 3) := by decide +kernel
theorem dX3_drawTrue_36 : decode cX3_drawTrue 36 = .ok (.istore 6, 2) := by decide +kernel
theorem dX3_drawTrue_38 : decode cX3_drawTrue 38 = .ok (.iload 5, 2) := by decide +kernel
theorem dX3_drawTrue_40 : decode cX3_drawTrue 40 = .ok (.ifCond .le 24, 3) := by decide +kernel
theorem dX3_drawTrue_43 : decode cX3_drawTrue 43 = .ok (.iload_n 3, 1) := by decide +kernel
theorem dX3_drawTrue_44 : decode cX3_drawTrue 44 = .ok (.iload 6, 2) := by decide +kernel
theorem dX3_drawTrue_46 : decode cX3_drawTrue 46 = .ok (.if_icmp .ge 18, 3) := by decide +kernel
theorem dX3_drawTrue_49 : decode cX3_drawTrue 49 = .ok (.iload_n 2, 1) := by decide +kernel
theorem dX3_drawTrue_50 : decode cX3_drawTrue 50 = .ok (.iload 4, 2) := by decide +kernel
theorem dX3_drawTrue_52 : decode cX3_drawTrue 52 = .ok (.aload_n 1, 1) := by decide +kernel
theorem dX3_drawTrue_53 : decode cX3_drawTrue 53 = .ok (.getfield 40, 3) := by decide +kernel
theorem dX3_drawTrue_56 : decode cX3_drawTrue 56 = .ok (.iload_n 3, 1) := by decide +kernel
theorem dX3_drawTrue_57 : decode cX3_drawTrue 57 = .ok (.iload 5, 2) := by decide +kernel
theorem dX3_drawTrue_59 : decode cX3_drawTrue 59 = .ok (.idiv, 1) := by decide +kernel
theorem dX3_drawTrue_60 : decode cX3_drawTrue 60 = .ok (.invokestatic 74, 3) := by decide +kernel
theorem dX3_drawTrue_63 : decode cX3_drawTrue 63 = .ok (.ireturn, 1) := by decide +kernel
theorem dX3_drawTrue_64 : decode cX3_drawTrue 64 = .ok (.iload_n 3, 1) := by decide +kernel
theorem dX3_drawTrue_65 : decode cX3_drawTrue 65 = .ok (.iload 6, 2) := by decide +kernel
theorem dX3_drawTrue_67 : decode cX3_drawTrue 67 = .ok (.isub, 1) := by decide +kernel
theorem dX3_drawTrue_68 : decode cX3_drawTrue 68 = .ok (.istore_n 3, 1) := by decide +kernel
theorem dX3_drawTrue_69 : decode cX3_drawTrue 69 = .ok (.iinc 4 1, 3) := by decide +kernel
theorem dX3_drawTrue_72 : decode cX3_drawTrue 72 = .ok (.goto (-60), 3) := by decide +kernel
theorem dX3_drawTrue_75 : decode cX3_drawTrue 75 = .ok (.iconst 0, 1) := by decide +kernel
theorem dX3_drawTrue_76 : decode cX3_drawTrue 76 = .ok (.ireturn, 1) := by decide +kernel
set_option maxRecDepth 20000 in
theorem ggX3_trueByWay_X3_bitAt : GoodIn wsX3_trueByWay wsX3_bitAt := goodIn_r _ [4] (by decide +kernel) (by decide +kernel)
set_option maxRecDepth 20000 in
theorem gX3_trueByWay_X3_bitAt : GoodIn wsX3_trueByWay (va_wsS RX3 60 yX3_bitAt wsX3_bitAt) := goodIn_app (goodIn_of _ (by decide +kernel)) ggX3_trueByWay_X3_bitAt
theorem dX3_trueByWay_0 : decode cX3_trueByWay 0 = .ok (.iload_n 1, 1) := by decide +kernel
theorem dX3_trueByWay_1 : decode cX3_trueByWay 1 = .ok (.ifCond .ne 5, 3) := by decide +kernel
theorem dX3_trueByWay_4 : decode cX3_trueByWay 4 = .ok (.iconst 0, 1) := by decide +kernel
theorem dX3_trueByWay_5 : decode cX3_trueByWay 5 = .ok (.ireturn, 1) := by decide +kernel
theorem dX3_trueByWay_6 : decode cX3_trueByWay 6 = .ok (.iload_n 1, 1) := by decide +kernel
theorem dX3_trueByWay_7 : decode cX3_trueByWay 7 = .ok (.iload_n 2, 1) := by decide +kernel
theorem dX3_trueByWay_8 : decode cX3_trueByWay 8 = .ok (.if_icmp .ne 5, 3) := by decide +kernel
theorem dX3_trueByWay_11 : decode cX3_trueByWay 11 = .ok (.iload_n 0, 1) := by decide +kernel
theorem dX3_trueByWay_12 : decode cX3_trueByWay 12 = .ok (.ireturn, 1) := by decide +kernel
theorem dX3_trueByWay_13 : decode cX3_trueByWay 13 = .ok (.iload_n 0, 1) := by decide +kernel
theorem dX3_trueByWay_14 : decode cX3_trueByWay 14 = .ok (.iload_n 3, 1) := by decide +kernel
theorem dX3_trueByWay_15 : decode cX3_trueByWay 15 = .ok (.invokestatic 60, 3) := by decide +kernel
theorem dX3_trueByWay_18 : decode cX3_trueByWay 18 = .ok (.istore 4, 2) := by decide +kernel
theorem dX3_trueByWay_20 : decode cX3_trueByWay 20 = .ok (.iload_n 1, 1) := by decide +kernel
theorem dX3_trueByWay_21 : decode cX3_trueByWay 21 = .ok (.iconst 1, 1) := by decide +kernel
theorem dX3_trueByWay_22 : decode cX3_trueByWay 22 = .ok (.if_icmp .ne 8, 3) := by decide +kernel
theorem dX3_trueByWay_25 : decode cX3_trueByWay 25 = .ok (.iload 4, 2) := by decide +kernel
theorem dX3_trueByWay_27 : decode cX3_trueByWay 27 = .ok (.goto 9, 3) := by decide +kernel
theorem dX3_trueByWay_30 : decode cX3_trueByWay 30 = .ok (.iload_n 0, 1) := by decide +kernel
theorem dX3_trueByWay_31 : decode cX3_trueByWay 31 = .ok (.iload 4, 2) := by decide +kernel
theorem dX3_trueByWay_33 : decode cX3_trueByWay 33 = .ok (.iconst (-1), 1) := by decide +kernel
theorem dX3_trueByWay_34 : decode cX3_trueByWay 34 = .ok (.ixor, 1) := by decide +kernel
theorem dX3_trueByWay_35 : decode cX3_trueByWay 35 = .ok (.iand, 1) := by decide +kernel
theorem dX3_trueByWay_36 : decode cX3_trueByWay 36 = .ok (.ireturn, 1) := by decide +kernel
theorem dX3_bitAt_0 : decode cX3_bitAt 0 = .ok (.iconst 0, 1) := by decide +kernel
theorem dX3_bitAt_1 : decode cX3_bitAt 1 = .ok (.istore_n 2, 1) := by decide +kernel
theorem dX3_bitAt_2 : decode cX3_bitAt 2 = .ok (.iconst 0, 1) := by decide +kernel
theorem dX3_bitAt_3 : decode cX3_bitAt 3 = .ok (.istore_n 3, 1) := by decide +kernel
theorem dX3_bitAt_4 : decode cX3_bitAt 4 = .ok (.iload_n 3, 1) := by decide +kernel
theorem dX3_bitAt_5 : decode cX3_bitAt 5 = .ok (.bipush 10, 2) := by decide +kernel
theorem dX3_bitAt_7 : decode cX3_bitAt 7 = .ok (.if_icmp .ge 30, 3) := by decide +kernel
theorem dX3_bitAt_10 : decode cX3_bitAt 10 = .ok (.iload_n 0, 1) := by decide +kernel
theorem dX3_bitAt_11 : decode cX3_bitAt 11 = .ok (.iload_n 3, 1) := by decide +kernel
theorem dX3_bitAt_12 : decode cX3_bitAt 12 = .ok (.ishr, 1) := by decide +kernel
theorem dX3_bitAt_13 : decode cX3_bitAt 13 = .ok (.iconst 1, 1) := by decide +kernel
theorem dX3_bitAt_14 : decode cX3_bitAt 14 = .ok (.iand, 1) := by decide +kernel
theorem dX3_bitAt_15 : decode cX3_bitAt 15 = .ok (.iconst 1, 1) := by decide +kernel
theorem dX3_bitAt_16 : decode cX3_bitAt 16 = .ok (.if_icmp .ne 15, 3) := by decide +kernel
theorem dX3_bitAt_19 : decode cX3_bitAt 19 = .ok (.iload_n 2, 1) := by decide +kernel
theorem dX3_bitAt_20 : decode cX3_bitAt 20 = .ok (.iload_n 1, 1) := by decide +kernel
theorem dX3_bitAt_21 : decode cX3_bitAt 21 = .ok (.if_icmp .ne 7, 3) := by decide +kernel
theorem dX3_bitAt_24 : decode cX3_bitAt 24 = .ok (.iconst 1, 1) := by decide +kernel
theorem dX3_bitAt_25 : decode cX3_bitAt 25 = .ok (.iload_n 3, 1) := by decide +kernel
theorem dX3_bitAt_26 : decode cX3_bitAt 26 = .ok (.ishl, 1) := by decide +kernel
theorem dX3_bitAt_27 : decode cX3_bitAt 27 = .ok (.ireturn, 1) := by decide +kernel
theorem dX3_bitAt_28 : decode cX3_bitAt 28 = .ok (.iinc 2 1, 3) := by decide +kernel
theorem dX3_bitAt_31 : decode cX3_bitAt 31 = .ok (.iinc 3 1, 3) := by decide +kernel
theorem dX3_bitAt_34 : decode cX3_bitAt 34 = .ok (.goto (-30), 3) := by decide +kernel
theorem dX3_bitAt_37 : decode cX3_bitAt 37 = .ok (.iconst 0, 1) := by decide +kernel
theorem dX3_bitAt_38 : decode cX3_bitAt 38 = .ok (.ireturn, 1) := by decide +kernel
theorem dX4_init_0 : decode cX4_init 0 = .ok (.aload_n 0, 1) := by decide +kernel
theorem dX4_init_1 : decode cX4_init 1 = .ok (.invokespecial 3, 3) := by decide +kernel
theorem dX4_init_4 : decode cX4_init 4 = .ok (.aload_n 0, 1) := by decide +kernel
theorem dX4_init_5 : decode cX4_init 5 = .ok (.iconst 4, 1) := by decide +kernel
theorem dX4_init_6 : decode cX4_init 6 = .ok (.newarray .int, 2) := by decide +kernel
theorem dX4_init_8 : decode cX4_init 8 = .ok (.putfield 9, 3) := by decide +kernel
theorem dX4_init_11 : decode cX4_init 11 = .ok (.return_, 1) := by decide +kernel
theorem dX4_ways_0 : decode cX4_ways 0 = .ok (.iload_n 1, 1) := by decide +kernel
theorem dX4_ways_1 : decode cX4_ways 1 = .ok (.ifCond .eq 11, 3) := by decide +kernel
theorem dX4_ways_4 : decode cX4_ways 4 = .ok (.iload_n 1, 1) := by decide +kernel
theorem dX4_ways_5 : decode cX4_ways 5 = .ok (.aload_n 0, 1) := by decide +kernel
theorem dX4_ways_6 : decode cX4_ways 6 = .ok (.getfield 15, 3) := by decide +kernel
theorem dX4_ways_9 : decode cX4_ways 9 = .ok (.if_icmp .ne 7, 3) := by decide +kernel
theorem dX4_ways_12 : decode cX4_ways 12 = .ok (.iconst 1, 1) := by decide +kernel
theorem dX4_ways_13 : decode cX4_ways 13 = .ok (.goto 7, 3) := by decide +kernel
theorem dX4_ways_16 : decode cX4_ways 16 = .ok (.aload_n 0, 1) := by decide +kernel
theorem dX4_ways_17 : decode cX4_ways 17 = .ok (.getfield 15, 3) := by decide +kernel
theorem dX4_ways_20 : decode cX4_ways 20 = .ok (.ireturn, 1) := by decide +kernel
set_option maxRecDepth 20000 in
theorem ggX4_share_X4_ways : GoodIn wsX4_share wsX4_ways := goodIn_r _ [6, 7, 8, 9, 10, 11, 12] (by decide +kernel) (by decide +kernel)
set_option maxRecDepth 20000 in
theorem gX4_share_X4_ways : GoodIn wsX4_share (wsV RX4 19 RX4 yX4_ways wsX4_ways) := goodIn_app (goodIn_of _ (by decide +kernel)) ggX4_share_X4_ways
theorem dX4_share_0 : decode cX4_share 0 = .ok (.aload_n 0, 1) := by decide +kernel
theorem dX4_share_1 : decode cX4_share 1 = .ok (.getfield 9, 3) := by decide +kernel
theorem dX4_share_4 : decode cX4_share 4 = .ok (.iload_n 1, 1) := by decide +kernel
theorem dX4_share_5 : decode cX4_share 5 = .ok (.iaload, 1) := by decide +kernel
theorem dX4_share_6 : decode cX4_share 6 = .ok (.aload_n 0, 1) := by decide +kernel
theorem dX4_share_7 : decode cX4_share 7 = .ok (.iload_n 1, 1) := by decide +kernel
theorem dX4_share_8 : decode cX4_share 8 = .ok (.invokevirtual 19, 3) := by decide +kernel
theorem dX4_share_11 : decode cX4_share 11 = .ok (.imul, 1) := by decide +kernel
theorem dX4_share_12 : decode cX4_share 12 = .ok (.ireturn, 1) := by decide +kernel
set_option maxRecDepth 20000 in
theorem ggX4_allWays_X4_share : GoodIn wsX4_allWays wsX4_share := goodIn_r _ [6, 7, 8, 9, 10, 5, 11, 1, 12, 13, 14, 15, 16] (by decide +kernel) (by decide +kernel)
set_option maxRecDepth 20000 in
theorem gX4_allWays_X4_share : GoodIn wsX4_allWays (wsV RX4 23 RX4 yX4_share wsX4_share) := goodIn_app (goodIn_of _ (by decide +kernel)) ggX4_allWays_X4_share
theorem dX4_allWays_0 : decode cX4_allWays 0 = .ok (.iconst 0, 1) := by decide +kernel
theorem dX4_allWays_1 : decode cX4_allWays 1 = .ok (.istore_n 1, 1) := by decide +kernel
theorem dX4_allWays_2 : decode cX4_allWays 2 = .ok (.iconst 0, 1) := by decide +kernel
theorem dX4_allWays_3 : decode cX4_allWays 3 = .ok (.istore_n 2, 1) := by decide +kernel
theorem dX4_allWays_4 : decode cX4_allWays 4 = .ok (.iload_n 2, 1) := by decide +kernel
theorem dX4_allWays_5 : decode cX4_allWays 5 = .ok (.aload_n 0, 1) := by decide +kernel
theorem dX4_allWays_6 : decode cX4_allWays 6 = .ok (.getfield 15, 3) := by decide +kernel
theorem dX4_allWays_9 : decode cX4_allWays 9 = .ok (.if_icmp .gt 17, 3) := by decide +kernel
theorem dX4_allWays_12 : decode cX4_allWays 12 = .ok (.iload_n 1, 1) := by decide +kernel
theorem dX4_allWays_13 : decode cX4_allWays 13 = .ok (.aload_n 0, 1) := by decide +kernel
theorem dX4_allWays_14 : decode cX4_allWays 14 = .ok (.iload_n 2, 1) := by decide +kernel
theorem dX4_allWays_15 : decode cX4_allWays 15 = .ok (.invokevirtual 23, 3) := by decide +kernel
theorem dX4_allWays_18 : decode cX4_allWays 18 = .ok (.iadd, 1) := by decide +kernel
theorem dX4_allWays_19 : decode cX4_allWays 19 = .ok (.istore_n 1, 1) := by decide +kernel
theorem dX4_allWays_20 : decode cX4_allWays 20 = .ok (.iinc 2 1, 3) := by decide +kernel
theorem dX4_allWays_23 : decode cX4_allWays 23 = .ok (.goto (-19), 3) := by decide +kernel
theorem dX4_allWays_26 : decode cX4_allWays 26 = .ok (.iload_n 1, 1) := by decide +kernel
theorem dX4_allWays_27 : decode cX4_allWays 27 = .ok (.ireturn, 1) := by decide +kernel
set_option maxRecDepth 20000 in
theorem ggX4_leaning_X4_share : GoodIn wsX4_leaning wsX4_share := goodIn_r _ [6, 7, 8, 9, 10, 5, 11, 1, 12, 13, 14, 15, 16] (by decide +kernel) (by decide +kernel)
set_option maxRecDepth 20000 in
theorem gX4_leaning_X4_share : GoodIn wsX4_leaning (wsV RX4 23 RX4 yX4_share wsX4_share) := goodIn_app (goodIn_of _ (by decide +kernel)) ggX4_leaning_X4_share
theorem dX4_leaning_0 : decode cX4_leaning 0 = .ok (.iconst 0, 1) := by decide +kernel
theorem dX4_leaning_1 : decode cX4_leaning 1 = .ok (.istore_n 1, 1) := by decide +kernel
theorem dX4_leaning_2 : decode cX4_leaning 2 = .ok (.iconst 0, 1) := by decide +kernel
theorem dX4_leaning_3 : decode cX4_leaning 3 = .ok (.istore_n 2, 1) := by decide +kernel
theorem dX4_leaning_4 : decode cX4_leaning 4 = .ok (.iload_n 2, 1) := by decide +kernel
theorem dX4_leaning_5 : decode cX4_leaning 5 = .ok (.aload_n 0, 1) := by decide +kernel
theorem dX4_leaning_6 : decode cX4_leaning 6 = .ok (.getfield 15, 3) := by decide +kernel
theorem dX4_leaning_9 : decode cX4_leaning 9 = .ok (.if_icmp .gt 26, 3) := by decide +kernel
theorem dX4_leaning_12 : decode cX4_leaning 12 = .ok (.iload_n 1, 1) := by decide +kernel
theorem dX4_leaning_13 : decode cX4_leaning 13 = .ok (.aload_n 0, 1) := by decide +kernel
theorem dX4_leaning_14 : decode cX4_leaning 14 = .ok (.iload_n 2, 1) := by decide +kernel
theorem dX4_leaning_15 : decode cX4_leaning 15 = .ok (.invokevirtual 23, 3) := by decide +kernel
theorem dX4_leaning_18 : decode cX4_leaning 18 = .ok (.iconst 2, 1) := by decide +kernel
theorem dX4_leaning_19 : decode cX4_leaning 19 = .ok (.iload_n 2, 1) := by decide +kernel
theorem dX4_leaning_20 : decode cX4_leaning 20 = .ok (.imul, 1) := by decide +kernel
theorem dX4_leaning_21 : decode cX4_leaning 21 = .ok (.aload_n 0, 1) := by decide +kernel
theorem dX4_leaning_22 : decode cX4_leaning 22 = .ok (.getfield 15, 3) := by decide +kernel
theorem dX4_leaning_25 : decode cX4_leaning 25 = .ok (.isub, 1) := by decide +kernel
theorem dX4_leaning_26 : decode cX4_leaning 26 = .ok (.imul, 1) := by decide +kernel
theorem dX4_leaning_27 : decode cX4_leaning 27 = .ok (.iadd, 1) := by decide +kernel
theorem dX4_leaning_28 : decode cX4_leaning 28 = .ok (.istore_n 1, 1) := by decide +kernel
theorem dX4_leaning_29 : decode cX4_leaning 29 = .ok (.iinc 2 1, 3) := by decide +kernel
theorem dX4_leaning_32 : decode cX4_leaning 32 = .ok (.goto (-28), 3) := by decide +kernel
theorem dX4_leaning_35 : decode cX4_leaning 35 = .ok (.iload_n 1, 1) := by decide +kernel
theorem dX4_leaning_36 : decode cX4_leaning 36 = .ok (.ireturn, 1) := by decide +kernel
theorem dX4_pairCount_0 : decode cX4_pairCount 0 = .ok (.aload_n 0, 1) := by decide +kernel
theorem dX4_pairCount_1 : decode cX4_pairCount 1 = .ok (.getfield 15, 3) := by decide +kernel
theorem dX4_pairCount_4 : decode cX4_pairCount 4 = .ok (.aload_n 0, 1) := by decide +kernel
theorem dX4_pairCount_5 : decode cX4_pairCount 5 = .ok (.getfield 15, 3) := by decide +kernel
theorem dX4_pairCount_8 : decode cX4_pairCount 8 = .ok (.iconst 1, 1) := by decide +kernel
theorem dX4_pairCount_9 : decode cX4_pairCount 9 = .ok (.isub, 1) := by decide +kernel
theorem dX4_pairCount_10 : decode cX4_pairCount 10 = .ok (.imul, 1) := by decide +kernel
theorem dX4_pairCount_11 : decode cX4_pairCount 11 = .ok (.iconst 2, 1) := by decide +kernel
theorem dX4_pairCount_12 : decode cX4_pairCount 12 = .ok (.idiv, 1) := by decide +kernel
theorem dX4_pairCount_13 : decode cX4_pairCount 13 = .ok (.ireturn, 1) := by decide +kernel
set_option maxRecDepth 20000 in
theorem ggX4_pairing_X4_share : GoodIn wsX4_pairing wsX4_share := goodIn_r _ [6, 7, 8, 9, 10, 5, 11, 1, 16, 17, 18, 19, 20] (by decide +kernel) (by decide +kernel)
set_option maxRecDepth 20000 in
theorem gX4_pairing_X4_share : GoodIn wsX4_pairing (wsV RX4 23 RX4 yX4_share wsX4_share) := goodIn_app (goodIn_of _ (by decide +kernel)) ggX4_pairing_X4_share
set_option maxRecDepth 20000 in
theorem ggX4_pairing_X4_pairCount : GoodIn wsX4_pairing wsX4_pairCount := goodIn_r _ [15, 1, 16, 17, 18, 19, 20] (by decide +kernel) (by decide +kernel)
set_option maxRecDepth 20000 in
theorem gX4_pairing_X4_pairCount : GoodIn wsX4_pairing (wsV RX4 26 RX4 yX4_pairCount wsX4_pairCount) := goodIn_app (goodIn_of _ (by decide +kernel)) ggX4_pairing_X4_pairCount
theorem dX4_pairing_0 : decode cX4_pairing 0 = .ok (.iconst 0, 1) := by decide +kernel
theorem dX4_pairing_1 : decode cX4_pairing 1 = .ok (.istore_n 1, 1) := by decide +kernel
theorem dX4_pairing_2 : decode cX4_pairing 2 = .ok (.iconst 0, 1) := by decide +kernel
theorem dX4_pairing_3 : decode cX4_pairing 3 = .ok (.istore_n 2, 1) := by decide +kernel
theorem dX4_pairing_4 : decode cX4_pairing 4 = .ok (.iload_n 2, 1) := by decide +kernel
theorem dX4_pairing_5 : decode cX4_pairing 5 = .ok (.aload_n 0, 1) := by decide +kernel
theorem dX4_pairing_6 : decode cX4_pairing 6 = .ok (.getfield 15, 3) := by decide +kernel
theorem dX4_pairing_9 : decode cX4_pairing 9 = .ok (.if_icmp .gt 35, 3) := by decide +kernel
theorem dX4_pairing_12 : decode cX4_pairing 12 = .ok (.iload_n 2, 1) := by decide +kernel
theorem dX4_pairing_13 : decode cX4_pairing 13 = .ok (.aload_n 0, 1) := by decide +kernel
theorem dX4_pairing_14 : decode cX4_pairing 14 = .ok (.getfield 15, 3) := by decide +kernel
theorem dX4_pairing_17 : decode cX4_pairing 17 = .ok (.iload_n 2, 1) := by decide +kernel
theorem dX4_pairing_18 : decode cX4_pairing 18 = .ok (.isub, 1) := by decide +kernel
theorem dX4_pairing_19 : decode cX4_pairing 19 = .ok (.imul, 1) := by decide +kernel
theorem dX4_pairing_20 : decode cX4_pairing 20 = .ok (.istore_n 3, 1) := by decide +kernel
theorem dX4_pairing_21 : decode cX4_pairing 21 = .ok (.iload_n 1, 1) := by decide +kernel
theorem dX4_pairing_22 : decode cX4_pairing 22 = .ok (.aload_n 0, 1) := by decide +kernel
theorem dX4_pairing_23 : decode cX4_pairing 23 = .ok (.iload_n 2, 1) := by decide +kernel
theorem dX4_pairing_24 : decode cX4_pairing 24 = .ok (.invokevirtual 23, 3) := by decide +kernel
theorem dX4_pairing_27 : decode cX4_pairing 27 = .ok (.aload_n 0, 1) := by decide +kernel
theorem dX4_pairing_28 : decode cX4_pairing 28 = .ok (.invokevirtual 26, 3) := by decide +kernel
theorem dX4_pairing_31 : decode cX4_pairing 31 = .ok (.iconst 2, 1) := by decide +kernel
theorem dX4_pairing_32 : decode cX4_pairing 32 = .ok (.iload_n 3, 1) := by decide +kernel
theorem dX4_pairing_33 : decode cX4_pairing 33 = .ok (.imul, 1) := by decide +kernel
theorem dX4_pairing_34 : decode cX4_pairing 34 = .ok (.isub, 1) := by decide +kernel
theorem dX4_pairing_35 : decode cX4_pairing 35 = .ok (.imul, 1) := by decide +kernel
theorem dX4_pairing_36 : decode cX4_pairing 36 = .ok (.iadd, 1) := by decide +kernel
theorem dX4_pairing_37 : decode cX4_pairing 37 = .ok (.istore_n 1, 1) := by decide +kernel
theorem dX4_pairing_38 : decode cX4_pairing 38 = .ok (.iinc 2 1, 3) := by decide +kernel
theorem dX4_pairing_41 : decode cX4_pairing 41 = .ok (.goto (-37), 3) := by decide +kernel
theorem dX4_pairing_44 : decode cX4_pairing 44 = .ok (.iload_n 1, 1) := by decide +kernel
theorem dX4_pairing_45 : decode cX4_pairing 45 = .ok (.ireturn, 1) := by decide +kernel
set_option maxRecDepth 20000 in
theorem ggX4_balancesWith_X2_holds : GoodIn wsX4_balancesWith wsX2_holds := goodIn_r _ [7] (by decide +kernel) (by decide +kernel)
set_option maxRecDepth 20000 in
theorem gX4_balancesWith_X2_holds : GoodIn wsX4_balancesWith (va_wsS RX4 33 yX2_holds wsX2_holds) := goodIn_app (goodIn_of _ (by decide +kernel)) ggX4_balancesWith_X2_holds
set_option maxRecDepth 20000 in
theorem ggX4_balancesWith_X4_leaning : GoodIn wsX4_balancesWith wsX4_leaning := goodIn_r _ [12, 2, 13, 14, 15, 11, 16, 3, 17, 18, 19, 20, 25, 26, 27, 28, 29] (by decide +kernel) (by decide +kernel)
set_option maxRecDepth 20000 in
theorem gX4_balancesWith_X4_leaning : GoodIn wsX4_balancesWith (wsV RX4 39 RX4 yX4_leaning wsX4_leaning) := goodIn_app (goodIn_of _ (by decide +kernel)) ggX4_balancesWith_X4_leaning
set_option maxRecDepth 20000 in
theorem ggX4_balancesWith_X4_allWays : GoodIn wsX4_balancesWith wsX4_allWays := goodIn_r _ [24, 2, 13, 14, 15, 11, 16, 3, 17, 18, 19, 20, 25, 26, 27, 28, 29] (by decide +kernel) (by decide +kernel)
set_option maxRecDepth 20000 in
theorem gX4_balancesWith_X4_allWays : GoodIn wsX4_balancesWith (wsV RX4 42 RX4 yX4_allWays wsX4_allWays) := goodIn_app (goodIn_of _ (by decide +kernel)) ggX4_balancesWith_X4_allWays
theorem dX4_balancesWith_0 : decode cX4_balancesWith 0 = .ok (.aload_n 0, 1) := by decide +kernel
theorem dX4_balancesWith_1 : decode cX4_balancesWith 1 = .ok (.getfield 30, 3) := by decide +kernel
theorem dX4_balancesWith_4 : decode cX4_balancesWith 4 = .ok (.iload_n 1, 1) := by decide +kernel
theorem dX4_balancesWith_5 : decode cX4_balancesWith 5 = .ok (.aload_n 0, 1) := by decide +kernel
theorem dX4_balancesWith_6 : decode cX4_balancesWith 6 = .ok (.getfield 15, 3) := by decide +kernel
theorem dX4_balancesWith_9 : decode cX4_balancesWith 9 = .ok (.invokestatic 33, 3) := by decide +kernel
theorem dX4_balancesWith_12 : decode cX4_balancesWith 12 = .ok (.ifCond .ne 5, 3) := by decide +kernel
theorem dX4_balancesWith_15 : decode cX4_balancesWith 15 = .ok (.iconst 0, 1) := by decide +kernel
theorem dX4_balancesWith_16 : decode cX4_balancesWith 16 = .ok (.ireturn, 1) := by decide +kernel
theorem dX4_balancesWith_17 : decode cX4_balancesWith 17 = .ok (.aload_n 0, 1) := by decide +kernel
theorem dX4_balancesWith_18 : decode cX4_balancesWith 18 = .ok (.getfield 9, 3) := by decide +kernel
theorem dX4_balancesWith_21 : decode cX4_balancesWith 21 = .ok (.iload_n 1, 1) := by decide +kernel
theorem dX4_balancesWith_22 : decode cX4_balancesWith 22 = .ok (.iaload, 1) := by decide +kernel
theorem dX4_balancesWith_23 : decode cX4_balancesWith 23 = .ok (.istore_n 3, 1) := by decide +kernel
theorem dX4_balancesWith_24 : decode cX4_balancesWith 24 = .ok (.aload_n 0, 1) := by decide +kernel
theorem dX4_balancesWith_25 : decode cX4_balancesWith 25 = .ok (.getfield 9, 3) := by decide +kernel
theorem dX4_balancesWith_28 : decode cX4_balancesWith 28 = .ok (.iload_n 1, 1) := by decide +kernel
theorem dX4_balancesWith_29 : decode cX4_balancesWith 29 = .ok (.iload_n 2, 1) := by decide +kernel
theorem dX4_balancesWith_30 : decode cX4_balancesWith 30 = .ok (.iastore, 1) := by decide +kernel
theorem dX4_balancesWith_31 : decode cX4_balancesWith 31 = .ok (.aload_n 0, 1) := by decide +kernel
theorem dX4_balancesWith_32 : decode cX4_balancesWith 32 = .ok (.invokevirtual 39, 3) := by decide +kernel
theorem dX4_balancesWith_35 : decode cX4_balancesWith 35 = .ok (.ifCond .ne 14, 3) := by decide +kernel
theorem dX4_balancesWith_38 : decode cX4_balancesWith 38 = .ok (.aload_n 0, 1) := by decide +kernel
theorem dX4_balancesWith_39 : decode cX4_balancesWith 39 = .ok (.invokevirtual 42, 3) := by decide +kernel
theorem dX4_balancesWith_42 : decode cX4_balancesWith 42 = .ok (.ifCond .le 7, 3) := by decide +kernel
theorem dX4_balancesWith_45 : decode cX4_balancesWith 45 = .ok (.iconst 1, 1) := by decide +kernel
theorem dX4_balancesWith_46 : decode cX4_balancesWith 46 = .ok (.goto 4, 3) := by decide +kernel
theorem dX4_balancesWith_49 : decode cX4_balancesWith 49 = .ok (.iconst 0, 1) := by decide +kernel
theorem dX4_balancesWith_50 : decode cX4_balancesWith 50 = .ok (.istore 4, 2) := by decide +kernel
theorem dX4_balancesWith_52 : decode cX4_balancesWith 52 = .ok (.aload_n 0, 1) := by decide +kernel
theorem dX4_balancesWith_53 : decode cX4_balancesWith 53 = .ok (.getfield 9, 3) := by decide +kernel
theorem dX4_balancesWith_56 : decode cX4_balancesWith 56 = .ok (.iload_n 1, 1) := by decide +kernel
theorem dX4_balancesWith_57 : decode cX4_balancesWith 57 = .ok (.iload_n 3, 1) := by decide +kernel
theorem dX4_balancesWith_58 : decode cX4_balancesWith 58 = .ok (.iastore, 1) := by decide +kernel
theorem dX4_balancesWith_59 : decode cX4_balancesWith 59 = .ok (.iload 4, 2) := by decide +kernel
theorem dX4_balancesWith_61 : decode cX4_balancesWith 61 = .ok (.ireturn, 1) := by decide +kernel
theorem dX5_init_0 : decode cX5_init 0 = .ok (.aload_n 0, 1) := by decide +kernel
theorem dX5_init_1 : decode cX5_init 1 = .ok (.invokespecial 3, 3) := by decide +kernel
theorem dX5_init_4 : decode cX5_init 4 = .ok (.aload_n 0, 1) := by decide +kernel
theorem dX5_init_5 : decode cX5_init 5 = .ok (.iconst (-1), 1) := by decide +kernel
theorem dX5_init_6 : decode cX5_init 6 = .ok (.putfield 9, 3) := by decide +kernel
theorem dX5_init_9 : decode cX5_init 9 = .ok (.aload_n 0, 1) := by decide +kernel
theorem dX5_init_10 : decode cX5_init 10 = .ok (.bipush 40, 2) := by decide +kernel
theorem dX5_init_12 : decode cX5_init 12 = .ok (.newarray .int, 2) := by decide +kernel
theorem dX5_init_14 : decode cX5_init 14 = .ok (.putfield 15, 3) := by decide +kernel
theorem dX5_init_17 : decode cX5_init 17 = .ok (.return_, 1) := by decide +kernel
set_option maxRecDepth 20000 in
theorem ggX5_begin_J7_fill_53178 : GoodIn wsX5_begin wsJ7_fill_53178 := goodIn_r _ [7] (by decide +kernel) (by decide +kernel)
set_option maxRecDepth 20000 in
theorem gX5_begin_J7_fill_53178 : GoodIn wsX5_begin (va_wsS RX5 22 yJ7_fill_53178 wsJ7_fill_53178) := goodIn_app (goodIn_of _ (by decide +kernel)) ggX5_begin_J7_fill_53178
theorem dX5_begin_0 : decode cX5_begin 0 = .ok (.aload_n 0, 1) := by decide +kernel
theorem dX5_begin_1 : decode cX5_begin 1 = .ok (.iload_n 1, 1) := by decide +kernel
theorem dX5_begin_2 : decode cX5_begin 2 = .ok (.putfield 9, 3) := by decide +kernel
theorem dX5_begin_5 : decode cX5_begin 5 = .ok (.aload_n 0, 1) := by decide +kernel
theorem dX5_begin_6 : decode cX5_begin 6 = .ok (.iload_n 2, 1) := by decide +kernel
theorem dX5_begin_7 : decode cX5_begin 7 = .ok (.putfield 19, 3) := by decide +kernel
theorem dX5_begin_10 : decode cX5_begin 10 = .ok (.aload_n 0, 1) := by decide +kernel
theorem dX5_begin_11 : decode cX5_begin 11 = .ok (.getfield 15, 3) := by decide +kernel
theorem dX5_begin_14 : decode cX5_begin 14 = .ok (.iconst 0, 1) := by decide +kernel
theorem dX5_begin_15 : decode cX5_begin 15 = .ok (.invokestatic 22, 3) := by decide +kernel
theorem dX5_begin_18 : decode cX5_begin 18 = .ok (.return_, 1) := by decide +kernel
theorem dX5_isMissing_0 : decode cX5_isMissing 0 = .ok (.aload_n 0, 1) := by decide +kernel
theorem dX5_isMissing_1 : decode cX5_isMissing 1 = .ok (.getfield 9, 3) := by decide +kernel
theorem dX5_isMissing_4 : decode cX5_isMissing 4 = .ok (.ifCond .ge 7, 3) := by decide +kernel
theorem dX5_isMissing_7 : decode cX5_isMissing 7 = .ok (.iconst 1, 1) := by decide +kernel
theorem dX5_isMissing_8 : decode cX5_isMissing 8 = .ok (.goto 4, 3) := by decide +kernel
theorem dX5_isMissing_11 : decode cX5_isMissing 11 = .ok (.iconst 0, 1) := by decide +kernel
theorem dX5_isMissing_12 : decode cX5_isMissing 12 = .ok (.ireturn, 1) := by decide +kernel
theorem dX5_cut_0 : decode cX5_cut 0 = .ok (.aload_n 0, 1) := by decide +kernel
theorem dX5_cut_1 : decode cX5_cut 1 = .ok (.getfield 9, 3) := by decide +kernel
theorem dX5_cut_4 : decode cX5_cut 4 = .ok (.lookupswitch 34 #[(0, 28), (1, 31)], 28) := by decide +kernel
theorem dX5_cut_32 : decode cX5_cut 32 = .ok (.iload_n 1, 1) := by decide +kernel
theorem dX5_cut_33 : decode cX5_cut 33 = .ok (.i2b, 1) := by decide +kernel
theorem dX5_cut_34 : decode cX5_cut 34 = .ok (.ireturn, 1) := by decide +kernel
theorem dX5_cut_35 : decode cX5_cut 35 = .ok (.iload_n 1, 1) := by decide +kernel
theorem dX5_cut_36 : decode cX5_cut 36 = .ok (.i2s, 1) := by decide +kernel
theorem dX5_cut_37 : decode cX5_cut 37 = .ok (.ireturn, 1) := by decide +kernel
theorem dX5_cut_38 : decode cX5_cut 38 = .ok (.iload_n 1, 1) := by decide +kernel
theorem dX5_cut_39 : decode cX5_cut 39 = .ok (.ireturn, 1) := by decide +kernel
theorem dX5_hasRange_0 : decode cX5_hasRange 0 = .ok (.iload_n 1, 1) := by decide +kernel
theorem dX5_hasRange_1 : decode cX5_hasRange 1 = .ok (.ifCond .lt 29, 3) := by decide +kernel
theorem dX5_hasRange_4 : decode cX5_hasRange 4 = .ok (.iload_n 2, 1) := by decide +kernel
theorem dX5_hasRange_5 : decode cX5_hasRange 5 = .ok (.ifCond .lt 25, 3) := by decide +kernel
theorem dX5_hasRange_8 : decode cX5_hasRange 8 = .ok (.iload_n 1, 1) := by decide +kernel
theorem dX5_hasRange_9 : decode cX5_hasRange 9 = .ok (.aload_n 0, 1) := by decide +kernel
theorem dX5_hasRange_10 : decode cX5_hasRange 10 = .ok (.getfield 19, 3) := by decide +kernel
theorem dX5_hasRange_13 : decode cX5_hasRange 13 = .ok (.if_icmp .gt 17, 3) := by decide +kernel
theorem dX5_hasRange_16 : decode cX5_hasRange 16 = .ok (.iload_n 2, 1) := by decide +kernel
theorem dX5_hasRange_17 : decode cX5_hasRange 17 = .ok (.aload_n 0, 1) := by decide +kernel
theorem dX5_hasRange_18 : decode cX5_hasRange 18 = .ok (.getfield 19, 3) := by decide +kernel
theorem dX5_hasRange_21 : decode cX5_hasRange 21 = .ok (.iload_n 1, 1) := by decide +kernel
theorem dX5_hasRange_22 : decode cX5_hasRange 22 = .ok (.isub, 1) := by decide +kernel
theorem dX5_hasRange_23 : decode cX5_hasRange 23 = .ok (.if_icmp .gt 7, 3) := by decide +kernel
theorem dX5_hasRange_26 : decode cX5_hasRange 26 = .ok (.iconst 1, 1) := by decide +kernel
theorem dX5_hasRange_27 : decode cX5_hasRange 27 = .ok (.goto 4, 3) := by decide +kernel
theorem dX5_hasRange_30 : decode cX5_hasRange 30 = .ok (.iconst 0, 1) := by decide +kernel
theorem dX5_hasRange_31 : decode cX5_hasRange 31 = .ok (.ireturn, 1) := by decide +kernel
theorem dX5_isOrderOf_0 : decode cX5_isOrderOf 0 = .ok (.iconst 0, 1) := by decide +kernel
theorem dX5_isOrderOf_1 : decode cX5_isOrderOf 1 = .ok (.istore_n 2, 1) := by decide +kernel
theorem dX5_isOrderOf_2 : decode cX5_isOrderOf 2 = .ok (.iconst 0, 1) := by decide +kernel
theorem dX5_isOrderOf_3 : decode cX5_isOrderOf 3 = .ok (.istore_n 3, 1) := by decide +kernel
theorem dX5_isOrderOf_4 : decode cX5_isOrderOf 4 = .ok (.iload_n 3, 1) := by decide +kernel
theorem dX5_isOrderOf_5 : decode cX5_isOrderOf 5 = .ok (.aload_n 0, 1) := by decide +kernel
theorem dX5_isOrderOf_6 : decode cX5_isOrderOf 6 = .ok (.getfield 19, 3) := by decide +kernel
theorem dX5_isOrderOf_9 : decode cX5_isOrderOf 9 = .ok (.if_icmp .ge 41, 3) := by decide +kernel
theorem dX5_isOrderOf_12 : decode cX5_isOrderOf 12 = .ok (.aload_n 0, 1) := by decide +kernel
theorem dX5_isOrderOf_13 : decode cX5_isOrderOf 13 = .ok (.getfield 15, 3) := by decide +kernel
theorem dX5_isOrderOf_16 : decode cX5_isOrderOf 16 = .ok (.iload_n 3, 1) := by decide +kernel
theorem dX5_isOrderOf_17 : decode cX5_isOrderOf 17 = .ok (.iaload, 1) := by decide +kernel
theorem dX5_isOrderOf_18 : decode cX5_isOrderOf 18 = .ok (.ifCond .lt 13, 3) := by decide +kernel
theorem dX5_isOrderOf_21 : decode cX5_isOrderOf 21 = .ok (.aload_n 0, 1) := by decide +kernel
theorem dX5_isOrderOf_22 : decode cX5_isOrderOf 22 = .ok (.getfield 15, 3) := by decide +kernel
theorem dX5_isOrderOf_25 : decode cX5_isOrderOf 25 = .ok (.iload_n 3, 1) := by decide +kernel
theorem dX5_isOrderOf_26 : decode cX5_isOrderOf 26 = .ok (.iaload, 1) := by decide +kernel
theorem dX5_isOrderOf_27 : decode cX5_isOrderOf 27 = .ok (.iload_n 1, 1) := by decide +kernel
theorem dX5_isOrderOf_28 : decode cX5_isOrderOf 28 = .ok (.if_icmp .lt 5, 3) := by decide +kernel
theorem dX5_isOrderOf_31 : decode cX5_isOrderOf 31 = .ok (.iconst 0, 1) := by decide +kernel
theorem dX5_isOrderOf_32 : decode cX5_isOrderOf 32 = .ok (.ireturn, 1) := by decide +kernel
theorem dX5_isOrderOf_33 : decode cX5_isOrderOf 33 = .ok (.iload_n 2, 1) := by decide +kernel
theorem dX5_isOrderOf_34 : decode cX5_isOrderOf 34 = .ok (.iconst 1, 1) := by decide +kernel
theorem dX5_isOrderOf_35 : decode cX5_isOrderOf 35 = .ok (.aload_n 0, 1) := by decide +kernel
theorem dX5_isOrderOf_36 : decode cX5_isOrderOf 36 = .ok (.getfield 15, 3) := by decide +kernel
theorem dX5_isOrderOf_39 : decode cX5_isOrderOf 39 = .ok (.iload_n 3, 1) := by decide +kernel
theorem dX5_isOrderOf_40 : decode cX5_isOrderOf 40 = .ok (.iaload, 1) := by decide +kernel
theorem dX5_isOrderOf_41 : decode cX5_isOrderOf 41 = .ok (.ishl, 1) := by decide +kernel
theorem dX5_isOrderOf_42 : decode cX5_isOrderOf 42 = .ok (.ior, 1) := by decide +kernel
theorem dX5_isOrderOf_43 : decode cX5_isOrderOf 43 = .ok (.istore_n 2, 1) := by decide +kernel
theorem dX5_isOrderOf_44 : decode cX5_isOrderOf 44 = .ok (.iinc 3 1, 3) := by decide +kernel
theorem dX5_isOrderOf_47 : decode cX5_isOrderOf 47 = .ok (.goto (-43), 3) := by decide +kernel
theorem dX5_isOrderOf_50 : decode cX5_isOrderOf 50 = .ok (.aload_n 0, 1) := by decide +kernel
theorem dX5_isOrderOf_51 : decode cX5_isOrderOf 51 = .ok (.getfield 19, 3) := by decide +kernel
theorem dX5_isOrderOf_54 : decode cX5_isOrderOf 54 = .ok (.iload_n 1, 1) := by decide +kernel
theorem dX5_isOrderOf_55 : decode cX5_isOrderOf 55 = .ok (.if_icmp .ne 16, 3) := by decide +kernel
theorem dX5_isOrderOf_58 : decode cX5_isOrderOf 58 = .ok (.iload_n 2, 1) := by decide +kernel
theorem dX5_isOrderOf_59 : decode cX5_isOrderOf 59 = .ok (.iconst 1, 1) := by decide +kernel
theorem dX5_isOrderOf_60 : decode cX5_isOrderOf 60 = .ok (.iload_n 1, 1) := by decide +kernel
theorem dX5_isOrderOf_61 : decode cX5_isOrderOf 61 = .ok (.ishl, 1) := by decide +kernel
theorem dX5_isOrderOf_62 : decode cX5_isOrderOf 62 = .ok (.iconst 1, 1) := by decide +kernel
theorem dX5_isOrderOf_63 : decode cX5_isOrderOf 63 = .ok (.isub, 1) := by decide +kernel
theorem dX5_isOrderOf_64 : decode cX5_isOrderOf 64 = .ok (.if_icmp .ne 7, 3) := by decide +kernel
theorem dX5_isOrderOf_67 : decode cX5_isOrderOf 67 = .ok (.iconst 1, 1) := by decide +kernel
theorem dX5_isOrderOf_68 : decode cX5_isOrderOf 68 = .ok (.goto 4, 3) := by decide +kernel
theorem dX5_isOrderOf_71 : decode cX5_isOrderOf 71 = .ok (.iconst 0, 1) := by decide +kernel
theorem dX5_isOrderOf_72 : decode cX5_isOrderOf 72 = .ok (.ireturn, 1) := by decide +kernel
theorem dX5_renumbered_0 : decode cX5_renumbered 0 = .ok (.iconst 0, 1) := by decide +kernel
theorem dX5_renumbered_1 : decode cX5_renumbered 1 = .ok (.istore_n 2, 1) := by decide +kernel
theorem dX5_renumbered_2 : decode cX5_renumbered 2 = .ok (.iconst 0, 1) := by decide +kernel
theorem dX5_renumbered_3 : decode cX5_renumbered 3 = .ok (.istore_n 3, 1) := by decide +kernel
theorem dX5_renumbered_4 : decode cX5_renumbered 4 = .ok (.iload_n 3, 1) := by decide +kernel
theorem dX5_renumbered_5 : decode cX5_renumbered 5 = .ok (.aload_n 0, 1) := by decide +kernel
theorem dX5_renumbered_6 : decode cX5_renumbered 6 = .ok (.getfield 19, 3) := by decide +kernel
theorem dX5_renumbered_9 : decode cX5_renumbered 9 = .ok (.if_icmp .ge 35, 3) := by decide +kernel
theorem dX5_renumbered_12 : decode cX5_renumbered 12 = .ok (.iload_n 3, 1) := by decide +kernel
theorem dX5_renumbered_13 : decode cX5_renumbered 13 = .ok (.bipush 10, 2) := by decide +kernel
theorem dX5_renumbered_15 : decode cX5_renumbered 15 = .ok (.if_icmp .ge 29, 3) := by decide +kernel
theorem dX5_renumbered_18 : decode cX5_renumbered 18 = .ok (.iload_n 1, 1) := by decide +kernel
theorem dX5_renumbered_19 : decode cX5_renumbered 19 = .ok (.iload_n 3, 1) := by decide +kernel
theorem dX5_renumbered_20 : decode cX5_renumbered 20 = .ok (.ishr, 1) := by decide +kernel
theorem dX5_renumbered_21 : decode cX5_renumbered 21 = .ok (.iconst 1, 1) := by decide +kernel
theorem dX5_renumbered_22 : decode cX5_renumbered 22 = .ok (.iand, 1) := by decide +kernel
theorem dX5_renumbered_23 : decode cX5_renumbered 23 = .ok (.iconst 1, 1) := by decide +kernel
theorem dX5_renumbered_24 : decode cX5_renumbered 24 = .ok (.if_icmp .ne 14, 3) := by decide +kernel
theorem dX5_renumbered_27 : decode cX5_renumbered 27 = .ok (.iload_n 2, 1) := by decide +kernel
theorem dX5_renumbered_28 : decode cX5_renumbered 28 = .ok (.iconst 1, 1) := by decide +kernel
theorem dX5_renumbered_29 : decode cX5_renumbered 29 = .ok (.aload_n 0, 1) := by decide +kernel
theorem dX5_renumbered_30 : decode cX5_renumbered 30 = .ok (.getfield 15, 3) := by decide +kernel
theorem dX5_renumbered_33 : decode cX5_renumbered 33 = .ok (.iload_n 3, 1) := by decide +kernel
theorem dX5_renumbered_34 : decode cX5_renumbered 34 = .ok (.iaload, 1) := by decide +kernel
theorem dX5_renumbered_35 : decode cX5_renumbered 35 = .ok (.ishl, 1) := by decide +kernel
theorem dX5_renumbered_36 : decode cX5_renumbered 36 = .ok (.ior, 1) := by decide +kernel
theorem dX5_renumbered_37 : decode cX5_renumbered 37 = .ok (.istore_n 2, 1) := by decide +kernel
theorem dX5_renumbered_38 : decode cX5_renumbered 38 = .ok (.iinc 3 1, 3) := by decide +kernel
theorem dX5_renumbered_41 : decode cX5_renumbered 41 = .ok (.goto (-37), 3) := by decide +kernel
theorem dX5_renumbered_44 : decode cX5_renumbered 44 = .ok (.iload_n 2, 1) := by decide +kernel
theorem dX5_renumbered_45 : decode cX5_renumbered 45 = .ok (.ireturn, 1) := by decide +kernel
theorem dX6_init_0 : decode cX6_init 0 = .ok (.aload_n 0, 1) := by decide +kernel
theorem dX6_init_1 : decode cX6_init 1 = .ok (.invokespecial 3, 3) := by decide +kernel
theorem dX6_init_4 : decode cX6_init 4 = .ok (.aload_n 0, 1) := by decide +kernel
theorem dX6_init_5 : decode cX6_init 5 = .ok (.bipush 80, 2) := by decide +kernel
theorem dX6_init_7 : decode cX6_init 7 = .ok (.newarray .int, 2) := by decide +kernel
theorem dX6_init_9 : decode cX6_init 9 = .ok (.putfield 9, 3) := by decide +kernel
theorem dX6_init_12 : decode cX6_init 12 = .ok (.return_, 1) := by decide +kernel
theorem dX6_put_0 : decode cX6_put 0 = .ok (.aload_n 0, 1) := by decide +kernel
theorem dX6_put_1 : decode cX6_put 1 = .ok (.getfield 15, 3) := by decide +kernel
theorem dX6_put_4 : decode cX6_put 4 = .ok (.aload_n 0, 1) := by decide +kernel
theorem dX6_put_5 : decode cX6_put 5 = .ok (.getfield 9, 3) := by decide +kernel
theorem dX6_put_8 : decode cX6_put 8 = .ok (.arraylength, 1) := by decide +kernel
theorem dX6_put_9 : decode cX6_put 9 = .ok (.if_icmp .ge 23, 3) := by decide +kernel
theorem dX6_put_12 : decode cX6_put 12 = .ok (.aload_n 0, 1) := by decide +kernel
theorem dX6_put_13 : decode cX6_put 13 = .ok (.getfield 9, 3) := by decide +kernel
theorem dX6_put_16 : decode cX6_put 16 = .ok (.aload_n 0, 1) := by decide +kernel
theorem dX6_put_17 : decode cX6_put 17 = .ok (.getfield 15, 3) := by decide +kernel
theorem dX6_put_20 : decode cX6_put 20 = .ok (.iload_n 1, 1) := by decide +kernel
theorem dX6_put_21 : decode cX6_put 21 = .ok (.iastore, 1) := by decide +kernel
theorem dX6_put_22 : decode cX6_put 22 = .ok (.aload_n 0, 1) := by decide +kernel
theorem dX6_put_23 : decode cX6_put 23 = .ok (.dup, 1) := by decide +kernel
theorem dX6_put_24 : decode cX6_put 24 = .ok (.getfield 15, 3) := by decide +kernel
theorem dX6_put_27 : decode cX6_put 27 = .ok (.iconst 1, 1) := by decide +kernel
theorem dX6_put_28 : decode cX6_put 28 = .ok (.iadd, 1) := by decide +kernel
theorem dX6_put_29 : decode cX6_put 29 = .ok (.putfield 15, 3) := by decide +kernel
theorem dX6_put_32 : decode cX6_put 32 = .ok (.return_, 1) := by decide +kernel
set_option maxRecDepth 20000 in
theorem ggX6_readInto_X6_named : GoodIn wsX6_readInto wsX6_named := goodIn_r _ [17, 2, 1, 18, 19, 20, 16, 21, 12, 22, 23, 24, 25, 26, 50, 51, 52, 53] (by decide +kernel) (by decide +kernel)
set_option maxRecDepth 20000 in
theorem gX6_readInto_X6_named : GoodIn wsX6_readInto (wsV RX6 27 RX6 yX6_named wsX6_named) := goodIn_app (goodIn_of _ (by decide +kernel)) ggX6_readInto_X6_named
set_option maxRecDepth 20000 in
theorem ggX6_readInto_X6_gap : GoodIn wsX6_readInto wsX6_gap := goodIn_r _ [30, 2, 1, 18, 19, 20, 16, 21, 12, 22, 50, 51, 52, 53] (by decide +kernel) (by decide +kernel)
set_option maxRecDepth 20000 in
theorem gX6_readInto_X6_gap : GoodIn wsX6_readInto (wsV RX6 36 RX6 yX6_gap wsX6_gap) := goodIn_app (goodIn_of _ (by decide +kernel)) ggX6_readInto_X6_gap
set_option maxRecDepth 20000 in
theorem ggX6_readInto_X2_holds : GoodIn wsX6_readInto wsX2_holds := goodIn_r _ [34] (by decide +kernel) (by decide +kernel)
set_option maxRecDepth 20000 in
theorem gX6_readInto_X2_holds : GoodIn wsX6_readInto (va_wsS RX6 57 yX2_holds wsX2_holds) := goodIn_app (goodIn_of _ (by decide +kernel)) ggX6_readInto_X2_holds
set_option maxRecDepth 20000 in
theorem ggX6_readInto_X6_number : GoodIn wsX6_readInto wsX6_number := goodIn_r _ [26, 2, 1, 18, 19, 20, 16, 21, 12, 22, 50, 51, 52, 53] (by decide +kernel) (by decide +kernel)
set_option maxRecDepth 20000 in
theorem gX6_readInto_X6_number : GoodIn wsX6_readInto (wsV RX6 61 RX6 yX6_number wsX6_number) := goodIn_app (goodIn_of _ (by decide +kernel)) ggX6_readInto_X6_number
set_option maxRecDepth 20000 in
theorem ggX6_readInto_X4_allWays : GoodIn wsX6_readInto wsX4_allWays := goodIn_r _ [39, 40, 41, 42, 43, 38, 44, 45, 46, 47, 48, 49, 54, 55, 56, 57, 58] (by decide +kernel) (by decide +kernel)
set_option maxRecDepth 20000 in
theorem gX6_readInto_X4_allWays : GoodIn wsX6_readInto (wsV RX6 64 RX4 yX4_allWays wsX4_allWays) := goodIn_app (goodIn_of _ (by decide +kernel)) ggX6_readInto_X4_allWays
theorem dX6_readInto_0 : decode cX6_readInto 0 = .ok (.aload_n 0, 1) := by decide +kernel
theorem dX6_readInto_1 : decode cX6_readInto 1 = .ok (.iconst 0, 1) := by decide +kernel
theorem dX6_readInto_2 : decode cX6_readInto 2 = .ok (.putfield 19, 3) := by decide +kernel
theorem dX6_readInto_5 : decode cX6_readInto 5 = .ok (.aload_n 0, 1) := by decide +kernel
theorem dX6_readInto_6 : decode cX6_readInto 6 = .ok (.iconst (-1), 1) := by decide +kernel
theorem dX6_readInto_7 : decode cX6_readInto 7 = .ok (.putfield 22, 3) := by decide +kernel
theorem dX6_readInto_10 : decode cX6_readInto 10 = .ok (.aload_n 1, 1) := by decide +kernel
theorem dX6_readInto_11 : decode cX6_readInto 11 = .ok (.aload_n 0, 1) := by decide +kernel
theorem dX6_readInto_12 : decode cX6_readInto 12 = .ok (.bipush 107, 2) := by decide +kernel
theorem dX6_readInto_14 : decode cX6_readInto 14 = .ok (.iconst 0, 1) := by decide +kernel
theorem dX6_readInto_15 : decode cX6_readInto 15 = .ok (.iconst 5, 1) := by decide +kernel
theorem dX6_readInto_16 : decode cX6_readInto 16 = .ok (.invokevirtual 27, 3) := by decide +kernel
theorem dX6_readInto_19 : decode cX6_readInto 19 = .ok (.putfield 31, 3) := by decide +kernel
theorem dX6_readInto_22 : decode cX6_readInto 22 = .ok (.aload_n 0, 1) := by decide +kernel
theorem dX6_readInto_23 : decode cX6_readInto 23 = .ok (.invokevirtual 36, 3) := by decide +kernel
theorem dX6_readInto_26 : decode cX6_readInto 26 = .ok (.aload_n 1, 1) := by decide +kernel
theorem dX6_readInto_27 : decode cX6_readInto 27 = .ok (.aload_n 0, 1) := by decide +kernel
theorem dX6_readInto_28 : decode cX6_readInto 28 = .ok (.bipush 110, 2) := by decide +kernel
theorem dX6_readInto_30 : decode cX6_readInto 30 = .ok (.iconst 1, 1) := by decide +kernel
theorem dX6_readInto_31 : decode cX6_readInto 31 = .ok (.bipush 10, 2) := by decide +kernel
theorem dX6_readInto_33 : decode cX6_readInto 33 = .ok (.invokevirtual 27, 3) := by decide +kernel
theorem dX6_readInto_36 : decode cX6_readInto 36 = .ok (.putfield 39, 3) := by decide +kernel
theorem dX6_readInto_39 : decode cX6_readInto 39 = .ok (.aload_n 0, 1) := by decide +kernel
theorem dX6_readInto_40 : decode cX6_readInto 40 = .ok (.invokevirtual 36, 3) := by decide +kernel
theorem dX6_readInto_43 : decode cX6_readInto 43 = .ok (.aload_n 1, 1) := by decide +kernel
theorem dX6_readInto_44 : decode cX6_readInto 44 = .ok (.aload_n 0, 1) := by decide +kernel
theorem dX6_readInto_45 : decode cX6_readInto 45 = .ok (.bipush 99, 2) := by decide +kernel
theorem dX6_readInto_47 : decode cX6_readInto 47 = .ok (.iconst 0, 1) := by decide +kernel
theorem dX6_readInto_48 : decode cX6_readInto 48 = .ok (.bipush 24, 2) := by decide +kernel
theorem dX6_readInto_50 : decode cX6_readInto 50 = .ok (.invokevirtual 27, 3) := by decide +kernel
theorem dX6_readInto_53 : decode cX6_readInto 53 = .ok (.putfield 42, 3) := by decide +kernel
theorem dX6_readInto_56 : decode cX6_readInto 56 = .ok (.aload_n 0, 1) := by decide +kernel
theorem dX6_readInto_57 : decode cX6_readInto 57 = .ok (.invokevirtual 36, 3) := by decide +kernel
theorem dX6_readInto_60 : decode cX6_readInto 60 = .ok (.aload_n 1, 1) := by decide +kernel
theorem dX6_readInto_61 : decode cX6_readInto 61 = .ok (.aload_n 0, 1) := by decide +kernel
theorem dX6_readInto_62 : decode cX6_readInto 62 = .ok (.bipush 119, 2) := by decide +kernel
theorem dX6_readInto_64 : decode cX6_readInto 64 = .ok (.iconst 1, 1) := by decide +kernel
theorem dX6_readInto_65 : decode cX6_readInto 65 = .ok (.iconst 3, 1) := by decide +kernel
theorem dX6_readInto_66 : decode cX6_readInto 66 = .ok (.aload_n 1, 1) := by decide +kernel
theorem dX6_readInto_67 : decode cX6_readInto 67 = .ok (.getfield 39, 3) := by decide +kernel
theorem dX6_readInto_70 : decode cX6_readInto 70 = .ok (.invokestatic 45, 3) := by decide +kernel
theorem dX6_readInto_73 : decode cX6_readInto 73 = .ok (.invokevirtual 27, 3) := by decide +kernel
theorem dX6_readInto_76 : decode cX6_readInto 76 = .ok (.putfield 51, 3) := by decide +kernel
theorem dX6_readInto_79 : decode cX6_readInto 79 = .ok (.iconst 0, 1) := by decide +kernel
theorem dX6_readInto_80 : decode cX6_readInto 80 = .ok (.istore_n 2, 1) := by decide +kernel
theorem dX6_readInto_81 : decode cX6_readInto 81 = .ok (.iload_n 2, 1) := by decide +kernel
theorem dX6_readInto_82 : decode cX6_readInto 82 = .ok (.aload_n 1, 1) := by decide +kernel
theorem dX6_readInto_83 : decode cX6_readInto 83 = .ok (.getfield 51, 3) := by decide +kernel
theorem dX6_readInto_86 : decode cX6_readInto 86 = .ok (.if_icmp .gt 52, 3) := by decide +kernel
theorem dX6_readInto_89 : decode cX6_readInto 89 = .ok (.aload_n 0, 1) := by decide +kernel
theorem dX6_readInto_90 : decode cX6_readInto 90 = .ok (.getfield 22, 3) := by decide +kernel
theorem dX6_readInto_93 : decode cX6_readInto 93 = .ok (.ifCond .ge 45, 3) := by decide +kernel
theorem dX6_readInto_96 : decode cX6_readInto 96 = .ok (.aload_n 0, 1) := by decide +kernel
theorem dX6_readInto_97 : decode cX6_readInto 97 = .ok (.invokevirtual 36, 3) := by decide +kernel
theorem dX6_readInto_100 : decode cX6_readInto 100 = .ok (.aload_n 1, 1) := by decide +kernel
theorem dX6_readInto_101 : decode cX6_readInto 101 = .ok (.getfield 54, 3) := by decide +kernel
theorem dX6_readInto_104 : decode cX6_readInto 104 = .ok (.iload_n 2, 1) := by decide +kernel
theorem dX6_readInto_105 : decode cX6_readInto 105 = .ok (.aload_n 0, 1) := by decide +kernel
theorem dX6_readInto_106 : decode cX6_readInto 106 = .ok (.iconst 0, 1) := by decide +kernel
theorem dX6_readInto_107 : decode cX6_readInto 107 = .ok (.aload_n 1, 1) := by decide +kernel
theorem dX6_readInto_108 : decode cX6_readInto 108 = .ok (.getfield 31, 3) := by decide +kernel
theorem dX6_readInto_111 : decode cX6_readInto 111 = .ok (.iload_n 2, 1) := by decide +kernel
theorem dX6_readInto_112 : decode cX6_readInto 112 = .ok (.aload_n 1, 1) := by decide +kernel
theorem dX6_readInto_113 : decode cX6_readInto 113 = .ok (.getfield 51, 3) := by decide +kernel
theorem dX6_readInto_116 : decode cX6_readInto 116 = .ok (.invokestatic 57, 3) := by decide +kernel
theorem dX6_readInto_119 : decode cX6_readInto 119 = .ok (.ifCond .eq 8, 3) := by decide +kernel
theorem dX6_readInto_122 : decode cX6_readInto 122 = .ok (.bipush 99, 2) := by decide +kernel
theorem dX6_readInto_124 : decode cX6_readInto 124 = .ok (.goto 4, 3) := by decide +kernel
theorem dX6_readInto_127 : decode cX6_readInto 127 = .ok (.iconst 0, 1) := by decide +kernel
theorem dX6_readInto_128 : decode cX6_readInto 128 = .ok (.invokevirtual 61, 3) := by decide +kernel
theorem dX6_readInto_131 : decode cX6_readInto 131 = .ok (.iastore, 1) := by decide +kernel
theorem dX6_readInto_132 : decode cX6_readInto 132 = .ok (.iinc 2 1, 3) := by decide +kernel
theorem dX6_readInto_135 : decode cX6_readInto 135 = .ok (.goto (-54), 3) := by decide +kernel
theorem dX6_readInto_138 : decode cX6_readInto 138 = .ok (.aload_n 0, 1) := by decide +kernel
theorem dX6_readInto_139 : decode cX6_readInto 139 = .ok (.getfield 22, 3) := by decide +kernel
theorem dX6_readInto_142 : decode cX6_readInto 142 = .ok (.ifCond .ge 29, 3) := by decide +kernel
theorem dX6_readInto_145 : decode cX6_readInto 145 = .ok (.aload_n 0, 1) := by decide +kernel
theorem dX6_readInto_146 : decode cX6_readInto 146 = .ok (.getfield 19, 3) := by decide +kernel
theorem dX6_readInto_149 : decode cX6_readInto 149 = .ok (.aload_n 0, 1) := by decide +kernel
theorem dX6_readInto_150 : decode cX6_readInto 150 = .ok (.getfield 15, 3) := by decide +kernel
theorem dX6_readInto_153 : decode cX6_readInto 153 = .ok (.if_icmp .lt 10, 3) := by decide +kernel
theorem dX6_readInto_156 : decode cX6_readInto 156 = .ok (.aload_n 1, 1) := by decide +kernel
theorem dX6_readInto_157 : decode cX6_readInto 157 = .ok (.invokevirtual 64, 3) := by decide +kernel
theorem dX6_readInto_160 : decode cX6_readInto 160 = .ok (.ifCond .ne 11, 3) := by decide +kernel
theorem dX6_readInto_163 : decode cX6_readInto 163 = .ok (.aload_n 0, 1) := by decide +kernel
theorem dX6_readInto_164 : decode cX6_readInto 164 = .ok (.aload_n 0, 1) := by decide +kernel
theorem dX6_readInto_165 : decode cX6_readInto 165 = .ok (.getfield 19, 3) := by decide +kernel
theorem dX6_readInto_168 : decode cX6_readInto 168 = .ok (.putfield 22, 3) := by decide +kernel
theorem dX6_readInto_171 : decode cX6_readInto 171 = .ok (.aload_n 0, 1) := by decide +kernel
theorem dX6_readInto_172 : decode cX6_readInto 172 = .ok (.getfield 22, 3) := by decide +kernel
theorem dX6_readInto_175 : decode cX6_readInto 175 = .ok (.ireturn, 1) := by decide +kernel
set_option maxRecDepth 20000 in
theorem ggX6_named_X6_byteHere : GoodIn wsX6_named wsX6_byteHere := goodIn_r _ [7, 2, 8, 9, 14, 15, 16, 17] (by decide +kernel) (by decide +kernel)
set_option maxRecDepth 20000 in
theorem gX6_named_X6_byteHere : GoodIn wsX6_named (wsV RX6 68 RX6 yX6_byteHere wsX6_byteHere) := goodIn_app (goodIn_of _ (by decide +kernel)) ggX6_named_X6_byteHere
set_option maxRecDepth 20000 in
theorem ggX6_named_X6_number : GoodIn wsX6_named wsX6_number := goodIn_r _ [13, 1, 2, 3, 4, 5, 6, 7, 8, 9, 14, 15, 16, 17] (by decide +kernel) (by decide +kernel)
set_option maxRecDepth 20000 in
theorem gX6_named_X6_number : GoodIn wsX6_named (wsV RX6 61 RX6 yX6_number wsX6_number) := goodIn_app (goodIn_of _ (by decide +kernel)) ggX6_named_X6_number
theorem dX6_named_0 : decode cX6_named 0 = .ok (.aload_n 0, 1) := by decide +kernel
theorem dX6_named_1 : decode cX6_named 1 = .ok (.getfield 22, 3) := by decide +kernel
theorem dX6_named_4 : decode cX6_named 4 = .ok (.ifCond .lt 5, 3) := by decide +kernel
theorem dX6_named_7 : decode cX6_named 7 = .ok (.iconst 0, 1) := by decide +kernel
theorem dX6_named_8 : decode cX6_named 8 = .ok (.ireturn, 1) := by decide +kernel
theorem dX6_named_9 : decode cX6_named 9 = .ok (.aload_n 0, 1) := by decide +kernel
theorem dX6_named_10 : decode cX6_named 10 = .ok (.invokevirtual 68, 3) := by decide +kernel
theorem dX6_named_13 : decode cX6_named 13 = .ok (.iload_n 1, 1) := by decide +kernel
theorem dX6_named_14 : decode cX6_named 14 = .ok (.if_icmp .eq 13, 3) := by decide +kernel
theorem dX6_named_17 : decode cX6_named 17 = .ok (.aload_n 0, 1) := by decide +kernel
theorem dX6_named_18 : decode cX6_named 18 = .ok (.aload_n 0, 1) := by decide +kernel
theorem dX6_named_19 : decode cX6_named 19 = .ok (.getfield 19, 3) := by decide +kernel
theorem dX6_named_22 : decode cX6_named 22 = .ok (.putfield 22, 3) := by decide +kernel
theorem dX6_named_25 : decode cX6_named 25 = .ok (.iconst 0, 1) := by decide +kernel
theorem dX6_named_26 : decode cX6_named 26 = .ok (.ireturn, 1) := by decide +kernel
theorem dX6_named_27 : decode cX6_named 27 = .ok (.aload_n 0, 1) := by decide +kernel
theorem dX6_named_28 : decode cX6_named 28 = .ok (.dup, 1) := by decide +kernel
theorem dX6_named_29 : decode cX6_named 29 = .ok (.getfield 19, 3) := by decide +kernel
theorem dX6_named_32 : decode cX6_named 32 = .ok (.iconst 1, 1) := by decide +kernel
theorem dX6_named_33 : decode cX6_named 33 = .ok (.iadd, 1) := by decide +kernel
theorem dX6_named_34 : decode cX6_named 34 = .ok (.putfield 19, 3) := by decide +kernel
theorem dX6_named_37 : decode cX6_named 37 = .ok (.aload_n 0, 1) := by decide +kernel
theorem dX6_named_38 : decode cX6_named 38 = .ok (.iload_n 2, 1) := by decide +kernel
theorem dX6_named_39 : decode cX6_named 39 = .ok (.iload_n 3, 1) := by decide +kernel
theorem dX6_named_40 : decode cX6_named 40 = .ok (.invokevirtual 61, 3) := by decide +kernel
theorem dX6_named_43 : decode cX6_named 43 = .ok (.ireturn, 1) := by decide +kernel
set_option maxRecDepth 20000 in
theorem ggX6_gap_X6_byteHere : GoodIn wsX6_gap wsX6_byteHere := goodIn_r _ [7, 2, 8, 9, 10, 11, 12, 13] (by decide +kernel) (by decide +kernel)
set_option maxRecDepth 20000 in
theorem gX6_gap_X6_byteHere : GoodIn wsX6_gap (wsV RX6 68 RX6 yX6_byteHere wsX6_byteHere) := goodIn_app (goodIn_of _ (by decide +kernel)) ggX6_gap_X6_byteHere
theorem dX6_gap_0 : decode cX6_gap 0 = .ok (.aload_n 0, 1) := by decide +kernel
theorem dX6_gap_1 : decode cX6_gap 1 = .ok (.getfield 22, 3) := by decide +kernel
theorem dX6_gap_4 : decode cX6_gap 4 = .ok (.ifCond .lt 4, 3) := by decide +kernel
theorem dX6_gap_7 : decode cX6_gap 7 = .ok (.return_, 1) := by decide +kernel
theorem dX6_gap_8 : decode cX6_gap 8 = .ok (.aload_n 0, 1) := by decide +kernel
theorem dX6_gap_9 : decode cX6_gap 9 = .ok (.invokevirtual 68, 3) := by decide +kernel
theorem dX6_gap_12 : decode cX6_gap 12 = .ok (.bipush 32, 2) := by decide +kernel
theorem dX6_gap_14 : decode cX6_gap 14 = .ok (.if_icmp .eq 11, 3) := by decide +kernel
theorem dX6_gap_17 : decode cX6_gap 17 = .ok (.aload_n 0, 1) := by decide +kernel
theorem dX6_gap_18 : decode cX6_gap 18 = .ok (.aload_n 0, 1) := by decide +kernel
theorem dX6_gap_19 : decode cX6_gap 19 = .ok (.getfield 19, 3) := by decide +kernel
theorem dX6_gap_22 : decode cX6_gap 22 = .ok (.putfield 22, 3) := by decide +kernel
theorem dX6_gap_25 : decode cX6_gap 25 = .ok (.iconst 0, 1) := by decide +kernel
theorem dX6_gap_26 : decode cX6_gap 26 = .ok (.istore_n 1, 1) := by decide +kernel
theorem dX6_gap_27 : decode cX6_gap 27 = .ok (.iload_n 1, 1) := by decide +kernel
theorem dX6_gap_28 : decode cX6_gap 28 = .ok (.bipush 80, 2) := by decide +kernel
theorem dX6_gap_30 : decode cX6_gap 30 = .ok (.if_icmp .ge 28, 3) := by decide +kernel
theorem dX6_gap_33 : decode cX6_gap 33 = .ok (.aload_n 0, 1) := by decide +kernel
theorem dX6_gap_34 : decode cX6_gap 34 = .ok (.invokevirtual 68, 3) := by decide +kernel
theorem dX6_gap_37 : decode cX6_gap 37 = .ok (.bipush 32, 2) := by decide +kernel
theorem dX6_gap_39 : decode cX6_gap 39 = .ok (.if_icmp .ne 19, 3) := by decide +kernel
theorem dX6_gap_42 : decode cX6_gap 42 = .ok (.aload_n 0, 1) := by decide +kernel
theorem dX6_gap_43 : decode cX6_gap 43 = .ok (.dup, 1) := by decide +kernel
theorem dX6_gap_44 : decode cX6_gap 44 = .ok (.getfield 19, 3) := by decide +kernel
theorem dX6_gap_47 : decode cX6_gap 47 = .ok (.iconst 1, 1) := by decide +kernel
theorem dX6_gap_48 : decode cX6_gap 48 = .ok (.iadd, 1) := by decide +kernel
theorem dX6_gap_49 : decode cX6_gap 49 = .ok (.putfield 19, 3) := by decide +kernel
theorem dX6_gap_52 : decode cX6_gap 52 = .ok (.iinc 1 1, 3) := by decide +kernel
theorem dX6_gap_55 : decode cX6_gap 55 = .ok (.goto (-28), 3) := by decide +kernel
theorem dX6_gap_58 : decode cX6_gap 58 = .ok (.return_, 1) := by decide +kernel
set_option maxRecDepth 20000 in
theorem ggX6_number_X6_byteHere : GoodIn wsX6_number wsX6_byteHere := goodIn_r _ [7, 2, 8, 9, 10, 11, 12, 13] (by decide +kernel) (by decide +kernel)
set_option maxRecDepth 20000 in
theorem gX6_number_X6_byteHere : GoodIn wsX6_number (wsV RX6 68 RX6 yX6_byteHere wsX6_byteHere) := goodIn_app (goodIn_of _ (by decide +kernel)) ggX6_number_X6_byteHere
theorem dX6_number_0 : decode cX6_number 0 = .ok (.aload_n 0, 1) := by decide +kernel
theorem dX6_number_1 : decode cX6_number 1 = .ok (.getfield 22, 3) := by decide +kernel
theorem dX6_number_4 : decode cX6_number 4 = .ok (.ifCond .lt 5, 3) := by decide +kernel
theorem dX6_number_7 : decode cX6_number 7 = .ok (.iconst 0, 1) := by decide +kernel
theorem dX6_number_8 : decode cX6_number 8 = .ok (.ireturn, 1) := by decide +kernel
theorem dX6_number_9 : decode cX6_number 9 = .ok (.aload_n 0, 1) := by decide +kernel
theorem dX6_number_10 : decode cX6_number 10 = .ok (.getfield 19, 3) := by decide +kernel
theorem dX6_number_13 : decode cX6_number 13 = .ok (.istore_n 3, 1) := by decide +kernel
theorem dX6_number_14 : decode cX6_number 14 = .ok (.iconst 0, 1) := by decide +kernel
theorem dX6_number_15 : decode cX6_number 15 = .ok (.istore 4, 2) := by decide +kernel
theorem dX6_number_17 : decode cX6_number 17 = .ok (.iconst 0, 1) := by decide +kernel
theorem dX6_number_18 : decode cX6_number 18 = .ok (.istore 5, 2) := by decide +kernel
theorem dX6_number_20 : decode cX6_number 20 = .ok (.iload 5, 2) := by decide +kernel
theorem dX6_number_22 : decode cX6_number 22 = .ok (.iconst 2, 1) := by decide +kernel
theorem dX6_number_23 : decode cX6_number 23 = .ok (.if_icmp .ge 52, 3) := by decide +kernel
theorem dX6_number_26 : decode cX6_number 26 = .ok (.aload_n 0, 1) := by decide +kernel
theorem dX6_number_27 : decode cX6_number 27 = .ok (.invokevirtual 68, 3) := by decide +kernel
theorem dX6_number_30 : decode cX6_number 30 = .ok (.bipush 48, 2) := by decide +kernel
theorem dX6_number_32 : decode cX6_number 32 = .ok (.if_icmp .lt 43, 3) := by decide +kernel
theorem dX6_number_35 : decode cX6_number 35 = .ok (.aload_n 0, 1) := by decide +kernel
theorem dX6_number_36 : decode cX6_number 36 = .ok (.invokevirtual 68, 3) := by decide +kernel
theorem dX6_number_39 : decode cX6_number 39 = .ok (.bipush 57, 2) := by decide +kernel
theorem dX6_number_41 : decode cX6_number 41 = .ok (.if_icmp .gt 34, 3) := by decide +kernel
theorem dX6_number_44 : decode cX6_number 44 = .ok (.bipush 10, 2) := by decide +kernel
theorem dX6_number_46 : decode cX6_number 46 = .ok (.iload 4, 2) := by decide +kernel
theorem dX6_number_48 : decode cX6_number 48 = .ok (.imul, 1) := by decide +kernel
theorem dX6_number_49 : decode cX6_number 49 = .ok (.aload_n 0, 1) := by decide +kernel
theorem dX6_number_50 : decode cX6_number 50 = .ok (.invokevirtual 68, 3) := by decide +kernel
theorem dX6_number_53 : decode cX6_number 53 = .ok (.iadd, 1) := by decide +kernel
theorem dX6_number_54 : decode cX6_number 54 = .ok (.bipush 48, 2) := by decide +kernel
theorem dX6_number_56 : decode cX6_number 56 = .ok (.isub, 1) := by decide +kernel
theorem dX6_number_57 : decode cX6_number 57 = .ok (.istore 4, 2) := by decide +kernel
theorem dX6_number_59 : decode cX6_number 59 = .ok (.aload_n 0, 1) := by decide +kernel
theorem dX6_number_60 : decode cX6_number 60 = .ok (.dup, 1) := by decide +kernel
theorem dX6_number_61 : decode cX6_number 61 = .ok (.getfield 19, 3) := by decide +kernel
theorem dX6_number_64 : decode cX6_number 64 = .ok (.iconst 1, 1) := by decide +kernel
theorem dX6_number_65 : decode cX6_number 65 = .ok (.iadd, 1) := by decide +kernel
theorem dX6_number_66 : decode cX6_number 66 = .ok (.putfield 19, 3) := by decide +kernel
theorem dX6_number_69 : decode cX6_number 69 = .ok (.iinc 5 1, 3) := by decide +kernel
theorem dX6_number_72 : decode cX6_number 72 = .ok (.goto (-52), 3) := by decide +kernel
theorem dX6_number_75 : decode cX6_number 75 = .ok (.aload_n 0, 1) := by decide +kernel
theorem dX6_number_76 : decode cX6_number 76 = .ok (.getfield 19, 3) := by decide +kernel
theorem dX6_number_79 : decode cX6_number 79 = .ok (.iload_n 3, 1) := by decide +kernel
theorem dX6_number_80 : decode cX6_number 80 = .ok (.if_icmp .eq 15, 3) := by decide +kernel
theorem dX6_number_83 : decode cX6_number 83 = .ok (.iload 4, 2) := by decide +kernel
theorem dX6_number_85 : decode cX6_number 85 = .ok (.iload_n 1, 1) := by decide +kernel
theorem dX6_number_86 : decode cX6_number 86 = .ok (.if_icmp .lt 9, 3) := by decide +kernel
theorem dX6_number_89 : decode cX6_number 89 = .ok (.iload 4, 2) := by decide +kernel
theorem dX6_number_91 : decode cX6_number 91 = .ok (.iload_n 2, 1) := by decide +kernel
theorem dX6_number_92 : decode cX6_number 92 = .ok (.if_icmp .le 10, 3) := by decide +kernel
theorem dX6_number_95 : decode cX6_number 95 = .ok (.aload_n 0, 1) := by decide +kernel
theorem dX6_number_96 : decode cX6_number 96 = .ok (.iload_n 3, 1) := by decide +kernel
theorem dX6_number_97 : decode cX6_number 97 = .ok (.putfield 22, 3) := by decide +kernel
theorem dX6_number_100 : decode cX6_number 100 = .ok (.iconst 0, 1) := by decide +kernel
theorem dX6_number_101 : decode cX6_number 101 = .ok (.ireturn, 1) := by decide +kernel
theorem dX6_number_102 : decode cX6_number 102 = .ok (.iload 4, 2) := by decide +kernel
theorem dX6_number_104 : decode cX6_number 104 = .ok (.ireturn, 1) := by decide +kernel
theorem dX6_byteHere_0 : decode cX6_byteHere 0 = .ok (.aload_n 0, 1) := by decide +kernel
theorem dX6_byteHere_1 : decode cX6_byteHere 1 = .ok (.getfield 19, 3) := by decide +kernel
theorem dX6_byteHere_4 : decode cX6_byteHere 4 = .ok (.ifCond .lt 38, 3) := by decide +kernel
theorem dX6_byteHere_7 : decode cX6_byteHere 7 = .ok (.aload_n 0, 1) := by decide +kernel
theorem dX6_byteHere_8 : decode cX6_byteHere 8 = .ok (.getfield 19, 3) := by decide +kernel
theorem dX6_byteHere_11 : decode cX6_byteHere 11 = .ok (.aload_n 0, 1) := by decide +kernel
theorem dX6_byteHere_12 : decode cX6_byteHere 12 = .ok (.getfield 15, 3) := by decide +kernel
theorem dX6_byteHere_15 : decode cX6_byteHere 15 = .ok (.if_icmp .ge 27, 3) := by decide +kernel
theorem dX6_byteHere_18 : decode cX6_byteHere 18 = .ok (.aload_n 0, 1) := by decide +kernel
theorem dX6_byteHere_19 : decode cX6_byteHere 19 = .ok (.getfield 19, 3) := by decide +kernel
theorem dX6_byteHere_22 : decode cX6_byteHere 22 = .ok (.aload_n 0, 1) := by decide +kernel
theorem dX6_byteHere_23 : decode cX6_byteHere 23 = .ok (.getfield 9, 3) := by decide +kernel
theorem dX6_byteHere_26 : decode cX6_byteHere 26 = .ok (.arraylength, 1) := by decide +kernel
theorem dX6_byteHere_27 : decode cX6_byteHere 27 = .ok (.if_icmp .ge 15, 3) := by decide +kernel
theorem dX6_byteHere_30 : decode cX6_byteHere 30 = .ok (.aload_n 0, 1) := by decide +kernel
theorem dX6_byteHere_31 : decode cX6_byteHere 31 = .ok (.getfield 9, 3) := by decide +kernel
theorem dX6_byteHere_34 : decode cX6_byteHere 34 = .ok (.aload_n 0, 1) := by decide +kernel
theorem dX6_byteHere_35 : decode cX6_byteHere 35 = .ok (.getfield 19, 3) := by decide +kernel
theorem dX6_byteHere_38 : decode cX6_byteHere 38 = .ok (.iaload, 1) := by decide +kernel
theorem dX6_byteHere_39 : decode cX6_byteHere 39 = .ok (.goto 4, 3) := by decide +kernel
theorem dX6_byteHere_42 : decode cX6_byteHere 42 = .ok (.iconst (-1), 1) := by decide +kernel
theorem dX6_byteHere_43 : decode cX6_byteHere 43 = .ok (.ireturn, 1) := by decide +kernel
theorem dX7_init_0 : decode cX7_init 0 = .ok (.aload_n 0, 1) := by decide +kernel
theorem dX7_init_1 : decode cX7_init 1 = .ok (.invokespecial 3, 3) := by decide +kernel
theorem dX7_init_4 : decode cX7_init 4 = .ok (.aload_n 0, 1) := by decide +kernel
theorem dX7_init_5 : decode cX7_init 5 = .ok (.bipush 24, 2) := by decide +kernel
theorem dX7_init_7 : decode cX7_init 7 = .ok (.newarray .int, 2) := by decide +kernel
theorem dX7_init_9 : decode cX7_init 9 = .ok (.putfield 9, 3) := by decide +kernel
theorem dX7_init_12 : decode cX7_init 12 = .ok (.aload_n 0, 1) := by decide +kernel
theorem dX7_init_13 : decode cX7_init 13 = .ok (.bipush 24, 2) := by decide +kernel
theorem dX7_init_15 : decode cX7_init 15 = .ok (.newarray .int, 2) := by decide +kernel
theorem dX7_init_17 : decode cX7_init 17 = .ok (.putfield 15, 3) := by decide +kernel
theorem dX7_init_20 : decode cX7_init 20 = .ok (.return_, 1) := by decide +kernel
theorem dX7_begin_0 : decode cX7_begin 0 = .ok (.aload_n 0, 1) := by decide +kernel
theorem dX7_begin_1 : decode cX7_begin 1 = .ok (.iload_n 1, 1) := by decide +kernel
theorem dX7_begin_2 : decode cX7_begin 2 = .ok (.putfield 18, 3) := by decide +kernel
theorem dX7_begin_5 : decode cX7_begin 5 = .ok (.aload_n 0, 1) := by decide +kernel
theorem dX7_begin_6 : decode cX7_begin 6 = .ok (.iload_n 2, 1) := by decide +kernel
theorem dX7_begin_7 : decode cX7_begin 7 = .ok (.putfield 22, 3) := by decide +kernel
theorem dX7_begin_10 : decode cX7_begin 10 = .ok (.aload_n 0, 1) := by decide +kernel
theorem dX7_begin_11 : decode cX7_begin 11 = .ok (.iconst 0, 1) := by decide +kernel
theorem dX7_begin_12 : decode cX7_begin 12 = .ok (.putfield 25, 3) := by decide +kernel
theorem dX7_begin_15 : decode cX7_begin 15 = .ok (.aload_n 0, 1) := by decide +kernel
theorem dX7_begin_16 : decode cX7_begin 16 = .ok (.iconst (-1), 1) := by decide +kernel
theorem dX7_begin_17 : decode cX7_begin 17 = .ok (.putfield 28, 3) := by decide +kernel
theorem dX7_begin_20 : decode cX7_begin 20 = .ok (.aload_n 0, 1) := by decide +kernel
theorem dX7_begin_21 : decode cX7_begin 21 = .ok (.iconst (-1), 1) := by decide +kernel
theorem dX7_begin_22 : decode cX7_begin 22 = .ok (.putfield 31, 3) := by decide +kernel
theorem dX7_begin_25 : decode cX7_begin 25 = .ok (.aload_n 0, 1) := by decide +kernel
theorem dX7_begin_26 : decode cX7_begin 26 = .ok (.iconst (-1), 1) := by decide +kernel
theorem dX7_begin_27 : decode cX7_begin 27 = .ok (.putfield 34, 3) := by decide +kernel
theorem dX7_begin_30 : decode cX7_begin 30 = .ok (.return_, 1) := by decide +kernel
theorem dX7_addClause_0 : decode cX7_addClause 0 = .ok (.aload_n 0, 1) := by decide +kernel
theorem dX7_addClause_1 : decode cX7_addClause 1 = .ok (.getfield 25, 3) := by decide +kernel
theorem dX7_addClause_4 : decode cX7_addClause 4 = .ok (.bipush 24, 2) := by decide +kernel
theorem dX7_addClause_6 : decode cX7_addClause 6 = .ok (.if_icmp .ge 33, 3) := by decide +kernel
theorem dX7_addClause_9 : decode cX7_addClause 9 = .ok (.aload_n 0, 1) := by decide +kernel
theorem dX7_addClause_10 : decode cX7_addClause 10 = .ok (.getfield 9, 3) := by decide +kernel
theorem dX7_addClause_13 : decode cX7_addClause 13 = .ok (.aload_n 0, 1) := by decide +kernel
theorem dX7_addClause_14 : decode cX7_addClause 14 = .ok (.getfield 25, 3) := by decide +kernel
theorem dX7_addClause_17 : decode cX7_addClause 17 = .ok (.iload_n 1, 1) := by decide +kernel
theorem dX7_addClause_18 : decode cX7_addClause 18 = .ok (.iastore, 1) := by decide +kernel
theorem dX7_addClause_19 : decode cX7_addClause 19 = .ok (.aload_n 0, 1) := by decide +kernel
theorem dX7_addClause_20 : decode cX7_addClause 20 = .ok (.getfield 15, 3) := by decide +kernel
theorem dX7_addClause_23 : decode cX7_addClause 23 = .ok (.aload_n 0, 1) := by decide +kernel
theorem dX7_addClause_24 : decode cX7_addClause 24 = .ok (.getfield 25, 3) := by decide +kernel
theorem dX7_addClause_27 : decode cX7_addClause 27 = .ok (.iload_n 2, 1) := by decide +kernel
theorem dX7_addClause_28 : decode cX7_addClause 28 = .ok (.iastore, 1) := by decide +kernel
theorem dX7_addClause_29 : decode cX7_addClause 29 = .ok (.aload_n 0, 1) := by decide +kernel
theorem dX7_addClause_30 : decode cX7_addClause 30 = .ok (.dup, 1) := by decide +kernel
theorem dX7_addClause_31 : decode cX7_addClause 31 = .ok (.getfield 25, 3) := by decide +kernel
theorem dX7_addClause_34 : decode cX7_addClause 34 = .ok (.iconst 1, 1) := by decide +kernel
theorem dX7_addClause_35 : decode cX7_addClause 35 = .ok (.iadd, 1) := by decide +kernel
theorem dX7_addClause_36 : decode cX7_addClause 36 = .ok (.putfield 25, 3) := by decide +kernel
theorem dX7_addClause_39 : decode cX7_addClause 39 = .ok (.return_, 1) := by decide +kernel
theorem dX7_rows_0 : decode cX7_rows 0 = .ok (.iconst 1, 1) := by decide +kernel
theorem dX7_rows_1 : decode cX7_rows 1 = .ok (.aload_n 0, 1) := by decide +kernel
theorem dX7_rows_2 : decode cX7_rows 2 = .ok (.getfield 22, 3) := by decide +kernel
theorem dX7_rows_5 : decode cX7_rows 5 = .ok (.ishl, 1) := by decide +kernel
theorem dX7_rows_6 : decode cX7_rows 6 = .ok (.ireturn, 1) := by decide +kernel
set_option maxRecDepth 20000 in
theorem ggX7_trueOnes_J6_bitCount_0f7a4 : GoodIn wsX7_trueOnes wsJ6_bitCount_0f7a4 := goodIn_r _ [6, 7, 8, 9] (by decide +kernel) (by decide +kernel)
set_option maxRecDepth 20000 in
theorem gX7_trueOnes_J6_bitCount_0f7a4 : GoodIn wsX7_trueOnes (va_wsS RX7 37 yJ6_bitCount_0f7a4 wsJ6_bitCount_0f7a4) := goodIn_app (goodIn_of _ (by decide +kernel)) ggX7_trueOnes_J6_bitCount_0f7a4
theorem dX7_trueOnes_0 : decode cX7_trueOnes 0 = .ok (.aload_n 0, 1) := by decide +kernel
theorem dX7_trueOnes_1 : decode cX7_trueOnes 1 = .ok (.getfield 9, 3) := by decide +kernel
theorem dX7_trueOnes_4 : decode cX7_trueOnes 4 = .ok (.iload_n 1, 1) := by decide +kernel
theorem dX7_trueOnes_5 : decode cX7_trueOnes 5 = .ok (.iaload, 1) := by decide +kernel
theorem dX7_trueOnes_6 : decode cX7_trueOnes 6 = .ok (.iload_n 2, 1) := by decide +kernel
theorem dX7_trueOnes_7 : decode cX7_trueOnes 7 = .ok (.iand, 1) := by decide +kernel
theorem dX7_trueOnes_8 : decode cX7_trueOnes 8 = .ok (.aload_n 0, 1) := by decide +kernel
theorem dX7_trueOnes_9 : decode cX7_trueOnes 9 = .ok (.getfield 15, 3) := by decide +kernel
theorem dX7_trueOnes_12 : decode cX7_trueOnes 12 = .ok (.iload_n 1, 1) := by decide +kernel
theorem dX7_trueOnes_13 : decode cX7_trueOnes 13 = .ok (.iaload, 1) := by decide +kernel
theorem dX7_trueOnes_14 : decode cX7_trueOnes 14 = .ok (.iload_n 2, 1) := by decide +kernel
theorem dX7_trueOnes_15 : decode cX7_trueOnes 15 = .ok (.iconst (-1), 1) := by decide +kernel
theorem dX7_trueOnes_16 : decode cX7_trueOnes 16 = .ok (.ixor, 1) := by decide +kernel
theorem dX7_trueOnes_17 : decode cX7_trueOnes 17 = .ok (.iand, 1) := by decide +kernel
theorem dX7_trueOnes_18 : decode cX7_trueOnes 18 = .ok (.ior, 1) := by decide +kernel
theorem dX7_trueOnes_19 : decode cX7_trueOnes 19 = .ok (.invokestatic 37, 3) := by decide +kernel
theorem dX7_trueOnes_22 : decode cX7_trueOnes 22 = .ok (.ireturn, 1) := by decide +kernel
set_option maxRecDepth 20000 in
theorem ggX7_width_J6_bitCount_0f7a4 : GoodIn wsX7_width wsJ6_bitCount_0f7a4 := goodIn_r _ [6, 7, 8, 9] (by decide +kernel) (by decide +kernel)
set_option maxRecDepth 20000 in
theorem gX7_width_J6_bitCount_0f7a4 : GoodIn wsX7_width (va_wsS RX7 37 yJ6_bitCount_0f7a4 wsJ6_bitCount_0f7a4) := goodIn_app (goodIn_of _ (by decide +kernel)) ggX7_width_J6_bitCount_0f7a4
theorem dX7_width_0 : decode cX7_width 0 = .ok (.aload_n 0, 1) := by decide +kernel
theorem dX7_width_1 : decode cX7_width 1 = .ok (.getfield 9, 3) := by decide +kernel
theorem dX7_width_4 : decode cX7_width 4 = .ok (.iload_n 1, 1) := by decide +kernel
theorem dX7_width_5 : decode cX7_width 5 = .ok (.iaload, 1) := by decide +kernel
theorem dX7_width_6 : decode cX7_width 6 = .ok (.aload_n 0, 1) := by decide +kernel
theorem dX7_width_7 : decode cX7_width 7 = .ok (.getfield 15, 3) := by decide +kernel
theorem dX7_width_10 : decode cX7_width 10 = .ok (.iload_n 1, 1) := by decide +kernel
theorem dX7_width_11 : decode cX7_width 11 = .ok (.iaload, 1) := by decide +kernel
theorem dX7_width_12 : decode cX7_width 12 = .ok (.ior, 1) := by decide +kernel
theorem dX7_width_13 : decode cX7_width 13 = .ok (.invokestatic 37, 3) := by decide +kernel
theorem dX7_width_16 : decode cX7_width 16 = .ok (.ireturn, 1) := by decide +kernel
set_option maxRecDepth 20000 in
theorem ggX7_holds_X7_trueOnes : GoodIn wsX7_holds wsX7_trueOnes := goodIn_r _ [6, 7, 8, 9, 10, 11, 12, 13, 14, 15, 24, 25, 26, 27, 28, 29, 30, 31] (by decide +kernel) (by decide +kernel)
set_option maxRecDepth 20000 in
theorem gX7_holds_X7_trueOnes : GoodIn wsX7_holds (wsV RX7 43 RX7 yX7_trueOnes wsX7_trueOnes) := goodIn_app (goodIn_of _ (by decide +kernel)) ggX7_holds_X7_trueOnes
set_option maxRecDepth 20000 in
theorem ggX7_holds_X7_width : GoodIn wsX7_holds wsX7_width := goodIn_r _ [19, 7, 8, 9, 10, 11, 12, 13, 14, 15, 24, 25, 26, 27, 28, 29, 30, 31] (by decide +kernel) (by decide +kernel)
set_option maxRecDepth 20000 in
theorem gX7_holds_X7_width : GoodIn wsX7_holds (wsV RX7 47 RX7 yX7_width wsX7_width) := goodIn_app (goodIn_of _ (by decide +kernel)) ggX7_holds_X7_width
set_option maxRecDepth 20000 in
theorem ggX7_holds_X2_holds : GoodIn wsX7_holds wsX2_holds := goodIn_r _ [23] (by decide +kernel) (by decide +kernel)
set_option maxRecDepth 20000 in
theorem gX7_holds_X2_holds : GoodIn wsX7_holds (va_wsS RX7 50 yX2_holds wsX2_holds) := goodIn_app (goodIn_of _ (by decide +kernel)) ggX7_holds_X2_holds
theorem dX7_holds_0 : decode cX7_holds 0 = .ok (.aload_n 0, 1) := by decide +kernel
theorem dX7_holds_1 : decode cX7_holds 1 = .ok (.getfield 18, 3) := by decide +kernel
theorem dX7_holds_4 : decode cX7_holds 4 = .ok (.aload_n 0, 1) := by decide +kernel
theorem dX7_holds_5 : decode cX7_holds 5 = .ok (.iload_n 1, 1) := by decide +kernel
theorem dX7_holds_6 : decode cX7_holds 6 = .ok (.iload_n 2, 1) := by decide +kernel
theorem dX7_holds_7 : decode cX7_holds 7 = .ok (.invokevirtual 43, 3) := by decide +kernel
theorem dX7_holds_10 : decode cX7_holds 10 = .ok (.aload_n 0, 1) := by decide +kernel
theorem dX7_holds_11 : decode cX7_holds 11 = .ok (.iload_n 1, 1) := by decide +kernel
theorem dX7_holds_12 : decode cX7_holds 12 = .ok (.invokevirtual 47, 3) := by decide +kernel
theorem dX7_holds_15 : decode cX7_holds 15 = .ok (.invokestatic 50, 3) := by decide +kernel
theorem dX7_holds_18 : decode cX7_holds 18 = .ok (.ireturn, 1) := by decide +kernel
set_option maxRecDepth 20000 in
theorem ggX7_brokenFrom_X7_holds : GoodIn wsX7_brokenFrom wsX7_holds := goodIn_r _ [6, 7, 8, 9, 10, 5, 11, 12, 13, 14, 15, 16, 17, 18, 19, 20, 21, 22, 23, 24, 25, 26, 27, 28, 29, 30, 31, 32, 33, 34, 35, 36] (by decide +kernel) (by decide +kernel)
set_option maxRecDepth 20000 in
theorem gX7_brokenFrom_X7_holds : GoodIn wsX7_brokenFrom (wsV RX7 56 RX7 yX7_holds wsX7_holds) := goodIn_app (goodIn_of _ (by decide +kernel)) ggX7_brokenFrom_X7_holds
theorem dX7_brokenFrom_0 : decode cX7_brokenFrom 0 = .ok (.iload_n 1, 1) := by decide +kernel
theorem dX7_brokenFrom_1 : decode cX7_brokenFrom 1 = .ok (.istore_n 3, 1) := by decide +kernel
theorem dX7_brokenFrom_2 : decode cX7_brokenFrom 2 = .ok (.iload_n 3, 1) := by decide +kernel
theorem dX7_brokenFrom_3 : decode cX7_brokenFrom 3 = .ok (.aload_n 0, 1) := by decide +kernel
theorem dX7_brokenFrom_4 : decode cX7_brokenFrom 4 = .ok (.getfield 25, 3) := by decide +kernel
theorem dX7_brokenFrom_7 : decode cX7_brokenFrom 7 = .ok (.if_icmp .ge 20, 3) := by decide +kernel
theorem dX7_brokenFrom_10 : decode cX7_brokenFrom 10 = .ok (.aload_n 0, 1) := by decide +kernel
theorem dX7_brokenFrom_11 : decode cX7_brokenFrom 11 = .ok (.iload_n 3, 1) := by decide +kernel
theorem dX7_brokenFrom_12 : decode cX7_brokenFrom 12 = .ok (.iload_n 2, 1) := by decide +kernel
theorem dX7_brokenFrom_13 : decode cX7_brokenFrom 13 = .ok (.invokevirtual 56, 3) := by decide +kernel
theorem dX7_brokenFrom_16 : decode cX7_brokenFrom 16 = .ok (.ifCond .ne 5, 3) := by decide +kernel
theorem dX7_brokenFrom_19 : decode cX7_brokenFrom 19 = .ok (.iload_n 3, 1) := by decide +kernel
theorem dX7_brokenFrom_20 : decode cX7_brokenFrom 20 = .ok (.ireturn, 1) := by decide +kernel
theorem dX7_brokenFrom_21 : decode cX7_brokenFrom 21 = .ok (.iinc 3 1, 3) := by decide +kernel
theorem dX7_brokenFrom_24 : decode cX7_brokenFrom 24 = .ok (.goto (-22), 3) := by decide +kernel
theorem dX7_brokenFrom_27 : decode cX7_brokenFrom 27 = .ok (.iconst (-1), 1) := by decide +kernel
theorem dX7_brokenFrom_28 : decode cX7_brokenFrom 28 = .ok (.ireturn, 1) := by decide +kernel
set_option maxRecDepth 20000 in
theorem ggX7_isSolvedBy_X7_brokenFrom : GoodIn wsX7_isSolvedBy wsX7_brokenFrom := goodIn_r _ [5, 6, 7, 8, 9, 4, 10, 11, 12, 13, 14, 15, 16, 17, 18, 19, 20, 21, 22, 23, 24, 25, 26, 27, 28, 29, 30, 31, 32, 33, 34, 35, 36, 37, 38, 39, 40] (by decide +kernel) (by decide +kernel)
set_option maxRecDepth 20000 in
theorem gX7_isSolvedBy_X7_brokenFrom : GoodIn wsX7_isSolvedBy (wsV RX7 59 RX7 yX7_brokenFrom wsX7_brokenFrom) := goodIn_app (goodIn_of _ (by decide +kernel)) ggX7_isSolvedBy_X7_brokenFrom
theorem dX7_isSolvedBy_0 : decode cX7_isSolvedBy 0 = .ok (.aload_n 0, 1) := by decide +kernel
theorem dX7_isSolvedBy_1 : decode cX7_isSolvedBy 1 = .ok (.iconst 0, 1) := by decide +kernel
theorem dX7_isSolvedBy_2 : decode cX7_isSolvedBy 2 = .ok (.iload_n 1, 1) := by decide +kernel
theorem dX7_isSolvedBy_3 : decode cX7_isSolvedBy 3 = .ok (.invokevirtual 59, 3) := by decide +kernel
theorem dX7_isSolvedBy_6 : decode cX7_isSolvedBy 6 = .ok (.ifCond .ge 7, 3) := by decide +kernel
theorem dX7_isSolvedBy_9 : decode cX7_isSolvedBy 9 = .ok (.iconst 1, 1) := by decide +kernel
theorem dX7_isSolvedBy_10 : decode cX7_isSolvedBy 10 = .ok (.goto 4, 3) := by decide +kernel
theorem dX7_isSolvedBy_13 : decode cX7_isSolvedBy 13 = .ok (.iconst 0, 1) := by decide +kernel
theorem dX7_isSolvedBy_14 : decode cX7_isSolvedBy 14 = .ok (.ireturn, 1) := by decide +kernel
set_option maxRecDepth 20000 in
theorem ggX7_holdsSoFar_X7_holds : GoodIn wsX7_holdsSoFar wsX7_holds := goodIn_r _ [8, 9, 10, 11, 12, 7, 13, 2, 3, 14, 15, 16, 17, 18, 19, 20, 21, 22, 23, 24, 25, 26, 27, 28, 29, 30, 31, 32, 33, 34, 35, 36] (by decide +kernel) (by decide +kernel)
set_option maxRecDepth 20000 in
theorem gX7_holdsSoFar_X7_holds : GoodIn wsX7_holdsSoFar (wsV RX7 56 RX7 yX7_holds wsX7_holds) := goodIn_app (goodIn_of _ (by decide +kernel)) ggX7_holdsSoFar_X7_holds
theorem dX7_holdsSoFar_0 : decode cX7_holdsSoFar 0 = .ok (.iconst 1, 1) := by decide +kernel
theorem dX7_holdsSoFar_1 : decode cX7_holdsSoFar 1 = .ok (.iload_n 1, 1) := by decide +kernel
theorem dX7_holdsSoFar_2 : decode cX7_holdsSoFar 2 = .ok (.ishl, 1) := by decide +kernel
theorem dX7_holdsSoFar_3 : decode cX7_holdsSoFar 3 = .ok (.iconst 1, 1) := by decide +kernel
theorem dX7_holdsSoFar_4 : decode cX7_holdsSoFar 4 = .ok (.isub, 1) := by decide +kernel
theorem dX7_holdsSoFar_5 : decode cX7_holdsSoFar 5 = .ok (.iconst (-1), 1) := by decide +kernel
theorem dX7_holdsSoFar_6 : decode cX7_holdsSoFar 6 = .ok (.ixor, 1) := by decide +kernel
theorem dX7_holdsSoFar_7 : decode cX7_holdsSoFar 7 = .ok (.istore_n 3, 1) := by decide +kernel
theorem dX7_holdsSoFar_8 : decode cX7_holdsSoFar 8 = .ok (.iconst 0, 1) := by decide +kernel
theorem dX7_holdsSoFar_9 : decode cX7_holdsSoFar 9 = .ok (.istore 4, 2) := by decide +kernel
theorem dX7_holdsSoFar_11 : decode cX7_holdsSoFar 11 = .ok (.iload 4, 2) := by decide +kernel
theorem dX7_holdsSoFar_13 : decode cX7_holdsSoFar 13 = .ok (.aload_n 0, 1) := by decide +kernel
theorem dX7_holdsSoFar_14 : decode cX7_holdsSoFar 14 = .ok (.getfield 25, 3) := by decide +kernel
theorem dX7_holdsSoFar_17 : decode cX7_holdsSoFar 17 = .ok (.if_icmp .ge 41, 3) := by decide +kernel
theorem dX7_holdsSoFar_20 : decode cX7_holdsSoFar 20 = .ok (.aload_n 0, 1) := by decide +kernel
theorem dX7_holdsSoFar_21 : decode cX7_holdsSoFar 21 = .ok (.getfield 9, 3) := by decide +kernel
theorem dX7_holdsSoFar_24 : decode cX7_holdsSoFar 24 = .ok (.iload 4, 2) := by decide +kernel
theorem dX7_holdsSoFar_26 : decode cX7_holdsSoFar 26 = .ok (.iaload, 1) := by decide +kernel
theorem dX7_holdsSoFar_27 : decode cX7_holdsSoFar 27 = .ok (.aload_n 0, 1) := by decide +kernel
theorem dX7_holdsSoFar_28 : decode cX7_holdsSoFar 28 = .ok (.getfield 15, 3) := by decide +kernel
theorem dX7_holdsSoFar_31 : decode cX7_holdsSoFar 31 = .ok (.iload 4, 2) := by decide +kernel
theorem dX7_holdsSoFar_33 : decode cX7_holdsSoFar 33 = .ok (.iaload, 1) := by decide +kernel
theorem dX7_holdsSoFar_34 : decode cX7_holdsSoFar 34 = .ok (.ior, 1) := by decide +kernel
theorem dX7_holdsSoFar_35 : decode cX7_holdsSoFar 35 = .ok (.iload_n 3, 1) := by decide +kernel
theorem dX7_holdsSoFar_36 : decode cX7_holdsSoFar 36 = .ok (.iand, 1) := by decide +kernel
theorem dX7_holdsSoFar_37 : decode cX7_holdsSoFar 37 = .ok (.ifCond .ne 15, 3) := by decide +kernel
theorem dX7_holdsSoFar_40 : decode cX7_holdsSoFar 40 = .ok (.aload_n 0, 1) := by decide +kernel
theorem dX7_holdsSoFar_41 : decode cX7_holdsSoFar 41 = .ok (.iload 4, 2) := by decide +kernel
theorem dX7_holdsSoFar_43 : decode cX7_holdsSoFar 43 = .ok (.iload_n 2, 1) := by decide +kernel
theorem dX7_holdsSoFar_44 : decode cX7_holdsSoFar 44 = .ok (.invokevirtual 56, 3) := by decide +kernel
theorem dX7_holdsSoFar_47 : decode cX7_holdsSoFar 47 = .ok (.ifCond .ne 5, 3) := by decide +kernel
theorem dX7_holdsSoFar_50 : decode cX7_holdsSoFar 50 = .ok (.iconst 0, 1) := by decide +kernel
theorem dX7_holdsSoFar_51 : decode cX7_holdsSoFar 51 = .ok (.ireturn, 1) := by decide +kernel
theorem dX7_holdsSoFar_52 : decode cX7_holdsSoFar 52 = .ok (.iinc 4 1, 3) := by decide +kernel
theorem dX7_holdsSoFar_55 : decode cX7_holdsSoFar 55 = .ok (.goto (-44), 3) := by decide +kernel
theorem dX7_holdsSoFar_58 : decode cX7_holdsSoFar 58 = .ok (.iconst 1, 1) := by decide +kernel
theorem dX7_holdsSoFar_59 : decode cX7_holdsSoFar 59 = .ok (.ireturn, 1) := by decide +kernel
set_option maxRecDepth 20000 in
theorem ggX7_countAnswers_X7_rows : GoodIn wsX7_countAnswers wsX7_rows := goodIn_r _ [5, 6, 42, 43, 44, 45, 46, 47, 48, 49] (by decide +kernel) (by decide +kernel)
set_option maxRecDepth 20000 in
theorem gX7_countAnswers_X7_rows : GoodIn wsX7_countAnswers (wsV RX7 62 RX7 yX7_rows wsX7_rows) := goodIn_app (goodIn_of _ (by decide +kernel)) ggX7_countAnswers_X7_rows
set_option maxRecDepth 20000 in
theorem ggX7_countAnswers_X7_isSolvedBy : GoodIn wsX7_countAnswers wsX7_isSolvedBy := goodIn_r _ [10, 11, 12, 13, 4, 14, 15, 16, 17, 18, 19, 20, 21, 22, 23, 24, 25, 26, 27, 28, 29, 30, 31, 32, 33, 34, 35, 36, 37, 38, 39, 40, 41, 42, 43, 44, 45, 46, 47, 48, 49] (by decide +kernel) (by decide +kernel)
set_option maxRecDepth 20000 in
theorem gX7_countAnswers_X7_isSolvedBy : GoodIn wsX7_countAnswers (wsV RX7 66 RX7 yX7_isSolvedBy wsX7_isSolvedBy) := goodIn_app (goodIn_of _ (by decide +kernel)) ggX7_countAnswers_X7_isSolvedBy
theorem dX7_countAnswers_0 : decode cX7_countAnswers 0 = .ok (.iconst 0, 1) := by decide +kernel
theorem dX7_countAnswers_1 : decode cX7_countAnswers 1 = .ok (.istore_n 3, 1) := by decide +kernel
theorem dX7_countAnswers_2 : decode cX7_countAnswers 2 = .ok (.iconst 0, 1) := by decide +kernel
theorem dX7_countAnswers_3 : decode cX7_countAnswers 3 = .ok (.istore 4, 2) := by decide +kernel
theorem dX7_countAnswers_5 : decode cX7_countAnswers 5 = .ok (.iload 4, 2) := by decide +kernel
theorem dX7_countAnswers_7 : decode cX7_countAnswers 7 = .ok (.aload_n 0, 1) := by decide +kernel
theorem dX7_countAnswers_8 : decode cX7_countAnswers 8 = .ok (.invokevirtual 62, 3) := by decide +kernel
theorem dX7_countAnswers_11 : decode cX7_countAnswers 11 = .ok (.if_icmp .ge 29, 3) := by decide +kernel
theorem dX7_countAnswers_14 : decode cX7_countAnswers 14 = .ok (.iload 4, 2) := by decide +kernel
theorem dX7_countAnswers_16 : decode cX7_countAnswers 16 = .ok (.iload_n 1, 1) := by decide +kernel
theorem dX7_countAnswers_17 : decode cX7_countAnswers 17 = .ok (.iand, 1) := by decide +kernel
theorem dX7_countAnswers_18 : decode cX7_countAnswers 18 = .ok (.iload_n 2, 1) := by decide +kernel
theorem dX7_countAnswers_19 : decode cX7_countAnswers 19 = .ok (.if_icmp .ne 15, 3) := by decide +kernel
theorem dX7_countAnswers_22 : decode cX7_countAnswers 22 = .ok (.aload_n 0, 1) := by decide +kernel
theorem dX7_countAnswers_23 : decode cX7_countAnswers 23 = .ok (.iload 4, 2) := by decide +kernel
theorem dX7_countAnswers_25 : decode cX7_countAnswers 25 = .ok (.invokevirtual 66, 3) := by decide +kernel
theorem dX7_countAnswers_28 : decode cX7_countAnswers 28 = .ok (.ifCond .eq 6, 3) := by decide +kernel
theorem dX7_countAnswers_31 : decode cX7_countAnswers 31 = .ok (.iinc 3 1, 3) := by decide +kernel
theorem dX7_countAnswers_34 : decode cX7_countAnswers 34 = .ok (.iinc 4 1, 3) := by decide +kernel
theorem dX7_countAnswers_37 : decode cX7_countAnswers 37 = .ok (.goto (-32), 3) := by decide +kernel
theorem dX7_countAnswers_40 : decode cX7_countAnswers 40 = .ok (.iload_n 3, 1) := by decide +kernel
theorem dX7_countAnswers_41 : decode cX7_countAnswers 41 = .ok (.ireturn, 1) := by decide +kernel
set_option maxRecDepth 20000 in
theorem ggX7_tallyAnswers_J7_fill_53178 : GoodIn wsX7_tallyAnswers wsJ7_fill_53178 := goodIn_r _ [5] (by decide +kernel) (by decide +kernel)
set_option maxRecDepth 20000 in
theorem gX7_tallyAnswers_J7_fill_53178 : GoodIn wsX7_tallyAnswers (va_wsS RX7 70 yJ7_fill_53178 wsJ7_fill_53178) := goodIn_app (goodIn_of _ (by decide +kernel)) ggX7_tallyAnswers_J7_fill_53178
set_option maxRecDepth 20000 in
theorem ggX7_tallyAnswers_X7_rows : GoodIn wsX7_tallyAnswers wsX7_rows := goodIn_r _ [10, 1, 46, 47, 48, 49, 50, 51, 52, 53] (by decide +kernel) (by decide +kernel)
set_option maxRecDepth 20000 in
theorem gX7_tallyAnswers_X7_rows : GoodIn wsX7_tallyAnswers (wsV RX7 62 RX7 yX7_rows wsX7_rows) := goodIn_app (goodIn_of _ (by decide +kernel)) ggX7_tallyAnswers_X7_rows
set_option maxRecDepth 20000 in
theorem ggX7_tallyAnswers_X7_isSolvedBy : GoodIn wsX7_tallyAnswers wsX7_isSolvedBy := goodIn_r _ [14, 15, 16, 17, 9, 18, 19, 20, 21, 22, 23, 24, 25, 26, 27, 28, 29, 30, 31, 32, 33, 34, 35, 36, 37, 38, 39, 40, 41, 42, 43, 44, 45, 46, 47, 48, 49, 50, 51, 52, 53] (by decide +kernel) (by decide +kernel)
set_option maxRecDepth 20000 in
theorem gX7_tallyAnswers_X7_isSolvedBy : GoodIn wsX7_tallyAnswers (wsV RX7 66 RX7 yX7_isSolvedBy wsX7_isSolvedBy) := goodIn_app (goodIn_of _ (by decide +kernel)) ggX7_tallyAnswers_X7_isSolvedBy
theorem dX7_tallyAnswers_0 : decode cX7_tallyAnswers 0 = .ok (.aload_n 1, 1) := by decide +kernel
theorem dX7_tallyAnswers_1 : decode cX7_tallyAnswers 1 = .ok (.iconst 0, 1) := by decide +kernel
theorem dX7_tallyAnswers_2 : decode cX7_tallyAnswers 2 = .ok (.invokestatic 70, 3) := by decide +kernel
theorem dX7_tallyAnswers_5 : decode cX7_tallyAnswers 5 = .ok (.iconst 0, 1) := by decide +kernel
theorem dX7_tallyAnswers_6 : decode cX7_tallyAnswers 6 = .ok (.istore_n 2, 1) := by decide +kernel
theorem dX7_tallyAnswers_7 : decode cX7_tallyAnswers 7 = .ok (.iconst 0, 1) := by decide +kernel
theorem dX7_tallyAnswers_8 : decode cX7_tallyAnswers 8 = .ok (.istore_n 3, 1) := by decide +kernel
theorem dX7_tallyAnswers_9 : decode cX7_tallyAnswers 9 = .ok (.iload_n 3, 1) := by decide +kernel
theorem dX7_tallyAnswers_10 : decode cX7_tallyAnswers 10 = .ok (.aload_n 0, 1) := by decide +kernel
theorem dX7_tallyAnswers_11 : decode cX7_tallyAnswers 11 = .ok (.invokevirtual 62, 3) := by decide +kernel
theorem dX7_tallyAnswers_14 : decode cX7_tallyAnswers 14 = .ok (.if_icmp .ge 58, 3) := by decide +kernel
theorem dX7_tallyAnswers_17 : decode cX7_tallyAnswers 17 = .ok (.aload_n 0, 1) := by decide +kernel
theorem dX7_tallyAnswers_18 : decode cX7_tallyAnswers 18 = .ok (.iload_n 3, 1) := by decide +kernel
theorem dX7_tallyAnswers_19 : decode cX7_tallyAnswers 19 = .ok (.invokevirtual 66, 3) := by decide +kernel
theorem dX7_tallyAnswers_22 : decode cX7_tallyAnswers 22 = .ok (.ifCond .eq 44, 3) := by decide +kernel
theorem dX7_tallyAnswers_25 : decode cX7_tallyAnswers 25 = .ok (.iinc 2 1, 3) := by decide +kernel
theorem dX7_tallyAnswers_28 : decode cX7_tallyAnswers 28 = .ok (.iconst 0, 1) := by decide +kernel
theorem dX7_tallyAnswers_29 : decode cX7_tallyAnswers 29 = .ok (.istore 4, 2) := by decide +kernel
theorem dX7_tallyAnswers_31 : decode cX7_tallyAnswers 31 = .ok (.iload 4, 2) := by decide +kernel
theorem dX7_tallyAnswers_33 : decode cX7_tallyAnswers 33 = .ok (.aload_n 0, 1) := by decide +kernel
theorem dX7_tallyAnswers_34 : decode cX7_tallyAnswers 34 = .ok (.getfield 22, 3) := by decide +kernel
theorem dX7_tallyAnswers_37 : decode cX7_tallyAnswers 37 = .ok (.if_icmp .ge 29, 3) := by decide +kernel
theorem dX7_tallyAnswers_40 : decode cX7_tallyAnswers 40 = .ok (.iload 4, 2) := by decide +kernel
theorem dX7_tallyAnswers_42 : decode cX7_tallyAnswers 42 = .ok (.aload_n 1, 1) := by decide +kernel
theorem dX7_tallyAnswers_43 : decode cX7_tallyAnswers 43 = .ok (.arraylength, 1) := by decide +kernel
theorem dX7_tallyAnswers_44 : decode cX7_tallyAnswers 44 = .ok (.if_icmp .ge 22, 3) := by decide +kernel
theorem dX7_tallyAnswers_47 : decode cX7_tallyAnswers 47 = .ok (.aload_n 1, 1) := by decide +kernel
theorem dX7_tallyAnswers_48 : decode cX7_tallyAnswers 48 = .ok (.iload 4, 2) := by decide +kernel
theorem dX7_tallyAnswers_50 : decode cX7_tallyAnswers 50 = .ok (.dup2, 1) := by decide +kernel
theorem dX7_tallyAnswers_51 : decode cX7_tallyAnswers 51 = .ok (.iaload, 1) := by decide +kernel
theorem dX7_tallyAnswers_52 : decode cX7_tallyAnswers 52 = .ok (.iload_n 3, 1) := by decide +kernel
theorem dX7_tallyAnswers_53 : decode cX7_tallyAnswers 53 = .ok (.iload 4, 2) := by decide +kernel
theorem dX7_tallyAnswers_55 : decode cX7_tallyAnswers 55 = .ok (.ishr, 1) := by decide +kernel
theorem dX7_tallyAnswers_56 : decode cX7_tallyAnswers 56 = .ok (.iconst 1, 1) := by decide +kernel
theorem dX7_tallyAnswers_57 : decode cX7_tallyAnswers 57 = .ok (.iand, 1) := by decide +kernel
theorem dX7_tallyAnswers_58 : decode cX7_tallyAnswers 58 = .ok (.iadd, 1) := by decide +kernel
theorem dX7_tallyAnswers_59 : decode cX7_tallyAnswers 59 = .ok (.iastore, 1) := by decide +kernel
theorem dX7_tallyAnswers_60 : decode cX7_tallyAnswers 60 = .ok (.iinc 4 1, 3) := by decide +kernel
theorem dX7_tallyAnswers_63 : decode cX7_tallyAnswers 63 = .ok (.goto (-32), 3) := by decide +kernel
theorem dX7_tallyAnswers_66 : decode cX7_tallyAnswers 66 = .ok (.iinc 3 1, 3) := by decide +kernel
theorem dX7_tallyAnswers_69 : decode cX7_tallyAnswers 69 = .ok (.goto (-60), 3) := by decide +kernel
theorem dX7_tallyAnswers_72 : decode cX7_tallyAnswers 72 = .ok (.iload_n 2, 1) := by decide +kernel
theorem dX7_tallyAnswers_73 : decode cX7_tallyAnswers 73 = .ok (.ireturn, 1) := by decide +kernel
theorem dX7_excess_0 : decode cX7_excess 0 = .ok (.iconst 0, 1) := by decide +kernel
theorem dX7_excess_1 : decode cX7_excess 1 = .ok (.istore_n 2, 1) := by decide +kernel
theorem dX7_excess_2 : decode cX7_excess 2 = .ok (.iconst 0, 1) := by decide +kernel
theorem dX7_excess_3 : decode cX7_excess 3 = .ok (.istore_n 3, 1) := by decide +kernel
theorem dX7_excess_4 : decode cX7_excess 4 = .ok (.iload_n 3, 1) := by decide +kernel
theorem dX7_excess_5 : decode cX7_excess 5 = .ok (.aload_n 0, 1) := by decide +kernel
theorem dX7_excess_6 : decode cX7_excess 6 = .ok (.getfield 25, 3) := by decide +kernel
theorem dX7_excess_9 : decode cX7_excess 9 = .ok (.if_icmp .ge 33, 3) := by decide +kernel
theorem dX7_excess_12 : decode cX7_excess 12 = .ok (.iload_n 2, 1) := by decide +kernel
theorem dX7_excess_13 : decode cX7_excess 13 = .ok (.aload_n 0, 1) := by decide +kernel
theorem dX7_excess_14 : decode cX7_excess 14 = .ok (.getfield 9, 3) := by decide +kernel
theorem dX7_excess_17 : decode cX7_excess 17 = .ok (.iload_n 3, 1) := by decide +kernel
theorem dX7_excess_18 : decode cX7_excess 18 = .ok (.iaload, 1) := by decide +kernel
theorem dX7_excess_19 : decode cX7_excess 19 = .ok (.iload_n 1, 1) := by decide +kernel
theorem dX7_excess_20 : decode cX7_excess 20 = .ok (.ishr, 1) := by decide +kernel
theorem dX7_excess_21 : decode cX7_excess 21 = .ok (.iconst 1, 1) := by decide +kernel
theorem dX7_excess_22 : decode cX7_excess 22 = .ok (.iand, 1) := by decide +kernel
theorem dX7_excess_23 : decode cX7_excess 23 = .ok (.aload_n 0, 1) := by decide +kernel
theorem dX7_excess_24 : decode cX7_excess 24 = .ok (.getfield 15, 3) := by decide +kernel
theorem dX7_excess_27 : decode cX7_excess 27 = .ok (.iload_n 3, 1) := by decide +kernel
theorem dX7_excess_28 : decode cX7_excess 28 = .ok (.iaload, 1) := by decide +kernel
theorem dX7_excess_29 : decode cX7_excess 29 = .ok (.iload_n 1, 1) := by decide +kernel
theorem dX7_excess_30 : decode cX7_excess 30 = .ok (.ishr, 1) := by decide +kernel
theorem dX7_excess_31 : decode cX7_excess 31 = .ok (.iconst 1, 1) := by decide +kernel
theorem dX7_excess_32 : decode cX7_excess 32 = .ok (.iand, 1) := by decide +kernel
theorem dX7_excess_33 : decode cX7_excess 33 = .ok (.isub, 1) := by decide +kernel
theorem dX7_excess_34 : decode cX7_excess 34 = .ok (.iadd, 1) := by decide +kernel
theorem dX7_excess_35 : decode cX7_excess 35 = .ok (.istore_n 2, 1) := by decide +kernel
theorem dX7_excess_36 : decode cX7_excess 36 = .ok (.iinc 3 1, 3) := by decide +kernel
theorem dX7_excess_39 : decode cX7_excess 39 = .ok (.goto (-35), 3) := by decide +kernel
theorem dX7_excess_42 : decode cX7_excess 42 = .ok (.iload_n 2, 1) := by decide +kernel
theorem dX7_excess_43 : decode cX7_excess 43 = .ok (.ireturn, 1) := by decide +kernel
set_option maxRecDepth 20000 in
theorem ggX7_countsRow_X7_excess : GoodIn wsX7_countsRow wsX7_excess := goodIn_r _ [6, 7, 8, 9, 10, 11, 12, 13, 14, 15, 16, 17] (by decide +kernel) (by decide +kernel)
set_option maxRecDepth 20000 in
theorem gX7_countsRow_X7_excess : GoodIn wsX7_countsRow (wsV RX7 76 RX7 yX7_excess wsX7_excess) := goodIn_app (goodIn_of _ (by decide +kernel)) ggX7_countsRow_X7_excess
theorem dX7_countsRow_0 : decode cX7_countsRow 0 = .ok (.iconst 0, 1) := by decide +kernel
theorem dX7_countsRow_1 : decode cX7_countsRow 1 = .ok (.istore_n 1, 1) := by decide +kernel
theorem dX7_countsRow_2 : decode cX7_countsRow 2 = .ok (.iconst 0, 1) := by decide +kernel
theorem dX7_countsRow_3 : decode cX7_countsRow 3 = .ok (.istore_n 2, 1) := by decide +kernel
theorem dX7_countsRow_4 : decode cX7_countsRow 4 = .ok (.iload_n 2, 1) := by decide +kernel
theorem dX7_countsRow_5 : decode cX7_countsRow 5 = .ok (.aload_n 0, 1) := by decide +kernel
theorem dX7_countsRow_6 : decode cX7_countsRow 6 = .ok (.getfield 22, 3) := by decide +kernel
theorem dX7_countsRow_9 : decode cX7_countsRow 9 = .ok (.if_icmp .ge 23, 3) := by decide +kernel
theorem dX7_countsRow_12 : decode cX7_countsRow 12 = .ok (.aload_n 0, 1) := by decide +kernel
theorem dX7_countsRow_13 : decode cX7_countsRow 13 = .ok (.iload_n 2, 1) := by decide +kernel
theorem dX7_countsRow_14 : decode cX7_countsRow 14 = .ok (.invokevirtual 76, 3) := by decide +kernel
theorem dX7_countsRow_17 : decode cX7_countsRow 17 = .ok (.ifCond .le 9, 3) := by decide +kernel
theorem dX7_countsRow_20 : decode cX7_countsRow 20 = .ok (.iload_n 1, 1) := by decide +kernel
theorem dX7_countsRow_21 : decode cX7_countsRow 21 = .ok (.iconst 1, 1) := by decide +kernel
theorem dX7_countsRow_22 : decode cX7_countsRow 22 = .ok (.iload_n 2, 1) := by decide +kernel
theorem dX7_countsRow_23 : decode cX7_countsRow 23 = .ok (.ishl, 1) := by decide +kernel
theorem dX7_countsRow_24 : decode cX7_countsRow 24 = .ok (.ior, 1) := by decide +kernel
theorem dX7_countsRow_25 : decode cX7_countsRow 25 = .ok (.istore_n 1, 1) := by decide +kernel
theorem dX7_countsRow_26 : decode cX7_countsRow 26 = .ok (.iinc 2 1, 3) := by decide +kernel
theorem dX7_countsRow_29 : decode cX7_countsRow 29 = .ok (.goto (-25), 3) := by decide +kernel
theorem dX7_countsRow_32 : decode cX7_countsRow 32 = .ok (.iload_n 1, 1) := by decide +kernel
theorem dX7_countsRow_33 : decode cX7_countsRow 33 = .ok (.ireturn, 1) := by decide +kernel
set_option maxRecDepth 20000 in
theorem ggX7_sign_X7_excess : GoodIn wsX7_sign wsX7_excess := goodIn_r _ [6, 7, 8, 9, 10, 11, 12, 13, 14, 15, 16, 17] (by decide +kernel) (by decide +kernel)
set_option maxRecDepth 20000 in
theorem gX7_sign_X7_excess : GoodIn wsX7_sign (wsV RX7 76 RX7 yX7_excess wsX7_excess) := goodIn_app (goodIn_of _ (by decide +kernel)) ggX7_sign_X7_excess
theorem dX7_sign_0 : decode cX7_sign 0 = .ok (.iconst 0, 1) := by decide +kernel
theorem dX7_sign_1 : decode cX7_sign 1 = .ok (.istore_n 1, 1) := by decide +kernel
theorem dX7_sign_2 : decode cX7_sign 2 = .ok (.iconst 0, 1) := by decide +kernel
theorem dX7_sign_3 : decode cX7_sign 3 = .ok (.istore_n 2, 1) := by decide +kernel
theorem dX7_sign_4 : decode cX7_sign 4 = .ok (.iload_n 2, 1) := by decide +kernel
theorem dX7_sign_5 : decode cX7_sign 5 = .ok (.aload_n 0, 1) := by decide +kernel
theorem dX7_sign_6 : decode cX7_sign 6 = .ok (.getfield 22, 3) := by decide +kernel
theorem dX7_sign_9 : decode cX7_sign 9 = .ok (.if_icmp .ge 21, 3) := by decide +kernel
theorem dX7_sign_12 : decode cX7_sign 12 = .ok (.aload_n 0, 1) := by decide +kernel
theorem dX7_sign_13 : decode cX7_sign 13 = .ok (.iload_n 2, 1) := by decide +kernel
theorem dX7_sign_14 : decode cX7_sign 14 = .ok (.invokevirtual 76, 3) := by decide +kernel
theorem dX7_sign_17 : decode cX7_sign 17 = .ok (.istore_n 3, 1) := by decide +kernel
theorem dX7_sign_18 : decode cX7_sign 18 = .ok (.iload_n 1, 1) := by decide +kernel
theorem dX7_sign_19 : decode cX7_sign 19 = .ok (.iload_n 3, 1) := by decide +kernel
theorem dX7_sign_20 : decode cX7_sign 20 = .ok (.iload_n 3, 1) := by decide +kernel
theorem dX7_sign_21 : decode cX7_sign 21 = .ok (.imul, 1) := by decide +kernel
theorem dX7_sign_22 : decode cX7_sign 22 = .ok (.iadd, 1) := by decide +kernel
theorem dX7_sign_23 : decode cX7_sign 23 = .ok (.istore_n 1, 1) := by decide +kernel
theorem dX7_sign_24 : decode cX7_sign 24 = .ok (.iinc 2 1, 3) := by decide +kernel
theorem dX7_sign_27 : decode cX7_sign 27 = .ok (.goto (-23), 3) := by decide +kernel
theorem dX7_sign_30 : decode cX7_sign 30 = .ok (.iload_n 1, 1) := by decide +kernel
theorem dX7_sign_31 : decode cX7_sign 31 = .ok (.ireturn, 1) := by decide +kernel
set_option maxRecDepth 20000 in
theorem ggX7_gainByTurning_X7_width : GoodIn wsX7_gainByTurning wsX7_width := goodIn_r _ [9, 2, 3, 10, 11, 12, 13, 14, 15, 16, 28, 29, 30, 31, 32, 33, 34, 35] (by decide +kernel) (by decide +kernel)
set_option maxRecDepth 20000 in
theorem gX7_gainByTurning_X7_width : GoodIn wsX7_gainByTurning (wsV RX7 47 RX7 yX7_width wsX7_width) := goodIn_app (goodIn_of _ (by decide +kernel)) ggX7_gainByTurning_X7_width
set_option maxRecDepth 20000 in
theorem ggX7_gainByTurning_X7_trueOnes : GoodIn wsX7_gainByTurning wsX7_trueOnes := goodIn_r _ [20, 2, 3, 10, 11, 12, 13, 14, 15, 16, 28, 29, 30, 31, 32, 33, 34, 35] (by decide +kernel) (by decide +kernel)
set_option maxRecDepth 20000 in
theorem gX7_gainByTurning_X7_trueOnes : GoodIn wsX7_gainByTurning (wsV RX7 43 RX7 yX7_trueOnes wsX7_trueOnes) := goodIn_app (goodIn_of _ (by decide +kernel)) ggX7_gainByTurning_X7_trueOnes
set_option maxRecDepth 20000 in
theorem ggX7_gainByTurning_X2_worth : GoodIn wsX7_gainByTurning wsX2_worth := goodIn_r _ [24, 25, 26, 23, 27] (by decide +kernel) (by decide +kernel)
set_option maxRecDepth 20000 in
theorem gX7_gainByTurning_X2_worth : GoodIn wsX7_gainByTurning (va_wsS RX7 79 yX2_worth wsX2_worth) := goodIn_app (goodIn_of _ (by decide +kernel)) ggX7_gainByTurning_X2_worth
theorem dX7_gainByTurning_0 : decode cX7_gainByTurning 0 = .ok (.iconst 1, 1) := by decide +kernel
theorem dX7_gainByTurning_1 : decode cX7_gainByTurning 1 = .ok (.iload_n 1, 1) := by decide +kernel
theorem dX7_gainByTurning_2 : decode cX7_gainByTurning 2 = .ok (.ishl, 1) := by decide +kernel
theorem dX7_gainByTurning_3 : decode cX7_gainByTurning 3 = .ok (.istore_n 3, 1) := by decide +kernel
theorem dX7_gainByTurning_4 : decode cX7_gainByTurning 4 = .ok (.iconst 0, 1) := by decide +kernel
theorem dX7_gainByTurning_5 : decode cX7_gainByTurning 5 = .ok (.istore 4, 2) := by decide +kernel
theorem dX7_gainByTurning_7 : decode cX7_gainByTurning 7 = .ok (.iconst 0, 1) := by decide +kernel
theorem dX7_gainByTurning_8 : decode cX7_gainByTurning 8 = .ok (.istore 5, 2) := by decide +kernel
theorem dX7_gainByTurning_10 : decode cX7_gainByTurning 10 = .ok (.iload 5, 2) := by decide +kernel
theorem dX7_gainByTurning_12 : decode cX7_gainByTurning 12 = .ok (.aload_n 0, 1) := by decide +kernel
theorem dX7_gainByTurning_13 : decode cX7_gainByTurning 13 = .ok (.getfield 25, 3) := by decide +kernel
theorem dX7_gainByTurning_16 : decode cX7_gainByTurning 16 = .ok (.if_icmp .ge 77, 3) := by decide +kernel
theorem dX7_gainByTurning_19 : decode cX7_gainByTurning 19 = .ok (.aload_n 0, 1) := by decide +kernel
theorem dX7_gainByTurning_20 : decode cX7_gainByTurning 20 = .ok (.getfield 9, 3) := by decide +kernel
theorem dX7_gainByTurning_23 : decode cX7_gainByTurning 23 = .ok (.iload 5, 2) := by decide +kernel
theorem dX7_gainByTurning_25 : decode cX7_gainByTurning 25 = .ok (.iaload, 1) := by decide +kernel
theorem dX7_gainByTurning_26 : decode cX7_gainByTurning 26 = .ok (.aload_n 0, 1) := by decide +kernel
theorem dX7_gainByTurning_27 : decode cX7_gainByTurning 27 = .ok (.getfield 15, 3) := by decide +kernel
theorem dX7_gainByTurning_30 : decode cX7_gainByTurning 30 = .ok (.iload 5, 2) := by decide +kernel
theorem dX7_gainByTurning_32 : decode cX7_gainByTurning 32 = .ok (.iaload, 1) := by decide +kernel
theorem dX7_gainByTurning_33 : decode cX7_gainByTurning 33 = .ok (.ior, 1) := by decide +kernel
theorem dX7_gainByTurning_34 : decode cX7_gainByTurning 34 = .ok (.iload_n 3, 1) := by decide +kernel
theorem dX7_gainByTurning_35 : decode cX7_gainByTurning 35 = .ok (.iand, 1) := by decide +kernel
theorem dX7_gainByTurning_36 : decode cX7_gainByTurning 36 = .ok (.ifCond .eq 51, 3) := by decide +kernel
theorem dX7_gainByTurning_39 : decode cX7_gainByTurning 39 = .ok (.aload_n 0, 1) := by decide +kernel
theorem dX7_gainByTurning_40 : decode cX7_gainByTurning 40 = .ok (.iload 5, 2) := by decide +kernel
theorem dX7_gainByTurning_42 : decode cX7_gainByTurning 42 = .ok (.invokevirtual 47, 3) := by decide +kernel
theorem dX7_gainByTurning_45 : decode cX7_gainByTurning 45 = .ok (.istore 6, 2) := by decide +kernel
theorem dX7_gainByTurning_47 : decode cX7_gainByTurning 47 = .ok (.iload 4, 2) := by decide +kernel
theorem dX7_gainByTurning_49 : decode cX7_gainByTurning 49 = .ok (.aload_n 0, 1) := by decide +kernel
theorem dX7_gainByTurning_50 : decode cX7_gainByTurning 50 = .ok (.getfield 18, 3) := by decide +kernel
theorem dX7_gainByTurning_53 : decode cX7_gainByTurning 53 = .ok (.aload_n 0, 1) := by decide +kernel
theorem dX7_gainByTurning_54 : decode cX7_gainByTurning 54 = .ok (.iload 5, 2) := by decide +kernel
theorem dX7_gainByTurning_56 : decode cX7_gainByTurning 56 = .ok (.iload_n 2, 1) := by decide +kernel
theorem dX7_gainByTurning_57 : decode cX7_gainByTurning 57 = .ok (.iload_n 3, 1) := by decide +kernel
theorem dX7_gainByTurning_58 : decode cX7_gainByTurning 58 = .ok (.ixor, 1) := by decide +kernel
theorem dX7_gainByTurning_59 : decode cX7_gainByTurning 59 = .ok (.invokevirtual 43, 3) := by decide +kernel
theorem dX7_gainByTurning_62 : decode cX7_gainByTurning 62 = .ok (.iload 6, 2) := by decide +kernel
theorem dX7_gainByTurning_64 : decode cX7_gainByTurning 64 = .ok (.invokestatic 79, 3) := by decide +kernel
theorem dX7_gainByTurning_67 : decode cX7_gainByTurning 67 = .ok (.aload_n 0, 1) := by decide +kernel
theorem dX7_gainByTurning_68 : decode cX7_gainByTurning 68 = .ok (.getfield 18, 3) := by decide +kernel
theorem dX7_gainByTurning_71 : decode cX7_gainByTurning 71 = .ok (.aload_n 0, 1) := by decide +kernel
theorem dX7_gainByTurning_72 : decode cX7_gainByTurning 72 = .ok (.iload 5, 2) := by decide +kernel
theorem dX7_gainByTurning_74 : decode cX7_gainByTurning 74 = .ok (.iload_n 2, 1) := by decide +kernel
theorem dX7_gainByTurning_75 : decode cX7_gainByTurning 75 = .ok (.invokevirtual 43, 3) := by decide +kernel
theorem dX7_gainByTurning_78 : decode cX7_gainByTurning 78 = .ok (.iload 6, 2) := by decide +kernel
theorem dX7_gainByTurning_80 : decode cX7_gainByTurning 80 = .ok (.invokestatic 79, 3) := by decide +kernel
theorem dX7_gainByTurning_83 : decode cX7_gainByTurning 83 = .ok (.isub, 1) := by decide +kernel
theorem dX7_gainByTurning_84 : decode cX7_gainByTurning 84 = .ok (.iadd, 1) := by decide +kernel
theorem dX7_gainByTurning_85 : decode cX7_gainByTurning 85 = .ok (.istore 4, 2) := by decide +kernel
theorem dX7_gainByTurning_87 : decode cX7_gainByTurning 87 = .ok (.iinc 5 1, 3) := by decide +kernel
theorem dX7_gainByTurning_90 : decode cX7_gainByTurning 90 = .ok (.goto (-80), 3) := by decide +kernel
theorem dX7_gainByTurning_93 : decode cX7_gainByTurning 93 = .ok (.iload 4, 2) := by decide +kernel
theorem dX7_gainByTurning_95 : decode cX7_gainByTurning 95 = .ok (.ireturn, 1) := by decide +kernel
set_option maxRecDepth 20000 in
theorem ggX8_init_X6_init : GoodIn wsX8_init wsX6_init := goodIn_r _ [40, 41, 2, 3, 20, 42, 72, 73, 74, 75] (by decide +kernel) (by decide +kernel)
set_option maxRecDepth 20000 in
theorem gX8_init_X6_init : GoodIn wsX8_init (wsX6_init) := ggX8_init_X6_init
set_option maxRecDepth 20000 in
theorem ggX8_init_X3_init : GoodIn wsX8_init wsX3_init := goodIn_r _ [45, 46, 2, 3] (by decide +kernel) (by decide +kernel)
set_option maxRecDepth 20000 in
theorem gX8_init_X3_init : GoodIn wsX8_init (wsX3_init) := ggX8_init_X3_init
set_option maxRecDepth 20000 in
theorem ggX8_init_X1_init : GoodIn wsX8_init wsX1_init := goodIn_r _ [49, 50, 2, 3] (by decide +kernel) (by decide +kernel)
set_option maxRecDepth 20000 in
theorem gX8_init_X1_init : GoodIn wsX8_init (wsX1_init) := ggX8_init_X1_init
set_option maxRecDepth 20000 in
theorem ggX8_init_X7_init : GoodIn wsX8_init wsX7_init := goodIn_r _ [53, 54, 2, 3, 20, 55, 56, 94, 95, 96, 97, 98, 99, 100, 101] (by decide +kernel) (by decide +kernel)
set_option maxRecDepth 20000 in
theorem gX8_init_X7_init : GoodIn wsX8_init (wsX7_init) := ggX8_init_X7_init
set_option maxRecDepth 20000 in
theorem ggX8_init_X4_init : GoodIn wsX8_init wsX4_init := goodIn_r _ [59, 60, 2, 3, 20, 61, 102, 103, 104, 105, 106] (by decide +kernel) (by decide +kernel)
set_option maxRecDepth 20000 in
theorem gX8_init_X4_init : GoodIn wsX8_init (wsX4_init) := ggX8_init_X4_init
set_option maxRecDepth 20000 in
theorem ggX8_init_X0_init : GoodIn wsX8_init wsX0_init := goodIn_r _ [64, 65, 2, 3] (by decide +kernel) (by decide +kernel)
set_option maxRecDepth 20000 in
theorem gX8_init_X0_init : GoodIn wsX8_init (wsX0_init) := ggX8_init_X0_init
set_option maxRecDepth 20000 in
theorem ggX8_init_X5_init : GoodIn wsX8_init wsX5_init := goodIn_r _ [68, 69, 2, 3, 70, 20, 71, 111, 112, 113] (by decide +kernel) (by decide +kernel)
set_option maxRecDepth 20000 in
theorem gX8_init_X5_init : GoodIn wsX8_init (wsX5_init) := ggX8_init_X5_init
theorem dX8_init_0 : decode cX8_init 0 = .ok (.aload_n 0, 1) := by decide +kernel
theorem dX8_init_1 : decode cX8_init 1 = .ok (.invokespecial 1, 3) := by decide +kernel
theorem dX8_init_4 : decode cX8_init 4 = .ok (.aload_n 0, 1) := by decide +kernel
theorem dX8_init_5 : decode cX8_init 5 = .ok (.new 7, 3) := by decide +kernel
theorem dX8_init_8 : decode cX8_init 8 = .ok (.dup, 1) := by decide +kernel
theorem dX8_init_9 : decode cX8_init 9 = .ok (.invokespecial 9, 3) := by decide +kernel
theorem dX8_init_12 : decode cX8_init 12 = .ok (.putfield 10, 3) := by decide +kernel
theorem dX8_init_15 : decode cX8_init 15 = .ok (.aload_n 0, 1) := by decide +kernel
theorem dX8_init_16 : decode cX8_init 16 = .ok (.new 16, 3) := by decide +kernel
theorem dX8_init_19 : decode cX8_init 19 = .ok (.dup, 1) := by decide +kernel
theorem dX8_init_20 : decode cX8_init 20 = .ok (.invokespecial 18, 3) := by decide +kernel
theorem dX8_init_23 : decode cX8_init 23 = .ok (.putfield 19, 3) := by decide +kernel
theorem dX8_init_26 : decode cX8_init 26 = .ok (.aload_n 0, 1) := by decide +kernel
theorem dX8_init_27 : decode cX8_init 27 = .ok (.new 23, 3) := by decide +kernel
theorem dX8_init_30 : decode cX8_init 30 = .ok (.dup, 1) := by decide +kernel
theorem dX8_init_31 : decode cX8_init 31 = .ok (.invokespecial 25, 3) := by decide +kernel
theorem dX8_init_34 : decode cX8_init 34 = .ok (.putfield 26, 3) := by decide +kernel
theorem dX8_init_37 : decode cX8_init 37 = .ok (.aload_n 0, 1) := by decide +kernel
theorem dX8_init_38 : decode cX8_init 38 = .ok (.new 30, 3) := by decide +kernel
theorem dX8_init_41 : decode cX8_init 41 = .ok (.dup, 1) := by decide +kernel
theorem dX8_init_42 : decode cX8_init 42 = .ok (.invokespecial 32, 3) := by decide +kernel
theorem dX8_init_45 : decode cX8_init 45 = .ok (.putfield 33, 3) := by decide +kernel
theorem dX8_init_48 : decode cX8_init 48 = .ok (.aload_n 0, 1) := by decide +kernel
theorem dX8_init_49 : decode cX8_init 49 = .ok (.bipush 24, 2) := by decide +kernel
theorem dX8_init_51 : decode cX8_init 51 = .ok (.newarray .int, 2) := by decide +kernel
theorem dX8_init_53 : decode cX8_init 53 = .ok (.putfield 37, 3) := by decide +kernel
theorem dX8_init_56 : decode cX8_init 56 = .ok (.aload_n 0, 1) := by decide +kernel
theorem dX8_init_57 : decode cX8_init 57 = .ok (.bipush 24, 2) := by decide +kernel
theorem dX8_init_59 : decode cX8_init 59 = .ok (.newarray .int, 2) := by decide +kernel
theorem dX8_init_61 : decode cX8_init 61 = .ok (.putfield 41, 3) := by decide +kernel
theorem dX8_init_64 : decode cX8_init 64 = .ok (.aload_n 0, 1) := by decide +kernel
theorem dX8_init_65 : decode cX8_init 65 = .ok (.bipush 10, 2) := by decide +kernel
theorem dX8_init_67 : decode cX8_init 67 = .ok (.newarray .int, 2) := by decide +kernel
theorem dX8_init_69 : decode cX8_init 69 = .ok (.putfield 44, 3) := by decide +kernel
theorem dX8_init_72 : decode cX8_init 72 = .ok (.aload_n 0, 1) := by decide +kernel
theorem dX8_init_73 : decode cX8_init 73 = .ok (.bipush 6, 2) := by decide +kernel
theorem dX8_init_75 : decode cX8_init 75 = .ok (.anewarray 47, 3) := by decide +kernel
theorem dX8_init_78 : decode cX8_init 78 = .ok (.putfield 49, 3) := by decide +kernel
theorem dX8_init_81 : decode cX8_init 81 = .ok (.iconst 0, 1) := by decide +kernel
theorem dX8_init_82 : decode cX8_init 82 = .ok (.istore_n 1, 1) := by decide +kernel
theorem dX8_init_83 : decode cX8_init 83 = .ok (.iload_n 1, 1) := by decide +kernel
theorem dX8_init_84 : decode cX8_init 84 = .ok (.bipush 6, 2) := by decide +kernel
theorem dX8_init_86 : decode cX8_init 86 = .ok (.if_icmp .ge 22, 3) := by decide +kernel
theorem dX8_init_89 : decode cX8_init 89 = .ok (.aload_n 0, 1) := by decide +kernel
theorem dX8_init_90 : decode cX8_init 90 = .ok (.getfield 49, 3) := by decide +kernel
theorem dX8_init_93 : decode cX8_init 93 = .ok (.iload_n 1, 1) := by decide +kernel
theorem dX8_init_94 : decode cX8_init 94 = .ok (.new 47, 3) := by decide +kernel
theorem dX8_init_97 : decode cX8_init 97 = .ok (.dup, 1) := by decide +kernel
theorem dX8_init_98 : decode cX8_init 98 = .ok (.invokespecial 53, 3) := by decide +kernel
theorem dX8_init_101 : decode cX8_init 101 = .ok (.aastore, 1) := by decide +kernel
theorem dX8_init_102 : decode cX8_init 102 = .ok (.iinc 1 1, 3) := by decide +kernel
theorem dX8_init_105 : decode cX8_init 105 = .ok (.goto (-22), 3) := by decide +kernel
theorem dX8_init_108 : decode cX8_init 108 = .ok (.aload_n 0, 1) := by decide +kernel
theorem dX8_init_109 : decode cX8_init 109 = .ok (.bipush 8, 2) := by decide +kernel
theorem dX8_init_111 : decode cX8_init 111 = .ok (.anewarray 30, 3) := by decide +kernel
theorem dX8_init_114 : decode cX8_init 114 = .ok (.putfield 54, 3) := by decide +kernel
theorem dX8_init_117 : decode cX8_init 117 = .ok (.iconst 0, 1) := by decide +kernel
theorem dX8_init_118 : decode cX8_init 118 = .ok (.istore_n 1, 1) := by decide +kernel
theorem dX8_init_119 : decode cX8_init 119 = .ok (.iload_n 1, 1) := by decide +kernel
theorem dX8_init_120 : decode cX8_init 120 = .ok (.bipush 8, 2) := by decide +kernel
theorem dX8_init_122 : decode cX8_init 122 = .ok (.if_icmp .ge 22, 3) := by decide +kernel
theorem dX8_init_125 : decode cX8_init 125 = .ok (.aload_n 0, 1) := by decide +kernel
theorem dX8_init_126 : decode cX8_init 126 = .ok (.getfield 54, 3) := by decide +kernel
theorem dX8_init_129 : decode cX8_init 129 = .ok (.iload_n 1, 1) := by decide +kernel
theorem dX8_init_130 : decode cX8_init 130 = .ok (.new 30, 3) := by decide +kernel
theorem dX8_init_133 : decode cX8_init 133 = .ok (.dup, 1) := by decide +kernel
theorem dX8_init_134 : decode cX8_init 134 = .ok (.invokespecial 32, 3) := by decide +kernel
theorem dX8_init_137 : decode cX8_init 137 = .ok (.aastore, 1) := by decide +kernel
theorem dX8_init_138 : decode cX8_init 138 = .ok (.iinc 1 1, 3) := by decide +kernel
theorem dX8_init_141 : decode cX8_init 141 = .ok (.goto (-22), 3) := by decide +kernel
theorem dX8_init_144 : decode cX8_init 144 = .ok (.aload_n 0, 1) := by decide +kernel
theorem dX8_init_145 : decode cX8_init 145 = .ok (.bipush 20, 2) := by decide +kernel
theorem dX8_init_147 : decode cX8_init 147 = .ok (.anewarray 58, 3) := by decide +kernel
theorem dX8_init_150 : decode cX8_init 150 = .ok (.putfield 60, 3) := by decide +kernel
theorem dX8_init_153 : decode cX8_init 153 = .ok (.iconst 0, 1) := by decide +kernel
theorem dX8_init_154 : decode cX8_init 154 = .ok (.istore_n 1, 1) := by decide +kernel
theorem dX8_init_155 : decode cX8_init 155 = .ok (.iload_n 1, 1) := by decide +kernel
theorem dX8_init_156 : decode cX8_init 156 = .ok (.bipush 20, 2) := by decide +kernel
theorem dX8_init_158 : decode cX8_init 158 = .ok (.if_icmp .ge 22, 3) := by decide +kernel
theorem dX8_init_161 : decode cX8_init 161 = .ok (.aload_n 0, 1) := by decide +kernel
theorem dX8_init_162 : decode cX8_init 162 = .ok (.getfield 60, 3) := by decide +kernel
theorem dX8_init_165 : decode cX8_init 165 = .ok (.iload_n 1, 1) := by decide +kernel
theorem dX8_init_166 : decode cX8_init 166 = .ok (.new 58, 3) := by decide +kernel
theorem dX8_init_169 : decode cX8_init 169 = .ok (.dup, 1) := by decide +kernel
theorem dX8_init_170 : decode cX8_init 170 = .ok (.invokespecial 64, 3) := by decide +kernel
theorem dX8_init_173 : decode cX8_init 173 = .ok (.aastore, 1) := by decide +kernel
theorem dX8_init_174 : decode cX8_init 174 = .ok (.iinc 1 1, 3) := by decide +kernel
theorem dX8_init_177 : decode cX8_init 177 = .ok (.goto (-22), 3) := by decide +kernel
theorem dX8_init_180 : decode cX8_init 180 = .ok (.aload_n 0, 1) := by decide +kernel
theorem dX8_init_181 : decode cX8_init 181 = .ok (.iconst 4, 1) := by decide +kernel
theorem dX8_init_182 : decode cX8_init 182 = .ok (.anewarray 65, 3) := by decide +kernel
theorem dX8_init_185 : decode cX8_init 185 = .ok (.putfield 67, 3) := by decide +kernel
theorem dX8_init_188 : decode cX8_init 188 = .ok (.iconst 0, 1) := by decide +kernel
theorem dX8_init_189 : decode cX8_init 189 = .ok (.istore_n 1, 1) := by decide +kernel
theorem dX8_init_190 : decode cX8_init 190 = .ok (.iload_n 1, 1) := by decide +kernel
theorem dX8_init_191 : decode cX8_init 191 = .ok (.iconst 4, 1) := by decide +kernel
theorem dX8_init_192 : decode cX8_init 192 = .ok (.if_icmp .ge 22, 3) := by decide +kernel
theorem dX8_init_195 : decode cX8_init 195 = .ok (.aload_n 0, 1) := by decide +kernel
theorem dX8_init_196 : decode cX8_init 196 = .ok (.getfield 67, 3) := by decide +kernel
theorem dX8_init_199 : decode cX8_init 199 = .ok (.iload_n 1, 1) := by decide +kernel
theorem dX8_init_200 : decode cX8_init 200 = .ok (.new 65, 3) := by decide +kernel
theorem dX8_init_203 : decode cX8_init 203 = .ok (.dup, 1) := by decide +kernel
theorem dX8_init_204 : decode cX8_init 204 = .ok (.invokespecial 71, 3) := by decide +kernel
theorem dX8_init_207 : decode cX8_init 207 = .ok (.aastore, 1) := by decide +kernel
theorem dX8_init_208 : decode cX8_init 208 = .ok (.iinc 1 1, 3) := by decide +kernel
theorem dX8_init_211 : decode cX8_init 211 = .ok (.goto (-21), 3) := by decide +kernel
theorem dX8_init_214 : decode cX8_init 214 = .ok (.aload_n 0, 1) := by decide +kernel
theorem dX8_init_215 : decode cX8_init 215 = .ok (.iconst (-1), 1) := by decide +kernel
theorem dX8_init_216 : decode cX8_init 216 = .ok (.putfield 72, 3) := by decide +kernel
theorem dX8_init_219 : decode cX8_init 219 = .ok (.return_, 1) := by decide +kernel
set_option maxRecDepth 20000 in
theorem ggX8_feed_X6_put : GoodIn wsX8_feed wsX6_put := goodIn_r _ [7, 8, 9, 25, 26, 27, 28] (by decide +kernel) (by decide +kernel)
set_option maxRecDepth 20000 in
theorem gX8_feed_X6_put : GoodIn wsX8_feed (wsV RX8 79 RX6 yX6_put wsX6_put) := goodIn_app (goodIn_of _ (by decide +kernel)) ggX8_feed_X6_put
theorem dX8_feed_0 : decode cX8_feed 0 = .ok (.iload_n 3, 1) := by decide +kernel
theorem dX8_feed_1 : decode cX8_feed 1 = .ok (.iconst 1, 1) := by decide +kernel
theorem dX8_feed_2 : decode cX8_feed 2 = .ok (.if_icmp .lt 9, 3) := by decide +kernel
theorem dX8_feed_5 : decode cX8_feed 5 = .ok (.iload_n 3, 1) := by decide +kernel
theorem dX8_feed_6 : decode cX8_feed 6 = .ok (.bipush 8, 2) := by decide +kernel
theorem dX8_feed_8 : decode cX8_feed 8 = .ok (.if_icmp .le 6, 3) := by decide +kernel
theorem dX8_feed_11 : decode cX8_feed 11 = .ok (.bipush (-2), 2) := by decide +kernel
theorem dX8_feed_13 : decode cX8_feed 13 = .ok (.ireturn, 1) := by decide +kernel
theorem dX8_feed_14 : decode cX8_feed 14 = .ok (.aload_n 0, 1) := by decide +kernel
theorem dX8_feed_15 : decode cX8_feed 15 = .ok (.getfield 10, 3) := by decide +kernel
theorem dX8_feed_18 : decode cX8_feed 18 = .ok (.getfield 76, 3) := by decide +kernel
theorem dX8_feed_21 : decode cX8_feed 21 = .ok (.iload_n 3, 1) := by decide +kernel
theorem dX8_feed_22 : decode cX8_feed 22 = .ok (.iadd, 1) := by decide +kernel
theorem dX8_feed_23 : decode cX8_feed 23 = .ok (.bipush 80, 2) := by decide +kernel
theorem dX8_feed_25 : decode cX8_feed 25 = .ok (.if_icmp .le 6, 3) := by decide +kernel
theorem dX8_feed_28 : decode cX8_feed 28 = .ok (.bipush (-4), 2) := by decide +kernel
theorem dX8_feed_30 : decode cX8_feed 30 = .ok (.ireturn, 1) := by decide +kernel
theorem dX8_feed_31 : decode cX8_feed 31 = .ok (.iload_n 3, 1) := by decide +kernel
theorem dX8_feed_32 : decode cX8_feed 32 = .ok (.iconst 1, 1) := by decide +kernel
theorem dX8_feed_33 : decode cX8_feed 33 = .ok (.isub, 1) := by decide +kernel
theorem dX8_feed_34 : decode cX8_feed 34 = .ok (.istore 4, 2) := by decide +kernel
theorem dX8_feed_36 : decode cX8_feed 36 = .ok (.iload 4, 2) := by decide +kernel
theorem dX8_feed_38 : decode cX8_feed 38 = .ok (.ifCond .lt 28, 3) := by decide +kernel
theorem dX8_feed_41 : decode cX8_feed 41 = .ok (.aload_n 0, 1) := by decide +kernel
theorem dX8_feed_42 : decode cX8_feed 42 = .ok (.getfield 10, 3) := by decide +kernel
theorem dX8_feed_45 : decode cX8_feed 45 = .ok (.lload_n 1, 1) := by decide +kernel
theorem dX8_feed_46 : decode cX8_feed 46 = .ok (.bipush 8, 2) := by decide +kernel
theorem dX8_feed_48 : decode cX8_feed 48 = .ok (.iload 4, 2) := by decide +kernel
theorem dX8_feed_50 : decode cX8_feed 50 = .ok (.imul, 1) := by decide +kernel
theorem dX8_feed_51 : decode cX8_feed 51 = .ok (.lushr, 1) := by decide +kernel
theorem dX8_feed_52 : decode cX8_feed 52 = .ok (.l2i, 1) := by decide +kernel
theorem dX8_feed_53 : decode cX8_feed 53 = .ok (.sipush 255, 3) := by decide +kernel
theorem dX8_feed_56 : decode cX8_feed 56 = .ok (.iand, 1) := by decide +kernel
theorem dX8_feed_57 : decode cX8_feed 57 = .ok (.invokevirtual 79, 3) := by decide +kernel
theorem dX8_feed_60 : decode cX8_feed 60 = .ok (.iinc 4 (-1), 3) := by decide +kernel
theorem dX8_feed_63 : decode cX8_feed 63 = .ok (.goto (-27), 3) := by decide +kernel
theorem dX8_feed_66 : decode cX8_feed 66 = .ok (.aload_n 0, 1) := by decide +kernel
theorem dX8_feed_67 : decode cX8_feed 67 = .ok (.getfield 10, 3) := by decide +kernel
theorem dX8_feed_70 : decode cX8_feed 70 = .ok (.getfield 76, 3) := by decide +kernel
theorem dX8_feed_73 : decode cX8_feed 73 = .ok (.ireturn, 1) := by decide +kernel
set_option maxRecDepth 20000 in
theorem ggX8_recipe_X6_readInto : GoodIn wsX8_recipe wsX6_readInto := goodIn_r _ [9, 10, 11, 12, 13, 14, 15, 16, 17, 18, 19, 20, 21, 22, 23, 24, 8, 25, 26, 27, 28, 29, 30, 31, 32, 33, 34, 35, 36, 37, 38, 39, 40, 41, 42, 43, 44, 45, 46, 47, 48, 49, 50, 51, 52, 53, 54, 55, 56, 57, 73, 74, 75, 76, 77, 78, 79, 80, 81] (by decide +kernel) (by decide +kernel)
set_option maxRecDepth 20000 in
theorem gX8_recipe_X6_readInto : GoodIn wsX8_recipe (wsV RX8 86 RX6 yX6_readInto wsX6_readInto) := goodIn_app (goodIn_of _ (by decide +kernel)) ggX8_recipe_X6_readInto
theorem dX8_recipe_0 : decode cX8_recipe 0 = .ok (.aload_n 0, 1) := by decide +kernel
theorem dX8_recipe_1 : decode cX8_recipe 1 = .ok (.getfield 83, 3) := by decide +kernel
theorem dX8_recipe_4 : decode cX8_recipe 4 = .ok (.bipush 6, 2) := by decide +kernel
theorem dX8_recipe_6 : decode cX8_recipe 6 = .ok (.if_icmp .lt 6, 3) := by decide +kernel
theorem dX8_recipe_9 : decode cX8_recipe 9 = .ok (.bipush (-4), 2) := by decide +kernel
theorem dX8_recipe_11 : decode cX8_recipe 11 = .ok (.ireturn, 1) := by decide +kernel
theorem dX8_recipe_12 : decode cX8_recipe 12 = .ok (.aload_n 0, 1) := by decide +kernel
theorem dX8_recipe_13 : decode cX8_recipe 13 = .ok (.getfield 10, 3) := by decide +kernel
theorem dX8_recipe_16 : decode cX8_recipe 16 = .ok (.aload_n 0, 1) := by decide +kernel
theorem dX8_recipe_17 : decode cX8_recipe 17 = .ok (.getfield 49, 3) := by decide +kernel
theorem dX8_recipe_20 : decode cX8_recipe 20 = .ok (.aload_n 0, 1) := by decide +kernel
theorem dX8_recipe_21 : decode cX8_recipe 21 = .ok (.getfield 83, 3) := by decide +kernel
theorem dX8_recipe_24 : decode cX8_recipe 24 = .ok (.aaload, 1) := by decide +kernel
theorem dX8_recipe_25 : decode cX8_recipe 25 = .ok (.invokevirtual 86, 3) := by decide +kernel
theorem dX8_recipe_28 : decode cX8_recipe 28 = .ok (.istore_n 1, 1) := by decide +kernel
theorem dX8_recipe_29 : decode cX8_recipe 29 = .ok (.aload_n 0, 1) := by decide +kernel
theorem dX8_recipe_30 : decode cX8_recipe 30 = .ok (.getfield 10, 3) := by decide +kernel
theorem dX8_recipe_33 : decode cX8_recipe 33 = .ok (.iconst 0, 1) := by decide +kernel
theorem dX8_recipe_34 : decode cX8_recipe 34 = .ok (.putfield 76, 3) := by decide +kernel
theorem dX8_recipe_37 : decode cX8_recipe 37 = .ok (.iload_n 1, 1) := by decide +kernel
theorem dX8_recipe_38 : decode cX8_recipe 38 = .ok (.ifCond .lt 8, 3) := by decide +kernel
theorem dX8_recipe_41 : decode cX8_recipe 41 = .ok (.bipush (-100), 2) := by decide +kernel
theorem dX8_recipe_43 : decode cX8_recipe 43 = .ok (.iload_n 1, 1) := by decide +kernel
theorem dX8_recipe_44 : decode cX8_recipe 44 = .ok (.isub, 1) := by decide +kernel
theorem dX8_recipe_45 : decode cX8_recipe 45 = .ok (.ireturn, 1) := by decide +kernel
theorem dX8_recipe_46 : decode cX8_recipe 46 = .ok (.aload_n 0, 1) := by decide +kernel
theorem dX8_recipe_47 : decode cX8_recipe 47 = .ok (.dup, 1) := by decide +kernel
theorem dX8_recipe_48 : decode cX8_recipe 48 = .ok (.getfield 83, 3) := by decide +kernel
theorem dX8_recipe_51 : decode cX8_recipe 51 = .ok (.iconst 1, 1) := by decide +kernel
theorem dX8_recipe_52 : decode cX8_recipe 52 = .ok (.iadd, 1) := by decide +kernel
theorem dX8_recipe_53 : decode cX8_recipe 53 = .ok (.putfield 83, 3) := by decide +kernel
theorem dX8_recipe_56 : decode cX8_recipe 56 = .ok (.aload_n 0, 1) := by decide +kernel
theorem dX8_recipe_57 : decode cX8_recipe 57 = .ok (.getfield 83, 3) := by decide +kernel
theorem dX8_recipe_60 : decode cX8_recipe 60 = .ok (.iconst 1, 1) := by decide +kernel
theorem dX8_recipe_61 : decode cX8_recipe 61 = .ok (.isub, 1) := by decide +kernel
theorem dX8_recipe_62 : decode cX8_recipe 62 = .ok (.ireturn, 1) := by decide +kernel
set_option maxRecDepth 20000 in
theorem ggX8_recipeTold_X8_recipeAt : GoodIn wsX8_recipeTold wsX8_recipeAt := goodIn_r _ [10, 11, 12, 18, 19, 20, 21, 22, 23, 24, 25, 26, 27, 28, 29, 30, 31, 32] (by decide +kernel) (by decide +kernel)
set_option maxRecDepth 20000 in
theorem gX8_recipeTold_X8_recipeAt : GoodIn wsX8_recipeTold (wsV RX8 90 RX8 yX8_recipeAt wsX8_recipeAt) := goodIn_app (goodIn_of _ (by decide +kernel)) ggX8_recipeTold_X8_recipeAt
theorem dX8_recipeTold_0 : decode cX8_recipeTold 0 = .ok (.aload_n 0, 1) := by decide +kernel
theorem dX8_recipeTold_1 : decode cX8_recipeTold 1 = .ok (.iload_n 1, 1) := by decide +kernel
theorem dX8_recipeTold_2 : decode cX8_recipeTold 2 = .ok (.invokevirtual 90, 3) := by decide +kernel
theorem dX8_recipeTold_5 : decode cX8_recipeTold 5 = .ok (.astore_n 3, 1) := by decide +kernel
theorem dX8_recipeTold_6 : decode cX8_recipeTold 6 = .ok (.aload_n 3, 1) := by decide +kernel
theorem dX8_recipeTold_7 : decode cX8_recipeTold 7 = .ok (.ifnonnull 6, 3) := by decide +kernel
theorem dX8_recipeTold_10 : decode cX8_recipeTold 10 = .ok (.bipush (-5), 2) := by decide +kernel
theorem dX8_recipeTold_12 : decode cX8_recipeTold 12 = .ok (.ireturn, 1) := by decide +kernel
theorem dX8_recipeTold_13 : decode cX8_recipeTold 13 = .ok (.iload_n 2, 1) := by decide +kernel
theorem dX8_recipeTold_14 : decode cX8_recipeTold 14 = .ok (.tableswitch 50 0 3 #[30, 35, 40, 45], 30) := by decide +kernel
theorem dX8_recipeTold_44 : decode cX8_recipeTold 44 = .ok (.aload_n 3, 1) := by decide +kernel
theorem dX8_recipeTold_45 : decode cX8_recipeTold 45 = .ok (.getfield 94, 3) := by decide +kernel
theorem dX8_recipeTold_48 : decode cX8_recipeTold 48 = .ok (.ireturn, 1) := by decide +kernel
theorem dX8_recipeTold_49 : decode cX8_recipeTold 49 = .ok (.aload_n 3, 1) := by decide +kernel
theorem dX8_recipeTold_50 : decode cX8_recipeTold 50 = .ok (.getfield 97, 3) := by decide +kernel
theorem dX8_recipeTold_53 : decode cX8_recipeTold 53 = .ok (.ireturn, 1) := by decide +kernel
theorem dX8_recipeTold_54 : decode cX8_recipeTold 54 = .ok (.aload_n 3, 1) := by decide +kernel
theorem dX8_recipeTold_55 : decode cX8_recipeTold 55 = .ok (.getfield 100, 3) := by decide +kernel
theorem dX8_recipeTold_58 : decode cX8_recipeTold 58 = .ok (.ireturn, 1) := by decide +kernel
theorem dX8_recipeTold_59 : decode cX8_recipeTold 59 = .ok (.aload_n 3, 1) := by decide +kernel
theorem dX8_recipeTold_60 : decode cX8_recipeTold 60 = .ok (.getfield 103, 3) := by decide +kernel
theorem dX8_recipeTold_63 : decode cX8_recipeTold 63 = .ok (.ireturn, 1) := by decide +kernel
theorem dX8_recipeTold_64 : decode cX8_recipeTold 64 = .ok (.iload_n 2, 1) := by decide +kernel
theorem dX8_recipeTold_65 : decode cX8_recipeTold 65 = .ok (.iconst 4, 1) := by decide +kernel
theorem dX8_recipeTold_66 : decode cX8_recipeTold 66 = .ok (.if_icmp .lt 24, 3) := by decide +kernel
theorem dX8_recipeTold_69 : decode cX8_recipeTold 69 = .ok (.iload_n 2, 1) := by decide +kernel
theorem dX8_recipeTold_70 : decode cX8_recipeTold 70 = .ok (.iconst 4, 1) := by decide +kernel
theorem dX8_recipeTold_71 : decode cX8_recipeTold 71 = .ok (.isub, 1) := by decide +kernel
theorem dX8_recipeTold_72 : decode cX8_recipeTold 72 = .ok (.aload_n 3, 1) := by decide +kernel
theorem dX8_recipeTold_73 : decode cX8_recipeTold 73 = .ok (.getfield 103, 3) := by decide +kernel
theorem dX8_recipeTold_76 : decode cX8_recipeTold 76 = .ok (.if_icmp .gt 14, 3) := by decide +kernel
theorem dX8_recipeTold_79 : decode cX8_recipeTold 79 = .ok (.aload_n 3, 1) := by decide +kernel
theorem dX8_recipeTold_80 : decode cX8_recipeTold 80 = .ok (.getfield 106, 3) := by decide +kernel
theorem dX8_recipeTold_83 : decode cX8_recipeTold 83 = .ok (.iload_n 2, 1) := by decide +kernel
theorem dX8_recipeTold_84 : decode cX8_recipeTold 84 = .ok (.iconst 4, 1) := by decide +kernel
theorem dX8_recipeTold_85 : decode cX8_recipeTold 85 = .ok (.isub, 1) := by decide +kernel
theorem dX8_recipeTold_86 : decode cX8_recipeTold 86 = .ok (.iaload, 1) := by decide +kernel
theorem dX8_recipeTold_87 : decode cX8_recipeTold 87 = .ok (.goto 5, 3) := by decide +kernel
theorem dX8_recipeTold_90 : decode cX8_recipeTold 90 = .ok (.bipush (-7), 2) := by decide +kernel
theorem dX8_recipeTold_92 : decode cX8_recipeTold 92 = .ok (.ireturn, 1) := by decide +kernel
set_option maxRecDepth 20000 in
theorem ggX8_make_X8_recipeAt : GoodIn wsX8_make wsX8_recipeAt := goodIn_r _ [11, 12, 13, 84, 85, 86, 87, 88, 89, 90, 91, 92, 93, 94, 95, 96, 97, 98] (by decide +kernel) (by decide +kernel)
set_option maxRecDepth 20000 in
theorem gX8_make_X8_recipeAt : GoodIn wsX8_make (wsV RX8 90 RX8 yX8_recipeAt wsX8_recipeAt) := goodIn_app (goodIn_of _ (by decide +kernel)) ggX8_make_X8_recipeAt
set_option maxRecDepth 20000 in
theorem ggX8_make_X3_fill : GoodIn wsX8_make wsX3_fill := goodIn_r _ [18, 19, 20, 21, 22, 23, 24, 25, 26, 27, 28, 29, 30, 31, 32, 33, 34, 35, 36, 37, 38, 17, 39, 40, 41, 42, 43, 44, 45, 46, 47, 48, 49, 50, 51, 52, 53, 54, 55, 56, 57, 58, 59, 60, 61, 62, 63, 64, 65, 66, 67, 68, 69, 70, 71, 72, 73, 74, 75, 76, 77, 78, 79, 107, 108, 109, 110, 111, 112, 99, 100, 101, 102, 103, 104, 105, 106] (by decide +kernel) (by decide +kernel)
set_option maxRecDepth 20000 in
theorem gX8_make_X3_fill : GoodIn wsX8_make (wsV RX8 113 RX3 yX3_fill wsX3_fill) := goodIn_app (goodIn_of _ (by decide +kernel)) ggX8_make_X3_fill
set_option maxRecDepth 20000 in
theorem ggX8_make_X8_keepTask : GoodIn wsX8_make wsX8_keepTask := goodIn_r _ [83, 2, 84, 85, 86, 87, 88, 89, 90, 91, 92, 93, 94, 95, 96, 97, 98] (by decide +kernel) (by decide +kernel)
set_option maxRecDepth 20000 in
theorem gX8_make_X8_keepTask : GoodIn wsX8_make (wsV RX8 123 RX8 yX8_keepTask wsX8_keepTask) := goodIn_app (goodIn_of _ (by decide +kernel)) ggX8_make_X8_keepTask
theorem dX8_make_0 : decode cX8_make 0 = .ok (.aload_n 0, 1) := by decide +kernel
theorem dX8_make_1 : decode cX8_make 1 = .ok (.iload_n 1, 1) := by decide +kernel
theorem dX8_make_2 : decode cX8_make 2 = .ok (.invokevirtual 90, 3) := by decide +kernel
theorem dX8_make_5 : decode cX8_make 5 = .ok (.astore_n 3, 1) := by decide +kernel
theorem dX8_make_6 : decode cX8_make 6 = .ok (.aload_n 3, 1) := by decide +kernel
theorem dX8_make_7 : decode cX8_make 7 = .ok (.ifnonnull 5, 3) := by decide +kernel
theorem dX8_make_10 : decode cX8_make 10 = .ok (.iconst (-1), 1) := by decide +kernel
theorem dX8_make_11 : decode cX8_make 11 = .ok (.ireturn, 1) := by decide +kernel
theorem dX8_make_12 : decode cX8_make 12 = .ok (.iload_n 2, 1) := by decide +kernel
theorem dX8_make_13 : decode cX8_make 13 = .ok (.ifCond .lt 9, 3) := by decide +kernel
theorem dX8_make_16 : decode cX8_make 16 = .ok (.iload_n 2, 1) := by decide +kernel
theorem dX8_make_17 : decode cX8_make 17 = .ok (.ldc 109, 2) := by decide +kernel
theorem dX8_make_19 : decode cX8_make 19 = .ok (.if_icmp .lt 6, 3) := by decide +kernel
theorem dX8_make_22 : decode cX8_make 22 = .ok (.bipush (-2), 2) := by decide +kernel
theorem dX8_make_24 : decode cX8_make 24 = .ok (.ireturn, 1) := by decide +kernel
theorem dX8_make_25 : decode cX8_make 25 = .ok (.aload_n 0, 1) := by decide +kernel
theorem dX8_make_26 : decode cX8_make 26 = .ok (.getfield 110, 3) := by decide +kernel
theorem dX8_make_29 : decode cX8_make 29 = .ok (.bipush 8, 2) := by decide +kernel
theorem dX8_make_31 : decode cX8_make 31 = .ok (.if_icmp .lt 6, 3) := by decide +kernel
theorem dX8_make_34 : decode cX8_make 34 = .ok (.bipush (-4), 2) := by decide +kernel
theorem dX8_make_36 : decode cX8_make 36 = .ok (.ireturn, 1) := by decide +kernel
theorem dX8_make_37 : decode cX8_make 37 = .ok (.aload_n 0, 1) := by decide +kernel
theorem dX8_make_38 : decode cX8_make 38 = .ok (.getfield 54, 3) := by decide +kernel
theorem dX8_make_41 : decode cX8_make 41 = .ok (.aload_n 0, 1) := by decide +kernel
theorem dX8_make_42 : decode cX8_make 42 = .ok (.getfield 110, 3) := by decide +kernel
theorem dX8_make_45 : decode cX8_make 45 = .ok (.aaload, 1) := by decide +kernel
theorem dX8_make_46 : decode cX8_make 46 = .ok (.astore 4, 2) := by decide +kernel
theorem dX8_make_48 : decode cX8_make 48 = .ok (.aload_n 0, 1) := by decide +kernel
theorem dX8_make_49 : decode cX8_make 49 = .ok (.getfield 19, 3) := by decide +kernel
theorem dX8_make_52 : decode cX8_make 52 = .ok (.aload 4, 2) := by decide +kernel
theorem dX8_make_54 : decode cX8_make 54 = .ok (.aload_n 3, 1) := by decide +kernel
theorem dX8_make_55 : decode cX8_make 55 = .ok (.iload_n 2, 1) := by decide +kernel
theorem dX8_make_56 : decode cX8_make 56 = .ok (.invokevirtual 113, 3) := by decide +kernel
theorem dX8_make_59 : decode cX8_make 59 = .ok (.aload 4, 2) := by decide +kernel
theorem dX8_make_61 : decode cX8_make 61 = .ok (.iload_n 1, 1) := by decide +kernel
theorem dX8_make_62 : decode cX8_make 62 = .ok (.putfield 117, 3) := by decide +kernel
theorem dX8_make_65 : decode cX8_make 65 = .ok (.aload 4, 2) := by decide +kernel
theorem dX8_make_67 : decode cX8_make 67 = .ok (.iload_n 2, 1) := by decide +kernel
theorem dX8_make_68 : decode cX8_make 68 = .ok (.putfield 120, 3) := by decide +kernel
theorem dX8_make_71 : decode cX8_make 71 = .ok (.aload_n 0, 1) := by decide +kernel
theorem dX8_make_72 : decode cX8_make 72 = .ok (.invokevirtual 123, 3) := by decide +kernel
theorem dX8_make_75 : decode cX8_make 75 = .ok (.ireturn, 1) := by decide +kernel
set_option maxRecDepth 20000 in
theorem ggX8_wild_X8_isSheet : GoodIn wsX8_wild wsX8_isSheet := goodIn_r _ [9] (by decide +kernel) (by decide +kernel)
set_option maxRecDepth 20000 in
theorem gX8_wild_X8_isSheet : GoodIn wsX8_wild (va_wsS RX8 127 yX8_isSheet wsX8_isSheet) := goodIn_app (goodIn_of _ (by decide +kernel)) ggX8_wild_X8_isSheet
set_option maxRecDepth 20000 in
theorem ggX8_wild_X2_exists : GoodIn wsX8_wild wsX2_exists := goodIn_r _ [13] (by decide +kernel) (by decide +kernel)
set_option maxRecDepth 20000 in
theorem gX8_wild_X2_exists : GoodIn wsX8_wild (va_wsS RX8 131 yX2_exists wsX2_exists) := goodIn_app (goodIn_of _ (by decide +kernel)) ggX8_wild_X2_exists
set_option maxRecDepth 20000 in
theorem ggX8_wild_X5_isMissing : GoodIn wsX8_wild wsX5_isMissing := goodIn_r _ [18, 19, 69, 70, 71] (by decide +kernel) (by decide +kernel)
set_option maxRecDepth 20000 in
theorem gX8_wild_X5_isMissing : GoodIn wsX8_wild (wsV RX8 136 RX5 yX5_isMissing wsX5_isMissing) := goodIn_app (goodIn_of _ (by decide +kernel)) ggX8_wild_X5_isMissing
set_option maxRecDepth 20000 in
theorem ggX8_wild_X8_areClauses : GoodIn wsX8_wild wsX8_areClauses := goodIn_r _ [22, 4, 5, 23, 24, 25, 26, 27, 28, 29, 30, 31, 8, 32, 69, 70, 71] (by decide +kernel) (by decide +kernel)
set_option maxRecDepth 20000 in
theorem gX8_wild_X8_areClauses : GoodIn wsX8_wild (va_wsS RX8 140 yX8_areClauses wsX8_areClauses) := goodIn_app (goodIn_of _ (by decide +kernel)) ggX8_wild_X8_areClauses
set_option maxRecDepth 20000 in
theorem ggX8_wild_X7_begin : GoodIn wsX8_wild wsX7_begin := goodIn_r _ [37, 38, 39, 40, 41, 42, 43, 72, 73, 74, 75, 76, 77, 78, 79] (by decide +kernel) (by decide +kernel)
set_option maxRecDepth 20000 in
theorem gX8_wild_X7_begin : GoodIn wsX8_wild (wsV RX8 144 RX7 yX7_begin wsX7_begin) := goodIn_app (goodIn_of _ (by decide +kernel)) ggX8_wild_X7_begin
set_option maxRecDepth 20000 in
theorem ggX8_wild_X7_addClause : GoodIn wsX8_wild wsX7_addClause := goodIn_r _ [47, 40, 48, 49, 72, 73, 74, 75, 76, 77, 78, 79] (by decide +kernel) (by decide +kernel)
set_option maxRecDepth 20000 in
theorem gX8_wild_X7_addClause : GoodIn wsX8_wild (wsV RX8 152 RX7 yX7_addClause wsX7_addClause) := goodIn_app (goodIn_of _ (by decide +kernel)) ggX8_wild_X7_addClause
set_option maxRecDepth 20000 in
theorem ggX8_wild_X8_keepTask : GoodIn wsX8_wild wsX8_keepTask := goodIn_r _ [53, 2, 54, 55, 56, 57, 58, 59, 60, 61, 62, 63, 64, 65, 66, 67, 68] (by decide +kernel) (by decide +kernel)
set_option maxRecDepth 20000 in
theorem gX8_wild_X8_keepTask : GoodIn wsX8_wild (wsV RX8 123 RX8 yX8_keepTask wsX8_keepTask) := goodIn_app (goodIn_of _ (by decide +kernel)) ggX8_wild_X8_keepTask
theorem dX8_wild_0 : decode cX8_wild 0 = .ok (.iload_n 3, 1) := by decide +kernel
theorem dX8_wild_1 : decode cX8_wild 1 = .ok (.invokestatic 127, 3) := by decide +kernel
theorem dX8_wild_4 : decode cX8_wild 4 = .ok (.ifCond .ne 5, 3) := by decide +kernel
theorem dX8_wild_7 : decode cX8_wild 7 = .ok (.iconst (-1), 1) := by decide +kernel
theorem dX8_wild_8 : decode cX8_wild 8 = .ok (.ireturn, 1) := by decide +kernel
theorem dX8_wild_9 : decode cX8_wild 9 = .ok (.iload_n 1, 1) := by decide +kernel
theorem dX8_wild_10 : decode cX8_wild 10 = .ok (.invokestatic 131, 3) := by decide +kernel
theorem dX8_wild_13 : decode cX8_wild 13 = .ok (.ifCond .eq 14, 3) := by decide +kernel
theorem dX8_wild_16 : decode cX8_wild 16 = .ok (.iload_n 2, 1) := by decide +kernel
theorem dX8_wild_17 : decode cX8_wild 17 = .ok (.iconst 1, 1) := by decide +kernel
theorem dX8_wild_18 : decode cX8_wild 18 = .ok (.if_icmp .lt 9, 3) := by decide +kernel
theorem dX8_wild_21 : decode cX8_wild 21 = .ok (.iload_n 2, 1) := by decide +kernel
theorem dX8_wild_22 : decode cX8_wild 22 = .ok (.bipush 10, 2) := by decide +kernel
theorem dX8_wild_24 : decode cX8_wild 24 = .ok (.if_icmp .le 6, 3) := by decide +kernel
theorem dX8_wild_27 : decode cX8_wild 27 = .ok (.bipush (-2), 2) := by decide +kernel
theorem dX8_wild_29 : decode cX8_wild 29 = .ok (.ireturn, 1) := by decide +kernel
theorem dX8_wild_30 : decode cX8_wild 30 = .ok (.aload_n 0, 1) := by decide +kernel
theorem dX8_wild_31 : decode cX8_wild 31 = .ok (.getfield 67, 3) := by decide +kernel
theorem dX8_wild_34 : decode cX8_wild 34 = .ok (.iload_n 3, 1) := by decide +kernel
theorem dX8_wild_35 : decode cX8_wild 35 = .ok (.aaload, 1) := by decide +kernel
theorem dX8_wild_36 : decode cX8_wild 36 = .ok (.astore 4, 2) := by decide +kernel
theorem dX8_wild_38 : decode cX8_wild 38 = .ok (.aload 4, 2) := by decide +kernel
theorem dX8_wild_40 : decode cX8_wild 40 = .ok (.invokevirtual 136, 3) := by decide +kernel
theorem dX8_wild_43 : decode cX8_wild 43 = .ok (.ifCond .eq 6, 3) := by decide +kernel
theorem dX8_wild_46 : decode cX8_wild 46 = .ok (.bipush (-11), 2) := by decide +kernel
theorem dX8_wild_48 : decode cX8_wild 48 = .ok (.ireturn, 1) := by decide +kernel
theorem dX8_wild_49 : decode cX8_wild 49 = .ok (.aload 4, 2) := by decide +kernel
theorem dX8_wild_51 : decode cX8_wild 51 = .ok (.iload_n 2, 1) := by decide +kernel
theorem dX8_wild_52 : decode cX8_wild 52 = .ok (.invokestatic 140, 3) := by decide +kernel
theorem dX8_wild_55 : decode cX8_wild 55 = .ok (.ifCond .ne 6, 3) := by decide +kernel
theorem dX8_wild_58 : decode cX8_wild 58 = .ok (.bipush (-2), 2) := by decide +kernel
theorem dX8_wild_60 : decode cX8_wild 60 = .ok (.ireturn, 1) := by decide +kernel
theorem dX8_wild_61 : decode cX8_wild 61 = .ok (.aload_n 0, 1) := by decide +kernel
theorem dX8_wild_62 : decode cX8_wild 62 = .ok (.getfield 110, 3) := by decide +kernel
theorem dX8_wild_65 : decode cX8_wild 65 = .ok (.bipush 8, 2) := by decide +kernel
theorem dX8_wild_67 : decode cX8_wild 67 = .ok (.if_icmp .lt 6, 3) := by decide +kernel
theorem dX8_wild_70 : decode cX8_wild 70 = .ok (.bipush (-4), 2) := by decide +kernel
theorem dX8_wild_72 : decode cX8_wild 72 = .ok (.ireturn, 1) := by decide +kernel
theorem dX8_wild_73 : decode cX8_wild 73 = .ok (.aload_n 0, 1) := by decide +kernel
theorem dX8_wild_74 : decode cX8_wild 74 = .ok (.getfield 54, 3) := by decide +kernel
theorem dX8_wild_77 : decode cX8_wild 77 = .ok (.aload_n 0, 1) := by decide +kernel
theorem dX8_wild_78 : decode cX8_wild 78 = .ok (.getfield 110, 3) := by decide +kernel
theorem dX8_wild_81 : decode cX8_wild 81 = .ok (.aaload, 1) := by decide +kernel
theorem dX8_wild_82 : decode cX8_wild 82 = .ok (.astore 5, 2) := by decide +kernel
theorem dX8_wild_84 : decode cX8_wild 84 = .ok (.aload 5, 2) := by decide +kernel
theorem dX8_wild_86 : decode cX8_wild 86 = .ok (.iload_n 1, 1) := by decide +kernel
theorem dX8_wild_87 : decode cX8_wild 87 = .ok (.iload_n 2, 1) := by decide +kernel
theorem dX8_wild_88 : decode cX8_wild 88 = .ok (.invokevirtual 144, 3) := by decide +kernel
theorem dX8_wild_91 : decode cX8_wild 91 = .ok (.iconst 0, 1) := by decide +kernel
theorem dX8_wild_92 : decode cX8_wild 92 = .ok (.istore 6, 2) := by decide +kernel
theorem dX8_wild_94 : decode cX8_wild 94 = .ok (.iload 6, 2) := by decide +kernel
theorem dX8_wild_96 : decode cX8_wild 96 = .ok (.iconst 1, 1) := by decide +kernel
theorem dX8_wild_97 : decode cX8_wild 97 = .ok (.iadd, 1) := by decide +kernel
theorem dX8_wild_98 : decode cX8_wild 98 = .ok (.aload 4, 2) := by decide +kernel
theorem dX8_wild_100 : decode cX8_wild 100 = .ok (.getfield 148, 3) := by decide +kernel
theorem dX8_wild_103 : decode cX8_wild 103 = .ok (.if_icmp .ge 32, 3) := by decide +kernel
theorem dX8_wild_106 : decode cX8_wild 106 = .ok (.aload 5, 2) := by decide +kernel
theorem dX8_wild_108 : decode cX8_wild 108 = .ok (.aload 4, 2) := by decide +kernel
theorem dX8_wild_110 : decode cX8_wild 110 = .ok (.getfield 149, 3) := by decide +kernel
theorem dX8_wild_113 : decode cX8_wild 113 = .ok (.iload 6, 2) := by decide +kernel
theorem dX8_wild_115 : decode cX8_wild 115 = .ok (.iaload, 1) := by decide +kernel
theorem dX8_wild_116 : decode cX8_wild 116 = .ok (.aload 4, 2) := by decide +kernel
theorem dX8_wild_118 : decode cX8_wild 118 = .ok (.getfield 149, 3) := by decide +kernel
theorem dX8_wild_121 : decode cX8_wild 121 = .ok (.iload 6, 2) := by decide +kernel
theorem dX8_wild_123 : decode cX8_wild 123 = .ok (.iconst 1, 1) := by decide +kernel
theorem dX8_wild_124 : decode cX8_wild 124 = .ok (.iadd, 1) := by decide +kernel
theorem dX8_wild_125 : decode cX8_wild 125 = .ok (.iaload, 1) := by decide +kernel
theorem dX8_wild_126 : decode cX8_wild 126 = .ok (.invokevirtual 152, 3) := by decide +kernel
theorem dX8_wild_129 : decode cX8_wild 129 = .ok (.iinc 6 2, 3) := by decide +kernel
theorem dX8_wild_132 : decode cX8_wild 132 = .ok (.goto (-38), 3) := by decide +kernel
theorem dX8_wild_135 : decode cX8_wild 135 = .ok (.aload_n 0, 1) := by decide +kernel
theorem dX8_wild_136 : decode cX8_wild 136 = .ok (.invokevirtual 123, 3) := by decide +kernel
theorem dX8_wild_139 : decode cX8_wild 139 = .ok (.ireturn, 1) := by decide +kernel
set_option maxRecDepth 20000 in
theorem ggX8_areClauses_J6_bitCount_0f7a4 : GoodIn wsX8_areClauses wsJ6_bitCount_0f7a4 := goodIn_r _ [6, 7, 8, 9] (by decide +kernel) (by decide +kernel)
set_option maxRecDepth 20000 in
theorem gX8_areClauses_J6_bitCount_0f7a4 : GoodIn wsX8_areClauses (va_wsS RX8 155 yJ6_bitCount_0f7a4 wsJ6_bitCount_0f7a4) := goodIn_app (goodIn_of _ (by decide +kernel)) ggX8_areClauses_J6_bitCount_0f7a4
set_option maxRecDepth 20000 in
theorem ggX8_areClauses_X8_isRow : GoodIn wsX8_areClauses wsX8_isRow := goodIn_r _ [13] (by decide +kernel) (by decide +kernel)
set_option maxRecDepth 20000 in
theorem gX8_areClauses_X8_isRow : GoodIn wsX8_areClauses (va_wsS RX8 161 yX8_isRow wsX8_isRow) := goodIn_app (goodIn_of _ (by decide +kernel)) ggX8_areClauses_X8_isRow
theorem dX8_areClauses_0 : decode cX8_areClauses 0 = .ok (.aload_n 0, 1) := by decide +kernel
theorem dX8_areClauses_1 : decode cX8_areClauses 1 = .ok (.getfield 148, 3) := by decide +kernel
theorem dX8_areClauses_4 : decode cX8_areClauses 4 = .ok (.iconst 2, 1) := by decide +kernel
theorem dX8_areClauses_5 : decode cX8_areClauses 5 = .ok (.irem, 1) := by decide +kernel
theorem dX8_areClauses_6 : decode cX8_areClauses 6 = .ok (.ifCond .eq 5, 3) := by decide +kernel
theorem dX8_areClauses_9 : decode cX8_areClauses 9 = .ok (.iconst 0, 1) := by decide +kernel
theorem dX8_areClauses_10 : decode cX8_areClauses 10 = .ok (.ireturn, 1) := by decide +kernel
theorem dX8_areClauses_11 : decode cX8_areClauses 11 = .ok (.iconst 0, 1) := by decide +kernel
theorem dX8_areClauses_12 : decode cX8_areClauses 12 = .ok (.istore_n 2, 1) := by decide +kernel
theorem dX8_areClauses_13 : decode cX8_areClauses 13 = .ok (.iload_n 2, 1) := by decide +kernel
theorem dX8_areClauses_14 : decode cX8_areClauses 14 = .ok (.iconst 1, 1) := by decide +kernel
theorem dX8_areClauses_15 : decode cX8_areClauses 15 = .ok (.iadd, 1) := by decide +kernel
theorem dX8_areClauses_16 : decode cX8_areClauses 16 = .ok (.aload_n 0, 1) := by decide +kernel
theorem dX8_areClauses_17 : decode cX8_areClauses 17 = .ok (.getfield 148, 3) := by decide +kernel
theorem dX8_areClauses_20 : decode cX8_areClauses 20 = .ok (.if_icmp .ge 85, 3) := by decide +kernel
theorem dX8_areClauses_23 : decode cX8_areClauses 23 = .ok (.aload_n 0, 1) := by decide +kernel
theorem dX8_areClauses_24 : decode cX8_areClauses 24 = .ok (.getfield 149, 3) := by decide +kernel
theorem dX8_areClauses_27 : decode cX8_areClauses 27 = .ok (.iload_n 2, 1) := by decide +kernel
theorem dX8_areClauses_28 : decode cX8_areClauses 28 = .ok (.iaload, 1) := by decide +kernel
theorem dX8_areClauses_29 : decode cX8_areClauses 29 = .ok (.istore_n 3, 1) := by decide +kernel
theorem dX8_areClauses_30 : decode cX8_areClauses 30 = .ok (.aload_n 0, 1) := by decide +kernel
theorem dX8_areClauses_31 : decode cX8_areClauses 31 = .ok (.getfield 149, 3) := by decide +kernel
theorem dX8_areClauses_34 : decode cX8_areClauses 34 = .ok (.iload_n 2, 1) := by decide +kernel
theorem dX8_areClauses_35 : decode cX8_areClauses 35 = .ok (.iconst 1, 1) := by decide +kernel
theorem dX8_areClauses_36 : decode cX8_areClauses 36 = .ok (.iadd, 1) := by decide +kernel
theorem dX8_areClauses_37 : decode cX8_areClauses 37 = .ok (.iaload, 1) := by decide +kernel
theorem dX8_areClauses_38 : decode cX8_areClauses 38 = .ok (.istore 4, 2) := by decide +kernel
theorem dX8_areClauses_40 : decode cX8_areClauses 40 = .ok (.iload_n 3, 1) := by decide +kernel
theorem dX8_areClauses_41 : decode cX8_areClauses 41 = .ok (.iload 4, 2) := by decide +kernel
theorem dX8_areClauses_43 : decode cX8_areClauses 43 = .ok (.ior, 1) := by decide +kernel
theorem dX8_areClauses_44 : decode cX8_areClauses 44 = .ok (.invokestatic 155, 3) := by decide +kernel
theorem dX8_areClauses_47 : decode cX8_areClauses 47 = .ok (.istore 5, 2) := by decide +kernel
theorem dX8_areClauses_49 : decode cX8_areClauses 49 = .ok (.iload_n 3, 1) := by decide +kernel
theorem dX8_areClauses_50 : decode cX8_areClauses 50 = .ok (.iload_n 1, 1) := by decide +kernel
theorem dX8_areClauses_51 : decode cX8_areClauses 51 = .ok (.invokestatic 161, 3) := by decide +kernel
theorem dX8_areClauses_54 : decode cX8_areClauses 54 = .ok (.ifCond .eq 16, 3) := by decide +kernel
theorem dX8_areClauses_57 : decode cX8_areClauses 57 = .ok (.iload 4, 2) := by decide +kernel
theorem dX8_areClauses_59 : decode cX8_areClauses 59 = .ok (.iload_n 1, 1) := by decide +kernel
theorem dX8_areClauses_60 : decode cX8_areClauses 60 = .ok (.invokestatic 161, 3) := by decide +kernel
theorem dX8_areClauses_63 : decode cX8_areClauses 63 = .ok (.ifCond .eq 7, 3) := by decide +kernel
theorem dX8_areClauses_66 : decode cX8_areClauses 66 = .ok (.iconst 1, 1) := by decide +kernel
theorem dX8_areClauses_67 : decode cX8_areClauses 67 = .ok (.goto 4, 3) := by decide +kernel
theorem dX8_areClauses_70 : decode cX8_areClauses 70 = .ok (.iconst 0, 1) := by decide +kernel
theorem dX8_areClauses_71 : decode cX8_areClauses 71 = .ok (.istore 6, 2) := by decide +kernel
theorem dX8_areClauses_73 : decode cX8_areClauses 73 = .ok (.iload 6, 2) := by decide +kernel
theorem dX8_areClauses_75 : decode cX8_areClauses 75 = .ok (.ifCond .eq 22, 3) := by decide +kernel
theorem dX8_areClauses_78 : decode cX8_areClauses 78 = .ok (.iload_n 3, 1) := by decide +kernel
theorem dX8_areClauses_79 : decode cX8_areClauses 79 = .ok (.iload 4, 2) := by decide +kernel
theorem dX8_areClauses_81 : decode cX8_areClauses 81 = .ok (.iand, 1) := by decide +kernel
theorem dX8_areClauses_82 : decode cX8_areClauses 82 = .ok (.ifCond .ne 15, 3) := by decide +kernel
theorem dX8_areClauses_85 : decode cX8_areClauses 85 = .ok (.iload 5, 2) := by decide +kernel
theorem dX8_areClauses_87 : decode cX8_areClauses 87 = .ok (.iconst 1, 1) := by decide +kernel
theorem dX8_areClauses_88 : decode cX8_areClauses 88 = .ok (.if_icmp .lt 9, 3) := by decide +kernel
theorem dX8_areClauses_91 : decode cX8_areClauses 91 = .ok (.iload 5, 2) := by decide +kernel
theorem dX8_areClauses_93 : decode cX8_areClauses 93 = .ok (.iconst 3, 1) := by decide +kernel
theorem dX8_areClauses_94 : decode cX8_areClauses 94 = .ok (.if_icmp .le 5, 3) := by decide +kernel
theorem dX8_areClauses_97 : decode cX8_areClauses 97 = .ok (.iconst 0, 1) := by decide +kernel
theorem dX8_areClauses_98 : decode cX8_areClauses 98 = .ok (.ireturn, 1) := by decide +kernel
theorem dX8_areClauses_99 : decode cX8_areClauses 99 = .ok (.iinc 2 2, 3) := by decide +kernel
theorem dX8_areClauses_102 : decode cX8_areClauses 102 = .ok (.goto (-89), 3) := by decide +kernel
theorem dX8_areClauses_105 : decode cX8_areClauses 105 = .ok (.iconst 1, 1) := by decide +kernel
theorem dX8_areClauses_106 : decode cX8_areClauses 106 = .ok (.ireturn, 1) := by decide +kernel
set_option maxRecDepth 20000 in
theorem ggX8_taskTold_X8_taskAt : GoodIn wsX8_taskTold wsX8_taskAt := goodIn_r _ [11, 12, 13, 22, 23, 24, 25, 26, 27, 28, 29, 30, 31, 32, 33, 34, 35, 36] (by decide +kernel) (by decide +kernel)
set_option maxRecDepth 20000 in
theorem gX8_taskTold_X8_taskAt : GoodIn wsX8_taskTold (wsV RX8 165 RX8 yX8_taskAt wsX8_taskAt) := goodIn_app (goodIn_of _ (by decide +kernel)) ggX8_taskTold_X8_taskAt
theorem dX8_taskTold_0 : decode cX8_taskTold 0 = .ok (.aload_n 0, 1) := by decide +kernel
theorem dX8_taskTold_1 : decode cX8_taskTold 1 = .ok (.iload_n 1, 1) := by decide +kernel
theorem dX8_taskTold_2 : decode cX8_taskTold 2 = .ok (.invokevirtual 165, 3) := by decide +kernel
theorem dX8_taskTold_5 : decode cX8_taskTold 5 = .ok (.astore_n 3, 1) := by decide +kernel
theorem dX8_taskTold_6 : decode cX8_taskTold 6 = .ok (.aload_n 3, 1) := by decide +kernel
theorem dX8_taskTold_7 : decode cX8_taskTold 7 = .ok (.ifnonnull 6, 3) := by decide +kernel
theorem dX8_taskTold_10 : decode cX8_taskTold 10 = .ok (.bipush (-5), 2) := by decide +kernel
theorem dX8_taskTold_12 : decode cX8_taskTold 12 = .ok (.ireturn, 1) := by decide +kernel
theorem dX8_taskTold_13 : decode cX8_taskTold 13 = .ok (.iload_n 2, 1) := by decide +kernel
theorem dX8_taskTold_14 : decode cX8_taskTold 14 = .ok (.tableswitch 68 0 5 #[38, 43, 48, 53, 58, 63], 38) := by decide +kernel
theorem dX8_taskTold_52 : decode cX8_taskTold 52 = .ok (.aload_n 3, 1) := by decide +kernel
theorem dX8_taskTold_53 : decode cX8_taskTold 53 = .ok (.getfield 169, 3) := by decide +kernel
theorem dX8_taskTold_56 : decode cX8_taskTold 56 = .ok (.ireturn, 1) := by decide +kernel
theorem dX8_taskTold_57 : decode cX8_taskTold 57 = .ok (.aload_n 3, 1) := by decide +kernel
theorem dX8_taskTold_58 : decode cX8_taskTold 58 = .ok (.getfield 170, 3) := by decide +kernel
theorem dX8_taskTold_61 : decode cX8_taskTold 61 = .ok (.ireturn, 1) := by decide +kernel
theorem dX8_taskTold_62 : decode cX8_taskTold 62 = .ok (.aload_n 3, 1) := by decide +kernel
theorem dX8_taskTold_63 : decode cX8_taskTold 63 = .ok (.getfield 171, 3) := by decide +kernel
theorem dX8_taskTold_66 : decode cX8_taskTold 66 = .ok (.ireturn, 1) := by decide +kernel
theorem dX8_taskTold_67 : decode cX8_taskTold 67 = .ok (.aload_n 3, 1) := by decide +kernel
theorem dX8_taskTold_68 : decode cX8_taskTold 68 = .ok (.getfield 172, 3) := by decide +kernel
theorem dX8_taskTold_71 : decode cX8_taskTold 71 = .ok (.ireturn, 1) := by decide +kernel
theorem dX8_taskTold_72 : decode cX8_taskTold 72 = .ok (.aload_n 3, 1) := by decide +kernel
theorem dX8_taskTold_73 : decode cX8_taskTold 73 = .ok (.getfield 117, 3) := by decide +kernel
theorem dX8_taskTold_76 : decode cX8_taskTold 76 = .ok (.ireturn, 1) := by decide +kernel
theorem dX8_taskTold_77 : decode cX8_taskTold 77 = .ok (.aload_n 3, 1) := by decide +kernel
theorem dX8_taskTold_78 : decode cX8_taskTold 78 = .ok (.getfield 120, 3) := by decide +kernel
theorem dX8_taskTold_81 : decode cX8_taskTold 81 = .ok (.ireturn, 1) := by decide +kernel
theorem dX8_taskTold_82 : decode cX8_taskTold 82 = .ok (.bipush (-7), 2) := by decide +kernel
theorem dX8_taskTold_84 : decode cX8_taskTold 84 = .ok (.ireturn, 1) := by decide +kernel
set_option maxRecDepth 20000 in
theorem ggX8_clauseTold_X8_taskAt : GoodIn wsX8_clauseTold wsX8_taskAt := goodIn_r _ [8, 9, 10, 19, 20, 21, 22, 23, 24, 25, 26, 27, 28, 29, 30, 31, 32, 33] (by decide +kernel) (by decide +kernel)
set_option maxRecDepth 20000 in
theorem gX8_clauseTold_X8_taskAt : GoodIn wsX8_clauseTold (wsV RX8 165 RX8 yX8_taskAt wsX8_taskAt) := goodIn_app (goodIn_of _ (by decide +kernel)) ggX8_clauseTold_X8_taskAt
theorem dX8_clauseTold_0 : decode cX8_clauseTold 0 = .ok (.aload_n 0, 1) := by decide +kernel
theorem dX8_clauseTold_1 : decode cX8_clauseTold 1 = .ok (.iload_n 1, 1) := by decide +kernel
theorem dX8_clauseTold_2 : decode cX8_clauseTold 2 = .ok (.invokevirtual 165, 3) := by decide +kernel
theorem dX8_clauseTold_5 : decode cX8_clauseTold 5 = .ok (.astore 4, 2) := by decide +kernel
theorem dX8_clauseTold_7 : decode cX8_clauseTold 7 = .ok (.aload 4, 2) := by decide +kernel
theorem dX8_clauseTold_9 : decode cX8_clauseTold 9 = .ok (.ifnull 16, 3) := by decide +kernel
theorem dX8_clauseTold_12 : decode cX8_clauseTold 12 = .ok (.iload_n 2, 1) := by decide +kernel
theorem dX8_clauseTold_13 : decode cX8_clauseTold 13 = .ok (.ifCond .lt 12, 3) := by decide +kernel
theorem dX8_clauseTold_16 : decode cX8_clauseTold 16 = .ok (.iload_n 2, 1) := by decide +kernel
theorem dX8_clauseTold_17 : decode cX8_clauseTold 17 = .ok (.aload 4, 2) := by decide +kernel
theorem dX8_clauseTold_19 : decode cX8_clauseTold 19 = .ok (.getfield 171, 3) := by decide +kernel
theorem dX8_clauseTold_22 : decode cX8_clauseTold 22 = .ok (.if_icmp .lt 6, 3) := by decide +kernel
theorem dX8_clauseTold_25 : decode cX8_clauseTold 25 = .ok (.bipush (-5), 2) := by decide +kernel
theorem dX8_clauseTold_27 : decode cX8_clauseTold 27 = .ok (.ireturn, 1) := by decide +kernel
theorem dX8_clauseTold_28 : decode cX8_clauseTold 28 = .ok (.iload_n 3, 1) := by decide +kernel
theorem dX8_clauseTold_29 : decode cX8_clauseTold 29 = .ok (.lookupswitch 43 #[(0, 27), (1, 35)], 27) := by decide +kernel
theorem dX8_clauseTold_56 : decode cX8_clauseTold 56 = .ok (.aload 4, 2) := by decide +kernel
theorem dX8_clauseTold_58 : decode cX8_clauseTold 58 = .ok (.getfield 175, 3) := by decide +kernel
theorem dX8_clauseTold_61 : decode cX8_clauseTold 61 = .ok (.iload_n 2, 1) := by decide +kernel
theorem dX8_clauseTold_62 : decode cX8_clauseTold 62 = .ok (.iaload, 1) := by decide +kernel
theorem dX8_clauseTold_63 : decode cX8_clauseTold 63 = .ok (.ireturn, 1) := by decide +kernel
theorem dX8_clauseTold_64 : decode cX8_clauseTold 64 = .ok (.aload 4, 2) := by decide +kernel
theorem dX8_clauseTold_66 : decode cX8_clauseTold 66 = .ok (.getfield 178, 3) := by decide +kernel
theorem dX8_clauseTold_69 : decode cX8_clauseTold 69 = .ok (.iload_n 2, 1) := by decide +kernel
theorem dX8_clauseTold_70 : decode cX8_clauseTold 70 = .ok (.iaload, 1) := by decide +kernel
theorem dX8_clauseTold_71 : decode cX8_clauseTold 71 = .ok (.ireturn, 1) := by decide +kernel
theorem dX8_clauseTold_72 : decode cX8_clauseTold 72 = .ok (.bipush (-7), 2) := by decide +kernel
theorem dX8_clauseTold_74 : decode cX8_clauseTold 74 = .ok (.ireturn, 1) := by decide +kernel
set_option maxRecDepth 20000 in
theorem ggX8_solves_X8_taskAt : GoodIn wsX8_solves wsX8_taskAt := goodIn_r _ [6, 7, 8, 52, 53, 54, 55, 56, 57, 58, 59, 60, 61, 62, 63, 64, 65, 66] (by decide +kernel) (by decide +kernel)
set_option maxRecDepth 20000 in
theorem gX8_solves_X8_taskAt : GoodIn wsX8_solves (wsV RX8 165 RX8 yX8_taskAt wsX8_taskAt) := goodIn_app (goodIn_of _ (by decide +kernel)) ggX8_solves_X8_taskAt
set_option maxRecDepth 20000 in
theorem ggX8_solves_X8_isRow : GoodIn wsX8_solves wsX8_isRow := goodIn_r _ [11] (by decide +kernel) (by decide +kernel)
set_option maxRecDepth 20000 in
theorem gX8_solves_X8_isRow : GoodIn wsX8_solves (va_wsS RX8 161 yX8_isRow wsX8_isRow) := goodIn_app (goodIn_of _ (by decide +kernel)) ggX8_solves_X8_isRow
set_option maxRecDepth 20000 in
theorem ggX8_solves_X7_brokenFrom : GoodIn wsX8_solves wsX7_brokenFrom := goodIn_r _ [16, 17, 18, 19, 20, 15, 21, 22, 23, 24, 25, 26, 27, 28, 29, 30, 31, 32, 33, 34, 35, 36, 37, 38, 39, 40, 41, 42, 43, 44, 45, 46, 47, 48, 49, 50, 51] (by decide +kernel) (by decide +kernel)
set_option maxRecDepth 20000 in
theorem gX8_solves_X7_brokenFrom : GoodIn wsX8_solves (wsV RX8 181 RX7 yX7_brokenFrom wsX7_brokenFrom) := goodIn_app (goodIn_of _ (by decide +kernel)) ggX8_solves_X7_brokenFrom
theorem dX8_solves_0 : decode cX8_solves 0 = .ok (.aload_n 0, 1) := by decide +kernel
theorem dX8_solves_1 : decode cX8_solves 1 = .ok (.iload_n 1, 1) := by decide +kernel
theorem dX8_solves_2 : decode cX8_solves 2 = .ok (.invokevirtual 165, 3) := by decide +kernel
theorem dX8_solves_5 : decode cX8_solves 5 = .ok (.astore_n 3, 1) := by decide +kernel
theorem dX8_solves_6 : decode cX8_solves 6 = .ok (.aload_n 3, 1) := by decide +kernel
theorem dX8_solves_7 : decode cX8_solves 7 = .ok (.ifnonnull 6, 3) := by decide +kernel
theorem dX8_solves_10 : decode cX8_solves 10 = .ok (.bipush (-5), 2) := by decide +kernel
theorem dX8_solves_12 : decode cX8_solves 12 = .ok (.ireturn, 1) := by decide +kernel
theorem dX8_solves_13 : decode cX8_solves 13 = .ok (.iload_n 2, 1) := by decide +kernel
theorem dX8_solves_14 : decode cX8_solves 14 = .ok (.aload_n 3, 1) := by decide +kernel
theorem dX8_solves_15 : decode cX8_solves 15 = .ok (.getfield 170, 3) := by decide +kernel
theorem dX8_solves_18 : decode cX8_solves 18 = .ok (.invokestatic 161, 3) := by decide +kernel
theorem dX8_solves_21 : decode cX8_solves 21 = .ok (.ifCond .eq 12, 3) := by decide +kernel
theorem dX8_solves_24 : decode cX8_solves 24 = .ok (.aload_n 3, 1) := by decide +kernel
theorem dX8_solves_25 : decode cX8_solves 25 = .ok (.iconst 0, 1) := by decide +kernel
theorem dX8_solves_26 : decode cX8_solves 26 = .ok (.iload_n 2, 1) := by decide +kernel
theorem dX8_solves_27 : decode cX8_solves 27 = .ok (.invokevirtual 181, 3) := by decide +kernel
theorem dX8_solves_30 : decode cX8_solves 30 = .ok (.goto 5, 3) := by decide +kernel
theorem dX8_solves_33 : decode cX8_solves 33 = .ok (.bipush (-2), 2) := by decide +kernel
theorem dX8_solves_35 : decode cX8_solves 35 = .ok (.ireturn, 1) := by decide +kernel
set_option maxRecDepth 20000 in
theorem ggX8_answers_X8_taskAt : GoodIn wsX8_answers wsX8_taskAt := goodIn_r _ [6, 7, 8, 65, 66, 67, 68, 69, 70, 71, 72, 73, 74, 75, 76, 77, 78, 79] (by decide +kernel) (by decide +kernel)
set_option maxRecDepth 20000 in
theorem gX8_answers_X8_taskAt : GoodIn wsX8_answers (wsV RX8 165 RX8 yX8_taskAt wsX8_taskAt) := goodIn_app (goodIn_of _ (by decide +kernel)) ggX8_answers_X8_taskAt
set_option maxRecDepth 20000 in
theorem ggX8_answers_X8_isRow : GoodIn wsX8_answers wsX8_isRow := goodIn_r _ [11] (by decide +kernel) (by decide +kernel)
set_option maxRecDepth 20000 in
theorem gX8_answers_X8_isRow : GoodIn wsX8_answers (va_wsS RX8 161 yX8_isRow wsX8_isRow) := goodIn_app (goodIn_of _ (by decide +kernel)) ggX8_answers_X8_isRow
set_option maxRecDepth 20000 in
theorem ggX8_answers_X7_countAnswers : GoodIn wsX8_answers wsX7_countAnswers := goodIn_r _ [16, 17, 18, 19, 15, 20, 21, 22, 23, 24, 25, 26, 27, 28, 29, 30, 31, 32, 33, 34, 35, 36, 37, 38, 39, 40, 41, 42, 43, 44, 45, 46, 47, 48, 49, 50, 51, 52, 53, 54, 55, 56, 57, 58, 59, 60, 61, 62, 63, 64] (by decide +kernel) (by decide +kernel)
set_option maxRecDepth 20000 in
theorem gX8_answers_X7_countAnswers : GoodIn wsX8_answers (wsV RX8 185 RX7 yX7_countAnswers wsX7_countAnswers) := goodIn_app (goodIn_of _ (by decide +kernel)) ggX8_answers_X7_countAnswers
theorem dX8_answers_0 : decode cX8_answers 0 = .ok (.aload_n 0, 1) := by decide +kernel
theorem dX8_answers_1 : decode cX8_answers 1 = .ok (.iload_n 1, 1) := by decide +kernel
theorem dX8_answers_2 : decode cX8_answers 2 = .ok (.invokevirtual 165, 3) := by decide +kernel
theorem dX8_answers_5 : decode cX8_answers 5 = .ok (.astore 4, 2) := by decide +kernel
theorem dX8_answers_7 : decode cX8_answers 7 = .ok (.aload 4, 2) := by decide +kernel
theorem dX8_answers_9 : decode cX8_answers 9 = .ok (.ifnonnull 6, 3) := by decide +kernel
theorem dX8_answers_12 : decode cX8_answers 12 = .ok (.bipush (-5), 2) := by decide +kernel
theorem dX8_answers_14 : decode cX8_answers 14 = .ok (.ireturn, 1) := by decide +kernel
theorem dX8_answers_15 : decode cX8_answers 15 = .ok (.iload_n 2, 1) := by decide +kernel
theorem dX8_answers_16 : decode cX8_answers 16 = .ok (.aload 4, 2) := by decide +kernel
theorem dX8_answers_18 : decode cX8_answers 18 = .ok (.getfield 170, 3) := by decide +kernel
theorem dX8_answers_21 : decode cX8_answers 21 = .ok (.invokestatic 161, 3) := by decide +kernel
theorem dX8_answers_24 : decode cX8_answers 24 = .ok (.ifCond .eq 11, 3) := by decide +kernel
theorem dX8_answers_27 : decode cX8_answers 27 = .ok (.iload_n 3, 1) := by decide +kernel
theorem dX8_answers_28 : decode cX8_answers 28 = .ok (.iload_n 2, 1) := by decide +kernel
theorem dX8_answers_29 : decode cX8_answers 29 = .ok (.iconst (-1), 1) := by decide +kernel
theorem dX8_answers_30 : decode cX8_answers 30 = .ok (.ixor, 1) := by decide +kernel
theorem dX8_answers_31 : decode cX8_answers 31 = .ok (.iand, 1) := by decide +kernel
theorem dX8_answers_32 : decode cX8_answers 32 = .ok (.ifCond .eq 6, 3) := by decide +kernel
theorem dX8_answers_35 : decode cX8_answers 35 = .ok (.bipush (-2), 2) := by decide +kernel
theorem dX8_answers_37 : decode cX8_answers 37 = .ok (.ireturn, 1) := by decide +kernel
theorem dX8_answers_38 : decode cX8_answers 38 = .ok (.aload 4, 2) := by decide +kernel
theorem dX8_answers_40 : decode cX8_answers 40 = .ok (.iload_n 2, 1) := by decide +kernel
theorem dX8_answers_41 : decode cX8_answers 41 = .ok (.iload_n 3, 1) := by decide +kernel
theorem dX8_answers_42 : decode cX8_answers 42 = .ok (.invokevirtual 185, 3) := by decide +kernel
theorem dX8_answers_45 : decode cX8_answers 45 = .ok (.ireturn, 1) := by decide +kernel
set_option maxRecDepth 20000 in
theorem ggX8_answer_X8_taskAt : GoodIn wsX8_answer wsX8_taskAt := goodIn_r _ [5, 6, 7, 49, 50, 51, 52, 53, 54, 55, 56, 57, 58, 59, 60, 61, 62, 63] (by decide +kernel) (by decide +kernel)
set_option maxRecDepth 20000 in
theorem gX8_answer_X8_taskAt : GoodIn wsX8_answer (wsV RX8 165 RX8 yX8_taskAt wsX8_taskAt) := goodIn_app (goodIn_of _ (by decide +kernel)) ggX8_answer_X8_taskAt
set_option maxRecDepth 20000 in
theorem ggX8_answer_X7_rows : GoodIn wsX8_answer wsX7_rows := goodIn_r _ [12, 13, 64, 65, 66, 67, 68, 69, 70, 71] (by decide +kernel) (by decide +kernel)
set_option maxRecDepth 20000 in
theorem gX8_answer_X7_rows : GoodIn wsX8_answer (wsV RX8 188 RX7 yX7_rows wsX7_rows) := goodIn_app (goodIn_of _ (by decide +kernel)) ggX8_answer_X7_rows
set_option maxRecDepth 20000 in
theorem ggX8_answer_X7_isSolvedBy : GoodIn wsX8_answer wsX7_isSolvedBy := goodIn_r _ [17, 18, 19, 20, 11, 21, 22, 23, 24, 25, 26, 27, 28, 29, 30, 31, 32, 33, 34, 35, 36, 37, 38, 39, 40, 41, 42, 43, 44, 45, 46, 47, 48, 64, 65, 66, 67, 68, 69, 70, 71] (by decide +kernel) (by decide +kernel)
set_option maxRecDepth 20000 in
theorem gX8_answer_X7_isSolvedBy : GoodIn wsX8_answer (wsV RX8 191 RX7 yX7_isSolvedBy wsX7_isSolvedBy) := goodIn_app (goodIn_of _ (by decide +kernel)) ggX8_answer_X7_isSolvedBy
theorem dX8_answer_0 : decode cX8_answer 0 = .ok (.aload_n 0, 1) := by decide +kernel
theorem dX8_answer_1 : decode cX8_answer 1 = .ok (.iload_n 1, 1) := by decide +kernel
theorem dX8_answer_2 : decode cX8_answer 2 = .ok (.invokevirtual 165, 3) := by decide +kernel
theorem dX8_answer_5 : decode cX8_answer 5 = .ok (.astore_n 3, 1) := by decide +kernel
theorem dX8_answer_6 : decode cX8_answer 6 = .ok (.aload_n 3, 1) := by decide +kernel
theorem dX8_answer_7 : decode cX8_answer 7 = .ok (.ifnonnull 6, 3) := by decide +kernel
theorem dX8_answer_10 : decode cX8_answer 10 = .ok (.bipush (-5), 2) := by decide +kernel
theorem dX8_answer_12 : decode cX8_answer 12 = .ok (.ireturn, 1) := by decide +kernel
theorem dX8_answer_13 : decode cX8_answer 13 = .ok (.iconst 0, 1) := by decide +kernel
theorem dX8_answer_14 : decode cX8_answer 14 = .ok (.istore 4, 2) := by decide +kernel
theorem dX8_answer_16 : decode cX8_answer 16 = .ok (.iconst 0, 1) := by decide +kernel
theorem dX8_answer_17 : decode cX8_answer 17 = .ok (.istore 5, 2) := by decide +kernel
theorem dX8_answer_19 : decode cX8_answer 19 = .ok (.iload 5, 2) := by decide +kernel
theorem dX8_answer_21 : decode cX8_answer 21 = .ok (.aload_n 3, 1) := by decide +kernel
theorem dX8_answer_22 : decode cX8_answer 22 = .ok (.invokevirtual 188, 3) := by decide +kernel
theorem dX8_answer_25 : decode cX8_answer 25 = .ok (.if_icmp .ge 30, 3) := by decide +kernel
theorem dX8_answer_28 : decode cX8_answer 28 = .ok (.aload_n 3, 1) := by decide +kernel
theorem dX8_answer_29 : decode cX8_answer 29 = .ok (.iload 5, 2) := by decide +kernel
theorem dX8_answer_31 : decode cX8_answer 31 = .ok (.invokevirtual 191, 3) := by decide +kernel
theorem dX8_answer_34 : decode cX8_answer 34 = .ok (.ifCond .eq 15, 3) := by decide +kernel
theorem dX8_answer_37 : decode cX8_answer 37 = .ok (.iload 4, 2) := by decide +kernel
theorem dX8_answer_39 : decode cX8_answer 39 = .ok (.iload_n 2, 1) := by decide +kernel
theorem dX8_answer_40 : decode cX8_answer 40 = .ok (.if_icmp .ne 6, 3) := by decide +kernel
theorem dX8_answer_43 : decode cX8_answer 43 = .ok (.iload 5, 2) := by decide +kernel
theorem dX8_answer_45 : decode cX8_answer 45 = .ok (.ireturn, 1) := by decide +kernel
theorem dX8_answer_46 : decode cX8_answer 46 = .ok (.iinc 4 1, 3) := by decide +kernel
theorem dX8_answer_49 : decode cX8_answer 49 = .ok (.iinc 5 1, 3) := by decide +kernel
theorem dX8_answer_52 : decode cX8_answer 52 = .ok (.goto (-33), 3) := by decide +kernel
theorem dX8_answer_55 : decode cX8_answer 55 = .ok (.iconst (-1), 1) := by decide +kernel
theorem dX8_answer_56 : decode cX8_answer 56 = .ok (.ireturn, 1) := by decide +kernel
set_option maxRecDepth 20000 in
theorem ggX8_nearest_X8_taskAt : GoodIn wsX8_nearest wsX8_taskAt := goodIn_r _ [6, 7, 8, 62, 63, 64, 65, 66, 67, 68, 69, 70, 71, 72, 73, 74, 75, 76] (by decide +kernel) (by decide +kernel)
set_option maxRecDepth 20000 in
theorem gX8_nearest_X8_taskAt : GoodIn wsX8_nearest (wsV RX8 165 RX8 yX8_taskAt wsX8_taskAt) := goodIn_app (goodIn_of _ (by decide +kernel)) ggX8_nearest_X8_taskAt
set_option maxRecDepth 20000 in
theorem ggX8_nearest_X8_isRow : GoodIn wsX8_nearest wsX8_isRow := goodIn_r _ [11] (by decide +kernel) (by decide +kernel)
set_option maxRecDepth 20000 in
theorem gX8_nearest_X8_isRow : GoodIn wsX8_nearest (va_wsS RX8 161 yX8_isRow wsX8_isRow) := goodIn_app (goodIn_of _ (by decide +kernel)) ggX8_nearest_X8_isRow
set_option maxRecDepth 20000 in
theorem ggX8_nearest_X7_rows : GoodIn wsX8_nearest wsX7_rows := goodIn_r _ [16, 17, 54, 55, 56, 57, 58, 59, 60, 61] (by decide +kernel) (by decide +kernel)
set_option maxRecDepth 20000 in
theorem gX8_nearest_X7_rows : GoodIn wsX8_nearest (wsV RX8 188 RX7 yX7_rows wsX7_rows) := goodIn_app (goodIn_of _ (by decide +kernel)) ggX8_nearest_X7_rows
set_option maxRecDepth 20000 in
theorem ggX8_nearest_J6_bitCount_0f7a4 : GoodIn wsX8_nearest wsJ6_bitCount_0f7a4 := goodIn_r _ [21, 22, 23, 24] (by decide +kernel) (by decide +kernel)
set_option maxRecDepth 20000 in
theorem gX8_nearest_J6_bitCount_0f7a4 : GoodIn wsX8_nearest (va_wsS RX8 155 yJ6_bitCount_0f7a4 wsJ6_bitCount_0f7a4) := goodIn_app (goodIn_of _ (by decide +kernel)) ggX8_nearest_J6_bitCount_0f7a4
set_option maxRecDepth 20000 in
theorem ggX8_nearest_X7_isSolvedBy : GoodIn wsX8_nearest wsX7_isSolvedBy := goodIn_r _ [28, 29, 30, 31, 15, 32, 33, 34, 35, 36, 37, 38, 39, 40, 41, 42, 43, 44, 45, 19, 20, 21, 22, 23, 24, 46, 47, 48, 49, 50, 51, 52, 53, 54, 55, 56, 57, 58, 59, 60, 61] (by decide +kernel) (by decide +kernel)
set_option maxRecDepth 20000 in
theorem gX8_nearest_X7_isSolvedBy : GoodIn wsX8_nearest (wsV RX8 191 RX7 yX7_isSolvedBy wsX7_isSolvedBy) := goodIn_app (goodIn_of _ (by decide +kernel)) ggX8_nearest_X7_isSolvedBy
theorem dX8_nearest_0 : decode cX8_nearest 0 = .ok (.aload_n 0, 1) := by decide +kernel
theorem dX8_nearest_1 : decode cX8_nearest 1 = .ok (.iload_n 1, 1) := by decide +kernel
theorem dX8_nearest_2 : decode cX8_nearest 2 = .ok (.invokevirtual 165, 3) := by decide +kernel
theorem dX8_nearest_5 : decode cX8_nearest 5 = .ok (.astore_n 3, 1) := by decide +kernel
theorem dX8_nearest_6 : decode cX8_nearest 6 = .ok (.aload_n 3, 1) := by decide +kernel
theorem dX8_nearest_7 : decode cX8_nearest 7 = .ok (.ifnonnull 6, 3) := by decide +kernel
theorem dX8_nearest_10 : decode cX8_nearest 10 = .ok (.bipush (-5), 2) := by decide +kernel
theorem dX8_nearest_12 : decode cX8_nearest 12 = .ok (.ireturn, 1) := by decide +kernel
theorem dX8_nearest_13 : decode cX8_nearest 13 = .ok (.iload_n 2, 1) := by decide +kernel
theorem dX8_nearest_14 : decode cX8_nearest 14 = .ok (.aload_n 3, 1) := by decide +kernel
theorem dX8_nearest_15 : decode cX8_nearest 15 = .ok (.getfield 170, 3) := by decide +kernel
theorem dX8_nearest_18 : decode cX8_nearest 18 = .ok (.invokestatic 161, 3) := by decide +kernel
theorem dX8_nearest_21 : decode cX8_nearest 21 = .ok (.ifCond .ne 6, 3) := by decide +kernel
theorem dX8_nearest_24 : decode cX8_nearest 24 = .ok (.bipush (-2), 2) := by decide +kernel
theorem dX8_nearest_26 : decode cX8_nearest 26 = .ok (.ireturn, 1) := by decide +kernel
theorem dX8_nearest_27 : decode cX8_nearest 27 = .ok (.iconst (-1), 1) := by decide +kernel
theorem dX8_nearest_28 : decode cX8_nearest 28 = .ok (.istore 4, 2) := by decide +kernel
theorem dX8_nearest_30 : decode cX8_nearest 30 = .ok (.bipush 11, 2) := by decide +kernel
theorem dX8_nearest_32 : decode cX8_nearest 32 = .ok (.istore 5, 2) := by decide +kernel
theorem dX8_nearest_34 : decode cX8_nearest 34 = .ok (.iconst 0, 1) := by decide +kernel
theorem dX8_nearest_35 : decode cX8_nearest 35 = .ok (.istore 6, 2) := by decide +kernel
theorem dX8_nearest_37 : decode cX8_nearest 37 = .ok (.iload 6, 2) := by decide +kernel
theorem dX8_nearest_39 : decode cX8_nearest 39 = .ok (.aload_n 3, 1) := by decide +kernel
theorem dX8_nearest_40 : decode cX8_nearest 40 = .ok (.invokevirtual 188, 3) := by decide +kernel
theorem dX8_nearest_43 : decode cX8_nearest 43 = .ok (.if_icmp .ge 42, 3) := by decide +kernel
theorem dX8_nearest_46 : decode cX8_nearest 46 = .ok (.iload 6, 2) := by decide +kernel
theorem dX8_nearest_48 : decode cX8_nearest 48 = .ok (.iload_n 2, 1) := by decide +kernel
theorem dX8_nearest_49 : decode cX8_nearest 49 = .ok (.ixor, 1) := by decide +kernel
theorem dX8_nearest_50 : decode cX8_nearest 50 = .ok (.invokestatic 155, 3) := by decide +kernel
theorem dX8_nearest_53 : decode cX8_nearest 53 = .ok (.istore 7, 2) := by decide +kernel
theorem dX8_nearest_55 : decode cX8_nearest 55 = .ok (.iload 7, 2) := by decide +kernel
theorem dX8_nearest_57 : decode cX8_nearest 57 = .ok (.iload 5, 2) := by decide +kernel
theorem dX8_nearest_59 : decode cX8_nearest 59 = .ok (.if_icmp .ge 20, 3) := by decide +kernel
theorem dX8_nearest_62 : decode cX8_nearest 62 = .ok (.aload_n 3, 1) := by decide +kernel
theorem dX8_nearest_63 : decode cX8_nearest 63 = .ok (.iload 6, 2) := by decide +kernel
theorem dX8_nearest_65 : decode cX8_nearest 65 = .ok (.invokevirtual 191, 3) := by decide +kernel
theorem dX8_nearest_68 : decode cX8_nearest 68 = .ok (.ifCond .eq 11, 3) := by decide +kernel
theorem dX8_nearest_71 : decode cX8_nearest 71 = .ok (.iload 6, 2) := by decide +kernel
theorem dX8_nearest_73 : decode cX8_nearest 73 = .ok (.istore 4, 2) := by decide +kernel
theorem dX8_nearest_75 : decode cX8_nearest 75 = .ok (.iload 7, 2) := by decide +kernel
theorem dX8_nearest_77 : decode cX8_nearest 77 = .ok (.istore 5, 2) := by decide +kernel
theorem dX8_nearest_79 : decode cX8_nearest 79 = .ok (.iinc 6 1, 3) := by decide +kernel
theorem dX8_nearest_82 : decode cX8_nearest 82 = .ok (.goto (-45), 3) := by decide +kernel
theorem dX8_nearest_85 : decode cX8_nearest 85 = .ok (.iload 4, 2) := by decide +kernel
theorem dX8_nearest_87 : decode cX8_nearest 87 = .ok (.ireturn, 1) := by decide +kernel
set_option maxRecDepth 20000 in
theorem ggX8_hint_X8_taskAt : GoodIn wsX8_hint wsX8_taskAt := goodIn_r _ [7, 8, 9, 59, 60, 61, 62, 63, 64, 65, 66, 67, 68, 69, 70, 71, 72, 73] (by decide +kernel) (by decide +kernel)
set_option maxRecDepth 20000 in
theorem gX8_hint_X8_taskAt : GoodIn wsX8_hint (wsV RX8 165 RX8 yX8_taskAt wsX8_taskAt) := goodIn_app (goodIn_of _ (by decide +kernel)) ggX8_hint_X8_taskAt
set_option maxRecDepth 20000 in
theorem ggX8_hint_X7_tallyAnswers : GoodIn wsX8_hint wsX7_tallyAnswers := goodIn_r _ [14, 15, 16, 17, 18, 19, 20, 21, 22, 13, 23, 24, 25, 26, 27, 28, 29, 30, 31, 32, 33, 34, 35, 36, 37, 38, 39, 40, 41, 42, 43, 44, 45, 46, 47, 48, 49, 50, 51, 52, 53, 54, 55, 56, 57, 58, 74, 75, 76, 77, 78, 79, 80, 81] (by decide +kernel) (by decide +kernel)
set_option maxRecDepth 20000 in
theorem gX8_hint_X7_tallyAnswers : GoodIn wsX8_hint (wsV RX8 194 RX7 yX7_tallyAnswers wsX7_tallyAnswers) := goodIn_app (goodIn_of _ (by decide +kernel)) ggX8_hint_X7_tallyAnswers
theorem dX8_hint_0 : decode cX8_hint 0 = .ok (.aload_n 0, 1) := by decide +kernel
theorem dX8_hint_1 : decode cX8_hint 1 = .ok (.iload_n 1, 1) := by decide +kernel
theorem dX8_hint_2 : decode cX8_hint 2 = .ok (.invokevirtual 165, 3) := by decide +kernel
theorem dX8_hint_5 : decode cX8_hint 5 = .ok (.astore_n 2, 1) := by decide +kernel
theorem dX8_hint_6 : decode cX8_hint 6 = .ok (.aload_n 2, 1) := by decide +kernel
theorem dX8_hint_7 : decode cX8_hint 7 = .ok (.ifnonnull 6, 3) := by decide +kernel
theorem dX8_hint_10 : decode cX8_hint 10 = .ok (.bipush (-5), 2) := by decide +kernel
theorem dX8_hint_12 : decode cX8_hint 12 = .ok (.ireturn, 1) := by decide +kernel
theorem dX8_hint_13 : decode cX8_hint 13 = .ok (.aload_n 2, 1) := by decide +kernel
theorem dX8_hint_14 : decode cX8_hint 14 = .ok (.aload_n 0, 1) := by decide +kernel
theorem dX8_hint_15 : decode cX8_hint 15 = .ok (.getfield 44, 3) := by decide +kernel
theorem dX8_hint_18 : decode cX8_hint 18 = .ok (.invokevirtual 194, 3) := by decide +kernel
theorem dX8_hint_21 : decode cX8_hint 21 = .ok (.istore_n 3, 1) := by decide +kernel
theorem dX8_hint_22 : decode cX8_hint 22 = .ok (.iconst (-1), 1) := by decide +kernel
theorem dX8_hint_23 : decode cX8_hint 23 = .ok (.istore 4, 2) := by decide +kernel
theorem dX8_hint_25 : decode cX8_hint 25 = .ok (.iload_n 3, 1) := by decide +kernel
theorem dX8_hint_26 : decode cX8_hint 26 = .ok (.iconst 1, 1) := by decide +kernel
theorem dX8_hint_27 : decode cX8_hint 27 = .ok (.iadd, 1) := by decide +kernel
theorem dX8_hint_28 : decode cX8_hint 28 = .ok (.istore 5, 2) := by decide +kernel
theorem dX8_hint_30 : decode cX8_hint 30 = .ok (.iconst 0, 1) := by decide +kernel
theorem dX8_hint_31 : decode cX8_hint 31 = .ok (.istore 6, 2) := by decide +kernel
theorem dX8_hint_33 : decode cX8_hint 33 = .ok (.iload 6, 2) := by decide +kernel
theorem dX8_hint_35 : decode cX8_hint 35 = .ok (.aload_n 2, 1) := by decide +kernel
theorem dX8_hint_36 : decode cX8_hint 36 = .ok (.getfield 170, 3) := by decide +kernel
theorem dX8_hint_39 : decode cX8_hint 39 = .ok (.if_icmp .ge 70, 3) := by decide +kernel
theorem dX8_hint_42 : decode cX8_hint 42 = .ok (.aload_n 0, 1) := by decide +kernel
theorem dX8_hint_43 : decode cX8_hint 43 = .ok (.getfield 44, 3) := by decide +kernel
theorem dX8_hint_46 : decode cX8_hint 46 = .ok (.iload 6, 2) := by decide +kernel
theorem dX8_hint_48 : decode cX8_hint 48 = .ok (.iaload, 1) := by decide +kernel
theorem dX8_hint_49 : decode cX8_hint 49 = .ok (.istore 7, 2) := by decide +kernel
theorem dX8_hint_51 : decode cX8_hint 51 = .ok (.iload_n 3, 1) := by decide +kernel
theorem dX8_hint_52 : decode cX8_hint 52 = .ok (.iload 7, 2) := by decide +kernel
theorem dX8_hint_54 : decode cX8_hint 54 = .ok (.isub, 1) := by decide +kernel
theorem dX8_hint_55 : decode cX8_hint 55 = .ok (.istore 8, 2) := by decide +kernel
theorem dX8_hint_57 : decode cX8_hint 57 = .ok (.iload 8, 2) := by decide +kernel
theorem dX8_hint_59 : decode cX8_hint 59 = .ok (.ifCond .le 20, 3) := by decide +kernel
theorem dX8_hint_62 : decode cX8_hint 62 = .ok (.iload 8, 2) := by decide +kernel
theorem dX8_hint_64 : decode cX8_hint 64 = .ok (.iload 5, 2) := by decide +kernel
theorem dX8_hint_66 : decode cX8_hint 66 = .ok (.if_icmp .ge 13, 3) := by decide +kernel
theorem dX8_hint_69 : decode cX8_hint 69 = .ok (.iconst 2, 1) := by decide +kernel
theorem dX8_hint_70 : decode cX8_hint 70 = .ok (.iload 6, 2) := by decide +kernel
theorem dX8_hint_72 : decode cX8_hint 72 = .ok (.imul, 1) := by decide +kernel
theorem dX8_hint_73 : decode cX8_hint 73 = .ok (.istore 4, 2) := by decide +kernel
theorem dX8_hint_75 : decode cX8_hint 75 = .ok (.iload 8, 2) := by decide +kernel
theorem dX8_hint_77 : decode cX8_hint 77 = .ok (.istore 5, 2) := by decide +kernel
theorem dX8_hint_79 : decode cX8_hint 79 = .ok (.iload 7, 2) := by decide +kernel
theorem dX8_hint_81 : decode cX8_hint 81 = .ok (.ifCond .le 22, 3) := by decide +kernel
theorem dX8_hint_84 : decode cX8_hint 84 = .ok (.iload 7, 2) := by decide +kernel
theorem dX8_hint_86 : decode cX8_hint 86 = .ok (.iload 5, 2) := by decide +kernel
theorem dX8_hint_88 : decode cX8_hint 88 = .ok (.if_icmp .ge 15, 3) := by decide +kernel
theorem dX8_hint_91 : decode cX8_hint 91 = .ok (.iconst 2, 1) := by decide +kernel
theorem dX8_hint_92 : decode cX8_hint 92 = .ok (.iload 6, 2) := by decide +kernel
theorem dX8_hint_94 : decode cX8_hint 94 = .ok (.imul, 1) := by decide +kernel
theorem dX8_hint_95 : decode cX8_hint 95 = .ok (.iconst 1, 1) := by decide +kernel
theorem dX8_hint_96 : decode cX8_hint 96 = .ok (.iadd, 1) := by decide +kernel
theorem dX8_hint_97 : decode cX8_hint 97 = .ok (.istore 4, 2) := by decide +kernel
theorem dX8_hint_99 : decode cX8_hint 99 = .ok (.iload 7, 2) := by decide +kernel
theorem dX8_hint_101 : decode cX8_hint 101 = .ok (.istore 5, 2) := by decide +kernel
theorem dX8_hint_103 : decode cX8_hint 103 = .ok (.iinc 6 1, 3) := by decide +kernel
theorem dX8_hint_106 : decode cX8_hint 106 = .ok (.goto (-73), 3) := by decide +kernel
theorem dX8_hint_109 : decode cX8_hint 109 = .ok (.iload 4, 2) := by decide +kernel
theorem dX8_hint_111 : decode cX8_hint 111 = .ok (.ireturn, 1) := by decide +kernel
set_option maxRecDepth 20000 in
theorem ggX8_needed_X8_taskAt : GoodIn wsX8_needed wsX8_taskAt := goodIn_r _ [5, 6, 7, 45, 46, 47, 48, 49, 50, 51, 52, 53, 54, 55, 56, 57, 58, 59] (by decide +kernel) (by decide +kernel)
set_option maxRecDepth 20000 in
theorem gX8_needed_X8_taskAt : GoodIn wsX8_needed (wsV RX8 165 RX8 yX8_taskAt wsX8_taskAt) := goodIn_app (goodIn_of _ (by decide +kernel)) ggX8_needed_X8_taskAt
set_option maxRecDepth 20000 in
theorem ggX8_needed_X7_rows : GoodIn wsX8_needed wsX7_rows := goodIn_r _ [12, 13, 60, 61, 62, 63, 64, 65, 66, 67] (by decide +kernel) (by decide +kernel)
set_option maxRecDepth 20000 in
theorem gX8_needed_X7_rows : GoodIn wsX8_needed (wsV RX8 188 RX7 yX7_rows wsX7_rows) := goodIn_app (goodIn_of _ (by decide +kernel)) ggX8_needed_X7_rows
set_option maxRecDepth 20000 in
theorem ggX8_needed_X7_brokenFrom : GoodIn wsX8_needed wsX7_brokenFrom := goodIn_r _ [17, 18, 19, 20, 21, 11, 22, 23, 24, 25, 26, 27, 28, 29, 30, 31, 32, 33, 34, 35, 36, 37, 38, 39, 40, 41, 42, 43, 44, 60, 61, 62, 63, 64, 65, 66, 67] (by decide +kernel) (by decide +kernel)
set_option maxRecDepth 20000 in
theorem gX8_needed_X7_brokenFrom : GoodIn wsX8_needed (wsV RX8 181 RX7 yX7_brokenFrom wsX7_brokenFrom) := goodIn_app (goodIn_of _ (by decide +kernel)) ggX8_needed_X7_brokenFrom
theorem dX8_needed_0 : decode cX8_needed 0 = .ok (.aload_n 0, 1) := by decide +kernel
theorem dX8_needed_1 : decode cX8_needed 1 = .ok (.iload_n 1, 1) := by decide +kernel
theorem dX8_needed_2 : decode cX8_needed 2 = .ok (.invokevirtual 165, 3) := by decide +kernel
theorem dX8_needed_5 : decode cX8_needed 5 = .ok (.astore_n 2, 1) := by decide +kernel
theorem dX8_needed_6 : decode cX8_needed 6 = .ok (.aload_n 2, 1) := by decide +kernel
theorem dX8_needed_7 : decode cX8_needed 7 = .ok (.ifnonnull 6, 3) := by decide +kernel
theorem dX8_needed_10 : decode cX8_needed 10 = .ok (.bipush (-5), 2) := by decide +kernel
theorem dX8_needed_12 : decode cX8_needed 12 = .ok (.ireturn, 1) := by decide +kernel
theorem dX8_needed_13 : decode cX8_needed 13 = .ok (.iconst 0, 1) := by decide +kernel
theorem dX8_needed_14 : decode cX8_needed 14 = .ok (.istore_n 3, 1) := by decide +kernel
theorem dX8_needed_15 : decode cX8_needed 15 = .ok (.iconst 0, 1) := by decide +kernel
theorem dX8_needed_16 : decode cX8_needed 16 = .ok (.istore 4, 2) := by decide +kernel
theorem dX8_needed_18 : decode cX8_needed 18 = .ok (.iload 4, 2) := by decide +kernel
theorem dX8_needed_20 : decode cX8_needed 20 = .ok (.aload_n 2, 1) := by decide +kernel
theorem dX8_needed_21 : decode cX8_needed 21 = .ok (.invokevirtual 188, 3) := by decide +kernel
theorem dX8_needed_24 : decode cX8_needed 24 = .ok (.if_icmp .ge 43, 3) := by decide +kernel
theorem dX8_needed_27 : decode cX8_needed 27 = .ok (.aload_n 2, 1) := by decide +kernel
theorem dX8_needed_28 : decode cX8_needed 28 = .ok (.iconst 0, 1) := by decide +kernel
theorem dX8_needed_29 : decode cX8_needed 29 = .ok (.iload 4, 2) := by decide +kernel
theorem dX8_needed_31 : decode cX8_needed 31 = .ok (.invokevirtual 181, 3) := by decide +kernel
theorem dX8_needed_34 : decode cX8_needed 34 = .ok (.istore 5, 2) := by decide +kernel
theorem dX8_needed_36 : decode cX8_needed 36 = .ok (.iload 5, 2) := by decide +kernel
theorem dX8_needed_38 : decode cX8_needed 38 = .ok (.ifCond .lt 23, 3) := by decide +kernel
theorem dX8_needed_41 : decode cX8_needed 41 = .ok (.aload_n 2, 1) := by decide +kernel
theorem dX8_needed_42 : decode cX8_needed 42 = .ok (.iload 5, 2) := by decide +kernel
theorem dX8_needed_44 : decode cX8_needed 44 = .ok (.iconst 1, 1) := by decide +kernel
theorem dX8_needed_45 : decode cX8_needed 45 = .ok (.iadd, 1) := by decide +kernel
theorem dX8_needed_46 : decode cX8_needed 46 = .ok (.iload 4, 2) := by decide +kernel
theorem dX8_needed_48 : decode cX8_needed 48 = .ok (.invokevirtual 181, 3) := by decide +kernel
theorem dX8_needed_51 : decode cX8_needed 51 = .ok (.ifCond .ge 10, 3) := by decide +kernel
theorem dX8_needed_54 : decode cX8_needed 54 = .ok (.iload_n 3, 1) := by decide +kernel
theorem dX8_needed_55 : decode cX8_needed 55 = .ok (.iconst 1, 1) := by decide +kernel
theorem dX8_needed_56 : decode cX8_needed 56 = .ok (.iload 5, 2) := by decide +kernel
theorem dX8_needed_58 : decode cX8_needed 58 = .ok (.ishl, 1) := by decide +kernel
theorem dX8_needed_59 : decode cX8_needed 59 = .ok (.ior, 1) := by decide +kernel
theorem dX8_needed_60 : decode cX8_needed 60 = .ok (.istore_n 3, 1) := by decide +kernel
theorem dX8_needed_61 : decode cX8_needed 61 = .ok (.iinc 4 1, 3) := by decide +kernel
theorem dX8_needed_64 : decode cX8_needed 64 = .ok (.goto (-46), 3) := by decide +kernel
theorem dX8_needed_67 : decode cX8_needed 67 = .ok (.iload_n 3, 1) := by decide +kernel
theorem dX8_needed_68 : decode cX8_needed 68 = .ok (.ireturn, 1) := by decide +kernel
set_option maxRecDepth 20000 in
theorem ggX8_lean_X8_taskAt : GoodIn wsX8_lean wsX8_taskAt := goodIn_r _ [7, 8, 9, 26, 27, 28, 29, 30, 31, 32, 33, 34, 35, 36, 37, 38, 39, 40] (by decide +kernel) (by decide +kernel)
set_option maxRecDepth 20000 in
theorem gX8_lean_X8_taskAt : GoodIn wsX8_lean (wsV RX8 165 RX8 yX8_taskAt wsX8_taskAt) := goodIn_app (goodIn_of _ (by decide +kernel)) ggX8_lean_X8_taskAt
set_option maxRecDepth 20000 in
theorem ggX8_lean_X7_excess : GoodIn wsX8_lean wsX7_excess := goodIn_r _ [14, 15, 16, 17, 18, 19, 20, 21, 22, 23, 24, 25] (by decide +kernel) (by decide +kernel)
set_option maxRecDepth 20000 in
theorem gX8_lean_X7_excess : GoodIn wsX8_lean (wsV RX8 198 RX7 yX7_excess wsX7_excess) := goodIn_app (goodIn_of _ (by decide +kernel)) ggX8_lean_X7_excess
theorem dX8_lean_0 : decode cX8_lean 0 = .ok (.aload_n 0, 1) := by decide +kernel
theorem dX8_lean_1 : decode cX8_lean 1 = .ok (.iload_n 1, 1) := by decide +kernel
theorem dX8_lean_2 : decode cX8_lean 2 = .ok (.invokevirtual 165, 3) := by decide +kernel
theorem dX8_lean_5 : decode cX8_lean 5 = .ok (.astore_n 3, 1) := by decide +kernel
theorem dX8_lean_6 : decode cX8_lean 6 = .ok (.aload_n 3, 1) := by decide +kernel
theorem dX8_lean_7 : decode cX8_lean 7 = .ok (.ifnull 15, 3) := by decide +kernel
theorem dX8_lean_10 : decode cX8_lean 10 = .ok (.iload_n 2, 1) := by decide +kernel
theorem dX8_lean_11 : decode cX8_lean 11 = .ok (.ifCond .lt 11, 3) := by decide +kernel
theorem dX8_lean_14 : decode cX8_lean 14 = .ok (.iload_n 2, 1) := by decide +kernel
theorem dX8_lean_15 : decode cX8_lean 15 = .ok (.aload_n 3, 1) := by decide +kernel
theorem dX8_lean_16 : decode cX8_lean 16 = .ok (.getfield 170, 3) := by decide +kernel
theorem dX8_lean_19 : decode cX8_lean 19 = .ok (.if_icmp .lt 7, 3) := by decide +kernel
theorem dX8_lean_22 : decode cX8_lean 22 = .ok (.sipush (-1000), 3) := by decide +kernel
theorem dX8_lean_25 : decode cX8_lean 25 = .ok (.ireturn, 1) := by decide +kernel
theorem dX8_lean_26 : decode cX8_lean 26 = .ok (.aload_n 3, 1) := by decide +kernel
theorem dX8_lean_27 : decode cX8_lean 27 = .ok (.getfield 172, 3) := by decide +kernel
theorem dX8_lean_30 : decode cX8_lean 30 = .ok (.ifCond .lt 18, 3) := by decide +kernel
theorem dX8_lean_33 : decode cX8_lean 33 = .ok (.aload_n 3, 1) := by decide +kernel
theorem dX8_lean_34 : decode cX8_lean 34 = .ok (.getfield 172, 3) := by decide +kernel
theorem dX8_lean_37 : decode cX8_lean 37 = .ok (.iload_n 2, 1) := by decide +kernel
theorem dX8_lean_38 : decode cX8_lean 38 = .ok (.ishr, 1) := by decide +kernel
theorem dX8_lean_39 : decode cX8_lean 39 = .ok (.iconst 1, 1) := by decide +kernel
theorem dX8_lean_40 : decode cX8_lean 40 = .ok (.iand, 1) := by decide +kernel
theorem dX8_lean_41 : decode cX8_lean 41 = .ok (.ifCond .ne 7, 3) := by decide +kernel
theorem dX8_lean_44 : decode cX8_lean 44 = .ok (.iconst 1, 1) := by decide +kernel
theorem dX8_lean_45 : decode cX8_lean 45 = .ok (.goto 4, 3) := by decide +kernel
theorem dX8_lean_48 : decode cX8_lean 48 = .ok (.iconst 0, 1) := by decide +kernel
theorem dX8_lean_49 : decode cX8_lean 49 = .ok (.istore 4, 2) := by decide +kernel
theorem dX8_lean_51 : decode cX8_lean 51 = .ok (.iload 4, 2) := by decide +kernel
theorem dX8_lean_53 : decode cX8_lean 53 = .ok (.ifCond .eq 12, 3) := by decide +kernel
theorem dX8_lean_56 : decode cX8_lean 56 = .ok (.aload_n 3, 1) := by decide +kernel
theorem dX8_lean_57 : decode cX8_lean 57 = .ok (.iload_n 2, 1) := by decide +kernel
theorem dX8_lean_58 : decode cX8_lean 58 = .ok (.invokevirtual 198, 3) := by decide +kernel
theorem dX8_lean_61 : decode cX8_lean 61 = .ok (.ineg, 1) := by decide +kernel
theorem dX8_lean_62 : decode cX8_lean 62 = .ok (.goto 8, 3) := by decide +kernel
theorem dX8_lean_65 : decode cX8_lean 65 = .ok (.aload_n 3, 1) := by decide +kernel
theorem dX8_lean_66 : decode cX8_lean 66 = .ok (.iload_n 2, 1) := by decide +kernel
theorem dX8_lean_67 : decode cX8_lean 67 = .ok (.invokevirtual 198, 3) := by decide +kernel
theorem dX8_lean_70 : decode cX8_lean 70 = .ok (.ireturn, 1) := by decide +kernel
set_option maxRecDepth 20000 in
theorem ggX8_leans_X8_recipeAt : GoodIn wsX8_leans wsX8_recipeAt := goodIn_r _ [7, 8, 9, 44, 45, 46, 47, 48, 49, 50, 51, 52, 53, 54, 55, 56, 57, 58] (by decide +kernel) (by decide +kernel)
set_option maxRecDepth 20000 in
theorem gX8_leans_X8_recipeAt : GoodIn wsX8_leans (wsV RX8 90 RX8 yX8_recipeAt wsX8_recipeAt) := goodIn_app (goodIn_of _ (by decide +kernel)) ggX8_leans_X8_recipeAt
set_option maxRecDepth 20000 in
theorem ggX8_leans_X4_leaning : GoodIn wsX8_leans wsX4_leaning := goodIn_r _ [14, 15, 16, 17, 18, 13, 19, 20, 21, 22, 23, 24, 39, 40, 41, 42, 43] (by decide +kernel) (by decide +kernel)
set_option maxRecDepth 20000 in
theorem gX8_leans_X4_leaning : GoodIn wsX8_leans (wsV RX8 203 RX4 yX4_leaning wsX4_leaning) := goodIn_app (goodIn_of _ (by decide +kernel)) ggX8_leans_X4_leaning
set_option maxRecDepth 20000 in
theorem ggX8_leans_X4_allWays : GoodIn wsX8_leans wsX4_allWays := goodIn_r _ [28, 15, 16, 17, 18, 13, 19, 20, 21, 22, 23, 24, 39, 40, 41, 42, 43] (by decide +kernel) (by decide +kernel)
set_option maxRecDepth 20000 in
theorem gX8_leans_X4_allWays : GoodIn wsX8_leans (wsV RX8 206 RX4 yX4_allWays wsX4_allWays) := goodIn_app (goodIn_of _ (by decide +kernel)) ggX8_leans_X4_allWays
set_option maxRecDepth 20000 in
theorem ggX8_leans_X8_partInLowestTerms : GoodIn wsX8_leans wsX8_partInLowestTerms := goodIn_r _ [31, 32, 33, 34, 35, 36, 37, 6, 38] (by decide +kernel) (by decide +kernel)
set_option maxRecDepth 20000 in
theorem gX8_leans_X8_partInLowestTerms : GoodIn wsX8_leans (va_wsS RX8 209 yX8_partInLowestTerms wsX8_partInLowestTerms) := goodIn_app (goodIn_of _ (by decide +kernel)) ggX8_leans_X8_partInLowestTerms
theorem dX8_leans_0 : decode cX8_leans 0 = .ok (.aload_n 0, 1) := by decide +kernel
theorem dX8_leans_1 : decode cX8_leans 1 = .ok (.iload_n 1, 1) := by decide +kernel
theorem dX8_leans_2 : decode cX8_leans 2 = .ok (.invokevirtual 90, 3) := by decide +kernel
theorem dX8_leans_5 : decode cX8_leans 5 = .ok (.astore_n 3, 1) := by decide +kernel
theorem dX8_leans_6 : decode cX8_leans 6 = .ok (.aload_n 3, 1) := by decide +kernel
theorem dX8_leans_7 : decode cX8_leans 7 = .ok (.ifnull 12, 3) := by decide +kernel
theorem dX8_leans_10 : decode cX8_leans 10 = .ok (.iload_n 2, 1) := by decide +kernel
theorem dX8_leans_11 : decode cX8_leans 11 = .ok (.ifCond .lt 8, 3) := by decide +kernel
theorem dX8_leans_14 : decode cX8_leans 14 = .ok (.iload_n 2, 1) := by decide +kernel
theorem dX8_leans_15 : decode cX8_leans 15 = .ok (.iconst 1, 1) := by decide +kernel
theorem dX8_leans_16 : decode cX8_leans 16 = .ok (.if_icmp .le 7, 3) := by decide +kernel
theorem dX8_leans_19 : decode cX8_leans 19 = .ok (.ldc2_w 201, 3) := by decide +kernel
theorem dX8_leans_22 : decode cX8_leans 22 = .ok (.lreturn, 1) := by decide +kernel
theorem dX8_leans_23 : decode cX8_leans 23 = .ok (.aload_n 3, 1) := by decide +kernel
theorem dX8_leans_24 : decode cX8_leans 24 = .ok (.invokevirtual 203, 3) := by decide +kernel
theorem dX8_leans_27 : decode cX8_leans 27 = .ok (.aload_n 3, 1) := by decide +kernel
theorem dX8_leans_28 : decode cX8_leans 28 = .ok (.invokevirtual 206, 3) := by decide +kernel
theorem dX8_leans_31 : decode cX8_leans 31 = .ok (.aload_n 3, 1) := by decide +kernel
theorem dX8_leans_32 : decode cX8_leans 32 = .ok (.getfield 103, 3) := by decide +kernel
theorem dX8_leans_35 : decode cX8_leans 35 = .ok (.imul, 1) := by decide +kernel
theorem dX8_leans_36 : decode cX8_leans 36 = .ok (.iload_n 2, 1) := by decide +kernel
theorem dX8_leans_37 : decode cX8_leans 37 = .ok (.invokestatic 209, 3) := by decide +kernel
theorem dX8_leans_40 : decode cX8_leans 40 = .ok (.lreturn, 1) := by decide +kernel
set_option maxRecDepth 20000 in
theorem ggX8_pairs_X8_recipeAt : GoodIn wsX8_pairs wsX8_recipeAt := goodIn_r _ [6, 7, 8, 43, 44, 45, 46, 47, 48, 49, 50, 51, 52, 53, 54, 55, 56, 57] (by decide +kernel) (by decide +kernel)
set_option maxRecDepth 20000 in
theorem gX8_pairs_X8_recipeAt : GoodIn wsX8_pairs (wsV RX8 90 RX8 yX8_recipeAt wsX8_recipeAt) := goodIn_app (goodIn_of _ (by decide +kernel)) ggX8_pairs_X8_recipeAt
set_option maxRecDepth 20000 in
theorem ggX8_pairs_X4_pairing : GoodIn wsX8_pairs wsX4_pairing := goodIn_r _ [13, 14, 15, 16, 17, 12, 18, 19, 20, 21, 22, 23, 24, 25, 26, 27, 58, 59, 60, 61, 62] (by decide +kernel) (by decide +kernel)
set_option maxRecDepth 20000 in
theorem gX8_pairs_X4_pairing : GoodIn wsX8_pairs (wsV RX8 213 RX4 yX4_pairing wsX4_pairing) := goodIn_app (goodIn_of _ (by decide +kernel)) ggX8_pairs_X4_pairing
set_option maxRecDepth 20000 in
theorem ggX8_pairs_X4_allWays : GoodIn wsX8_pairs wsX4_allWays := goodIn_r _ [31, 14, 15, 16, 17, 12, 18, 19, 20, 21, 22, 23, 58, 59, 60, 61, 62] (by decide +kernel) (by decide +kernel)
set_option maxRecDepth 20000 in
theorem gX8_pairs_X4_allWays : GoodIn wsX8_pairs (wsV RX8 206 RX4 yX4_allWays wsX4_allWays) := goodIn_app (goodIn_of _ (by decide +kernel)) ggX8_pairs_X4_allWays
set_option maxRecDepth 20000 in
theorem ggX8_pairs_X4_pairCount : GoodIn wsX8_pairs wsX4_pairCount := goodIn_r _ [27, 14, 58, 59, 60, 61, 62] (by decide +kernel) (by decide +kernel)
set_option maxRecDepth 20000 in
theorem gX8_pairs_X4_pairCount : GoodIn wsX8_pairs (wsV RX8 216 RX4 yX4_pairCount wsX4_pairCount) := goodIn_app (goodIn_of _ (by decide +kernel)) ggX8_pairs_X4_pairCount
set_option maxRecDepth 20000 in
theorem ggX8_pairs_X8_partInLowestTerms : GoodIn wsX8_pairs wsX8_partInLowestTerms := goodIn_r _ [35, 36, 37, 38, 39, 40, 41, 5, 42] (by decide +kernel) (by decide +kernel)
set_option maxRecDepth 20000 in
theorem gX8_pairs_X8_partInLowestTerms : GoodIn wsX8_pairs (va_wsS RX8 209 yX8_partInLowestTerms wsX8_partInLowestTerms) := goodIn_app (goodIn_of _ (by decide +kernel)) ggX8_pairs_X8_partInLowestTerms
theorem dX8_pairs_0 : decode cX8_pairs 0 = .ok (.aload_n 0, 1) := by decide +kernel
theorem dX8_pairs_1 : decode cX8_pairs 1 = .ok (.iload_n 1, 1) := by decide +kernel
theorem dX8_pairs_2 : decode cX8_pairs 2 = .ok (.invokevirtual 90, 3) := by decide +kernel
theorem dX8_pairs_5 : decode cX8_pairs 5 = .ok (.astore_n 3, 1) := by decide +kernel
theorem dX8_pairs_6 : decode cX8_pairs 6 = .ok (.aload_n 3, 1) := by decide +kernel
theorem dX8_pairs_7 : decode cX8_pairs 7 = .ok (.ifnull 12, 3) := by decide +kernel
theorem dX8_pairs_10 : decode cX8_pairs 10 = .ok (.iload_n 2, 1) := by decide +kernel
theorem dX8_pairs_11 : decode cX8_pairs 11 = .ok (.ifCond .lt 8, 3) := by decide +kernel
theorem dX8_pairs_14 : decode cX8_pairs 14 = .ok (.iload_n 2, 1) := by decide +kernel
theorem dX8_pairs_15 : decode cX8_pairs 15 = .ok (.iconst 1, 1) := by decide +kernel
theorem dX8_pairs_16 : decode cX8_pairs 16 = .ok (.if_icmp .le 7, 3) := by decide +kernel
theorem dX8_pairs_19 : decode cX8_pairs 19 = .ok (.ldc2_w 201, 3) := by decide +kernel
theorem dX8_pairs_22 : decode cX8_pairs 22 = .ok (.lreturn, 1) := by decide +kernel
theorem dX8_pairs_23 : decode cX8_pairs 23 = .ok (.aload_n 3, 1) := by decide +kernel
theorem dX8_pairs_24 : decode cX8_pairs 24 = .ok (.invokevirtual 213, 3) := by decide +kernel
theorem dX8_pairs_27 : decode cX8_pairs 27 = .ok (.aload_n 3, 1) := by decide +kernel
theorem dX8_pairs_28 : decode cX8_pairs 28 = .ok (.invokevirtual 206, 3) := by decide +kernel
theorem dX8_pairs_31 : decode cX8_pairs 31 = .ok (.aload_n 3, 1) := by decide +kernel
theorem dX8_pairs_32 : decode cX8_pairs 32 = .ok (.invokevirtual 216, 3) := by decide +kernel
theorem dX8_pairs_35 : decode cX8_pairs 35 = .ok (.imul, 1) := by decide +kernel
theorem dX8_pairs_36 : decode cX8_pairs 36 = .ok (.iload_n 2, 1) := by decide +kernel
theorem dX8_pairs_37 : decode cX8_pairs 37 = .ok (.invokestatic 209, 3) := by decide +kernel
theorem dX8_pairs_40 : decode cX8_pairs 40 = .ok (.lreturn, 1) := by decide +kernel
set_option maxRecDepth 20000 in
theorem ggX8_partInLowestTerms_X8_greatestShared : GoodIn wsX8_partInLowestTerms wsX8_greatestShared := goodIn_r _ [8] (by decide +kernel) (by decide +kernel)
set_option maxRecDepth 20000 in
theorem gX8_partInLowestTerms_X8_greatestShared : GoodIn wsX8_partInLowestTerms (va_wsS RX8 224 yX8_greatestShared wsX8_greatestShared) := goodIn_app (goodIn_of _ (by decide +kernel)) ggX8_partInLowestTerms_X8_greatestShared
theorem dX8_partInLowestTerms_0 : decode cX8_partInLowestTerms 0 = .ok (.iload_n 0, 1) := by decide +kernel
theorem dX8_partInLowestTerms_1 : decode cX8_partInLowestTerms 1 = .ok (.ifCond .eq 7, 3) := by decide +kernel
theorem dX8_partInLowestTerms_4 : decode cX8_partInLowestTerms 4 = .ok (.iload_n 1, 1) := by decide +kernel
theorem dX8_partInLowestTerms_5 : decode cX8_partInLowestTerms 5 = .ok (.ifCond .ne 6, 3) := by decide +kernel
theorem dX8_partInLowestTerms_8 : decode cX8_partInLowestTerms 8 = .ok (.iload_n 2, 1) := by decide +kernel
theorem dX8_partInLowestTerms_9 : decode cX8_partInLowestTerms 9 = .ok (.i2l, 1) := by decide +kernel
theorem dX8_partInLowestTerms_10 : decode cX8_partInLowestTerms 10 = .ok (.lreturn, 1) := by decide +kernel
theorem dX8_partInLowestTerms_11 : decode cX8_partInLowestTerms 11 = .ok (.iload_n 0, 1) := by decide +kernel
theorem dX8_partInLowestTerms_12 : decode cX8_partInLowestTerms 12 = .ok (.invokestatic 219, 3) := by decide +kernel
theorem dX8_partInLowestTerms_15 : decode cX8_partInLowestTerms 15 = .ok (.iload_n 1, 1) := by decide +kernel
theorem dX8_partInLowestTerms_16 : decode cX8_partInLowestTerms 16 = .ok (.invokestatic 224, 3) := by decide +kernel
theorem dX8_partInLowestTerms_19 : decode cX8_partInLowestTerms 19 = .ok (.istore_n 3, 1) := by decide +kernel
theorem dX8_partInLowestTerms_20 : decode cX8_partInLowestTerms 20 = .ok (.iload_n 2, 1) := by decide +kernel
theorem dX8_partInLowestTerms_21 : decode cX8_partInLowestTerms 21 = .ok (.ifCond .ne 7, 3) := by decide +kernel
theorem dX8_partInLowestTerms_24 : decode cX8_partInLowestTerms 24 = .ok (.iload_n 0, 1) := by decide +kernel
theorem dX8_partInLowestTerms_25 : decode cX8_partInLowestTerms 25 = .ok (.goto 4, 3) := by decide +kernel
theorem dX8_partInLowestTerms_28 : decode cX8_partInLowestTerms 28 = .ok (.iload_n 1, 1) := by decide +kernel
theorem dX8_partInLowestTerms_29 : decode cX8_partInLowestTerms 29 = .ok (.istore 4, 2) := by decide +kernel
theorem dX8_partInLowestTerms_31 : decode cX8_partInLowestTerms 31 = .ok (.iload_n 3, 1) := by decide +kernel
theorem dX8_partInLowestTerms_32 : decode cX8_partInLowestTerms 32 = .ok (.ifCond .ne 9, 3) := by decide +kernel
theorem dX8_partInLowestTerms_35 : decode cX8_partInLowestTerms 35 = .ok (.iload 4, 2) := by decide +kernel
theorem dX8_partInLowestTerms_37 : decode cX8_partInLowestTerms 37 = .ok (.i2l, 1) := by decide +kernel
theorem dX8_partInLowestTerms_38 : decode cX8_partInLowestTerms 38 = .ok (.goto 8, 3) := by decide +kernel
theorem dX8_partInLowestTerms_41 : decode cX8_partInLowestTerms 41 = .ok (.iload 4, 2) := by decide +kernel
theorem dX8_partInLowestTerms_43 : decode cX8_partInLowestTerms 43 = .ok (.iload_n 3, 1) := by decide +kernel
theorem dX8_partInLowestTerms_44 : decode cX8_partInLowestTerms 44 = .ok (.idiv, 1) := by decide +kernel
theorem dX8_partInLowestTerms_45 : decode cX8_partInLowestTerms 45 = .ok (.i2l, 1) := by decide +kernel
theorem dX8_partInLowestTerms_46 : decode cX8_partInLowestTerms 46 = .ok (.lreturn, 1) := by decide +kernel
theorem dX8_greatestShared_0 : decode cX8_greatestShared 0 = .ok (.iload_n 0, 1) := by decide +kernel
theorem dX8_greatestShared_1 : decode cX8_greatestShared 1 = .ok (.istore_n 2, 1) := by decide +kernel
theorem dX8_greatestShared_2 : decode cX8_greatestShared 2 = .ok (.iload_n 1, 1) := by decide +kernel
theorem dX8_greatestShared_3 : decode cX8_greatestShared 3 = .ok (.istore_n 3, 1) := by decide +kernel
theorem dX8_greatestShared_4 : decode cX8_greatestShared 4 = .ok (.iconst 0, 1) := by decide +kernel
theorem dX8_greatestShared_5 : decode cX8_greatestShared 5 = .ok (.istore 4, 2) := by decide +kernel
theorem dX8_greatestShared_7 : decode cX8_greatestShared 7 = .ok (.iload 4, 2) := by decide +kernel
theorem dX8_greatestShared_9 : decode cX8_greatestShared 9 = .ok (.bipush 100, 2) := by decide +kernel
theorem dX8_greatestShared_11 : decode cX8_greatestShared 11 = .ok (.if_icmp .ge 23, 3) := by decide +kernel
theorem dX8_greatestShared_14 : decode cX8_greatestShared 14 = .ok (.iload_n 3, 1) := by decide +kernel
theorem dX8_greatestShared_15 : decode cX8_greatestShared 15 = .ok (.ifCond .eq 19, 3) := by decide +kernel
theorem dX8_greatestShared_18 : decode cX8_greatestShared 18 = .ok (.iload_n 2, 1) := by decide +kernel
theorem dX8_greatestShared_19 : decode cX8_greatestShared 19 = .ok (.iload_n 3, 1) := by decide +kernel
theorem dX8_greatestShared_20 : decode cX8_greatestShared 20 = .ok (.irem, 1) := by decide +kernel
theorem dX8_greatestShared_21 : decode cX8_greatestShared 21 = .ok (.istore 5, 2) := by decide +kernel
theorem dX8_greatestShared_23 : decode cX8_greatestShared 23 = .ok (.iload_n 3, 1) := by decide +kernel
theorem dX8_greatestShared_24 : decode cX8_greatestShared 24 = .ok (.istore_n 2, 1) := by decide +kernel
theorem dX8_greatestShared_25 : decode cX8_greatestShared 25 = .ok (.iload 5, 2) := by decide +kernel
theorem dX8_greatestShared_27 : decode cX8_greatestShared 27 = .ok (.istore_n 3, 1) := by decide +kernel
theorem dX8_greatestShared_28 : decode cX8_greatestShared 28 = .ok (.iinc 4 1, 3) := by decide +kernel
theorem dX8_greatestShared_31 : decode cX8_greatestShared 31 = .ok (.goto (-24), 3) := by decide +kernel
theorem dX8_greatestShared_34 : decode cX8_greatestShared 34 = .ok (.iload_n 2, 1) := by decide +kernel
theorem dX8_greatestShared_35 : decode cX8_greatestShared 35 = .ok (.ireturn, 1) := by decide +kernel
set_option maxRecDepth 20000 in
theorem ggX8_balance_X8_recipeAt : GoodIn wsX8_balance wsX8_recipeAt := goodIn_r _ [11, 12, 13, 47, 48, 49, 50, 51, 52, 53, 54, 55, 56, 57, 58, 59, 60, 61] (by decide +kernel) (by decide +kernel)
set_option maxRecDepth 20000 in
theorem gX8_balance_X8_recipeAt : GoodIn wsX8_balance (wsV RX8 90 RX8 yX8_recipeAt wsX8_recipeAt) := goodIn_app (goodIn_of _ (by decide +kernel)) ggX8_balance_X8_recipeAt
set_option maxRecDepth 20000 in
theorem ggX8_balance_X4_balancesWith : GoodIn wsX8_balance wsX4_balancesWith := goodIn_r _ [18, 19, 20, 21, 22, 23, 24, 25, 26, 27, 28, 17, 29, 30, 31, 32, 33, 34, 35, 36, 37, 38, 39, 40, 41, 42, 43, 44, 45, 46] (by decide +kernel) (by decide +kernel)
set_option maxRecDepth 20000 in
theorem gX8_balance_X4_balancesWith : GoodIn wsX8_balance (wsV RX8 227 RX4 yX4_balancesWith wsX4_balancesWith) := goodIn_app (goodIn_of _ (by decide +kernel)) ggX8_balance_X4_balancesWith
theorem dX8_balance_0 : decode cX8_balance 0 = .ok (.aload_n 0, 1) := by decide +kernel
theorem dX8_balance_1 : decode cX8_balance 1 = .ok (.iload_n 1, 1) := by decide +kernel
theorem dX8_balance_2 : decode cX8_balance 2 = .ok (.invokevirtual 90, 3) := by decide +kernel
theorem dX8_balance_5 : decode cX8_balance 5 = .ok (.astore_n 2, 1) := by decide +kernel
theorem dX8_balance_6 : decode cX8_balance 6 = .ok (.aload_n 2, 1) := by decide +kernel
theorem dX8_balance_7 : decode cX8_balance 7 = .ok (.ifnonnull 6, 3) := by decide +kernel
theorem dX8_balance_10 : decode cX8_balance 10 = .ok (.bipush (-5), 2) := by decide +kernel
theorem dX8_balance_12 : decode cX8_balance 12 = .ok (.ireturn, 1) := by decide +kernel
theorem dX8_balance_13 : decode cX8_balance 13 = .ok (.iconst (-1), 1) := by decide +kernel
theorem dX8_balance_14 : decode cX8_balance 14 = .ok (.istore_n 3, 1) := by decide +kernel
theorem dX8_balance_15 : decode cX8_balance 15 = .ok (.bipush 100, 2) := by decide +kernel
theorem dX8_balance_17 : decode cX8_balance 17 = .ok (.istore 4, 2) := by decide +kernel
theorem dX8_balance_19 : decode cX8_balance 19 = .ok (.iconst 0, 1) := by decide +kernel
theorem dX8_balance_20 : decode cX8_balance 20 = .ok (.istore 5, 2) := by decide +kernel
theorem dX8_balance_22 : decode cX8_balance 22 = .ok (.iload 5, 2) := by decide +kernel
theorem dX8_balance_24 : decode cX8_balance 24 = .ok (.aload_n 2, 1) := by decide +kernel
theorem dX8_balance_25 : decode cX8_balance 25 = .ok (.getfield 103, 3) := by decide +kernel
theorem dX8_balance_28 : decode cX8_balance 28 = .ok (.if_icmp .gt 71, 3) := by decide +kernel
theorem dX8_balance_31 : decode cX8_balance 31 = .ok (.iconst 0, 1) := by decide +kernel
theorem dX8_balance_32 : decode cX8_balance 32 = .ok (.istore 6, 2) := by decide +kernel
theorem dX8_balance_34 : decode cX8_balance 34 = .ok (.iload 6, 2) := by decide +kernel
theorem dX8_balance_36 : decode cX8_balance 36 = .ok (.bipush 99, 2) := by decide +kernel
theorem dX8_balance_38 : decode cX8_balance 38 = .ok (.if_icmp .gt 55, 3) := by decide +kernel
theorem dX8_balance_41 : decode cX8_balance 41 = .ok (.iload 6, 2) := by decide +kernel
theorem dX8_balance_43 : decode cX8_balance 43 = .ok (.aload_n 2, 1) := by decide +kernel
theorem dX8_balance_44 : decode cX8_balance 44 = .ok (.getfield 106, 3) := by decide +kernel
theorem dX8_balance_47 : decode cX8_balance 47 = .ok (.iload 5, 2) := by decide +kernel
theorem dX8_balance_49 : decode cX8_balance 49 = .ok (.iaload, 1) := by decide +kernel
theorem dX8_balance_50 : decode cX8_balance 50 = .ok (.isub, 1) := by decide +kernel
theorem dX8_balance_51 : decode cX8_balance 51 = .ok (.invokestatic 219, 3) := by decide +kernel
theorem dX8_balance_54 : decode cX8_balance 54 = .ok (.istore 7, 2) := by decide +kernel
theorem dX8_balance_56 : decode cX8_balance 56 = .ok (.iload 7, 2) := by decide +kernel
theorem dX8_balance_58 : decode cX8_balance 58 = .ok (.iload 4, 2) := by decide +kernel
theorem dX8_balance_60 : decode cX8_balance 60 = .ok (.if_icmp .ge 27, 3) := by decide +kernel
theorem dX8_balance_63 : decode cX8_balance 63 = .ok (.aload_n 2, 1) := by decide +kernel
theorem dX8_balance_64 : decode cX8_balance 64 = .ok (.iload 5, 2) := by decide +kernel
theorem dX8_balance_66 : decode cX8_balance 66 = .ok (.iload 6, 2) := by decide +kernel
theorem dX8_balance_68 : decode cX8_balance 68 = .ok (.invokevirtual 227, 3) := by decide +kernel
theorem dX8_balance_71 : decode cX8_balance 71 = .ok (.ifCond .eq 16, 3) := by decide +kernel
theorem dX8_balance_74 : decode cX8_balance 74 = .ok (.bipush 100, 2) := by decide +kernel
theorem dX8_balance_76 : decode cX8_balance 76 = .ok (.iload 5, 2) := by decide +kernel
theorem dX8_balance_78 : decode cX8_balance 78 = .ok (.imul, 1) := by decide +kernel
theorem dX8_balance_79 : decode cX8_balance 79 = .ok (.iload 6, 2) := by decide +kernel
theorem dX8_balance_81 : decode cX8_balance 81 = .ok (.iadd, 1) := by decide +kernel
theorem dX8_balance_82 : decode cX8_balance 82 = .ok (.istore_n 3, 1) := by decide +kernel
theorem dX8_balance_83 : decode cX8_balance 83 = .ok (.iload 7, 2) := by decide +kernel
theorem dX8_balance_85 : decode cX8_balance 85 = .ok (.istore 4, 2) := by decide +kernel
theorem dX8_balance_87 : decode cX8_balance 87 = .ok (.iinc 6 1, 3) := by decide +kernel
theorem dX8_balance_90 : decode cX8_balance 90 = .ok (.goto (-56), 3) := by decide +kernel
theorem dX8_balance_93 : decode cX8_balance 93 = .ok (.iinc 5 1, 3) := by decide +kernel
theorem dX8_balance_96 : decode cX8_balance 96 = .ok (.goto (-74), 3) := by decide +kernel
theorem dX8_balance_99 : decode cX8_balance 99 = .ok (.iload_n 3, 1) := by decide +kernel
theorem dX8_balance_100 : decode cX8_balance 100 = .ok (.ireturn, 1) := by decide +kernel
set_option maxRecDepth 20000 in
theorem ggX8_find_X8_taskAt : GoodIn wsX8_find wsX8_taskAt := goodIn_r _ [8, 9, 10, 104, 105, 106, 107, 108, 109, 110, 111, 112, 113, 114, 115, 116, 117, 118] (by decide +kernel) (by decide +kernel)
set_option maxRecDepth 20000 in
theorem gX8_find_X8_taskAt : GoodIn wsX8_find (wsV RX8 165 RX8 yX8_taskAt wsX8_taskAt) := goodIn_app (goodIn_of _ (by decide +kernel)) ggX8_find_X8_taskAt
set_option maxRecDepth 20000 in
theorem ggX8_find_X8_isFinder : GoodIn wsX8_find wsX8_isFinder := goodIn_r _ [13] (by decide +kernel) (by decide +kernel)
set_option maxRecDepth 20000 in
theorem gX8_find_X8_isFinder : GoodIn wsX8_find (va_wsS RX8 230 yX8_isFinder wsX8_isFinder) := goodIn_app (goodIn_of _ (by decide +kernel)) ggX8_find_X8_isFinder
set_option maxRecDepth 20000 in
theorem ggX8_find_X1_seek : GoodIn wsX8_find wsX1_seek := goodIn_r _ [18, 19, 20, 21, 22, 23, 24, 25, 26, 27, 28, 29, 30, 31, 32, 33, 34, 35, 36, 37, 38, 39, 40, 17, 41, 42, 43, 44, 45, 46, 47, 48, 49, 50, 51, 52, 53, 54, 55, 56, 57, 58, 59, 60, 61, 62, 63, 64, 65, 66, 67, 68, 69, 70, 71, 72, 73, 74, 75, 76, 77, 78, 79, 80, 81, 82, 83, 84, 85, 86, 87, 88, 89, 90, 91, 92, 93, 94, 95, 96, 97, 98, 119, 120, 121, 122, 123, 124, 125, 126, 127, 128] (by decide +kernel) (by decide +kernel)
set_option maxRecDepth 20000 in
theorem gX8_find_X1_seek : GoodIn wsX8_find (wsV RX8 233 RX1 yX1_seek wsX1_seek) := goodIn_app (goodIn_of _ (by decide +kernel)) ggX8_find_X1_seek
set_option maxRecDepth 20000 in
theorem ggX8_find_X1_foundHidden : GoodIn wsX8_find wsX1_foundHidden := goodIn_r _ [102, 19, 103, 119, 120, 121, 122, 123, 124, 125, 126, 127, 128] (by decide +kernel) (by decide +kernel)
set_option maxRecDepth 20000 in
theorem gX8_find_X1_foundHidden : GoodIn wsX8_find (wsV RX8 243 RX1 yX1_foundHidden wsX1_foundHidden) := goodIn_app (goodIn_of _ (by decide +kernel)) ggX8_find_X1_foundHidden
theorem dX8_find_0 : decode cX8_find 0 = .ok (.aload_n 0, 1) := by decide +kernel
theorem dX8_find_1 : decode cX8_find 1 = .ok (.iload_n 1, 1) := by decide +kernel
theorem dX8_find_2 : decode cX8_find 2 = .ok (.invokevirtual 165, 3) := by decide +kernel
theorem dX8_find_5 : decode cX8_find 5 = .ok (.astore 5, 2) := by decide +kernel
theorem dX8_find_7 : decode cX8_find 7 = .ok (.aload 5, 2) := by decide +kernel
theorem dX8_find_9 : decode cX8_find 9 = .ok (.ifnonnull 6, 3) := by decide +kernel
theorem dX8_find_12 : decode cX8_find 12 = .ok (.bipush (-5), 2) := by decide +kernel
theorem dX8_find_14 : decode cX8_find 14 = .ok (.ireturn, 1) := by decide +kernel
theorem dX8_find_15 : decode cX8_find 15 = .ok (.iload_n 2, 1) := by decide +kernel
theorem dX8_find_16 : decode cX8_find 16 = .ok (.invokestatic 230, 3) := by decide +kernel
theorem dX8_find_19 : decode cX8_find 19 = .ok (.ifCond .eq 25, 3) := by decide +kernel
theorem dX8_find_22 : decode cX8_find 22 = .ok (.iload_n 3, 1) := by decide +kernel
theorem dX8_find_23 : decode cX8_find 23 = .ok (.ifCond .lt 21, 3) := by decide +kernel
theorem dX8_find_26 : decode cX8_find 26 = .ok (.iload_n 3, 1) := by decide +kernel
theorem dX8_find_27 : decode cX8_find 27 = .ok (.sipush 2000, 3) := by decide +kernel
theorem dX8_find_30 : decode cX8_find 30 = .ok (.if_icmp .gt 14, 3) := by decide +kernel
theorem dX8_find_33 : decode cX8_find 33 = .ok (.iload 4, 2) := by decide +kernel
theorem dX8_find_35 : decode cX8_find 35 = .ok (.ifCond .lt 9, 3) := by decide +kernel
theorem dX8_find_38 : decode cX8_find 38 = .ok (.iload 4, 2) := by decide +kernel
theorem dX8_find_40 : decode cX8_find 40 = .ok (.iconst 2, 1) := by decide +kernel
theorem dX8_find_41 : decode cX8_find 41 = .ok (.if_icmp .le 6, 3) := by decide +kernel
theorem dX8_find_44 : decode cX8_find 44 = .ok (.bipush (-2), 2) := by decide +kernel
theorem dX8_find_46 : decode cX8_find 46 = .ok (.ireturn, 1) := by decide +kernel
theorem dX8_find_47 : decode cX8_find 47 = .ok (.aload_n 0, 1) := by decide +kernel
theorem dX8_find_48 : decode cX8_find 48 = .ok (.getfield 26, 3) := by decide +kernel
theorem dX8_find_51 : decode cX8_find 51 = .ok (.aload 5, 2) := by decide +kernel
theorem dX8_find_53 : decode cX8_find 53 = .ok (.iload_n 2, 1) := by decide +kernel
theorem dX8_find_54 : decode cX8_find 54 = .ok (.iload_n 3, 1) := by decide +kernel
theorem dX8_find_55 : decode cX8_find 55 = .ok (.invokevirtual 233, 3) := by decide +kernel
theorem dX8_find_58 : decode cX8_find 58 = .ok (.iload 4, 2) := by decide +kernel
theorem dX8_find_60 : decode cX8_find 60 = .ok (.lookupswitch 44 #[(0, 28), (1, 36)], 28) := by decide +kernel
theorem dX8_find_88 : decode cX8_find 88 = .ok (.aload_n 0, 1) := by decide +kernel
theorem dX8_find_89 : decode cX8_find 89 = .ok (.getfield 26, 3) := by decide +kernel
theorem dX8_find_92 : decode cX8_find 92 = .ok (.getfield 237, 3) := by decide +kernel
theorem dX8_find_95 : decode cX8_find 95 = .ok (.ireturn, 1) := by decide +kernel
theorem dX8_find_96 : decode cX8_find 96 = .ok (.aload_n 0, 1) := by decide +kernel
theorem dX8_find_97 : decode cX8_find 97 = .ok (.getfield 26, 3) := by decide +kernel
theorem dX8_find_100 : decode cX8_find 100 = .ok (.getfield 240, 3) := by decide +kernel
theorem dX8_find_103 : decode cX8_find 103 = .ok (.ireturn, 1) := by decide +kernel
theorem dX8_find_104 : decode cX8_find 104 = .ok (.aload_n 0, 1) := by decide +kernel
theorem dX8_find_105 : decode cX8_find 105 = .ok (.getfield 26, 3) := by decide +kernel
theorem dX8_find_108 : decode cX8_find 108 = .ok (.aload 5, 2) := by decide +kernel
theorem dX8_find_110 : decode cX8_find 110 = .ok (.invokevirtual 243, 3) := by decide +kernel
theorem dX8_find_113 : decode cX8_find 113 = .ok (.ifCond .eq 7, 3) := by decide +kernel
theorem dX8_find_116 : decode cX8_find 116 = .ok (.iconst 1, 1) := by decide +kernel
theorem dX8_find_117 : decode cX8_find 117 = .ok (.goto 4, 3) := by decide +kernel
theorem dX8_find_120 : decode cX8_find 120 = .ok (.iconst 0, 1) := by decide +kernel
theorem dX8_find_121 : decode cX8_find 121 = .ok (.ireturn, 1) := by decide +kernel
set_option maxRecDepth 20000 in
theorem ggX8_heap_X8_recipeAt : GoodIn wsX8_heap wsX8_recipeAt := goodIn_r _ [9, 10, 11, 175, 176, 177, 178, 179, 180, 181, 182, 183, 184, 185, 186, 187, 188, 189] (by decide +kernel) (by decide +kernel)
set_option maxRecDepth 20000 in
theorem gX8_heap_X8_recipeAt : GoodIn wsX8_heap (wsV RX8 90 RX8 yX8_recipeAt wsX8_recipeAt) := goodIn_app (goodIn_of _ (by decide +kernel)) ggX8_heap_X8_recipeAt
set_option maxRecDepth 20000 in
theorem ggX8_heap_X8_isHeap : GoodIn wsX8_heap wsX8_isHeap := goodIn_r _ [14, 15] (by decide +kernel) (by decide +kernel)
set_option maxRecDepth 20000 in
theorem gX8_heap_X8_isHeap : GoodIn wsX8_heap (va_wsS RX8 247 yX8_isHeap wsX8_isHeap) := goodIn_app (goodIn_of _ (by decide +kernel)) ggX8_heap_X8_isHeap
set_option maxRecDepth 20000 in
theorem ggX8_heap_X8_isFinder : GoodIn wsX8_heap wsX8_isFinder := goodIn_r _ [18] (by decide +kernel) (by decide +kernel)
set_option maxRecDepth 20000 in
theorem gX8_heap_X8_isFinder : GoodIn wsX8_heap (va_wsS RX8 230 yX8_isFinder wsX8_isFinder) := goodIn_app (goodIn_of _ (by decide +kernel)) ggX8_heap_X8_isFinder
set_option maxRecDepth 20000 in
theorem ggX8_heap_X3_fill : GoodIn wsX8_heap wsX3_fill := goodIn_r _ [23, 24, 25, 26, 27, 28, 29, 30, 31, 32, 33, 34, 35, 36, 37, 38, 39, 40, 41, 42, 43, 22, 44, 45, 46, 47, 48, 49, 50, 51, 52, 53, 54, 55, 56, 57, 58, 59, 60, 61, 62, 63, 64, 65, 66, 67, 68, 69, 70, 71, 72, 73, 74, 75, 76, 77, 78, 79, 80, 81, 82, 83, 84, 192, 193, 194, 195, 196, 197, 198, 199, 200, 201, 202, 203, 204, 205] (by decide +kernel) (by decide +kernel)
set_option maxRecDepth 20000 in
theorem gX8_heap_X3_fill : GoodIn wsX8_heap (wsV RX8 113 RX3 yX3_fill wsX3_fill) := goodIn_app (goodIn_of _ (by decide +kernel)) ggX8_heap_X3_fill
set_option maxRecDepth 20000 in
theorem ggX8_heap_X7_countAnswers : GoodIn wsX8_heap wsX7_countAnswers := goodIn_r _ [88, 89, 90, 91, 33, 92, 36, 93, 94, 95, 96, 97, 98, 99, 100, 37, 101, 102, 103, 104, 35, 105, 106, 107, 108, 83, 84, 109, 110, 111, 112, 113, 114, 115, 116, 117, 118, 119, 120, 121, 122, 123, 198, 199, 200, 201, 202, 203, 204, 205] (by decide +kernel) (by decide +kernel)
set_option maxRecDepth 20000 in
theorem gX8_heap_X7_countAnswers : GoodIn wsX8_heap (wsV RX8 185 RX7 yX7_countAnswers wsX7_countAnswers) := goodIn_app (goodIn_of _ (by decide +kernel)) ggX8_heap_X7_countAnswers
set_option maxRecDepth 20000 in
theorem ggX8_heap_X1_seek : GoodIn wsX8_heap wsX1_seek := goodIn_r _ [128, 129, 130, 131, 132, 133, 134, 135, 136, 137, 33, 138, 36, 139, 140, 141, 142, 37, 83, 84, 143, 144, 145, 127, 146, 147, 94, 95, 96, 97, 98, 99, 100, 101, 102, 103, 104, 35, 105, 106, 107, 108, 109, 110, 111, 112, 113, 114, 115, 116, 117, 118, 119, 120, 121, 122, 123, 148, 149, 150, 151, 152, 153, 90, 91, 92, 154, 155, 156, 157, 158, 159, 160, 161, 162, 163, 164, 165, 166, 167, 168, 169, 190, 191, 198, 199, 200, 201, 202, 203, 204, 205] (by decide +kernel) (by decide +kernel)
set_option maxRecDepth 20000 in
theorem gX8_heap_X1_seek : GoodIn wsX8_heap (wsV RX8 233 RX1 yX1_seek wsX1_seek) := goodIn_app (goodIn_of _ (by decide +kernel)) ggX8_heap_X1_seek
set_option maxRecDepth 20000 in
theorem ggX8_heap_X1_foundHidden : GoodIn wsX8_heap wsX1_foundHidden := goodIn_r _ [173, 129, 174, 190, 191, 198, 199, 200, 201, 202, 203, 204, 205] (by decide +kernel) (by decide +kernel)
set_option maxRecDepth 20000 in
theorem gX8_heap_X1_foundHidden : GoodIn wsX8_heap (wsV RX8 243 RX1 yX1_foundHidden wsX1_foundHidden) := goodIn_app (goodIn_of _ (by decide +kernel)) ggX8_heap_X1_foundHidden
theorem dX8_heap_0 : decode cX8_heap 0 = .ok (.aload_n 0, 1) := by decide +kernel
theorem dX8_heap_1 : decode cX8_heap 1 = .ok (.iload_n 1, 1) := by decide +kernel
theorem dX8_heap_2 : decode cX8_heap 2 = .ok (.invokevirtual 90, 3) := by decide +kernel
theorem dX8_heap_5 : decode cX8_heap 5 = .ok (.astore 7, 2) := by decide +kernel
theorem dX8_heap_7 : decode cX8_heap 7 = .ok (.aload 7, 2) := by decide +kernel
theorem dX8_heap_9 : decode cX8_heap 9 = .ok (.ifnonnull 6, 3) := by decide +kernel
theorem dX8_heap_12 : decode cX8_heap 12 = .ok (.bipush (-5), 2) := by decide +kernel
theorem dX8_heap_14 : decode cX8_heap 14 = .ok (.ireturn, 1) := by decide +kernel
theorem dX8_heap_15 : decode cX8_heap 15 = .ok (.iload_n 2, 1) := by decide +kernel
theorem dX8_heap_16 : decode cX8_heap 16 = .ok (.iload_n 3, 1) := by decide +kernel
theorem dX8_heap_17 : decode cX8_heap 17 = .ok (.invokestatic 247, 3) := by decide +kernel
theorem dX8_heap_20 : decode cX8_heap 20 = .ok (.ifCond .eq 35, 3) := by decide +kernel
theorem dX8_heap_23 : decode cX8_heap 23 = .ok (.iload 4, 2) := by decide +kernel
theorem dX8_heap_25 : decode cX8_heap 25 = .ok (.invokestatic 230, 3) := by decide +kernel
theorem dX8_heap_28 : decode cX8_heap 28 = .ok (.ifCond .eq 27, 3) := by decide +kernel
theorem dX8_heap_31 : decode cX8_heap 31 = .ok (.iload 5, 2) := by decide +kernel
theorem dX8_heap_33 : decode cX8_heap 33 = .ok (.ifCond .lt 22, 3) := by decide +kernel
theorem dX8_heap_36 : decode cX8_heap 36 = .ok (.iload 5, 2) := by decide +kernel
theorem dX8_heap_38 : decode cX8_heap 38 = .ok (.sipush 200, 3) := by decide +kernel
theorem dX8_heap_41 : decode cX8_heap 41 = .ok (.if_icmp .gt 14, 3) := by decide +kernel
theorem dX8_heap_44 : decode cX8_heap 44 = .ok (.iload 6, 2) := by decide +kernel
theorem dX8_heap_46 : decode cX8_heap 46 = .ok (.ifCond .lt 9, 3) := by decide +kernel
theorem dX8_heap_49 : decode cX8_heap 49 = .ok (.iload 6, 2) := by decide +kernel
theorem dX8_heap_51 : decode cX8_heap 51 = .ok (.iconst 2, 1) := by decide +kernel
theorem dX8_heap_52 : decode cX8_heap 52 = .ok (.if_icmp .le 6, 3) := by decide +kernel
theorem dX8_heap_55 : decode cX8_heap 55 = .ok (.bipush (-2), 2) := by decide +kernel
theorem dX8_heap_57 : decode cX8_heap 57 = .ok (.ireturn, 1) := by decide +kernel
theorem dX8_heap_58 : decode cX8_heap 58 = .ok (.iconst 0, 1) := by decide +kernel
theorem dX8_heap_59 : decode cX8_heap 59 = .ok (.istore 8, 2) := by decide +kernel
theorem dX8_heap_61 : decode cX8_heap 61 = .ok (.iconst 0, 1) := by decide +kernel
theorem dX8_heap_62 : decode cX8_heap 62 = .ok (.istore 9, 2) := by decide +kernel
theorem dX8_heap_64 : decode cX8_heap 64 = .ok (.iload 9, 2) := by decide +kernel
theorem dX8_heap_66 : decode cX8_heap 66 = .ok (.iload_n 3, 1) := by decide +kernel
theorem dX8_heap_67 : decode cX8_heap 67 = .ok (.if_icmp .ge 114, 3) := by decide +kernel
theorem dX8_heap_70 : decode cX8_heap 70 = .ok (.aload_n 0, 1) := by decide +kernel
theorem dX8_heap_71 : decode cX8_heap 71 = .ok (.getfield 19, 3) := by decide +kernel
theorem dX8_heap_74 : decode cX8_heap 74 = .ok (.aload_n 0, 1) := by decide +kernel
theorem dX8_heap_75 : decode cX8_heap 75 = .ok (.getfield 33, 3) := by decide +kernel
theorem dX8_heap_78 : decode cX8_heap 78 = .ok (.aload 7, 2) := by decide +kernel
theorem dX8_heap_80 : decode cX8_heap 80 = .ok (.iload_n 2, 1) := by decide +kernel
theorem dX8_heap_81 : decode cX8_heap 81 = .ok (.iload 9, 2) := by decide +kernel
theorem dX8_heap_83 : decode cX8_heap 83 = .ok (.iadd, 1) := by decide +kernel
theorem dX8_heap_84 : decode cX8_heap 84 = .ok (.invokevirtual 113, 3) := by decide +kernel
theorem dX8_heap_87 : decode cX8_heap 87 = .ok (.iload 6, 2) := by decide +kernel
theorem dX8_heap_89 : decode cX8_heap 89 = .ok (.iconst 2, 1) := by decide +kernel
theorem dX8_heap_90 : decode cX8_heap 90 = .ok (.if_icmp .ne 26, 3) := by decide +kernel
theorem dX8_heap_93 : decode cX8_heap 93 = .ok (.aload_n 0, 1) := by decide +kernel
theorem dX8_heap_94 : decode cX8_heap 94 = .ok (.getfield 33, 3) := by decide +kernel
theorem dX8_heap_97 : decode cX8_heap 97 = .ok (.iconst 0, 1) := by decide +kernel
theorem dX8_heap_98 : decode cX8_heap 98 = .ok (.iconst 0, 1) := by decide +kernel
theorem dX8_heap_99 : decode cX8_heap 99 = .ok (.invokevirtual 185, 3) := by decide +kernel
theorem dX8_heap_102 : decode cX8_heap 102 = .ok (.iconst 1, 1) := by decide +kernel
theorem dX8_heap_103 : decode cX8_heap 103 = .ok (.if_icmp .ne 7, 3) := by decide +kernel
theorem dX8_heap_106 : decode cX8_heap 106 = .ok (.iconst 1, 1) := by decide +kernel
theorem dX8_heap_107 : decode cX8_heap 107 = .ok (.goto 4, 3) := by decide +kernel
theorem dX8_heap_110 : decode cX8_heap 110 = .ok (.iconst 0, 1) := by decide +kernel
theorem dX8_heap_111 : decode cX8_heap 111 = .ok (.istore 10, 2) := by decide +kernel
theorem dX8_heap_113 : decode cX8_heap 113 = .ok (.goto 54, 3) := by decide +kernel
theorem dX8_heap_116 : decode cX8_heap 116 = .ok (.aload_n 0, 1) := by decide +kernel
theorem dX8_heap_117 : decode cX8_heap 117 = .ok (.getfield 26, 3) := by decide +kernel
theorem dX8_heap_120 : decode cX8_heap 120 = .ok (.aload_n 0, 1) := by decide +kernel
theorem dX8_heap_121 : decode cX8_heap 121 = .ok (.getfield 33, 3) := by decide +kernel
theorem dX8_heap_124 : decode cX8_heap 124 = .ok (.iload 4, 2) := by decide +kernel
theorem dX8_heap_126 : decode cX8_heap 126 = .ok (.iload 5, 2) := by decide +kernel
theorem dX8_heap_128 : decode cX8_heap 128 = .ok (.invokevirtual 233, 3) := by decide +kernel
theorem dX8_heap_131 : decode cX8_heap 131 = .ok (.iload 6, 2) := by decide +kernel
theorem dX8_heap_133 : decode cX8_heap 133 = .ok (.ifCond .ne 21, 3) := by decide +kernel
theorem dX8_heap_136 : decode cX8_heap 136 = .ok (.aload_n 0, 1) := by decide +kernel
theorem dX8_heap_137 : decode cX8_heap 137 = .ok (.getfield 26, 3) := by decide +kernel
theorem dX8_heap_140 : decode cX8_heap 140 = .ok (.getfield 237, 3) := by decide +kernel
theorem dX8_heap_143 : decode cX8_heap 143 = .ok (.ifCond .lt 7, 3) := by decide +kernel
theorem dX8_heap_146 : decode cX8_heap 146 = .ok (.iconst 1, 1) := by decide +kernel
theorem dX8_heap_147 : decode cX8_heap 147 = .ok (.goto 18, 3) := by decide +kernel
theorem dX8_heap_150 : decode cX8_heap 150 = .ok (.iconst 0, 1) := by decide +kernel
theorem dX8_heap_151 : decode cX8_heap 151 = .ok (.goto 14, 3) := by decide +kernel
theorem dX8_heap_154 : decode cX8_heap 154 = .ok (.aload_n 0, 1) := by decide +kernel
theorem dX8_heap_155 : decode cX8_heap 155 = .ok (.getfield 26, 3) := by decide +kernel
theorem dX8_heap_158 : decode cX8_heap 158 = .ok (.aload_n 0, 1) := by decide +kernel
