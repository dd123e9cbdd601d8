set_option maxRecDepth 20000 in
theorem gX9_answersOf_X9_doesSolve : GoodIn wsX9_answersOf (wsV RX9 178 RX9 yX9_doesSolve wsX9_doesSolve) := goodIn_app (goodIn_of _ (by decide +kernel)) ggX9_answersOf_X9_doesSolve
theorem dX9_answersOf_0 : decode cX9_answersOf 0 = .ok (.iconst 0, 1) := by decide +kernel
theorem dX9_answersOf_1 : decode cX9_answersOf 1 = .ok (.istore 4, 2) := by decide +kernel
theorem dX9_answersOf_3 : decode cX9_answersOf 3 = .ok (.iconst 0, 1) := by decide +kernel
theorem dX9_answersOf_4 : decode cX9_answersOf 4 = .ok (.istore 5, 2) := by decide +kernel
theorem dX9_answersOf_6 : decode cX9_answersOf 6 = .ok (.iload 5, 2) := by decide +kernel
theorem dX9_answersOf_8 : decode cX9_answersOf 8 = .ok (.iconst 1, 1) := by decide +kernel
theorem dX9_answersOf_9 : decode cX9_answersOf 9 = .ok (.aload_n 0, 1) := by decide +kernel
theorem dX9_answersOf_10 : decode cX9_answersOf 10 = .ok (.getfield 31, 3) := by decide +kernel
theorem dX9_answersOf_13 : decode cX9_answersOf 13 = .ok (.iload_n 1, 1) := by decide +kernel
theorem dX9_answersOf_14 : decode cX9_answersOf 14 = .ok (.iaload, 1) := by decide +kernel
theorem dX9_answersOf_15 : decode cX9_answersOf 15 = .ok (.ishl, 1) := by decide +kernel
theorem dX9_answersOf_16 : decode cX9_answersOf 16 = .ok (.if_icmp .ge 37, 3) := by decide +kernel
theorem dX9_answersOf_19 : decode cX9_answersOf 19 = .ok (.iload 4, 2) := by decide +kernel
theorem dX9_answersOf_21 : decode cX9_answersOf 21 = .ok (.iload 5, 2) := by decide +kernel
theorem dX9_answersOf_23 : decode cX9_answersOf 23 = .ok (.iload_n 2, 1) := by decide +kernel
theorem dX9_answersOf_24 : decode cX9_answersOf 24 = .ok (.iand, 1) := by decide +kernel
theorem dX9_answersOf_25 : decode cX9_answersOf 25 = .ok (.iload_n 3, 1) := by decide +kernel
theorem dX9_answersOf_26 : decode cX9_answersOf 26 = .ok (.if_icmp .ne 17, 3) := by decide +kernel
theorem dX9_answersOf_29 : decode cX9_answersOf 29 = .ok (.aload_n 0, 1) := by decide +kernel
theorem dX9_answersOf_30 : decode cX9_answersOf 30 = .ok (.iload_n 1, 1) := by decide +kernel
theorem dX9_answersOf_31 : decode cX9_answersOf 31 = .ok (.iload 5, 2) := by decide +kernel
theorem dX9_answersOf_33 : decode cX9_answersOf 33 = .ok (.invokevirtual 178, 3) := by decide +kernel
theorem dX9_answersOf_36 : decode cX9_answersOf 36 = .ok (.ifCond .eq 7, 3) := by decide +kernel
theorem dX9_answersOf_39 : decode cX9_answersOf 39 = .ok (.iconst 1, 1) := by decide +kernel
theorem dX9_answersOf_40 : decode cX9_answersOf 40 = .ok (.goto 4, 3) := by decide +kernel
theorem dX9_answersOf_43 : decode cX9_answersOf 43 = .ok (.iconst 0, 1) := by decide +kernel
theorem dX9_answersOf_44 : decode cX9_answersOf 44 = .ok (.iadd, 1) := by decide +kernel
theorem dX9_answersOf_45 : decode cX9_answersOf 45 = .ok (.istore 4, 2) := by decide +kernel
theorem dX9_answersOf_47 : decode cX9_answersOf 47 = .ok (.iinc 5 1, 3) := by decide +kernel
theorem dX9_answersOf_50 : decode cX9_answersOf 50 = .ok (.goto (-44), 3) := by decide +kernel
theorem dX9_answersOf_53 : decode cX9_answersOf 53 = .ok (.iload 4, 2) := by decide +kernel
theorem dX9_answersOf_55 : decode cX9_answersOf 55 = .ok (.ireturn, 1) := by decide +kernel
set_option maxRecDepth 20000 in
theorem ggX9_answers_X9_isTask : GoodIn wsX9_answers wsX9_isTask := goodIn_r _ [5, 6, 7, 8, 4, 9, 45, 46, 47, 48, 49, 50, 51, 52, 53, 54, 55, 56, 57, 58, 59, 60, 61, 62, 63, 64, 65, 66, 67, 68, 69, 70, 71, 72, 73, 74, 75, 76] (by decide +kernel) (by decide +kernel)
set_option maxRecDepth 20000 in
theorem gX9_answers_X9_isTask : GoodIn wsX9_answers (wsV RX9 162 RX9 yX9_isTask wsX9_isTask) := goodIn_app (goodIn_of _ (by decide +kernel)) ggX9_answers_X9_isTask
set_option maxRecDepth 20000 in
theorem ggX9_answers_X9_isRow : GoodIn wsX9_answers wsX9_isRow := goodIn_r _ [13, 14, 7, 8, 4, 9, 45, 46, 47, 48, 49, 50, 51, 52, 53, 54, 55, 56, 57, 58, 59, 60, 61, 62, 63, 64, 65, 66, 67, 68, 69, 70, 71, 72, 73, 74, 75, 76] (by decide +kernel) (by decide +kernel)
set_option maxRecDepth 20000 in
theorem gX9_answers_X9_isRow : GoodIn wsX9_answers (wsV RX9 174 RX9 yX9_isRow wsX9_isRow) := goodIn_app (goodIn_of _ (by decide +kernel)) ggX9_answers_X9_isRow
set_option maxRecDepth 20000 in
theorem ggX9_answers_X9_answersOf : GoodIn wsX9_answers wsX9_answersOf := goodIn_r _ [18, 14, 19, 20, 21, 4, 22, 23, 24, 25, 26, 27, 28, 29, 30, 31, 32, 33, 34, 35, 36, 37, 38, 39, 40, 41, 42, 43, 44, 45, 46, 47, 48, 49, 50, 51, 52, 53, 54, 55, 56, 57, 58, 59, 60, 61, 62, 63, 64, 65, 66, 67, 68, 69, 70, 71, 72, 73, 74, 75, 76] (by decide +kernel) (by decide +kernel)
set_option maxRecDepth 20000 in
theorem gX9_answers_X9_answersOf : GoodIn wsX9_answers (wsV RX9 181 RX9 yX9_answersOf wsX9_answersOf) := goodIn_app (goodIn_of _ (by decide +kernel)) ggX9_answers_X9_answersOf
theorem dX9_answers_0 : decode cX9_answers 0 = .ok (.aload_n 0, 1) := by decide +kernel
theorem dX9_answers_1 : decode cX9_answers 1 = .ok (.iload_n 1, 1) := by decide +kernel
theorem dX9_answers_2 : decode cX9_answers 2 = .ok (.invokevirtual 162, 3) := by decide +kernel
theorem dX9_answers_5 : decode cX9_answers 5 = .ok (.ifCond .ne 6, 3) := by decide +kernel
theorem dX9_answers_8 : decode cX9_answers 8 = .ok (.bipush (-5), 2) := by decide +kernel
theorem dX9_answers_10 : decode cX9_answers 10 = .ok (.ireturn, 1) := by decide +kernel
theorem dX9_answers_11 : decode cX9_answers 11 = .ok (.aload_n 0, 1) := by decide +kernel
theorem dX9_answers_12 : decode cX9_answers 12 = .ok (.iload_n 1, 1) := by decide +kernel
theorem dX9_answers_13 : decode cX9_answers 13 = .ok (.iload_n 2, 1) := by decide +kernel
theorem dX9_answers_14 : decode cX9_answers 14 = .ok (.invokevirtual 174, 3) := by decide +kernel
theorem dX9_answers_17 : decode cX9_answers 17 = .ok (.ifCond .eq 15, 3) := by decide +kernel
theorem dX9_answers_20 : decode cX9_answers 20 = .ok (.iload_n 3, 1) := by decide +kernel
theorem dX9_answers_21 : decode cX9_answers 21 = .ok (.ifCond .lt 11, 3) := by decide +kernel
theorem dX9_answers_24 : decode cX9_answers 24 = .ok (.iload_n 3, 1) := by decide +kernel
theorem dX9_answers_25 : decode cX9_answers 25 = .ok (.iload_n 2, 1) := by decide +kernel
theorem dX9_answers_26 : decode cX9_answers 26 = .ok (.iconst (-1), 1) := by decide +kernel
theorem dX9_answers_27 : decode cX9_answers 27 = .ok (.ixor, 1) := by decide +kernel
theorem dX9_answers_28 : decode cX9_answers 28 = .ok (.iand, 1) := by decide +kernel
theorem dX9_answers_29 : decode cX9_answers 29 = .ok (.ifCond .eq 6, 3) := by decide +kernel
theorem dX9_answers_32 : decode cX9_answers 32 = .ok (.bipush (-2), 2) := by decide +kernel
theorem dX9_answers_34 : decode cX9_answers 34 = .ok (.ireturn, 1) := by decide +kernel
theorem dX9_answers_35 : decode cX9_answers 35 = .ok (.aload_n 0, 1) := by decide +kernel
theorem dX9_answers_36 : decode cX9_answers 36 = .ok (.iload_n 1, 1) := by decide +kernel
theorem dX9_answers_37 : decode cX9_answers 37 = .ok (.iload_n 2, 1) := by decide +kernel
theorem dX9_answers_38 : decode cX9_answers 38 = .ok (.iload_n 3, 1) := by decide +kernel
theorem dX9_answers_39 : decode cX9_answers 39 = .ok (.invokevirtual 181, 3) := by decide +kernel
theorem dX9_answers_42 : decode cX9_answers 42 = .ok (.ireturn, 1) := by decide +kernel
set_option maxRecDepth 20000 in
theorem ggX9_answer_X9_isTask : GoodIn wsX9_answer wsX9_isTask := goodIn_r _ [6, 7, 8, 9, 5, 10, 37, 38, 39, 40, 41, 42, 43, 44, 45, 46, 47, 48, 49, 50, 51, 52, 53, 54, 55, 56, 57, 58, 59, 60, 61, 62, 63, 64, 65, 66, 67, 68] (by decide +kernel) (by decide +kernel)
set_option maxRecDepth 20000 in
theorem gX9_answer_X9_isTask : GoodIn wsX9_answer (wsV RX9 162 RX9 yX9_isTask wsX9_isTask) := goodIn_app (goodIn_of _ (by decide +kernel)) ggX9_answer_X9_isTask
set_option maxRecDepth 20000 in
theorem ggX9_answer_X9_doesSolve : GoodIn wsX9_answer wsX9_doesSolve := goodIn_r _ [14, 15, 16, 17, 5, 18, 19, 20, 21, 22, 23, 24, 25, 26, 27, 28, 29, 30, 31, 32, 33, 34, 35, 36, 37, 38, 39, 40, 41, 42, 43, 44, 45, 46, 47, 48, 49, 50, 51, 52, 53, 54, 55, 56, 57, 58, 59, 60, 61, 62, 63, 64, 65, 66, 67, 68] (by decide +kernel) (by decide +kernel)
set_option maxRecDepth 20000 in
theorem gX9_answer_X9_doesSolve : GoodIn wsX9_answer (wsV RX9 178 RX9 yX9_doesSolve wsX9_doesSolve) := goodIn_app (goodIn_of _ (by decide +kernel)) ggX9_answer_X9_doesSolve
theorem dX9_answer_0 : decode cX9_answer 0 = .ok (.aload_n 0, 1) := by decide +kernel
theorem dX9_answer_1 : decode cX9_answer 1 = .ok (.iload_n 1, 1) := by decide +kernel
theorem dX9_answer_2 : decode cX9_answer 2 = .ok (.invokevirtual 162, 3) := by decide +kernel
theorem dX9_answer_5 : decode cX9_answer 5 = .ok (.ifCond .ne 6, 3) := by decide +kernel
theorem dX9_answer_8 : decode cX9_answer 8 = .ok (.bipush (-5), 2) := by decide +kernel
theorem dX9_answer_10 : decode cX9_answer 10 = .ok (.ireturn, 1) := by decide +kernel
theorem dX9_answer_11 : decode cX9_answer 11 = .ok (.iconst 0, 1) := by decide +kernel
theorem dX9_answer_12 : decode cX9_answer 12 = .ok (.istore_n 3, 1) := by decide +kernel
theorem dX9_answer_13 : decode cX9_answer 13 = .ok (.iconst 0, 1) := by decide +kernel
theorem dX9_answer_14 : decode cX9_answer 14 = .ok (.istore 4, 2) := by decide +kernel
theorem dX9_answer_16 : decode cX9_answer 16 = .ok (.iload 4, 2) := by decide +kernel
theorem dX9_answer_18 : decode cX9_answer 18 = .ok (.iconst 1, 1) := by decide +kernel
theorem dX9_answer_19 : decode cX9_answer 19 = .ok (.aload_n 0, 1) := by decide +kernel
theorem dX9_answer_20 : decode cX9_answer 20 = .ok (.getfield 31, 3) := by decide +kernel
theorem dX9_answer_23 : decode cX9_answer 23 = .ok (.iload_n 1, 1) := by decide +kernel
theorem dX9_answer_24 : decode cX9_answer 24 = .ok (.iaload, 1) := by decide +kernel
theorem dX9_answer_25 : decode cX9_answer 25 = .ok (.ishl, 1) := by decide +kernel
theorem dX9_answer_26 : decode cX9_answer 26 = .ok (.if_icmp .ge 30, 3) := by decide +kernel
theorem dX9_answer_29 : decode cX9_answer 29 = .ok (.aload_n 0, 1) := by decide +kernel
theorem dX9_answer_30 : decode cX9_answer 30 = .ok (.iload_n 1, 1) := by decide +kernel
theorem dX9_answer_31 : decode cX9_answer 31 = .ok (.iload 4, 2) := by decide +kernel
theorem dX9_answer_33 : decode cX9_answer 33 = .ok (.invokevirtual 178, 3) := by decide +kernel
theorem dX9_answer_36 : decode cX9_answer 36 = .ok (.ifCond .eq 14, 3) := by decide +kernel
theorem dX9_answer_39 : decode cX9_answer 39 = .ok (.iload_n 3, 1) := by decide +kernel
theorem dX9_answer_40 : decode cX9_answer 40 = .ok (.iload_n 2, 1) := by decide +kernel
theorem dX9_answer_41 : decode cX9_answer 41 = .ok (.if_icmp .ne 6, 3) := by decide +kernel
theorem dX9_answer_44 : decode cX9_answer 44 = .ok (.iload 4, 2) := by decide +kernel
theorem dX9_answer_46 : decode cX9_answer 46 = .ok (.ireturn, 1) := by decide +kernel
theorem dX9_answer_47 : decode cX9_answer 47 = .ok (.iinc 3 1, 3) := by decide +kernel
theorem dX9_answer_50 : decode cX9_answer 50 = .ok (.iinc 4 1, 3) := by decide +kernel
theorem dX9_answer_53 : decode cX9_answer 53 = .ok (.goto (-37), 3) := by decide +kernel
theorem dX9_answer_56 : decode cX9_answer 56 = .ok (.iconst (-1), 1) := by decide +kernel
theorem dX9_answer_57 : decode cX9_answer 57 = .ok (.ireturn, 1) := by decide +kernel
set_option maxRecDepth 20000 in
theorem ggX9_nearest_X9_isTask : GoodIn wsX9_nearest wsX9_isTask := goodIn_r _ [6, 7, 8, 9, 5, 10, 41, 42, 43, 44, 45, 46, 47, 48, 49, 50, 51, 52, 53, 54, 55, 56, 57, 58, 59, 60, 61, 62, 63, 64, 65, 66, 67, 68, 69, 70, 71, 72] (by decide +kernel) (by decide +kernel)
set_option maxRecDepth 20000 in
theorem gX9_nearest_X9_isTask : GoodIn wsX9_nearest (wsV RX9 162 RX9 yX9_isTask wsX9_isTask) := goodIn_app (goodIn_of _ (by decide +kernel)) ggX9_nearest_X9_isTask
set_option maxRecDepth 20000 in
theorem ggX9_nearest_X9_isRow : GoodIn wsX9_nearest wsX9_isRow := goodIn_r _ [14, 1, 8, 9, 5, 10, 41, 42, 43, 44, 45, 46, 47, 48, 49, 50, 51, 52, 53, 54, 55, 56, 57, 58, 59, 60, 61, 62, 63, 64, 65, 66, 67, 68, 69, 70, 71, 72] (by decide +kernel) (by decide +kernel)
set_option maxRecDepth 20000 in
theorem gX9_nearest_X9_isRow : GoodIn wsX9_nearest (wsV RX9 174 RX9 yX9_isRow wsX9_isRow) := goodIn_app (goodIn_of _ (by decide +kernel)) ggX9_nearest_X9_isRow
set_option maxRecDepth 20000 in
theorem ggX9_nearest_X9_doesSolve : GoodIn wsX9_nearest wsX9_doesSolve := goodIn_r _ [18, 19, 20, 21, 5, 22, 23, 24, 25, 26, 27, 28, 29, 30, 31, 32, 33, 34, 35, 36, 37, 38, 39, 40, 41, 42, 43, 44, 45, 46, 47, 48, 49, 50, 51, 52, 53, 54, 55, 56, 57, 58, 59, 60, 61, 62, 63, 64, 65, 66, 67, 68, 69, 70, 71, 72] (by decide +kernel) (by decide +kernel)
set_option maxRecDepth 20000 in
theorem gX9_nearest_X9_doesSolve : GoodIn wsX9_nearest (wsV RX9 178 RX9 yX9_doesSolve wsX9_doesSolve) := goodIn_app (goodIn_of _ (by decide +kernel)) ggX9_nearest_X9_doesSolve
set_option maxRecDepth 20000 in
theorem ggX9_nearest_X9_ones : GoodIn wsX9_nearest wsX9_ones := goodIn_r _ [33] (by decide +kernel) (by decide +kernel)
set_option maxRecDepth 20000 in
theorem gX9_nearest_X9_ones : GoodIn wsX9_nearest (va_wsS RX9 159 yX9_ones wsX9_ones) := goodIn_app (goodIn_of _ (by decide +kernel)) ggX9_nearest_X9_ones
theorem dX9_nearest_0 : decode cX9_nearest 0 = .ok (.aload_n 0, 1) := by decide +kernel
theorem dX9_nearest_1 : decode cX9_nearest 1 = .ok (.iload_n 1, 1) := by decide +kernel
theorem dX9_nearest_2 : decode cX9_nearest 2 = .ok (.invokevirtual 162, 3) := by decide +kernel
theorem dX9_nearest_5 : decode cX9_nearest 5 = .ok (.ifCond .ne 6, 3) := by decide +kernel
theorem dX9_nearest_8 : decode cX9_nearest 8 = .ok (.bipush (-5), 2) := by decide +kernel
theorem dX9_nearest_10 : decode cX9_nearest 10 = .ok (.ireturn, 1) := by decide +kernel
theorem dX9_nearest_11 : decode cX9_nearest 11 = .ok (.aload_n 0, 1) := by decide +kernel
theorem dX9_nearest_12 : decode cX9_nearest 12 = .ok (.iload_n 1, 1) := by decide +kernel
theorem dX9_nearest_13 : decode cX9_nearest 13 = .ok (.iload_n 2, 1) := by decide +kernel
theorem dX9_nearest_14 : decode cX9_nearest 14 = .ok (.invokevirtual 174, 3) := by decide +kernel
theorem dX9_nearest_17 : decode cX9_nearest 17 = .ok (.ifCond .ne 6, 3) := by decide +kernel
theorem dX9_nearest_20 : decode cX9_nearest 20 = .ok (.bipush (-2), 2) := by decide +kernel
theorem dX9_nearest_22 : decode cX9_nearest 22 = .ok (.ireturn, 1) := by decide +kernel
theorem dX9_nearest_23 : decode cX9_nearest 23 = .ok (.iconst (-1), 1) := by decide +kernel
theorem dX9_nearest_24 : decode cX9_nearest 24 = .ok (.istore_n 3, 1) := by decide +kernel
theorem dX9_nearest_25 : decode cX9_nearest 25 = .ok (.iconst 0, 1) := by decide +kernel
theorem dX9_nearest_26 : decode cX9_nearest 26 = .ok (.istore 4, 2) := by decide +kernel
theorem dX9_nearest_28 : decode cX9_nearest 28 = .ok (.iload 4, 2) := by decide +kernel
theorem dX9_nearest_30 : decode cX9_nearest 30 = .ok (.iconst 1, 1) := by decide +kernel
theorem dX9_nearest_31 : decode cX9_nearest 31 = .ok (.aload_n 0, 1) := by decide +kernel
theorem dX9_nearest_32 : decode cX9_nearest 32 = .ok (.getfield 31, 3) := by decide +kernel
theorem dX9_nearest_35 : decode cX9_nearest 35 = .ok (.iload_n 1, 1) := by decide +kernel
theorem dX9_nearest_36 : decode cX9_nearest 36 = .ok (.iaload, 1) := by decide +kernel
theorem dX9_nearest_37 : decode cX9_nearest 37 = .ok (.ishl, 1) := by decide +kernel
theorem dX9_nearest_38 : decode cX9_nearest 38 = .ok (.if_icmp .ge 43, 3) := by decide +kernel
theorem dX9_nearest_41 : decode cX9_nearest 41 = .ok (.aload_n 0, 1) := by decide +kernel
theorem dX9_nearest_42 : decode cX9_nearest 42 = .ok (.iload_n 1, 1) := by decide +kernel
theorem dX9_nearest_43 : decode cX9_nearest 43 = .ok (.iload 4, 2) := by decide +kernel
theorem dX9_nearest_45 : decode cX9_nearest 45 = .ok (.invokevirtual 178, 3) := by decide +kernel
theorem dX9_nearest_48 : decode cX9_nearest 48 = .ok (.ifCond .eq 27, 3) := by decide +kernel
theorem dX9_nearest_51 : decode cX9_nearest 51 = .ok (.iload_n 3, 1) := by decide +kernel
theorem dX9_nearest_52 : decode cX9_nearest 52 = .ok (.iconst (-1), 1) := by decide +kernel
theorem dX9_nearest_53 : decode cX9_nearest 53 = .ok (.if_icmp .eq 19, 3) := by decide +kernel
theorem dX9_nearest_56 : decode cX9_nearest 56 = .ok (.iload 4, 2) := by decide +kernel
theorem dX9_nearest_58 : decode cX9_nearest 58 = .ok (.iload_n 2, 1) := by decide +kernel
theorem dX9_nearest_59 : decode cX9_nearest 59 = .ok (.ixor, 1) := by decide +kernel
theorem dX9_nearest_60 : decode cX9_nearest 60 = .ok (.invokestatic 159, 3) := by decide +kernel
theorem dX9_nearest_63 : decode cX9_nearest 63 = .ok (.iload_n 3, 1) := by decide +kernel
theorem dX9_nearest_64 : decode cX9_nearest 64 = .ok (.iload_n 2, 1) := by decide +kernel
theorem dX9_nearest_65 : decode cX9_nearest 65 = .ok (.ixor, 1) := by decide +kernel
theorem dX9_nearest_66 : decode cX9_nearest 66 = .ok (.invokestatic 159, 3) := by decide +kernel
theorem dX9_nearest_69 : decode cX9_nearest 69 = .ok (.if_icmp .ge 6, 3) := by decide +kernel
theorem dX9_nearest_72 : decode cX9_nearest 72 = .ok (.iload 4, 2) := by decide +kernel
theorem dX9_nearest_74 : decode cX9_nearest 74 = .ok (.istore_n 3, 1) := by decide +kernel
theorem dX9_nearest_75 : decode cX9_nearest 75 = .ok (.iinc 4 1, 3) := by decide +kernel
theorem dX9_nearest_78 : decode cX9_nearest 78 = .ok (.goto (-50), 3) := by decide +kernel
theorem dX9_nearest_81 : decode cX9_nearest 81 = .ok (.iload_n 3, 1) := by decide +kernel
theorem dX9_nearest_82 : decode cX9_nearest 82 = .ok (.ireturn, 1) := by decide +kernel
set_option maxRecDepth 20000 in
theorem ggX9_hint_X9_isTask : GoodIn wsX9_hint wsX9_isTask := goodIn_r _ [6, 7, 8, 9, 5, 10, 41, 42, 43, 44, 45, 46, 47, 48, 49, 50, 51, 52, 53, 54, 55, 56, 57, 58, 59, 60, 61, 62, 63, 64, 65, 66, 67, 68, 69, 70, 71, 72] (by decide +kernel) (by decide +kernel)
set_option maxRecDepth 20000 in
theorem gX9_hint_X9_isTask : GoodIn wsX9_hint (wsV RX9 162 RX9 yX9_isTask wsX9_isTask) := goodIn_app (goodIn_of _ (by decide +kernel)) ggX9_hint_X9_isTask
set_option maxRecDepth 20000 in
theorem ggX9_hint_X9_answersOf : GoodIn wsX9_hint wsX9_answersOf := goodIn_r _ [14, 1, 15, 16, 17, 5, 18, 19, 20, 21, 22, 23, 24, 25, 26, 27, 28, 29, 30, 31, 32, 33, 34, 35, 36, 37, 38, 39, 40, 41, 42, 43, 44, 45, 46, 47, 48, 49, 50, 51, 52, 53, 54, 55, 56, 57, 58, 59, 60, 61, 62, 63, 64, 65, 66, 67, 68, 69, 70, 71, 72] (by decide +kernel) (by decide +kernel)
set_option maxRecDepth 20000 in
theorem gX9_hint_X9_answersOf : GoodIn wsX9_hint (wsV RX9 181 RX9 yX9_answersOf wsX9_answersOf) := goodIn_app (goodIn_of _ (by decide +kernel)) ggX9_hint_X9_answersOf
theorem dX9_hint_0 : decode cX9_hint 0 = .ok (.aload_n 0, 1) := by decide +kernel
theorem dX9_hint_1 : decode cX9_hint 1 = .ok (.iload_n 1, 1) := by decide +kernel
theorem dX9_hint_2 : decode cX9_hint 2 = .ok (.invokevirtual 162, 3) := by decide +kernel
theorem dX9_hint_5 : decode cX9_hint 5 = .ok (.ifCond .ne 6, 3) := by decide +kernel
theorem dX9_hint_8 : decode cX9_hint 8 = .ok (.bipush (-5), 2) := by decide +kernel
theorem dX9_hint_10 : decode cX9_hint 10 = .ok (.ireturn, 1) := by decide +kernel
theorem dX9_hint_11 : decode cX9_hint 11 = .ok (.iconst (-1), 1) := by decide +kernel
theorem dX9_hint_12 : decode cX9_hint 12 = .ok (.istore_n 2, 1) := by decide +kernel
theorem dX9_hint_13 : decode cX9_hint 13 = .ok (.iconst 0, 1) := by decide +kernel
theorem dX9_hint_14 : decode cX9_hint 14 = .ok (.istore_n 3, 1) := by decide +kernel
theorem dX9_hint_15 : decode cX9_hint 15 = .ok (.iconst 0, 1) := by decide +kernel
theorem dX9_hint_16 : decode cX9_hint 16 = .ok (.istore 4, 2) := by decide +kernel
theorem dX9_hint_18 : decode cX9_hint 18 = .ok (.iload 4, 2) := by decide +kernel
theorem dX9_hint_20 : decode cX9_hint 20 = .ok (.iconst 2, 1) := by decide +kernel
theorem dX9_hint_21 : decode cX9_hint 21 = .ok (.aload_n 0, 1) := by decide +kernel
theorem dX9_hint_22 : decode cX9_hint 22 = .ok (.getfield 31, 3) := by decide +kernel
theorem dX9_hint_25 : decode cX9_hint 25 = .ok (.iload_n 1, 1) := by decide +kernel
theorem dX9_hint_26 : decode cX9_hint 26 = .ok (.iaload, 1) := by decide +kernel
theorem dX9_hint_27 : decode cX9_hint 27 = .ok (.imul, 1) := by decide +kernel
theorem dX9_hint_28 : decode cX9_hint 28 = .ok (.if_icmp .ge 53, 3) := by decide +kernel
theorem dX9_hint_31 : decode cX9_hint 31 = .ok (.aload_n 0, 1) := by decide +kernel
theorem dX9_hint_32 : decode cX9_hint 32 = .ok (.iload_n 1, 1) := by decide +kernel
theorem dX9_hint_33 : decode cX9_hint 33 = .ok (.iconst 1, 1) := by decide +kernel
theorem dX9_hint_34 : decode cX9_hint 34 = .ok (.iload 4, 2) := by decide +kernel
theorem dX9_hint_36 : decode cX9_hint 36 = .ok (.iconst 2, 1) := by decide +kernel
theorem dX9_hint_37 : decode cX9_hint 37 = .ok (.idiv, 1) := by decide +kernel
theorem dX9_hint_38 : decode cX9_hint 38 = .ok (.ishl, 1) := by decide +kernel
theorem dX9_hint_39 : decode cX9_hint 39 = .ok (.iload 4, 2) := by decide +kernel
theorem dX9_hint_41 : decode cX9_hint 41 = .ok (.iconst 2, 1) := by decide +kernel
theorem dX9_hint_42 : decode cX9_hint 42 = .ok (.irem, 1) := by decide +kernel
theorem dX9_hint_43 : decode cX9_hint 43 = .ok (.iload 4, 2) := by decide +kernel
theorem dX9_hint_45 : decode cX9_hint 45 = .ok (.iconst 2, 1) := by decide +kernel
theorem dX9_hint_46 : decode cX9_hint 46 = .ok (.idiv, 1) := by decide +kernel
theorem dX9_hint_47 : decode cX9_hint 47 = .ok (.ishl, 1) := by decide +kernel
theorem dX9_hint_48 : decode cX9_hint 48 = .ok (.invokevirtual 181, 3) := by decide +kernel
theorem dX9_hint_51 : decode cX9_hint 51 = .ok (.istore 5, 2) := by decide +kernel
theorem dX9_hint_53 : decode cX9_hint 53 = .ok (.iload 5, 2) := by decide +kernel
theorem dX9_hint_55 : decode cX9_hint 55 = .ok (.ifCond .le 20, 3) := by decide +kernel
theorem dX9_hint_58 : decode cX9_hint 58 = .ok (.iload_n 2, 1) := by decide +kernel
theorem dX9_hint_59 : decode cX9_hint 59 = .ok (.iconst (-1), 1) := by decide +kernel
theorem dX9_hint_60 : decode cX9_hint 60 = .ok (.if_icmp .eq 9, 3) := by decide +kernel
theorem dX9_hint_63 : decode cX9_hint 63 = .ok (.iload 5, 2) := by decide +kernel
theorem dX9_hint_65 : decode cX9_hint 65 = .ok (.iload_n 3, 1) := by decide +kernel
theorem dX9_hint_66 : decode cX9_hint 66 = .ok (.if_icmp .ge 9, 3) := by decide +kernel
theorem dX9_hint_69 : decode cX9_hint 69 = .ok (.iload 4, 2) := by decide +kernel
theorem dX9_hint_71 : decode cX9_hint 71 = .ok (.istore_n 2, 1) := by decide +kernel
theorem dX9_hint_72 : decode cX9_hint 72 = .ok (.iload 5, 2) := by decide +kernel
theorem dX9_hint_74 : decode cX9_hint 74 = .ok (.istore_n 3, 1) := by decide +kernel
theorem dX9_hint_75 : decode cX9_hint 75 = .ok (.iinc 4 1, 3) := by decide +kernel
theorem dX9_hint_78 : decode cX9_hint 78 = .ok (.goto (-60), 3) := by decide +kernel
theorem dX9_hint_81 : decode cX9_hint 81 = .ok (.iload_n 2, 1) := by decide +kernel
theorem dX9_hint_82 : decode cX9_hint 82 = .ok (.ireturn, 1) := by decide +kernel
set_option maxRecDepth 20000 in
theorem ggX9_needed_X9_isTask : GoodIn wsX9_needed wsX9_isTask := goodIn_r _ [8, 9, 10, 11, 7, 12, 29, 30, 31, 32, 33, 34, 35, 36, 37, 38, 39, 40, 41, 42, 43, 44, 45, 46, 47, 48, 49, 50, 51, 52, 53, 54, 55, 56, 57, 58, 59, 60] (by decide +kernel) (by decide +kernel)
set_option maxRecDepth 20000 in
theorem gX9_needed_X9_isTask : GoodIn wsX9_needed (wsV RX9 162 RX9 yX9_isTask wsX9_isTask) := goodIn_app (goodIn_of _ (by decide +kernel)) ggX9_needed_X9_isTask
set_option maxRecDepth 20000 in
theorem ggX9_needed_X9_is : GoodIn wsX9_needed wsX9_is := goodIn_r _ [16, 17, 18, 19, 20, 7, 21, 29, 30, 31, 32, 33, 34, 35, 36, 37, 38, 39, 40, 41, 42, 43, 44, 45, 46, 47, 48, 49, 50, 51, 52, 53, 54, 55, 56, 57, 58, 59, 60] (by decide +kernel) (by decide +kernel)
set_option maxRecDepth 20000 in
theorem gX9_needed_X9_is : GoodIn wsX9_needed (wsV RX9 165 RX9 yX9_is wsX9_is) := goodIn_app (goodIn_of _ (by decide +kernel)) ggX9_needed_X9_is
set_option maxRecDepth 20000 in
theorem ggX9_needed_X9_wide : GoodIn wsX9_needed wsX9_wide := goodIn_r _ [25, 17, 18, 19, 20, 7, 21, 29, 30, 31, 32, 33, 34, 35, 36, 37, 38, 39, 40, 41, 42, 43, 44, 45, 46, 47, 48, 49, 50, 51, 52, 53, 54, 55, 56, 57, 58, 59, 60] (by decide +kernel) (by decide +kernel)
set_option maxRecDepth 20000 in
theorem gX9_needed_X9_wide : GoodIn wsX9_needed (wsV RX9 168 RX9 yX9_wide wsX9_wide) := goodIn_app (goodIn_of _ (by decide +kernel)) ggX9_needed_X9_wide
set_option maxRecDepth 20000 in
theorem ggX9_needed_X9_holds : GoodIn wsX9_needed wsX9_holds := goodIn_r _ [28] (by decide +kernel) (by decide +kernel)
set_option maxRecDepth 20000 in
theorem gX9_needed_X9_holds : GoodIn wsX9_needed (va_wsS RX9 79 yX9_holds wsX9_holds) := goodIn_app (goodIn_of _ (by decide +kernel)) ggX9_needed_X9_holds
theorem dX9_needed_0 : decode cX9_needed 0 = .ok (.aload_n 0, 1) := by decide +kernel
theorem dX9_needed_1 : decode cX9_needed 1 = .ok (.iload_n 1, 1) := by decide +kernel
theorem dX9_needed_2 : decode cX9_needed 2 = .ok (.invokevirtual 162, 3) := by decide +kernel
theorem dX9_needed_5 : decode cX9_needed 5 = .ok (.ifCond .ne 6, 3) := by decide +kernel
theorem dX9_needed_8 : decode cX9_needed 8 = .ok (.bipush (-5), 2) := by decide +kernel
theorem dX9_needed_10 : decode cX9_needed 10 = .ok (.ireturn, 1) := by decide +kernel
theorem dX9_needed_11 : decode cX9_needed 11 = .ok (.iconst 0, 1) := by decide +kernel
theorem dX9_needed_12 : decode cX9_needed 12 = .ok (.istore_n 2, 1) := by decide +kernel
theorem dX9_needed_13 : decode cX9_needed 13 = .ok (.iconst 0, 1) := by decide +kernel
theorem dX9_needed_14 : decode cX9_needed 14 = .ok (.istore_n 3, 1) := by decide +kernel
theorem dX9_needed_15 : decode cX9_needed 15 = .ok (.iload_n 3, 1) := by decide +kernel
theorem dX9_needed_16 : decode cX9_needed 16 = .ok (.iconst 1, 1) := by decide +kernel
theorem dX9_needed_17 : decode cX9_needed 17 = .ok (.aload_n 0, 1) := by decide +kernel
theorem dX9_needed_18 : decode cX9_needed 18 = .ok (.getfield 31, 3) := by decide +kernel
theorem dX9_needed_21 : decode cX9_needed 21 = .ok (.iload_n 1, 1) := by decide +kernel
theorem dX9_needed_22 : decode cX9_needed 22 = .ok (.iaload, 1) := by decide +kernel
theorem dX9_needed_23 : decode cX9_needed 23 = .ok (.ishl, 1) := by decide +kernel
theorem dX9_needed_24 : decode cX9_needed 24 = .ok (.if_icmp .ge 94, 3) := by decide +kernel
theorem dX9_needed_27 : decode cX9_needed 27 = .ok (.iconst 0, 1) := by decide +kernel
theorem dX9_needed_28 : decode cX9_needed 28 = .ok (.istore 4, 2) := by decide +kernel
theorem dX9_needed_30 : decode cX9_needed 30 = .ok (.iconst 0, 1) := by decide +kernel
theorem dX9_needed_31 : decode cX9_needed 31 = .ok (.istore 5, 2) := by decide +kernel
theorem dX9_needed_33 : decode cX9_needed 33 = .ok (.iconst 0, 1) := by decide +kernel
theorem dX9_needed_34 : decode cX9_needed 34 = .ok (.istore 6, 2) := by decide +kernel
theorem dX9_needed_36 : decode cX9_needed 36 = .ok (.iload 6, 2) := by decide +kernel
theorem dX9_needed_38 : decode cX9_needed 38 = .ok (.aload_n 0, 1) := by decide +kernel
theorem dX9_needed_39 : decode cX9_needed 39 = .ok (.getfield 34, 3) := by decide +kernel
theorem dX9_needed_42 : decode cX9_needed 42 = .ok (.iload_n 1, 1) := by decide +kernel
theorem dX9_needed_43 : decode cX9_needed 43 = .ok (.iaload, 1) := by decide +kernel
theorem dX9_needed_44 : decode cX9_needed 44 = .ok (.if_icmp .ge 51, 3) := by decide +kernel
theorem dX9_needed_47 : decode cX9_needed 47 = .ok (.aload_n 0, 1) := by decide +kernel
theorem dX9_needed_48 : decode cX9_needed 48 = .ok (.getfield 28, 3) := by decide +kernel
theorem dX9_needed_51 : decode cX9_needed 51 = .ok (.iload_n 1, 1) := by decide +kernel
theorem dX9_needed_52 : decode cX9_needed 52 = .ok (.iaload, 1) := by decide +kernel
theorem dX9_needed_53 : decode cX9_needed 53 = .ok (.aload_n 0, 1) := by decide +kernel
theorem dX9_needed_54 : decode cX9_needed 54 = .ok (.bipush 24, 2) := by decide +kernel
theorem dX9_needed_56 : decode cX9_needed 56 = .ok (.iload_n 1, 1) := by decide +kernel
theorem dX9_needed_57 : decode cX9_needed 57 = .ok (.imul, 1) := by decide +kernel
theorem dX9_needed_58 : decode cX9_needed 58 = .ok (.iload 6, 2) := by decide +kernel
theorem dX9_needed_60 : decode cX9_needed 60 = .ok (.iadd, 1) := by decide +kernel
theorem dX9_needed_61 : decode cX9_needed 61 = .ok (.iload_n 3, 1) := by decide +kernel
theorem dX9_needed_62 : decode cX9_needed 62 = .ok (.invokevirtual 165, 3) := by decide +kernel
theorem dX9_needed_65 : decode cX9_needed 65 = .ok (.aload_n 0, 1) := by decide +kernel
theorem dX9_needed_66 : decode cX9_needed 66 = .ok (.bipush 24, 2) := by decide +kernel
theorem dX9_needed_68 : decode cX9_needed 68 = .ok (.iload_n 1, 1) := by decide +kernel
theorem dX9_needed_69 : decode cX9_needed 69 = .ok (.imul, 1) := by decide +kernel
theorem dX9_needed_70 : decode cX9_needed 70 = .ok (.iload 6, 2) := by decide +kernel
theorem dX9_needed_72 : decode cX9_needed 72 = .ok (.iadd, 1) := by decide +kernel
theorem dX9_needed_73 : decode cX9_needed 73 = .ok (.invokevirtual 168, 3) := by decide +kernel
theorem dX9_needed_76 : decode cX9_needed 76 = .ok (.invokestatic 79, 3) := by decide +kernel
theorem dX9_needed_79 : decode cX9_needed 79 = .ok (.ifCond .ne 10, 3) := by decide +kernel
theorem dX9_needed_82 : decode cX9_needed 82 = .ok (.iinc 4 1, 3) := by decide +kernel
theorem dX9_needed_85 : decode cX9_needed 85 = .ok (.iload 6, 2) := by decide +kernel
theorem dX9_needed_87 : decode cX9_needed 87 = .ok (.istore 5, 2) := by decide +kernel
theorem dX9_needed_89 : decode cX9_needed 89 = .ok (.iinc 6 1, 3) := by decide +kernel
theorem dX9_needed_92 : decode cX9_needed 92 = .ok (.goto (-56), 3) := by decide +kernel
theorem dX9_needed_95 : decode cX9_needed 95 = .ok (.iload_n 2, 1) := by decide +kernel
theorem dX9_needed_96 : decode cX9_needed 96 = .ok (.iload 4, 2) := by decide +kernel
theorem dX9_needed_98 : decode cX9_needed 98 = .ok (.iconst 1, 1) := by decide +kernel
theorem dX9_needed_99 : decode cX9_needed 99 = .ok (.if_icmp .ne 10, 3) := by decide +kernel
theorem dX9_needed_102 : decode cX9_needed 102 = .ok (.iconst 1, 1) := by decide +kernel
theorem dX9_needed_103 : decode cX9_needed 103 = .ok (.iload 5, 2) := by decide +kernel
theorem dX9_needed_105 : decode cX9_needed 105 = .ok (.ishl, 1) := by decide +kernel
theorem dX9_needed_106 : decode cX9_needed 106 = .ok (.goto 4, 3) := by decide +kernel
theorem dX9_needed_109 : decode cX9_needed 109 = .ok (.iconst 0, 1) := by decide +kernel
theorem dX9_needed_110 : decode cX9_needed 110 = .ok (.ior, 1) := by decide +kernel
theorem dX9_needed_111 : decode cX9_needed 111 = .ok (.istore_n 2, 1) := by decide +kernel
theorem dX9_needed_112 : decode cX9_needed 112 = .ok (.iinc 3 1, 3) := by decide +kernel
theorem dX9_needed_115 : decode cX9_needed 115 = .ok (.goto (-100), 3) := by decide +kernel
theorem dX9_needed_118 : decode cX9_needed 118 = .ok (.iload_n 2, 1) := by decide +kernel
theorem dX9_needed_119 : decode cX9_needed 119 = .ok (.ireturn, 1) := by decide +kernel
theorem dX9_more_0 : decode cX9_more 0 = .ok (.iconst 0, 1) := by decide +kernel
theorem dX9_more_1 : decode cX9_more 1 = .ok (.istore_n 3, 1) := by decide +kernel
theorem dX9_more_2 : decode cX9_more 2 = .ok (.iconst 0, 1) := by decide +kernel
theorem dX9_more_3 : decode cX9_more 3 = .ok (.istore 4, 2) := by decide +kernel
theorem dX9_more_5 : decode cX9_more 5 = .ok (.iload 4, 2) := by decide +kernel
theorem dX9_more_7 : decode cX9_more 7 = .ok (.aload_n 0, 1) := by decide +kernel
theorem dX9_more_8 : decode cX9_more 8 = .ok (.getfield 34, 3) := by decide +kernel
theorem dX9_more_11 : decode cX9_more 11 = .ok (.iload_n 1, 1) := by decide +kernel
theorem dX9_more_12 : decode cX9_more 12 = .ok (.iaload, 1) := by decide +kernel
theorem dX9_more_13 : decode cX9_more 13 = .ok (.if_icmp .ge 45, 3) := by decide +kernel
theorem dX9_more_16 : decode cX9_more 16 = .ok (.iload_n 3, 1) := by decide +kernel
theorem dX9_more_17 : decode cX9_more 17 = .ok (.aload_n 0, 1) := by decide +kernel
theorem dX9_more_18 : decode cX9_more 18 = .ok (.getfield 46, 3) := by decide +kernel
theorem dX9_more_21 : decode cX9_more 21 = .ok (.bipush 24, 2) := by decide +kernel
theorem dX9_more_23 : decode cX9_more 23 = .ok (.iload_n 1, 1) := by decide +kernel
theorem dX9_more_24 : decode cX9_more 24 = .ok (.imul, 1) := by decide +kernel
theorem dX9_more_25 : decode cX9_more 25 = .ok (.iload 4, 2) := by decide +kernel
theorem dX9_more_27 : decode cX9_more 27 = .ok (.iadd, 1) := by decide +kernel
theorem dX9_more_28 : decode cX9_more 28 = .ok (.iaload, 1) := by decide +kernel
theorem dX9_more_29 : decode cX9_more 29 = .ok (.iload_n 2, 1) := by decide +kernel
theorem dX9_more_30 : decode cX9_more 30 = .ok (.ishr, 1) := by decide +kernel
theorem dX9_more_31 : decode cX9_more 31 = .ok (.iconst 1, 1) := by decide +kernel
theorem dX9_more_32 : decode cX9_more 32 = .ok (.iand, 1) := by decide +kernel
theorem dX9_more_33 : decode cX9_more 33 = .ok (.aload_n 0, 1) := by decide +kernel
theorem dX9_more_34 : decode cX9_more 34 = .ok (.getfield 49, 3) := by decide +kernel
theorem dX9_more_37 : decode cX9_more 37 = .ok (.bipush 24, 2) := by decide +kernel
theorem dX9_more_39 : decode cX9_more 39 = .ok (.iload_n 1, 1) := by decide +kernel
theorem dX9_more_40 : decode cX9_more 40 = .ok (.imul, 1) := by decide +kernel
theorem dX9_more_41 : decode cX9_more 41 = .ok (.iload 4, 2) := by decide +kernel
theorem dX9_more_43 : decode cX9_more 43 = .ok (.iadd, 1) := by decide +kernel
theorem dX9_more_44 : decode cX9_more 44 = .ok (.iaload, 1) := by decide +kernel
theorem dX9_more_45 : decode cX9_more 45 = .ok (.iload_n 2, 1) := by decide +kernel
theorem dX9_more_46 : decode cX9_more 46 = .ok (.ishr, 1) := by decide +kernel
theorem dX9_more_47 : decode cX9_more 47 = .ok (.iconst 1, 1) := by decide +kernel
theorem dX9_more_48 : decode cX9_more 48 = .ok (.iand, 1) := by decide +kernel
theorem dX9_more_49 : decode cX9_more 49 = .ok (.isub, 1) := by decide +kernel
theorem dX9_more_50 : decode cX9_more 50 = .ok (.iadd, 1) := by decide +kernel
theorem dX9_more_51 : decode cX9_more 51 = .ok (.istore_n 3, 1) := by decide +kernel
theorem dX9_more_52 : decode cX9_more 52 = .ok (.iinc 4 1, 3) := by decide +kernel
theorem dX9_more_55 : decode cX9_more 55 = .ok (.goto (-50), 3) := by decide +kernel
theorem dX9_more_58 : decode cX9_more 58 = .ok (.iload_n 3, 1) := by decide +kernel
theorem dX9_more_59 : decode cX9_more 59 = .ok (.ireturn, 1) := by decide +kernel
set_option maxRecDepth 20000 in
theorem ggX9_lean_X9_isTask : GoodIn wsX9_lean wsX9_isTask := goodIn_r _ [7, 8, 9, 10, 6, 11, 19, 20, 21, 22, 23, 24, 25, 26, 27, 28, 29, 30, 31, 32, 33, 34, 35, 36, 37, 38, 39, 40, 41, 42, 43, 44, 45, 46, 47, 48, 49, 50] (by decide +kernel) (by decide +kernel)
set_option maxRecDepth 20000 in
theorem gX9_lean_X9_isTask : GoodIn wsX9_lean (wsV RX9 162 RX9 yX9_isTask wsX9_isTask) := goodIn_app (goodIn_of _ (by decide +kernel)) ggX9_lean_X9_isTask
set_option maxRecDepth 20000 in
theorem ggX9_lean_X9_in : GoodIn wsX9_lean wsX9_in := goodIn_r _ [11] (by decide +kernel) (by decide +kernel)
set_option maxRecDepth 20000 in
theorem gX9_lean_X9_in : GoodIn wsX9_lean (va_wsS RX9 83 yX9_in wsX9_in) := goodIn_app (goodIn_of _ (by decide +kernel)) ggX9_lean_X9_in
set_option maxRecDepth 20000 in
theorem ggX9_lean_X9_more : GoodIn wsX9_lean wsX9_more := goodIn_r _ [15, 16, 17, 18, 19, 20, 21, 22, 23, 24, 25, 26, 27, 28, 29, 30, 31, 32, 33, 34, 35, 36, 37, 38, 39, 40, 41, 42, 43, 44, 45, 46, 47, 48, 49, 50] (by decide +kernel) (by decide +kernel)
set_option maxRecDepth 20000 in
theorem gX9_lean_X9_more : GoodIn wsX9_lean (wsV RX9 184 RX9 yX9_more wsX9_more) := goodIn_app (goodIn_of _ (by decide +kernel)) ggX9_lean_X9_more
theorem dX9_lean_0 : decode cX9_lean 0 = .ok (.aload_n 0, 1) := by decide +kernel
theorem dX9_lean_1 : decode cX9_lean 1 = .ok (.iload_n 1, 1) := by decide +kernel
theorem dX9_lean_2 : decode cX9_lean 2 = .ok (.invokevirtual 162, 3) := by decide +kernel
theorem dX9_lean_5 : decode cX9_lean 5 = .ok (.ifCond .eq 31, 3) := by decide +kernel
theorem dX9_lean_8 : decode cX9_lean 8 = .ok (.iload_n 2, 1) := by decide +kernel
theorem dX9_lean_9 : decode cX9_lean 9 = .ok (.iconst 0, 1) := by decide +kernel
theorem dX9_lean_10 : decode cX9_lean 10 = .ok (.aload_n 0, 1) := by decide +kernel
theorem dX9_lean_11 : decode cX9_lean 11 = .ok (.getfield 31, 3) := by decide +kernel
theorem dX9_lean_14 : decode cX9_lean 14 = .ok (.aload_n 0, 1) := by decide +kernel
theorem dX9_lean_15 : decode cX9_lean 15 = .ok (.iload_n 1, 1) := by decide +kernel
theorem dX9_lean_16 : decode cX9_lean 16 = .ok (.invokevirtual 162, 3) := by decide +kernel
theorem dX9_lean_19 : decode cX9_lean 19 = .ok (.ifCond .eq 7, 3) := by decide +kernel
theorem dX9_lean_22 : decode cX9_lean 22 = .ok (.iload_n 1, 1) := by decide +kernel
theorem dX9_lean_23 : decode cX9_lean 23 = .ok (.goto 4, 3) := by decide +kernel
theorem dX9_lean_26 : decode cX9_lean 26 = .ok (.iconst 0, 1) := by decide +kernel
theorem dX9_lean_27 : decode cX9_lean 27 = .ok (.iaload, 1) := by decide +kernel
theorem dX9_lean_28 : decode cX9_lean 28 = .ok (.iconst 1, 1) := by decide +kernel
theorem dX9_lean_29 : decode cX9_lean 29 = .ok (.isub, 1) := by decide +kernel
theorem dX9_lean_30 : decode cX9_lean 30 = .ok (.invokestatic 83, 3) := by decide +kernel
theorem dX9_lean_33 : decode cX9_lean 33 = .ok (.ifCond .ne 7, 3) := by decide +kernel
theorem dX9_lean_36 : decode cX9_lean 36 = .ok (.sipush (-1000), 3) := by decide +kernel
theorem dX9_lean_39 : decode cX9_lean 39 = .ok (.ireturn, 1) := by decide +kernel
theorem dX9_lean_40 : decode cX9_lean 40 = .ok (.aload_n 0, 1) := by decide +kernel
theorem dX9_lean_41 : decode cX9_lean 41 = .ok (.getfield 37, 3) := by decide +kernel
theorem dX9_lean_44 : decode cX9_lean 44 = .ok (.iload_n 1, 1) := by decide +kernel
theorem dX9_lean_45 : decode cX9_lean 45 = .ok (.iaload, 1) := by decide +kernel
theorem dX9_lean_46 : decode cX9_lean 46 = .ok (.iconst (-1), 1) := by decide +kernel
theorem dX9_lean_47 : decode cX9_lean 47 = .ok (.if_icmp .eq 20, 3) := by decide +kernel
theorem dX9_lean_50 : decode cX9_lean 50 = .ok (.aload_n 0, 1) := by decide +kernel
theorem dX9_lean_51 : decode cX9_lean 51 = .ok (.getfield 37, 3) := by decide +kernel
theorem dX9_lean_54 : decode cX9_lean 54 = .ok (.iload_n 1, 1) := by decide +kernel
theorem dX9_lean_55 : decode cX9_lean 55 = .ok (.iaload, 1) := by decide +kernel
theorem dX9_lean_56 : decode cX9_lean 56 = .ok (.iload_n 2, 1) := by decide +kernel
theorem dX9_lean_57 : decode cX9_lean 57 = .ok (.ishr, 1) := by decide +kernel
theorem dX9_lean_58 : decode cX9_lean 58 = .ok (.iconst 1, 1) := by decide +kernel
theorem dX9_lean_59 : decode cX9_lean 59 = .ok (.iand, 1) := by decide +kernel
theorem dX9_lean_60 : decode cX9_lean 60 = .ok (.ifCond .ne 7, 3) := by decide +kernel
theorem dX9_lean_63 : decode cX9_lean 63 = .ok (.iconst 1, 1) := by decide +kernel
theorem dX9_lean_64 : decode cX9_lean 64 = .ok (.goto 4, 3) := by decide +kernel
theorem dX9_lean_67 : decode cX9_lean 67 = .ok (.iconst 0, 1) := by decide +kernel
theorem dX9_lean_68 : decode cX9_lean 68 = .ok (.istore_n 3, 1) := by decide +kernel
theorem dX9_lean_69 : decode cX9_lean 69 = .ok (.iload_n 3, 1) := by decide +kernel
theorem dX9_lean_70 : decode cX9_lean 70 = .ok (.ifCond .eq 13, 3) := by decide +kernel
theorem dX9_lean_73 : decode cX9_lean 73 = .ok (.aload_n 0, 1) := by decide +kernel
theorem dX9_lean_74 : decode cX9_lean 74 = .ok (.iload_n 1, 1) := by decide +kernel
theorem dX9_lean_75 : decode cX9_lean 75 = .ok (.iload_n 2, 1) := by decide +kernel
theorem dX9_lean_76 : decode cX9_lean 76 = .ok (.invokevirtual 184, 3) := by decide +kernel
theorem dX9_lean_79 : decode cX9_lean 79 = .ok (.ineg, 1) := by decide +kernel
theorem dX9_lean_80 : decode cX9_lean 80 = .ok (.goto 9, 3) := by decide +kernel
theorem dX9_lean_83 : decode cX9_lean 83 = .ok (.aload_n 0, 1) := by decide +kernel
theorem dX9_lean_84 : decode cX9_lean 84 = .ok (.iload_n 1, 1) := by decide +kernel
theorem dX9_lean_85 : decode cX9_lean 85 = .ok (.iload_n 2, 1) := by decide +kernel
theorem dX9_lean_86 : decode cX9_lean 86 = .ok (.invokevirtual 184, 3) := by decide +kernel
theorem dX9_lean_89 : decode cX9_lean 89 = .ok (.ireturn, 1) := by decide +kernel
theorem dX9_lowest_0 : decode cX9_lowest 0 = .ok (.lload_n 0, 1) := by decide +kernel
theorem dX9_lowest_1 : decode cX9_lowest 1 = .ok (.lconst 0, 1) := by decide +kernel
theorem dX9_lowest_2 : decode cX9_lowest 2 = .ok (.lcmp, 1) := by decide +kernel
theorem dX9_lowest_3 : decode cX9_lowest 3 = .ok (.ifCond .ge 8, 3) := by decide +kernel
theorem dX9_lowest_6 : decode cX9_lowest 6 = .ok (.lload_n 0, 1) := by decide +kernel
theorem dX9_lowest_7 : decode cX9_lowest 7 = .ok (.lneg, 1) := by decide +kernel
theorem dX9_lowest_8 : decode cX9_lowest 8 = .ok (.goto 4, 3) := by decide +kernel
theorem dX9_lowest_11 : decode cX9_lowest 11 = .ok (.lload_n 0, 1) := by decide +kernel
theorem dX9_lowest_12 : decode cX9_lowest 12 = .ok (.lstore 5, 2) := by decide +kernel
theorem dX9_lowest_14 : decode cX9_lowest 14 = .ok (.lload_n 2, 1) := by decide +kernel
theorem dX9_lowest_15 : decode cX9_lowest 15 = .ok (.lstore 7, 2) := by decide +kernel
theorem dX9_lowest_17 : decode cX9_lowest 17 = .ok (.lload 7, 2) := by decide +kernel
theorem dX9_lowest_19 : decode cX9_lowest 19 = .ok (.lconst 0, 1) := by decide +kernel
theorem dX9_lowest_20 : decode cX9_lowest 20 = .ok (.lcmp, 1) := by decide +kernel
theorem dX9_lowest_21 : decode cX9_lowest 21 = .ok (.ifCond .eq 21, 3) := by decide +kernel
theorem dX9_lowest_24 : decode cX9_lowest 24 = .ok (.lload 5, 2) := by decide +kernel
theorem dX9_lowest_26 : decode cX9_lowest 26 = .ok (.lload 7, 2) := by decide +kernel
theorem dX9_lowest_28 : decode cX9_lowest 28 = .ok (.lrem, 1) := by decide +kernel
theorem dX9_lowest_29 : decode cX9_lowest 29 = .ok (.lstore 9, 2) := by decide +kernel
theorem dX9_lowest_31 : decode cX9_lowest 31 = .ok (.lload 7, 2) := by decide +kernel
theorem dX9_lowest_33 : decode cX9_lowest 33 = .ok (.lstore 5, 2) := by decide +kernel
theorem dX9_lowest_35 : decode cX9_lowest 35 = .ok (.lload 9, 2) := by decide +kernel
theorem dX9_lowest_37 : decode cX9_lowest 37 = .ok (.lstore 7, 2) := by decide +kernel
theorem dX9_lowest_39 : decode cX9_lowest 39 = .ok (.goto (-22), 3) := by decide +kernel
theorem dX9_lowest_42 : decode cX9_lowest 42 = .ok (.lload_n 0, 1) := by decide +kernel
theorem dX9_lowest_43 : decode cX9_lowest 43 = .ok (.lconst 0, 1) := by decide +kernel
theorem dX9_lowest_44 : decode cX9_lowest 44 = .ok (.lcmp, 1) := by decide +kernel
theorem dX9_lowest_45 : decode cX9_lowest 45 = .ok (.ifCond .ne 9, 3) := by decide +kernel
theorem dX9_lowest_48 : decode cX9_lowest 48 = .ok (.iload 4, 2) := by decide +kernel
theorem dX9_lowest_50 : decode cX9_lowest 50 = .ok (.i2l, 1) := by decide +kernel
theorem dX9_lowest_51 : decode cX9_lowest 51 = .ok (.goto 16, 3) := by decide +kernel
theorem dX9_lowest_54 : decode cX9_lowest 54 = .ok (.iload 4, 2) := by decide +kernel
theorem dX9_lowest_56 : decode cX9_lowest 56 = .ok (.ifCond .ne 7, 3) := by decide +kernel
theorem dX9_lowest_59 : decode cX9_lowest 59 = .ok (.lload_n 0, 1) := by decide +kernel
theorem dX9_lowest_60 : decode cX9_lowest 60 = .ok (.goto 4, 3) := by decide +kernel
theorem dX9_lowest_63 : decode cX9_lowest 63 = .ok (.lload_n 2, 1) := by decide +kernel
theorem dX9_lowest_64 : decode cX9_lowest 64 = .ok (.lload 5, 2) := by decide +kernel
theorem dX9_lowest_66 : decode cX9_lowest 66 = .ok (.ldiv, 1) := by decide +kernel
theorem dX9_lowest_67 : decode cX9_lowest 67 = .ok (.lreturn, 1) := by decide +kernel
set_option maxRecDepth 20000 in
theorem ggX9_leanSum_X9_ways : GoodIn wsX9_leanSum wsX9_ways := goodIn_r _ [6] (by decide +kernel) (by decide +kernel)
set_option maxRecDepth 20000 in
theorem gX9_leanSum_X9_ways : GoodIn wsX9_leanSum (va_wsS RX9 124 yX9_ways wsX9_ways) := goodIn_app (goodIn_of _ (by decide +kernel)) ggX9_leanSum_X9_ways
theorem dX9_leanSum_0 : decode cX9_leanSum 0 = .ok (.iconst 0, 1) := by decide +kernel
theorem dX9_leanSum_1 : decode cX9_leanSum 1 = .ok (.istore_n 2, 1) := by decide +kernel
theorem dX9_leanSum_2 : decode cX9_leanSum 2 = .ok (.iconst 0, 1) := by decide +kernel
theorem dX9_leanSum_3 : decode cX9_leanSum 3 = .ok (.istore_n 3, 1) := by decide +kernel
theorem dX9_leanSum_4 : decode cX9_leanSum 4 = .ok (.iload_n 3, 1) := by decide +kernel
theorem dX9_leanSum_5 : decode cX9_leanSum 5 = .ok (.aload_n 0, 1) := by decide +kernel
theorem dX9_leanSum_6 : decode cX9_leanSum 6 = .ok (.getfield 22, 3) := by decide +kernel
theorem dX9_leanSum_9 : decode cX9_leanSum 9 = .ok (.iload_n 1, 1) := by decide +kernel
theorem dX9_leanSum_10 : decode cX9_leanSum 10 = .ok (.iaload, 1) := by decide +kernel
theorem dX9_leanSum_11 : decode cX9_leanSum 11 = .ok (.if_icmp .gt 44, 3) := by decide +kernel
theorem dX9_leanSum_14 : decode cX9_leanSum 14 = .ok (.iload_n 2, 1) := by decide +kernel
theorem dX9_leanSum_15 : decode cX9_leanSum 15 = .ok (.aload_n 0, 1) := by decide +kernel
theorem dX9_leanSum_16 : decode cX9_leanSum 16 = .ok (.getfield 25, 3) := by decide +kernel
theorem dX9_leanSum_19 : decode cX9_leanSum 19 = .ok (.iconst 4, 1) := by decide +kernel
theorem dX9_leanSum_20 : decode cX9_leanSum 20 = .ok (.iload_n 1, 1) := by decide +kernel
theorem dX9_leanSum_21 : decode cX9_leanSum 21 = .ok (.imul, 1) := by decide +kernel
theorem dX9_leanSum_22 : decode cX9_leanSum 22 = .ok (.iload_n 3, 1) := by decide +kernel
theorem dX9_leanSum_23 : decode cX9_leanSum 23 = .ok (.iadd, 1) := by decide +kernel
theorem dX9_leanSum_24 : decode cX9_leanSum 24 = .ok (.iaload, 1) := by decide +kernel
theorem dX9_leanSum_25 : decode cX9_leanSum 25 = .ok (.iload_n 3, 1) := by decide +kernel
theorem dX9_leanSum_26 : decode cX9_leanSum 26 = .ok (.aload_n 0, 1) := by decide +kernel
theorem dX9_leanSum_27 : decode cX9_leanSum 27 = .ok (.getfield 22, 3) := by decide +kernel
theorem dX9_leanSum_30 : decode cX9_leanSum 30 = .ok (.iload_n 1, 1) := by decide +kernel
theorem dX9_leanSum_31 : decode cX9_leanSum 31 = .ok (.iaload, 1) := by decide +kernel
theorem dX9_leanSum_32 : decode cX9_leanSum 32 = .ok (.invokestatic 124, 3) := by decide +kernel
theorem dX9_leanSum_35 : decode cX9_leanSum 35 = .ok (.imul, 1) := by decide +kernel
theorem dX9_leanSum_36 : decode cX9_leanSum 36 = .ok (.iconst 2, 1) := by decide +kernel
theorem dX9_leanSum_37 : decode cX9_leanSum 37 = .ok (.iload_n 3, 1) := by decide +kernel
theorem dX9_leanSum_38 : decode cX9_leanSum 38 = .ok (.imul, 1) := by decide +kernel
theorem dX9_leanSum_39 : decode cX9_leanSum 39 = .ok (.aload_n 0, 1) := by decide +kernel
theorem dX9_leanSum_40 : decode cX9_leanSum 40 = .ok (.getfield 22, 3) := by decide +kernel
theorem dX9_leanSum_43 : decode cX9_leanSum 43 = .ok (.iload_n 1, 1) := by decide +kernel
theorem dX9_leanSum_44 : decode cX9_leanSum 44 = .ok (.iaload, 1) := by decide +kernel
theorem dX9_leanSum_45 : decode cX9_leanSum 45 = .ok (.isub, 1) := by decide +kernel
theorem dX9_leanSum_46 : decode cX9_leanSum 46 = .ok (.imul, 1) := by decide +kernel
theorem dX9_leanSum_47 : decode cX9_leanSum 47 = .ok (.iadd, 1) := by decide +kernel
theorem dX9_leanSum_48 : decode cX9_leanSum 48 = .ok (.istore_n 2, 1) := by decide +kernel
theorem dX9_leanSum_49 : decode cX9_leanSum 49 = .ok (.iinc 3 1, 3) := by decide +kernel
theorem dX9_leanSum_52 : decode cX9_leanSum 52 = .ok (.goto (-48), 3) := by decide +kernel
theorem dX9_leanSum_55 : decode cX9_leanSum 55 = .ok (.iload_n 2, 1) := by decide +kernel
theorem dX9_leanSum_56 : decode cX9_leanSum 56 = .ok (.ireturn, 1) := by decide +kernel
set_option maxRecDepth 20000 in
theorem ggX9_leans_X9_isRecipe : GoodIn wsX9_leans wsX9_isRecipe := goodIn_r _ [7, 8, 9, 10, 6, 11, 27, 28, 29, 30, 31, 32, 33, 34, 35, 36, 37, 38, 39, 40, 41, 42, 43, 44, 45, 46, 47, 48, 49, 50, 51, 52, 53, 54, 55, 56, 57, 58] (by decide +kernel) (by decide +kernel)
set_option maxRecDepth 20000 in
theorem gX9_leans_X9_isRecipe : GoodIn wsX9_leans (wsV RX9 121 RX9 yX9_isRecipe wsX9_isRecipe) := goodIn_app (goodIn_of _ (by decide +kernel)) ggX9_leans_X9_isRecipe
set_option maxRecDepth 20000 in
theorem ggX9_leans_X9_in : GoodIn wsX9_leans wsX9_in := goodIn_r _ [11] (by decide +kernel) (by decide +kernel)
set_option maxRecDepth 20000 in
theorem gX9_leans_X9_in : GoodIn wsX9_leans (va_wsS RX9 83 yX9_in wsX9_in) := goodIn_app (goodIn_of _ (by decide +kernel)) ggX9_leans_X9_in
set_option maxRecDepth 20000 in
theorem ggX9_leans_X9_leanSum : GoodIn wsX9_leans wsX9_leanSum := goodIn_r _ [15, 1, 16, 17, 18, 6, 19, 27, 28, 29, 30, 31, 32, 33, 34, 35, 36, 37, 38, 39, 40, 41, 42, 43, 44, 45, 46, 47, 48, 49, 50, 51, 52, 53, 54, 55, 56, 57, 58] (by decide +kernel) (by decide +kernel)
set_option maxRecDepth 20000 in
theorem gX9_leans_X9_leanSum : GoodIn wsX9_leans (wsV RX9 187 RX9 yX9_leanSum wsX9_leanSum) := goodIn_app (goodIn_of _ (by decide +kernel)) ggX9_leans_X9_leanSum
set_option maxRecDepth 20000 in
theorem ggX9_leans_X9_all : GoodIn wsX9_leans wsX9_all := goodIn_r _ [23, 1, 16, 17, 18, 6, 19, 27, 28, 29, 30, 31, 32, 33, 34, 35, 36, 37, 38, 39, 40, 41, 42, 43, 44, 45, 46, 47, 48, 49, 50, 51, 52, 53, 54, 55, 56, 57, 58] (by decide +kernel) (by decide +kernel)
set_option maxRecDepth 20000 in
theorem gX9_leans_X9_all : GoodIn wsX9_leans (wsV RX9 141 RX9 yX9_all wsX9_all) := goodIn_app (goodIn_of _ (by decide +kernel)) ggX9_leans_X9_all
set_option maxRecDepth 20000 in
theorem ggX9_leans_X9_lowest : GoodIn wsX9_leans wsX9_lowest := goodIn_r _ [26] (by decide +kernel) (by decide +kernel)
set_option maxRecDepth 20000 in
theorem gX9_leans_X9_lowest : GoodIn wsX9_leans (va_wsS RX9 190 yX9_lowest wsX9_lowest) := goodIn_app (goodIn_of _ (by decide +kernel)) ggX9_leans_X9_lowest
theorem dX9_leans_0 : decode cX9_leans 0 = .ok (.aload_n 0, 1) := by decide +kernel
theorem dX9_leans_1 : decode cX9_leans 1 = .ok (.iload_n 1, 1) := by decide +kernel
theorem dX9_leans_2 : decode cX9_leans 2 = .ok (.invokevirtual 121, 3) := by decide +kernel
theorem dX9_leans_5 : decode cX9_leans 5 = .ok (.ifCond .eq 39, 3) := by decide +kernel
theorem dX9_leans_8 : decode cX9_leans 8 = .ok (.iload_n 2, 1) := by decide +kernel
theorem dX9_leans_9 : decode cX9_leans 9 = .ok (.iconst 0, 1) := by decide +kernel
theorem dX9_leans_10 : decode cX9_leans 10 = .ok (.iconst 1, 1) := by decide +kernel
theorem dX9_leans_11 : decode cX9_leans 11 = .ok (.invokestatic 83, 3) := by decide +kernel
theorem dX9_leans_14 : decode cX9_leans 14 = .ok (.ifCond .eq 30, 3) := by decide +kernel
theorem dX9_leans_17 : decode cX9_leans 17 = .ok (.aload_n 0, 1) := by decide +kernel
theorem dX9_leans_18 : decode cX9_leans 18 = .ok (.iload_n 1, 1) := by decide +kernel
theorem dX9_leans_19 : decode cX9_leans 19 = .ok (.invokevirtual 187, 3) := by decide +kernel
theorem dX9_leans_22 : decode cX9_leans 22 = .ok (.i2l, 1) := by decide +kernel
theorem dX9_leans_23 : decode cX9_leans 23 = .ok (.aload_n 0, 1) := by decide +kernel
theorem dX9_leans_24 : decode cX9_leans 24 = .ok (.iload_n 1, 1) := by decide +kernel
theorem dX9_leans_25 : decode cX9_leans 25 = .ok (.invokevirtual 141, 3) := by decide +kernel
theorem dX9_leans_28 : decode cX9_leans 28 = .ok (.i2l, 1) := by decide +kernel
theorem dX9_leans_29 : decode cX9_leans 29 = .ok (.aload_n 0, 1) := by decide +kernel
theorem dX9_leans_30 : decode cX9_leans 30 = .ok (.getfield 22, 3) := by decide +kernel
theorem dX9_leans_33 : decode cX9_leans 33 = .ok (.iload_n 1, 1) := by decide +kernel
theorem dX9_leans_34 : decode cX9_leans 34 = .ok (.iaload, 1) := by decide +kernel
theorem dX9_leans_35 : decode cX9_leans 35 = .ok (.i2l, 1) := by decide +kernel
theorem dX9_leans_36 : decode cX9_leans 36 = .ok (.lmul, 1) := by decide +kernel
theorem dX9_leans_37 : decode cX9_leans 37 = .ok (.iload_n 2, 1) := by decide +kernel
theorem dX9_leans_38 : decode cX9_leans 38 = .ok (.invokestatic 190, 3) := by decide +kernel
theorem dX9_leans_41 : decode cX9_leans 41 = .ok (.goto 6, 3) := by decide +kernel
theorem dX9_leans_44 : decode cX9_leans 44 = .ok (.ldc2_w 194, 3) := by decide +kernel
theorem dX9_leans_47 : decode cX9_leans 47 = .ok (.lreturn, 1) := by decide +kernel
set_option maxRecDepth 20000 in
theorem ggX9_pairs_X9_isRecipe : GoodIn wsX9_pairs wsX9_isRecipe := goodIn_r _ [8, 9, 10, 11, 7, 12, 23, 24, 25, 26, 27, 28, 29, 30, 31, 32, 33, 34, 35, 36, 37, 38, 39, 40, 41, 42, 43, 44, 45, 46, 47, 48, 49, 50, 51, 52, 53, 54] (by decide +kernel) (by decide +kernel)
set_option maxRecDepth 20000 in
theorem gX9_pairs_X9_isRecipe : GoodIn wsX9_pairs (wsV RX9 121 RX9 yX9_isRecipe wsX9_isRecipe) := goodIn_app (goodIn_of _ (by decide +kernel)) ggX9_pairs_X9_isRecipe
set_option maxRecDepth 20000 in
theorem ggX9_pairs_X9_in : GoodIn wsX9_pairs wsX9_in := goodIn_r _ [12] (by decide +kernel) (by decide +kernel)
set_option maxRecDepth 20000 in
theorem gX9_pairs_X9_in : GoodIn wsX9_pairs (va_wsS RX9 83 yX9_in wsX9_in) := goodIn_app (goodIn_of _ (by decide +kernel)) ggX9_pairs_X9_in
set_option maxRecDepth 20000 in
theorem ggX9_pairs_X9_ways : GoodIn wsX9_pairs wsX9_ways := goodIn_r _ [15] (by decide +kernel) (by decide +kernel)
set_option maxRecDepth 20000 in
theorem gX9_pairs_X9_ways : GoodIn wsX9_pairs (va_wsS RX9 124 yX9_ways wsX9_ways) := goodIn_app (goodIn_of _ (by decide +kernel)) ggX9_pairs_X9_ways
set_option maxRecDepth 20000 in
theorem ggX9_pairs_X9_all : GoodIn wsX9_pairs wsX9_all := goodIn_r _ [19, 2, 3, 13, 14, 7, 15, 23, 24, 25, 26, 27, 28, 29, 30, 31, 32, 33, 34, 35, 36, 37, 38, 39, 40, 41, 42, 43, 44, 45, 46, 47, 48, 49, 50, 51, 52, 53, 54] (by decide +kernel) (by decide +kernel)
set_option maxRecDepth 20000 in
theorem gX9_pairs_X9_all : GoodIn wsX9_pairs (wsV RX9 141 RX9 yX9_all wsX9_all) := goodIn_app (goodIn_of _ (by decide +kernel)) ggX9_pairs_X9_all
set_option maxRecDepth 20000 in
theorem ggX9_pairs_X9_lowest : GoodIn wsX9_pairs wsX9_lowest := goodIn_r _ [22] (by decide +kernel) (by decide +kernel)
set_option maxRecDepth 20000 in
theorem gX9_pairs_X9_lowest : GoodIn wsX9_pairs (va_wsS RX9 190 yX9_lowest wsX9_lowest) := goodIn_app (goodIn_of _ (by decide +kernel)) ggX9_pairs_X9_lowest
theorem dX9_pairs_0 : decode cX9_pairs 0 = .ok (.aload_n 0, 1) := by decide +kernel
theorem dX9_pairs_1 : decode cX9_pairs 1 = .ok (.iload_n 1, 1) := by decide +kernel
theorem dX9_pairs_2 : decode cX9_pairs 2 = .ok (.invokevirtual 121, 3) := by decide +kernel
theorem dX9_pairs_5 : decode cX9_pairs 5 = .ok (.ifCond .eq 12, 3) := by decide +kernel
theorem dX9_pairs_8 : decode cX9_pairs 8 = .ok (.iload_n 2, 1) := by decide +kernel
theorem dX9_pairs_9 : decode cX9_pairs 9 = .ok (.iconst 0, 1) := by decide +kernel
theorem dX9_pairs_10 : decode cX9_pairs 10 = .ok (.iconst 1, 1) := by decide +kernel
theorem dX9_pairs_11 : decode cX9_pairs 11 = .ok (.invokestatic 83, 3) := by decide +kernel
theorem dX9_pairs_14 : decode cX9_pairs 14 = .ok (.ifCond .ne 7, 3) := by decide +kernel
theorem dX9_pairs_17 : decode cX9_pairs 17 = .ok (.ldc2_w 194, 3) := by decide +kernel
theorem dX9_pairs_20 : decode cX9_pairs 20 = .ok (.lreturn, 1) := by decide +kernel
theorem dX9_pairs_21 : decode cX9_pairs 21 = .ok (.aload_n 0, 1) := by decide +kernel
theorem dX9_pairs_22 : decode cX9_pairs 22 = .ok (.getfield 22, 3) := by decide +kernel
theorem dX9_pairs_25 : decode cX9_pairs 25 = .ok (.iload_n 1, 1) := by decide +kernel
theorem dX9_pairs_26 : decode cX9_pairs 26 = .ok (.iaload, 1) := by decide +kernel
theorem dX9_pairs_27 : decode cX9_pairs 27 = .ok (.istore_n 3, 1) := by decide +kernel
theorem dX9_pairs_28 : decode cX9_pairs 28 = .ok (.iconst 0, 1) := by decide +kernel
theorem dX9_pairs_29 : decode cX9_pairs 29 = .ok (.istore 4, 2) := by decide +kernel
theorem dX9_pairs_31 : decode cX9_pairs 31 = .ok (.iconst 0, 1) := by decide +kernel
theorem dX9_pairs_32 : decode cX9_pairs 32 = .ok (.istore 5, 2) := by decide +kernel
theorem dX9_pairs_34 : decode cX9_pairs 34 = .ok (.iload 5, 2) := by decide +kernel
theorem dX9_pairs_36 : decode cX9_pairs 36 = .ok (.iload_n 3, 1) := by decide +kernel
theorem dX9_pairs_37 : decode cX9_pairs 37 = .ok (.if_icmp .gt 64, 3) := by decide +kernel
theorem dX9_pairs_40 : decode cX9_pairs 40 = .ok (.iload_n 3, 1) := by decide +kernel
theorem dX9_pairs_41 : decode cX9_pairs 41 = .ok (.iload 5, 2) := by decide +kernel
theorem dX9_pairs_43 : decode cX9_pairs 43 = .ok (.isub, 1) := by decide +kernel
theorem dX9_pairs_44 : decode cX9_pairs 44 = .ok (.istore 6, 2) := by decide +kernel
theorem dX9_pairs_46 : decode cX9_pairs 46 = .ok (.iload 4, 2) := by decide +kernel
theorem dX9_pairs_48 : decode cX9_pairs 48 = .ok (.aload_n 0, 1) := by decide +kernel
theorem dX9_pairs_49 : decode cX9_pairs 49 = .ok (.getfield 25, 3) := by decide +kernel
theorem dX9_pairs_52 : decode cX9_pairs 52 = .ok (.iconst 4, 1) := by decide +kernel
theorem dX9_pairs_53 : decode cX9_pairs 53 = .ok (.iload_n 1, 1) := by decide +kernel
theorem dX9_pairs_54 : decode cX9_pairs 54 = .ok (.imul, 1) := by decide +kernel
theorem dX9_pairs_55 : decode cX9_pairs 55 = .ok (.iload 5, 2) := by decide +kernel
theorem dX9_pairs_57 : decode cX9_pairs 57 = .ok (.iadd, 1) := by decide +kernel
theorem dX9_pairs_58 : decode cX9_pairs 58 = .ok (.iaload, 1) := by decide +kernel
theorem dX9_pairs_59 : decode cX9_pairs 59 = .ok (.iload 5, 2) := by decide +kernel
theorem dX9_pairs_61 : decode cX9_pairs 61 = .ok (.iload_n 3, 1) := by decide +kernel
theorem dX9_pairs_62 : decode cX9_pairs 62 = .ok (.invokestatic 124, 3) := by decide +kernel
theorem dX9_pairs_65 : decode cX9_pairs 65 = .ok (.imul, 1) := by decide +kernel
theorem dX9_pairs_66 : decode cX9_pairs 66 = .ok (.iload 5, 2) := by decide +kernel
theorem dX9_pairs_68 : decode cX9_pairs 68 = .ok (.iload 5, 2) := by decide +kernel
theorem dX9_pairs_70 : decode cX9_pairs 70 = .ok (.iconst 1, 1) := by decide +kernel
theorem dX9_pairs_71 : decode cX9_pairs 71 = .ok (.isub, 1) := by decide +kernel
theorem dX9_pairs_72 : decode cX9_pairs 72 = .ok (.imul, 1) := by decide +kernel
theorem dX9_pairs_73 : decode cX9_pairs 73 = .ok (.iconst 2, 1) := by decide +kernel
theorem dX9_pairs_74 : decode cX9_pairs 74 = .ok (.idiv, 1) := by decide +kernel
theorem dX9_pairs_75 : decode cX9_pairs 75 = .ok (.iload 6, 2) := by decide +kernel
theorem dX9_pairs_77 : decode cX9_pairs 77 = .ok (.iload 6, 2) := by decide +kernel
theorem dX9_pairs_79 : decode cX9_pairs 79 = .ok (.iconst 1, 1) := by decide +kernel
theorem dX9_pairs_80 : decode cX9_pairs 80 = .ok (.isub, 1) := by decide +kernel
theorem dX9_pairs_81 : decode cX9_pairs 81 = .ok (.imul, 1) := by decide +kernel
theorem dX9_pairs_82 : decode cX9_pairs 82 = .ok (.iconst 2, 1) := by decide +kernel
theorem dX9_pairs_83 : decode cX9_pairs 83 = .ok (.idiv, 1) := by decide +kernel
theorem dX9_pairs_84 : decode cX9_pairs 84 = .ok (.iadd, 1) := by decide +kernel
theorem dX9_pairs_85 : decode cX9_pairs 85 = .ok (.iload 5, 2) := by decide +kernel
theorem dX9_pairs_87 : decode cX9_pairs 87 = .ok (.iload 6, 2) := by decide +kernel
theorem dX9_pairs_89 : decode cX9_pairs 89 = .ok (.imul, 1) := by decide +kernel
theorem dX9_pairs_90 : decode cX9_pairs 90 = .ok (.isub, 1) := by decide +kernel
theorem dX9_pairs_91 : decode cX9_pairs 91 = .ok (.imul, 1) := by decide +kernel
theorem dX9_pairs_92 : decode cX9_pairs 92 = .ok (.iadd, 1) := by decide +kernel
theorem dX9_pairs_93 : decode cX9_pairs 93 = .ok (.istore 4, 2) := by decide +kernel
theorem dX9_pairs_95 : decode cX9_pairs 95 = .ok (.iinc 5 1, 3) := by decide +kernel
theorem dX9_pairs_98 : decode cX9_pairs 98 = .ok (.goto (-64), 3) := by decide +kernel
theorem dX9_pairs_101 : decode cX9_pairs 101 = .ok (.iload_n 3, 1) := by decide +kernel
theorem dX9_pairs_102 : decode cX9_pairs 102 = .ok (.iconst 1, 1) := by decide +kernel
theorem dX9_pairs_103 : decode cX9_pairs 103 = .ok (.if_icmp .ne 8, 3) := by decide +kernel
theorem dX9_pairs_106 : decode cX9_pairs 106 = .ok (.iload_n 2, 1) := by decide +kernel
theorem dX9_pairs_107 : decode cX9_pairs 107 = .ok (.i2l, 1) := by decide +kernel
theorem dX9_pairs_108 : decode cX9_pairs 108 = .ok (.goto 25, 3) := by decide +kernel
theorem dX9_pairs_111 : decode cX9_pairs 111 = .ok (.iload 4, 2) := by decide +kernel
theorem dX9_pairs_113 : decode cX9_pairs 113 = .ok (.i2l, 1) := by decide +kernel
theorem dX9_pairs_114 : decode cX9_pairs 114 = .ok (.aload_n 0, 1) := by decide +kernel
theorem dX9_pairs_115 : decode cX9_pairs 115 = .ok (.iload_n 1, 1) := by decide +kernel
theorem dX9_pairs_116 : decode cX9_pairs 116 = .ok (.invokevirtual 141, 3) := by decide +kernel
theorem dX9_pairs_119 : decode cX9_pairs 119 = .ok (.i2l, 1) := by decide +kernel
theorem dX9_pairs_120 : decode cX9_pairs 120 = .ok (.iload_n 3, 1) := by decide +kernel
theorem dX9_pairs_121 : decode cX9_pairs 121 = .ok (.iload_n 3, 1) := by decide +kernel
theorem dX9_pairs_122 : decode cX9_pairs 122 = .ok (.iconst 1, 1) := by decide +kernel
theorem dX9_pairs_123 : decode cX9_pairs 123 = .ok (.isub, 1) := by decide +kernel
theorem dX9_pairs_124 : decode cX9_pairs 124 = .ok (.imul, 1) := by decide +kernel
theorem dX9_pairs_125 : decode cX9_pairs 125 = .ok (.iconst 2, 1) := by decide +kernel
theorem dX9_pairs_126 : decode cX9_pairs 126 = .ok (.idiv, 1) := by decide +kernel
theorem dX9_pairs_127 : decode cX9_pairs 127 = .ok (.i2l, 1) := by decide +kernel
theorem dX9_pairs_128 : decode cX9_pairs 128 = .ok (.lmul, 1) := by decide +kernel
theorem dX9_pairs_129 : decode cX9_pairs 129 = .ok (.iload_n 2, 1) := by decide +kernel
theorem dX9_pairs_130 : decode cX9_pairs 130 = .ok (.invokestatic 190, 3) := by decide +kernel
theorem dX9_pairs_133 : decode cX9_pairs 133 = .ok (.lreturn, 1) := by decide +kernel
set_option maxRecDepth 20000 in
theorem ggX9_balance_X9_isRecipe : GoodIn wsX9_balance wsX9_isRecipe := goodIn_r _ [8, 9, 10, 11, 7, 12, 27, 28, 29, 30, 31, 32, 33, 34, 35, 36, 37, 38, 39, 40, 41, 42, 43, 44, 45, 46, 47, 48, 49, 50, 51, 52, 53, 54, 55, 56, 57, 58] (by decide +kernel) (by decide +kernel)
set_option maxRecDepth 20000 in
theorem gX9_balance_X9_isRecipe : GoodIn wsX9_balance (wsV RX9 121 RX9 yX9_isRecipe wsX9_isRecipe) := goodIn_app (goodIn_of _ (by decide +kernel)) ggX9_balance_X9_isRecipe
set_option maxRecDepth 20000 in
theorem ggX9_balance_X9_holds : GoodIn wsX9_balance wsX9_holds := goodIn_r _ [15] (by decide +kernel) (by decide +kernel)
set_option maxRecDepth 20000 in
theorem gX9_balance_X9_holds : GoodIn wsX9_balance (va_wsS RX9 79 yX9_holds wsX9_holds) := goodIn_app (goodIn_of _ (by decide +kernel)) ggX9_balance_X9_holds
set_option maxRecDepth 20000 in
theorem ggX9_balance_X9_leanSum : GoodIn wsX9_balance wsX9_leanSum := goodIn_r _ [19, 1, 2, 20, 21, 7, 22, 27, 28, 29, 30, 31, 32, 33, 34, 35, 36, 37, 38, 39, 40, 41, 42, 43, 44, 45, 46, 47, 48, 49, 50, 51, 52, 53, 54, 55, 56, 57, 58] (by decide +kernel) (by decide +kernel)
set_option maxRecDepth 20000 in
theorem gX9_balance_X9_leanSum : GoodIn wsX9_balance (wsV RX9 187 RX9 yX9_leanSum wsX9_leanSum) := goodIn_app (goodIn_of _ (by decide +kernel)) ggX9_balance_X9_leanSum
set_option maxRecDepth 20000 in
theorem ggX9_balance_X9_all : GoodIn wsX9_balance wsX9_all := goodIn_r _ [26, 1, 2, 20, 21, 7, 22, 27, 28, 29, 30, 31, 32, 33, 34, 35, 36, 37, 38, 39, 40, 41, 42, 43, 44, 45, 46, 47, 48, 49, 50, 51, 52, 53, 54, 55, 56, 57, 58] (by decide +kernel) (by decide +kernel)
set_option maxRecDepth 20000 in
theorem gX9_balance_X9_all : GoodIn wsX9_balance (wsV RX9 141 RX9 yX9_all wsX9_all) := goodIn_app (goodIn_of _ (by decide +kernel)) ggX9_balance_X9_all
theorem dX9_balance_0 : decode cX9_balance 0 = .ok (.aload_n 0, 1) := by decide +kernel
theorem dX9_balance_1 : decode cX9_balance 1 = .ok (.iload_n 1, 1) := by decide +kernel
theorem dX9_balance_2 : decode cX9_balance 2 = .ok (.invokevirtual 121, 3) := by decide +kernel
theorem dX9_balance_5 : decode cX9_balance 5 = .ok (.ifCond .ne 6, 3) := by decide +kernel
theorem dX9_balance_8 : decode cX9_balance 8 = .ok (.bipush (-5), 2) := by decide +kernel
theorem dX9_balance_10 : decode cX9_balance 10 = .ok (.ireturn, 1) := by decide +kernel
theorem dX9_balance_11 : decode cX9_balance 11 = .ok (.iconst (-1), 1) := by decide +kernel
theorem dX9_balance_12 : decode cX9_balance 12 = .ok (.istore_n 2, 1) := by decide +kernel
theorem dX9_balance_13 : decode cX9_balance 13 = .ok (.iconst 0, 1) := by decide +kernel
theorem dX9_balance_14 : decode cX9_balance 14 = .ok (.istore_n 3, 1) := by decide +kernel
theorem dX9_balance_15 : decode cX9_balance 15 = .ok (.iconst 0, 1) := by decide +kernel
theorem dX9_balance_16 : decode cX9_balance 16 = .ok (.istore 4, 2) := by decide +kernel
theorem dX9_balance_18 : decode cX9_balance 18 = .ok (.iload 4, 2) := by decide +kernel
theorem dX9_balance_20 : decode cX9_balance 20 = .ok (.aload_n 0, 1) := by decide +kernel
theorem dX9_balance_21 : decode cX9_balance 21 = .ok (.getfield 22, 3) := by decide +kernel
theorem dX9_balance_24 : decode cX9_balance 24 = .ok (.iload_n 1, 1) := by decide +kernel
theorem dX9_balance_25 : decode cX9_balance 25 = .ok (.iaload, 1) := by decide +kernel
theorem dX9_balance_26 : decode cX9_balance 26 = .ok (.if_icmp .gt 145, 3) := by decide +kernel
theorem dX9_balance_29 : decode cX9_balance 29 = .ok (.aload_n 0, 1) := by decide +kernel
theorem dX9_balance_30 : decode cX9_balance 30 = .ok (.getfield 25, 3) := by decide +kernel
theorem dX9_balance_33 : decode cX9_balance 33 = .ok (.iconst 4, 1) := by decide +kernel
theorem dX9_balance_34 : decode cX9_balance 34 = .ok (.iload_n 1, 1) := by decide +kernel
theorem dX9_balance_35 : decode cX9_balance 35 = .ok (.imul, 1) := by decide +kernel
theorem dX9_balance_36 : decode cX9_balance 36 = .ok (.iload 4, 2) := by decide +kernel
theorem dX9_balance_38 : decode cX9_balance 38 = .ok (.iadd, 1) := by decide +kernel
theorem dX9_balance_39 : decode cX9_balance 39 = .ok (.iaload, 1) := by decide +kernel
theorem dX9_balance_40 : decode cX9_balance 40 = .ok (.istore 5, 2) := by decide +kernel
theorem dX9_balance_42 : decode cX9_balance 42 = .ok (.iconst 0, 1) := by decide +kernel
theorem dX9_balance_43 : decode cX9_balance 43 = .ok (.istore 6, 2) := by decide +kernel
theorem dX9_balance_45 : decode cX9_balance 45 = .ok (.iload 6, 2) := by decide +kernel
theorem dX9_balance_47 : decode cX9_balance 47 = .ok (.bipush 100, 2) := by decide +kernel
theorem dX9_balance_49 : decode cX9_balance 49 = .ok (.if_icmp .ge 103, 3) := by decide +kernel
theorem dX9_balance_52 : decode cX9_balance 52 = .ok (.aload_n 0, 1) := by decide +kernel
theorem dX9_balance_53 : decode cX9_balance 53 = .ok (.getfield 13, 3) := by decide +kernel
theorem dX9_balance_56 : decode cX9_balance 56 = .ok (.iload_n 1, 1) := by decide +kernel
theorem dX9_balance_57 : decode cX9_balance 57 = .ok (.iaload, 1) := by decide +kernel
theorem dX9_balance_58 : decode cX9_balance 58 = .ok (.iload 4, 2) := by decide +kernel
theorem dX9_balance_60 : decode cX9_balance 60 = .ok (.aload_n 0, 1) := by decide +kernel
theorem dX9_balance_61 : decode cX9_balance 61 = .ok (.getfield 22, 3) := by decide +kernel
theorem dX9_balance_64 : decode cX9_balance 64 = .ok (.iload_n 1, 1) := by decide +kernel
theorem dX9_balance_65 : decode cX9_balance 65 = .ok (.iaload, 1) := by decide +kernel
theorem dX9_balance_66 : decode cX9_balance 66 = .ok (.invokestatic 79, 3) := by decide +kernel
theorem dX9_balance_69 : decode cX9_balance 69 = .ok (.ifCond .eq 83, 3) := by decide +kernel
theorem dX9_balance_72 : decode cX9_balance 72 = .ok (.aload_n 0, 1) := by decide +kernel
theorem dX9_balance_73 : decode cX9_balance 73 = .ok (.getfield 25, 3) := by decide +kernel
theorem dX9_balance_76 : decode cX9_balance 76 = .ok (.iconst 4, 1) := by decide +kernel
theorem dX9_balance_77 : decode cX9_balance 77 = .ok (.iload_n 1, 1) := by decide +kernel
theorem dX9_balance_78 : decode cX9_balance 78 = .ok (.imul, 1) := by decide +kernel
theorem dX9_balance_79 : decode cX9_balance 79 = .ok (.iload 4, 2) := by decide +kernel
theorem dX9_balance_81 : decode cX9_balance 81 = .ok (.iadd, 1) := by decide +kernel
theorem dX9_balance_82 : decode cX9_balance 82 = .ok (.iload 6, 2) := by decide +kernel
theorem dX9_balance_84 : decode cX9_balance 84 = .ok (.iastore, 1) := by decide +kernel
theorem dX9_balance_85 : decode cX9_balance 85 = .ok (.iload 6, 2) := by decide +kernel
theorem dX9_balance_87 : decode cX9_balance 87 = .ok (.iload 5, 2) := by decide +kernel
theorem dX9_balance_89 : decode cX9_balance 89 = .ok (.if_icmp .ge 11, 3) := by decide +kernel
theorem dX9_balance_92 : decode cX9_balance 92 = .ok (.iload 5, 2) := by decide +kernel
theorem dX9_balance_94 : decode cX9_balance 94 = .ok (.iload 6, 2) := by decide +kernel
theorem dX9_balance_96 : decode cX9_balance 96 = .ok (.isub, 1) := by decide +kernel
theorem dX9_balance_97 : decode cX9_balance 97 = .ok (.goto 8, 3) := by decide +kernel
theorem dX9_balance_100 : decode cX9_balance 100 = .ok (.iload 6, 2) := by decide +kernel
theorem dX9_balance_102 : decode cX9_balance 102 = .ok (.iload 5, 2) := by decide +kernel
theorem dX9_balance_104 : decode cX9_balance 104 = .ok (.isub, 1) := by decide +kernel
theorem dX9_balance_105 : decode cX9_balance 105 = .ok (.istore 7, 2) := by decide +kernel
theorem dX9_balance_107 : decode cX9_balance 107 = .ok (.aload_n 0, 1) := by decide +kernel
theorem dX9_balance_108 : decode cX9_balance 108 = .ok (.iload_n 1, 1) := by decide +kernel
theorem dX9_balance_109 : decode cX9_balance 109 = .ok (.invokevirtual 187, 3) := by decide +kernel
theorem dX9_balance_112 : decode cX9_balance 112 = .ok (.ifCond .ne 34, 3) := by decide +kernel
theorem dX9_balance_115 : decode cX9_balance 115 = .ok (.aload_n 0, 1) := by decide +kernel
theorem dX9_balance_116 : decode cX9_balance 116 = .ok (.iload_n 1, 1) := by decide +kernel
theorem dX9_balance_117 : decode cX9_balance 117 = .ok (.invokevirtual 141, 3) := by decide +kernel
theorem dX9_balance_120 : decode cX9_balance 120 = .ok (.ifCond .eq 26, 3) := by decide +kernel
theorem dX9_balance_123 : decode cX9_balance 123 = .ok (.iload_n 2, 1) := by decide +kernel
theorem dX9_balance_124 : decode cX9_balance 124 = .ok (.iconst (-1), 1) := by decide +kernel
theorem dX9_balance_125 : decode cX9_balance 125 = .ok (.if_icmp .eq 9, 3) := by decide +kernel
theorem dX9_balance_128 : decode cX9_balance 128 = .ok (.iload 7, 2) := by decide +kernel
theorem dX9_balance_130 : decode cX9_balance 130 = .ok (.iload_n 3, 1) := by decide +kernel
theorem dX9_balance_131 : decode cX9_balance 131 = .ok (.if_icmp .ge 15, 3) := by decide +kernel
theorem dX9_balance_134 : decode cX9_balance 134 = .ok (.bipush 100, 2) := by decide +kernel
theorem dX9_balance_136 : decode cX9_balance 136 = .ok (.iload 4, 2) := by decide +kernel
theorem dX9_balance_138 : decode cX9_balance 138 = .ok (.imul, 1) := by decide +kernel
theorem dX9_balance_139 : decode cX9_balance 139 = .ok (.iload 6, 2) := by decide +kernel
theorem dX9_balance_141 : decode cX9_balance 141 = .ok (.iadd, 1) := by decide +kernel
theorem dX9_balance_142 : decode cX9_balance 142 = .ok (.istore_n 2, 1) := by decide +kernel
theorem dX9_balance_143 : decode cX9_balance 143 = .ok (.iload 7, 2) := by decide +kernel
theorem dX9_balance_145 : decode cX9_balance 145 = .ok (.istore_n 3, 1) := by decide +kernel
theorem dX9_balance_146 : decode cX9_balance 146 = .ok (.iinc 6 1, 3) := by decide +kernel
theorem dX9_balance_149 : decode cX9_balance 149 = .ok (.goto (-104), 3) := by decide +kernel
theorem dX9_balance_152 : decode cX9_balance 152 = .ok (.aload_n 0, 1) := by decide +kernel
theorem dX9_balance_153 : decode cX9_balance 153 = .ok (.getfield 25, 3) := by decide +kernel
theorem dX9_balance_156 : decode cX9_balance 156 = .ok (.iconst 4, 1) := by decide +kernel
theorem dX9_balance_157 : decode cX9_balance 157 = .ok (.iload_n 1, 1) := by decide +kernel
theorem dX9_balance_158 : decode cX9_balance 158 = .ok (.imul, 1) := by decide +kernel
theorem dX9_balance_159 : decode cX9_balance 159 = .ok (.iload 4, 2) := by decide +kernel
theorem dX9_balance_161 : decode cX9_balance 161 = .ok (.iadd, 1) := by decide +kernel
theorem dX9_balance_162 : decode cX9_balance 162 = .ok (.iload 5, 2) := by decide +kernel
theorem dX9_balance_164 : decode cX9_balance 164 = .ok (.iastore, 1) := by decide +kernel
theorem dX9_balance_165 : decode cX9_balance 165 = .ok (.iinc 4 1, 3) := by decide +kernel
theorem dX9_balance_168 : decode cX9_balance 168 = .ok (.goto (-150), 3) := by decide +kernel
theorem dX9_balance_171 : decode cX9_balance 171 = .ok (.iload_n 2, 1) := by decide +kernel
theorem dX9_balance_172 : decode cX9_balance 172 = .ok (.ireturn, 1) := by decide +kernel
set_option maxRecDepth 20000 in
theorem ggX9_countsRow_X9_more : GoodIn wsX9_countsRow wsX9_more := goodIn_r _ [6, 7, 8, 9, 10, 11, 12, 13, 14, 15, 16, 17, 18, 19, 20, 21, 22, 23, 24, 25, 26, 27, 28, 29, 30, 31, 32, 33, 34, 35, 36, 37, 38, 39, 40, 41] (by decide +kernel) (by decide +kernel)
set_option maxRecDepth 20000 in
theorem gX9_countsRow_X9_more : GoodIn wsX9_countsRow (wsV RX9 184 RX9 yX9_more wsX9_more) := goodIn_app (goodIn_of _ (by decide +kernel)) ggX9_countsRow_X9_more
theorem dX9_countsRow_0 : decode cX9_countsRow 0 = .ok (.iconst 0, 1) := by decide +kernel
theorem dX9_countsRow_1 : decode cX9_countsRow 1 = .ok (.istore_n 2, 1) := by decide +kernel
theorem dX9_countsRow_2 : decode cX9_countsRow 2 = .ok (.iconst 0, 1) := by decide +kernel
theorem dX9_countsRow_3 : decode cX9_countsRow 3 = .ok (.istore_n 3, 1) := by decide +kernel
theorem dX9_countsRow_4 : decode cX9_countsRow 4 = .ok (.iload_n 3, 1) := by decide +kernel
theorem dX9_countsRow_5 : decode cX9_countsRow 5 = .ok (.aload_n 0, 1) := by decide +kernel
theorem dX9_countsRow_6 : decode cX9_countsRow 6 = .ok (.getfield 31, 3) := by decide +kernel
theorem dX9_countsRow_9 : decode cX9_countsRow 9 = .ok (.iload_n 1, 1) := by decide +kernel
theorem dX9_countsRow_10 : decode cX9_countsRow 10 = .ok (.iaload, 1) := by decide +kernel
theorem dX9_countsRow_11 : decode cX9_countsRow 11 = .ok (.if_icmp .ge 28, 3) := by decide +kernel
theorem dX9_countsRow_14 : decode cX9_countsRow 14 = .ok (.iload_n 2, 1) := by decide +kernel
theorem dX9_countsRow_15 : decode cX9_countsRow 15 = .ok (.aload_n 0, 1) := by decide +kernel
theorem dX9_countsRow_16 : decode cX9_countsRow 16 = .ok (.iload_n 1, 1) := by decide +kernel
theorem dX9_countsRow_17 : decode cX9_countsRow 17 = .ok (.iload_n 3, 1) := by decide +kernel
theorem dX9_countsRow_18 : decode cX9_countsRow 18 = .ok (.invokevirtual 184, 3) := by decide +kernel
theorem dX9_countsRow_21 : decode cX9_countsRow 21 = .ok (.ifCond .le 9, 3) := by decide +kernel
theorem dX9_countsRow_24 : decode cX9_countsRow 24 = .ok (.iconst 1, 1) := by decide +kernel
theorem dX9_countsRow_25 : decode cX9_countsRow 25 = .ok (.iload_n 3, 1) := by decide +kernel
theorem dX9_countsRow_26 : decode cX9_countsRow 26 = .ok (.ishl, 1) := by decide +kernel
theorem dX9_countsRow_27 : decode cX9_countsRow 27 = .ok (.goto 4, 3) := by decide +kernel
theorem dX9_countsRow_30 : decode cX9_countsRow 30 = .ok (.iconst 0, 1) := by decide +kernel
theorem dX9_countsRow_31 : decode cX9_countsRow 31 = .ok (.ior, 1) := by decide +kernel
theorem dX9_countsRow_32 : decode cX9_countsRow 32 = .ok (.istore_n 2, 1) := by decide +kernel
theorem dX9_countsRow_33 : decode cX9_countsRow 33 = .ok (.iinc 3 1, 3) := by decide +kernel
theorem dX9_countsRow_36 : decode cX9_countsRow 36 = .ok (.goto (-32), 3) := by decide +kernel
theorem dX9_countsRow_39 : decode cX9_countsRow 39 = .ok (.iload_n 2, 1) := by decide +kernel
theorem dX9_countsRow_40 : decode cX9_countsRow 40 = .ok (.ireturn, 1) := by decide +kernel
set_option maxRecDepth 20000 in
theorem ggX9_worthOf_X9_is : GoodIn wsX9_worthOf wsX9_is := goodIn_r _ [7, 8, 9, 10, 11, 6, 12, 23, 24, 25, 26, 27, 28, 29, 30, 31, 32, 33, 34, 35, 36, 37, 38, 39, 40, 41, 42, 43, 44, 45, 46, 47, 48, 49, 50, 51, 52, 53, 54] (by decide +kernel) (by decide +kernel)
set_option maxRecDepth 20000 in
theorem gX9_worthOf_X9_is : GoodIn wsX9_worthOf (wsV RX9 165 RX9 yX9_is wsX9_is) := goodIn_app (goodIn_of _ (by decide +kernel)) ggX9_worthOf_X9_is
set_option maxRecDepth 20000 in
theorem ggX9_worthOf_X9_wide : GoodIn wsX9_worthOf wsX9_wide := goodIn_r _ [16, 8, 9, 10, 11, 6, 12, 23, 24, 25, 26, 27, 28, 29, 30, 31, 32, 33, 34, 35, 36, 37, 38, 39, 40, 41, 42, 43, 44, 45, 46, 47, 48, 49, 50, 51, 52, 53, 54] (by decide +kernel) (by decide +kernel)
set_option maxRecDepth 20000 in
theorem gX9_worthOf_X9_wide : GoodIn wsX9_worthOf (wsV RX9 168 RX9 yX9_wide wsX9_wide) := goodIn_app (goodIn_of _ (by decide +kernel)) ggX9_worthOf_X9_wide
set_option maxRecDepth 20000 in
theorem ggX9_worthOf_X9_worth : GoodIn wsX9_worthOf wsX9_worth := goodIn_r _ [19, 20, 21, 6, 22] (by decide +kernel) (by decide +kernel)
set_option maxRecDepth 20000 in
theorem gX9_worthOf_X9_worth : GoodIn wsX9_worthOf (va_wsS RX9 86 yX9_worth wsX9_worth) := goodIn_app (goodIn_of _ (by decide +kernel)) ggX9_worthOf_X9_worth
theorem dX9_worthOf_0 : decode cX9_worthOf 0 = .ok (.iconst 0, 1) := by decide +kernel
theorem dX9_worthOf_1 : decode cX9_worthOf 1 = .ok (.istore_n 3, 1) := by decide +kernel
theorem dX9_worthOf_2 : decode cX9_worthOf 2 = .ok (.iconst 0, 1) := by decide +kernel
theorem dX9_worthOf_3 : decode cX9_worthOf 3 = .ok (.istore 4, 2) := by decide +kernel
theorem dX9_worthOf_5 : decode cX9_worthOf 5 = .ok (.iload 4, 2) := by decide +kernel
theorem dX9_worthOf_7 : decode cX9_worthOf 7 = .ok (.aload_n 0, 1) := by decide +kernel
theorem dX9_worthOf_8 : decode cX9_worthOf 8 = .ok (.getfield 34, 3) := by decide +kernel
theorem dX9_worthOf_11 : decode cX9_worthOf 11 = .ok (.iload_n 1, 1) := by decide +kernel
theorem dX9_worthOf_12 : decode cX9_worthOf 12 = .ok (.iaload, 1) := by decide +kernel
theorem dX9_worthOf_13 : decode cX9_worthOf 13 = .ok (.if_icmp .ge 44, 3) := by decide +kernel
theorem dX9_worthOf_16 : decode cX9_worthOf 16 = .ok (.iload_n 3, 1) := by decide +kernel
theorem dX9_worthOf_17 : decode cX9_worthOf 17 = .ok (.aload_n 0, 1) := by decide +kernel
theorem dX9_worthOf_18 : decode cX9_worthOf 18 = .ok (.getfield 28, 3) := by decide +kernel
theorem dX9_worthOf_21 : decode cX9_worthOf 21 = .ok (.iload_n 1, 1) := by decide +kernel
theorem dX9_worthOf_22 : decode cX9_worthOf 22 = .ok (.iaload, 1) := by decide +kernel
theorem dX9_worthOf_23 : decode cX9_worthOf 23 = .ok (.aload_n 0, 1) := by decide +kernel
theorem dX9_worthOf_24 : decode cX9_worthOf 24 = .ok (.bipush 24, 2) := by decide +kernel
theorem dX9_worthOf_26 : decode cX9_worthOf 26 = .ok (.iload_n 1, 1) := by decide +kernel
theorem dX9_worthOf_27 : decode cX9_worthOf 27 = .ok (.imul, 1) := by decide +kernel
theorem dX9_worthOf_28 : decode cX9_worthOf 28 = .ok (.iload 4, 2) := by decide +kernel
theorem dX9_worthOf_30 : decode cX9_worthOf 30 = .ok (.iadd, 1) := by decide +kernel
theorem dX9_worthOf_31 : decode cX9_worthOf 31 = .ok (.iload_n 2, 1) := by decide +kernel
theorem dX9_worthOf_32 : decode cX9_worthOf 32 = .ok (.invokevirtual 165, 3) := by decide +kernel
theorem dX9_worthOf_35 : decode cX9_worthOf 35 = .ok (.aload_n 0, 1) := by decide +kernel
theorem dX9_worthOf_36 : decode cX9_worthOf 36 = .ok (.bipush 24, 2) := by decide +kernel
theorem dX9_worthOf_38 : decode cX9_worthOf 38 = .ok (.iload_n 1, 1) := by decide +kernel
theorem dX9_worthOf_39 : decode cX9_worthOf 39 = .ok (.imul, 1) := by decide +kernel
theorem dX9_worthOf_40 : decode cX9_worthOf 40 = .ok (.iload 4, 2) := by decide +kernel
theorem dX9_worthOf_42 : decode cX9_worthOf 42 = .ok (.iadd, 1) := by decide +kernel
theorem dX9_worthOf_43 : decode cX9_worthOf 43 = .ok (.invokevirtual 168, 3) := by decide +kernel
theorem dX9_worthOf_46 : decode cX9_worthOf 46 = .ok (.invokestatic 86, 3) := by decide +kernel
theorem dX9_worthOf_49 : decode cX9_worthOf 49 = .ok (.iadd, 1) := by decide +kernel
theorem dX9_worthOf_50 : decode cX9_worthOf 50 = .ok (.istore_n 3, 1) := by decide +kernel
theorem dX9_worthOf_51 : decode cX9_worthOf 51 = .ok (.iinc 4 1, 3) := by decide +kernel
theorem dX9_worthOf_54 : decode cX9_worthOf 54 = .ok (.goto (-49), 3) := by decide +kernel
theorem dX9_worthOf_57 : decode cX9_worthOf 57 = .ok (.iload_n 3, 1) := by decide +kernel
theorem dX9_worthOf_58 : decode cX9_worthOf 58 = .ok (.ireturn, 1) := by decide +kernel
set_option maxRecDepth 20000 in
theorem ggX9_climbs_X9_doesSolve : GoodIn wsX9_climbs wsX9_doesSolve := goodIn_r _ [7, 8, 9, 10, 6, 11, 12, 13, 14, 15, 16, 17, 18, 19, 20, 21, 22, 23, 24, 25, 26, 27, 28, 29, 37, 38, 39, 40, 41, 42, 43, 44, 45, 46, 47, 48, 49, 50, 51, 52, 53, 54, 55, 56, 57, 58, 59, 60, 61, 62, 63, 64, 65, 66, 67, 68] (by decide +kernel) (by decide +kernel)
set_option maxRecDepth 20000 in
theorem gX9_climbs_X9_doesSolve : GoodIn wsX9_climbs (wsV RX9 178 RX9 yX9_doesSolve wsX9_doesSolve) := goodIn_app (goodIn_of _ (by decide +kernel)) ggX9_climbs_X9_doesSolve
set_option maxRecDepth 20000 in
theorem ggX9_climbs_X9_worthOf : GoodIn wsX9_climbs wsX9_worthOf := goodIn_r _ [33, 12, 13, 14, 15, 16, 6, 17, 18, 19, 20, 21, 22, 23, 24, 25, 26, 34, 35, 36, 27, 28, 29, 37, 38, 39, 40, 41, 42, 43, 44, 45, 46, 47, 48, 49, 50, 51, 52, 53, 54, 55, 56, 57, 58, 59, 60, 61, 62, 63, 64, 65, 66, 67, 68] (by decide +kernel) (by decide +kernel)
set_option maxRecDepth 20000 in
theorem gX9_climbs_X9_worthOf : GoodIn wsX9_climbs (wsV RX9 199 RX9 yX9_worthOf wsX9_worthOf) := goodIn_app (goodIn_of _ (by decide +kernel)) ggX9_climbs_X9_worthOf
theorem dX9_climbs_0 : decode cX9_climbs 0 = .ok (.iload_n 2, 1) := by decide +kernel
theorem dX9_climbs_1 : decode cX9_climbs 1 = .ok (.istore 4, 2) := by decide +kernel
theorem dX9_climbs_3 : decode cX9_climbs 3 = .ok (.aload_n 0, 1) := by decide +kernel
theorem dX9_climbs_4 : decode cX9_climbs 4 = .ok (.iconst 0, 1) := by decide +kernel
theorem dX9_climbs_5 : decode cX9_climbs 5 = .ok (.putfield 196, 3) := by decide +kernel
theorem dX9_climbs_8 : decode cX9_climbs 8 = .ok (.aload_n 0, 1) := by decide +kernel
theorem dX9_climbs_9 : decode cX9_climbs 9 = .ok (.getfield 196, 3) := by decide +kernel
theorem dX9_climbs_12 : decode cX9_climbs 12 = .ok (.iload_n 3, 1) := by decide +kernel
theorem dX9_climbs_13 : decode cX9_climbs 13 = .ok (.if_icmp .ge 145, 3) := by decide +kernel
theorem dX9_climbs_16 : decode cX9_climbs 16 = .ok (.aload_n 0, 1) := by decide +kernel
theorem dX9_climbs_17 : decode cX9_climbs 17 = .ok (.dup, 1) := by decide +kernel
theorem dX9_climbs_18 : decode cX9_climbs 18 = .ok (.getfield 196, 3) := by decide +kernel
theorem dX9_climbs_21 : decode cX9_climbs 21 = .ok (.iconst 1, 1) := by decide +kernel
theorem dX9_climbs_22 : decode cX9_climbs 22 = .ok (.iadd, 1) := by decide +kernel
theorem dX9_climbs_23 : decode cX9_climbs 23 = .ok (.putfield 196, 3) := by decide +kernel
theorem dX9_climbs_26 : decode cX9_climbs 26 = .ok (.aload_n 0, 1) := by decide +kernel
theorem dX9_climbs_27 : decode cX9_climbs 27 = .ok (.iload_n 1, 1) := by decide +kernel
theorem dX9_climbs_28 : decode cX9_climbs 28 = .ok (.iload 4, 2) := by decide +kernel
theorem dX9_climbs_30 : decode cX9_climbs 30 = .ok (.invokevirtual 178, 3) := by decide +kernel
theorem dX9_climbs_33 : decode cX9_climbs 33 = .ok (.ifCond .eq 6, 3) := by decide +kernel
theorem dX9_climbs_36 : decode cX9_climbs 36 = .ok (.iload 4, 2) := by decide +kernel
theorem dX9_climbs_38 : decode cX9_climbs 38 = .ok (.ireturn, 1) := by decide +kernel
theorem dX9_climbs_39 : decode cX9_climbs 39 = .ok (.iconst (-1), 1) := by decide +kernel
theorem dX9_climbs_40 : decode cX9_climbs 40 = .ok (.istore 5, 2) := by decide +kernel
theorem dX9_climbs_42 : decode cX9_climbs 42 = .ok (.aload_n 0, 1) := by decide +kernel
theorem dX9_climbs_43 : decode cX9_climbs 43 = .ok (.iload_n 1, 1) := by decide +kernel
theorem dX9_climbs_44 : decode cX9_climbs 44 = .ok (.iload 4, 2) := by decide +kernel
theorem dX9_climbs_46 : decode cX9_climbs 46 = .ok (.invokevirtual 199, 3) := by decide +kernel
theorem dX9_climbs_49 : decode cX9_climbs 49 = .ok (.istore 6, 2) := by decide +kernel
theorem dX9_climbs_51 : decode cX9_climbs 51 = .ok (.iconst 0, 1) := by decide +kernel
theorem dX9_climbs_52 : decode cX9_climbs 52 = .ok (.istore 7, 2) := by decide +kernel
theorem dX9_climbs_54 : decode cX9_climbs 54 = .ok (.iload 7, 2) := by decide +kernel
theorem dX9_climbs_56 : decode cX9_climbs 56 = .ok (.aload_n 0, 1) := by decide +kernel
theorem dX9_climbs_57 : decode cX9_climbs 57 = .ok (.getfield 31, 3) := by decide +kernel
theorem dX9_climbs_60 : decode cX9_climbs 60 = .ok (.iload_n 1, 1) := by decide +kernel
theorem dX9_climbs_61 : decode cX9_climbs 61 = .ok (.iaload, 1) := by decide +kernel
theorem dX9_climbs_62 : decode cX9_climbs 62 = .ok (.if_icmp .ge 55, 3) := by decide +kernel
theorem dX9_climbs_65 : decode cX9_climbs 65 = .ok (.aload_n 0, 1) := by decide +kernel
theorem dX9_climbs_66 : decode cX9_climbs 66 = .ok (.iload_n 1, 1) := by decide +kernel
theorem dX9_climbs_67 : decode cX9_climbs 67 = .ok (.iload 4, 2) := by decide +kernel
theorem dX9_climbs_69 : decode cX9_climbs 69 = .ok (.iconst 1, 1) := by decide +kernel
theorem dX9_climbs_70 : decode cX9_climbs 70 = .ok (.iload 7, 2) := by decide +kernel
theorem dX9_climbs_72 : decode cX9_climbs 72 = .ok (.ishl, 1) := by decide +kernel
theorem dX9_climbs_73 : decode cX9_climbs 73 = .ok (.ixor, 1) := by decide +kernel
theorem dX9_climbs_74 : decode cX9_climbs 74 = .ok (.invokevirtual 199, 3) := by decide +kernel
theorem dX9_climbs_77 : decode cX9_climbs 77 = .ok (.istore 8, 2) := by decide +kernel
theorem dX9_climbs_79 : decode cX9_climbs 79 = .ok (.iload 8, 2) := by decide +kernel
theorem dX9_climbs_81 : decode cX9_climbs 81 = .ok (.iload 6, 2) := by decide +kernel
theorem dX9_climbs_83 : decode cX9_climbs 83 = .ok (.if_icmp .le 8, 3) := by decide +kernel
theorem dX9_climbs_86 : decode cX9_climbs 86 = .ok (.iload 7, 2) := by decide +kernel
theorem dX9_climbs_88 : decode cX9_climbs 88 = .ok (.goto 5, 3) := by decide +kernel
theorem dX9_climbs_91 : decode cX9_climbs 91 = .ok (.iload 5, 2) := by decide +kernel
theorem dX9_climbs_93 : decode cX9_climbs 93 = .ok (.istore 5, 2) := by decide +kernel
theorem dX9_climbs_95 : decode cX9_climbs 95 = .ok (.iload 8, 2) := by decide +kernel
theorem dX9_climbs_97 : decode cX9_climbs 97 = .ok (.iload 6, 2) := by decide +kernel
theorem dX9_climbs_99 : decode cX9_climbs 99 = .ok (.if_icmp .le 8, 3) := by decide +kernel
theorem dX9_climbs_102 : decode cX9_climbs 102 = .ok (.iload 8, 2) := by decide +kernel
theorem dX9_climbs_104 : decode cX9_climbs 104 = .ok (.goto 5, 3) := by decide +kernel
theorem dX9_climbs_107 : decode cX9_climbs 107 = .ok (.iload 6, 2) := by decide +kernel
theorem dX9_climbs_109 : decode cX9_climbs 109 = .ok (.istore 6, 2) := by decide +kernel
theorem dX9_climbs_111 : decode cX9_climbs 111 = .ok (.iinc 7 1, 3) := by decide +kernel
theorem dX9_climbs_114 : decode cX9_climbs 114 = .ok (.goto (-60), 3) := by decide +kernel
theorem dX9_climbs_117 : decode cX9_climbs 117 = .ok (.iload 5, 2) := by decide +kernel
theorem dX9_climbs_119 : decode cX9_climbs 119 = .ok (.iconst (-1), 1) := by decide +kernel
theorem dX9_climbs_120 : decode cX9_climbs 120 = .ok (.if_icmp .ne 26, 3) := by decide +kernel
theorem dX9_climbs_123 : decode cX9_climbs 123 = .ok (.iconst 5, 1) := by decide +kernel
theorem dX9_climbs_124 : decode cX9_climbs 124 = .ok (.iload 4, 2) := by decide +kernel
theorem dX9_climbs_126 : decode cX9_climbs 126 = .ok (.imul, 1) := by decide +kernel
theorem dX9_climbs_127 : decode cX9_climbs 127 = .ok (.iconst 3, 1) := by decide +kernel
theorem dX9_climbs_128 : decode cX9_climbs 128 = .ok (.iadd, 1) := by decide +kernel
theorem dX9_climbs_129 : decode cX9_climbs 129 = .ok (.aload_n 0, 1) := by decide +kernel
theorem dX9_climbs_130 : decode cX9_climbs 130 = .ok (.getfield 196, 3) := by decide +kernel
theorem dX9_climbs_133 : decode cX9_climbs 133 = .ok (.iadd, 1) := by decide +kernel
theorem dX9_climbs_134 : decode cX9_climbs 134 = .ok (.iconst 1, 1) := by decide +kernel
theorem dX9_climbs_135 : decode cX9_climbs 135 = .ok (.aload_n 0, 1) := by decide +kernel
theorem dX9_climbs_136 : decode cX9_climbs 136 = .ok (.getfield 31, 3) := by decide +kernel
theorem dX9_climbs_139 : decode cX9_climbs 139 = .ok (.iload_n 1, 1) := by decide +kernel
theorem dX9_climbs_140 : decode cX9_climbs 140 = .ok (.iaload, 1) := by decide +kernel
theorem dX9_climbs_141 : decode cX9_climbs 141 = .ok (.ishl, 1) := by decide +kernel
theorem dX9_climbs_142 : decode cX9_climbs 142 = .ok (.irem, 1) := by decide +kernel
theorem dX9_climbs_143 : decode cX9_climbs 143 = .ok (.goto 10, 3) := by decide +kernel
theorem dX9_climbs_146 : decode cX9_climbs 146 = .ok (.iload 4, 2) := by decide +kernel
theorem dX9_climbs_148 : decode cX9_climbs 148 = .ok (.iconst 1, 1) := by decide +kernel
theorem dX9_climbs_149 : decode cX9_climbs 149 = .ok (.iload 5, 2) := by decide +kernel
theorem dX9_climbs_151 : decode cX9_climbs 151 = .ok (.ishl, 1) := by decide +kernel
theorem dX9_climbs_152 : decode cX9_climbs 152 = .ok (.ixor, 1) := by decide +kernel
theorem dX9_climbs_153 : decode cX9_climbs 153 = .ok (.istore 4, 2) := by decide +kernel
theorem dX9_climbs_155 : decode cX9_climbs 155 = .ok (.goto (-147), 3) := by decide +kernel
theorem dX9_climbs_158 : decode cX9_climbs 158 = .ok (.iconst (-1), 1) := by decide +kernel
theorem dX9_climbs_159 : decode cX9_climbs 159 = .ok (.ireturn, 1) := by decide +kernel
set_option maxRecDepth 20000 in
theorem ggX9_mayBe_X9_is : GoodIn wsX9_mayBe wsX9_is := goodIn_r _ [9, 2, 3, 10, 11, 8, 12, 20, 21, 22, 23, 24, 25, 26, 27, 28, 29, 30, 31, 32, 33, 34, 35, 36, 37, 38, 39, 40, 41, 42, 43, 44, 45, 46, 47, 48, 49, 50, 51] (by decide +kernel) (by decide +kernel)
set_option maxRecDepth 20000 in
theorem gX9_mayBe_X9_is : GoodIn wsX9_mayBe (wsV RX9 165 RX9 yX9_is wsX9_is) := goodIn_app (goodIn_of _ (by decide +kernel)) ggX9_mayBe_X9_is
set_option maxRecDepth 20000 in
theorem ggX9_mayBe_X9_wide : GoodIn wsX9_mayBe wsX9_wide := goodIn_r _ [16, 2, 3, 10, 11, 8, 12, 20, 21, 22, 23, 24, 25, 26, 27, 28, 29, 30, 31, 32, 33, 34, 35, 36, 37, 38, 39, 40, 41, 42, 43, 44, 45, 46, 47, 48, 49, 50, 51] (by decide +kernel) (by decide +kernel)
set_option maxRecDepth 20000 in
theorem gX9_mayBe_X9_wide : GoodIn wsX9_mayBe (wsV RX9 168 RX9 yX9_wide wsX9_wide) := goodIn_app (goodIn_of _ (by decide +kernel)) ggX9_mayBe_X9_wide
set_option maxRecDepth 20000 in
theorem ggX9_mayBe_X9_holds : GoodIn wsX9_mayBe wsX9_holds := goodIn_r _ [19] (by decide +kernel) (by decide +kernel)
set_option maxRecDepth 20000 in
theorem gX9_mayBe_X9_holds : GoodIn wsX9_mayBe (va_wsS RX9 79 yX9_holds wsX9_holds) := goodIn_app (goodIn_of _ (by decide +kernel)) ggX9_mayBe_X9_holds
theorem dX9_mayBe_0 : decode cX9_mayBe 0 = .ok (.iconst (-1), 1) := by decide +kernel
theorem dX9_mayBe_1 : decode cX9_mayBe 1 = .ok (.iload_n 3, 1) := by decide +kernel
theorem dX9_mayBe_2 : decode cX9_mayBe 2 = .ok (.ishl, 1) := by decide +kernel
theorem dX9_mayBe_3 : decode cX9_mayBe 3 = .ok (.istore 4, 2) := by decide +kernel
theorem dX9_mayBe_5 : decode cX9_mayBe 5 = .ok (.iconst 0, 1) := by decide +kernel
theorem dX9_mayBe_6 : decode cX9_mayBe 6 = .ok (.istore 5, 2) := by decide +kernel
theorem dX9_mayBe_8 : decode cX9_mayBe 8 = .ok (.iload 5, 2) := by decide +kernel
theorem dX9_mayBe_10 : decode cX9_mayBe 10 = .ok (.aload_n 0, 1) := by decide +kernel
theorem dX9_mayBe_11 : decode cX9_mayBe 11 = .ok (.getfield 34, 3) := by decide +kernel
theorem dX9_mayBe_14 : decode cX9_mayBe 14 = .ok (.iload_n 1, 1) := by decide +kernel
theorem dX9_mayBe_15 : decode cX9_mayBe 15 = .ok (.iaload, 1) := by decide +kernel
theorem dX9_mayBe_16 : decode cX9_mayBe 16 = .ok (.if_icmp .ge 66, 3) := by decide +kernel
theorem dX9_mayBe_19 : decode cX9_mayBe 19 = .ok (.bipush 24, 2) := by decide +kernel
theorem dX9_mayBe_21 : decode cX9_mayBe 21 = .ok (.iload_n 1, 1) := by decide +kernel
theorem dX9_mayBe_22 : decode cX9_mayBe 22 = .ok (.imul, 1) := by decide +kernel
theorem dX9_mayBe_23 : decode cX9_mayBe 23 = .ok (.iload 5, 2) := by decide +kernel
theorem dX9_mayBe_25 : decode cX9_mayBe 25 = .ok (.iadd, 1) := by decide +kernel
theorem dX9_mayBe_26 : decode cX9_mayBe 26 = .ok (.istore 6, 2) := by decide +kernel
theorem dX9_mayBe_28 : decode cX9_mayBe 28 = .ok (.aload_n 0, 1) := by decide +kernel
theorem dX9_mayBe_29 : decode cX9_mayBe 29 = .ok (.getfield 46, 3) := by decide +kernel
theorem dX9_mayBe_32 : decode cX9_mayBe 32 = .ok (.iload 6, 2) := by decide +kernel
theorem dX9_mayBe_34 : decode cX9_mayBe 34 = .ok (.iaload, 1) := by decide +kernel
theorem dX9_mayBe_35 : decode cX9_mayBe 35 = .ok (.aload_n 0, 1) := by decide +kernel
theorem dX9_mayBe_36 : decode cX9_mayBe 36 = .ok (.getfield 49, 3) := by decide +kernel
theorem dX9_mayBe_39 : decode cX9_mayBe 39 = .ok (.iload 6, 2) := by decide +kernel
theorem dX9_mayBe_41 : decode cX9_mayBe 41 = .ok (.iaload, 1) := by decide +kernel
theorem dX9_mayBe_42 : decode cX9_mayBe 42 = .ok (.ior, 1) := by decide +kernel
theorem dX9_mayBe_43 : decode cX9_mayBe 43 = .ok (.iload 4, 2) := by decide +kernel
theorem dX9_mayBe_45 : decode cX9_mayBe 45 = .ok (.iand, 1) := by decide +kernel
theorem dX9_mayBe_46 : decode cX9_mayBe 46 = .ok (.ifCond .ne 30, 3) := by decide +kernel
theorem dX9_mayBe_49 : decode cX9_mayBe 49 = .ok (.aload_n 0, 1) := by decide +kernel
theorem dX9_mayBe_50 : decode cX9_mayBe 50 = .ok (.getfield 28, 3) := by decide +kernel
theorem dX9_mayBe_53 : decode cX9_mayBe 53 = .ok (.iload_n 1, 1) := by decide +kernel
theorem dX9_mayBe_54 : decode cX9_mayBe 54 = .ok (.iaload, 1) := by decide +kernel
theorem dX9_mayBe_55 : decode cX9_mayBe 55 = .ok (.aload_n 0, 1) := by decide +kernel
theorem dX9_mayBe_56 : decode cX9_mayBe 56 = .ok (.iload 6, 2) := by decide +kernel
theorem dX9_mayBe_58 : decode cX9_mayBe 58 = .ok (.iload_n 2, 1) := by decide +kernel
theorem dX9_mayBe_59 : decode cX9_mayBe 59 = .ok (.invokevirtual 165, 3) := by decide +kernel
theorem dX9_mayBe_62 : decode cX9_mayBe 62 = .ok (.aload_n 0, 1) := by decide +kernel
theorem dX9_mayBe_63 : decode cX9_mayBe 63 = .ok (.iload 6, 2) := by decide +kernel
theorem dX9_mayBe_65 : decode cX9_mayBe 65 = .ok (.invokevirtual 168, 3) := by decide +kernel
theorem dX9_mayBe_68 : decode cX9_mayBe 68 = .ok (.invokestatic 79, 3) := by decide +kernel
theorem dX9_mayBe_71 : decode cX9_mayBe 71 = .ok (.ifCond .ne 5, 3) := by decide +kernel
theorem dX9_mayBe_74 : decode cX9_mayBe 74 = .ok (.iconst 0, 1) := by decide +kernel
theorem dX9_mayBe_75 : decode cX9_mayBe 75 = .ok (.ireturn, 1) := by decide +kernel
theorem dX9_mayBe_76 : decode cX9_mayBe 76 = .ok (.iinc 5 1, 3) := by decide +kernel
theorem dX9_mayBe_79 : decode cX9_mayBe 79 = .ok (.goto (-71), 3) := by decide +kernel
theorem dX9_mayBe_82 : decode cX9_mayBe 82 = .ok (.iconst 1, 1) := by decide +kernel
theorem dX9_mayBe_83 : decode cX9_mayBe 83 = .ok (.ireturn, 1) := by decide +kernel
set_option maxRecDepth 20000 in
theorem ggX9_searches_X9_mayBe : GoodIn wsX9_searches wsX9_mayBe := goodIn_r _ [7, 8, 9, 10, 11, 12, 13, 14, 6, 15, 16, 17, 18, 19, 20, 21, 22, 23, 24, 25, 26, 27, 28, 29, 30, 31, 32, 33, 34, 35, 36, 37, 38, 39, 40, 41, 42, 43, 44, 45, 46, 47, 48, 49, 50, 51, 52, 53, 54, 55, 56, 57] (by decide +kernel) (by decide +kernel)
set_option maxRecDepth 20000 in
theorem gX9_searches_X9_mayBe : GoodIn wsX9_searches (wsV RX9 202 RX9 yX9_mayBe wsX9_mayBe) := goodIn_app (goodIn_of _ (by decide +kernel)) ggX9_searches_X9_mayBe
theorem dX9_searches_0 : decode cX9_searches 0 = .ok (.aload_n 0, 1) := by decide +kernel
theorem dX9_searches_1 : decode cX9_searches 1 = .ok (.getfield 31, 3) := by decide +kernel
theorem dX9_searches_4 : decode cX9_searches 4 = .ok (.iload_n 1, 1) := by decide +kernel
theorem dX9_searches_5 : decode cX9_searches 5 = .ok (.iaload, 1) := by decide +kernel
theorem dX9_searches_6 : decode cX9_searches 6 = .ok (.istore_n 3, 1) := by decide +kernel
theorem dX9_searches_7 : decode cX9_searches 7 = .ok (.iconst 0, 1) := by decide +kernel
theorem dX9_searches_8 : decode cX9_searches 8 = .ok (.istore 4, 2) := by decide +kernel
theorem dX9_searches_10 : decode cX9_searches 10 = .ok (.iconst 0, 1) := by decide +kernel
theorem dX9_searches_11 : decode cX9_searches 11 = .ok (.istore 5, 2) := by decide +kernel
theorem dX9_searches_13 : decode cX9_searches 13 = .ok (.aload_n 0, 1) := by decide +kernel
theorem dX9_searches_14 : decode cX9_searches 14 = .ok (.iconst 0, 1) := by decide +kernel
theorem dX9_searches_15 : decode cX9_searches 15 = .ok (.putfield 196, 3) := by decide +kernel
theorem dX9_searches_18 : decode cX9_searches 18 = .ok (.iconst 1, 1) := by decide +kernel
theorem dX9_searches_19 : decode cX9_searches 19 = .ok (.istore 6, 2) := by decide +kernel
theorem dX9_searches_21 : decode cX9_searches 21 = .ok (.iload 6, 2) := by decide +kernel
theorem dX9_searches_23 : decode cX9_searches 23 = .ok (.ifCond .eq 129, 3) := by decide +kernel
theorem dX9_searches_26 : decode cX9_searches 26 = .ok (.aload_n 0, 1) := by decide +kernel
theorem dX9_searches_27 : decode cX9_searches 27 = .ok (.getfield 196, 3) := by decide +kernel
theorem dX9_searches_30 : decode cX9_searches 30 = .ok (.iload_n 2, 1) := by decide +kernel
theorem dX9_searches_31 : decode cX9_searches 31 = .ok (.if_icmp .ge 121, 3) := by decide +kernel
theorem dX9_searches_34 : decode cX9_searches 34 = .ok (.aload_n 0, 1) := by decide +kernel
theorem dX9_searches_35 : decode cX9_searches 35 = .ok (.dup, 1) := by decide +kernel
theorem dX9_searches_36 : decode cX9_searches 36 = .ok (.getfield 196, 3) := by decide +kernel
theorem dX9_searches_39 : decode cX9_searches 39 = .ok (.iconst 1, 1) := by decide +kernel
theorem dX9_searches_40 : decode cX9_searches 40 = .ok (.iadd, 1) := by decide +kernel
theorem dX9_searches_41 : decode cX9_searches 41 = .ok (.putfield 196, 3) := by decide +kernel
theorem dX9_searches_44 : decode cX9_searches 44 = .ok (.aload_n 0, 1) := by decide +kernel
theorem dX9_searches_45 : decode cX9_searches 45 = .ok (.iload_n 1, 1) := by decide +kernel
theorem dX9_searches_46 : decode cX9_searches 46 = .ok (.iload 4, 2) := by decide +kernel
theorem dX9_searches_48 : decode cX9_searches 48 = .ok (.iload 5, 2) := by decide +kernel
theorem dX9_searches_50 : decode cX9_searches 50 = .ok (.invokevirtual 202, 3) := by decide +kernel
theorem dX9_searches_53 : decode cX9_searches 53 = .ok (.istore 7, 2) := by decide +kernel
theorem dX9_searches_55 : decode cX9_searches 55 = .ok (.iload 7, 2) := by decide +kernel
theorem dX9_searches_57 : decode cX9_searches 57 = .ok (.ifCond .eq 12, 3) := by decide +kernel
theorem dX9_searches_60 : decode cX9_searches 60 = .ok (.iload 5, 2) := by decide +kernel
theorem dX9_searches_62 : decode cX9_searches 62 = .ok (.iload_n 3, 1) := by decide +kernel
theorem dX9_searches_63 : decode cX9_searches 63 = .ok (.if_icmp .ne 6, 3) := by decide +kernel
theorem dX9_searches_66 : decode cX9_searches 66 = .ok (.iload 4, 2) := by decide +kernel
theorem dX9_searches_68 : decode cX9_searches 68 = .ok (.ireturn, 1) := by decide +kernel
theorem dX9_searches_69 : decode cX9_searches 69 = .ok (.iload 7, 2) := by decide +kernel
theorem dX9_searches_71 : decode cX9_searches 71 = .ok (.ifCond .eq 9, 3) := by decide +kernel
theorem dX9_searches_74 : decode cX9_searches 74 = .ok (.iinc 5 1, 3) := by decide +kernel
theorem dX9_searches_77 : decode cX9_searches 77 = .ok (.goto 72, 3) := by decide +kernel
theorem dX9_searches_80 : decode cX9_searches 80 = .ok (.iload 5, 2) := by decide +kernel
theorem dX9_searches_82 : decode cX9_searches 82 = .ok (.ifCond .le 35, 3) := by decide +kernel
theorem dX9_searches_85 : decode cX9_searches 85 = .ok (.iload 4, 2) := by decide +kernel
theorem dX9_searches_87 : decode cX9_searches 87 = .ok (.iload 5, 2) := by decide +kernel
theorem dX9_searches_89 : decode cX9_searches 89 = .ok (.iconst 1, 1) := by decide +kernel
theorem dX9_searches_90 : decode cX9_searches 90 = .ok (.isub, 1) := by decide +kernel
theorem dX9_searches_91 : decode cX9_searches 91 = .ok (.ishr, 1) := by decide +kernel
theorem dX9_searches_92 : decode cX9_searches 92 = .ok (.iconst 1, 1) := by decide +kernel
theorem dX9_searches_93 : decode cX9_searches 93 = .ok (.iand, 1) := by decide +kernel
theorem dX9_searches_94 : decode cX9_searches 94 = .ok (.iconst 1, 1) := by decide +kernel
theorem dX9_searches_95 : decode cX9_searches 95 = .ok (.if_icmp .ne 22, 3) := by decide +kernel
theorem dX9_searches_98 : decode cX9_searches 98 = .ok (.iload 4, 2) := by decide +kernel
theorem dX9_searches_100 : decode cX9_searches 100 = .ok (.iconst 1, 1) := by decide +kernel
theorem dX9_searches_101 : decode cX9_searches 101 = .ok (.iload 5, 2) := by decide +kernel
theorem dX9_searches_103 : decode cX9_searches 103 = .ok (.iconst 1, 1) := by decide +kernel
theorem dX9_searches_104 : decode cX9_searches 104 = .ok (.isub, 1) := by decide +kernel
theorem dX9_searches_105 : decode cX9_searches 105 = .ok (.ishl, 1) := by decide +kernel
theorem dX9_searches_106 : decode cX9_searches 106 = .ok (.iconst (-1), 1) := by decide +kernel
theorem dX9_searches_107 : decode cX9_searches 107 = .ok (.ixor, 1) := by decide +kernel
theorem dX9_searches_108 : decode cX9_searches 108 = .ok (.iand, 1) := by decide +kernel
theorem dX9_searches_109 : decode cX9_searches 109 = .ok (.istore 4, 2) := by decide +kernel
theorem dX9_searches_111 : decode cX9_searches 111 = .ok (.iinc 5 (-1), 3) := by decide +kernel
theorem dX9_searches_114 : decode cX9_searches 114 = .ok (.goto (-34), 3) := by decide +kernel
theorem dX9_searches_117 : decode cX9_searches 117 = .ok (.iload 5, 2) := by decide +kernel
theorem dX9_searches_119 : decode cX9_searches 119 = .ok (.ifCond .le 7, 3) := by decide +kernel
theorem dX9_searches_122 : decode cX9_searches 122 = .ok (.iconst 1, 1) := by decide +kernel
theorem dX9_searches_123 : decode cX9_searches 123 = .ok (.goto 4, 3) := by decide +kernel
theorem dX9_searches_126 : decode cX9_searches 126 = .ok (.iconst 0, 1) := by decide +kernel
theorem dX9_searches_127 : decode cX9_searches 127 = .ok (.istore 6, 2) := by decide +kernel
theorem dX9_searches_129 : decode cX9_searches 129 = .ok (.iload 4, 2) := by decide +kernel
theorem dX9_searches_131 : decode cX9_searches 131 = .ok (.iload 6, 2) := by decide +kernel
theorem dX9_searches_133 : decode cX9_searches 133 = .ok (.ifCond .eq 12, 3) := by decide +kernel
theorem dX9_searches_136 : decode cX9_searches 136 = .ok (.iconst 1, 1) := by decide +kernel
theorem dX9_searches_137 : decode cX9_searches 137 = .ok (.iload 5, 2) := by decide +kernel
theorem dX9_searches_139 : decode cX9_searches 139 = .ok (.iconst 1, 1) := by decide +kernel
theorem dX9_searches_140 : decode cX9_searches 140 = .ok (.isub, 1) := by decide +kernel
theorem dX9_searches_141 : decode cX9_searches 141 = .ok (.ishl, 1) := by decide +kernel
theorem dX9_searches_142 : decode cX9_searches 142 = .ok (.goto 4, 3) := by decide +kernel
theorem dX9_searches_145 : decode cX9_searches 145 = .ok (.iconst 0, 1) := by decide +kernel
theorem dX9_searches_146 : decode cX9_searches 146 = .ok (.ior, 1) := by decide +kernel
theorem dX9_searches_147 : decode cX9_searches 147 = .ok (.istore 4, 2) := by decide +kernel
theorem dX9_searches_149 : decode cX9_searches 149 = .ok (.goto (-128), 3) := by decide +kernel
theorem dX9_searches_152 : decode cX9_searches 152 = .ok (.iconst (-1), 1) := by decide +kernel
theorem dX9_searches_153 : decode cX9_searches 153 = .ok (.ireturn, 1) := by decide +kernel
set_option maxRecDepth 20000 in
theorem ggX9_finds_X9_countsRow : GoodIn wsX9_finds wsX9_countsRow := goodIn_r _ [6, 7, 8, 9, 10, 5, 11, 12, 13, 14, 57, 58, 59, 60, 61, 62, 63, 64, 65, 66, 67, 68, 69, 70, 71, 72, 73, 74, 75, 76, 77, 78, 79, 80, 81, 82, 83, 84, 85, 86, 87, 88] (by decide +kernel) (by decide +kernel)
set_option maxRecDepth 20000 in
theorem gX9_finds_X9_countsRow : GoodIn wsX9_finds (wsV RX9 205 RX9 yX9_countsRow wsX9_countsRow) := goodIn_app (goodIn_of _ (by decide +kernel)) ggX9_finds_X9_countsRow
set_option maxRecDepth 20000 in
theorem ggX9_finds_X9_doesSolve : GoodIn wsX9_finds wsX9_doesSolve := goodIn_r _ [18, 19, 20, 21, 5, 22, 12, 23, 24, 25, 26, 27, 13, 14, 28, 29, 30, 31, 32, 33, 34, 35, 36, 37, 57, 58, 59, 60, 61, 62, 63, 64, 65, 66, 67, 68, 69, 70, 71, 72, 73, 74, 75, 76, 77, 78, 79, 80, 81, 82, 83, 84, 85, 86, 87, 88] (by decide +kernel) (by decide +kernel)
set_option maxRecDepth 20000 in
theorem gX9_finds_X9_doesSolve : GoodIn wsX9_finds (wsV RX9 178 RX9 yX9_doesSolve wsX9_doesSolve) := goodIn_app (goodIn_of _ (by decide +kernel)) ggX9_finds_X9_doesSolve
set_option maxRecDepth 20000 in
theorem ggX9_finds_X9_searches : GoodIn wsX9_finds wsX9_searches := goodIn_r _ [41, 7, 1, 42, 43, 44, 5, 45, 12, 13, 14, 23, 24, 25, 26, 27, 28, 29, 30, 31, 32, 33, 34, 35, 36, 37, 57, 58, 59, 60, 61, 62, 63, 64, 65, 66, 67, 68, 69, 70, 71, 72, 73, 74, 75, 76, 77, 78, 79, 80, 81, 82, 83, 84, 85, 86, 87, 88] (by decide +kernel) (by decide +kernel)
set_option maxRecDepth 20000 in
theorem gX9_finds_X9_searches : GoodIn wsX9_finds (wsV RX9 208 RX9 yX9_searches wsX9_searches) := goodIn_app (goodIn_of _ (by decide +kernel)) ggX9_finds_X9_searches
set_option maxRecDepth 20000 in
theorem ggX9_finds_X9_climbs : GoodIn wsX9_finds wsX9_climbs := goodIn_r _ [49, 1, 7, 15, 16, 17, 5, 18, 19, 20, 21, 22, 12, 23, 24, 25, 26, 27, 13, 14, 28, 29, 30, 31, 32, 33, 34, 35, 36, 37, 50, 51, 52, 53, 54, 55, 56, 57, 58, 59, 60, 61, 62, 63, 64, 65, 66, 67, 68, 69, 70, 71, 72, 73, 74, 75, 76, 77, 78, 79, 80, 81, 82, 83, 84, 85, 86, 87, 88] (by decide +kernel) (by decide +kernel)
set_option maxRecDepth 20000 in
theorem gX9_finds_X9_climbs : GoodIn wsX9_finds (wsV RX9 211 RX9 yX9_climbs wsX9_climbs) := goodIn_app (goodIn_of _ (by decide +kernel)) ggX9_finds_X9_climbs
theorem dX9_finds_0 : decode cX9_finds 0 = .ok (.iload_n 2, 1) := by decide +kernel
theorem dX9_finds_1 : decode cX9_finds 1 = .ok (.ifCond .ne 43, 3) := by decide +kernel
theorem dX9_finds_4 : decode cX9_finds 4 = .ok (.aload_n 0, 1) := by decide +kernel
theorem dX9_finds_5 : decode cX9_finds 5 = .ok (.iload_n 3, 1) := by decide +kernel
theorem dX9_finds_6 : decode cX9_finds 6 = .ok (.ifCond .le 7, 3) := by decide +kernel
theorem dX9_finds_9 : decode cX9_finds 9 = .ok (.iconst 1, 1) := by decide +kernel
theorem dX9_finds_10 : decode cX9_finds 10 = .ok (.goto 4, 3) := by decide +kernel
theorem dX9_finds_13 : decode cX9_finds 13 = .ok (.iconst 0, 1) := by decide +kernel
theorem dX9_finds_14 : decode cX9_finds 14 = .ok (.putfield 196, 3) := by decide +kernel
theorem dX9_finds_17 : decode cX9_finds 17 = .ok (.iload_n 3, 1) := by decide +kernel
theorem dX9_finds_18 : decode cX9_finds 18 = .ok (.ifCond .le 24, 3) := by decide +kernel
theorem dX9_finds_21 : decode cX9_finds 21 = .ok (.aload_n 0, 1) := by decide +kernel
theorem dX9_finds_22 : decode cX9_finds 22 = .ok (.iload_n 1, 1) := by decide +kernel
theorem dX9_finds_23 : decode cX9_finds 23 = .ok (.aload_n 0, 1) := by decide +kernel
theorem dX9_finds_24 : decode cX9_finds 24 = .ok (.iload_n 1, 1) := by decide +kernel
theorem dX9_finds_25 : decode cX9_finds 25 = .ok (.invokevirtual 205, 3) := by decide +kernel
theorem dX9_finds_28 : decode cX9_finds 28 = .ok (.invokevirtual 178, 3) := by decide +kernel
theorem dX9_finds_31 : decode cX9_finds 31 = .ok (.ifCond .eq 11, 3) := by decide +kernel
theorem dX9_finds_34 : decode cX9_finds 34 = .ok (.aload_n 0, 1) := by decide +kernel
theorem dX9_finds_35 : decode cX9_finds 35 = .ok (.iload_n 1, 1) := by decide +kernel
theorem dX9_finds_36 : decode cX9_finds 36 = .ok (.invokevirtual 205, 3) := by decide +kernel
theorem dX9_finds_39 : decode cX9_finds 39 = .ok (.goto 4, 3) := by decide +kernel
theorem dX9_finds_42 : decode cX9_finds 42 = .ok (.iconst (-1), 1) := by decide +kernel
theorem dX9_finds_43 : decode cX9_finds 43 = .ok (.ireturn, 1) := by decide +kernel
theorem dX9_finds_44 : decode cX9_finds 44 = .ok (.iload_n 2, 1) := by decide +kernel
theorem dX9_finds_45 : decode cX9_finds 45 = .ok (.iconst 3, 1) := by decide +kernel
theorem dX9_finds_46 : decode cX9_finds 46 = .ok (.if_icmp .ne 12, 3) := by decide +kernel
theorem dX9_finds_49 : decode cX9_finds 49 = .ok (.aload_n 0, 1) := by decide +kernel
theorem dX9_finds_50 : decode cX9_finds 50 = .ok (.iload_n 1, 1) := by decide +kernel
theorem dX9_finds_51 : decode cX9_finds 51 = .ok (.iload_n 3, 1) := by decide +kernel
theorem dX9_finds_52 : decode cX9_finds 52 = .ok (.invokevirtual 208, 3) := by decide +kernel
theorem dX9_finds_55 : decode cX9_finds 55 = .ok (.goto 23, 3) := by decide +kernel
theorem dX9_finds_58 : decode cX9_finds 58 = .ok (.aload_n 0, 1) := by decide +kernel
theorem dX9_finds_59 : decode cX9_finds 59 = .ok (.iload_n 1, 1) := by decide +kernel
theorem dX9_finds_60 : decode cX9_finds 60 = .ok (.iload_n 2, 1) := by decide +kernel
theorem dX9_finds_61 : decode cX9_finds 61 = .ok (.iconst 1, 1) := by decide +kernel
theorem dX9_finds_62 : decode cX9_finds 62 = .ok (.if_icmp .ne 7, 3) := by decide +kernel
theorem dX9_finds_65 : decode cX9_finds 65 = .ok (.iconst 0, 1) := by decide +kernel
theorem dX9_finds_66 : decode cX9_finds 66 = .ok (.goto 8, 3) := by decide +kernel
theorem dX9_finds_69 : decode cX9_finds 69 = .ok (.aload_n 0, 1) := by decide +kernel
theorem dX9_finds_70 : decode cX9_finds 70 = .ok (.iload_n 1, 1) := by decide +kernel
theorem dX9_finds_71 : decode cX9_finds 71 = .ok (.invokevirtual 205, 3) := by decide +kernel
theorem dX9_finds_74 : decode cX9_finds 74 = .ok (.iload_n 3, 1) := by decide +kernel
theorem dX9_finds_75 : decode cX9_finds 75 = .ok (.invokevirtual 211, 3) := by decide +kernel
theorem dX9_finds_78 : decode cX9_finds 78 = .ok (.ireturn, 1) := by decide +kernel
set_option maxRecDepth 20000 in
theorem ggX9_find_X9_isTask : GoodIn wsX9_find wsX9_isTask := goodIn_r _ [7, 8, 9, 10, 6, 11, 70, 71, 72, 73, 74, 75, 76, 77, 78, 79, 80, 81, 82, 83, 84, 85, 86, 87, 88, 89, 90, 91, 92, 93, 94, 95, 96, 97, 98, 99, 100, 101] (by decide +kernel) (by decide +kernel)
set_option maxRecDepth 20000 in
theorem gX9_find_X9_isTask : GoodIn wsX9_find (wsV RX9 162 RX9 yX9_isTask wsX9_isTask) := goodIn_app (goodIn_of _ (by decide +kernel)) ggX9_find_X9_isTask
set_option maxRecDepth 20000 in
theorem ggX9_find_X9_in : GoodIn wsX9_find wsX9_in := goodIn_r _ [11] (by decide +kernel) (by decide +kernel)
set_option maxRecDepth 20000 in
theorem gX9_find_X9_in : GoodIn wsX9_find (va_wsS RX9 83 yX9_in wsX9_in) := goodIn_app (goodIn_of _ (by decide +kernel)) ggX9_find_X9_in
set_option maxRecDepth 20000 in
theorem ggX9_find_X9_finds : GoodIn wsX9_find wsX9_finds := goodIn_r _ [15, 1, 16, 17, 18, 6, 19, 20, 21, 22, 23, 24, 25, 26, 27, 28, 29, 30, 31, 32, 33, 34, 35, 36, 37, 38, 39, 40, 41, 42, 43, 44, 45, 46, 47, 48, 49, 50, 51, 52, 53, 54, 55, 56, 57, 58, 59, 60, 61, 62, 63, 64, 65, 66, 67, 68, 69, 70, 71, 72, 73, 74, 75, 76, 77, 78, 79, 80, 81, 82, 83, 84, 85, 86, 87, 88, 89, 90, 91, 92, 93, 94, 95, 96, 97, 98, 99, 100, 101] (by decide +kernel) (by decide +kernel)
set_option maxRecDepth 20000 in
theorem gX9_find_X9_finds : GoodIn wsX9_find (wsV RX9 214 RX9 yX9_finds wsX9_finds) := goodIn_app (goodIn_of _ (by decide +kernel)) ggX9_find_X9_finds
theorem dX9_find_0 : decode cX9_find 0 = .ok (.aload_n 0, 1) := by decide +kernel
theorem dX9_find_1 : decode cX9_find 1 = .ok (.iload_n 1, 1) := by decide +kernel
theorem dX9_find_2 : decode cX9_find 2 = .ok (.invokevirtual 162, 3) := by decide +kernel
theorem dX9_find_5 : decode cX9_find 5 = .ok (.ifCond .ne 6, 3) := by decide +kernel
theorem dX9_find_8 : decode cX9_find 8 = .ok (.bipush (-5), 2) := by decide +kernel
theorem dX9_find_10 : decode cX9_find 10 = .ok (.ireturn, 1) := by decide +kernel
theorem dX9_find_11 : decode cX9_find 11 = .ok (.iload_n 2, 1) := by decide +kernel
theorem dX9_find_12 : decode cX9_find 12 = .ok (.iconst 0, 1) := by decide +kernel
theorem dX9_find_13 : decode cX9_find 13 = .ok (.iconst 3, 1) := by decide +kernel
theorem dX9_find_14 : decode cX9_find 14 = .ok (.invokestatic 83, 3) := by decide +kernel
theorem dX9_find_17 : decode cX9_find 17 = .ok (.ifCond .eq 24, 3) := by decide +kernel
theorem dX9_find_20 : decode cX9_find 20 = .ok (.iload_n 3, 1) := by decide +kernel
theorem dX9_find_21 : decode cX9_find 21 = .ok (.iconst 0, 1) := by decide +kernel
theorem dX9_find_22 : decode cX9_find 22 = .ok (.sipush 2000, 3) := by decide +kernel
theorem dX9_find_25 : decode cX9_find 25 = .ok (.invokestatic 83, 3) := by decide +kernel
theorem dX9_find_28 : decode cX9_find 28 = .ok (.ifCond .eq 13, 3) := by decide +kernel
theorem dX9_find_31 : decode cX9_find 31 = .ok (.iload 4, 2) := by decide +kernel
theorem dX9_find_33 : decode cX9_find 33 = .ok (.iconst 0, 1) := by decide +kernel
theorem dX9_find_34 : decode cX9_find 34 = .ok (.iconst 2, 1) := by decide +kernel
theorem dX9_find_35 : decode cX9_find 35 = .ok (.invokestatic 83, 3) := by decide +kernel
theorem dX9_find_38 : decode cX9_find 38 = .ok (.ifCond .ne 6, 3) := by decide +kernel
theorem dX9_find_41 : decode cX9_find 41 = .ok (.bipush (-2), 2) := by decide +kernel
theorem dX9_find_43 : decode cX9_find 43 = .ok (.ireturn, 1) := by decide +kernel
theorem dX9_find_44 : decode cX9_find 44 = .ok (.aload_n 0, 1) := by decide +kernel
theorem dX9_find_45 : decode cX9_find 45 = .ok (.iload_n 1, 1) := by decide +kernel
theorem dX9_find_46 : decode cX9_find 46 = .ok (.iload_n 2, 1) := by decide +kernel
theorem dX9_find_47 : decode cX9_find 47 = .ok (.iload_n 3, 1) := by decide +kernel
theorem dX9_find_48 : decode cX9_find 48 = .ok (.invokevirtual 214, 3) := by decide +kernel
theorem dX9_find_51 : decode cX9_find 51 = .ok (.istore 5, 2) := by decide +kernel
theorem dX9_find_53 : decode cX9_find 53 = .ok (.iload 4, 2) := by decide +kernel
theorem dX9_find_55 : decode cX9_find 55 = .ok (.ifCond .ne 8, 3) := by decide +kernel
theorem dX9_find_58 : decode cX9_find 58 = .ok (.iload 5, 2) := by decide +kernel
theorem dX9_find_60 : decode cX9_find 60 = .ok (.goto 38, 3) := by decide +kernel
theorem dX9_find_63 : decode cX9_find 63 = .ok (.iload 4, 2) := by decide +kernel
theorem dX9_find_65 : decode cX9_find 65 = .ok (.iconst 1, 1) := by decide +kernel
theorem dX9_find_66 : decode cX9_find 66 = .ok (.if_icmp .ne 10, 3) := by decide +kernel
theorem dX9_find_69 : decode cX9_find 69 = .ok (.aload_n 0, 1) := by decide +kernel
theorem dX9_find_70 : decode cX9_find 70 = .ok (.getfield 196, 3) := by decide +kernel
theorem dX9_find_73 : decode cX9_find 73 = .ok (.goto 25, 3) := by decide +kernel
theorem dX9_find_76 : decode cX9_find 76 = .ok (.iload 5, 2) := by decide +kernel
theorem dX9_find_78 : decode cX9_find 78 = .ok (.iconst (-1), 1) := by decide +kernel
theorem dX9_find_79 : decode cX9_find 79 = .ok (.if_icmp .eq 18, 3) := by decide +kernel
theorem dX9_find_82 : decode cX9_find 82 = .ok (.iload 5, 2) := by decide +kernel
theorem dX9_find_84 : decode cX9_find 84 = .ok (.aload_n 0, 1) := by decide +kernel
theorem dX9_find_85 : decode cX9_find 85 = .ok (.getfield 37, 3) := by decide +kernel
theorem dX9_find_88 : decode cX9_find 88 = .ok (.iload_n 1, 1) := by decide +kernel
theorem dX9_find_89 : decode cX9_find 89 = .ok (.iaload, 1) := by decide +kernel
theorem dX9_find_90 : decode cX9_find 90 = .ok (.if_icmp .ne 7, 3) := by decide +kernel
theorem dX9_find_93 : decode cX9_find 93 = .ok (.iconst 1, 1) := by decide +kernel
theorem dX9_find_94 : decode cX9_find 94 = .ok (.goto 4, 3) := by decide +kernel
theorem dX9_find_97 : decode cX9_find 97 = .ok (.iconst 0, 1) := by decide +kernel
theorem dX9_find_98 : decode cX9_find 98 = .ok (.ireturn, 1) := by decide +kernel
set_option maxRecDepth 20000 in
theorem ggX9_areSeeds_X9_in : GoodIn wsX9_areSeeds wsX9_in := goodIn_r _ [6] (by decide +kernel) (by decide +kernel)
set_option maxRecDepth 20000 in
theorem gX9_areSeeds_X9_in : GoodIn wsX9_areSeeds (va_wsS RX9 83 yX9_in wsX9_in) := goodIn_app (goodIn_of _ (by decide +kernel)) ggX9_areSeeds_X9_in
theorem dX9_areSeeds_0 : decode cX9_areSeeds 0 = .ok (.iload_n 0, 1) := by decide +kernel
theorem dX9_areSeeds_1 : decode cX9_areSeeds 1 = .ok (.iconst 0, 1) := by decide +kernel
theorem dX9_areSeeds_2 : decode cX9_areSeeds 2 = .ok (.ldc 151, 2) := by decide +kernel
theorem dX9_areSeeds_4 : decode cX9_areSeeds 4 = .ok (.invokestatic 83, 3) := by decide +kernel
theorem dX9_areSeeds_7 : decode cX9_areSeeds 7 = .ok (.ifCond .eq 25, 3) := by decide +kernel
theorem dX9_areSeeds_10 : decode cX9_areSeeds 10 = .ok (.iload_n 1, 1) := by decide +kernel
theorem dX9_areSeeds_11 : decode cX9_areSeeds 11 = .ok (.iconst 1, 1) := by decide +kernel
theorem dX9_areSeeds_12 : decode cX9_areSeeds 12 = .ok (.bipush 24, 2) := by decide +kernel
theorem dX9_areSeeds_14 : decode cX9_areSeeds 14 = .ok (.invokestatic 83, 3) := by decide +kernel
theorem dX9_areSeeds_17 : decode cX9_areSeeds 17 = .ok (.ifCond .eq 15, 3) := by decide +kernel
theorem dX9_areSeeds_20 : decode cX9_areSeeds 20 = .ok (.iload_n 0, 1) := by decide +kernel
theorem dX9_areSeeds_21 : decode cX9_areSeeds 21 = .ok (.iload_n 1, 1) := by decide +kernel
theorem dX9_areSeeds_22 : decode cX9_areSeeds 22 = .ok (.iadd, 1) := by decide +kernel
theorem dX9_areSeeds_23 : decode cX9_areSeeds 23 = .ok (.ldc 217, 2) := by decide +kernel
theorem dX9_areSeeds_25 : decode cX9_areSeeds 25 = .ok (.if_icmp .gt 7, 3) := by decide +kernel
theorem dX9_areSeeds_28 : decode cX9_areSeeds 28 = .ok (.iconst 1, 1) := by decide +kernel
theorem dX9_areSeeds_29 : decode cX9_areSeeds 29 = .ok (.goto 4, 3) := by decide +kernel
theorem dX9_areSeeds_32 : decode cX9_areSeeds 32 = .ok (.iconst 0, 1) := by decide +kernel
theorem dX9_areSeeds_33 : decode cX9_areSeeds 33 = .ok (.ireturn, 1) := by decide +kernel
set_option maxRecDepth 20000 in
theorem ggX9_heap_X9_isRecipe : GoodIn wsX9_heap wsX9_isRecipe := goodIn_r _ [6, 7, 8, 9, 5, 10, 114, 115, 116, 117, 118, 119, 120, 121, 122, 123, 124, 125, 126, 127, 128, 129, 130, 131, 132, 133, 134, 135, 136, 137, 138, 139, 140, 141, 142, 143, 144, 145] (by decide +kernel) (by decide +kernel)
set_option maxRecDepth 20000 in
theorem gX9_heap_X9_isRecipe : GoodIn wsX9_heap (wsV RX9 121 RX9 yX9_isRecipe wsX9_isRecipe) := goodIn_app (goodIn_of _ (by decide +kernel)) ggX9_heap_X9_isRecipe
set_option maxRecDepth 20000 in
theorem ggX9_heap_X9_areSeeds : GoodIn wsX9_heap wsX9_areSeeds := goodIn_r _ [13, 14, 15, 8, 9, 5, 10] (by decide +kernel) (by decide +kernel)
set_option maxRecDepth 20000 in
theorem gX9_heap_X9_areSeeds : GoodIn wsX9_heap (va_wsS RX9 218 yX9_areSeeds wsX9_areSeeds) := goodIn_app (goodIn_of _ (by decide +kernel)) ggX9_heap_X9_areSeeds
set_option maxRecDepth 20000 in
theorem ggX9_heap_X9_in : GoodIn wsX9_heap wsX9_in := goodIn_r _ [10] (by decide +kernel) (by decide +kernel)
set_option maxRecDepth 20000 in
theorem gX9_heap_X9_in : GoodIn wsX9_heap (va_wsS RX9 83 yX9_in wsX9_in) := goodIn_app (goodIn_of _ (by decide +kernel)) ggX9_heap_X9_in
set_option maxRecDepth 20000 in
theorem ggX9_heap_X9_makes : GoodIn wsX9_heap wsX9_makes := goodIn_r _ [19, 20, 21, 22, 23, 24, 25, 26, 27, 28, 1, 29, 30, 31, 32, 33, 34, 35, 5, 36, 37, 38, 39, 40, 41, 42, 43, 44, 45, 46, 47, 48, 49, 50, 51, 52, 53, 54, 55, 114, 115, 116, 117, 118, 119, 120, 121, 122, 123, 124, 125, 126, 127, 128, 129, 130, 131, 132, 133, 134, 135, 136, 137, 138, 139, 140, 141, 142, 143, 144, 145] (by decide +kernel) (by decide +kernel)
set_option maxRecDepth 20000 in
theorem gX9_heap_X9_makes : GoodIn wsX9_heap (wsV RX9 155 RX9 yX9_makes wsX9_makes) := goodIn_app (goodIn_of _ (by decide +kernel)) ggX9_heap_X9_makes
set_option maxRecDepth 20000 in
theorem ggX9_heap_X9_answersOf : GoodIn wsX9_heap wsX9_answersOf := goodIn_r _ [59, 23, 60, 61, 62, 5, 63, 64, 65, 66, 67, 25, 21, 68, 69, 70, 71, 31, 32, 72, 73, 74, 75, 76, 77, 78, 79, 80, 81, 114, 115, 116, 117, 118, 119, 120, 121, 122, 123, 124, 125, 126, 127, 128, 129, 130, 131, 132, 133, 134, 135, 136, 137, 138, 139, 140, 141, 142, 143, 144, 145] (by decide +kernel) (by decide +kernel)
set_option maxRecDepth 20000 in
theorem gX9_heap_X9_answersOf : GoodIn wsX9_heap (wsV RX9 181 RX9 yX9_answersOf wsX9_answersOf) := goodIn_app (goodIn_of _ (by decide +kernel)) ggX9_heap_X9_answersOf
set_option maxRecDepth 20000 in
theorem ggX9_heap_X9_finds : GoodIn wsX9_heap wsX9_finds := goodIn_r _ [85, 86, 87, 88, 89, 5, 90, 23, 91, 92, 93, 94, 25, 31, 32, 60, 61, 62, 63, 64, 65, 66, 67, 21, 68, 69, 70, 71, 72, 73, 74, 75, 76, 77, 78, 79, 80, 81, 95, 96, 97, 98, 99, 100, 101, 102, 103, 104, 105, 106, 107, 108, 109, 110, 111, 112, 113, 114, 115, 116, 117, 118, 119, 120, 121, 122, 123, 124, 125, 126, 127, 128, 129, 130, 131, 132, 133, 134, 135, 136, 137, 138, 139, 140, 141, 142, 143, 144, 145] (by decide +kernel) (by decide +kernel)
set_option maxRecDepth 20000 in
theorem gX9_heap_X9_finds : GoodIn wsX9_heap (wsV RX9 214 RX9 yX9_finds wsX9_finds) := goodIn_app (goodIn_of _ (by decide +kernel)) ggX9_heap_X9_finds
theorem dX9_heap_0 : decode cX9_heap 0 = .ok (.aload_n 0, 1) := by decide +kernel
theorem dX9_heap_1 : decode cX9_heap 1 = .ok (.iload_n 1, 1) := by decide +kernel
theorem dX9_heap_2 : decode cX9_heap 2 = .ok (.invokevirtual 121, 3) := by decide +kernel
theorem dX9_heap_5 : decode cX9_heap 5 = .ok (.ifCond .ne 6, 3) := by decide +kernel
theorem dX9_heap_8 : decode cX9_heap 8 = .ok (.bipush (-5), 2) := by decide +kernel
theorem dX9_heap_10 : decode cX9_heap 10 = .ok (.ireturn, 1) := by decide +kernel
theorem dX9_heap_11 : decode cX9_heap 11 = .ok (.iload_n 2, 1) := by decide +kernel
theorem dX9_heap_12 : decode cX9_heap 12 = .ok (.iload_n 3, 1) := by decide +kernel
theorem dX9_heap_13 : decode cX9_heap 13 = .ok (.invokestatic 218, 3) := by decide +kernel
theorem dX9_heap_16 : decode cX9_heap 16 = .ok (.ifCond .eq 35, 3) := by decide +kernel
theorem dX9_heap_19 : decode cX9_heap 19 = .ok (.iload 4, 2) := by decide +kernel
theorem dX9_heap_21 : decode cX9_heap 21 = .ok (.iconst 0, 1) := by decide +kernel
theorem dX9_heap_22 : decode cX9_heap 22 = .ok (.iconst 3, 1) := by decide +kernel
theorem dX9_heap_23 : decode cX9_heap 23 = .ok (.invokestatic 83, 3) := by decide +kernel
theorem dX9_heap_26 : decode cX9_heap 26 = .ok (.ifCond .eq 25, 3) := by decide +kernel
theorem dX9_heap_29 : decode cX9_heap 29 = .ok (.iload 5, 2) := by decide +kernel
theorem dX9_heap_31 : decode cX9_heap 31 = .ok (.iconst 0, 1) := by decide +kernel
theorem dX9_heap_32 : decode cX9_heap 32 = .ok (.sipush 200, 3) := by decide +kernel
theorem dX9_heap_35 : decode cX9_heap 35 = .ok (.invokestatic 83, 3) := by decide +kernel
theorem dX9_heap_38 : decode cX9_heap 38 = .ok (.ifCond .eq 13, 3) := by decide +kernel
theorem dX9_heap_41 : decode cX9_heap 41 = .ok (.iload 6, 2) := by decide +kernel
theorem dX9_heap_43 : decode cX9_heap 43 = .ok (.iconst 0, 1) := by decide +kernel
theorem dX9_heap_44 : decode cX9_heap 44 = .ok (.iconst 2, 1) := by decide +kernel
theorem dX9_heap_45 : decode cX9_heap 45 = .ok (.invokestatic 83, 3) := by decide +kernel
theorem dX9_heap_48 : decode cX9_heap 48 = .ok (.ifCond .ne 6, 3) := by decide +kernel
theorem dX9_heap_51 : decode cX9_heap 51 = .ok (.bipush (-2), 2) := by decide +kernel
theorem dX9_heap_53 : decode cX9_heap 53 = .ok (.ireturn, 1) := by decide +kernel
theorem dX9_heap_54 : decode cX9_heap 54 = .ok (.iconst 0, 1) := by decide +kernel
theorem dX9_heap_55 : decode cX9_heap 55 = .ok (.istore 7, 2) := by decide +kernel
theorem dX9_heap_57 : decode cX9_heap 57 = .ok (.iconst 0, 1) := by decide +kernel
theorem dX9_heap_58 : decode cX9_heap 58 = .ok (.istore 8, 2) := by decide +kernel
theorem dX9_heap_60 : decode cX9_heap 60 = .ok (.iload 8, 2) := by decide +kernel
theorem dX9_heap_62 : decode cX9_heap 62 = .ok (.iload_n 3, 1) := by decide +kernel
theorem dX9_heap_63 : decode cX9_heap 63 = .ok (.if_icmp .ge 96, 3) := by decide +kernel
theorem dX9_heap_66 : decode cX9_heap 66 = .ok (.aload_n 0, 1) := by decide +kernel
theorem dX9_heap_67 : decode cX9_heap 67 = .ok (.bipush 8, 2) := by decide +kernel
theorem dX9_heap_69 : decode cX9_heap 69 = .ok (.iload_n 1, 1) := by decide +kernel
theorem dX9_heap_70 : decode cX9_heap 70 = .ok (.iload_n 2, 1) := by decide +kernel
theorem dX9_heap_71 : decode cX9_heap 71 = .ok (.iload 8, 2) := by decide +kernel
theorem dX9_heap_73 : decode cX9_heap 73 = .ok (.iadd, 1) := by decide +kernel
theorem dX9_heap_74 : decode cX9_heap 74 = .ok (.invokevirtual 155, 3) := by decide +kernel
theorem dX9_heap_77 : decode cX9_heap 77 = .ok (.iload 6, 2) := by decide +kernel
theorem dX9_heap_79 : decode cX9_heap 79 = .ok (.iconst 2, 1) := by decide +kernel
theorem dX9_heap_80 : decode cX9_heap 80 = .ok (.if_icmp .ne 28, 3) := by decide +kernel
theorem dX9_heap_83 : decode cX9_heap 83 = .ok (.iload 7, 2) := by decide +kernel
theorem dX9_heap_85 : decode cX9_heap 85 = .ok (.aload_n 0, 1) := by decide +kernel
theorem dX9_heap_86 : decode cX9_heap 86 = .ok (.bipush 8, 2) := by decide +kernel
theorem dX9_heap_88 : decode cX9_heap 88 = .ok (.iconst 0, 1) := by decide +kernel
theorem dX9_heap_89 : decode cX9_heap 89 = .ok (.iconst 0, 1) := by decide +kernel
theorem dX9_heap_90 : decode cX9_heap 90 = .ok (.invokevirtual 181, 3) := by decide +kernel
theorem dX9_heap_93 : decode cX9_heap 93 = .ok (.iconst 1, 1) := by decide +kernel
theorem dX9_heap_94 : decode cX9_heap 94 = .ok (.if_icmp .ne 7, 3) := by decide +kernel
theorem dX9_heap_97 : decode cX9_heap 97 = .ok (.iconst 1, 1) := by decide +kernel
theorem dX9_heap_98 : decode cX9_heap 98 = .ok (.goto 4, 3) := by decide +kernel
theorem dX9_heap_101 : decode cX9_heap 101 = .ok (.iconst 0, 1) := by decide +kernel
theorem dX9_heap_102 : decode cX9_heap 102 = .ok (.iadd, 1) := by decide +kernel
theorem dX9_heap_103 : decode cX9_heap 103 = .ok (.istore 7, 2) := by decide +kernel
theorem dX9_heap_105 : decode cX9_heap 105 = .ok (.goto 48, 3) := by decide +kernel
theorem dX9_heap_108 : decode cX9_heap 108 = .ok (.aload_n 0, 1) := by decide +kernel
theorem dX9_heap_109 : decode cX9_heap 109 = .ok (.bipush 8, 2) := by decide +kernel
theorem dX9_heap_111 : decode cX9_heap 111 = .ok (.iload 4, 2) := by decide +kernel
theorem dX9_heap_113 : decode cX9_heap 113 = .ok (.iload 5, 2) := by decide +kernel
theorem dX9_heap_115 : decode cX9_heap 115 = .ok (.invokevirtual 214, 3) := by decide +kernel
theorem dX9_heap_118 : decode cX9_heap 118 = .ok (.istore 9, 2) := by decide +kernel
theorem dX9_heap_120 : decode cX9_heap 120 = .ok (.iload 7, 2) := by decide +kernel
theorem dX9_heap_122 : decode cX9_heap 122 = .ok (.iload 9, 2) := by decide +kernel
theorem dX9_heap_124 : decode cX9_heap 124 = .ok (.iconst (-1), 1) := by decide +kernel
theorem dX9_heap_125 : decode cX9_heap 125 = .ok (.if_icmp .eq 24, 3) := by decide +kernel
theorem dX9_heap_128 : decode cX9_heap 128 = .ok (.iload 6, 2) := by decide +kernel
theorem dX9_heap_130 : decode cX9_heap 130 = .ok (.ifCond .eq 15, 3) := by decide +kernel
theorem dX9_heap_133 : decode cX9_heap 133 = .ok (.iload 9, 2) := by decide +kernel
theorem dX9_heap_135 : decode cX9_heap 135 = .ok (.aload_n 0, 1) := by decide +kernel
theorem dX9_heap_136 : decode cX9_heap 136 = .ok (.getfield 37, 3) := by decide +kernel
theorem dX9_heap_139 : decode cX9_heap 139 = .ok (.bipush 8, 2) := by decide +kernel
theorem dX9_heap_141 : decode cX9_heap 141 = .ok (.iaload, 1) := by decide +kernel
theorem dX9_heap_142 : decode cX9_heap 142 = .ok (.if_icmp .ne 7, 3) := by decide +kernel
theorem dX9_heap_145 : decode cX9_heap 145 = .ok (.iconst 1, 1) := by decide +kernel
theorem dX9_heap_146 : decode cX9_heap 146 = .ok (.goto 4, 3) := by decide +kernel
theorem dX9_heap_149 : decode cX9_heap 149 = .ok (.iconst 0, 1) := by decide +kernel
theorem dX9_heap_150 : decode cX9_heap 150 = .ok (.iadd, 1) := by decide +kernel
theorem dX9_heap_151 : decode cX9_heap 151 = .ok (.istore 7, 2) := by decide +kernel
theorem dX9_heap_153 : decode cX9_heap 153 = .ok (.iinc 8 1, 3) := by decide +kernel
theorem dX9_heap_156 : decode cX9_heap 156 = .ok (.goto (-96), 3) := by decide +kernel
theorem dX9_heap_159 : decode cX9_heap 159 = .ok (.iload 7, 2) := by decide +kernel
theorem dX9_heap_161 : decode cX9_heap 161 = .ok (.ireturn, 1) := by decide +kernel
set_option maxRecDepth 20000 in
theorem ggX9_signOf_X9_makes : GoodIn wsX9_signOf wsX9_makes := goodIn_r _ [6, 7, 8, 9, 1, 10, 11, 12, 13, 14, 15, 16, 17, 18, 19, 20, 21, 22, 5, 23, 24, 25, 26, 27, 28, 29, 30, 31, 32, 33, 34, 35, 36, 37, 38, 39, 40, 41, 42, 47, 48, 49, 50, 51, 52, 53, 54, 55, 56, 57, 58, 59, 60, 61, 62, 63, 64, 65, 66, 67, 68, 69, 70, 71, 72, 73, 74, 75, 76, 77, 78] (by decide +kernel) (by decide +kernel)
set_option maxRecDepth 20000 in
theorem gX9_signOf_X9_makes : GoodIn wsX9_signOf (wsV RX9 155 RX9 yX9_makes wsX9_makes) := goodIn_app (goodIn_of _ (by decide +kernel)) ggX9_signOf_X9_makes
set_option maxRecDepth 20000 in
theorem ggX9_signOf_X9_more : GoodIn wsX9_signOf wsX9_more := goodIn_r _ [46, 11, 18, 19, 47, 48, 49, 50, 51, 52, 53, 54, 55, 56, 57, 58, 59, 60, 61, 62, 63, 64, 65, 66, 67, 68, 69, 70, 71, 72, 73, 74, 75, 76, 77, 78] (by decide +kernel) (by decide +kernel)
set_option maxRecDepth 20000 in
theorem gX9_signOf_X9_more : GoodIn wsX9_signOf (wsV RX9 184 RX9 yX9_more wsX9_more) := goodIn_app (goodIn_of _ (by decide +kernel)) ggX9_signOf_X9_more
theorem dX9_signOf_0 : decode cX9_signOf 0 = .ok (.aload_n 0, 1) := by decide +kernel
theorem dX9_signOf_1 : decode cX9_signOf 1 = .ok (.bipush 8, 2) := by decide +kernel
theorem dX9_signOf_3 : decode cX9_signOf 3 = .ok (.iload_n 1, 1) := by decide +kernel
theorem dX9_signOf_4 : decode cX9_signOf 4 = .ok (.iload_n 2, 1) := by decide +kernel
theorem dX9_signOf_5 : decode cX9_signOf 5 = .ok (.invokevirtual 155, 3) := by decide +kernel
theorem dX9_signOf_8 : decode cX9_signOf 8 = .ok (.iconst 0, 1) := by decide +kernel
theorem dX9_signOf_9 : decode cX9_signOf 9 = .ok (.istore_n 3, 1) := by decide +kernel
theorem dX9_signOf_10 : decode cX9_signOf 10 = .ok (.iconst 0, 1) := by decide +kernel
theorem dX9_signOf_11 : decode cX9_signOf 11 = .ok (.istore 4, 2) := by decide +kernel
theorem dX9_signOf_13 : decode cX9_signOf 13 = .ok (.iload 4, 2) := by decide +kernel
theorem dX9_signOf_15 : decode cX9_signOf 15 = .ok (.aload_n 0, 1) := by decide +kernel
theorem dX9_signOf_16 : decode cX9_signOf 16 = .ok (.getfield 31, 3) := by decide +kernel
theorem dX9_signOf_19 : decode cX9_signOf 19 = .ok (.bipush 8, 2) := by decide +kernel
theorem dX9_signOf_21 : decode cX9_signOf 21 = .ok (.iaload, 1) := by decide +kernel
theorem dX9_signOf_22 : decode cX9_signOf 22 = .ok (.if_icmp .ge 29, 3) := by decide +kernel
theorem dX9_signOf_25 : decode cX9_signOf 25 = .ok (.iload_n 3, 1) := by decide +kernel
theorem dX9_signOf_26 : decode cX9_signOf 26 = .ok (.aload_n 0, 1) := by decide +kernel
theorem dX9_signOf_27 : decode cX9_signOf 27 = .ok (.bipush 8, 2) := by decide +kernel
theorem dX9_signOf_29 : decode cX9_signOf 29 = .ok (.iload 4, 2) := by decide +kernel
theorem dX9_signOf_31 : decode cX9_signOf 31 = .ok (.invokevirtual 184, 3) := by decide +kernel
theorem dX9_signOf_34 : decode cX9_signOf 34 = .ok (.aload_n 0, 1) := by decide +kernel
theorem dX9_signOf_35 : decode cX9_signOf 35 = .ok (.bipush 8, 2) := by decide +kernel
theorem dX9_signOf_37 : decode cX9_signOf 37 = .ok (.iload 4, 2) := by decide +kernel
theorem dX9_signOf_39 : decode cX9_signOf 39 = .ok (.invokevirtual 184, 3) := by decide +kernel
theorem dX9_signOf_42 : decode cX9_signOf 42 = .ok (.imul, 1) := by decide +kernel
theorem dX9_signOf_43 : decode cX9_signOf 43 = .ok (.iadd, 1) := by decide +kernel
theorem dX9_signOf_44 : decode cX9_signOf 44 = .ok (.istore_n 3, 1) := by decide +kernel
theorem dX9_signOf_45 : decode cX9_signOf 45 = .ok (.iinc 4 1, 3) := by decide +kernel
theorem dX9_signOf_48 : decode cX9_signOf 48 = .ok (.goto (-35), 3) := by decide +kernel
theorem dX9_signOf_51 : decode cX9_signOf 51 = .ok (.iload_n 3, 1) := by decide +kernel
theorem dX9_signOf_52 : decode cX9_signOf 52 = .ok (.ireturn, 1) := by decide +kernel
theorem dX9_rightBy_0 : decode cX9_rightBy 0 = .ok (.iconst 0, 1) := by decide +kernel
theorem dX9_rightBy_1 : decode cX9_rightBy 1 = .ok (.istore_n 3, 1) := by decide +kernel
theorem dX9_rightBy_2 : decode cX9_rightBy 2 = .ok (.iconst 0, 1) := by decide +kernel
theorem dX9_rightBy_3 : decode cX9_rightBy 3 = .ok (.istore 4, 2) := by decide +kernel
theorem dX9_rightBy_5 : decode cX9_rightBy 5 = .ok (.iload 4, 2) := by decide +kernel
theorem dX9_rightBy_7 : decode cX9_rightBy 7 = .ok (.iconst 2, 1) := by decide +kernel
theorem dX9_rightBy_8 : decode cX9_rightBy 8 = .ok (.iload_n 2, 1) := by decide +kernel
theorem dX9_rightBy_9 : decode cX9_rightBy 9 = .ok (.imul, 1) := by decide +kernel
theorem dX9_rightBy_10 : decode cX9_rightBy 10 = .ok (.if_icmp .ge 47, 3) := by decide +kernel
theorem dX9_rightBy_13 : decode cX9_rightBy 13 = .ok (.iload_n 3, 1) := by decide +kernel
theorem dX9_rightBy_14 : decode cX9_rightBy 14 = .ok (.aload_n 0, 1) := by decide +kernel
theorem dX9_rightBy_15 : decode cX9_rightBy 15 = .ok (.getfield 76, 3) := by decide +kernel
theorem dX9_rightBy_18 : decode cX9_rightBy 18 = .ok (.iload 4, 2) := by decide +kernel
theorem dX9_rightBy_20 : decode cX9_rightBy 20 = .ok (.iaload, 1) := by decide +kernel
theorem dX9_rightBy_21 : decode cX9_rightBy 21 = .ok (.iload_n 1, 1) := by decide +kernel
theorem dX9_rightBy_22 : decode cX9_rightBy 22 = .ok (.if_icmp .le 7, 3) := by decide +kernel
theorem dX9_rightBy_25 : decode cX9_rightBy 25 = .ok (.iconst 1, 1) := by decide +kernel
theorem dX9_rightBy_26 : decode cX9_rightBy 26 = .ok (.goto 4, 3) := by decide +kernel
theorem dX9_rightBy_29 : decode cX9_rightBy 29 = .ok (.iconst 0, 1) := by decide +kernel
theorem dX9_rightBy_30 : decode cX9_rightBy 30 = .ok (.iload 4, 2) := by decide +kernel
theorem dX9_rightBy_32 : decode cX9_rightBy 32 = .ok (.iload_n 2, 1) := by decide +kernel
theorem dX9_rightBy_33 : decode cX9_rightBy 33 = .ok (.if_icmp .ge 7, 3) := by decide +kernel
theorem dX9_rightBy_36 : decode cX9_rightBy 36 = .ok (.iconst 1, 1) := by decide +kernel
theorem dX9_rightBy_37 : decode cX9_rightBy 37 = .ok (.goto 4, 3) := by decide +kernel
theorem dX9_rightBy_40 : decode cX9_rightBy 40 = .ok (.iconst 0, 1) := by decide +kernel
theorem dX9_rightBy_41 : decode cX9_rightBy 41 = .ok (.if_icmp .ne 7, 3) := by decide +kernel
theorem dX9_rightBy_44 : decode cX9_rightBy 44 = .ok (.iconst 1, 1) := by decide +kernel
theorem dX9_rightBy_45 : decode cX9_rightBy 45 = .ok (.goto 4, 3) := by decide +kernel
theorem dX9_rightBy_48 : decode cX9_rightBy 48 = .ok (.iconst 0, 1) := by decide +kernel
theorem dX9_rightBy_49 : decode cX9_rightBy 49 = .ok (.iadd, 1) := by decide +kernel
theorem dX9_rightBy_50 : decode cX9_rightBy 50 = .ok (.istore_n 3, 1) := by decide +kernel
theorem dX9_rightBy_51 : decode cX9_rightBy 51 = .ok (.iinc 4 1, 3) := by decide +kernel
theorem dX9_rightBy_54 : decode cX9_rightBy 54 = .ok (.goto (-49), 3) := by decide +kernel
theorem dX9_rightBy_57 : decode cX9_rightBy 57 = .ok (.iload_n 3, 1) := by decide +kernel
theorem dX9_rightBy_58 : decode cX9_rightBy 58 = .ok (.ireturn, 1) := by decide +kernel
set_option maxRecDepth 20000 in
theorem ggX9_apart_X9_isRecipe : GoodIn wsX9_apart wsX9_isRecipe := goodIn_r _ [6, 7, 8, 9, 5, 10, 69, 70, 71, 72, 73, 74, 75, 76, 77, 78, 79, 80, 81, 82, 83, 84, 85, 86, 87, 88, 89, 90, 91, 92, 93, 94, 95, 96, 97, 98, 99, 100] (by decide +kernel) (by decide +kernel)
set_option maxRecDepth 20000 in
theorem gX9_apart_X9_isRecipe : GoodIn wsX9_apart (wsV RX9 121 RX9 yX9_isRecipe wsX9_isRecipe) := goodIn_app (goodIn_of _ (by decide +kernel)) ggX9_apart_X9_isRecipe
set_option maxRecDepth 20000 in
theorem ggX9_apart_X9_areSeeds : GoodIn wsX9_apart wsX9_areSeeds := goodIn_r _ [13, 14, 15, 8, 9, 5, 10] (by decide +kernel) (by decide +kernel)
set_option maxRecDepth 20000 in
theorem gX9_apart_X9_areSeeds : GoodIn wsX9_apart (va_wsS RX9 218 yX9_areSeeds wsX9_areSeeds) := goodIn_app (goodIn_of _ (by decide +kernel)) ggX9_apart_X9_areSeeds
set_option maxRecDepth 20000 in
theorem ggX9_apart_X9_in : GoodIn wsX9_apart wsX9_in := goodIn_r _ [10] (by decide +kernel) (by decide +kernel)
set_option maxRecDepth 20000 in
theorem gX9_apart_X9_in : GoodIn wsX9_apart (va_wsS RX9 83 yX9_in wsX9_in) := goodIn_app (goodIn_of _ (by decide +kernel)) ggX9_apart_X9_in
set_option maxRecDepth 20000 in
theorem ggX9_apart_X9_signOf : GoodIn wsX9_apart wsX9_signOf := goodIn_r _ [19, 20, 21, 22, 23, 5, 24, 25, 26, 27, 28, 29, 30, 31, 32, 33, 34, 35, 36, 37, 38, 39, 40, 41, 42, 43, 44, 45, 46, 47, 48, 49, 50, 51, 52, 53, 54, 55, 56, 57, 58, 59, 60, 61, 62, 63, 64, 69, 70, 71, 72, 73, 74, 75, 76, 77, 78, 79, 80, 81, 82, 83, 84, 85, 86, 87, 88, 89, 90, 91, 92, 93, 94, 95, 96, 97, 98, 99, 100] (by decide +kernel) (by decide +kernel)
set_option maxRecDepth 20000 in
theorem gX9_apart_X9_signOf : GoodIn wsX9_apart (wsV RX9 221 RX9 yX9_signOf wsX9_signOf) := goodIn_app (goodIn_of _ (by decide +kernel)) ggX9_apart_X9_signOf
set_option maxRecDepth 20000 in
theorem ggX9_apart_X9_rightBy : GoodIn wsX9_apart wsX9_rightBy := goodIn_r _ [68, 1, 69, 70, 71, 72, 73, 74, 75, 76, 77, 78, 79, 80, 81, 82, 83, 84, 85, 86, 87, 88, 89, 90, 91, 92, 93, 94, 95, 96, 97, 98, 99, 100] (by decide +kernel) (by decide +kernel)
set_option maxRecDepth 20000 in
theorem gX9_apart_X9_rightBy : GoodIn wsX9_apart (wsV RX9 224 RX9 yX9_rightBy wsX9_rightBy) := goodIn_app (goodIn_of _ (by decide +kernel)) ggX9_apart_X9_rightBy
theorem dX9_apart_0 : decode cX9_apart 0 = .ok (.aload_n 0, 1) := by decide +kernel
theorem dX9_apart_1 : decode cX9_apart 1 = .ok (.iload_n 1, 1) := by decide +kernel
theorem dX9_apart_2 : decode cX9_apart 2 = .ok (.invokevirtual 121, 3) := by decide +kernel
theorem dX9_apart_5 : decode cX9_apart 5 = .ok (.ifCond .eq 11, 3) := by decide +kernel
theorem dX9_apart_8 : decode cX9_apart 8 = .ok (.aload_n 0, 1) := by decide +kernel
theorem dX9_apart_9 : decode cX9_apart 9 = .ok (.iload_n 2, 1) := by decide +kernel
theorem dX9_apart_10 : decode cX9_apart 10 = .ok (.invokevirtual 121, 3) := by decide +kernel
theorem dX9_apart_13 : decode cX9_apart 13 = .ok (.ifCond .ne 6, 3) := by decide +kernel
theorem dX9_apart_16 : decode cX9_apart 16 = .ok (.bipush (-5), 2) := by decide +kernel
theorem dX9_apart_18 : decode cX9_apart 18 = .ok (.ireturn, 1) := by decide +kernel
theorem dX9_apart_19 : decode cX9_apart 19 = .ok (.iload_n 3, 1) := by decide +kernel
theorem dX9_apart_20 : decode cX9_apart 20 = .ok (.iload 4, 2) := by decide +kernel
theorem dX9_apart_22 : decode cX9_apart 22 = .ok (.invokestatic 218, 3) := by decide +kernel
theorem dX9_apart_25 : decode cX9_apart 25 = .ok (.ifCond .eq 13, 3) := by decide +kernel
theorem dX9_apart_28 : decode cX9_apart 28 = .ok (.iload 5, 2) := by decide +kernel
theorem dX9_apart_30 : decode cX9_apart 30 = .ok (.iconst 0, 1) := by decide +kernel
theorem dX9_apart_31 : decode cX9_apart 31 = .ok (.iconst 1, 1) := by decide +kernel
theorem dX9_apart_32 : decode cX9_apart 32 = .ok (.invokestatic 83, 3) := by decide +kernel
theorem dX9_apart_35 : decode cX9_apart 35 = .ok (.ifCond .ne 6, 3) := by decide +kernel
theorem dX9_apart_38 : decode cX9_apart 38 = .ok (.bipush (-2), 2) := by decide +kernel
theorem dX9_apart_40 : decode cX9_apart 40 = .ok (.ireturn, 1) := by decide +kernel
theorem dX9_apart_41 : decode cX9_apart 41 = .ok (.iconst 0, 1) := by decide +kernel
theorem dX9_apart_42 : decode cX9_apart 42 = .ok (.istore 6, 2) := by decide +kernel
theorem dX9_apart_44 : decode cX9_apart 44 = .ok (.iload 6, 2) := by decide +kernel
theorem dX9_apart_46 : decode cX9_apart 46 = .ok (.iload 4, 2) := by decide +kernel
theorem dX9_apart_48 : decode cX9_apart 48 = .ok (.if_icmp .ge 44, 3) := by decide +kernel
theorem dX9_apart_51 : decode cX9_apart 51 = .ok (.aload_n 0, 1) := by decide +kernel
theorem dX9_apart_52 : decode cX9_apart 52 = .ok (.getfield 76, 3) := by decide +kernel
theorem dX9_apart_55 : decode cX9_apart 55 = .ok (.iload 6, 2) := by decide +kernel
theorem dX9_apart_57 : decode cX9_apart 57 = .ok (.aload_n 0, 1) := by decide +kernel
theorem dX9_apart_58 : decode cX9_apart 58 = .ok (.iload_n 1, 1) := by decide +kernel
theorem dX9_apart_59 : decode cX9_apart 59 = .ok (.iload_n 3, 1) := by decide +kernel
theorem dX9_apart_60 : decode cX9_apart 60 = .ok (.iload 6, 2) := by decide +kernel
theorem dX9_apart_62 : decode cX9_apart 62 = .ok (.iadd, 1) := by decide +kernel
theorem dX9_apart_63 : decode cX9_apart 63 = .ok (.invokevirtual 221, 3) := by decide +kernel
theorem dX9_apart_66 : decode cX9_apart 66 = .ok (.iastore, 1) := by decide +kernel
theorem dX9_apart_67 : decode cX9_apart 67 = .ok (.aload_n 0, 1) := by decide +kernel
theorem dX9_apart_68 : decode cX9_apart 68 = .ok (.getfield 76, 3) := by decide +kernel
theorem dX9_apart_71 : decode cX9_apart 71 = .ok (.iload 4, 2) := by decide +kernel
theorem dX9_apart_73 : decode cX9_apart 73 = .ok (.iload 6, 2) := by decide +kernel
theorem dX9_apart_75 : decode cX9_apart 75 = .ok (.iadd, 1) := by decide +kernel
theorem dX9_apart_76 : decode cX9_apart 76 = .ok (.aload_n 0, 1) := by decide +kernel
theorem dX9_apart_77 : decode cX9_apart 77 = .ok (.iload_n 2, 1) := by decide +kernel
theorem dX9_apart_78 : decode cX9_apart 78 = .ok (.iload_n 3, 1) := by decide +kernel
theorem dX9_apart_79 : decode cX9_apart 79 = .ok (.iload 6, 2) := by decide +kernel
theorem dX9_apart_81 : decode cX9_apart 81 = .ok (.iadd, 1) := by decide +kernel
theorem dX9_apart_82 : decode cX9_apart 82 = .ok (.invokevirtual 221, 3) := by decide +kernel
theorem dX9_apart_85 : decode cX9_apart 85 = .ok (.iastore, 1) := by decide +kernel
theorem dX9_apart_86 : decode cX9_apart 86 = .ok (.iinc 6 1, 3) := by decide +kernel
theorem dX9_apart_89 : decode cX9_apart 89 = .ok (.goto (-45), 3) := by decide +kernel
theorem dX9_apart_92 : decode cX9_apart 92 = .ok (.iconst (-1), 1) := by decide +kernel
theorem dX9_apart_93 : decode cX9_apart 93 = .ok (.istore 6, 2) := by decide +kernel
theorem dX9_apart_95 : decode cX9_apart 95 = .ok (.aload_n 0, 1) := by decide +kernel
theorem dX9_apart_96 : decode cX9_apart 96 = .ok (.iconst (-1), 1) := by decide +kernel
theorem dX9_apart_97 : decode cX9_apart 97 = .ok (.iload 4, 2) := by decide +kernel
theorem dX9_apart_99 : decode cX9_apart 99 = .ok (.invokevirtual 224, 3) := by decide +kernel
theorem dX9_apart_102 : decode cX9_apart 102 = .ok (.istore 7, 2) := by decide +kernel
theorem dX9_apart_104 : decode cX9_apart 104 = .ok (.iconst 0, 1) := by decide +kernel
theorem dX9_apart_105 : decode cX9_apart 105 = .ok (.istore 8, 2) := by decide +kernel
theorem dX9_apart_107 : decode cX9_apart 107 = .ok (.iload 8, 2) := by decide +kernel
theorem dX9_apart_109 : decode cX9_apart 109 = .ok (.iconst 2, 1) := by decide +kernel
theorem dX9_apart_110 : decode cX9_apart 110 = .ok (.iload 4, 2) := by decide +kernel
theorem dX9_apart_112 : decode cX9_apart 112 = .ok (.imul, 1) := by decide +kernel
theorem dX9_apart_113 : decode cX9_apart 113 = .ok (.if_icmp .ge 63, 3) := by decide +kernel
theorem dX9_apart_116 : decode cX9_apart 116 = .ok (.aload_n 0, 1) := by decide +kernel
theorem dX9_apart_117 : decode cX9_apart 117 = .ok (.aload_n 0, 1) := by decide +kernel
theorem dX9_apart_118 : decode cX9_apart 118 = .ok (.getfield 76, 3) := by decide +kernel
theorem dX9_apart_121 : decode cX9_apart 121 = .ok (.iload 8, 2) := by decide +kernel
theorem dX9_apart_123 : decode cX9_apart 123 = .ok (.iaload, 1) := by decide +kernel
theorem dX9_apart_124 : decode cX9_apart 124 = .ok (.iload 4, 2) := by decide +kernel
theorem dX9_apart_126 : decode cX9_apart 126 = .ok (.invokevirtual 224, 3) := by decide +kernel
theorem dX9_apart_129 : decode cX9_apart 129 = .ok (.istore 9, 2) := by decide +kernel
theorem dX9_apart_131 : decode cX9_apart 131 = .ok (.iload 9, 2) := by decide +kernel
theorem dX9_apart_133 : decode cX9_apart 133 = .ok (.iload 7, 2) := by decide +kernel
theorem dX9_apart_135 : decode cX9_apart 135 = .ok (.if_icmp .gt 22, 3) := by decide +kernel
theorem dX9_apart_138 : decode cX9_apart 138 = .ok (.iload 9, 2) := by decide +kernel
theorem dX9_apart_140 : decode cX9_apart 140 = .ok (.iload 7, 2) := by decide +kernel
theorem dX9_apart_142 : decode cX9_apart 142 = .ok (.if_icmp .ne 28, 3) := by decide +kernel
theorem dX9_apart_145 : decode cX9_apart 145 = .ok (.aload_n 0, 1) := by decide +kernel
theorem dX9_apart_146 : decode cX9_apart 146 = .ok (.getfield 76, 3) := by decide +kernel
theorem dX9_apart_149 : decode cX9_apart 149 = .ok (.iload 8, 2) := by decide +kernel
theorem dX9_apart_151 : decode cX9_apart 151 = .ok (.iaload, 1) := by decide +kernel
theorem dX9_apart_152 : decode cX9_apart 152 = .ok (.iload 6, 2) := by decide +kernel
theorem dX9_apart_154 : decode cX9_apart 154 = .ok (.if_icmp .ge 16, 3) := by decide +kernel
theorem dX9_apart_157 : decode cX9_apart 157 = .ok (.aload_n 0, 1) := by decide +kernel
theorem dX9_apart_158 : decode cX9_apart 158 = .ok (.getfield 76, 3) := by decide +kernel
theorem dX9_apart_161 : decode cX9_apart 161 = .ok (.iload 8, 2) := by decide +kernel
theorem dX9_apart_163 : decode cX9_apart 163 = .ok (.iaload, 1) := by decide +kernel
theorem dX9_apart_164 : decode cX9_apart 164 = .ok (.istore 6, 2) := by decide +kernel
theorem dX9_apart_166 : decode cX9_apart 166 = .ok (.iload 9, 2) := by decide +kernel
theorem dX9_apart_168 : decode cX9_apart 168 = .ok (.istore 7, 2) := by decide +kernel
theorem dX9_apart_170 : decode cX9_apart 170 = .ok (.iinc 8 1, 3) := by decide +kernel
theorem dX9_apart_173 : decode cX9_apart 173 = .ok (.goto (-66), 3) := by decide +kernel
theorem dX9_apart_176 : decode cX9_apart 176 = .ok (.iload 5, 2) := by decide +kernel
theorem dX9_apart_178 : decode cX9_apart 178 = .ok (.ifCond .ne 8, 3) := by decide +kernel
theorem dX9_apart_181 : decode cX9_apart 181 = .ok (.iload 6, 2) := by decide +kernel
theorem dX9_apart_183 : decode cX9_apart 183 = .ok (.goto 5, 3) := by decide +kernel
theorem dX9_apart_186 : decode cX9_apart 186 = .ok (.iload 7, 2) := by decide +kernel
theorem dX9_apart_188 : decode cX9_apart 188 = .ok (.ireturn, 1) := by decide +kernel
theorem dX9_moved_0 : decode cX9_moved 0 = .ok (.iconst 0, 1) := by decide +kernel
theorem dX9_moved_1 : decode cX9_moved 1 = .ok (.istore 4, 2) := by decide +kernel
theorem dX9_moved_3 : decode cX9_moved 3 = .ok (.iconst 0, 1) := by decide +kernel
theorem dX9_moved_4 : decode cX9_moved 4 = .ok (.istore 5, 2) := by decide +kernel
theorem dX9_moved_6 : decode cX9_moved 6 = .ok (.iload 5, 2) := by decide +kernel
theorem dX9_moved_8 : decode cX9_moved 8 = .ok (.iload_n 3, 1) := by decide +kernel
theorem dX9_moved_9 : decode cX9_moved 9 = .ok (.if_icmp .ge 33, 3) := by decide +kernel
theorem dX9_moved_12 : decode cX9_moved 12 = .ok (.iload 4, 2) := by decide +kernel
theorem dX9_moved_14 : decode cX9_moved 14 = .ok (.iload_n 1, 1) := by decide +kernel
theorem dX9_moved_15 : decode cX9_moved 15 = .ok (.iload 5, 2) := by decide +kernel
theorem dX9_moved_17 : decode cX9_moved 17 = .ok (.ishr, 1) := by decide +kernel
theorem dX9_moved_18 : decode cX9_moved 18 = .ok (.iconst 1, 1) := by decide +kernel
theorem dX9_moved_19 : decode cX9_moved 19 = .ok (.iand, 1) := by decide +kernel
theorem dX9_moved_20 : decode cX9_moved 20 = .ok (.aload_n 0, 1) := by decide +kernel
theorem dX9_moved_21 : decode cX9_moved 21 = .ok (.getfield 70, 3) := by decide +kernel
theorem dX9_moved_24 : decode cX9_moved 24 = .ok (.bipush 40, 2) := by decide +kernel
theorem dX9_moved_26 : decode cX9_moved 26 = .ok (.iload_n 2, 1) := by decide +kernel
theorem dX9_moved_27 : decode cX9_moved 27 = .ok (.imul, 1) := by decide +kernel
theorem dX9_moved_28 : decode cX9_moved 28 = .ok (.iload 5, 2) := by decide +kernel
theorem dX9_moved_30 : decode cX9_moved 30 = .ok (.iadd, 1) := by decide +kernel
theorem dX9_moved_31 : decode cX9_moved 31 = .ok (.iaload, 1) := by decide +kernel
theorem dX9_moved_32 : decode cX9_moved 32 = .ok (.ishl, 1) := by decide +kernel
theorem dX9_moved_33 : decode cX9_moved 33 = .ok (.ior, 1) := by decide +kernel
theorem dX9_moved_34 : decode cX9_moved 34 = .ok (.istore 4, 2) := by decide +kernel
theorem dX9_moved_36 : decode cX9_moved 36 = .ok (.iinc 5 1, 3) := by decide +kernel
theorem dX9_moved_39 : decode cX9_moved 39 = .ok (.goto (-33), 3) := by decide +kernel
theorem dX9_moved_42 : decode cX9_moved 42 = .ok (.iload 4, 2) := by decide +kernel
theorem dX9_moved_44 : decode cX9_moved 44 = .ok (.ireturn, 1) := by decide +kernel
set_option maxRecDepth 20000 in
theorem ggX9_twin_X9_isTask : GoodIn wsX9_twin wsX9_isTask := goodIn_r _ [17, 5, 18, 19, 16, 20, 25, 26, 27, 28, 29, 30, 31, 32, 33, 34, 35, 36, 37, 38, 39, 40, 41, 42, 43, 44, 45, 46, 47, 48, 49, 50, 51, 52, 53, 54, 55, 56] (by decide +kernel) (by decide +kernel)
set_option maxRecDepth 20000 in
theorem gX9_twin_X9_isTask : GoodIn wsX9_twin (wsV RX9 162 RX9 yX9_isTask wsX9_isTask) := goodIn_app (goodIn_of _ (by decide +kernel)) ggX9_twin_X9_isTask
set_option maxRecDepth 20000 in
theorem ggX9_twin_X9_in : GoodIn wsX9_twin wsX9_in := goodIn_r _ [20] (by decide +kernel) (by decide +kernel)
set_option maxRecDepth 20000 in
theorem gX9_twin_X9_in : GoodIn wsX9_twin (va_wsS RX9 83 yX9_in wsX9_in) := goodIn_app (goodIn_of _ (by decide +kernel)) ggX9_twin_X9_in
set_option maxRecDepth 20000 in
theorem ggX9_twin_X9_moved : GoodIn wsX9_twin wsX9_moved := goodIn_r _ [24, 4, 25, 26, 27, 28, 29, 30, 31, 32, 33, 34, 35, 36, 37, 38, 39, 40, 41, 42, 43, 44, 45, 46, 47, 48, 49, 50, 51, 52, 53, 54, 55, 56] (by decide +kernel) (by decide +kernel)
set_option maxRecDepth 20000 in
theorem gX9_twin_X9_moved : GoodIn wsX9_twin (wsV RX9 227 RX9 yX9_moved wsX9_moved) := goodIn_app (goodIn_of _ (by decide +kernel)) ggX9_twin_X9_moved
theorem dX9_twin_0 : decode cX9_twin 0 = .ok (.aload_n 0, 1) := by decide +kernel
theorem dX9_twin_1 : decode cX9_twin 1 = .ok (.iload_n 1, 1) := by decide +kernel
theorem dX9_twin_2 : decode cX9_twin 2 = .ok (.invokevirtual 162, 3) := by decide +kernel
theorem dX9_twin_5 : decode cX9_twin 5 = .ok (.ifCond .eq 12, 3) := by decide +kernel
theorem dX9_twin_8 : decode cX9_twin 8 = .ok (.iload_n 2, 1) := by decide +kernel
theorem dX9_twin_9 : decode cX9_twin 9 = .ok (.iconst 0, 1) := by decide +kernel
theorem dX9_twin_10 : decode cX9_twin 10 = .ok (.iconst 3, 1) := by decide +kernel
theorem dX9_twin_11 : decode cX9_twin 11 = .ok (.invokestatic 83, 3) := by decide +kernel
theorem dX9_twin_14 : decode cX9_twin 14 = .ok (.ifCond .ne 5, 3) := by decide +kernel
theorem dX9_twin_17 : decode cX9_twin 17 = .ok (.iconst (-1), 1) := by decide +kernel
theorem dX9_twin_18 : decode cX9_twin 18 = .ok (.ireturn, 1) := by decide +kernel
theorem dX9_twin_19 : decode cX9_twin 19 = .ok (.aload_n 0, 1) := by decide +kernel
theorem dX9_twin_20 : decode cX9_twin 20 = .ok (.getfield 64, 3) := by decide +kernel
theorem dX9_twin_23 : decode cX9_twin 23 = .ok (.iload_n 2, 1) := by decide +kernel
theorem dX9_twin_24 : decode cX9_twin 24 = .ok (.iaload, 1) := by decide +kernel
theorem dX9_twin_25 : decode cX9_twin 25 = .ok (.iconst (-1), 1) := by decide +kernel
theorem dX9_twin_26 : decode cX9_twin 26 = .ok (.if_icmp .ne 6, 3) := by decide +kernel
theorem dX9_twin_29 : decode cX9_twin 29 = .ok (.bipush (-11), 2) := by decide +kernel
theorem dX9_twin_31 : decode cX9_twin 31 = .ok (.ireturn, 1) := by decide +kernel
theorem dX9_twin_32 : decode cX9_twin 32 = .ok (.aload_n 0, 1) := by decide +kernel
theorem dX9_twin_33 : decode cX9_twin 33 = .ok (.getfield 31, 3) := by decide +kernel
theorem dX9_twin_36 : decode cX9_twin 36 = .ok (.iload_n 1, 1) := by decide +kernel
theorem dX9_twin_37 : decode cX9_twin 37 = .ok (.iaload, 1) := by decide +kernel
theorem dX9_twin_38 : decode cX9_twin 38 = .ok (.istore 4, 2) := by decide +kernel
theorem dX9_twin_40 : decode cX9_twin 40 = .ok (.aload_n 0, 1) := by decide +kernel
theorem dX9_twin_41 : decode cX9_twin 41 = .ok (.getfield 67, 3) := by decide +kernel
theorem dX9_twin_44 : decode cX9_twin 44 = .ok (.iload_n 2, 1) := by decide +kernel
theorem dX9_twin_45 : decode cX9_twin 45 = .ok (.iaload, 1) := by decide +kernel
theorem dX9_twin_46 : decode cX9_twin 46 = .ok (.iload 4, 2) := by decide +kernel
theorem dX9_twin_48 : decode cX9_twin 48 = .ok (.if_icmp .ne 21, 3) := by decide +kernel
theorem dX9_twin_51 : decode cX9_twin 51 = .ok (.iload_n 3, 1) := by decide +kernel
theorem dX9_twin_52 : decode cX9_twin 52 = .ok (.iconst 0, 1) := by decide +kernel
theorem dX9_twin_53 : decode cX9_twin 53 = .ok (.iconst 1, 1) := by decide +kernel
theorem dX9_twin_54 : decode cX9_twin 54 = .ok (.iload 4, 2) := by decide +kernel
theorem dX9_twin_56 : decode cX9_twin 56 = .ok (.ishl, 1) := by decide +kernel
theorem dX9_twin_57 : decode cX9_twin 57 = .ok (.iconst 1, 1) := by decide +kernel
theorem dX9_twin_58 : decode cX9_twin 58 = .ok (.isub, 1) := by decide +kernel
theorem dX9_twin_59 : decode cX9_twin 59 = .ok (.invokestatic 83, 3) := by decide +kernel
theorem dX9_twin_62 : decode cX9_twin 62 = .ok (.ifCond .eq 7, 3) := by decide +kernel
theorem dX9_twin_65 : decode cX9_twin 65 = .ok (.iconst 1, 1) := by decide +kernel
theorem dX9_twin_66 : decode cX9_twin 66 = .ok (.goto 4, 3) := by decide +kernel
theorem dX9_twin_69 : decode cX9_twin 69 = .ok (.iconst 0, 1) := by decide +kernel
theorem dX9_twin_70 : decode cX9_twin 70 = .ok (.istore 5, 2) := by decide +kernel
theorem dX9_twin_72 : decode cX9_twin 72 = .ok (.iconst 0, 1) := by decide +kernel
theorem dX9_twin_73 : decode cX9_twin 73 = .ok (.istore 6, 2) := by decide +kernel
theorem dX9_twin_75 : decode cX9_twin 75 = .ok (.iconst 0, 1) := by decide +kernel
theorem dX9_twin_76 : decode cX9_twin 76 = .ok (.istore 7, 2) := by decide +kernel
theorem dX9_twin_78 : decode cX9_twin 78 = .ok (.iload 7, 2) := by decide +kernel
theorem dX9_twin_80 : decode cX9_twin 80 = .ok (.iload 4, 2) := by decide +kernel
theorem dX9_twin_82 : decode cX9_twin 82 = .ok (.if_icmp .ge 93, 3) := by decide +kernel
theorem dX9_twin_85 : decode cX9_twin 85 = .ok (.iload 5, 2) := by decide +kernel
theorem dX9_twin_87 : decode cX9_twin 87 = .ok (.ifCond .eq 88, 3) := by decide +kernel
theorem dX9_twin_90 : decode cX9_twin 90 = .ok (.aload_n 0, 1) := by decide +kernel
theorem dX9_twin_91 : decode cX9_twin 91 = .ok (.getfield 70, 3) := by decide +kernel
theorem dX9_twin_94 : decode cX9_twin 94 = .ok (.bipush 40, 2) := by decide +kernel
theorem dX9_twin_96 : decode cX9_twin 96 = .ok (.iload_n 2, 1) := by decide +kernel
theorem dX9_twin_97 : decode cX9_twin 97 = .ok (.imul, 1) := by decide +kernel
theorem dX9_twin_98 : decode cX9_twin 98 = .ok (.iload 7, 2) := by decide +kernel
theorem dX9_twin_100 : decode cX9_twin 100 = .ok (.iadd, 1) := by decide +kernel
theorem dX9_twin_101 : decode cX9_twin 101 = .ok (.iaload, 1) := by decide +kernel
theorem dX9_twin_102 : decode cX9_twin 102 = .ok (.istore 8, 2) := by decide +kernel
theorem dX9_twin_104 : decode cX9_twin 104 = .ok (.iload 8, 2) := by decide +kernel
theorem dX9_twin_106 : decode cX9_twin 106 = .ok (.iconst 0, 1) := by decide +kernel
theorem dX9_twin_107 : decode cX9_twin 107 = .ok (.iload 4, 2) := by decide +kernel
theorem dX9_twin_109 : decode cX9_twin 109 = .ok (.iconst 1, 1) := by decide +kernel
theorem dX9_twin_110 : decode cX9_twin 110 = .ok (.isub, 1) := by decide +kernel
theorem dX9_twin_111 : decode cX9_twin 111 = .ok (.invokestatic 83, 3) := by decide +kernel
theorem dX9_twin_114 : decode cX9_twin 114 = .ok (.ifCond .eq 34, 3) := by decide +kernel
theorem dX9_twin_117 : decode cX9_twin 117 = .ok (.iload 6, 2) := by decide +kernel
theorem dX9_twin_119 : decode cX9_twin 119 = .ok (.iload 8, 2) := by decide +kernel
theorem dX9_twin_121 : decode cX9_twin 121 = .ok (.iconst 0, 1) := by decide +kernel
theorem dX9_twin_122 : decode cX9_twin 122 = .ok (.iload 4, 2) := by decide +kernel
theorem dX9_twin_124 : decode cX9_twin 124 = .ok (.iconst 1, 1) := by decide +kernel
theorem dX9_twin_125 : decode cX9_twin 125 = .ok (.isub, 1) := by decide +kernel
theorem dX9_twin_126 : decode cX9_twin 126 = .ok (.invokestatic 83, 3) := by decide +kernel
theorem dX9_twin_129 : decode cX9_twin 129 = .ok (.ifCond .eq 8, 3) := by decide +kernel
theorem dX9_twin_132 : decode cX9_twin 132 = .ok (.iload 8, 2) := by decide +kernel
theorem dX9_twin_134 : decode cX9_twin 134 = .ok (.goto 4, 3) := by decide +kernel
theorem dX9_twin_137 : decode cX9_twin 137 = .ok (.iconst 0, 1) := by decide +kernel
theorem dX9_twin_138 : decode cX9_twin 138 = .ok (.ishr, 1) := by decide +kernel
theorem dX9_twin_139 : decode cX9_twin 139 = .ok (.iconst 1, 1) := by decide +kernel
theorem dX9_twin_140 : decode cX9_twin 140 = .ok (.iand, 1) := by decide +kernel
theorem dX9_twin_141 : decode cX9_twin 141 = .ok (.ifCond .ne 7, 3) := by decide +kernel
theorem dX9_twin_144 : decode cX9_twin 144 = .ok (.iconst 1, 1) := by decide +kernel
theorem dX9_twin_145 : decode cX9_twin 145 = .ok (.goto 4, 3) := by decide +kernel
theorem dX9_twin_148 : decode cX9_twin 148 = .ok (.iconst 0, 1) := by decide +kernel
theorem dX9_twin_149 : decode cX9_twin 149 = .ok (.istore 5, 2) := by decide +kernel
theorem dX9_twin_151 : decode cX9_twin 151 = .ok (.iload 6, 2) := by decide +kernel
theorem dX9_twin_153 : decode cX9_twin 153 = .ok (.iload 5, 2) := by decide +kernel
theorem dX9_twin_155 : decode cX9_twin 155 = .ok (.ifCond .eq 10, 3) := by decide +kernel
theorem dX9_twin_158 : decode cX9_twin 158 = .ok (.iconst 1, 1) := by decide +kernel
theorem dX9_twin_159 : decode cX9_twin 159 = .ok (.iload 8, 2) := by decide +kernel
theorem dX9_twin_161 : decode cX9_twin 161 = .ok (.ishl, 1) := by decide +kernel
theorem dX9_twin_162 : decode cX9_twin 162 = .ok (.goto 4, 3) := by decide +kernel
theorem dX9_twin_165 : decode cX9_twin 165 = .ok (.iconst 0, 1) := by decide +kernel
theorem dX9_twin_166 : decode cX9_twin 166 = .ok (.ior, 1) := by decide +kernel
theorem dX9_twin_167 : decode cX9_twin 167 = .ok (.istore 6, 2) := by decide +kernel
theorem dX9_twin_169 : decode cX9_twin 169 = .ok (.iinc 7 1, 3) := by decide +kernel
theorem dX9_twin_172 : decode cX9_twin 172 = .ok (.goto (-94), 3) := by decide +kernel
theorem dX9_twin_175 : decode cX9_twin 175 = .ok (.iload 5, 2) := by decide +kernel
theorem dX9_twin_177 : decode cX9_twin 177 = .ok (.ifCond .ne 6, 3) := by decide +kernel
theorem dX9_twin_180 : decode cX9_twin 180 = .ok (.bipush (-2), 2) := by decide +kernel
theorem dX9_twin_182 : decode cX9_twin 182 = .ok (.ireturn, 1) := by decide +kernel
theorem dX9_twin_183 : decode cX9_twin 183 = .ok (.aload_n 0, 1) := by decide +kernel
theorem dX9_twin_184 : decode cX9_twin 184 = .ok (.getfield 152, 3) := by decide +kernel
theorem dX9_twin_187 : decode cX9_twin 187 = .ok (.bipush 8, 2) := by decide +kernel
theorem dX9_twin_189 : decode cX9_twin 189 = .ok (.if_icmp .ne 6, 3) := by decide +kernel
theorem dX9_twin_192 : decode cX9_twin 192 = .ok (.bipush (-4), 2) := by decide +kernel
theorem dX9_twin_194 : decode cX9_twin 194 = .ok (.ireturn, 1) := by decide +kernel
theorem dX9_twin_195 : decode cX9_twin 195 = .ok (.aload_n 0, 1) := by decide +kernel
theorem dX9_twin_196 : decode cX9_twin 196 = .ok (.getfield 152, 3) := by decide +kernel
theorem dX9_twin_199 : decode cX9_twin 199 = .ok (.istore 7, 2) := by decide +kernel
theorem dX9_twin_201 : decode cX9_twin 201 = .ok (.aload_n 0, 1) := by decide +kernel
theorem dX9_twin_202 : decode cX9_twin 202 = .ok (.getfield 28, 3) := by decide +kernel
theorem dX9_twin_205 : decode cX9_twin 205 = .ok (.iload 7, 2) := by decide +kernel
theorem dX9_twin_207 : decode cX9_twin 207 = .ok (.aload_n 0, 1) := by decide +kernel
theorem dX9_twin_208 : decode cX9_twin 208 = .ok (.getfield 28, 3) := by decide +kernel
theorem dX9_twin_211 : decode cX9_twin 211 = .ok (.iload_n 1, 1) := by decide +kernel
theorem dX9_twin_212 : decode cX9_twin 212 = .ok (.iaload, 1) := by decide +kernel
theorem dX9_twin_213 : decode cX9_twin 213 = .ok (.iastore, 1) := by decide +kernel
theorem dX9_twin_214 : decode cX9_twin 214 = .ok (.aload_n 0, 1) := by decide +kernel
theorem dX9_twin_215 : decode cX9_twin 215 = .ok (.getfield 31, 3) := by decide +kernel
theorem dX9_twin_218 : decode cX9_twin 218 = .ok (.iload 7, 2) := by decide +kernel
theorem dX9_twin_220 : decode cX9_twin 220 = .ok (.iload 4, 2) := by decide +kernel
theorem dX9_twin_222 : decode cX9_twin 222 = .ok (.iastore, 1) := by decide +kernel
theorem dX9_twin_223 : decode cX9_twin 223 = .ok (.aload_n 0, 1) := by decide +kernel
theorem dX9_twin_224 : decode cX9_twin 224 = .ok (.getfield 34, 3) := by decide +kernel
theorem dX9_twin_227 : decode cX9_twin 227 = .ok (.iload 7, 2) := by decide +kernel
theorem dX9_twin_229 : decode cX9_twin 229 = .ok (.aload_n 0, 1) := by decide +kernel
theorem dX9_twin_230 : decode cX9_twin 230 = .ok (.getfield 34, 3) := by decide +kernel
theorem dX9_twin_233 : decode cX9_twin 233 = .ok (.iload_n 1, 1) := by decide +kernel
theorem dX9_twin_234 : decode cX9_twin 234 = .ok (.iaload, 1) := by decide +kernel
theorem dX9_twin_235 : decode cX9_twin 235 = .ok (.iastore, 1) := by decide +kernel
theorem dX9_twin_236 : decode cX9_twin 236 = .ok (.aload_n 0, 1) := by decide +kernel
theorem dX9_twin_237 : decode cX9_twin 237 = .ok (.getfield 37, 3) := by decide +kernel
theorem dX9_twin_240 : decode cX9_twin 240 = .ok (.iload 7, 2) := by decide +kernel
theorem dX9_twin_242 : decode cX9_twin 242 = .ok (.aload_n 0, 1) := by decide +kernel
theorem dX9_twin_243 : decode cX9_twin 243 = .ok (.getfield 37, 3) := by decide +kernel
theorem dX9_twin_246 : decode cX9_twin 246 = .ok (.iload_n 1, 1) := by decide +kernel
theorem dX9_twin_247 : decode cX9_twin 247 = .ok (.iaload, 1) := by decide +kernel
theorem dX9_twin_248 : decode cX9_twin 248 = .ok (.iconst (-1), 1) := by decide +kernel
theorem dX9_twin_249 : decode cX9_twin 249 = .ok (.if_icmp .ne 7, 3) := by decide +kernel
theorem dX9_twin_252 : decode cX9_twin 252 = .ok (.iconst (-1), 1) := by decide +kernel
theorem dX9_twin_253 : decode cX9_twin 253 = .ok (.goto 18, 3) := by decide +kernel
theorem dX9_twin_256 : decode cX9_twin 256 = .ok (.aload_n 0, 1) := by decide +kernel
theorem dX9_twin_257 : decode cX9_twin 257 = .ok (.aload_n 0, 1) := by decide +kernel
theorem dX9_twin_258 : decode cX9_twin 258 = .ok (.getfield 37, 3) := by decide +kernel
theorem dX9_twin_261 : decode cX9_twin 261 = .ok (.iload_n 1, 1) := by decide +kernel
theorem dX9_twin_262 : decode cX9_twin 262 = .ok (.iaload, 1) := by decide +kernel
theorem dX9_twin_263 : decode cX9_twin 263 = .ok (.iload_n 2, 1) := by decide +kernel
theorem dX9_twin_264 : decode cX9_twin 264 = .ok (.iload 4, 2) := by decide +kernel
theorem dX9_twin_266 : decode cX9_twin 266 = .ok (.invokevirtual 227, 3) := by decide +kernel
theorem dX9_twin_269 : decode cX9_twin 269 = .ok (.iload_n 3, 1) := by decide +kernel
theorem dX9_twin_270 : decode cX9_twin 270 = .ok (.ixor, 1) := by decide +kernel
theorem dX9_twin_271 : decode cX9_twin 271 = .ok (.iastore, 1) := by decide +kernel
theorem dX9_twin_272 : decode cX9_twin 272 = .ok (.aload_n 0, 1) := by decide +kernel
theorem dX9_twin_273 : decode cX9_twin 273 = .ok (.getfield 40, 3) := by decide +kernel
theorem dX9_twin_276 : decode cX9_twin 276 = .ok (.iload 7, 2) := by decide +kernel
theorem dX9_twin_278 : decode cX9_twin 278 = .ok (.iconst (-1), 1) := by decide +kernel
theorem dX9_twin_279 : decode cX9_twin 279 = .ok (.iastore, 1) := by decide +kernel
theorem dX9_twin_280 : decode cX9_twin 280 = .ok (.aload_n 0, 1) := by decide +kernel
theorem dX9_twin_281 : decode cX9_twin 281 = .ok (.getfield 43, 3) := by decide +kernel
theorem dX9_twin_284 : decode cX9_twin 284 = .ok (.iload 7, 2) := by decide +kernel
theorem dX9_twin_286 : decode cX9_twin 286 = .ok (.iconst (-1), 1) := by decide +kernel
theorem dX9_twin_287 : decode cX9_twin 287 = .ok (.iastore, 1) := by decide +kernel
theorem dX9_twin_288 : decode cX9_twin 288 = .ok (.iconst 0, 1) := by decide +kernel
theorem dX9_twin_289 : decode cX9_twin 289 = .ok (.istore 8, 2) := by decide +kernel
theorem dX9_twin_291 : decode cX9_twin 291 = .ok (.iload 8, 2) := by decide +kernel
theorem dX9_twin_293 : decode cX9_twin 293 = .ok (.aload_n 0, 1) := by decide +kernel
theorem dX9_twin_294 : decode cX9_twin 294 = .ok (.getfield 34, 3) := by decide +kernel
theorem dX9_twin_297 : decode cX9_twin 297 = .ok (.iload_n 1, 1) := by decide +kernel
theorem dX9_twin_298 : decode cX9_twin 298 = .ok (.iaload, 1) := by decide +kernel
theorem dX9_twin_299 : decode cX9_twin 299 = .ok (.if_icmp .ge 99, 3) := by decide +kernel
theorem dX9_twin_302 : decode cX9_twin 302 = .ok (.aload_n 0, 1) := by decide +kernel
theorem dX9_twin_303 : decode cX9_twin 303 = .ok (.aload_n 0, 1) := by decide +kernel
theorem dX9_twin_304 : decode cX9_twin 304 = .ok (.getfield 46, 3) := by decide +kernel
theorem dX9_twin_307 : decode cX9_twin 307 = .ok (.bipush 24, 2) := by decide +kernel
theorem dX9_twin_309 : decode cX9_twin 309 = .ok (.iload_n 1, 1) := by decide +kernel
theorem dX9_twin_310 : decode cX9_twin 310 = .ok (.imul, 1) := by decide +kernel
theorem dX9_twin_311 : decode cX9_twin 311 = .ok (.iload 8, 2) := by decide +kernel
theorem dX9_twin_313 : decode cX9_twin 313 = .ok (.iadd, 1) := by decide +kernel
theorem dX9_twin_314 : decode cX9_twin 314 = .ok (.iaload, 1) := by decide +kernel
theorem dX9_twin_315 : decode cX9_twin 315 = .ok (.iload_n 2, 1) := by decide +kernel
theorem dX9_twin_316 : decode cX9_twin 316 = .ok (.iload 4, 2) := by decide +kernel
theorem dX9_twin_318 : decode cX9_twin 318 = .ok (.invokevirtual 227, 3) := by decide +kernel
theorem dX9_twin_321 : decode cX9_twin 321 = .ok (.istore 9, 2) := by decide +kernel
theorem dX9_twin_323 : decode cX9_twin 323 = .ok (.aload_n 0, 1) := by decide +kernel
theorem dX9_twin_324 : decode cX9_twin 324 = .ok (.aload_n 0, 1) := by decide +kernel
theorem dX9_twin_325 : decode cX9_twin 325 = .ok (.getfield 49, 3) := by decide +kernel
theorem dX9_twin_328 : decode cX9_twin 328 = .ok (.bipush 24, 2) := by decide +kernel
theorem dX9_twin_330 : decode cX9_twin 330 = .ok (.iload_n 1, 1) := by decide +kernel
theorem dX9_twin_331 : decode cX9_twin 331 = .ok (.imul, 1) := by decide +kernel
theorem dX9_twin_332 : decode cX9_twin 332 = .ok (.iload 8, 2) := by decide +kernel
theorem dX9_twin_334 : decode cX9_twin 334 = .ok (.iadd, 1) := by decide +kernel
theorem dX9_twin_335 : decode cX9_twin 335 = .ok (.iaload, 1) := by decide +kernel
theorem dX9_twin_336 : decode cX9_twin 336 = .ok (.iload_n 2, 1) := by decide +kernel
theorem dX9_twin_337 : decode cX9_twin 337 = .ok (.iload 4, 2) := by decide +kernel
theorem dX9_twin_339 : decode cX9_twin 339 = .ok (.invokevirtual 227, 3) := by decide +kernel
theorem dX9_twin_342 : decode cX9_twin 342 = .ok (.istore 10, 2) := by decide +kernel
theorem dX9_twin_344 : decode cX9_twin 344 = .ok (.aload_n 0, 1) := by decide +kernel
theorem dX9_twin_345 : decode cX9_twin 345 = .ok (.getfield 46, 3) := by decide +kernel
theorem dX9_twin_348 : decode cX9_twin 348 = .ok (.bipush 24, 2) := by decide +kernel
theorem dX9_twin_350 : decode cX9_twin 350 = .ok (.iload 7, 2) := by decide +kernel
theorem dX9_twin_352 : decode cX9_twin 352 = .ok (.imul, 1) := by decide +kernel
theorem dX9_twin_353 : decode cX9_twin 353 = .ok (.iload 8, 2) := by decide +kernel
theorem dX9_twin_355 : decode cX9_twin 355 = .ok (.iadd, 1) := by decide +kernel
theorem dX9_twin_356 : decode cX9_twin 356 = .ok (.iload 9, 2) := by decide +kernel
theorem dX9_twin_358 : decode cX9_twin 358 = .ok (.iload_n 3, 1) := by decide +kernel
theorem dX9_twin_359 : decode cX9_twin 359 = .ok (.iconst (-1), 1) := by decide +kernel
theorem dX9_twin_360 : decode cX9_twin 360 = .ok (.ixor, 1) := by decide +kernel
theorem dX9_twin_361 : decode cX9_twin 361 = .ok (.iand, 1) := by decide +kernel
theorem dX9_twin_362 : decode cX9_twin 362 = .ok (.iload 10, 2) := by decide +kernel
theorem dX9_twin_364 : decode cX9_twin 364 = .ok (.iload_n 3, 1) := by decide +kernel
theorem dX9_twin_365 : decode cX9_twin 365 = .ok (.iand, 1) := by decide +kernel
theorem dX9_twin_366 : decode cX9_twin 366 = .ok (.ior, 1) := by decide +kernel
theorem dX9_twin_367 : decode cX9_twin 367 = .ok (.iastore, 1) := by decide +kernel
theorem dX9_twin_368 : decode cX9_twin 368 = .ok (.aload_n 0, 1) := by decide +kernel
theorem dX9_twin_369 : decode cX9_twin 369 = .ok (.getfield 49, 3) := by decide +kernel
theorem dX9_twin_372 : decode cX9_twin 372 = .ok (.bipush 24, 2) := by decide +kernel
theorem dX9_twin_374 : decode cX9_twin 374 = .ok (.iload 7, 2) := by decide +kernel
theorem dX9_twin_376 : decode cX9_twin 376 = .ok (.imul, 1) := by decide +kernel
theorem dX9_twin_377 : decode cX9_twin 377 = .ok (.iload 8, 2) := by decide +kernel
theorem dX9_twin_379 : decode cX9_twin 379 = .ok (.iadd, 1) := by decide +kernel
theorem dX9_twin_380 : decode cX9_twin 380 = .ok (.iload 10, 2) := by decide +kernel
theorem dX9_twin_382 : decode cX9_twin 382 = .ok (.iload_n 3, 1) := by decide +kernel
theorem dX9_twin_383 : decode cX9_twin 383 = .ok (.iconst (-1), 1) := by decide +kernel
theorem dX9_twin_384 : decode cX9_twin 384 = .ok (.ixor, 1) := by decide +kernel
theorem dX9_twin_385 : decode cX9_twin 385 = .ok (.iand, 1) := by decide +kernel
theorem dX9_twin_386 : decode cX9_twin 386 = .ok (.iload 9, 2) := by decide +kernel
theorem dX9_twin_388 : decode cX9_twin 388 = .ok (.iload_n 3, 1) := by decide +kernel
theorem dX9_twin_389 : decode cX9_twin 389 = .ok (.iand, 1) := by decide +kernel
theorem dX9_twin_390 : decode cX9_twin 390 = .ok (.ior, 1) := by decide +kernel
theorem dX9_twin_391 : decode cX9_twin 391 = .ok (.iastore, 1) := by decide +kernel
theorem dX9_twin_392 : decode cX9_twin 392 = .ok (.iinc 8 1, 3) := by decide +kernel
theorem dX9_twin_395 : decode cX9_twin 395 = .ok (.goto (-104), 3) := by decide +kernel
theorem dX9_twin_398 : decode cX9_twin 398 = .ok (.aload_n 0, 1) := by decide +kernel
theorem dX9_twin_399 : decode cX9_twin 399 = .ok (.dup, 1) := by decide +kernel
theorem dX9_twin_400 : decode cX9_twin 400 = .ok (.getfield 152, 3) := by decide +kernel
theorem dX9_twin_403 : decode cX9_twin 403 = .ok (.iconst 1, 1) := by decide +kernel
theorem dX9_twin_404 : decode cX9_twin 404 = .ok (.iadd, 1) := by decide +kernel
theorem dX9_twin_405 : decode cX9_twin 405 = .ok (.putfield 152, 3) := by decide +kernel
theorem dX9_twin_408 : decode cX9_twin 408 = .ok (.iload 7, 2) := by decide +kernel
theorem dX9_twin_410 : decode cX9_twin 410 = .ok (.ireturn, 1) := by decide +kernel
set_option maxRecDepth 20000 in
theorem ggX9_claim_X9_isTask : GoodIn wsX9_claim wsX9_isTask := goodIn_r _ [10, 11, 12, 13, 9, 14, 15, 16, 17, 18, 19, 20, 21, 22, 23, 24, 25, 26, 27, 28, 29, 30, 31, 32, 33, 34, 35, 36, 37, 38, 39, 40, 41, 42, 43, 44, 45, 46] (by decide +kernel) (by decide +kernel)
set_option maxRecDepth 20000 in
theorem gX9_claim_X9_isTask : GoodIn wsX9_claim (wsV RX9 162 RX9 yX9_isTask wsX9_isTask) := goodIn_app (goodIn_of _ (by decide +kernel)) ggX9_claim_X9_isTask
set_option maxRecDepth 20000 in
theorem ggX9_claim_X9_in : GoodIn wsX9_claim wsX9_in := goodIn_r _ [14] (by decide +kernel) (by decide +kernel)
set_option maxRecDepth 20000 in
theorem gX9_claim_X9_in : GoodIn wsX9_claim (va_wsS RX9 83 yX9_in wsX9_in) := goodIn_app (goodIn_of _ (by decide +kernel)) ggX9_claim_X9_in
theorem dX9_claim_0 : decode cX9_claim 0 = .ok (.aload_n 0, 1) := by decide +kernel
theorem dX9_claim_1 : decode cX9_claim 1 = .ok (.iload_n 1, 1) := by decide +kernel
theorem dX9_claim_2 : decode cX9_claim 2 = .ok (.invokevirtual 162, 3) := by decide +kernel
theorem dX9_claim_5 : decode cX9_claim 5 = .ok (.ifCond .ne 5, 3) := by decide +kernel
theorem dX9_claim_8 : decode cX9_claim 8 = .ok (.iconst (-1), 1) := by decide +kernel
theorem dX9_claim_9 : decode cX9_claim 9 = .ok (.ireturn, 1) := by decide +kernel
theorem dX9_claim_10 : decode cX9_claim 10 = .ok (.iload_n 2, 1) := by decide +kernel
theorem dX9_claim_11 : decode cX9_claim 11 = .ok (.iconst 1, 1) := by decide +kernel
theorem dX9_claim_12 : decode cX9_claim 12 = .ok (.sipush 2000, 3) := by decide +kernel
theorem dX9_claim_15 : decode cX9_claim 15 = .ok (.invokestatic 83, 3) := by decide +kernel
theorem dX9_claim_18 : decode cX9_claim 18 = .ok (.ifCond .ne 6, 3) := by decide +kernel
theorem dX9_claim_21 : decode cX9_claim 21 = .ok (.bipush (-2), 2) := by decide +kernel
theorem dX9_claim_23 : decode cX9_claim 23 = .ok (.ireturn, 1) := by decide +kernel
theorem dX9_claim_24 : decode cX9_claim 24 = .ok (.aload_n 0, 1) := by decide +kernel
theorem dX9_claim_25 : decode cX9_claim 25 = .ok (.getfield 230, 3) := by decide +kernel
theorem dX9_claim_28 : decode cX9_claim 28 = .ok (.bipush 20, 2) := by decide +kernel
theorem dX9_claim_30 : decode cX9_claim 30 = .ok (.if_icmp .ne 6, 3) := by decide +kernel
theorem dX9_claim_33 : decode cX9_claim 33 = .ok (.bipush (-4), 2) := by decide +kernel
theorem dX9_claim_35 : decode cX9_claim 35 = .ok (.ireturn, 1) := by decide +kernel
theorem dX9_claim_36 : decode cX9_claim 36 = .ok (.aload_n 0, 1) := by decide +kernel
theorem dX9_claim_37 : decode cX9_claim 37 = .ok (.getfield 52, 3) := by decide +kernel
theorem dX9_claim_40 : decode cX9_claim 40 = .ok (.aload_n 0, 1) := by decide +kernel
theorem dX9_claim_41 : decode cX9_claim 41 = .ok (.getfield 230, 3) := by decide +kernel
theorem dX9_claim_44 : decode cX9_claim 44 = .ok (.iload_n 1, 1) := by decide +kernel
theorem dX9_claim_45 : decode cX9_claim 45 = .ok (.iastore, 1) := by decide +kernel
theorem dX9_claim_46 : decode cX9_claim 46 = .ok (.aload_n 0, 1) := by decide +kernel
theorem dX9_claim_47 : decode cX9_claim 47 = .ok (.getfield 55, 3) := by decide +kernel
theorem dX9_claim_50 : decode cX9_claim 50 = .ok (.aload_n 0, 1) := by decide +kernel
theorem dX9_claim_51 : decode cX9_claim 51 = .ok (.getfield 230, 3) := by decide +kernel
theorem dX9_claim_54 : decode cX9_claim 54 = .ok (.iload_n 2, 1) := by decide +kernel
theorem dX9_claim_55 : decode cX9_claim 55 = .ok (.iastore, 1) := by decide +kernel
theorem dX9_claim_56 : decode cX9_claim 56 = .ok (.aload_n 0, 1) := by decide +kernel
theorem dX9_claim_57 : decode cX9_claim 57 = .ok (.getfield 58, 3) := by decide +kernel
theorem dX9_claim_60 : decode cX9_claim 60 = .ok (.aload_n 0, 1) := by decide +kernel
theorem dX9_claim_61 : decode cX9_claim 61 = .ok (.getfield 230, 3) := by decide +kernel
theorem dX9_claim_64 : decode cX9_claim 64 = .ok (.iconst 0, 1) := by decide +kernel
theorem dX9_claim_65 : decode cX9_claim 65 = .ok (.iastore, 1) := by decide +kernel
theorem dX9_claim_66 : decode cX9_claim 66 = .ok (.aload_n 0, 1) := by decide +kernel
theorem dX9_claim_67 : decode cX9_claim 67 = .ok (.getfield 61, 3) := by decide +kernel
theorem dX9_claim_70 : decode cX9_claim 70 = .ok (.aload_n 0, 1) := by decide +kernel
theorem dX9_claim_71 : decode cX9_claim 71 = .ok (.getfield 230, 3) := by decide +kernel
theorem dX9_claim_74 : decode cX9_claim 74 = .ok (.iconst (-1), 1) := by decide +kernel
theorem dX9_claim_75 : decode cX9_claim 75 = .ok (.iastore, 1) := by decide +kernel
theorem dX9_claim_76 : decode cX9_claim 76 = .ok (.aload_n 0, 1) := by decide +kernel
theorem dX9_claim_77 : decode cX9_claim 77 = .ok (.dup, 1) := by decide +kernel
theorem dX9_claim_78 : decode cX9_claim 78 = .ok (.getfield 230, 3) := by decide +kernel
theorem dX9_claim_81 : decode cX9_claim 81 = .ok (.iconst 1, 1) := by decide +kernel
theorem dX9_claim_82 : decode cX9_claim 82 = .ok (.iadd, 1) := by decide +kernel
theorem dX9_claim_83 : decode cX9_claim 83 = .ok (.putfield 230, 3) := by decide +kernel
theorem dX9_claim_86 : decode cX9_claim 86 = .ok (.aload_n 0, 1) := by decide +kernel
theorem dX9_claim_87 : decode cX9_claim 87 = .ok (.getfield 230, 3) := by decide +kernel
theorem dX9_claim_90 : decode cX9_claim 90 = .ok (.iconst 1, 1) := by decide +kernel
theorem dX9_claim_91 : decode cX9_claim 91 = .ok (.isub, 1) := by decide +kernel
theorem dX9_claim_92 : decode cX9_claim 92 = .ok (.ireturn, 1) := by decide +kernel
set_option maxRecDepth 20000 in
theorem ggX9_isClaim_X9_in : GoodIn wsX9_isClaim wsX9_in := goodIn_r _ [5] (by decide +kernel) (by decide +kernel)
set_option maxRecDepth 20000 in
theorem gX9_isClaim_X9_in : GoodIn wsX9_isClaim (va_wsS RX9 83 yX9_in wsX9_in) := goodIn_app (goodIn_of _ (by decide +kernel)) ggX9_isClaim_X9_in
theorem dX9_isClaim_0 : decode cX9_isClaim 0 = .ok (.iload_n 1, 1) := by decide +kernel
theorem dX9_isClaim_1 : decode cX9_isClaim 1 = .ok (.iconst 0, 1) := by decide +kernel
theorem dX9_isClaim_2 : decode cX9_isClaim 2 = .ok (.aload_n 0, 1) := by decide +kernel
theorem dX9_isClaim_3 : decode cX9_isClaim 3 = .ok (.getfield 230, 3) := by decide +kernel
theorem dX9_isClaim_6 : decode cX9_isClaim 6 = .ok (.iconst 1, 1) := by decide +kernel
theorem dX9_isClaim_7 : decode cX9_isClaim 7 = .ok (.isub, 1) := by decide +kernel
theorem dX9_isClaim_8 : decode cX9_isClaim 8 = .ok (.invokestatic 83, 3) := by decide +kernel
theorem dX9_isClaim_11 : decode cX9_isClaim 11 = .ok (.ireturn, 1) := by decide +kernel
set_option maxRecDepth 20000 in
theorem ggX9_tries_X9_isClaim : GoodIn wsX9_tries wsX9_isClaim := goodIn_r _ [10, 11, 12, 13, 9, 14, 73, 74, 75, 76, 77, 78, 79, 80, 81, 82, 83, 84, 85, 86, 87, 88, 89, 90, 91, 92, 93, 94, 95, 96, 97, 98, 99, 100, 101, 102, 103, 104] (by decide +kernel) (by decide +kernel)
set_option maxRecDepth 20000 in
theorem gX9_tries_X9_isClaim : GoodIn wsX9_tries (wsV RX9 233 RX9 yX9_isClaim wsX9_isClaim) := goodIn_app (goodIn_of _ (by decide +kernel)) ggX9_tries_X9_isClaim
set_option maxRecDepth 20000 in
theorem ggX9_tries_X9_in : GoodIn wsX9_tries wsX9_in := goodIn_r _ [14] (by decide +kernel) (by decide +kernel)
set_option maxRecDepth 20000 in
theorem gX9_tries_X9_in : GoodIn wsX9_tries (va_wsS RX9 83 yX9_in wsX9_in) := goodIn_app (goodIn_of _ (by decide +kernel)) ggX9_tries_X9_in
set_option maxRecDepth 20000 in
theorem ggX9_tries_X9_finds : GoodIn wsX9_tries wsX9_finds := goodIn_r _ [18, 4, 19, 20, 21, 9, 22, 23, 24, 25, 26, 27, 28, 29, 30, 31, 32, 33, 34, 35, 36, 37, 38, 39, 40, 41, 42, 43, 44, 45, 46, 47, 48, 49, 50, 51, 52, 53, 54, 55, 56, 57, 58, 59, 60, 61, 62, 63, 64, 65, 66, 67, 68, 69, 70, 71, 72, 73, 74, 75, 76, 77, 78, 79, 80, 81, 82, 83, 84, 85, 86, 87, 88, 89, 90, 91, 92, 93, 94, 95, 96, 97, 98, 99, 100, 101, 102, 103, 104] (by decide +kernel) (by decide +kernel)
set_option maxRecDepth 20000 in
theorem gX9_tries_X9_finds : GoodIn wsX9_tries (wsV RX9 214 RX9 yX9_finds wsX9_finds) := goodIn_app (goodIn_of _ (by decide +kernel)) ggX9_tries_X9_finds
theorem dX9_tries_0 : decode cX9_tries 0 = .ok (.aload_n 0, 1) := by decide +kernel
theorem dX9_tries_1 : decode cX9_tries 1 = .ok (.iload_n 1, 1) := by decide +kernel
theorem dX9_tries_2 : decode cX9_tries 2 = .ok (.invokevirtual 233, 3) := by decide +kernel
theorem dX9_tries_5 : decode cX9_tries 5 = .ok (.ifCond .ne 5, 3) := by decide +kernel
theorem dX9_tries_8 : decode cX9_tries 8 = .ok (.iconst (-1), 1) := by decide +kernel
theorem dX9_tries_9 : decode cX9_tries 9 = .ok (.ireturn, 1) := by decide +kernel
theorem dX9_tries_10 : decode cX9_tries 10 = .ok (.iload_n 2, 1) := by decide +kernel
theorem dX9_tries_11 : decode cX9_tries 11 = .ok (.iconst 0, 1) := by decide +kernel
theorem dX9_tries_12 : decode cX9_tries 12 = .ok (.iconst 3, 1) := by decide +kernel
theorem dX9_tries_13 : decode cX9_tries 13 = .ok (.invokestatic 83, 3) := by decide +kernel
theorem dX9_tries_16 : decode cX9_tries 16 = .ok (.ifCond .ne 6, 3) := by decide +kernel
theorem dX9_tries_19 : decode cX9_tries 19 = .ok (.bipush (-2), 2) := by decide +kernel
theorem dX9_tries_21 : decode cX9_tries 21 = .ok (.ireturn, 1) := by decide +kernel
theorem dX9_tries_22 : decode cX9_tries 22 = .ok (.aload_n 0, 1) := by decide +kernel
theorem dX9_tries_23 : decode cX9_tries 23 = .ok (.getfield 58, 3) := by decide +kernel
theorem dX9_tries_26 : decode cX9_tries 26 = .ok (.iload_n 1, 1) := by decide +kernel
theorem dX9_tries_27 : decode cX9_tries 27 = .ok (.iaload, 1) := by decide +kernel
theorem dX9_tries_28 : decode cX9_tries 28 = .ok (.iconst 2, 1) := by decide +kernel
theorem dX9_tries_29 : decode cX9_tries 29 = .ok (.if_icmp .ne 6, 3) := by decide +kernel
theorem dX9_tries_32 : decode cX9_tries 32 = .ok (.bipush (-3), 2) := by decide +kernel
theorem dX9_tries_34 : decode cX9_tries 34 = .ok (.ireturn, 1) := by decide +kernel
theorem dX9_tries_35 : decode cX9_tries 35 = .ok (.aload_n 0, 1) := by decide +kernel
theorem dX9_tries_36 : decode cX9_tries 36 = .ok (.aload_n 0, 1) := by decide +kernel
theorem dX9_tries_37 : decode cX9_tries 37 = .ok (.getfield 52, 3) := by decide +kernel
theorem dX9_tries_40 : decode cX9_tries 40 = .ok (.iload_n 1, 1) := by decide +kernel
theorem dX9_tries_41 : decode cX9_tries 41 = .ok (.iaload, 1) := by decide +kernel
theorem dX9_tries_42 : decode cX9_tries 42 = .ok (.iload_n 2, 1) := by decide +kernel
theorem dX9_tries_43 : decode cX9_tries 43 = .ok (.iconst 2, 1) := by decide +kernel
theorem dX9_tries_44 : decode cX9_tries 44 = .ok (.aload_n 0, 1) := by decide +kernel
theorem dX9_tries_45 : decode cX9_tries 45 = .ok (.getfield 55, 3) := by decide +kernel
theorem dX9_tries_48 : decode cX9_tries 48 = .ok (.iload_n 1, 1) := by decide +kernel
theorem dX9_tries_49 : decode cX9_tries 49 = .ok (.iaload, 1) := by decide +kernel
theorem dX9_tries_50 : decode cX9_tries 50 = .ok (.imul, 1) := by decide +kernel
theorem dX9_tries_51 : decode cX9_tries 51 = .ok (.invokevirtual 214, 3) := by decide +kernel
theorem dX9_tries_54 : decode cX9_tries 54 = .ok (.istore_n 3, 1) := by decide +kernel
theorem dX9_tries_55 : decode cX9_tries 55 = .ok (.iload_n 3, 1) := by decide +kernel
theorem dX9_tries_56 : decode cX9_tries 56 = .ok (.iconst (-1), 1) := by decide +kernel
theorem dX9_tries_57 : decode cX9_tries 57 = .ok (.if_icmp .ne 7, 3) := by decide +kernel
theorem dX9_tries_60 : decode cX9_tries 60 = .ok (.iconst 0, 1) := by decide +kernel
theorem dX9_tries_61 : decode cX9_tries 61 = .ok (.goto 21, 3) := by decide +kernel
theorem dX9_tries_64 : decode cX9_tries 64 = .ok (.aload_n 0, 1) := by decide +kernel
theorem dX9_tries_65 : decode cX9_tries 65 = .ok (.getfield 196, 3) := by decide +kernel
theorem dX9_tries_68 : decode cX9_tries 68 = .ok (.aload_n 0, 1) := by decide +kernel
theorem dX9_tries_69 : decode cX9_tries 69 = .ok (.getfield 55, 3) := by decide +kernel
theorem dX9_tries_72 : decode cX9_tries 72 = .ok (.iload_n 1, 1) := by decide +kernel
theorem dX9_tries_73 : decode cX9_tries 73 = .ok (.iaload, 1) := by decide +kernel
theorem dX9_tries_74 : decode cX9_tries 74 = .ok (.if_icmp .ge 7, 3) := by decide +kernel
theorem dX9_tries_77 : decode cX9_tries 77 = .ok (.iconst 2, 1) := by decide +kernel
theorem dX9_tries_78 : decode cX9_tries 78 = .ok (.goto 4, 3) := by decide +kernel
theorem dX9_tries_81 : decode cX9_tries 81 = .ok (.iconst 1, 1) := by decide +kernel
theorem dX9_tries_82 : decode cX9_tries 82 = .ok (.istore 4, 2) := by decide +kernel
theorem dX9_tries_84 : decode cX9_tries 84 = .ok (.iload 4, 2) := by decide +kernel
theorem dX9_tries_86 : decode cX9_tries 86 = .ok (.aload_n 0, 1) := by decide +kernel
theorem dX9_tries_87 : decode cX9_tries 87 = .ok (.getfield 58, 3) := by decide +kernel
theorem dX9_tries_90 : decode cX9_tries 90 = .ok (.iload_n 1, 1) := by decide +kernel
theorem dX9_tries_91 : decode cX9_tries 91 = .ok (.iaload, 1) := by decide +kernel
theorem dX9_tries_92 : decode cX9_tries 92 = .ok (.if_icmp .le 18, 3) := by decide +kernel
theorem dX9_tries_95 : decode cX9_tries 95 = .ok (.aload_n 0, 1) := by decide +kernel
theorem dX9_tries_96 : decode cX9_tries 96 = .ok (.getfield 58, 3) := by decide +kernel
theorem dX9_tries_99 : decode cX9_tries 99 = .ok (.iload_n 1, 1) := by decide +kernel
theorem dX9_tries_100 : decode cX9_tries 100 = .ok (.iload 4, 2) := by decide +kernel
theorem dX9_tries_102 : decode cX9_tries 102 = .ok (.iastore, 1) := by decide +kernel
theorem dX9_tries_103 : decode cX9_tries 103 = .ok (.aload_n 0, 1) := by decide +kernel
theorem dX9_tries_104 : decode cX9_tries 104 = .ok (.getfield 61, 3) := by decide +kernel
theorem dX9_tries_107 : decode cX9_tries 107 = .ok (.iload_n 1, 1) := by decide +kernel
theorem dX9_tries_108 : decode cX9_tries 108 = .ok (.iload_n 2, 1) := by decide +kernel
theorem dX9_tries_109 : decode cX9_tries 109 = .ok (.iastore, 1) := by decide +kernel
theorem dX9_tries_110 : decode cX9_tries 110 = .ok (.aload_n 0, 1) := by decide +kernel
theorem dX9_tries_111 : decode cX9_tries 111 = .ok (.getfield 58, 3) := by decide +kernel
theorem dX9_tries_114 : decode cX9_tries 114 = .ok (.iload_n 1, 1) := by decide +kernel
theorem dX9_tries_115 : decode cX9_tries 115 = .ok (.iaload, 1) := by decide +kernel
theorem dX9_tries_116 : decode cX9_tries 116 = .ok (.ireturn, 1) := by decide +kernel
set_option maxRecDepth 20000 in
theorem ggX9_claimTold_X9_isClaim : GoodIn wsX9_claimTold wsX9_isClaim := goodIn_r _ [9, 10, 11, 12, 8, 13, 14, 15, 16, 17, 18, 19, 20, 21, 22, 23, 24, 25, 26, 27, 28, 29, 30, 31, 32, 33, 34, 35, 36, 37, 38, 39, 40, 41, 42, 43, 44, 45] (by decide +kernel) (by decide +kernel)
set_option maxRecDepth 20000 in
theorem gX9_claimTold_X9_isClaim : GoodIn wsX9_claimTold (wsV RX9 233 RX9 yX9_isClaim wsX9_isClaim) := goodIn_app (goodIn_of _ (by decide +kernel)) ggX9_claimTold_X9_isClaim
theorem dX9_claimTold_0 : decode cX9_claimTold 0 = .ok (.aload_n 0, 1) := by decide +kernel
theorem dX9_claimTold_1 : decode cX9_claimTold 1 = .ok (.iload_n 1, 1) := by decide +kernel
theorem dX9_claimTold_2 : decode cX9_claimTold 2 = .ok (.invokevirtual 233, 3) := by decide +kernel
theorem dX9_claimTold_5 : decode cX9_claimTold 5 = .ok (.ifCond .ne 6, 3) := by decide +kernel
theorem dX9_claimTold_8 : decode cX9_claimTold 8 = .ok (.bipush (-5), 2) := by decide +kernel
theorem dX9_claimTold_10 : decode cX9_claimTold 10 = .ok (.ireturn, 1) := by decide +kernel
theorem dX9_claimTold_11 : decode cX9_claimTold 11 = .ok (.iload_n 2, 1) := by decide +kernel
theorem dX9_claimTold_12 : decode cX9_claimTold 12 = .ok (.ifCond .ne 12, 3) := by decide +kernel
theorem dX9_claimTold_15 : decode cX9_claimTold 15 = .ok (.aload_n 0, 1) := by decide +kernel
theorem dX9_claimTold_16 : decode cX9_claimTold 16 = .ok (.getfield 52, 3) := by decide +kernel
theorem dX9_claimTold_19 : decode cX9_claimTold 19 = .ok (.iload_n 1, 1) := by decide +kernel
theorem dX9_claimTold_20 : decode cX9_claimTold 20 = .ok (.iaload, 1) := by decide +kernel
theorem dX9_claimTold_21 : decode cX9_claimTold 21 = .ok (.goto 47, 3) := by decide +kernel
theorem dX9_claimTold_24 : decode cX9_claimTold 24 = .ok (.iload_n 2, 1) := by decide +kernel
theorem dX9_claimTold_25 : decode cX9_claimTold 25 = .ok (.iconst 1, 1) := by decide +kernel
theorem dX9_claimTold_26 : decode cX9_claimTold 26 = .ok (.if_icmp .ne 12, 3) := by decide +kernel
theorem dX9_claimTold_29 : decode cX9_claimTold 29 = .ok (.aload_n 0, 1) := by decide +kernel
theorem dX9_claimTold_30 : decode cX9_claimTold 30 = .ok (.getfield 55, 3) := by decide +kernel
theorem dX9_claimTold_33 : decode cX9_claimTold 33 = .ok (.iload_n 1, 1) := by decide +kernel
theorem dX9_claimTold_34 : decode cX9_claimTold 34 = .ok (.iaload, 1) := by decide +kernel
theorem dX9_claimTold_35 : decode cX9_claimTold 35 = .ok (.goto 33, 3) := by decide +kernel
theorem dX9_claimTold_38 : decode cX9_claimTold 38 = .ok (.iload_n 2, 1) := by decide +kernel
theorem dX9_claimTold_39 : decode cX9_claimTold 39 = .ok (.iconst 2, 1) := by decide +kernel
theorem dX9_claimTold_40 : decode cX9_claimTold 40 = .ok (.if_icmp .ne 12, 3) := by decide +kernel
theorem dX9_claimTold_43 : decode cX9_claimTold 43 = .ok (.aload_n 0, 1) := by decide +kernel
theorem dX9_claimTold_44 : decode cX9_claimTold 44 = .ok (.getfield 58, 3) := by decide +kernel
theorem dX9_claimTold_47 : decode cX9_claimTold 47 = .ok (.iload_n 1, 1) := by decide +kernel
theorem dX9_claimTold_48 : decode cX9_claimTold 48 = .ok (.iaload, 1) := by decide +kernel
theorem dX9_claimTold_49 : decode cX9_claimTold 49 = .ok (.goto 19, 3) := by decide +kernel
theorem dX9_claimTold_52 : decode cX9_claimTold 52 = .ok (.iload_n 2, 1) := by decide +kernel
theorem dX9_claimTold_53 : decode cX9_claimTold 53 = .ok (.iconst 3, 1) := by decide +kernel
theorem dX9_claimTold_54 : decode cX9_claimTold 54 = .ok (.if_icmp .ne 12, 3) := by decide +kernel
theorem dX9_claimTold_57 : decode cX9_claimTold 57 = .ok (.aload_n 0, 1) := by decide +kernel
theorem dX9_claimTold_58 : decode cX9_claimTold 58 = .ok (.getfield 61, 3) := by decide +kernel
theorem dX9_claimTold_61 : decode cX9_claimTold 61 = .ok (.iload_n 1, 1) := by decide +kernel
theorem dX9_claimTold_62 : decode cX9_claimTold 62 = .ok (.iaload, 1) := by decide +kernel
theorem dX9_claimTold_63 : decode cX9_claimTold 63 = .ok (.goto 5, 3) := by decide +kernel
theorem dX9_claimTold_66 : decode cX9_claimTold 66 = .ok (.bipush (-7), 2) := by decide +kernel
theorem dX9_claimTold_68 : decode cX9_claimTold 68 = .ok (.ireturn, 1) := by decide +kernel
theorem dX9_count_0 : decode cX9_count 0 = .ok (.iload_n 1, 1) := by decide +kernel
theorem dX9_count_1 : decode cX9_count 1 = .ok (.ifCond .ne 10, 3) := by decide +kernel
theorem dX9_count_4 : decode cX9_count 4 = .ok (.aload_n 0, 1) := by decide +kernel
theorem dX9_count_5 : decode cX9_count 5 = .ok (.getfield 152, 3) := by decide +kernel
theorem dX9_count_8 : decode cX9_count 8 = .ok (.goto 41, 3) := by decide +kernel
theorem dX9_count_11 : decode cX9_count 11 = .ok (.iload_n 1, 1) := by decide +kernel
theorem dX9_count_12 : decode cX9_count 12 = .ok (.iconst 1, 1) := by decide +kernel
theorem dX9_count_13 : decode cX9_count 13 = .ok (.if_icmp .ne 10, 3) := by decide +kernel
theorem dX9_count_16 : decode cX9_count 16 = .ok (.aload_n 0, 1) := by decide +kernel
theorem dX9_count_17 : decode cX9_count 17 = .ok (.getfield 114, 3) := by decide +kernel
theorem dX9_count_20 : decode cX9_count 20 = .ok (.goto 29, 3) := by decide +kernel
theorem dX9_count_23 : decode cX9_count 23 = .ok (.iload_n 1, 1) := by decide +kernel
theorem dX9_count_24 : decode cX9_count 24 = .ok (.iconst 2, 1) := by decide +kernel
theorem dX9_count_25 : decode cX9_count 25 = .ok (.if_icmp .ne 10, 3) := by decide +kernel
theorem dX9_count_28 : decode cX9_count 28 = .ok (.aload_n 0, 1) := by decide +kernel
theorem dX9_count_29 : decode cX9_count 29 = .ok (.getfield 230, 3) := by decide +kernel
theorem dX9_count_32 : decode cX9_count 32 = .ok (.goto 17, 3) := by decide +kernel
theorem dX9_count_35 : decode cX9_count 35 = .ok (.iload_n 1, 1) := by decide +kernel
theorem dX9_count_36 : decode cX9_count 36 = .ok (.iconst 3, 1) := by decide +kernel
theorem dX9_count_37 : decode cX9_count 37 = .ok (.if_icmp .ne 10, 3) := by decide +kernel
theorem dX9_count_40 : decode cX9_count 40 = .ok (.aload_n 0, 1) := by decide +kernel
theorem dX9_count_41 : decode cX9_count 41 = .ok (.getfield 90, 3) := by decide +kernel
theorem dX9_count_44 : decode cX9_count 44 = .ok (.goto 5, 3) := by decide +kernel
theorem dX9_count_47 : decode cX9_count 47 = .ok (.bipush (-2), 2) := by decide +kernel
theorem dX9_count_49 : decode cX9_count 49 = .ok (.ireturn, 1) := by decide +kernel
theorem dX9_image_0 : decode cX9_image 0 = .ok (.aload_n 0, 1) := by decide +kernel
theorem dX9_image_1 : decode cX9_image 1 = .ok (.iconst 1, 1) := by decide +kernel
theorem dX9_image_2 : decode cX9_image 2 = .ok (.putfield 236, 3) := by decide +kernel
theorem dX9_image_5 : decode cX9_image 5 = .ok (.aload_n 0, 1) := by decide +kernel
theorem dX9_image_6 : decode cX9_image 6 = .ok (.aload_n 0, 1) := by decide +kernel
theorem dX9_image_7 : decode cX9_image 7 = .ok (.getfield 152, 3) := by decide +kernel
theorem dX9_image_10 : decode cX9_image 10 = .ok (.putfield 240, 3) := by decide +kernel
theorem dX9_image_13 : decode cX9_image 13 = .ok (.aload_n 0, 1) := by decide +kernel
theorem dX9_image_14 : decode cX9_image 14 = .ok (.getfield 152, 3) := by decide +kernel
theorem dX9_image_17 : decode cX9_image 17 = .ok (.ireturn, 1) := by decide +kernel
theorem dX9_back_0 : decode cX9_back 0 = .ok (.aload_n 0, 1) := by decide +kernel
theorem dX9_back_1 : decode cX9_back 1 = .ok (.getfield 236, 3) := by decide +kernel
theorem dX9_back_4 : decode cX9_back 4 = .ok (.ifCond .ne 6, 3) := by decide +kernel
theorem dX9_back_7 : decode cX9_back 7 = .ok (.bipush (-3), 2) := by decide +kernel
theorem dX9_back_9 : decode cX9_back 9 = .ok (.ireturn, 1) := by decide +kernel
theorem dX9_back_10 : decode cX9_back 10 = .ok (.aload_n 0, 1) := by decide +kernel
theorem dX9_back_11 : decode cX9_back 11 = .ok (.aload_n 0, 1) := by decide +kernel
theorem dX9_back_12 : decode cX9_back 12 = .ok (.getfield 240, 3) := by decide +kernel
theorem dX9_back_15 : decode cX9_back 15 = .ok (.putfield 152, 3) := by decide +kernel
theorem dX9_back_18 : decode cX9_back 18 = .ok (.iconst 0, 1) := by decide +kernel
theorem dX9_back_19 : decode cX9_back 19 = .ok (.istore_n 1, 1) := by decide +kernel
theorem dX9_back_20 : decode cX9_back 20 = .ok (.iconst 0, 1) := by decide +kernel
theorem dX9_back_21 : decode cX9_back 21 = .ok (.istore_n 2, 1) := by decide +kernel
theorem dX9_back_22 : decode cX9_back 22 = .ok (.iload_n 2, 1) := by decide +kernel
theorem dX9_back_23 : decode cX9_back 23 = .ok (.aload_n 0, 1) := by decide +kernel
theorem dX9_back_24 : decode cX9_back 24 = .ok (.getfield 230, 3) := by decide +kernel
theorem dX9_back_27 : decode cX9_back 27 = .ok (.if_icmp .ge 73, 3) := by decide +kernel
theorem dX9_back_30 : decode cX9_back 30 = .ok (.aload_n 0, 1) := by decide +kernel
theorem dX9_back_31 : decode cX9_back 31 = .ok (.getfield 52, 3) := by decide +kernel
theorem dX9_back_34 : decode cX9_back 34 = .ok (.iload_n 2, 1) := by decide +kernel
theorem dX9_back_35 : decode cX9_back 35 = .ok (.iaload, 1) := by decide +kernel
theorem dX9_back_36 : decode cX9_back 36 = .ok (.aload_n 0, 1) := by decide +kernel
theorem dX9_back_37 : decode cX9_back 37 = .ok (.getfield 152, 3) := by decide +kernel
theorem dX9_back_40 : decode cX9_back 40 = .ok (.if_icmp .ge 54, 3) := by decide +kernel
theorem dX9_back_43 : decode cX9_back 43 = .ok (.aload_n 0, 1) := by decide +kernel
theorem dX9_back_44 : decode cX9_back 44 = .ok (.getfield 52, 3) := by decide +kernel
theorem dX9_back_47 : decode cX9_back 47 = .ok (.iload_n 1, 1) := by decide +kernel
theorem dX9_back_48 : decode cX9_back 48 = .ok (.aload_n 0, 1) := by decide +kernel
theorem dX9_back_49 : decode cX9_back 49 = .ok (.getfield 52, 3) := by decide +kernel
theorem dX9_back_52 : decode cX9_back 52 = .ok (.iload_n 2, 1) := by decide +kernel
theorem dX9_back_53 : decode cX9_back 53 = .ok (.iaload, 1) := by decide +kernel
theorem dX9_back_54 : decode cX9_back 54 = .ok (.iastore, 1) := by decide +kernel
theorem dX9_back_55 : decode cX9_back 55 = .ok (.aload_n 0, 1) := by decide +kernel
theorem dX9_back_56 : decode cX9_back 56 = .ok (.getfield 55, 3) := by decide +kernel
theorem dX9_back_59 : decode cX9_back 59 = .ok (.iload_n 1, 1) := by decide +kernel
theorem dX9_back_60 : decode cX9_back 60 = .ok (.aload_n 0, 1) := by decide +kernel
theorem dX9_back_61 : decode cX9_back 61 = .ok (.getfield 55, 3) := by decide +kernel
theorem dX9_back_64 : decode cX9_back 64 = .ok (.iload_n 2, 1) := by decide +kernel
theorem dX9_back_65 : decode cX9_back 65 = .ok (.iaload, 1) := by decide +kernel
theorem dX9_back_66 : decode cX9_back 66 = .ok (.iastore, 1) := by decide +kernel
theorem dX9_back_67 : decode cX9_back 67 = .ok (.aload_n 0, 1) := by decide +kernel
theorem dX9_back_68 : decode cX9_back 68 = .ok (.getfield 58, 3) := by decide +kernel
theorem dX9_back_71 : decode cX9_back 71 = .ok (.iload_n 1, 1) := by decide +kernel
theorem dX9_back_72 : decode cX9_back 72 = .ok (.aload_n 0, 1) := by decide +kernel
theorem dX9_back_73 : decode cX9_back 73 = .ok (.getfield 58, 3) := by decide +kernel
theorem dX9_back_76 : decode cX9_back 76 = .ok (.iload_n 2, 1) := by decide +kernel
theorem dX9_back_77 : decode cX9_back 77 = .ok (.iaload, 1) := by decide +kernel
theorem dX9_back_78 : decode cX9_back 78 = .ok (.iastore, 1) := by decide +kernel
theorem dX9_back_79 : decode cX9_back 79 = .ok (.aload_n 0, 1) := by decide +kernel
theorem dX9_back_80 : decode cX9_back 80 = .ok (.getfield 61, 3) := by decide +kernel
theorem dX9_back_83 : decode cX9_back 83 = .ok (.iload_n 1, 1) := by decide +kernel
theorem dX9_back_84 : decode cX9_back 84 = .ok (.aload_n 0, 1) := by decide +kernel
theorem dX9_back_85 : decode cX9_back 85 = .ok (.getfield 61, 3) := by decide +kernel
theorem dX9_back_88 : decode cX9_back 88 = .ok (.iload_n 2, 1) := by decide +kernel
theorem dX9_back_89 : decode cX9_back 89 = .ok (.iaload, 1) := by decide +kernel
theorem dX9_back_90 : decode cX9_back 90 = .ok (.iastore, 1) := by decide +kernel
theorem dX9_back_91 : decode cX9_back 91 = .ok (.iinc 1 1, 3) := by decide +kernel
theorem dX9_back_94 : decode cX9_back 94 = .ok (.iinc 2 1, 3) := by decide +kernel
theorem dX9_back_97 : decode cX9_back 97 = .ok (.goto (-75), 3) := by decide +kernel
theorem dX9_back_100 : decode cX9_back 100 = .ok (.aload_n 0, 1) := by decide +kernel
theorem dX9_back_101 : decode cX9_back 101 = .ok (.iload_n 1, 1) := by decide +kernel
theorem dX9_back_102 : decode cX9_back 102 = .ok (.putfield 230, 3) := by decide +kernel
theorem dX9_back_105 : decode cX9_back 105 = .ok (.aload_n 0, 1) := by decide +kernel
theorem dX9_back_106 : decode cX9_back 106 = .ok (.getfield 152, 3) := by decide +kernel
theorem dX9_back_109 : decode cX9_back 109 = .ok (.ireturn, 1) := by decide +kernel
set_option maxRecDepth 20000 in
theorem ggX9_sheet_X9_in : GoodIn wsX9_sheet wsX9_in := goodIn_r _ [7] (by decide +kernel) (by decide +kernel)
set_option maxRecDepth 20000 in
theorem gX9_sheet_X9_in : GoodIn wsX9_sheet (va_wsS RX9 83 yX9_in wsX9_in) := goodIn_app (goodIn_of _ (by decide +kernel)) ggX9_sheet_X9_in
theorem dX9_sheet_0 : decode cX9_sheet 0 = .ok (.iload_n 1, 1) := by decide +kernel
theorem dX9_sheet_1 : decode cX9_sheet 1 = .ok (.iconst 0, 1) := by decide +kernel
theorem dX9_sheet_2 : decode cX9_sheet 2 = .ok (.iconst 3, 1) := by decide +kernel
theorem dX9_sheet_3 : decode cX9_sheet 3 = .ok (.invokestatic 83, 3) := by decide +kernel
theorem dX9_sheet_6 : decode cX9_sheet 6 = .ok (.ifCond .eq 23, 3) := by decide +kernel
theorem dX9_sheet_9 : decode cX9_sheet 9 = .ok (.iload_n 2, 1) := by decide +kernel
theorem dX9_sheet_10 : decode cX9_sheet 10 = .ok (.iconst (-1), 1) := by decide +kernel
theorem dX9_sheet_11 : decode cX9_sheet 11 = .ok (.iconst 2, 1) := by decide +kernel
theorem dX9_sheet_12 : decode cX9_sheet 12 = .ok (.invokestatic 83, 3) := by decide +kernel
theorem dX9_sheet_15 : decode cX9_sheet 15 = .ok (.ifCond .eq 14, 3) := by decide +kernel
theorem dX9_sheet_18 : decode cX9_sheet 18 = .ok (.iload_n 2, 1) := by decide +kernel
theorem dX9_sheet_19 : decode cX9_sheet 19 = .ok (.iconst (-1), 1) := by decide +kernel
theorem dX9_sheet_20 : decode cX9_sheet 20 = .ok (.if_icmp .eq 12, 3) := by decide +kernel
theorem dX9_sheet_23 : decode cX9_sheet 23 = .ok (.iload_n 3, 1) := by decide +kernel
theorem dX9_sheet_24 : decode cX9_sheet 24 = .ok (.bipush 40, 2) := by decide +kernel
theorem dX9_sheet_26 : decode cX9_sheet 26 = .ok (.if_icmp .le 6, 3) := by decide +kernel
theorem dX9_sheet_29 : decode cX9_sheet 29 = .ok (.bipush (-2), 2) := by decide +kernel
theorem dX9_sheet_31 : decode cX9_sheet 31 = .ok (.ireturn, 1) := by decide +kernel
theorem dX9_sheet_32 : decode cX9_sheet 32 = .ok (.iload_n 2, 1) := by decide +kernel
theorem dX9_sheet_33 : decode cX9_sheet 33 = .ok (.iconst (-1), 1) := by decide +kernel
theorem dX9_sheet_34 : decode cX9_sheet 34 = .ok (.if_icmp .eq 10, 3) := by decide +kernel
theorem dX9_sheet_37 : decode cX9_sheet 37 = .ok (.iload_n 3, 1) := by decide +kernel
theorem dX9_sheet_38 : decode cX9_sheet 38 = .ok (.ifCond .ge 6, 3) := by decide +kernel
theorem dX9_sheet_41 : decode cX9_sheet 41 = .ok (.bipush (-14), 2) := by decide +kernel
theorem dX9_sheet_43 : decode cX9_sheet 43 = .ok (.ireturn, 1) := by decide +kernel
theorem dX9_sheet_44 : decode cX9_sheet 44 = .ok (.aload_n 0, 1) := by decide +kernel
theorem dX9_sheet_45 : decode cX9_sheet 45 = .ok (.getfield 64, 3) := by decide +kernel
theorem dX9_sheet_48 : decode cX9_sheet 48 = .ok (.iload_n 1, 1) := by decide +kernel
theorem dX9_sheet_49 : decode cX9_sheet 49 = .ok (.iload_n 2, 1) := by decide +kernel
theorem dX9_sheet_50 : decode cX9_sheet 50 = .ok (.iastore, 1) := by decide +kernel
theorem dX9_sheet_51 : decode cX9_sheet 51 = .ok (.aload_n 0, 1) := by decide +kernel
theorem dX9_sheet_52 : decode cX9_sheet 52 = .ok (.getfield 67, 3) := by decide +kernel
theorem dX9_sheet_55 : decode cX9_sheet 55 = .ok (.iload_n 1, 1) := by decide +kernel
theorem dX9_sheet_56 : decode cX9_sheet 56 = .ok (.iload_n 2, 1) := by decide +kernel
theorem dX9_sheet_57 : decode cX9_sheet 57 = .ok (.iconst (-1), 1) := by decide +kernel
theorem dX9_sheet_58 : decode cX9_sheet 58 = .ok (.if_icmp .ne 7, 3) := by decide +kernel
theorem dX9_sheet_61 : decode cX9_sheet 61 = .ok (.iconst 0, 1) := by decide +kernel
theorem dX9_sheet_62 : decode cX9_sheet 62 = .ok (.goto 4, 3) := by decide +kernel
theorem dX9_sheet_65 : decode cX9_sheet 65 = .ok (.iload_n 3, 1) := by decide +kernel
theorem dX9_sheet_66 : decode cX9_sheet 66 = .ok (.iastore, 1) := by decide +kernel
theorem dX9_sheet_67 : decode cX9_sheet 67 = .ok (.iconst 0, 1) := by decide +kernel
theorem dX9_sheet_68 : decode cX9_sheet 68 = .ok (.istore 4, 2) := by decide +kernel
theorem dX9_sheet_70 : decode cX9_sheet 70 = .ok (.iload 4, 2) := by decide +kernel
theorem dX9_sheet_72 : decode cX9_sheet 72 = .ok (.bipush 40, 2) := by decide +kernel
theorem dX9_sheet_74 : decode cX9_sheet 74 = .ok (.if_icmp .ge 22, 3) := by decide +kernel
theorem dX9_sheet_77 : decode cX9_sheet 77 = .ok (.aload_n 0, 1) := by decide +kernel
theorem dX9_sheet_78 : decode cX9_sheet 78 = .ok (.getfield 70, 3) := by decide +kernel
theorem dX9_sheet_81 : decode cX9_sheet 81 = .ok (.bipush 40, 2) := by decide +kernel
theorem dX9_sheet_83 : decode cX9_sheet 83 = .ok (.iload_n 1, 1) := by decide +kernel
theorem dX9_sheet_84 : decode cX9_sheet 84 = .ok (.imul, 1) := by decide +kernel
theorem dX9_sheet_85 : decode cX9_sheet 85 = .ok (.iload 4, 2) := by decide +kernel
theorem dX9_sheet_87 : decode cX9_sheet 87 = .ok (.iadd, 1) := by decide +kernel
theorem dX9_sheet_88 : decode cX9_sheet 88 = .ok (.iconst 0, 1) := by decide +kernel
theorem dX9_sheet_89 : decode cX9_sheet 89 = .ok (.iastore, 1) := by decide +kernel
theorem dX9_sheet_90 : decode cX9_sheet 90 = .ok (.iinc 4 1, 3) := by decide +kernel
theorem dX9_sheet_93 : decode cX9_sheet 93 = .ok (.goto (-23), 3) := by decide +kernel
theorem dX9_sheet_96 : decode cX9_sheet 96 = .ok (.iconst 1, 1) := by decide +kernel
theorem dX9_sheet_97 : decode cX9_sheet 97 = .ok (.ireturn, 1) := by decide +kernel
set_option maxRecDepth 20000 in
theorem ggX9_cell_X9_in : GoodIn wsX9_cell wsX9_in := goodIn_r _ [7] (by decide +kernel) (by decide +kernel)
set_option maxRecDepth 20000 in
theorem gX9_cell_X9_in : GoodIn wsX9_cell (va_wsS RX9 83 yX9_in wsX9_in) := goodIn_app (goodIn_of _ (by decide +kernel)) ggX9_cell_X9_in
theorem dX9_cell_0 : decode cX9_cell 0 = .ok (.iload_n 1, 1) := by decide +kernel
theorem dX9_cell_1 : decode cX9_cell 1 = .ok (.iconst 0, 1) := by decide +kernel
theorem dX9_cell_2 : decode cX9_cell 2 = .ok (.iconst 3, 1) := by decide +kernel
theorem dX9_cell_3 : decode cX9_cell 3 = .ok (.invokestatic 83, 3) := by decide +kernel
theorem dX9_cell_6 : decode cX9_cell 6 = .ok (.ifCond .ne 6, 3) := by decide +kernel
theorem dX9_cell_9 : decode cX9_cell 9 = .ok (.bipush (-2), 2) := by decide +kernel
theorem dX9_cell_11 : decode cX9_cell 11 = .ok (.ireturn, 1) := by decide +kernel
theorem dX9_cell_12 : decode cX9_cell 12 = .ok (.aload_n 0, 1) := by decide +kernel
theorem dX9_cell_13 : decode cX9_cell 13 = .ok (.getfield 64, 3) := by decide +kernel
theorem dX9_cell_16 : decode cX9_cell 16 = .ok (.iload_n 1, 1) := by decide +kernel
theorem dX9_cell_17 : decode cX9_cell 17 = .ok (.iaload, 1) := by decide +kernel
theorem dX9_cell_18 : decode cX9_cell 18 = .ok (.iconst (-1), 1) := by decide +kernel
theorem dX9_cell_19 : decode cX9_cell 19 = .ok (.if_icmp .ne 6, 3) := by decide +kernel
theorem dX9_cell_22 : decode cX9_cell 22 = .ok (.bipush (-11), 2) := by decide +kernel
theorem dX9_cell_24 : decode cX9_cell 24 = .ok (.ireturn, 1) := by decide +kernel
theorem dX9_cell_25 : decode cX9_cell 25 = .ok (.iload_n 2, 1) := by decide +kernel
theorem dX9_cell_26 : decode cX9_cell 26 = .ok (.iconst 0, 1) := by decide +kernel
theorem dX9_cell_27 : decode cX9_cell 27 = .ok (.aload_n 0, 1) := by decide +kernel
theorem dX9_cell_28 : decode cX9_cell 28 = .ok (.getfield 67, 3) := by decide +kernel
theorem dX9_cell_31 : decode cX9_cell 31 = .ok (.iload_n 1, 1) := by decide +kernel
theorem dX9_cell_32 : decode cX9_cell 32 = .ok (.iaload, 1) := by decide +kernel
theorem dX9_cell_33 : decode cX9_cell 33 = .ok (.iconst 1, 1) := by decide +kernel
theorem dX9_cell_34 : decode cX9_cell 34 = .ok (.isub, 1) := by decide +kernel
theorem dX9_cell_35 : decode cX9_cell 35 = .ok (.invokestatic 83, 3) := by decide +kernel
theorem dX9_cell_38 : decode cX9_cell 38 = .ok (.ifCond .ne 6, 3) := by decide +kernel
theorem dX9_cell_41 : decode cX9_cell 41 = .ok (.bipush (-12), 2) := by decide +kernel
theorem dX9_cell_43 : decode cX9_cell 43 = .ok (.ireturn, 1) := by decide +kernel
theorem dX9_cell_44 : decode cX9_cell 44 = .ok (.aload_n 0, 1) := by decide +kernel
theorem dX9_cell_45 : decode cX9_cell 45 = .ok (.getfield 70, 3) := by decide +kernel
theorem dX9_cell_48 : decode cX9_cell 48 = .ok (.bipush 40, 2) := by decide +kernel
theorem dX9_cell_50 : decode cX9_cell 50 = .ok (.iload_n 1, 1) := by decide +kernel
theorem dX9_cell_51 : decode cX9_cell 51 = .ok (.imul, 1) := by decide +kernel
theorem dX9_cell_52 : decode cX9_cell 52 = .ok (.iload_n 2, 1) := by decide +kernel
theorem dX9_cell_53 : decode cX9_cell 53 = .ok (.iadd, 1) := by decide +kernel
theorem dX9_cell_54 : decode cX9_cell 54 = .ok (.aload_n 0, 1) := by decide +kernel
theorem dX9_cell_55 : decode cX9_cell 55 = .ok (.getfield 64, 3) := by decide +kernel
theorem dX9_cell_58 : decode cX9_cell 58 = .ok (.iload_n 1, 1) := by decide +kernel
theorem dX9_cell_59 : decode cX9_cell 59 = .ok (.iaload, 1) := by decide +kernel
theorem dX9_cell_60 : decode cX9_cell 60 = .ok (.ifCond .ne 8, 3) := by decide +kernel
theorem dX9_cell_63 : decode cX9_cell 63 = .ok (.iload_n 3, 1) := by decide +kernel
theorem dX9_cell_64 : decode cX9_cell 64 = .ok (.i2b, 1) := by decide +kernel
theorem dX9_cell_65 : decode cX9_cell 65 = .ok (.goto 19, 3) := by decide +kernel
theorem dX9_cell_68 : decode cX9_cell 68 = .ok (.aload_n 0, 1) := by decide +kernel
theorem dX9_cell_69 : decode cX9_cell 69 = .ok (.getfield 64, 3) := by decide +kernel
theorem dX9_cell_72 : decode cX9_cell 72 = .ok (.iload_n 1, 1) := by decide +kernel
theorem dX9_cell_73 : decode cX9_cell 73 = .ok (.iaload, 1) := by decide +kernel
theorem dX9_cell_74 : decode cX9_cell 74 = .ok (.iconst 1, 1) := by decide +kernel
theorem dX9_cell_75 : decode cX9_cell 75 = .ok (.if_icmp .ne 8, 3) := by decide +kernel
theorem dX9_cell_78 : decode cX9_cell 78 = .ok (.iload_n 3, 1) := by decide +kernel
theorem dX9_cell_79 : decode cX9_cell 79 = .ok (.i2s, 1) := by decide +kernel
theorem dX9_cell_80 : decode cX9_cell 80 = .ok (.goto 4, 3) := by decide +kernel
theorem dX9_cell_83 : decode cX9_cell 83 = .ok (.iload_n 3, 1) := by decide +kernel
theorem dX9_cell_84 : decode cX9_cell 84 = .ok (.iastore, 1) := by decide +kernel
theorem dX9_cell_85 : decode cX9_cell 85 = .ok (.iconst 1, 1) := by decide +kernel
theorem dX9_cell_86 : decode cX9_cell 86 = .ok (.ireturn, 1) := by decide +kernel
set_option maxRecDepth 20000 in
theorem ggX9_copy_X9_in : GoodIn wsX9_copy wsX9_in := goodIn_r _ [7] (by decide +kernel) (by decide +kernel)
set_option maxRecDepth 20000 in
theorem gX9_copy_X9_in : GoodIn wsX9_copy (va_wsS RX9 83 yX9_in wsX9_in) := goodIn_app (goodIn_of _ (by decide +kernel)) ggX9_copy_X9_in
theorem dX9_copy_0 : decode cX9_copy 0 = .ok (.iload_n 1, 1) := by decide +kernel
theorem dX9_copy_1 : decode cX9_copy 1 = .ok (.iconst 0, 1) := by decide +kernel
theorem dX9_copy_2 : decode cX9_copy 2 = .ok (.iconst 3, 1) := by decide +kernel
theorem dX9_copy_3 : decode cX9_copy 3 = .ok (.invokestatic 83, 3) := by decide +kernel
theorem dX9_copy_6 : decode cX9_copy 6 = .ok (.ifCond .eq 12, 3) := by decide +kernel
theorem dX9_copy_9 : decode cX9_copy 9 = .ok (.iload_n 3, 1) := by decide +kernel
theorem dX9_copy_10 : decode cX9_copy 10 = .ok (.iconst 0, 1) := by decide +kernel
theorem dX9_copy_11 : decode cX9_copy 11 = .ok (.iconst 3, 1) := by decide +kernel
theorem dX9_copy_12 : decode cX9_copy 12 = .ok (.invokestatic 83, 3) := by decide +kernel
theorem dX9_copy_15 : decode cX9_copy 15 = .ok (.ifCond .ne 6, 3) := by decide +kernel
theorem dX9_copy_18 : decode cX9_copy 18 = .ok (.bipush (-2), 2) := by decide +kernel
theorem dX9_copy_20 : decode cX9_copy 20 = .ok (.ireturn, 1) := by decide +kernel
theorem dX9_copy_21 : decode cX9_copy 21 = .ok (.aload_n 0, 1) := by decide +kernel
theorem dX9_copy_22 : decode cX9_copy 22 = .ok (.getfield 64, 3) := by decide +kernel
theorem dX9_copy_25 : decode cX9_copy 25 = .ok (.iload_n 1, 1) := by decide +kernel
theorem dX9_copy_26 : decode cX9_copy 26 = .ok (.iaload, 1) := by decide +kernel
theorem dX9_copy_27 : decode cX9_copy 27 = .ok (.iconst (-1), 1) := by decide +kernel
theorem dX9_copy_28 : decode cX9_copy 28 = .ok (.if_icmp .eq 13, 3) := by decide +kernel
theorem dX9_copy_31 : decode cX9_copy 31 = .ok (.aload_n 0, 1) := by decide +kernel
theorem dX9_copy_32 : decode cX9_copy 32 = .ok (.getfield 64, 3) := by decide +kernel
theorem dX9_copy_35 : decode cX9_copy 35 = .ok (.iload_n 3, 1) := by decide +kernel
theorem dX9_copy_36 : decode cX9_copy 36 = .ok (.iaload, 1) := by decide +kernel
theorem dX9_copy_37 : decode cX9_copy 37 = .ok (.iconst (-1), 1) := by decide +kernel
theorem dX9_copy_38 : decode cX9_copy 38 = .ok (.if_icmp .ne 6, 3) := by decide +kernel
theorem dX9_copy_41 : decode cX9_copy 41 = .ok (.bipush (-11), 2) := by decide +kernel
theorem dX9_copy_43 : decode cX9_copy 43 = .ok (.ireturn, 1) := by decide +kernel
theorem dX9_copy_44 : decode cX9_copy 44 = .ok (.aload_n 0, 1) := by decide +kernel
theorem dX9_copy_45 : decode cX9_copy 45 = .ok (.getfield 64, 3) := by decide +kernel
theorem dX9_copy_48 : decode cX9_copy 48 = .ok (.iload_n 1, 1) := by decide +kernel
theorem dX9_copy_49 : decode cX9_copy 49 = .ok (.iaload, 1) := by decide +kernel
theorem dX9_copy_50 : decode cX9_copy 50 = .ok (.aload_n 0, 1) := by decide +kernel
theorem dX9_copy_51 : decode cX9_copy 51 = .ok (.getfield 64, 3) := by decide +kernel
theorem dX9_copy_54 : decode cX9_copy 54 = .ok (.iload_n 3, 1) := by decide +kernel
theorem dX9_copy_55 : decode cX9_copy 55 = .ok (.iaload, 1) := by decide +kernel
theorem dX9_copy_56 : decode cX9_copy 56 = .ok (.if_icmp .eq 6, 3) := by decide +kernel
theorem dX9_copy_59 : decode cX9_copy 59 = .ok (.bipush (-13), 2) := by decide +kernel
theorem dX9_copy_61 : decode cX9_copy 61 = .ok (.ireturn, 1) := by decide +kernel
theorem dX9_copy_62 : decode cX9_copy 62 = .ok (.iload 5, 2) := by decide +kernel
theorem dX9_copy_64 : decode cX9_copy 64 = .ok (.ifCond .lt 60, 3) := by decide +kernel
theorem dX9_copy_67 : decode cX9_copy 67 = .ok (.iload_n 2, 1) := by decide +kernel
theorem dX9_copy_68 : decode cX9_copy 68 = .ok (.ifCond .lt 56, 3) := by decide +kernel
theorem dX9_copy_71 : decode cX9_copy 71 = .ok (.iload 4, 2) := by decide +kernel
theorem dX9_copy_73 : decode cX9_copy 73 = .ok (.ifCond .lt 51, 3) := by decide +kernel
theorem dX9_copy_76 : decode cX9_copy 76 = .ok (.iload_n 2, 1) := by decide +kernel
theorem dX9_copy_77 : decode cX9_copy 77 = .ok (.aload_n 0, 1) := by decide +kernel
theorem dX9_copy_78 : decode cX9_copy 78 = .ok (.getfield 67, 3) := by decide +kernel
theorem dX9_copy_81 : decode cX9_copy 81 = .ok (.iload_n 1, 1) := by decide +kernel
theorem dX9_copy_82 : decode cX9_copy 82 = .ok (.iaload, 1) := by decide +kernel
theorem dX9_copy_83 : decode cX9_copy 83 = .ok (.if_icmp .gt 41, 3) := by decide +kernel
theorem dX9_copy_86 : decode cX9_copy 86 = .ok (.iload 4, 2) := by decide +kernel
theorem dX9_copy_88 : decode cX9_copy 88 = .ok (.aload_n 0, 1) := by decide +kernel
theorem dX9_copy_89 : decode cX9_copy 89 = .ok (.getfield 67, 3) := by decide +kernel
theorem dX9_copy_92 : decode cX9_copy 92 = .ok (.iload_n 3, 1) := by decide +kernel
theorem dX9_copy_93 : decode cX9_copy 93 = .ok (.iaload, 1) := by decide +kernel
theorem dX9_copy_94 : decode cX9_copy 94 = .ok (.if_icmp .gt 30, 3) := by decide +kernel
theorem dX9_copy_97 : decode cX9_copy 97 = .ok (.iload 5, 2) := by decide +kernel
theorem dX9_copy_99 : decode cX9_copy 99 = .ok (.aload_n 0, 1) := by decide +kernel
theorem dX9_copy_100 : decode cX9_copy 100 = .ok (.getfield 67, 3) := by decide +kernel
theorem dX9_copy_103 : decode cX9_copy 103 = .ok (.iload_n 1, 1) := by decide +kernel
theorem dX9_copy_104 : decode cX9_copy 104 = .ok (.iaload, 1) := by decide +kernel
theorem dX9_copy_105 : decode cX9_copy 105 = .ok (.iload_n 2, 1) := by decide +kernel
theorem dX9_copy_106 : decode cX9_copy 106 = .ok (.isub, 1) := by decide +kernel
theorem dX9_copy_107 : decode cX9_copy 107 = .ok (.if_icmp .gt 17, 3) := by decide +kernel
theorem dX9_copy_110 : decode cX9_copy 110 = .ok (.iload 5, 2) := by decide +kernel
theorem dX9_copy_112 : decode cX9_copy 112 = .ok (.aload_n 0, 1) := by decide +kernel
theorem dX9_copy_113 : decode cX9_copy 113 = .ok (.getfield 67, 3) := by decide +kernel
theorem dX9_copy_116 : decode cX9_copy 116 = .ok (.iload_n 3, 1) := by decide +kernel
theorem dX9_copy_117 : decode cX9_copy 117 = .ok (.iaload, 1) := by decide +kernel
theorem dX9_copy_118 : decode cX9_copy 118 = .ok (.iload 4, 2) := by decide +kernel
theorem dX9_copy_120 : decode cX9_copy 120 = .ok (.isub, 1) := by decide +kernel
theorem dX9_copy_121 : decode cX9_copy 121 = .ok (.if_icmp .le 6, 3) := by decide +kernel
theorem dX9_copy_124 : decode cX9_copy 124 = .ok (.bipush (-12), 2) := by decide +kernel
theorem dX9_copy_126 : decode cX9_copy 126 = .ok (.ireturn, 1) := by decide +kernel
theorem dX9_copy_127 : decode cX9_copy 127 = .ok (.bipush 40, 2) := by decide +kernel
theorem dX9_copy_129 : decode cX9_copy 129 = .ok (.iload_n 1, 1) := by decide +kernel
theorem dX9_copy_130 : decode cX9_copy 130 = .ok (.imul, 1) := by decide +kernel
theorem dX9_copy_131 : decode cX9_copy 131 = .ok (.iload_n 2, 1) := by decide +kernel
theorem dX9_copy_132 : decode cX9_copy 132 = .ok (.iadd, 1) := by decide +kernel
theorem dX9_copy_133 : decode cX9_copy 133 = .ok (.istore 6, 2) := by decide +kernel
theorem dX9_copy_135 : decode cX9_copy 135 = .ok (.bipush 40, 2) := by decide +kernel
theorem dX9_copy_137 : decode cX9_copy 137 = .ok (.iload_n 3, 1) := by decide +kernel
theorem dX9_copy_138 : decode cX9_copy 138 = .ok (.imul, 1) := by decide +kernel
theorem dX9_copy_139 : decode cX9_copy 139 = .ok (.iload 4, 2) := by decide +kernel
theorem dX9_copy_141 : decode cX9_copy 141 = .ok (.iadd, 1) := by decide +kernel
theorem dX9_copy_142 : decode cX9_copy 142 = .ok (.istore 7, 2) := by decide +kernel
theorem dX9_copy_144 : decode cX9_copy 144 = .ok (.iconst 0, 1) := by decide +kernel
theorem dX9_copy_145 : decode cX9_copy 145 = .ok (.istore 8, 2) := by decide +kernel
theorem dX9_copy_147 : decode cX9_copy 147 = .ok (.iload 8, 2) := by decide +kernel
theorem dX9_copy_149 : decode cX9_copy 149 = .ok (.iload 5, 2) := by decide +kernel
theorem dX9_copy_151 : decode cX9_copy 151 = .ok (.if_icmp .ge 50, 3) := by decide +kernel
theorem dX9_copy_154 : decode cX9_copy 154 = .ok (.iload 6, 2) := by decide +kernel
theorem dX9_copy_156 : decode cX9_copy 156 = .ok (.iload 7, 2) := by decide +kernel
theorem dX9_copy_158 : decode cX9_copy 158 = .ok (.if_icmp .ge 13, 3) := by decide +kernel
theorem dX9_copy_161 : decode cX9_copy 161 = .ok (.iload 5, 2) := by decide +kernel
theorem dX9_copy_163 : decode cX9_copy 163 = .ok (.iconst 1, 1) := by decide +kernel
theorem dX9_copy_164 : decode cX9_copy 164 = .ok (.isub, 1) := by decide +kernel
theorem dX9_copy_165 : decode cX9_copy 165 = .ok (.iload 8, 2) := by decide +kernel
theorem dX9_copy_167 : decode cX9_copy 167 = .ok (.isub, 1) := by decide +kernel
theorem dX9_copy_168 : decode cX9_copy 168 = .ok (.goto 5, 3) := by decide +kernel
theorem dX9_copy_171 : decode cX9_copy 171 = .ok (.iload 8, 2) := by decide +kernel
theorem dX9_copy_173 : decode cX9_copy 173 = .ok (.istore 9, 2) := by decide +kernel
theorem dX9_copy_175 : decode cX9_copy 175 = .ok (.aload_n 0, 1) := by decide +kernel
theorem dX9_copy_176 : decode cX9_copy 176 = .ok (.getfield 70, 3) := by decide +kernel
theorem dX9_copy_179 : decode cX9_copy 179 = .ok (.iload 7, 2) := by decide +kernel
theorem dX9_copy_181 : decode cX9_copy 181 = .ok (.iload 9, 2) := by decide +kernel
theorem dX9_copy_183 : decode cX9_copy 183 = .ok (.iadd, 1) := by decide +kernel
theorem dX9_copy_184 : decode cX9_copy 184 = .ok (.aload_n 0, 1) := by decide +kernel
theorem dX9_copy_185 : decode cX9_copy 185 = .ok (.getfield 70, 3) := by decide +kernel
theorem dX9_copy_188 : decode cX9_copy 188 = .ok (.iload 6, 2) := by decide +kernel
theorem dX9_copy_190 : decode cX9_copy 190 = .ok (.iload 9, 2) := by decide +kernel
theorem dX9_copy_192 : decode cX9_copy 192 = .ok (.iadd, 1) := by decide +kernel
theorem dX9_copy_193 : decode cX9_copy 193 = .ok (.iaload, 1) := by decide +kernel
theorem dX9_copy_194 : decode cX9_copy 194 = .ok (.iastore, 1) := by decide +kernel
theorem dX9_copy_195 : decode cX9_copy 195 = .ok (.iinc 8 1, 3) := by decide +kernel
theorem dX9_copy_198 : decode cX9_copy 198 = .ok (.goto (-51), 3) := by decide +kernel
theorem dX9_copy_201 : decode cX9_copy 201 = .ok (.iload 5, 2) := by decide +kernel
theorem dX9_copy_203 : decode cX9_copy 203 = .ok (.ireturn, 1) := by decide +kernel
set_option maxRecDepth 20000 in
theorem ggX9_claims_X9_in : GoodIn wsX9_claims wsX9_in := goodIn_r _ [7] (by decide +kernel) (by decide +kernel)
set_option maxRecDepth 20000 in
theorem gX9_claims_X9_in : GoodIn wsX9_claims (va_wsS RX9 83 yX9_in wsX9_in) := goodIn_app (goodIn_of _ (by decide +kernel)) ggX9_claims_X9_in
set_option maxRecDepth 20000 in
theorem ggX9_claims_X9_claim : GoodIn wsX9_claims wsX9_claim := goodIn_r _ [11, 12, 13, 14, 15, 16, 17, 18, 19, 6, 20, 21, 4, 5, 7, 22, 23, 24, 25, 26, 27, 28, 29, 30, 31, 32, 33, 34, 35, 36, 37, 38, 39, 40, 41, 42, 43, 44, 45, 46, 47, 48, 49, 50, 51, 52, 53] (by decide +kernel) (by decide +kernel)
set_option maxRecDepth 20000 in
theorem gX9_claims_X9_claim : GoodIn wsX9_claims (wsV RX9 243 RX9 yX9_claim wsX9_claim) := goodIn_app (goodIn_of _ (by decide +kernel)) ggX9_claims_X9_claim
theorem dX9_claims_0 : decode cX9_claims 0 = .ok (.iload_n 1, 1) := by decide +kernel
theorem dX9_claims_1 : decode cX9_claims 1 = .ok (.iconst 0, 1) := by decide +kernel
theorem dX9_claims_2 : decode cX9_claims 2 = .ok (.iconst 3, 1) := by decide +kernel
theorem dX9_claims_3 : decode cX9_claims 3 = .ok (.invokestatic 83, 3) := by decide +kernel
theorem dX9_claims_6 : decode cX9_claims 6 = .ok (.ifCond .eq 23, 3) := by decide +kernel
theorem dX9_claims_9 : decode cX9_claims 9 = .ok (.iload_n 2, 1) := by decide +kernel
theorem dX9_claims_10 : decode cX9_claims 10 = .ok (.iconst 0, 1) := by decide +kernel
theorem dX9_claims_11 : decode cX9_claims 11 = .ok (.iconst 2, 1) := by decide +kernel
theorem dX9_claims_12 : decode cX9_claims 12 = .ok (.invokestatic 83, 3) := by decide +kernel
theorem dX9_claims_15 : decode cX9_claims 15 = .ok (.ifCond .eq 14, 3) := by decide +kernel
theorem dX9_claims_18 : decode cX9_claims 18 = .ok (.iload 4, 2) := by decide +kernel
theorem dX9_claims_20 : decode cX9_claims 20 = .ok (.iconst 0, 1) := by decide +kernel
theorem dX9_claims_21 : decode cX9_claims 21 = .ok (.bipush 20, 2) := by decide +kernel
theorem dX9_claims_23 : decode cX9_claims 23 = .ok (.invokestatic 83, 3) := by decide +kernel
theorem dX9_claims_26 : decode cX9_claims 26 = .ok (.ifCond .ne 6, 3) := by decide +kernel
theorem dX9_claims_29 : decode cX9_claims 29 = .ok (.bipush (-2), 2) := by decide +kernel
theorem dX9_claims_31 : decode cX9_claims 31 = .ok (.ireturn, 1) := by decide +kernel
theorem dX9_claims_32 : decode cX9_claims 32 = .ok (.aload_n 0, 1) := by decide +kernel
theorem dX9_claims_33 : decode cX9_claims 33 = .ok (.getfield 64, 3) := by decide +kernel
theorem dX9_claims_36 : decode cX9_claims 36 = .ok (.iload_n 1, 1) := by decide +kernel
theorem dX9_claims_37 : decode cX9_claims 37 = .ok (.iaload, 1) := by decide +kernel
theorem dX9_claims_38 : decode cX9_claims 38 = .ok (.iconst (-1), 1) := by decide +kernel
theorem dX9_claims_39 : decode cX9_claims 39 = .ok (.if_icmp .ne 6, 3) := by decide +kernel
theorem dX9_claims_42 : decode cX9_claims 42 = .ok (.bipush (-11), 2) := by decide +kernel
theorem dX9_claims_44 : decode cX9_claims 44 = .ok (.ireturn, 1) := by decide +kernel
theorem dX9_claims_45 : decode cX9_claims 45 = .ok (.aload_n 0, 1) := by decide +kernel
theorem dX9_claims_46 : decode cX9_claims 46 = .ok (.getfield 64, 3) := by decide +kernel
theorem dX9_claims_49 : decode cX9_claims 49 = .ok (.iload_n 1, 1) := by decide +kernel
theorem dX9_claims_50 : decode cX9_claims 50 = .ok (.iaload, 1) := by decide +kernel
theorem dX9_claims_51 : decode cX9_claims 51 = .ok (.iload_n 2, 1) := by decide +kernel
theorem dX9_claims_52 : decode cX9_claims 52 = .ok (.if_icmp .eq 6, 3) := by decide +kernel
theorem dX9_claims_55 : decode cX9_claims 55 = .ok (.bipush (-13), 2) := by decide +kernel
theorem dX9_claims_57 : decode cX9_claims 57 = .ok (.ireturn, 1) := by decide +kernel
theorem dX9_claims_58 : decode cX9_claims 58 = .ok (.iconst 0, 1) := by decide +kernel
theorem dX9_claims_59 : decode cX9_claims 59 = .ok (.istore 5, 2) := by decide +kernel
theorem dX9_claims_61 : decode cX9_claims 61 = .ok (.iconst 0, 1) := by decide +kernel
theorem dX9_claims_62 : decode cX9_claims 62 = .ok (.istore 6, 2) := by decide +kernel
theorem dX9_claims_64 : decode cX9_claims 64 = .ok (.iload 6, 2) := by decide +kernel
theorem dX9_claims_66 : decode cX9_claims 66 = .ok (.iload 4, 2) := by decide +kernel
theorem dX9_claims_68 : decode cX9_claims 68 = .ok (.if_icmp .ge 85, 3) := by decide +kernel
theorem dX9_claims_71 : decode cX9_claims 71 = .ok (.iload_n 3, 1) := by decide +kernel
theorem dX9_claims_72 : decode cX9_claims 72 = .ok (.iconst 2, 1) := by decide +kernel
theorem dX9_claims_73 : decode cX9_claims 73 = .ok (.iload 6, 2) := by decide +kernel
theorem dX9_claims_75 : decode cX9_claims 75 = .ok (.imul, 1) := by decide +kernel
theorem dX9_claims_76 : decode cX9_claims 76 = .ok (.iadd, 1) := by decide +kernel
theorem dX9_claims_77 : decode cX9_claims 77 = .ok (.istore 7, 2) := by decide +kernel
theorem dX9_claims_79 : decode cX9_claims 79 = .ok (.iload_n 3, 1) := by decide +kernel
theorem dX9_claims_80 : decode cX9_claims 80 = .ok (.ifCond .lt 22, 3) := by decide +kernel
theorem dX9_claims_83 : decode cX9_claims 83 = .ok (.iload 7, 2) := by decide +kernel
theorem dX9_claims_85 : decode cX9_claims 85 = .ok (.iload_n 3, 1) := by decide +kernel
theorem dX9_claims_86 : decode cX9_claims 86 = .ok (.if_icmp .lt 16, 3) := by decide +kernel
theorem dX9_claims_89 : decode cX9_claims 89 = .ok (.iload 7, 2) := by decide +kernel
theorem dX9_claims_91 : decode cX9_claims 91 = .ok (.aload_n 0, 1) := by decide +kernel
theorem dX9_claims_92 : decode cX9_claims 92 = .ok (.getfield 67, 3) := by decide +kernel
theorem dX9_claims_95 : decode cX9_claims 95 = .ok (.iload_n 1, 1) := by decide +kernel
theorem dX9_claims_96 : decode cX9_claims 96 = .ok (.iaload, 1) := by decide +kernel
theorem dX9_claims_97 : decode cX9_claims 97 = .ok (.iconst 2, 1) := by decide +kernel
theorem dX9_claims_98 : decode cX9_claims 98 = .ok (.isub, 1) := by decide +kernel
theorem dX9_claims_99 : decode cX9_claims 99 = .ok (.if_icmp .le 6, 3) := by decide +kernel
theorem dX9_claims_102 : decode cX9_claims 102 = .ok (.bipush (-12), 2) := by decide +kernel
theorem dX9_claims_104 : decode cX9_claims 104 = .ok (.ireturn, 1) := by decide +kernel
theorem dX9_claims_105 : decode cX9_claims 105 = .ok (.bipush 40, 2) := by decide +kernel
theorem dX9_claims_107 : decode cX9_claims 107 = .ok (.iload_n 1, 1) := by decide +kernel
theorem dX9_claims_108 : decode cX9_claims 108 = .ok (.imul, 1) := by decide +kernel
theorem dX9_claims_109 : decode cX9_claims 109 = .ok (.iload 7, 2) := by decide +kernel
theorem dX9_claims_111 : decode cX9_claims 111 = .ok (.iadd, 1) := by decide +kernel
theorem dX9_claims_112 : decode cX9_claims 112 = .ok (.istore 8, 2) := by decide +kernel
theorem dX9_claims_114 : decode cX9_claims 114 = .ok (.iload 5, 2) := by decide +kernel
theorem dX9_claims_116 : decode cX9_claims 116 = .ok (.aload_n 0, 1) := by decide +kernel
theorem dX9_claims_117 : decode cX9_claims 117 = .ok (.aload_n 0, 1) := by decide +kernel
theorem dX9_claims_118 : decode cX9_claims 118 = .ok (.getfield 70, 3) := by decide +kernel
theorem dX9_claims_121 : decode cX9_claims 121 = .ok (.iload 8, 2) := by decide +kernel
theorem dX9_claims_123 : decode cX9_claims 123 = .ok (.iaload, 1) := by decide +kernel
theorem dX9_claims_124 : decode cX9_claims 124 = .ok (.aload_n 0, 1) := by decide +kernel
theorem dX9_claims_125 : decode cX9_claims 125 = .ok (.getfield 70, 3) := by decide +kernel
theorem dX9_claims_128 : decode cX9_claims 128 = .ok (.iload 8, 2) := by decide +kernel
theorem dX9_claims_130 : decode cX9_claims 130 = .ok (.iconst 1, 1) := by decide +kernel
theorem dX9_claims_131 : decode cX9_claims 131 = .ok (.iadd, 1) := by decide +kernel
theorem dX9_claims_132 : decode cX9_claims 132 = .ok (.iaload, 1) := by decide +kernel
theorem dX9_claims_133 : decode cX9_claims 133 = .ok (.invokevirtual 243, 3) := by decide +kernel
theorem dX9_claims_136 : decode cX9_claims 136 = .ok (.ifCond .lt 7, 3) := by decide +kernel
theorem dX9_claims_139 : decode cX9_claims 139 = .ok (.iconst 1, 1) := by decide +kernel
theorem dX9_claims_140 : decode cX9_claims 140 = .ok (.goto 4, 3) := by decide +kernel
theorem dX9_claims_143 : decode cX9_claims 143 = .ok (.iconst 0, 1) := by decide +kernel
theorem dX9_claims_144 : decode cX9_claims 144 = .ok (.iadd, 1) := by decide +kernel
theorem dX9_claims_145 : decode cX9_claims 145 = .ok (.istore 5, 2) := by decide +kernel
theorem dX9_claims_147 : decode cX9_claims 147 = .ok (.iinc 6 1, 3) := by decide +kernel
theorem dX9_claims_150 : decode cX9_claims 150 = .ok (.goto (-86), 3) := by decide +kernel
theorem dX9_claims_153 : decode cX9_claims 153 = .ok (.iload 5, 2) := by decide +kernel
theorem dX9_claims_155 : decode cX9_claims 155 = .ok (.ireturn, 1) := by decide +kernel
theorem dX9_isUnder_0 : decode cX9_isUnder 0 = .ok (.iload_n 1, 1) := by decide +kernel
theorem dX9_isUnder_1 : decode cX9_isUnder 1 = .ok (.ifCond .eq 28, 3) := by decide +kernel
theorem dX9_isUnder_4 : decode cX9_isUnder 4 = .ok (.iload_n 0, 1) := by decide +kernel
theorem dX9_isUnder_5 : decode cX9_isUnder 5 = .ok (.iload_n 1, 1) := by decide +kernel
theorem dX9_isUnder_6 : decode cX9_isUnder 6 = .ok (.if_icmp .eq 23, 3) := by decide +kernel
theorem dX9_isUnder_9 : decode cX9_isUnder 9 = .ok (.iload_n 1, 1) := by decide +kernel
theorem dX9_isUnder_10 : decode cX9_isUnder 10 = .ok (.iconst 1, 1) := by decide +kernel
theorem dX9_isUnder_11 : decode cX9_isUnder 11 = .ok (.if_icmp .ne 8, 3) := by decide +kernel
theorem dX9_isUnder_14 : decode cX9_isUnder 14 = .ok (.iload_n 0, 1) := by decide +kernel
theorem dX9_isUnder_15 : decode cX9_isUnder 15 = .ok (.iconst 3, 1) := by decide +kernel
theorem dX9_isUnder_16 : decode cX9_isUnder 16 = .ok (.if_icmp .eq 13, 3) := by decide +kernel
theorem dX9_isUnder_19 : decode cX9_isUnder 19 = .ok (.iload_n 1, 1) := by decide +kernel
theorem dX9_isUnder_20 : decode cX9_isUnder 20 = .ok (.iconst 2, 1) := by decide +kernel
theorem dX9_isUnder_21 : decode cX9_isUnder 21 = .ok (.if_icmp .ne 12, 3) := by decide +kernel
theorem dX9_isUnder_24 : decode cX9_isUnder 24 = .ok (.iload_n 0, 1) := by decide +kernel
theorem dX9_isUnder_25 : decode cX9_isUnder 25 = .ok (.iconst 4, 1) := by decide +kernel
theorem dX9_isUnder_26 : decode cX9_isUnder 26 = .ok (.if_icmp .ne 7, 3) := by decide +kernel
theorem dX9_isUnder_29 : decode cX9_isUnder 29 = .ok (.iconst 1, 1) := by decide +kernel
theorem dX9_isUnder_30 : decode cX9_isUnder 30 = .ok (.goto 4, 3) := by decide +kernel
theorem dX9_isUnder_33 : decode cX9_isUnder 33 = .ok (.iconst 0, 1) := by decide +kernel
theorem dX9_isUnder_34 : decode cX9_isUnder 34 = .ok (.ireturn, 1) := by decide +kernel
set_option maxRecDepth 20000 in
theorem ggX9_taken_X9_in : GoodIn wsX9_taken wsX9_in := goodIn_r _ [7] (by decide +kernel) (by decide +kernel)
set_option maxRecDepth 20000 in
theorem gX9_taken_X9_in : GoodIn wsX9_taken (va_wsS RX9 83 yX9_in wsX9_in) := goodIn_app (goodIn_of _ (by decide +kernel)) ggX9_taken_X9_in
set_option maxRecDepth 20000 in
theorem ggX9_taken_X9_count : GoodIn wsX9_taken wsX9_count := goodIn_r _ [11, 12, 13, 14, 15, 19, 20, 21, 22, 23, 24, 25, 26, 27, 28, 29, 30, 31, 32, 33, 34, 35, 36, 37, 38, 39, 40, 41, 42, 43, 44, 45, 46, 47, 48, 49, 50] (by decide +kernel) (by decide +kernel)
set_option maxRecDepth 20000 in
theorem gX9_taken_X9_count : GoodIn wsX9_taken (wsV RX9 246 RX9 yX9_count wsX9_count) := goodIn_app (goodIn_of _ (by decide +kernel)) ggX9_taken_X9_count
set_option maxRecDepth 20000 in
theorem ggX9_taken_X9_isUnder : GoodIn wsX9_taken wsX9_isUnder := goodIn_r _ [18] (by decide +kernel) (by decide +kernel)
set_option maxRecDepth 20000 in
theorem gX9_taken_X9_isUnder : GoodIn wsX9_taken (va_wsS RX9 249 yX9_isUnder wsX9_isUnder) := goodIn_app (goodIn_of _ (by decide +kernel)) ggX9_taken_X9_isUnder
theorem dX9_taken_0 : decode cX9_taken 0 = .ok (.iload_n 1, 1) := by decide +kernel
theorem dX9_taken_1 : decode cX9_taken 1 = .ok (.iconst 0, 1) := by decide +kernel
theorem dX9_taken_2 : decode cX9_taken 2 = .ok (.iconst 2, 1) := by decide +kernel
theorem dX9_taken_3 : decode cX9_taken 3 = .ok (.invokestatic 83, 3) := by decide +kernel
theorem dX9_taken_6 : decode cX9_taken 6 = .ok (.ifCond .eq 13, 3) := by decide +kernel
theorem dX9_taken_9 : decode cX9_taken 9 = .ok (.iload_n 3, 1) := by decide +kernel
theorem dX9_taken_10 : decode cX9_taken 10 = .ok (.iconst 0, 1) := by decide +kernel
theorem dX9_taken_11 : decode cX9_taken 11 = .ok (.bipush 7, 2) := by decide +kernel
theorem dX9_taken_13 : decode cX9_taken 13 = .ok (.invokestatic 83, 3) := by decide +kernel
theorem dX9_taken_16 : decode cX9_taken 16 = .ok (.ifCond .ne 6, 3) := by decide +kernel
theorem dX9_taken_19 : decode cX9_taken 19 = .ok (.bipush (-2), 2) := by decide +kernel
theorem dX9_taken_21 : decode cX9_taken 21 = .ok (.ireturn, 1) := by decide +kernel
theorem dX9_taken_22 : decode cX9_taken 22 = .ok (.iload_n 2, 1) := by decide +kernel
theorem dX9_taken_23 : decode cX9_taken 23 = .ok (.iconst 0, 1) := by decide +kernel
theorem dX9_taken_24 : decode cX9_taken 24 = .ok (.aload_n 0, 1) := by decide +kernel
theorem dX9_taken_25 : decode cX9_taken 25 = .ok (.iload_n 1, 1) := by decide +kernel
theorem dX9_taken_26 : decode cX9_taken 26 = .ok (.invokevirtual 246, 3) := by decide +kernel
theorem dX9_taken_29 : decode cX9_taken 29 = .ok (.iconst 1, 1) := by decide +kernel
theorem dX9_taken_30 : decode cX9_taken 30 = .ok (.isub, 1) := by decide +kernel
theorem dX9_taken_31 : decode cX9_taken 31 = .ok (.invokestatic 83, 3) := by decide +kernel
theorem dX9_taken_34 : decode cX9_taken 34 = .ok (.ifCond .ne 6, 3) := by decide +kernel
theorem dX9_taken_37 : decode cX9_taken 37 = .ok (.bipush (-11), 2) := by decide +kernel
theorem dX9_taken_39 : decode cX9_taken 39 = .ok (.ireturn, 1) := by decide +kernel
theorem dX9_taken_40 : decode cX9_taken 40 = .ok (.iload_n 1, 1) := by decide +kernel
theorem dX9_taken_41 : decode cX9_taken 41 = .ok (.ifCond .ne 34, 3) := by decide +kernel
theorem dX9_taken_44 : decode cX9_taken 44 = .ok (.iload_n 3, 1) := by decide +kernel
theorem dX9_taken_45 : decode cX9_taken 45 = .ok (.bipush 6, 2) := by decide +kernel
theorem dX9_taken_47 : decode cX9_taken 47 = .ok (.if_icmp .ge 25, 3) := by decide +kernel
theorem dX9_taken_50 : decode cX9_taken 50 = .ok (.aload_n 0, 1) := by decide +kernel
theorem dX9_taken_51 : decode cX9_taken 51 = .ok (.getfield 28, 3) := by decide +kernel
theorem dX9_taken_54 : decode cX9_taken 54 = .ok (.iload_n 2, 1) := by decide +kernel
theorem dX9_taken_55 : decode cX9_taken 55 = .ok (.iaload, 1) := by decide +kernel
theorem dX9_taken_56 : decode cX9_taken 56 = .ok (.iload_n 3, 1) := by decide +kernel
theorem dX9_taken_57 : decode cX9_taken 57 = .ok (.invokestatic 249, 3) := by decide +kernel
theorem dX9_taken_60 : decode cX9_taken 60 = .ok (.ifCond .eq 12, 3) := by decide +kernel
theorem dX9_taken_63 : decode cX9_taken 63 = .ok (.aload_n 0, 1) := by decide +kernel
theorem dX9_taken_64 : decode cX9_taken 64 = .ok (.getfield 28, 3) := by decide +kernel
theorem dX9_taken_67 : decode cX9_taken 67 = .ok (.iload_n 2, 1) := by decide +kernel
theorem dX9_taken_68 : decode cX9_taken 68 = .ok (.iaload, 1) := by decide +kernel
theorem dX9_taken_69 : decode cX9_taken 69 = .ok (.goto 5, 3) := by decide +kernel
theorem dX9_taken_72 : decode cX9_taken 72 = .ok (.bipush (-13), 2) := by decide +kernel
theorem dX9_taken_74 : decode cX9_taken 74 = .ok (.ireturn, 1) := by decide +kernel
theorem dX9_taken_75 : decode cX9_taken 75 = .ok (.iload_n 1, 1) := by decide +kernel
theorem dX9_taken_76 : decode cX9_taken 76 = .ok (.iconst 1, 1) := by decide +kernel
theorem dX9_taken_77 : decode cX9_taken 77 = .ok (.if_icmp .ne 23, 3) := by decide +kernel
theorem dX9_taken_80 : decode cX9_taken 80 = .ok (.iload_n 3, 1) := by decide +kernel
theorem dX9_taken_81 : decode cX9_taken 81 = .ok (.bipush 6, 2) := by decide +kernel
theorem dX9_taken_83 : decode cX9_taken 83 = .ok (.if_icmp .ne 12, 3) := by decide +kernel
theorem dX9_taken_86 : decode cX9_taken 86 = .ok (.aload_n 0, 1) := by decide +kernel
theorem dX9_taken_87 : decode cX9_taken 87 = .ok (.getfield 22, 3) := by decide +kernel
theorem dX9_taken_90 : decode cX9_taken 90 = .ok (.iload_n 2, 1) := by decide +kernel
theorem dX9_taken_91 : decode cX9_taken 91 = .ok (.iaload, 1) := by decide +kernel
theorem dX9_taken_92 : decode cX9_taken 92 = .ok (.goto 25, 3) := by decide +kernel
theorem dX9_taken_95 : decode cX9_taken 95 = .ok (.bipush (-13), 2) := by decide +kernel
theorem dX9_taken_97 : decode cX9_taken 97 = .ok (.goto 20, 3) := by decide +kernel
theorem dX9_taken_100 : decode cX9_taken 100 = .ok (.iload_n 3, 1) := by decide +kernel
theorem dX9_taken_101 : decode cX9_taken 101 = .ok (.bipush 7, 2) := by decide +kernel
theorem dX9_taken_103 : decode cX9_taken 103 = .ok (.if_icmp .ne 12, 3) := by decide +kernel
theorem dX9_taken_106 : decode cX9_taken 106 = .ok (.aload_n 0, 1) := by decide +kernel
theorem dX9_taken_107 : decode cX9_taken 107 = .ok (.getfield 55, 3) := by decide +kernel
theorem dX9_taken_110 : decode cX9_taken 110 = .ok (.iload_n 2, 1) := by decide +kernel
theorem dX9_taken_111 : decode cX9_taken 111 = .ok (.iaload, 1) := by decide +kernel
theorem dX9_taken_112 : decode cX9_taken 112 = .ok (.goto 5, 3) := by decide +kernel
theorem dX9_taken_115 : decode cX9_taken 115 = .ok (.bipush (-13), 2) := by decide +kernel
theorem dX9_taken_117 : decode cX9_taken 117 = .ok (.ireturn, 1) := by decide +kernel
theorem dJ6_bitCount_0f7a4_0 : decode cJ6_bitCount_0f7a4 0 = .ok (.iload_n 0, 1) := by decide +kernel
theorem dJ6_bitCount_0f7a4_1 : decode cJ6_bitCount_0f7a4 1 = .ok (.iload_n 0, 1) := by decide +kernel
theorem dJ6_bitCount_0f7a4_2 : decode cJ6_bitCount_0f7a4 2 = .ok (.iconst 1, 1) := by decide +kernel
theorem dJ6_bitCount_0f7a4_3 : decode cJ6_bitCount_0f7a4 3 = .ok (.iushr, 1) := by decide +kernel
theorem dJ6_bitCount_0f7a4_4 : decode cJ6_bitCount_0f7a4 4 = .ok (.ldc_w 265, 3) := by decide +kernel
theorem dJ6_bitCount_0f7a4_7 : decode cJ6_bitCount_0f7a4 7 = .ok (.iand, 1) := by decide +kernel
theorem dJ6_bitCount_0f7a4_8 : decode cJ6_bitCount_0f7a4 8 = .ok (.isub, 1) := by decide +kernel
theorem dJ6_bitCount_0f7a4_9 : decode cJ6_bitCount_0f7a4 9 = .ok (.istore_n 0, 1) := by decide +kernel
theorem dJ6_bitCount_0f7a4_10 : decode cJ6_bitCount_0f7a4 10 = .ok (.iload_n 0, 1) := by decide +kernel
theorem dJ6_bitCount_0f7a4_11 : decode cJ6_bitCount_0f7a4 11 = .ok (.ldc_w 266, 3) := by decide +kernel
theorem dJ6_bitCount_0f7a4_14 : decode cJ6_bitCount_0f7a4 14 = .ok (.iand, 1) := by decide +kernel
theorem dJ6_bitCount_0f7a4_15 : decode cJ6_bitCount_0f7a4 15 = .ok (.iload_n 0, 1) := by decide +kernel
theorem dJ6_bitCount_0f7a4_16 : decode cJ6_bitCount_0f7a4 16 = .ok (.iconst 2, 1) := by decide +kernel
theorem dJ6_bitCount_0f7a4_17 : decode cJ6_bitCount_0f7a4 17 = .ok (.iushr, 1) := by decide +kernel
theorem dJ6_bitCount_0f7a4_18 : decode cJ6_bitCount_0f7a4 18 = .ok (.ldc_w 266, 3) := by decide +kernel
theorem dJ6_bitCount_0f7a4_21 : decode cJ6_bitCount_0f7a4 21 = .ok (.iand, 1) := by decide +kernel
theorem dJ6_bitCount_0f7a4_22 : decode cJ6_bitCount_0f7a4 22 = .ok (.iadd, 1) := by decide +kernel
theorem dJ6_bitCount_0f7a4_23 : decode cJ6_bitCount_0f7a4 23 = .ok (.istore_n 0, 1) := by decide +kernel
theorem dJ6_bitCount_0f7a4_24 : decode cJ6_bitCount_0f7a4 24 = .ok (.iload_n 0, 1) := by decide +kernel
theorem dJ6_bitCount_0f7a4_25 : decode cJ6_bitCount_0f7a4 25 = .ok (.iload_n 0, 1) := by decide +kernel
theorem dJ6_bitCount_0f7a4_26 : decode cJ6_bitCount_0f7a4 26 = .ok (.iconst 4, 1) := by decide +kernel
theorem dJ6_bitCount_0f7a4_27 : decode cJ6_bitCount_0f7a4 27 = .ok (.iushr, 1) := by decide +kernel
theorem dJ6_bitCount_0f7a4_28 : decode cJ6_bitCount_0f7a4 28 = .ok (.iadd, 1) := by decide +kernel
theorem dJ6_bitCount_0f7a4_29 : decode cJ6_bitCount_0f7a4 29 = .ok (.ldc_w 267, 3) := by decide +kernel
theorem dJ6_bitCount_0f7a4_32 : decode cJ6_bitCount_0f7a4 32 = .ok (.iand, 1) := by decide +kernel
theorem dJ6_bitCount_0f7a4_33 : decode cJ6_bitCount_0f7a4 33 = .ok (.istore_n 0, 1) := by decide +kernel
theorem dJ6_bitCount_0f7a4_34 : decode cJ6_bitCount_0f7a4 34 = .ok (.iload_n 0, 1) := by decide +kernel
theorem dJ6_bitCount_0f7a4_35 : decode cJ6_bitCount_0f7a4 35 = .ok (.iload_n 0, 1) := by decide +kernel
theorem dJ6_bitCount_0f7a4_36 : decode cJ6_bitCount_0f7a4 36 = .ok (.bipush 8, 2) := by decide +kernel
theorem dJ6_bitCount_0f7a4_38 : decode cJ6_bitCount_0f7a4 38 = .ok (.iushr, 1) := by decide +kernel
theorem dJ6_bitCount_0f7a4_39 : decode cJ6_bitCount_0f7a4 39 = .ok (.iadd, 1) := by decide +kernel
theorem dJ6_bitCount_0f7a4_40 : decode cJ6_bitCount_0f7a4 40 = .ok (.istore_n 0, 1) := by decide +kernel
theorem dJ6_bitCount_0f7a4_41 : decode cJ6_bitCount_0f7a4 41 = .ok (.iload_n 0, 1) := by decide +kernel
theorem dJ6_bitCount_0f7a4_42 : decode cJ6_bitCount_0f7a4 42 = .ok (.iload_n 0, 1) := by decide +kernel
theorem dJ6_bitCount_0f7a4_43 : decode cJ6_bitCount_0f7a4 43 = .ok (.bipush 16, 2) := by decide +kernel
theorem dJ6_bitCount_0f7a4_45 : decode cJ6_bitCount_0f7a4 45 = .ok (.iushr, 1) := by decide +kernel
theorem dJ6_bitCount_0f7a4_46 : decode cJ6_bitCount_0f7a4 46 = .ok (.iadd, 1) := by decide +kernel
theorem dJ6_bitCount_0f7a4_47 : decode cJ6_bitCount_0f7a4 47 = .ok (.istore_n 0, 1) := by decide +kernel
theorem dJ6_bitCount_0f7a4_48 : decode cJ6_bitCount_0f7a4 48 = .ok (.iload_n 0, 1) := by decide +kernel
theorem dJ6_bitCount_0f7a4_49 : decode cJ6_bitCount_0f7a4 49 = .ok (.bipush 63, 2) := by decide +kernel
theorem dJ6_bitCount_0f7a4_51 : decode cJ6_bitCount_0f7a4 51 = .ok (.iand, 1) := by decide +kernel
theorem dJ6_bitCount_0f7a4_52 : decode cJ6_bitCount_0f7a4 52 = .ok (.ireturn, 1) := by decide +kernel
theorem dJ9_abs_0f7a4_0 : decode cJ9_abs_0f7a4 0 = .ok (.iload_n 0, 1) := by decide +kernel
theorem dJ9_abs_0f7a4_1 : decode cJ9_abs_0f7a4 1 = .ok (.ifCond .ge 8, 3) := by decide +kernel
theorem dJ9_abs_0f7a4_4 : decode cJ9_abs_0f7a4 4 = .ok (.iload_n 0, 1) := by decide +kernel
theorem dJ9_abs_0f7a4_5 : decode cJ9_abs_0f7a4 5 = .ok (.ineg, 1) := by decide +kernel
theorem dJ9_abs_0f7a4_6 : decode cJ9_abs_0f7a4 6 = .ok (.goto 4, 3) := by decide +kernel
theorem dJ9_abs_0f7a4_9 : decode cJ9_abs_0f7a4 9 = .ok (.iload_n 0, 1) := by decide +kernel
theorem dJ9_abs_0f7a4_10 : decode cJ9_abs_0f7a4 10 = .ok (.ireturn, 1) := by decide +kernel
theorem dJ9_min_7cf53_0 : decode cJ9_min_7cf53 0 = .ok (.iload_n 0, 1) := by decide +kernel
theorem dJ9_min_7cf53_1 : decode cJ9_min_7cf53 1 = .ok (.iload_n 1, 1) := by decide +kernel
theorem dJ9_min_7cf53_2 : decode cJ9_min_7cf53 2 = .ok (.if_icmp .gt 7, 3) := by decide +kernel
theorem dJ9_min_7cf53_5 : decode cJ9_min_7cf53 5 = .ok (.iload_n 0, 1) := by decide +kernel
theorem dJ9_min_7cf53_6 : decode cJ9_min_7cf53 6 = .ok (.goto 4, 3) := by decide +kernel
theorem dJ9_min_7cf53_9 : decode cJ9_min_7cf53 9 = .ok (.iload_n 1, 1) := by decide +kernel
theorem dJ9_min_7cf53_10 : decode cJ9_min_7cf53 10 = .ok (.ireturn, 1) := by decide +kernel
theorem dJ7_fill_53178_0 : decode cJ7_fill_53178 0 = .ok (.iconst 0, 1) := by decide +kernel
theorem dJ7_fill_53178_1 : decode cJ7_fill_53178 1 = .ok (.istore_n 2, 1) := by decide +kernel
theorem dJ7_fill_53178_2 : decode cJ7_fill_53178 2 = .ok (.aload_n 0, 1) := by decide +kernel
theorem dJ7_fill_53178_3 : decode cJ7_fill_53178 3 = .ok (.arraylength, 1) := by decide +kernel
theorem dJ7_fill_53178_4 : decode cJ7_fill_53178 4 = .ok (.istore_n 3, 1) := by decide +kernel
theorem dJ7_fill_53178_5 : decode cJ7_fill_53178 5 = .ok (.iload_n 2, 1) := by decide +kernel
theorem dJ7_fill_53178_6 : decode cJ7_fill_53178 6 = .ok (.iload_n 3, 1) := by decide +kernel
theorem dJ7_fill_53178_7 : decode cJ7_fill_53178 7 = .ok (.if_icmp .ge 13, 3) := by decide +kernel
theorem dJ7_fill_53178_10 : decode cJ7_fill_53178 10 = .ok (.aload_n 0, 1) := by decide +kernel
theorem dJ7_fill_53178_11 : decode cJ7_fill_53178 11 = .ok (.iload_n 2, 1) := by decide +kernel
theorem dJ7_fill_53178_12 : decode cJ7_fill_53178 12 = .ok (.iload_n 1, 1) := by decide +kernel
theorem dJ7_fill_53178_13 : decode cJ7_fill_53178 13 = .ok (.iastore, 1) := by decide +kernel
theorem dJ7_fill_53178_14 : decode cJ7_fill_53178 14 = .ok (.iinc 2 1, 3) := by decide +kernel
theorem dJ7_fill_53178_17 : decode cJ7_fill_53178 17 = .ok (.goto (-12), 3) := by decide +kernel
theorem dJ7_fill_53178_20 : decode cJ7_fill_53178 20 = .ok (.return_, 1) := by decide +kernel
abbrev vwCl : List vw_C := [(RX0, TX0, 4), (RX1, TX1, 2), (RX3, TX3, 1), (RX4, TX4, 5), (RX5, TX5, 3), (RX6, TX6, 4), (RX7, TX7, 8), (RX8, TX8, 15), (RX9, TX9, 32)]
