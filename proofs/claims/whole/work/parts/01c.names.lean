theorem dX8_heap_159 : decode cX8_heap 159 = .ok (.getfield 33, 3) := by decide +kernel
theorem dX8_heap_162 : decode cX8_heap 162 = .ok (.invokevirtual 243, 3) := by decide +kernel
theorem dX8_heap_165 : decode cX8_heap 165 = .ok (.istore 10, 2) := by decide +kernel
theorem dX8_heap_167 : decode cX8_heap 167 = .ok (.iload 10, 2) := by decide +kernel
theorem dX8_heap_169 : decode cX8_heap 169 = .ok (.ifCond .eq 6, 3) := by decide +kernel
theorem dX8_heap_172 : decode cX8_heap 172 = .ok (.iinc 8 1, 3) := by decide +kernel
theorem dX8_heap_175 : decode cX8_heap 175 = .ok (.iinc 9 1, 3) := by decide +kernel
theorem dX8_heap_178 : decode cX8_heap 178 = .ok (.goto (-114), 3) := by decide +kernel
theorem dX8_heap_181 : decode cX8_heap 181 = .ok (.iload 8, 2) := by decide +kernel
theorem dX8_heap_183 : decode cX8_heap 183 = .ok (.ireturn, 1) := by decide +kernel
set_option maxRecDepth 20000 in
theorem ggX8_apart_X8_recipeAt : GoodIn wsX8_apart wsX8_recipeAt := goodIn_r _ [9, 10, 11, 94, 95, 96, 97, 98, 99, 100, 101, 102, 103, 104, 105, 106, 107, 108] (by decide +kernel) (by decide +kernel)
set_option maxRecDepth 20000 in
theorem gX8_apart_X8_recipeAt : GoodIn wsX8_apart (wsV RX8 90 RX8 yX8_recipeAt wsX8_recipeAt) := goodIn_app (goodIn_of _ (by decide +kernel)) ggX8_apart_X8_recipeAt
set_option maxRecDepth 20000 in
theorem ggX8_apart_X8_isHeap : GoodIn wsX8_apart wsX8_isHeap := goodIn_r _ [14, 15] (by decide +kernel) (by decide +kernel)
set_option maxRecDepth 20000 in
theorem gX8_apart_X8_isHeap : GoodIn wsX8_apart (va_wsS RX8 247 yX8_isHeap wsX8_isHeap) := goodIn_app (goodIn_of _ (by decide +kernel)) ggX8_apart_X8_isHeap
set_option maxRecDepth 20000 in
theorem ggX8_apart_X3_fill : GoodIn wsX8_apart wsX3_fill := goodIn_r _ [20, 21, 22, 23, 24, 25, 26, 27, 28, 29, 30, 31, 32, 33, 34, 35, 36, 37, 38, 39, 40, 19, 41, 42, 43, 44, 45, 46, 47, 48, 49, 50, 51, 52, 53, 54, 55, 56, 57, 58, 59, 60, 61, 62, 63, 64, 65, 66, 67, 68, 69, 70, 71, 72, 73, 74, 75, 76, 77, 78, 79, 80, 81, 109, 110, 111, 112, 113, 114, 115, 116, 117, 118, 119, 120, 121, 122] (by decide +kernel) (by decide +kernel)
set_option maxRecDepth 20000 in
theorem gX8_apart_X3_fill : GoodIn wsX8_apart (wsV RX8 113 RX3 yX3_fill wsX3_fill) := goodIn_app (goodIn_of _ (by decide +kernel)) ggX8_apart_X3_fill
set_option maxRecDepth 20000 in
theorem ggX8_apart_X7_sign : GoodIn wsX8_apart wsX7_sign := goodIn_r _ [85, 33, 86, 87, 88, 30, 89, 34, 80, 81, 115, 116, 117, 118, 119, 120, 121, 122] (by decide +kernel) (by decide +kernel)
set_option maxRecDepth 20000 in
theorem gX8_apart_X7_sign : GoodIn wsX8_apart (wsV RX8 250 RX7 yX7_sign wsX7_sign) := goodIn_app (goodIn_of _ (by decide +kernel)) ggX8_apart_X7_sign
set_option maxRecDepth 20000 in
theorem ggX8_apart_X8_rightBy : GoodIn wsX8_apart wsX8_rightBy := goodIn_r _ [93, 3, 4, 94, 95, 96, 97, 98, 99, 100, 101, 102, 103, 104, 105, 106, 107, 108] (by decide +kernel) (by decide +kernel)
set_option maxRecDepth 20000 in
theorem gX8_apart_X8_rightBy : GoodIn wsX8_apart (wsV RX8 253 RX8 yX8_rightBy wsX8_rightBy) := goodIn_app (goodIn_of _ (by decide +kernel)) ggX8_apart_X8_rightBy
theorem dX8_apart_0 : decode cX8_apart 0 = .ok (.aload_n 0, 1) := by decide +kernel
theorem dX8_apart_1 : decode cX8_apart 1 = .ok (.iload_n 1, 1) := by decide +kernel
theorem dX8_apart_2 : decode cX8_apart 2 = .ok (.invokevirtual 90, 3) := by decide +kernel
theorem dX8_apart_5 : decode cX8_apart 5 = .ok (.astore 6, 2) := by decide +kernel
theorem dX8_apart_7 : decode cX8_apart 7 = .ok (.aload_n 0, 1) := by decide +kernel
theorem dX8_apart_8 : decode cX8_apart 8 = .ok (.iload_n 2, 1) := by decide +kernel
theorem dX8_apart_9 : decode cX8_apart 9 = .ok (.invokevirtual 90, 3) := by decide +kernel
theorem dX8_apart_12 : decode cX8_apart 12 = .ok (.astore 7, 2) := by decide +kernel
theorem dX8_apart_14 : decode cX8_apart 14 = .ok (.aload 6, 2) := by decide +kernel
theorem dX8_apart_16 : decode cX8_apart 16 = .ok (.ifnull 8, 3) := by decide +kernel
theorem dX8_apart_19 : decode cX8_apart 19 = .ok (.aload 7, 2) := by decide +kernel
theorem dX8_apart_21 : decode cX8_apart 21 = .ok (.ifnonnull 6, 3) := by decide +kernel
theorem dX8_apart_24 : decode cX8_apart 24 = .ok (.bipush (-5), 2) := by decide +kernel
theorem dX8_apart_26 : decode cX8_apart 26 = .ok (.ireturn, 1) := by decide +kernel
theorem dX8_apart_27 : decode cX8_apart 27 = .ok (.iload_n 3, 1) := by decide +kernel
theorem dX8_apart_28 : decode cX8_apart 28 = .ok (.iload 4, 2) := by decide +kernel
theorem dX8_apart_30 : decode cX8_apart 30 = .ok (.invokestatic 247, 3) := by decide +kernel
theorem dX8_apart_33 : decode cX8_apart 33 = .ok (.ifCond .eq 14, 3) := by decide +kernel
theorem dX8_apart_36 : decode cX8_apart 36 = .ok (.iload 5, 2) := by decide +kernel
theorem dX8_apart_38 : decode cX8_apart 38 = .ok (.ifCond .lt 9, 3) := by decide +kernel
theorem dX8_apart_41 : decode cX8_apart 41 = .ok (.iload 5, 2) := by decide +kernel
theorem dX8_apart_43 : decode cX8_apart 43 = .ok (.iconst 1, 1) := by decide +kernel
theorem dX8_apart_44 : decode cX8_apart 44 = .ok (.if_icmp .le 6, 3) := by decide +kernel
theorem dX8_apart_47 : decode cX8_apart 47 = .ok (.bipush (-2), 2) := by decide +kernel
theorem dX8_apart_49 : decode cX8_apart 49 = .ok (.ireturn, 1) := by decide +kernel
theorem dX8_apart_50 : decode cX8_apart 50 = .ok (.iconst 0, 1) := by decide +kernel
theorem dX8_apart_51 : decode cX8_apart 51 = .ok (.istore 8, 2) := by decide +kernel
theorem dX8_apart_53 : decode cX8_apart 53 = .ok (.iload 8, 2) := by decide +kernel
theorem dX8_apart_55 : decode cX8_apart 55 = .ok (.iload 4, 2) := by decide +kernel
theorem dX8_apart_57 : decode cX8_apart 57 = .ok (.if_icmp .ge 71, 3) := by decide +kernel
theorem dX8_apart_60 : decode cX8_apart 60 = .ok (.aload_n 0, 1) := by decide +kernel
theorem dX8_apart_61 : decode cX8_apart 61 = .ok (.getfield 19, 3) := by decide +kernel
theorem dX8_apart_64 : decode cX8_apart 64 = .ok (.aload_n 0, 1) := by decide +kernel
theorem dX8_apart_65 : decode cX8_apart 65 = .ok (.getfield 33, 3) := by decide +kernel
theorem dX8_apart_68 : decode cX8_apart 68 = .ok (.aload 6, 2) := by decide +kernel
theorem dX8_apart_70 : decode cX8_apart 70 = .ok (.iload_n 3, 1) := by decide +kernel
theorem dX8_apart_71 : decode cX8_apart 71 = .ok (.iload 8, 2) := by decide +kernel
theorem dX8_apart_73 : decode cX8_apart 73 = .ok (.iadd, 1) := by decide +kernel
theorem dX8_apart_74 : decode cX8_apart 74 = .ok (.invokevirtual 113, 3) := by decide +kernel
theorem dX8_apart_77 : decode cX8_apart 77 = .ok (.aload_n 0, 1) := by decide +kernel
theorem dX8_apart_78 : decode cX8_apart 78 = .ok (.getfield 37, 3) := by decide +kernel
theorem dX8_apart_81 : decode cX8_apart 81 = .ok (.iload 8, 2) := by decide +kernel
theorem dX8_apart_83 : decode cX8_apart 83 = .ok (.aload_n 0, 1) := by decide +kernel
theorem dX8_apart_84 : decode cX8_apart 84 = .ok (.getfield 33, 3) := by decide +kernel
theorem dX8_apart_87 : decode cX8_apart 87 = .ok (.invokevirtual 250, 3) := by decide +kernel
theorem dX8_apart_90 : decode cX8_apart 90 = .ok (.iastore, 1) := by decide +kernel
theorem dX8_apart_91 : decode cX8_apart 91 = .ok (.aload_n 0, 1) := by decide +kernel
theorem dX8_apart_92 : decode cX8_apart 92 = .ok (.getfield 19, 3) := by decide +kernel
theorem dX8_apart_95 : decode cX8_apart 95 = .ok (.aload_n 0, 1) := by decide +kernel
theorem dX8_apart_96 : decode cX8_apart 96 = .ok (.getfield 33, 3) := by decide +kernel
theorem dX8_apart_99 : decode cX8_apart 99 = .ok (.aload 7, 2) := by decide +kernel
theorem dX8_apart_101 : decode cX8_apart 101 = .ok (.iload_n 3, 1) := by decide +kernel
theorem dX8_apart_102 : decode cX8_apart 102 = .ok (.iload 8, 2) := by decide +kernel
theorem dX8_apart_104 : decode cX8_apart 104 = .ok (.iadd, 1) := by decide +kernel
theorem dX8_apart_105 : decode cX8_apart 105 = .ok (.invokevirtual 113, 3) := by decide +kernel
theorem dX8_apart_108 : decode cX8_apart 108 = .ok (.aload_n 0, 1) := by decide +kernel
theorem dX8_apart_109 : decode cX8_apart 109 = .ok (.getfield 41, 3) := by decide +kernel
theorem dX8_apart_112 : decode cX8_apart 112 = .ok (.iload 8, 2) := by decide +kernel
theorem dX8_apart_114 : decode cX8_apart 114 = .ok (.aload_n 0, 1) := by decide +kernel
theorem dX8_apart_115 : decode cX8_apart 115 = .ok (.getfield 33, 3) := by decide +kernel
theorem dX8_apart_118 : decode cX8_apart 118 = .ok (.invokevirtual 250, 3) := by decide +kernel
theorem dX8_apart_121 : decode cX8_apart 121 = .ok (.iastore, 1) := by decide +kernel
theorem dX8_apart_122 : decode cX8_apart 122 = .ok (.iinc 8 1, 3) := by decide +kernel
theorem dX8_apart_125 : decode cX8_apart 125 = .ok (.goto (-72), 3) := by decide +kernel
theorem dX8_apart_128 : decode cX8_apart 128 = .ok (.iconst (-1), 1) := by decide +kernel
theorem dX8_apart_129 : decode cX8_apart 129 = .ok (.istore 8, 2) := by decide +kernel
theorem dX8_apart_131 : decode cX8_apart 131 = .ok (.aload_n 0, 1) := by decide +kernel
theorem dX8_apart_132 : decode cX8_apart 132 = .ok (.iconst (-1), 1) := by decide +kernel
theorem dX8_apart_133 : decode cX8_apart 133 = .ok (.iload 4, 2) := by decide +kernel
theorem dX8_apart_135 : decode cX8_apart 135 = .ok (.invokevirtual 253, 3) := by decide +kernel
theorem dX8_apart_138 : decode cX8_apart 138 = .ok (.istore 9, 2) := by decide +kernel
theorem dX8_apart_140 : decode cX8_apart 140 = .ok (.iconst 0, 1) := by decide +kernel
theorem dX8_apart_141 : decode cX8_apart 141 = .ok (.istore 10, 2) := by decide +kernel
theorem dX8_apart_143 : decode cX8_apart 143 = .ok (.iload 10, 2) := by decide +kernel
theorem dX8_apart_145 : decode cX8_apart 145 = .ok (.iconst 2, 1) := by decide +kernel
theorem dX8_apart_146 : decode cX8_apart 146 = .ok (.iload 4, 2) := by decide +kernel
theorem dX8_apart_148 : decode cX8_apart 148 = .ok (.imul, 1) := by decide +kernel
theorem dX8_apart_149 : decode cX8_apart 149 = .ok (.if_icmp .ge 77, 3) := by decide +kernel
theorem dX8_apart_152 : decode cX8_apart 152 = .ok (.iload 10, 2) := by decide +kernel
theorem dX8_apart_154 : decode cX8_apart 154 = .ok (.iload 4, 2) := by decide +kernel
theorem dX8_apart_156 : decode cX8_apart 156 = .ok (.if_icmp .ge 13, 3) := by decide +kernel
theorem dX8_apart_159 : decode cX8_apart 159 = .ok (.aload_n 0, 1) := by decide +kernel
theorem dX8_apart_160 : decode cX8_apart 160 = .ok (.getfield 37, 3) := by decide +kernel
theorem dX8_apart_163 : decode cX8_apart 163 = .ok (.iload 10, 2) := by decide +kernel
theorem dX8_apart_165 : decode cX8_apart 165 = .ok (.iaload, 1) := by decide +kernel
theorem dX8_apart_166 : decode cX8_apart 166 = .ok (.goto 13, 3) := by decide +kernel
theorem dX8_apart_169 : decode cX8_apart 169 = .ok (.aload_n 0, 1) := by decide +kernel
theorem dX8_apart_170 : decode cX8_apart 170 = .ok (.getfield 41, 3) := by decide +kernel
theorem dX8_apart_173 : decode cX8_apart 173 = .ok (.iload 10, 2) := by decide +kernel
theorem dX8_apart_175 : decode cX8_apart 175 = .ok (.iload 4, 2) := by decide +kernel
theorem dX8_apart_177 : decode cX8_apart 177 = .ok (.isub, 1) := by decide +kernel
theorem dX8_apart_178 : decode cX8_apart 178 = .ok (.iaload, 1) := by decide +kernel
theorem dX8_apart_179 : decode cX8_apart 179 = .ok (.istore 11, 2) := by decide +kernel
theorem dX8_apart_181 : decode cX8_apart 181 = .ok (.aload_n 0, 1) := by decide +kernel
theorem dX8_apart_182 : decode cX8_apart 182 = .ok (.iload 11, 2) := by decide +kernel
theorem dX8_apart_184 : decode cX8_apart 184 = .ok (.iload 4, 2) := by decide +kernel
theorem dX8_apart_186 : decode cX8_apart 186 = .ok (.invokevirtual 253, 3) := by decide +kernel
theorem dX8_apart_189 : decode cX8_apart 189 = .ok (.istore 12, 2) := by decide +kernel
theorem dX8_apart_191 : decode cX8_apart 191 = .ok (.iload 12, 2) := by decide +kernel
theorem dX8_apart_193 : decode cX8_apart 193 = .ok (.iload 9, 2) := by decide +kernel
theorem dX8_apart_195 : decode cX8_apart 195 = .ok (.if_icmp .gt 17, 3) := by decide +kernel
theorem dX8_apart_198 : decode cX8_apart 198 = .ok (.iload 12, 2) := by decide +kernel
theorem dX8_apart_200 : decode cX8_apart 200 = .ok (.iload 9, 2) := by decide +kernel
theorem dX8_apart_202 : decode cX8_apart 202 = .ok (.if_icmp .ne 18, 3) := by decide +kernel
theorem dX8_apart_205 : decode cX8_apart 205 = .ok (.iload 11, 2) := by decide +kernel
theorem dX8_apart_207 : decode cX8_apart 207 = .ok (.iload 8, 2) := by decide +kernel
theorem dX8_apart_209 : decode cX8_apart 209 = .ok (.if_icmp .ge 11, 3) := by decide +kernel
theorem dX8_apart_212 : decode cX8_apart 212 = .ok (.iload 11, 2) := by decide +kernel
theorem dX8_apart_214 : decode cX8_apart 214 = .ok (.istore 8, 2) := by decide +kernel
theorem dX8_apart_216 : decode cX8_apart 216 = .ok (.iload 12, 2) := by decide +kernel
theorem dX8_apart_218 : decode cX8_apart 218 = .ok (.istore 9, 2) := by decide +kernel
theorem dX8_apart_220 : decode cX8_apart 220 = .ok (.iinc 10 1, 3) := by decide +kernel
theorem dX8_apart_223 : decode cX8_apart 223 = .ok (.goto (-80), 3) := by decide +kernel
theorem dX8_apart_226 : decode cX8_apart 226 = .ok (.iload 5, 2) := by decide +kernel
theorem dX8_apart_228 : decode cX8_apart 228 = .ok (.ifCond .ne 8, 3) := by decide +kernel
theorem dX8_apart_231 : decode cX8_apart 231 = .ok (.iload 8, 2) := by decide +kernel
theorem dX8_apart_233 : decode cX8_apart 233 = .ok (.goto 5, 3) := by decide +kernel
theorem dX8_apart_236 : decode cX8_apart 236 = .ok (.iload 9, 2) := by decide +kernel
theorem dX8_apart_238 : decode cX8_apart 238 = .ok (.ireturn, 1) := by decide +kernel
theorem dX8_rightBy_0 : decode cX8_rightBy 0 = .ok (.iconst 0, 1) := by decide +kernel
theorem dX8_rightBy_1 : decode cX8_rightBy 1 = .ok (.istore_n 3, 1) := by decide +kernel
theorem dX8_rightBy_2 : decode cX8_rightBy 2 = .ok (.iconst 0, 1) := by decide +kernel
theorem dX8_rightBy_3 : decode cX8_rightBy 3 = .ok (.istore 4, 2) := by decide +kernel
theorem dX8_rightBy_5 : decode cX8_rightBy 5 = .ok (.iload 4, 2) := by decide +kernel
theorem dX8_rightBy_7 : decode cX8_rightBy 7 = .ok (.iload_n 2, 1) := by decide +kernel
theorem dX8_rightBy_8 : decode cX8_rightBy 8 = .ok (.if_icmp .ge 37, 3) := by decide +kernel
theorem dX8_rightBy_11 : decode cX8_rightBy 11 = .ok (.aload_n 0, 1) := by decide +kernel
theorem dX8_rightBy_12 : decode cX8_rightBy 12 = .ok (.getfield 37, 3) := by decide +kernel
theorem dX8_rightBy_15 : decode cX8_rightBy 15 = .ok (.iload 4, 2) := by decide +kernel
theorem dX8_rightBy_17 : decode cX8_rightBy 17 = .ok (.iaload, 1) := by decide +kernel
theorem dX8_rightBy_18 : decode cX8_rightBy 18 = .ok (.iload_n 1, 1) := by decide +kernel
theorem dX8_rightBy_19 : decode cX8_rightBy 19 = .ok (.if_icmp .le 6, 3) := by decide +kernel
theorem dX8_rightBy_22 : decode cX8_rightBy 22 = .ok (.iinc 3 1, 3) := by decide +kernel
theorem dX8_rightBy_25 : decode cX8_rightBy 25 = .ok (.aload_n 0, 1) := by decide +kernel
theorem dX8_rightBy_26 : decode cX8_rightBy 26 = .ok (.getfield 41, 3) := by decide +kernel
theorem dX8_rightBy_29 : decode cX8_rightBy 29 = .ok (.iload 4, 2) := by decide +kernel
theorem dX8_rightBy_31 : decode cX8_rightBy 31 = .ok (.iaload, 1) := by decide +kernel
theorem dX8_rightBy_32 : decode cX8_rightBy 32 = .ok (.iload_n 1, 1) := by decide +kernel
theorem dX8_rightBy_33 : decode cX8_rightBy 33 = .ok (.if_icmp .gt 6, 3) := by decide +kernel
theorem dX8_rightBy_36 : decode cX8_rightBy 36 = .ok (.iinc 3 1, 3) := by decide +kernel
theorem dX8_rightBy_39 : decode cX8_rightBy 39 = .ok (.iinc 4 1, 3) := by decide +kernel
theorem dX8_rightBy_42 : decode cX8_rightBy 42 = .ok (.goto (-37), 3) := by decide +kernel
theorem dX8_rightBy_45 : decode cX8_rightBy 45 = .ok (.iload_n 3, 1) := by decide +kernel
theorem dX8_rightBy_46 : decode cX8_rightBy 46 = .ok (.ireturn, 1) := by decide +kernel
set_option maxRecDepth 20000 in
theorem ggX8_twin_X8_taskAt : GoodIn wsX8_twin wsX8_taskAt := goodIn_r _ [14, 3, 4, 58, 59, 60, 61, 62, 63, 64, 65, 66, 67, 68, 69, 70, 71, 72] (by decide +kernel) (by decide +kernel)
set_option maxRecDepth 20000 in
theorem gX8_twin_X8_taskAt : GoodIn wsX8_twin (wsV RX8 165 RX8 yX8_taskAt wsX8_taskAt) := goodIn_app (goodIn_of _ (by decide +kernel)) ggX8_twin_X8_taskAt
set_option maxRecDepth 20000 in
theorem ggX8_twin_X8_isSheet : GoodIn wsX8_twin wsX8_isSheet := goodIn_r _ [17] (by decide +kernel) (by decide +kernel)
set_option maxRecDepth 20000 in
theorem gX8_twin_X8_isSheet : GoodIn wsX8_twin (va_wsS RX8 127 yX8_isSheet wsX8_isSheet) := goodIn_app (goodIn_of _ (by decide +kernel)) ggX8_twin_X8_isSheet
set_option maxRecDepth 20000 in
theorem ggX8_twin_X5_isMissing : GoodIn wsX8_twin wsX5_isMissing := goodIn_r _ [22, 23, 81, 82, 83] (by decide +kernel) (by decide +kernel)
set_option maxRecDepth 20000 in
theorem gX8_twin_X5_isMissing : GoodIn wsX8_twin (wsV RX8 136 RX5 yX5_isMissing wsX5_isMissing) := goodIn_app (goodIn_of _ (by decide +kernel)) ggX8_twin_X5_isMissing
set_option maxRecDepth 20000 in
theorem ggX8_twin_X8_isRow : GoodIn wsX8_twin wsX8_isRow := goodIn_r _ [26] (by decide +kernel) (by decide +kernel)
set_option maxRecDepth 20000 in
theorem gX8_twin_X8_isRow : GoodIn wsX8_twin (va_wsS RX8 161 yX8_isRow wsX8_isRow) := goodIn_app (goodIn_of _ (by decide +kernel)) ggX8_twin_X8_isRow
set_option maxRecDepth 20000 in
theorem ggX8_twin_X5_isOrderOf : GoodIn wsX8_twin wsX5_isOrderOf := goodIn_r _ [30, 31, 32, 81, 82, 83] (by decide +kernel) (by decide +kernel)
set_option maxRecDepth 20000 in
theorem gX8_twin_X5_isOrderOf : GoodIn wsX8_twin (wsV RX8 256 RX5 yX5_isOrderOf wsX5_isOrderOf) := goodIn_app (goodIn_of _ (by decide +kernel)) ggX8_twin_X5_isOrderOf
set_option maxRecDepth 20000 in
theorem ggX8_twin_X7_begin : GoodIn wsX8_twin wsX7_begin := goodIn_r _ [37, 38, 39, 40, 41, 42, 43, 73, 74, 75, 76, 77, 78, 79, 80] (by decide +kernel) (by decide +kernel)
set_option maxRecDepth 20000 in
theorem gX8_twin_X7_begin : GoodIn wsX8_twin (wsV RX8 144 RX7 yX7_begin wsX7_begin) := goodIn_app (goodIn_of _ (by decide +kernel)) ggX8_twin_X7_begin
set_option maxRecDepth 20000 in
theorem ggX8_twin_X5_renumbered : GoodIn wsX8_twin wsX5_renumbered := goodIn_r _ [47, 31, 32, 81, 82, 83] (by decide +kernel) (by decide +kernel)
set_option maxRecDepth 20000 in
theorem gX8_twin_X5_renumbered : GoodIn wsX8_twin (wsV RX8 259 RX5 yX5_renumbered wsX5_renumbered) := goodIn_app (goodIn_of _ (by decide +kernel)) ggX8_twin_X5_renumbered
set_option maxRecDepth 20000 in
theorem ggX8_twin_X7_addClause : GoodIn wsX8_twin wsX7_addClause := goodIn_r _ [51, 40, 52, 53, 73, 74, 75, 76, 77, 78, 79, 80] (by decide +kernel) (by decide +kernel)
set_option maxRecDepth 20000 in
theorem gX8_twin_X7_addClause : GoodIn wsX8_twin (wsV RX8 152 RX7 yX7_addClause wsX7_addClause) := goodIn_app (goodIn_of _ (by decide +kernel)) ggX8_twin_X7_addClause
set_option maxRecDepth 20000 in
theorem ggX8_twin_X8_keepTask : GoodIn wsX8_twin wsX8_keepTask := goodIn_r _ [57, 3, 58, 59, 60, 61, 62, 63, 64, 65, 66, 67, 68, 69, 70, 71, 72] (by decide +kernel) (by decide +kernel)
set_option maxRecDepth 20000 in
theorem gX8_twin_X8_keepTask : GoodIn wsX8_twin (wsV RX8 123 RX8 yX8_keepTask wsX8_keepTask) := goodIn_app (goodIn_of _ (by decide +kernel)) ggX8_twin_X8_keepTask
theorem dX8_twin_0 : decode cX8_twin 0 = .ok (.aload_n 0, 1) := by decide +kernel
theorem dX8_twin_1 : decode cX8_twin 1 = .ok (.iload_n 1, 1) := by decide +kernel
theorem dX8_twin_2 : decode cX8_twin 2 = .ok (.invokevirtual 165, 3) := by decide +kernel
theorem dX8_twin_5 : decode cX8_twin 5 = .ok (.astore 4, 2) := by decide +kernel
theorem dX8_twin_7 : decode cX8_twin 7 = .ok (.aload 4, 2) := by decide +kernel
theorem dX8_twin_9 : decode cX8_twin 9 = .ok (.ifnull 10, 3) := by decide +kernel
theorem dX8_twin_12 : decode cX8_twin 12 = .ok (.iload_n 2, 1) := by decide +kernel
theorem dX8_twin_13 : decode cX8_twin 13 = .ok (.invokestatic 127, 3) := by decide +kernel
theorem dX8_twin_16 : decode cX8_twin 16 = .ok (.ifCond .ne 5, 3) := by decide +kernel
theorem dX8_twin_19 : decode cX8_twin 19 = .ok (.iconst (-1), 1) := by decide +kernel
theorem dX8_twin_20 : decode cX8_twin 20 = .ok (.ireturn, 1) := by decide +kernel
theorem dX8_twin_21 : decode cX8_twin 21 = .ok (.aload_n 0, 1) := by decide +kernel
theorem dX8_twin_22 : decode cX8_twin 22 = .ok (.getfield 67, 3) := by decide +kernel
theorem dX8_twin_25 : decode cX8_twin 25 = .ok (.iload_n 2, 1) := by decide +kernel
theorem dX8_twin_26 : decode cX8_twin 26 = .ok (.aaload, 1) := by decide +kernel
theorem dX8_twin_27 : decode cX8_twin 27 = .ok (.astore 5, 2) := by decide +kernel
theorem dX8_twin_29 : decode cX8_twin 29 = .ok (.aload 5, 2) := by decide +kernel
theorem dX8_twin_31 : decode cX8_twin 31 = .ok (.invokevirtual 136, 3) := by decide +kernel
theorem dX8_twin_34 : decode cX8_twin 34 = .ok (.ifCond .eq 6, 3) := by decide +kernel
theorem dX8_twin_37 : decode cX8_twin 37 = .ok (.bipush (-11), 2) := by decide +kernel
theorem dX8_twin_39 : decode cX8_twin 39 = .ok (.ireturn, 1) := by decide +kernel
theorem dX8_twin_40 : decode cX8_twin 40 = .ok (.iload_n 3, 1) := by decide +kernel
theorem dX8_twin_41 : decode cX8_twin 41 = .ok (.aload 4, 2) := by decide +kernel
theorem dX8_twin_43 : decode cX8_twin 43 = .ok (.getfield 170, 3) := by decide +kernel
theorem dX8_twin_46 : decode cX8_twin 46 = .ok (.invokestatic 161, 3) := by decide +kernel
theorem dX8_twin_49 : decode cX8_twin 49 = .ok (.ifCond .eq 16, 3) := by decide +kernel
theorem dX8_twin_52 : decode cX8_twin 52 = .ok (.aload 5, 2) := by decide +kernel
theorem dX8_twin_54 : decode cX8_twin 54 = .ok (.aload 4, 2) := by decide +kernel
theorem dX8_twin_56 : decode cX8_twin 56 = .ok (.getfield 170, 3) := by decide +kernel
theorem dX8_twin_59 : decode cX8_twin 59 = .ok (.invokevirtual 256, 3) := by decide +kernel
theorem dX8_twin_62 : decode cX8_twin 62 = .ok (.ifCond .ne 6, 3) := by decide +kernel
theorem dX8_twin_65 : decode cX8_twin 65 = .ok (.bipush (-2), 2) := by decide +kernel
theorem dX8_twin_67 : decode cX8_twin 67 = .ok (.ireturn, 1) := by decide +kernel
theorem dX8_twin_68 : decode cX8_twin 68 = .ok (.aload_n 0, 1) := by decide +kernel
theorem dX8_twin_69 : decode cX8_twin 69 = .ok (.getfield 110, 3) := by decide +kernel
theorem dX8_twin_72 : decode cX8_twin 72 = .ok (.bipush 8, 2) := by decide +kernel
theorem dX8_twin_74 : decode cX8_twin 74 = .ok (.if_icmp .lt 6, 3) := by decide +kernel
theorem dX8_twin_77 : decode cX8_twin 77 = .ok (.bipush (-4), 2) := by decide +kernel
theorem dX8_twin_79 : decode cX8_twin 79 = .ok (.ireturn, 1) := by decide +kernel
theorem dX8_twin_80 : decode cX8_twin 80 = .ok (.aload_n 0, 1) := by decide +kernel
theorem dX8_twin_81 : decode cX8_twin 81 = .ok (.getfield 54, 3) := by decide +kernel
theorem dX8_twin_84 : decode cX8_twin 84 = .ok (.aload_n 0, 1) := by decide +kernel
theorem dX8_twin_85 : decode cX8_twin 85 = .ok (.getfield 110, 3) := by decide +kernel
theorem dX8_twin_88 : decode cX8_twin 88 = .ok (.aaload, 1) := by decide +kernel
theorem dX8_twin_89 : decode cX8_twin 89 = .ok (.astore 6, 2) := by decide +kernel
theorem dX8_twin_91 : decode cX8_twin 91 = .ok (.aload 6, 2) := by decide +kernel
theorem dX8_twin_93 : decode cX8_twin 93 = .ok (.aload 4, 2) := by decide +kernel
theorem dX8_twin_95 : decode cX8_twin 95 = .ok (.getfield 169, 3) := by decide +kernel
theorem dX8_twin_98 : decode cX8_twin 98 = .ok (.aload 4, 2) := by decide +kernel
theorem dX8_twin_100 : decode cX8_twin 100 = .ok (.getfield 170, 3) := by decide +kernel
theorem dX8_twin_103 : decode cX8_twin 103 = .ok (.invokevirtual 144, 3) := by decide +kernel
theorem dX8_twin_106 : decode cX8_twin 106 = .ok (.iconst 0, 1) := by decide +kernel
theorem dX8_twin_107 : decode cX8_twin 107 = .ok (.istore 7, 2) := by decide +kernel
theorem dX8_twin_109 : decode cX8_twin 109 = .ok (.iload 7, 2) := by decide +kernel
theorem dX8_twin_111 : decode cX8_twin 111 = .ok (.aload 4, 2) := by decide +kernel
theorem dX8_twin_113 : decode cX8_twin 113 = .ok (.getfield 171, 3) := by decide +kernel
theorem dX8_twin_116 : decode cX8_twin 116 = .ok (.if_icmp .ge 66, 3) := by decide +kernel
theorem dX8_twin_119 : decode cX8_twin 119 = .ok (.aload 5, 2) := by decide +kernel
theorem dX8_twin_121 : decode cX8_twin 121 = .ok (.aload 4, 2) := by decide +kernel
theorem dX8_twin_123 : decode cX8_twin 123 = .ok (.getfield 175, 3) := by decide +kernel
theorem dX8_twin_126 : decode cX8_twin 126 = .ok (.iload 7, 2) := by decide +kernel
theorem dX8_twin_128 : decode cX8_twin 128 = .ok (.iaload, 1) := by decide +kernel
theorem dX8_twin_129 : decode cX8_twin 129 = .ok (.invokevirtual 259, 3) := by decide +kernel
theorem dX8_twin_132 : decode cX8_twin 132 = .ok (.istore 8, 2) := by decide +kernel
theorem dX8_twin_134 : decode cX8_twin 134 = .ok (.aload 5, 2) := by decide +kernel
theorem dX8_twin_136 : decode cX8_twin 136 = .ok (.aload 4, 2) := by decide +kernel
theorem dX8_twin_138 : decode cX8_twin 138 = .ok (.getfield 178, 3) := by decide +kernel
theorem dX8_twin_141 : decode cX8_twin 141 = .ok (.iload 7, 2) := by decide +kernel
theorem dX8_twin_143 : decode cX8_twin 143 = .ok (.iaload, 1) := by decide +kernel
theorem dX8_twin_144 : decode cX8_twin 144 = .ok (.invokevirtual 259, 3) := by decide +kernel
theorem dX8_twin_147 : decode cX8_twin 147 = .ok (.istore 9, 2) := by decide +kernel
theorem dX8_twin_149 : decode cX8_twin 149 = .ok (.aload 6, 2) := by decide +kernel
theorem dX8_twin_151 : decode cX8_twin 151 = .ok (.iload 8, 2) := by decide +kernel
theorem dX8_twin_153 : decode cX8_twin 153 = .ok (.iload_n 3, 1) := by decide +kernel
theorem dX8_twin_154 : decode cX8_twin 154 = .ok (.iconst (-1), 1) := by decide +kernel
theorem dX8_twin_155 : decode cX8_twin 155 = .ok (.ixor, 1) := by decide +kernel
theorem dX8_twin_156 : decode cX8_twin 156 = .ok (.iand, 1) := by decide +kernel
theorem dX8_twin_157 : decode cX8_twin 157 = .ok (.iload 9, 2) := by decide +kernel
theorem dX8_twin_159 : decode cX8_twin 159 = .ok (.iload_n 3, 1) := by decide +kernel
theorem dX8_twin_160 : decode cX8_twin 160 = .ok (.iand, 1) := by decide +kernel
theorem dX8_twin_161 : decode cX8_twin 161 = .ok (.ior, 1) := by decide +kernel
theorem dX8_twin_162 : decode cX8_twin 162 = .ok (.iload 9, 2) := by decide +kernel
theorem dX8_twin_164 : decode cX8_twin 164 = .ok (.iload_n 3, 1) := by decide +kernel
theorem dX8_twin_165 : decode cX8_twin 165 = .ok (.iconst (-1), 1) := by decide +kernel
theorem dX8_twin_166 : decode cX8_twin 166 = .ok (.ixor, 1) := by decide +kernel
theorem dX8_twin_167 : decode cX8_twin 167 = .ok (.iand, 1) := by decide +kernel
theorem dX8_twin_168 : decode cX8_twin 168 = .ok (.iload 8, 2) := by decide +kernel
theorem dX8_twin_170 : decode cX8_twin 170 = .ok (.iload_n 3, 1) := by decide +kernel
theorem dX8_twin_171 : decode cX8_twin 171 = .ok (.iand, 1) := by decide +kernel
theorem dX8_twin_172 : decode cX8_twin 172 = .ok (.ior, 1) := by decide +kernel
theorem dX8_twin_173 : decode cX8_twin 173 = .ok (.invokevirtual 152, 3) := by decide +kernel
theorem dX8_twin_176 : decode cX8_twin 176 = .ok (.iinc 7 1, 3) := by decide +kernel
theorem dX8_twin_179 : decode cX8_twin 179 = .ok (.goto (-70), 3) := by decide +kernel
theorem dX8_twin_182 : decode cX8_twin 182 = .ok (.aload 4, 2) := by decide +kernel
theorem dX8_twin_184 : decode cX8_twin 184 = .ok (.getfield 172, 3) := by decide +kernel
theorem dX8_twin_187 : decode cX8_twin 187 = .ok (.ifCond .lt 20, 3) := by decide +kernel
theorem dX8_twin_190 : decode cX8_twin 190 = .ok (.aload 6, 2) := by decide +kernel
theorem dX8_twin_192 : decode cX8_twin 192 = .ok (.aload 5, 2) := by decide +kernel
theorem dX8_twin_194 : decode cX8_twin 194 = .ok (.aload 4, 2) := by decide +kernel
theorem dX8_twin_196 : decode cX8_twin 196 = .ok (.getfield 172, 3) := by decide +kernel
theorem dX8_twin_199 : decode cX8_twin 199 = .ok (.invokevirtual 259, 3) := by decide +kernel
theorem dX8_twin_202 : decode cX8_twin 202 = .ok (.iload_n 3, 1) := by decide +kernel
theorem dX8_twin_203 : decode cX8_twin 203 = .ok (.ixor, 1) := by decide +kernel
theorem dX8_twin_204 : decode cX8_twin 204 = .ok (.putfield 172, 3) := by decide +kernel
theorem dX8_twin_207 : decode cX8_twin 207 = .ok (.aload_n 0, 1) := by decide +kernel
theorem dX8_twin_208 : decode cX8_twin 208 = .ok (.invokevirtual 123, 3) := by decide +kernel
theorem dX8_twin_211 : decode cX8_twin 211 = .ok (.ireturn, 1) := by decide +kernel
set_option maxRecDepth 20000 in
theorem ggX8_claim_X8_taskAt : GoodIn wsX8_claim wsX8_taskAt := goodIn_r _ [7, 8, 9, 19, 20, 21, 22, 23, 24, 25, 26, 27, 28, 29, 30, 31, 32, 33] (by decide +kernel) (by decide +kernel)
set_option maxRecDepth 20000 in
theorem gX8_claim_X8_taskAt : GoodIn wsX8_claim (wsV RX8 165 RX8 yX8_taskAt wsX8_taskAt) := goodIn_app (goodIn_of _ (by decide +kernel)) ggX8_claim_X8_taskAt
set_option maxRecDepth 20000 in
theorem ggX8_claim_X0_begin : GoodIn wsX8_claim wsX0_begin := goodIn_r _ [14, 15, 16, 17, 18, 34, 35, 36, 37] (by decide +kernel) (by decide +kernel)
set_option maxRecDepth 20000 in
theorem gX8_claim_X0_begin : GoodIn wsX8_claim (wsV RX8 265 RX0 yX0_begin wsX0_begin) := goodIn_app (goodIn_of _ (by decide +kernel)) ggX8_claim_X0_begin
theorem dX8_claim_0 : decode cX8_claim 0 = .ok (.aload_n 0, 1) := by decide +kernel
theorem dX8_claim_1 : decode cX8_claim 1 = .ok (.iload_n 1, 1) := by decide +kernel
theorem dX8_claim_2 : decode cX8_claim 2 = .ok (.invokevirtual 165, 3) := by decide +kernel
theorem dX8_claim_5 : decode cX8_claim 5 = .ok (.ifnonnull 5, 3) := by decide +kernel
theorem dX8_claim_8 : decode cX8_claim 8 = .ok (.iconst (-1), 1) := by decide +kernel
theorem dX8_claim_9 : decode cX8_claim 9 = .ok (.ireturn, 1) := by decide +kernel
theorem dX8_claim_10 : decode cX8_claim 10 = .ok (.iload_n 2, 1) := by decide +kernel
theorem dX8_claim_11 : decode cX8_claim 11 = .ok (.iconst 1, 1) := by decide +kernel
theorem dX8_claim_12 : decode cX8_claim 12 = .ok (.if_icmp .lt 10, 3) := by decide +kernel
theorem dX8_claim_15 : decode cX8_claim 15 = .ok (.iload_n 2, 1) := by decide +kernel
theorem dX8_claim_16 : decode cX8_claim 16 = .ok (.sipush 2000, 3) := by decide +kernel
theorem dX8_claim_19 : decode cX8_claim 19 = .ok (.if_icmp .le 6, 3) := by decide +kernel
theorem dX8_claim_22 : decode cX8_claim 22 = .ok (.bipush (-2), 2) := by decide +kernel
theorem dX8_claim_24 : decode cX8_claim 24 = .ok (.ireturn, 1) := by decide +kernel
theorem dX8_claim_25 : decode cX8_claim 25 = .ok (.aload_n 0, 1) := by decide +kernel
theorem dX8_claim_26 : decode cX8_claim 26 = .ok (.getfield 262, 3) := by decide +kernel
theorem dX8_claim_29 : decode cX8_claim 29 = .ok (.bipush 20, 2) := by decide +kernel
theorem dX8_claim_31 : decode cX8_claim 31 = .ok (.if_icmp .lt 6, 3) := by decide +kernel
theorem dX8_claim_34 : decode cX8_claim 34 = .ok (.bipush (-4), 2) := by decide +kernel
theorem dX8_claim_36 : decode cX8_claim 36 = .ok (.ireturn, 1) := by decide +kernel
theorem dX8_claim_37 : decode cX8_claim 37 = .ok (.aload_n 0, 1) := by decide +kernel
theorem dX8_claim_38 : decode cX8_claim 38 = .ok (.getfield 60, 3) := by decide +kernel
theorem dX8_claim_41 : decode cX8_claim 41 = .ok (.aload_n 0, 1) := by decide +kernel
theorem dX8_claim_42 : decode cX8_claim 42 = .ok (.getfield 262, 3) := by decide +kernel
theorem dX8_claim_45 : decode cX8_claim 45 = .ok (.aaload, 1) := by decide +kernel
theorem dX8_claim_46 : decode cX8_claim 46 = .ok (.iload_n 1, 1) := by decide +kernel
theorem dX8_claim_47 : decode cX8_claim 47 = .ok (.iload_n 2, 1) := by decide +kernel
theorem dX8_claim_48 : decode cX8_claim 48 = .ok (.invokevirtual 265, 3) := by decide +kernel
theorem dX8_claim_51 : decode cX8_claim 51 = .ok (.aload_n 0, 1) := by decide +kernel
theorem dX8_claim_52 : decode cX8_claim 52 = .ok (.dup, 1) := by decide +kernel
theorem dX8_claim_53 : decode cX8_claim 53 = .ok (.getfield 262, 3) := by decide +kernel
theorem dX8_claim_56 : decode cX8_claim 56 = .ok (.iconst 1, 1) := by decide +kernel
theorem dX8_claim_57 : decode cX8_claim 57 = .ok (.iadd, 1) := by decide +kernel
theorem dX8_claim_58 : decode cX8_claim 58 = .ok (.putfield 262, 3) := by decide +kernel
theorem dX8_claim_61 : decode cX8_claim 61 = .ok (.aload_n 0, 1) := by decide +kernel
theorem dX8_claim_62 : decode cX8_claim 62 = .ok (.getfield 262, 3) := by decide +kernel
theorem dX8_claim_65 : decode cX8_claim 65 = .ok (.iconst 1, 1) := by decide +kernel
theorem dX8_claim_66 : decode cX8_claim 66 = .ok (.isub, 1) := by decide +kernel
theorem dX8_claim_67 : decode cX8_claim 67 = .ok (.ireturn, 1) := by decide +kernel
set_option maxRecDepth 20000 in
theorem ggX8_tries_X8_claimAt : GoodIn wsX8_tries wsX8_claimAt := goodIn_r _ [11, 12, 13, 119, 120, 121, 122, 123, 124, 125, 126, 127, 128, 129, 130, 131, 132, 133] (by decide +kernel) (by decide +kernel)
set_option maxRecDepth 20000 in
theorem gX8_tries_X8_claimAt : GoodIn wsX8_tries (wsV RX8 266 RX8 yX8_claimAt wsX8_claimAt) := goodIn_app (goodIn_of _ (by decide +kernel)) ggX8_tries_X8_claimAt
set_option maxRecDepth 20000 in
theorem ggX8_tries_X8_isFinder : GoodIn wsX8_tries wsX8_isFinder := goodIn_r _ [16] (by decide +kernel) (by decide +kernel)
set_option maxRecDepth 20000 in
theorem gX8_tries_X8_isFinder : GoodIn wsX8_tries (va_wsS RX8 230 yX8_isFinder wsX8_isFinder) := goodIn_app (goodIn_of _ (by decide +kernel)) ggX8_tries_X8_isFinder
set_option maxRecDepth 20000 in
theorem ggX8_tries_X8_taskAt : GoodIn wsX8_tries wsX8_taskAt := goodIn_r _ [20, 21, 22, 119, 120, 121, 122, 123, 124, 125, 126, 127, 128, 129, 130, 131, 132, 133] (by decide +kernel) (by decide +kernel)
set_option maxRecDepth 20000 in
theorem gX8_tries_X8_taskAt : GoodIn wsX8_tries (wsV RX8 165 RX8 yX8_taskAt wsX8_taskAt) := goodIn_app (goodIn_of _ (by decide +kernel)) ggX8_tries_X8_taskAt
set_option maxRecDepth 20000 in
theorem ggX8_tries_X1_seek : GoodIn wsX8_tries wsX1_seek := goodIn_r _ [27, 28, 29, 30, 31, 32, 33, 34, 35, 36, 37, 38, 39, 40, 41, 42, 43, 44, 45, 46, 47, 48, 49, 26, 50, 51, 52, 53, 54, 55, 56, 57, 58, 59, 60, 61, 62, 63, 64, 65, 66, 67, 68, 69, 70, 71, 72, 73, 74, 75, 76, 77, 78, 79, 80, 81, 82, 83, 84, 85, 86, 87, 88, 89, 90, 91, 92, 93, 94, 95, 96, 97, 98, 99, 100, 101, 102, 103, 104, 105, 106, 107, 134, 135, 136, 137, 138, 139, 140, 141, 142, 143] (by decide +kernel) (by decide +kernel)
set_option maxRecDepth 20000 in
theorem gX8_tries_X1_seek : GoodIn wsX8_tries (wsV RX8 233 RX1 yX1_seek wsX1_seek) := goodIn_app (goodIn_of _ (by decide +kernel)) ggX8_tries_X1_seek
set_option maxRecDepth 20000 in
theorem ggX8_tries_X0_worsen : GoodIn wsX8_tries wsX0_worsen := goodIn_r _ [112, 113, 114, 115, 116, 117, 118] (by decide +kernel) (by decide +kernel)
set_option maxRecDepth 20000 in
theorem gX8_tries_X0_worsen : GoodIn wsX8_tries (wsV RX8 277 RX0 yX0_worsen wsX0_worsen) := goodIn_app (goodIn_of _ (by decide +kernel)) ggX8_tries_X0_worsen
theorem dX8_tries_0 : decode cX8_tries 0 = .ok (.aload_n 0, 1) := by decide +kernel
theorem dX8_tries_1 : decode cX8_tries 1 = .ok (.iload_n 1, 1) := by decide +kernel
theorem dX8_tries_2 : decode cX8_tries 2 = .ok (.invokevirtual 266, 3) := by decide +kernel
theorem dX8_tries_5 : decode cX8_tries 5 = .ok (.astore_n 3, 1) := by decide +kernel
theorem dX8_tries_6 : decode cX8_tries 6 = .ok (.aload_n 3, 1) := by decide +kernel
theorem dX8_tries_7 : decode cX8_tries 7 = .ok (.ifnonnull 5, 3) := by decide +kernel
theorem dX8_tries_10 : decode cX8_tries 10 = .ok (.iconst (-1), 1) := by decide +kernel
theorem dX8_tries_11 : decode cX8_tries 11 = .ok (.ireturn, 1) := by decide +kernel
theorem dX8_tries_12 : decode cX8_tries 12 = .ok (.iload_n 2, 1) := by decide +kernel
theorem dX8_tries_13 : decode cX8_tries 13 = .ok (.invokestatic 230, 3) := by decide +kernel
theorem dX8_tries_16 : decode cX8_tries 16 = .ok (.ifCond .ne 6, 3) := by decide +kernel
theorem dX8_tries_19 : decode cX8_tries 19 = .ok (.bipush (-2), 2) := by decide +kernel
theorem dX8_tries_21 : decode cX8_tries 21 = .ok (.ireturn, 1) := by decide +kernel
theorem dX8_tries_22 : decode cX8_tries 22 = .ok (.aload_n 3, 1) := by decide +kernel
theorem dX8_tries_23 : decode cX8_tries 23 = .ok (.getfield 270, 3) := by decide +kernel
theorem dX8_tries_26 : decode cX8_tries 26 = .ok (.iconst 2, 1) := by decide +kernel
theorem dX8_tries_27 : decode cX8_tries 27 = .ok (.if_icmp .ne 6, 3) := by decide +kernel
theorem dX8_tries_30 : decode cX8_tries 30 = .ok (.bipush (-3), 2) := by decide +kernel
theorem dX8_tries_32 : decode cX8_tries 32 = .ok (.ireturn, 1) := by decide +kernel
theorem dX8_tries_33 : decode cX8_tries 33 = .ok (.aload_n 0, 1) := by decide +kernel
theorem dX8_tries_34 : decode cX8_tries 34 = .ok (.aload_n 3, 1) := by decide +kernel
theorem dX8_tries_35 : decode cX8_tries 35 = .ok (.getfield 273, 3) := by decide +kernel
theorem dX8_tries_38 : decode cX8_tries 38 = .ok (.invokevirtual 165, 3) := by decide +kernel
theorem dX8_tries_41 : decode cX8_tries 41 = .ok (.astore 4, 2) := by decide +kernel
theorem dX8_tries_43 : decode cX8_tries 43 = .ok (.aload 4, 2) := by decide +kernel
theorem dX8_tries_45 : decode cX8_tries 45 = .ok (.ifnonnull 5, 3) := by decide +kernel
theorem dX8_tries_48 : decode cX8_tries 48 = .ok (.iconst (-1), 1) := by decide +kernel
theorem dX8_tries_49 : decode cX8_tries 49 = .ok (.ireturn, 1) := by decide +kernel
theorem dX8_tries_50 : decode cX8_tries 50 = .ok (.aload_n 0, 1) := by decide +kernel
theorem dX8_tries_51 : decode cX8_tries 51 = .ok (.getfield 26, 3) := by decide +kernel
theorem dX8_tries_54 : decode cX8_tries 54 = .ok (.aload 4, 2) := by decide +kernel
theorem dX8_tries_56 : decode cX8_tries 56 = .ok (.iload_n 2, 1) := by decide +kernel
theorem dX8_tries_57 : decode cX8_tries 57 = .ok (.iconst 2, 1) := by decide +kernel
theorem dX8_tries_58 : decode cX8_tries 58 = .ok (.aload_n 3, 1) := by decide +kernel
theorem dX8_tries_59 : decode cX8_tries 59 = .ok (.getfield 276, 3) := by decide +kernel
theorem dX8_tries_62 : decode cX8_tries 62 = .ok (.imul, 1) := by decide +kernel
theorem dX8_tries_63 : decode cX8_tries 63 = .ok (.invokevirtual 233, 3) := by decide +kernel
theorem dX8_tries_66 : decode cX8_tries 66 = .ok (.aload_n 0, 1) := by decide +kernel
theorem dX8_tries_67 : decode cX8_tries 67 = .ok (.getfield 26, 3) := by decide +kernel
theorem dX8_tries_70 : decode cX8_tries 70 = .ok (.getfield 237, 3) := by decide +kernel
theorem dX8_tries_73 : decode cX8_tries 73 = .ok (.ifCond .lt 27, 3) := by decide +kernel
theorem dX8_tries_76 : decode cX8_tries 76 = .ok (.aload_n 3, 1) := by decide +kernel
theorem dX8_tries_77 : decode cX8_tries 77 = .ok (.aload_n 0, 1) := by decide +kernel
theorem dX8_tries_78 : decode cX8_tries 78 = .ok (.getfield 26, 3) := by decide +kernel
theorem dX8_tries_81 : decode cX8_tries 81 = .ok (.getfield 240, 3) := by decide +kernel
theorem dX8_tries_84 : decode cX8_tries 84 = .ok (.aload_n 3, 1) := by decide +kernel
theorem dX8_tries_85 : decode cX8_tries 85 = .ok (.getfield 276, 3) := by decide +kernel
theorem dX8_tries_88 : decode cX8_tries 88 = .ok (.if_icmp .ge 7, 3) := by decide +kernel
theorem dX8_tries_91 : decode cX8_tries 91 = .ok (.iconst 2, 1) := by decide +kernel
theorem dX8_tries_92 : decode cX8_tries 92 = .ok (.goto 4, 3) := by decide +kernel
theorem dX8_tries_95 : decode cX8_tries 95 = .ok (.iconst 1, 1) := by decide +kernel
theorem dX8_tries_96 : decode cX8_tries 96 = .ok (.iload_n 2, 1) := by decide +kernel
theorem dX8_tries_97 : decode cX8_tries 97 = .ok (.invokevirtual 277, 3) := by decide +kernel
theorem dX8_tries_100 : decode cX8_tries 100 = .ok (.aload_n 3, 1) := by decide +kernel
theorem dX8_tries_101 : decode cX8_tries 101 = .ok (.getfield 270, 3) := by decide +kernel
theorem dX8_tries_104 : decode cX8_tries 104 = .ok (.ireturn, 1) := by decide +kernel
set_option maxRecDepth 20000 in
theorem ggX8_claimTold_X8_claimAt : GoodIn wsX8_claimTold wsX8_claimAt := goodIn_r _ [9, 10, 11, 16, 17, 18, 19, 20, 21, 22, 23, 24, 25, 26, 27, 28, 29, 30] (by decide +kernel) (by decide +kernel)
set_option maxRecDepth 20000 in
theorem gX8_claimTold_X8_claimAt : GoodIn wsX8_claimTold (wsV RX8 266 RX8 yX8_claimAt wsX8_claimAt) := goodIn_app (goodIn_of _ (by decide +kernel)) ggX8_claimTold_X8_claimAt
theorem dX8_claimTold_0 : decode cX8_claimTold 0 = .ok (.aload_n 0, 1) := by decide +kernel
theorem dX8_claimTold_1 : decode cX8_claimTold 1 = .ok (.iload_n 1, 1) := by decide +kernel
theorem dX8_claimTold_2 : decode cX8_claimTold 2 = .ok (.invokevirtual 266, 3) := by decide +kernel
theorem dX8_claimTold_5 : decode cX8_claimTold 5 = .ok (.astore_n 3, 1) := by decide +kernel
theorem dX8_claimTold_6 : decode cX8_claimTold 6 = .ok (.aload_n 3, 1) := by decide +kernel
theorem dX8_claimTold_7 : decode cX8_claimTold 7 = .ok (.ifnonnull 6, 3) := by decide +kernel
theorem dX8_claimTold_10 : decode cX8_claimTold 10 = .ok (.bipush (-5), 2) := by decide +kernel
theorem dX8_claimTold_12 : decode cX8_claimTold 12 = .ok (.ireturn, 1) := by decide +kernel
theorem dX8_claimTold_13 : decode cX8_claimTold 13 = .ok (.iload_n 2, 1) := by decide +kernel
theorem dX8_claimTold_14 : decode cX8_claimTold 14 = .ok (.tableswitch 50 0 3 #[30, 35, 40, 45], 30) := by decide +kernel
theorem dX8_claimTold_44 : decode cX8_claimTold 44 = .ok (.aload_n 3, 1) := by decide +kernel
theorem dX8_claimTold_45 : decode cX8_claimTold 45 = .ok (.getfield 273, 3) := by decide +kernel
theorem dX8_claimTold_48 : decode cX8_claimTold 48 = .ok (.ireturn, 1) := by decide +kernel
theorem dX8_claimTold_49 : decode cX8_claimTold 49 = .ok (.aload_n 3, 1) := by decide +kernel
theorem dX8_claimTold_50 : decode cX8_claimTold 50 = .ok (.getfield 276, 3) := by decide +kernel
theorem dX8_claimTold_53 : decode cX8_claimTold 53 = .ok (.ireturn, 1) := by decide +kernel
theorem dX8_claimTold_54 : decode cX8_claimTold 54 = .ok (.aload_n 3, 1) := by decide +kernel
theorem dX8_claimTold_55 : decode cX8_claimTold 55 = .ok (.getfield 270, 3) := by decide +kernel
theorem dX8_claimTold_58 : decode cX8_claimTold 58 = .ok (.ireturn, 1) := by decide +kernel
theorem dX8_claimTold_59 : decode cX8_claimTold 59 = .ok (.aload_n 3, 1) := by decide +kernel
theorem dX8_claimTold_60 : decode cX8_claimTold 60 = .ok (.getfield 280, 3) := by decide +kernel
theorem dX8_claimTold_63 : decode cX8_claimTold 63 = .ok (.ireturn, 1) := by decide +kernel
theorem dX8_claimTold_64 : decode cX8_claimTold 64 = .ok (.bipush (-7), 2) := by decide +kernel
theorem dX8_claimTold_66 : decode cX8_claimTold 66 = .ok (.ireturn, 1) := by decide +kernel
set_option maxRecDepth 20000 in
theorem ggX8_kindTold_X2_exists : GoodIn wsX8_kindTold wsX2_exists := goodIn_r _ [4] (by decide +kernel) (by decide +kernel)
set_option maxRecDepth 20000 in
theorem gX8_kindTold_X2_exists : GoodIn wsX8_kindTold (va_wsS RX8 131 yX2_exists wsX2_exists) := goodIn_app (goodIn_of _ (by decide +kernel)) ggX8_kindTold_X2_exists
set_option maxRecDepth 20000 in
theorem ggX8_kindTold_X2_worth : GoodIn wsX8_kindTold wsX2_worth := goodIn_r _ [7, 8, 9, 3, 10] (by decide +kernel) (by decide +kernel)
set_option maxRecDepth 20000 in
theorem gX8_kindTold_X2_worth : GoodIn wsX8_kindTold (va_wsS RX8 282 yX2_worth wsX2_worth) := goodIn_app (goodIn_of _ (by decide +kernel)) ggX8_kindTold_X2_worth
set_option maxRecDepth 20000 in
theorem ggX8_kindTold_X2_holds : GoodIn wsX8_kindTold wsX2_holds := goodIn_r _ [10] (by decide +kernel) (by decide +kernel)
set_option maxRecDepth 20000 in
theorem gX8_kindTold_X2_holds : GoodIn wsX8_kindTold (va_wsS RX8 286 yX2_holds wsX2_holds) := goodIn_app (goodIn_of _ (by decide +kernel)) ggX8_kindTold_X2_holds
theorem dX8_kindTold_0 : decode cX8_kindTold 0 = .ok (.iload_n 1, 1) := by decide +kernel
theorem dX8_kindTold_1 : decode cX8_kindTold 1 = .ok (.invokestatic 131, 3) := by decide +kernel
theorem dX8_kindTold_4 : decode cX8_kindTold 4 = .ok (.ifCond .eq 26, 3) := by decide +kernel
theorem dX8_kindTold_7 : decode cX8_kindTold 7 = .ok (.iload_n 3, 1) := by decide +kernel
theorem dX8_kindTold_8 : decode cX8_kindTold 8 = .ok (.iconst 1, 1) := by decide +kernel
theorem dX8_kindTold_9 : decode cX8_kindTold 9 = .ok (.if_icmp .lt 21, 3) := by decide +kernel
theorem dX8_kindTold_12 : decode cX8_kindTold 12 = .ok (.iload_n 3, 1) := by decide +kernel
theorem dX8_kindTold_13 : decode cX8_kindTold 13 = .ok (.iconst 3, 1) := by decide +kernel
theorem dX8_kindTold_14 : decode cX8_kindTold 14 = .ok (.if_icmp .gt 16, 3) := by decide +kernel
theorem dX8_kindTold_17 : decode cX8_kindTold 17 = .ok (.iload_n 2, 1) := by decide +kernel
theorem dX8_kindTold_18 : decode cX8_kindTold 18 = .ok (.ifCond .lt 12, 3) := by decide +kernel
theorem dX8_kindTold_21 : decode cX8_kindTold 21 = .ok (.iload_n 2, 1) := by decide +kernel
theorem dX8_kindTold_22 : decode cX8_kindTold 22 = .ok (.iload_n 3, 1) := by decide +kernel
theorem dX8_kindTold_23 : decode cX8_kindTold 23 = .ok (.if_icmp .gt 7, 3) := by decide +kernel
theorem dX8_kindTold_26 : decode cX8_kindTold 26 = .ok (.iconst 1, 1) := by decide +kernel
theorem dX8_kindTold_27 : decode cX8_kindTold 27 = .ok (.goto 4, 3) := by decide +kernel
theorem dX8_kindTold_30 : decode cX8_kindTold 30 = .ok (.iconst 0, 1) := by decide +kernel
theorem dX8_kindTold_31 : decode cX8_kindTold 31 = .ok (.istore 5, 2) := by decide +kernel
theorem dX8_kindTold_33 : decode cX8_kindTold 33 = .ok (.iload 5, 2) := by decide +kernel
theorem dX8_kindTold_35 : decode cX8_kindTold 35 = .ok (.ifCond .eq 14, 3) := by decide +kernel
theorem dX8_kindTold_38 : decode cX8_kindTold 38 = .ok (.iload 4, 2) := by decide +kernel
theorem dX8_kindTold_40 : decode cX8_kindTold 40 = .ok (.ifCond .lt 9, 3) := by decide +kernel
theorem dX8_kindTold_43 : decode cX8_kindTold 43 = .ok (.iload 4, 2) := by decide +kernel
theorem dX8_kindTold_45 : decode cX8_kindTold 45 = .ok (.iconst 1, 1) := by decide +kernel
theorem dX8_kindTold_46 : decode cX8_kindTold 46 = .ok (.if_icmp .le 6, 3) := by decide +kernel
theorem dX8_kindTold_49 : decode cX8_kindTold 49 = .ok (.bipush (-2), 2) := by decide +kernel
theorem dX8_kindTold_51 : decode cX8_kindTold 51 = .ok (.ireturn, 1) := by decide +kernel
theorem dX8_kindTold_52 : decode cX8_kindTold 52 = .ok (.iload 4, 2) := by decide +kernel
theorem dX8_kindTold_54 : decode cX8_kindTold 54 = .ok (.iconst 1, 1) := by decide +kernel
theorem dX8_kindTold_55 : decode cX8_kindTold 55 = .ok (.if_icmp .ne 10, 3) := by decide +kernel
theorem dX8_kindTold_58 : decode cX8_kindTold 58 = .ok (.iload_n 1, 1) := by decide +kernel
theorem dX8_kindTold_59 : decode cX8_kindTold 59 = .ok (.iload_n 2, 1) := by decide +kernel
theorem dX8_kindTold_60 : decode cX8_kindTold 60 = .ok (.iload_n 3, 1) := by decide +kernel
theorem dX8_kindTold_61 : decode cX8_kindTold 61 = .ok (.invokestatic 282, 3) := by decide +kernel
theorem dX8_kindTold_64 : decode cX8_kindTold 64 = .ok (.ireturn, 1) := by decide +kernel
theorem dX8_kindTold_65 : decode cX8_kindTold 65 = .ok (.iload_n 1, 1) := by decide +kernel
theorem dX8_kindTold_66 : decode cX8_kindTold 66 = .ok (.iload_n 2, 1) := by decide +kernel
theorem dX8_kindTold_67 : decode cX8_kindTold 67 = .ok (.iload_n 3, 1) := by decide +kernel
theorem dX8_kindTold_68 : decode cX8_kindTold 68 = .ok (.invokestatic 286, 3) := by decide +kernel
theorem dX8_kindTold_71 : decode cX8_kindTold 71 = .ok (.ifCond .eq 7, 3) := by decide +kernel
theorem dX8_kindTold_74 : decode cX8_kindTold 74 = .ok (.iconst 1, 1) := by decide +kernel
theorem dX8_kindTold_75 : decode cX8_kindTold 75 = .ok (.goto 4, 3) := by decide +kernel
theorem dX8_kindTold_78 : decode cX8_kindTold 78 = .ok (.iconst 0, 1) := by decide +kernel
theorem dX8_kindTold_79 : decode cX8_kindTold 79 = .ok (.ireturn, 1) := by decide +kernel
theorem dX8_count_0 : decode cX8_count 0 = .ok (.iload_n 1, 1) := by decide +kernel
theorem dX8_count_1 : decode cX8_count 1 = .ok (.tableswitch 54 0 3 #[31, 36, 41, 46], 31) := by decide +kernel
theorem dX8_count_32 : decode cX8_count 32 = .ok (.aload_n 0, 1) := by decide +kernel
theorem dX8_count_33 : decode cX8_count 33 = .ok (.getfield 110, 3) := by decide +kernel
theorem dX8_count_36 : decode cX8_count 36 = .ok (.ireturn, 1) := by decide +kernel
theorem dX8_count_37 : decode cX8_count 37 = .ok (.aload_n 0, 1) := by decide +kernel
theorem dX8_count_38 : decode cX8_count 38 = .ok (.getfield 83, 3) := by decide +kernel
theorem dX8_count_41 : decode cX8_count 41 = .ok (.ireturn, 1) := by decide +kernel
theorem dX8_count_42 : decode cX8_count 42 = .ok (.aload_n 0, 1) := by decide +kernel
theorem dX8_count_43 : decode cX8_count 43 = .ok (.getfield 262, 3) := by decide +kernel
theorem dX8_count_46 : decode cX8_count 46 = .ok (.ireturn, 1) := by decide +kernel
theorem dX8_count_47 : decode cX8_count 47 = .ok (.aload_n 0, 1) := by decide +kernel
theorem dX8_count_48 : decode cX8_count 48 = .ok (.getfield 10, 3) := by decide +kernel
theorem dX8_count_51 : decode cX8_count 51 = .ok (.getfield 76, 3) := by decide +kernel
theorem dX8_count_54 : decode cX8_count 54 = .ok (.ireturn, 1) := by decide +kernel
theorem dX8_count_55 : decode cX8_count 55 = .ok (.bipush (-2), 2) := by decide +kernel
theorem dX8_count_57 : decode cX8_count 57 = .ok (.ireturn, 1) := by decide +kernel
theorem dX8_image_0 : decode cX8_image 0 = .ok (.aload_n 0, 1) := by decide +kernel
theorem dX8_image_1 : decode cX8_image 1 = .ok (.aload_n 0, 1) := by decide +kernel
theorem dX8_image_2 : decode cX8_image 2 = .ok (.getfield 110, 3) := by decide +kernel
theorem dX8_image_5 : decode cX8_image 5 = .ok (.putfield 72, 3) := by decide +kernel
theorem dX8_image_8 : decode cX8_image 8 = .ok (.aload_n 0, 1) := by decide +kernel
theorem dX8_image_9 : decode cX8_image 9 = .ok (.getfield 110, 3) := by decide +kernel
theorem dX8_image_12 : decode cX8_image 12 = .ok (.ireturn, 1) := by decide +kernel
set_option maxRecDepth 20000 in
theorem ggX8_back_X0_become : GoodIn wsX8_back wsX0_become := goodIn_r _ [14, 15, 16, 17, 18, 34, 35, 36, 37] (by decide +kernel) (by decide +kernel)
set_option maxRecDepth 20000 in
theorem gX8_back_X0_become : GoodIn wsX8_back (wsV RX8 293 RX0 yX0_become wsX0_become) := goodIn_app (goodIn_of _ (by decide +kernel)) ggX8_back_X0_become
theorem dX8_back_0 : decode cX8_back 0 = .ok (.aload_n 0, 1) := by decide +kernel
theorem dX8_back_1 : decode cX8_back 1 = .ok (.getfield 72, 3) := by decide +kernel
theorem dX8_back_4 : decode cX8_back 4 = .ok (.ifCond .ge 6, 3) := by decide +kernel
theorem dX8_back_7 : decode cX8_back 7 = .ok (.bipush (-3), 2) := by decide +kernel
theorem dX8_back_9 : decode cX8_back 9 = .ok (.ireturn, 1) := by decide +kernel
theorem dX8_back_10 : decode cX8_back 10 = .ok (.aload_n 0, 1) := by decide +kernel
theorem dX8_back_11 : decode cX8_back 11 = .ok (.aload_n 0, 1) := by decide +kernel
theorem dX8_back_12 : decode cX8_back 12 = .ok (.getfield 110, 3) := by decide +kernel
theorem dX8_back_15 : decode cX8_back 15 = .ok (.aload_n 0, 1) := by decide +kernel
theorem dX8_back_16 : decode cX8_back 16 = .ok (.getfield 72, 3) := by decide +kernel
theorem dX8_back_19 : decode cX8_back 19 = .ok (.invokestatic 290, 3) := by decide +kernel
theorem dX8_back_22 : decode cX8_back 22 = .ok (.putfield 110, 3) := by decide +kernel
theorem dX8_back_25 : decode cX8_back 25 = .ok (.iconst 0, 1) := by decide +kernel
theorem dX8_back_26 : decode cX8_back 26 = .ok (.istore_n 1, 1) := by decide +kernel
theorem dX8_back_27 : decode cX8_back 27 = .ok (.iconst 0, 1) := by decide +kernel
theorem dX8_back_28 : decode cX8_back 28 = .ok (.istore_n 2, 1) := by decide +kernel
theorem dX8_back_29 : decode cX8_back 29 = .ok (.iload_n 2, 1) := by decide +kernel
theorem dX8_back_30 : decode cX8_back 30 = .ok (.aload_n 0, 1) := by decide +kernel
theorem dX8_back_31 : decode cX8_back 31 = .ok (.getfield 262, 3) := by decide +kernel
theorem dX8_back_34 : decode cX8_back 34 = .ok (.if_icmp .ge 43, 3) := by decide +kernel
theorem dX8_back_37 : decode cX8_back 37 = .ok (.aload_n 0, 1) := by decide +kernel
theorem dX8_back_38 : decode cX8_back 38 = .ok (.getfield 60, 3) := by decide +kernel
theorem dX8_back_41 : decode cX8_back 41 = .ok (.iload_n 2, 1) := by decide +kernel
theorem dX8_back_42 : decode cX8_back 42 = .ok (.aaload, 1) := by decide +kernel
theorem dX8_back_43 : decode cX8_back 43 = .ok (.getfield 273, 3) := by decide +kernel
theorem dX8_back_46 : decode cX8_back 46 = .ok (.aload_n 0, 1) := by decide +kernel
theorem dX8_back_47 : decode cX8_back 47 = .ok (.getfield 110, 3) := by decide +kernel
theorem dX8_back_50 : decode cX8_back 50 = .ok (.if_icmp .ge 21, 3) := by decide +kernel
theorem dX8_back_53 : decode cX8_back 53 = .ok (.aload_n 0, 1) := by decide +kernel
theorem dX8_back_54 : decode cX8_back 54 = .ok (.getfield 60, 3) := by decide +kernel
theorem dX8_back_57 : decode cX8_back 57 = .ok (.iload_n 1, 1) := by decide +kernel
theorem dX8_back_58 : decode cX8_back 58 = .ok (.aaload, 1) := by decide +kernel
theorem dX8_back_59 : decode cX8_back 59 = .ok (.aload_n 0, 1) := by decide +kernel
theorem dX8_back_60 : decode cX8_back 60 = .ok (.getfield 60, 3) := by decide +kernel
theorem dX8_back_63 : decode cX8_back 63 = .ok (.iload_n 2, 1) := by decide +kernel
theorem dX8_back_64 : decode cX8_back 64 = .ok (.aaload, 1) := by decide +kernel
theorem dX8_back_65 : decode cX8_back 65 = .ok (.invokevirtual 293, 3) := by decide +kernel
theorem dX8_back_68 : decode cX8_back 68 = .ok (.iinc 1 1, 3) := by decide +kernel
theorem dX8_back_71 : decode cX8_back 71 = .ok (.iinc 2 1, 3) := by decide +kernel
theorem dX8_back_74 : decode cX8_back 74 = .ok (.goto (-45), 3) := by decide +kernel
theorem dX8_back_77 : decode cX8_back 77 = .ok (.aload_n 0, 1) := by decide +kernel
theorem dX8_back_78 : decode cX8_back 78 = .ok (.iload_n 1, 1) := by decide +kernel
theorem dX8_back_79 : decode cX8_back 79 = .ok (.putfield 262, 3) := by decide +kernel
theorem dX8_back_82 : decode cX8_back 82 = .ok (.aload_n 0, 1) := by decide +kernel
theorem dX8_back_83 : decode cX8_back 83 = .ok (.getfield 110, 3) := by decide +kernel
theorem dX8_back_86 : decode cX8_back 86 = .ok (.ireturn, 1) := by decide +kernel
set_option maxRecDepth 20000 in
theorem ggX8_sheet_X8_isSheet : GoodIn wsX8_sheet wsX8_isSheet := goodIn_r _ [5] (by decide +kernel) (by decide +kernel)
set_option maxRecDepth 20000 in
theorem gX8_sheet_X8_isSheet : GoodIn wsX8_sheet (va_wsS RX8 127 yX8_isSheet wsX8_isSheet) := goodIn_app (goodIn_of _ (by decide +kernel)) ggX8_sheet_X8_isSheet
set_option maxRecDepth 20000 in
theorem ggX8_sheet_X5_begin : GoodIn wsX8_sheet wsX5_begin := goodIn_r _ [10, 11, 12, 13, 14, 15, 16, 17, 33, 34, 35] (by decide +kernel) (by decide +kernel)
set_option maxRecDepth 20000 in
theorem gX8_sheet_X5_begin : GoodIn wsX8_sheet (wsV RX8 297 RX5 yX5_begin wsX5_begin) := goodIn_app (goodIn_of _ (by decide +kernel)) ggX8_sheet_X5_begin
theorem dX8_sheet_0 : decode cX8_sheet 0 = .ok (.iload_n 1, 1) := by decide +kernel
theorem dX8_sheet_1 : decode cX8_sheet 1 = .ok (.invokestatic 127, 3) := by decide +kernel
theorem dX8_sheet_4 : decode cX8_sheet 4 = .ok (.ifCond .eq 13, 3) := by decide +kernel
theorem dX8_sheet_7 : decode cX8_sheet 7 = .ok (.iload_n 2, 1) := by decide +kernel
theorem dX8_sheet_8 : decode cX8_sheet 8 = .ok (.iconst (-1), 1) := by decide +kernel
theorem dX8_sheet_9 : decode cX8_sheet 9 = .ok (.if_icmp .lt 8, 3) := by decide +kernel
theorem dX8_sheet_12 : decode cX8_sheet 12 = .ok (.iload_n 2, 1) := by decide +kernel
theorem dX8_sheet_13 : decode cX8_sheet 13 = .ok (.iconst 3, 1) := by decide +kernel
theorem dX8_sheet_14 : decode cX8_sheet 14 = .ok (.if_icmp .lt 6, 3) := by decide +kernel
theorem dX8_sheet_17 : decode cX8_sheet 17 = .ok (.bipush (-2), 2) := by decide +kernel
theorem dX8_sheet_19 : decode cX8_sheet 19 = .ok (.ireturn, 1) := by decide +kernel
theorem dX8_sheet_20 : decode cX8_sheet 20 = .ok (.iload_n 2, 1) := by decide +kernel
theorem dX8_sheet_21 : decode cX8_sheet 21 = .ok (.iconst (-1), 1) := by decide +kernel
theorem dX8_sheet_22 : decode cX8_sheet 22 = .ok (.if_icmp .ne 16, 3) := by decide +kernel
theorem dX8_sheet_25 : decode cX8_sheet 25 = .ok (.aload_n 0, 1) := by decide +kernel
theorem dX8_sheet_26 : decode cX8_sheet 26 = .ok (.getfield 67, 3) := by decide +kernel
theorem dX8_sheet_29 : decode cX8_sheet 29 = .ok (.iload_n 1, 1) := by decide +kernel
theorem dX8_sheet_30 : decode cX8_sheet 30 = .ok (.aaload, 1) := by decide +kernel
theorem dX8_sheet_31 : decode cX8_sheet 31 = .ok (.iconst (-1), 1) := by decide +kernel
theorem dX8_sheet_32 : decode cX8_sheet 32 = .ok (.iconst 0, 1) := by decide +kernel
theorem dX8_sheet_33 : decode cX8_sheet 33 = .ok (.invokevirtual 297, 3) := by decide +kernel
theorem dX8_sheet_36 : decode cX8_sheet 36 = .ok (.iconst 1, 1) := by decide +kernel
theorem dX8_sheet_37 : decode cX8_sheet 37 = .ok (.ireturn, 1) := by decide +kernel
theorem dX8_sheet_38 : decode cX8_sheet 38 = .ok (.iload_n 3, 1) := by decide +kernel
theorem dX8_sheet_39 : decode cX8_sheet 39 = .ok (.bipush 40, 2) := by decide +kernel
theorem dX8_sheet_41 : decode cX8_sheet 41 = .ok (.if_icmp .le 6, 3) := by decide +kernel
theorem dX8_sheet_44 : decode cX8_sheet 44 = .ok (.bipush (-2), 2) := by decide +kernel
theorem dX8_sheet_46 : decode cX8_sheet 46 = .ok (.ireturn, 1) := by decide +kernel
theorem dX8_sheet_47 : decode cX8_sheet 47 = .ok (.iload_n 3, 1) := by decide +kernel
theorem dX8_sheet_48 : decode cX8_sheet 48 = .ok (.ifCond .ge 6, 3) := by decide +kernel
theorem dX8_sheet_51 : decode cX8_sheet 51 = .ok (.bipush (-14), 2) := by decide +kernel
theorem dX8_sheet_53 : decode cX8_sheet 53 = .ok (.ireturn, 1) := by decide +kernel
theorem dX8_sheet_54 : decode cX8_sheet 54 = .ok (.aload_n 0, 1) := by decide +kernel
theorem dX8_sheet_55 : decode cX8_sheet 55 = .ok (.getfield 67, 3) := by decide +kernel
theorem dX8_sheet_58 : decode cX8_sheet 58 = .ok (.iload_n 1, 1) := by decide +kernel
theorem dX8_sheet_59 : decode cX8_sheet 59 = .ok (.aaload, 1) := by decide +kernel
theorem dX8_sheet_60 : decode cX8_sheet 60 = .ok (.iload_n 2, 1) := by decide +kernel
theorem dX8_sheet_61 : decode cX8_sheet 61 = .ok (.iload_n 3, 1) := by decide +kernel
theorem dX8_sheet_62 : decode cX8_sheet 62 = .ok (.invokevirtual 297, 3) := by decide +kernel
theorem dX8_sheet_65 : decode cX8_sheet 65 = .ok (.iconst 1, 1) := by decide +kernel
theorem dX8_sheet_66 : decode cX8_sheet 66 = .ok (.ireturn, 1) := by decide +kernel
set_option maxRecDepth 20000 in
theorem ggX8_cell_X8_isSheet : GoodIn wsX8_cell wsX8_isSheet := goodIn_r _ [7] (by decide +kernel) (by decide +kernel)
set_option maxRecDepth 20000 in
theorem gX8_cell_X8_isSheet : GoodIn wsX8_cell (va_wsS RX8 127 yX8_isSheet wsX8_isSheet) := goodIn_app (goodIn_of _ (by decide +kernel)) ggX8_cell_X8_isSheet
set_option maxRecDepth 20000 in
theorem ggX8_cell_X5_isMissing : GoodIn wsX8_cell wsX5_isMissing := goodIn_r _ [12, 13, 33, 34, 35] (by decide +kernel) (by decide +kernel)
set_option maxRecDepth 20000 in
theorem gX8_cell_X5_isMissing : GoodIn wsX8_cell (wsV RX8 136 RX5 yX5_isMissing wsX5_isMissing) := goodIn_app (goodIn_of _ (by decide +kernel)) ggX8_cell_X5_isMissing
set_option maxRecDepth 20000 in
theorem ggX8_cell_X5_cut : GoodIn wsX8_cell wsX5_cut := goodIn_r _ [17, 13, 33, 34, 35] (by decide +kernel) (by decide +kernel)
set_option maxRecDepth 20000 in
theorem gX8_cell_X5_cut : GoodIn wsX8_cell (wsV RX8 298 RX5 yX5_cut wsX5_cut) := goodIn_app (goodIn_of _ (by decide +kernel)) ggX8_cell_X5_cut
theorem dX8_cell_0 : decode cX8_cell 0 = .ok (.iload_n 1, 1) := by decide +kernel
theorem dX8_cell_1 : decode cX8_cell 1 = .ok (.invokestatic 127, 3) := by decide +kernel
theorem dX8_cell_4 : decode cX8_cell 4 = .ok (.ifCond .ne 6, 3) := by decide +kernel
theorem dX8_cell_7 : decode cX8_cell 7 = .ok (.bipush (-2), 2) := by decide +kernel
theorem dX8_cell_9 : decode cX8_cell 9 = .ok (.ireturn, 1) := by decide +kernel
theorem dX8_cell_10 : decode cX8_cell 10 = .ok (.aload_n 0, 1) := by decide +kernel
theorem dX8_cell_11 : decode cX8_cell 11 = .ok (.getfield 67, 3) := by decide +kernel
theorem dX8_cell_14 : decode cX8_cell 14 = .ok (.iload_n 1, 1) := by decide +kernel
theorem dX8_cell_15 : decode cX8_cell 15 = .ok (.aaload, 1) := by decide +kernel
theorem dX8_cell_16 : decode cX8_cell 16 = .ok (.astore 4, 2) := by decide +kernel
theorem dX8_cell_18 : decode cX8_cell 18 = .ok (.aload 4, 2) := by decide +kernel
theorem dX8_cell_20 : decode cX8_cell 20 = .ok (.invokevirtual 136, 3) := by decide +kernel
theorem dX8_cell_23 : decode cX8_cell 23 = .ok (.ifCond .eq 6, 3) := by decide +kernel
theorem dX8_cell_26 : decode cX8_cell 26 = .ok (.bipush (-11), 2) := by decide +kernel
theorem dX8_cell_28 : decode cX8_cell 28 = .ok (.ireturn, 1) := by decide +kernel
theorem dX8_cell_29 : decode cX8_cell 29 = .ok (.iload_n 2, 1) := by decide +kernel
theorem dX8_cell_30 : decode cX8_cell 30 = .ok (.ifCond .lt 12, 3) := by decide +kernel
theorem dX8_cell_33 : decode cX8_cell 33 = .ok (.iload_n 2, 1) := by decide +kernel
theorem dX8_cell_34 : decode cX8_cell 34 = .ok (.aload 4, 2) := by decide +kernel
theorem dX8_cell_36 : decode cX8_cell 36 = .ok (.getfield 148, 3) := by decide +kernel
theorem dX8_cell_39 : decode cX8_cell 39 = .ok (.if_icmp .lt 6, 3) := by decide +kernel
theorem dX8_cell_42 : decode cX8_cell 42 = .ok (.bipush (-12), 2) := by decide +kernel
theorem dX8_cell_44 : decode cX8_cell 44 = .ok (.ireturn, 1) := by decide +kernel
theorem dX8_cell_45 : decode cX8_cell 45 = .ok (.aload 4, 2) := by decide +kernel
theorem dX8_cell_47 : decode cX8_cell 47 = .ok (.getfield 149, 3) := by decide +kernel
theorem dX8_cell_50 : decode cX8_cell 50 = .ok (.iload_n 2, 1) := by decide +kernel
theorem dX8_cell_51 : decode cX8_cell 51 = .ok (.aload 4, 2) := by decide +kernel
theorem dX8_cell_53 : decode cX8_cell 53 = .ok (.iload_n 3, 1) := by decide +kernel
theorem dX8_cell_54 : decode cX8_cell 54 = .ok (.invokevirtual 298, 3) := by decide +kernel
theorem dX8_cell_57 : decode cX8_cell 57 = .ok (.iastore, 1) := by decide +kernel
theorem dX8_cell_58 : decode cX8_cell 58 = .ok (.iconst 1, 1) := by decide +kernel
theorem dX8_cell_59 : decode cX8_cell 59 = .ok (.ireturn, 1) := by decide +kernel
set_option maxRecDepth 20000 in
theorem ggX8_copy_X8_isSheet : GoodIn wsX8_copy wsX8_isSheet := goodIn_r _ [11] (by decide +kernel) (by decide +kernel)
set_option maxRecDepth 20000 in
theorem gX8_copy_X8_isSheet : GoodIn wsX8_copy (va_wsS RX8 127 yX8_isSheet wsX8_isSheet) := goodIn_app (goodIn_of _ (by decide +kernel)) ggX8_copy_X8_isSheet
set_option maxRecDepth 20000 in
theorem ggX8_copy_X5_isMissing : GoodIn wsX8_copy wsX5_isMissing := goodIn_r _ [16, 17, 38, 39, 40] (by decide +kernel) (by decide +kernel)
set_option maxRecDepth 20000 in
theorem gX8_copy_X5_isMissing : GoodIn wsX8_copy (wsV RX8 136 RX5 yX5_isMissing wsX5_isMissing) := goodIn_app (goodIn_of _ (by decide +kernel)) ggX8_copy_X5_isMissing
set_option maxRecDepth 20000 in
theorem ggX8_copy_X5_hasRange : GoodIn wsX8_copy wsX5_hasRange := goodIn_r _ [21, 22, 38, 39, 40] (by decide +kernel) (by decide +kernel)
set_option maxRecDepth 20000 in
theorem gX8_copy_X5_hasRange : GoodIn wsX8_copy (wsV RX8 304 RX5 yX5_hasRange wsX5_hasRange) := goodIn_app (goodIn_of _ (by decide +kernel)) ggX8_copy_X5_hasRange
theorem dX8_copy_0 : decode cX8_copy 0 = .ok (.iload_n 1, 1) := by decide +kernel
theorem dX8_copy_1 : decode cX8_copy 1 = .ok (.invokestatic 127, 3) := by decide +kernel
theorem dX8_copy_4 : decode cX8_copy 4 = .ok (.ifCond .eq 10, 3) := by decide +kernel
theorem dX8_copy_7 : decode cX8_copy 7 = .ok (.iload_n 3, 1) := by decide +kernel
theorem dX8_copy_8 : decode cX8_copy 8 = .ok (.invokestatic 127, 3) := by decide +kernel
theorem dX8_copy_11 : decode cX8_copy 11 = .ok (.ifCond .ne 6, 3) := by decide +kernel
theorem dX8_copy_14 : decode cX8_copy 14 = .ok (.bipush (-2), 2) := by decide +kernel
theorem dX8_copy_16 : decode cX8_copy 16 = .ok (.ireturn, 1) := by decide +kernel
theorem dX8_copy_17 : decode cX8_copy 17 = .ok (.aload_n 0, 1) := by decide +kernel
theorem dX8_copy_18 : decode cX8_copy 18 = .ok (.getfield 67, 3) := by decide +kernel
theorem dX8_copy_21 : decode cX8_copy 21 = .ok (.iload_n 1, 1) := by decide +kernel
theorem dX8_copy_22 : decode cX8_copy 22 = .ok (.aaload, 1) := by decide +kernel
theorem dX8_copy_23 : decode cX8_copy 23 = .ok (.astore 6, 2) := by decide +kernel
theorem dX8_copy_25 : decode cX8_copy 25 = .ok (.aload_n 0, 1) := by decide +kernel
theorem dX8_copy_26 : decode cX8_copy 26 = .ok (.getfield 67, 3) := by decide +kernel
theorem dX8_copy_29 : decode cX8_copy 29 = .ok (.iload_n 3, 1) := by decide +kernel
theorem dX8_copy_30 : decode cX8_copy 30 = .ok (.aaload, 1) := by decide +kernel
theorem dX8_copy_31 : decode cX8_copy 31 = .ok (.astore 7, 2) := by decide +kernel
theorem dX8_copy_33 : decode cX8_copy 33 = .ok (.aload 6, 2) := by decide +kernel
theorem dX8_copy_35 : decode cX8_copy 35 = .ok (.invokevirtual 136, 3) := by decide +kernel
theorem dX8_copy_38 : decode cX8_copy 38 = .ok (.ifCond .ne 11, 3) := by decide +kernel
theorem dX8_copy_41 : decode cX8_copy 41 = .ok (.aload 7, 2) := by decide +kernel
theorem dX8_copy_43 : decode cX8_copy 43 = .ok (.invokevirtual 136, 3) := by decide +kernel
theorem dX8_copy_46 : decode cX8_copy 46 = .ok (.ifCond .eq 6, 3) := by decide +kernel
theorem dX8_copy_49 : decode cX8_copy 49 = .ok (.bipush (-11), 2) := by decide +kernel
theorem dX8_copy_51 : decode cX8_copy 51 = .ok (.ireturn, 1) := by decide +kernel
theorem dX8_copy_52 : decode cX8_copy 52 = .ok (.aload 6, 2) := by decide +kernel
theorem dX8_copy_54 : decode cX8_copy 54 = .ok (.getfield 301, 3) := by decide +kernel
theorem dX8_copy_57 : decode cX8_copy 57 = .ok (.aload 7, 2) := by decide +kernel
theorem dX8_copy_59 : decode cX8_copy 59 = .ok (.getfield 301, 3) := by decide +kernel
theorem dX8_copy_62 : decode cX8_copy 62 = .ok (.if_icmp .eq 6, 3) := by decide +kernel
theorem dX8_copy_65 : decode cX8_copy 65 = .ok (.bipush (-13), 2) := by decide +kernel
theorem dX8_copy_67 : decode cX8_copy 67 = .ok (.ireturn, 1) := by decide +kernel
theorem dX8_copy_68 : decode cX8_copy 68 = .ok (.aload 6, 2) := by decide +kernel
theorem dX8_copy_70 : decode cX8_copy 70 = .ok (.iload_n 2, 1) := by decide +kernel
theorem dX8_copy_71 : decode cX8_copy 71 = .ok (.iload 5, 2) := by decide +kernel
theorem dX8_copy_73 : decode cX8_copy 73 = .ok (.invokevirtual 304, 3) := by decide +kernel
theorem dX8_copy_76 : decode cX8_copy 76 = .ok (.ifCond .eq 15, 3) := by decide +kernel
theorem dX8_copy_79 : decode cX8_copy 79 = .ok (.aload 7, 2) := by decide +kernel
theorem dX8_copy_81 : decode cX8_copy 81 = .ok (.iload 4, 2) := by decide +kernel
theorem dX8_copy_83 : decode cX8_copy 83 = .ok (.iload 5, 2) := by decide +kernel
theorem dX8_copy_85 : decode cX8_copy 85 = .ok (.invokevirtual 304, 3) := by decide +kernel
theorem dX8_copy_88 : decode cX8_copy 88 = .ok (.ifCond .ne 6, 3) := by decide +kernel
theorem dX8_copy_91 : decode cX8_copy 91 = .ok (.bipush (-12), 2) := by decide +kernel
theorem dX8_copy_93 : decode cX8_copy 93 = .ok (.ireturn, 1) := by decide +kernel
theorem dX8_copy_94 : decode cX8_copy 94 = .ok (.aload 6, 2) := by decide +kernel
theorem dX8_copy_96 : decode cX8_copy 96 = .ok (.getfield 149, 3) := by decide +kernel
theorem dX8_copy_99 : decode cX8_copy 99 = .ok (.iload_n 2, 1) := by decide +kernel
theorem dX8_copy_100 : decode cX8_copy 100 = .ok (.aload 7, 2) := by decide +kernel
theorem dX8_copy_102 : decode cX8_copy 102 = .ok (.getfield 149, 3) := by decide +kernel
theorem dX8_copy_105 : decode cX8_copy 105 = .ok (.iload 4, 2) := by decide +kernel
theorem dX8_copy_107 : decode cX8_copy 107 = .ok (.iload 5, 2) := by decide +kernel
theorem dX8_copy_109 : decode cX8_copy 109 = .ok (.invokestatic 307, 3) := by decide +kernel
theorem dX8_copy_112 : decode cX8_copy 112 = .ok (.iload 5, 2) := by decide +kernel
theorem dX8_copy_114 : decode cX8_copy 114 = .ok (.ireturn, 1) := by decide +kernel
set_option maxRecDepth 20000 in
theorem ggX8_claims_X8_isSheet : GoodIn wsX8_claims wsX8_isSheet := goodIn_r _ [7] (by decide +kernel) (by decide +kernel)
set_option maxRecDepth 20000 in
theorem gX8_claims_X8_isSheet : GoodIn wsX8_claims (va_wsS RX8 127 yX8_isSheet wsX8_isSheet) := goodIn_app (goodIn_of _ (by decide +kernel)) ggX8_claims_X8_isSheet
set_option maxRecDepth 20000 in
theorem ggX8_claims_X5_isMissing : GoodIn wsX8_claims wsX5_isMissing := goodIn_r _ [12, 13, 55, 56, 57] (by decide +kernel) (by decide +kernel)
set_option maxRecDepth 20000 in
theorem gX8_claims_X5_isMissing : GoodIn wsX8_claims (wsV RX8 136 RX5 yX5_isMissing wsX5_isMissing) := goodIn_app (goodIn_of _ (by decide +kernel)) ggX8_claims_X5_isMissing
set_option maxRecDepth 20000 in
theorem ggX8_claims_X5_hasRange : GoodIn wsX8_claims wsX5_hasRange := goodIn_r _ [17, 18, 55, 56, 57] (by decide +kernel) (by decide +kernel)
set_option maxRecDepth 20000 in
theorem gX8_claims_X5_hasRange : GoodIn wsX8_claims (wsV RX8 304 RX5 yX5_hasRange wsX5_hasRange) := goodIn_app (goodIn_of _ (by decide +kernel)) ggX8_claims_X5_hasRange
set_option maxRecDepth 20000 in
theorem ggX8_claims_X8_claim : GoodIn wsX8_claims wsX8_claim := goodIn_r _ [22, 23, 24, 25, 26, 27, 6, 28, 29, 30, 31, 32, 33, 34, 35, 36, 37, 38, 39, 40, 41, 42, 43, 44, 45, 46, 47, 48, 49, 50, 51, 52, 53, 54, 58, 59, 60, 61] (by decide +kernel) (by decide +kernel)
set_option maxRecDepth 20000 in
theorem gX8_claims_X8_claim : GoodIn wsX8_claims (wsV RX8 313 RX8 yX8_claim wsX8_claim) := goodIn_app (goodIn_of _ (by decide +kernel)) ggX8_claims_X8_claim
theorem dX8_claims_0 : decode cX8_claims 0 = .ok (.iload_n 1, 1) := by decide +kernel
theorem dX8_claims_1 : decode cX8_claims 1 = .ok (.invokestatic 127, 3) := by decide +kernel
theorem dX8_claims_4 : decode cX8_claims 4 = .ok (.ifCond .eq 24, 3) := by decide +kernel
theorem dX8_claims_7 : decode cX8_claims 7 = .ok (.iload_n 2, 1) := by decide +kernel
theorem dX8_claims_8 : decode cX8_claims 8 = .ok (.ifCond .lt 20, 3) := by decide +kernel
theorem dX8_claims_11 : decode cX8_claims 11 = .ok (.iload_n 2, 1) := by decide +kernel
theorem dX8_claims_12 : decode cX8_claims 12 = .ok (.iconst 3, 1) := by decide +kernel
theorem dX8_claims_13 : decode cX8_claims 13 = .ok (.if_icmp .ge 15, 3) := by decide +kernel
theorem dX8_claims_16 : decode cX8_claims 16 = .ok (.iload 4, 2) := by decide +kernel
theorem dX8_claims_18 : decode cX8_claims 18 = .ok (.ifCond .lt 10, 3) := by decide +kernel
theorem dX8_claims_21 : decode cX8_claims 21 = .ok (.iload 4, 2) := by decide +kernel
theorem dX8_claims_23 : decode cX8_claims 23 = .ok (.bipush 20, 2) := by decide +kernel
theorem dX8_claims_25 : decode cX8_claims 25 = .ok (.if_icmp .le 6, 3) := by decide +kernel
theorem dX8_claims_28 : decode cX8_claims 28 = .ok (.bipush (-2), 2) := by decide +kernel
theorem dX8_claims_30 : decode cX8_claims 30 = .ok (.ireturn, 1) := by decide +kernel
theorem dX8_claims_31 : decode cX8_claims 31 = .ok (.aload_n 0, 1) := by decide +kernel
theorem dX8_claims_32 : decode cX8_claims 32 = .ok (.getfield 67, 3) := by decide +kernel
theorem dX8_claims_35 : decode cX8_claims 35 = .ok (.iload_n 1, 1) := by decide +kernel
theorem dX8_claims_36 : decode cX8_claims 36 = .ok (.aaload, 1) := by decide +kernel
theorem dX8_claims_37 : decode cX8_claims 37 = .ok (.astore 5, 2) := by decide +kernel
theorem dX8_claims_39 : decode cX8_claims 39 = .ok (.aload 5, 2) := by decide +kernel
theorem dX8_claims_41 : decode cX8_claims 41 = .ok (.invokevirtual 136, 3) := by decide +kernel
theorem dX8_claims_44 : decode cX8_claims 44 = .ok (.ifCond .eq 6, 3) := by decide +kernel
theorem dX8_claims_47 : decode cX8_claims 47 = .ok (.bipush (-11), 2) := by decide +kernel
theorem dX8_claims_49 : decode cX8_claims 49 = .ok (.ireturn, 1) := by decide +kernel
theorem dX8_claims_50 : decode cX8_claims 50 = .ok (.aload 5, 2) := by decide +kernel
theorem dX8_claims_52 : decode cX8_claims 52 = .ok (.getfield 301, 3) := by decide +kernel
theorem dX8_claims_55 : decode cX8_claims 55 = .ok (.iload_n 2, 1) := by decide +kernel
theorem dX8_claims_56 : decode cX8_claims 56 = .ok (.if_icmp .eq 6, 3) := by decide +kernel
theorem dX8_claims_59 : decode cX8_claims 59 = .ok (.bipush (-13), 2) := by decide +kernel
theorem dX8_claims_61 : decode cX8_claims 61 = .ok (.ireturn, 1) := by decide +kernel
theorem dX8_claims_62 : decode cX8_claims 62 = .ok (.iconst 0, 1) := by decide +kernel
theorem dX8_claims_63 : decode cX8_claims 63 = .ok (.istore 6, 2) := by decide +kernel
theorem dX8_claims_65 : decode cX8_claims 65 = .ok (.iconst 0, 1) := by decide +kernel
theorem dX8_claims_66 : decode cX8_claims 66 = .ok (.istore 7, 2) := by decide +kernel
theorem dX8_claims_68 : decode cX8_claims 68 = .ok (.iload 7, 2) := by decide +kernel
theorem dX8_claims_70 : decode cX8_claims 70 = .ok (.iload 4, 2) := by decide +kernel
theorem dX8_claims_72 : decode cX8_claims 72 = .ok (.if_icmp .ge 59, 3) := by decide +kernel
theorem dX8_claims_75 : decode cX8_claims 75 = .ok (.iload_n 3, 1) := by decide +kernel
theorem dX8_claims_76 : decode cX8_claims 76 = .ok (.iconst 2, 1) := by decide +kernel
theorem dX8_claims_77 : decode cX8_claims 77 = .ok (.iload 7, 2) := by decide +kernel
theorem dX8_claims_79 : decode cX8_claims 79 = .ok (.imul, 1) := by decide +kernel
theorem dX8_claims_80 : decode cX8_claims 80 = .ok (.iadd, 1) := by decide +kernel
theorem dX8_claims_81 : decode cX8_claims 81 = .ok (.istore 8, 2) := by decide +kernel
theorem dX8_claims_83 : decode cX8_claims 83 = .ok (.aload 5, 2) := by decide +kernel
theorem dX8_claims_85 : decode cX8_claims 85 = .ok (.iload 8, 2) := by decide +kernel
theorem dX8_claims_87 : decode cX8_claims 87 = .ok (.iconst 2, 1) := by decide +kernel
theorem dX8_claims_88 : decode cX8_claims 88 = .ok (.invokevirtual 304, 3) := by decide +kernel
theorem dX8_claims_91 : decode cX8_claims 91 = .ok (.ifCond .ne 6, 3) := by decide +kernel
theorem dX8_claims_94 : decode cX8_claims 94 = .ok (.bipush (-12), 2) := by decide +kernel
theorem dX8_claims_96 : decode cX8_claims 96 = .ok (.ireturn, 1) := by decide +kernel
theorem dX8_claims_97 : decode cX8_claims 97 = .ok (.aload_n 0, 1) := by decide +kernel
theorem dX8_claims_98 : decode cX8_claims 98 = .ok (.aload 5, 2) := by decide +kernel
theorem dX8_claims_100 : decode cX8_claims 100 = .ok (.getfield 149, 3) := by decide +kernel
theorem dX8_claims_103 : decode cX8_claims 103 = .ok (.iload 8, 2) := by decide +kernel
theorem dX8_claims_105 : decode cX8_claims 105 = .ok (.iaload, 1) := by decide +kernel
theorem dX8_claims_106 : decode cX8_claims 106 = .ok (.aload 5, 2) := by decide +kernel
theorem dX8_claims_108 : decode cX8_claims 108 = .ok (.getfield 149, 3) := by decide +kernel
theorem dX8_claims_111 : decode cX8_claims 111 = .ok (.iload 8, 2) := by decide +kernel
theorem dX8_claims_113 : decode cX8_claims 113 = .ok (.iconst 1, 1) := by decide +kernel
theorem dX8_claims_114 : decode cX8_claims 114 = .ok (.iadd, 1) := by decide +kernel
theorem dX8_claims_115 : decode cX8_claims 115 = .ok (.iaload, 1) := by decide +kernel
theorem dX8_claims_116 : decode cX8_claims 116 = .ok (.invokevirtual 313, 3) := by decide +kernel
theorem dX8_claims_119 : decode cX8_claims 119 = .ok (.ifCond .lt 6, 3) := by decide +kernel
theorem dX8_claims_122 : decode cX8_claims 122 = .ok (.iinc 6 1, 3) := by decide +kernel
theorem dX8_claims_125 : decode cX8_claims 125 = .ok (.iinc 7 1, 3) := by decide +kernel
theorem dX8_claims_128 : decode cX8_claims 128 = .ok (.goto (-60), 3) := by decide +kernel
theorem dX8_claims_131 : decode cX8_claims 131 = .ok (.iload 6, 2) := by decide +kernel
theorem dX8_claims_133 : decode cX8_claims 133 = .ok (.ireturn, 1) := by decide +kernel
set_option maxRecDepth 20000 in
theorem ggX8_taken_X8_taskAt : GoodIn wsX8_taken wsX8_taskAt := goodIn_r _ [7, 8, 9, 40, 41, 42, 43, 44, 45, 46, 47, 48, 49, 50, 51, 52, 53, 54] (by decide +kernel) (by decide +kernel)
set_option maxRecDepth 20000 in
theorem gX8_taken_X8_taskAt : GoodIn wsX8_taken (wsV RX8 165 RX8 yX8_taskAt wsX8_taskAt) := goodIn_app (goodIn_of _ (by decide +kernel)) ggX8_taken_X8_taskAt
set_option maxRecDepth 20000 in
theorem ggX8_taken_X8_taskTaken : GoodIn wsX8_taken wsX8_taskTaken := goodIn_r _ [12, 13, 14, 15, 16, 17, 18, 55, 56, 57, 58, 59, 60, 61, 62] (by decide +kernel) (by decide +kernel)
set_option maxRecDepth 20000 in
theorem gX8_taken_X8_taskTaken : GoodIn wsX8_taken (va_wsS RX8 316 yX8_taskTaken wsX8_taskTaken) := goodIn_app (goodIn_of _ (by decide +kernel)) ggX8_taken_X8_taskTaken
set_option maxRecDepth 20000 in
theorem ggX8_taken_X8_recipeAt : GoodIn wsX8_taken wsX8_recipeAt := goodIn_r _ [22, 23, 24, 40, 41, 42, 43, 44, 45, 46, 47, 48, 49, 50, 51, 52, 53, 54] (by decide +kernel) (by decide +kernel)
set_option maxRecDepth 20000 in
theorem gX8_taken_X8_recipeAt : GoodIn wsX8_taken (wsV RX8 90 RX8 yX8_recipeAt wsX8_recipeAt) := goodIn_app (goodIn_of _ (by decide +kernel)) ggX8_taken_X8_recipeAt
set_option maxRecDepth 20000 in
theorem ggX8_taken_X8_claimAt : GoodIn wsX8_taken wsX8_claimAt := goodIn_r _ [28, 29, 30, 40, 41, 42, 43, 44, 45, 46, 47, 48, 49, 50, 51, 52, 53, 54] (by decide +kernel) (by decide +kernel)
set_option maxRecDepth 20000 in
theorem gX8_taken_X8_claimAt : GoodIn wsX8_taken (wsV RX8 266 RX8 yX8_claimAt wsX8_claimAt) := goodIn_app (goodIn_of _ (by decide +kernel)) ggX8_taken_X8_claimAt
theorem dX8_taken_0 : decode cX8_taken 0 = .ok (.iload_n 1, 1) := by decide +kernel
theorem dX8_taken_1 : decode cX8_taken 1 = .ok (.ifCond .lt 18, 3) := by decide +kernel
theorem dX8_taken_4 : decode cX8_taken 4 = .ok (.iload_n 1, 1) := by decide +kernel
theorem dX8_taken_5 : decode cX8_taken 5 = .ok (.iconst 2, 1) := by decide +kernel
theorem dX8_taken_6 : decode cX8_taken 6 = .ok (.if_icmp .gt 13, 3) := by decide +kernel
theorem dX8_taken_9 : decode cX8_taken 9 = .ok (.iload_n 3, 1) := by decide +kernel
theorem dX8_taken_10 : decode cX8_taken 10 = .ok (.ifCond .lt 9, 3) := by decide +kernel
theorem dX8_taken_13 : decode cX8_taken 13 = .ok (.iload_n 3, 1) := by decide +kernel
theorem dX8_taken_14 : decode cX8_taken 14 = .ok (.bipush 7, 2) := by decide +kernel
theorem dX8_taken_16 : decode cX8_taken 16 = .ok (.if_icmp .le 6, 3) := by decide +kernel
theorem dX8_taken_19 : decode cX8_taken 19 = .ok (.bipush (-2), 2) := by decide +kernel
theorem dX8_taken_21 : decode cX8_taken 21 = .ok (.ireturn, 1) := by decide +kernel
theorem dX8_taken_22 : decode cX8_taken 22 = .ok (.iload_n 1, 1) := by decide +kernel
theorem dX8_taken_23 : decode cX8_taken 23 = .ok (.ifCond .ne 13, 3) := by decide +kernel
theorem dX8_taken_26 : decode cX8_taken 26 = .ok (.aload_n 0, 1) := by decide +kernel
theorem dX8_taken_27 : decode cX8_taken 27 = .ok (.iload_n 2, 1) := by decide +kernel
theorem dX8_taken_28 : decode cX8_taken 28 = .ok (.invokevirtual 165, 3) := by decide +kernel
theorem dX8_taken_31 : decode cX8_taken 31 = .ok (.iload_n 3, 1) := by decide +kernel
theorem dX8_taken_32 : decode cX8_taken 32 = .ok (.invokestatic 316, 3) := by decide +kernel
theorem dX8_taken_35 : decode cX8_taken 35 = .ok (.ireturn, 1) := by decide +kernel
theorem dX8_taken_36 : decode cX8_taken 36 = .ok (.iload_n 1, 1) := by decide +kernel
theorem dX8_taken_37 : decode cX8_taken 37 = .ok (.iconst 1, 1) := by decide +kernel
theorem dX8_taken_38 : decode cX8_taken 38 = .ok (.if_icmp .ne 35, 3) := by decide +kernel
theorem dX8_taken_41 : decode cX8_taken 41 = .ok (.aload_n 0, 1) := by decide +kernel
theorem dX8_taken_42 : decode cX8_taken 42 = .ok (.iload_n 2, 1) := by decide +kernel
theorem dX8_taken_43 : decode cX8_taken 43 = .ok (.invokevirtual 90, 3) := by decide +kernel
theorem dX8_taken_46 : decode cX8_taken 46 = .ok (.astore 4, 2) := by decide +kernel
theorem dX8_taken_48 : decode cX8_taken 48 = .ok (.aload 4, 2) := by decide +kernel
theorem dX8_taken_50 : decode cX8_taken 50 = .ok (.ifnonnull 6, 3) := by decide +kernel
theorem dX8_taken_53 : decode cX8_taken 53 = .ok (.bipush (-11), 2) := by decide +kernel
theorem dX8_taken_55 : decode cX8_taken 55 = .ok (.ireturn, 1) := by decide +kernel
theorem dX8_taken_56 : decode cX8_taken 56 = .ok (.iload_n 3, 1) := by decide +kernel
theorem dX8_taken_57 : decode cX8_taken 57 = .ok (.bipush 6, 2) := by decide +kernel
theorem dX8_taken_59 : decode cX8_taken 59 = .ok (.if_icmp .ne 11, 3) := by decide +kernel
theorem dX8_taken_62 : decode cX8_taken 62 = .ok (.aload 4, 2) := by decide +kernel
theorem dX8_taken_64 : decode cX8_taken 64 = .ok (.getfield 103, 3) := by decide +kernel
theorem dX8_taken_67 : decode cX8_taken 67 = .ok (.goto 5, 3) := by decide +kernel
theorem dX8_taken_70 : decode cX8_taken 70 = .ok (.bipush (-13), 2) := by decide +kernel
theorem dX8_taken_72 : decode cX8_taken 72 = .ok (.ireturn, 1) := by decide +kernel
theorem dX8_taken_73 : decode cX8_taken 73 = .ok (.aload_n 0, 1) := by decide +kernel
theorem dX8_taken_74 : decode cX8_taken 74 = .ok (.iload_n 2, 1) := by decide +kernel
theorem dX8_taken_75 : decode cX8_taken 75 = .ok (.invokevirtual 266, 3) := by decide +kernel
theorem dX8_taken_78 : decode cX8_taken 78 = .ok (.astore 4, 2) := by decide +kernel
theorem dX8_taken_80 : decode cX8_taken 80 = .ok (.aload 4, 2) := by decide +kernel
theorem dX8_taken_82 : decode cX8_taken 82 = .ok (.ifnonnull 6, 3) := by decide +kernel
theorem dX8_taken_85 : decode cX8_taken 85 = .ok (.bipush (-11), 2) := by decide +kernel
theorem dX8_taken_87 : decode cX8_taken 87 = .ok (.ireturn, 1) := by decide +kernel
theorem dX8_taken_88 : decode cX8_taken 88 = .ok (.iload_n 3, 1) := by decide +kernel
theorem dX8_taken_89 : decode cX8_taken 89 = .ok (.bipush 7, 2) := by decide +kernel
theorem dX8_taken_91 : decode cX8_taken 91 = .ok (.if_icmp .ne 11, 3) := by decide +kernel
theorem dX8_taken_94 : decode cX8_taken 94 = .ok (.aload 4, 2) := by decide +kernel
theorem dX8_taken_96 : decode cX8_taken 96 = .ok (.getfield 276, 3) := by decide +kernel
theorem dX8_taken_99 : decode cX8_taken 99 = .ok (.goto 5, 3) := by decide +kernel
theorem dX8_taken_102 : decode cX8_taken 102 = .ok (.bipush (-13), 2) := by decide +kernel
theorem dX8_taken_104 : decode cX8_taken 104 = .ok (.ireturn, 1) := by decide +kernel
set_option maxRecDepth 20000 in
theorem ggX8_taskTaken_X2_isOne : GoodIn wsX8_taskTaken wsX2_isOne := goodIn_r _ [5, 6] (by decide +kernel) (by decide +kernel)
set_option maxRecDepth 20000 in
theorem gX8_taskTaken_X2_isOne : GoodIn wsX8_taskTaken (va_wsS RX8 320 yX2_isOne wsX2_isOne) := goodIn_app (goodIn_of _ (by decide +kernel)) ggX8_taskTaken_X2_isOne
theorem dX8_taskTaken_0 : decode cX8_taskTaken 0 = .ok (.aload_n 0, 1) := by decide +kernel
theorem dX8_taskTaken_1 : decode cX8_taskTaken 1 = .ok (.ifnonnull 6, 3) := by decide +kernel
theorem dX8_taskTaken_4 : decode cX8_taskTaken 4 = .ok (.bipush (-11), 2) := by decide +kernel
theorem dX8_taskTaken_6 : decode cX8_taskTaken 6 = .ok (.ireturn, 1) := by decide +kernel
theorem dX8_taskTaken_7 : decode cX8_taskTaken 7 = .ok (.aload_n 0, 1) := by decide +kernel
theorem dX8_taskTaken_8 : decode cX8_taskTaken 8 = .ok (.getfield 169, 3) := by decide +kernel
theorem dX8_taskTaken_11 : decode cX8_taskTaken 11 = .ok (.iload_n 1, 1) := by decide +kernel
theorem dX8_taskTaken_12 : decode cX8_taskTaken 12 = .ok (.invokestatic 320, 3) := by decide +kernel
theorem dX8_taskTaken_15 : decode cX8_taskTaken 15 = .ok (.ifCond .eq 10, 3) := by decide +kernel
theorem dX8_taskTaken_18 : decode cX8_taskTaken 18 = .ok (.aload_n 0, 1) := by decide +kernel
theorem dX8_taskTaken_19 : decode cX8_taskTaken 19 = .ok (.getfield 169, 3) := by decide +kernel
theorem dX8_taskTaken_22 : decode cX8_taskTaken 22 = .ok (.goto 5, 3) := by decide +kernel
theorem dX8_taskTaken_25 : decode cX8_taskTaken 25 = .ok (.bipush (-13), 2) := by decide +kernel
theorem dX8_taskTaken_27 : decode cX8_taskTaken 27 = .ok (.ireturn, 1) := by decide +kernel
theorem dX8_recipeAt_0 : decode cX8_recipeAt 0 = .ok (.iload_n 1, 1) := by decide +kernel
theorem dX8_recipeAt_1 : decode cX8_recipeAt 1 = .ok (.ifCond .lt 20, 3) := by decide +kernel
theorem dX8_recipeAt_4 : decode cX8_recipeAt 4 = .ok (.iload_n 1, 1) := by decide +kernel
theorem dX8_recipeAt_5 : decode cX8_recipeAt 5 = .ok (.aload_n 0, 1) := by decide +kernel
theorem dX8_recipeAt_6 : decode cX8_recipeAt 6 = .ok (.getfield 83, 3) := by decide +kernel
theorem dX8_recipeAt_9 : decode cX8_recipeAt 9 = .ok (.if_icmp .ge 12, 3) := by decide +kernel
theorem dX8_recipeAt_12 : decode cX8_recipeAt 12 = .ok (.aload_n 0, 1) := by decide +kernel
theorem dX8_recipeAt_13 : decode cX8_recipeAt 13 = .ok (.getfield 49, 3) := by decide +kernel
theorem dX8_recipeAt_16 : decode cX8_recipeAt 16 = .ok (.iload_n 1, 1) := by decide +kernel
theorem dX8_recipeAt_17 : decode cX8_recipeAt 17 = .ok (.aaload, 1) := by decide +kernel
theorem dX8_recipeAt_18 : decode cX8_recipeAt 18 = .ok (.goto 4, 3) := by decide +kernel
theorem dX8_recipeAt_21 : decode cX8_recipeAt 21 = .ok (.aconst_null, 1) := by decide +kernel
theorem dX8_recipeAt_22 : decode cX8_recipeAt 22 = .ok (.areturn, 1) := by decide +kernel
theorem dX8_taskAt_0 : decode cX8_taskAt 0 = .ok (.iload_n 1, 1) := by decide +kernel
theorem dX8_taskAt_1 : decode cX8_taskAt 1 = .ok (.ifCond .lt 20, 3) := by decide +kernel
theorem dX8_taskAt_4 : decode cX8_taskAt 4 = .ok (.iload_n 1, 1) := by decide +kernel
theorem dX8_taskAt_5 : decode cX8_taskAt 5 = .ok (.aload_n 0, 1) := by decide +kernel
theorem dX8_taskAt_6 : decode cX8_taskAt 6 = .ok (.getfield 110, 3) := by decide +kernel
theorem dX8_taskAt_9 : decode cX8_taskAt 9 = .ok (.if_icmp .ge 12, 3) := by decide +kernel
theorem dX8_taskAt_12 : decode cX8_taskAt 12 = .ok (.aload_n 0, 1) := by decide +kernel
theorem dX8_taskAt_13 : decode cX8_taskAt 13 = .ok (.getfield 54, 3) := by decide +kernel
theorem dX8_taskAt_16 : decode cX8_taskAt 16 = .ok (.iload_n 1, 1) := by decide +kernel
theorem dX8_taskAt_17 : decode cX8_taskAt 17 = .ok (.aaload, 1) := by decide +kernel
theorem dX8_taskAt_18 : decode cX8_taskAt 18 = .ok (.goto 4, 3) := by decide +kernel
theorem dX8_taskAt_21 : decode cX8_taskAt 21 = .ok (.aconst_null, 1) := by decide +kernel
theorem dX8_taskAt_22 : decode cX8_taskAt 22 = .ok (.areturn, 1) := by decide +kernel
theorem dX8_claimAt_0 : decode cX8_claimAt 0 = .ok (.iload_n 1, 1) := by decide +kernel
theorem dX8_claimAt_1 : decode cX8_claimAt 1 = .ok (.ifCond .lt 20, 3) := by decide +kernel
theorem dX8_claimAt_4 : decode cX8_claimAt 4 = .ok (.iload_n 1, 1) := by decide +kernel
theorem dX8_claimAt_5 : decode cX8_claimAt 5 = .ok (.aload_n 0, 1) := by decide +kernel
theorem dX8_claimAt_6 : decode cX8_claimAt 6 = .ok (.getfield 262, 3) := by decide +kernel
theorem dX8_claimAt_9 : decode cX8_claimAt 9 = .ok (.if_icmp .ge 12, 3) := by decide +kernel
theorem dX8_claimAt_12 : decode cX8_claimAt 12 = .ok (.aload_n 0, 1) := by decide +kernel
theorem dX8_claimAt_13 : decode cX8_claimAt 13 = .ok (.getfield 60, 3) := by decide +kernel
theorem dX8_claimAt_16 : decode cX8_claimAt 16 = .ok (.iload_n 1, 1) := by decide +kernel
theorem dX8_claimAt_17 : decode cX8_claimAt 17 = .ok (.aaload, 1) := by decide +kernel
theorem dX8_claimAt_18 : decode cX8_claimAt 18 = .ok (.goto 4, 3) := by decide +kernel
theorem dX8_claimAt_21 : decode cX8_claimAt 21 = .ok (.aconst_null, 1) := by decide +kernel
theorem dX8_claimAt_22 : decode cX8_claimAt 22 = .ok (.areturn, 1) := by decide +kernel
theorem dX8_keepTask_0 : decode cX8_keepTask 0 = .ok (.aload_n 0, 1) := by decide +kernel
theorem dX8_keepTask_1 : decode cX8_keepTask 1 = .ok (.dup, 1) := by decide +kernel
theorem dX8_keepTask_2 : decode cX8_keepTask 2 = .ok (.getfield 110, 3) := by decide +kernel
theorem dX8_keepTask_5 : decode cX8_keepTask 5 = .ok (.iconst 1, 1) := by decide +kernel
theorem dX8_keepTask_6 : decode cX8_keepTask 6 = .ok (.iadd, 1) := by decide +kernel
theorem dX8_keepTask_7 : decode cX8_keepTask 7 = .ok (.putfield 110, 3) := by decide +kernel
theorem dX8_keepTask_10 : decode cX8_keepTask 10 = .ok (.aload_n 0, 1) := by decide +kernel
theorem dX8_keepTask_11 : decode cX8_keepTask 11 = .ok (.getfield 110, 3) := by decide +kernel
theorem dX8_keepTask_14 : decode cX8_keepTask 14 = .ok (.iconst 1, 1) := by decide +kernel
theorem dX8_keepTask_15 : decode cX8_keepTask 15 = .ok (.isub, 1) := by decide +kernel
theorem dX8_keepTask_16 : decode cX8_keepTask 16 = .ok (.ireturn, 1) := by decide +kernel
theorem dX8_isSheet_0 : decode cX8_isSheet 0 = .ok (.iload_n 0, 1) := by decide +kernel
theorem dX8_isSheet_1 : decode cX8_isSheet 1 = .ok (.ifCond .lt 12, 3) := by decide +kernel
theorem dX8_isSheet_4 : decode cX8_isSheet 4 = .ok (.iload_n 0, 1) := by decide +kernel
theorem dX8_isSheet_5 : decode cX8_isSheet 5 = .ok (.iconst 4, 1) := by decide +kernel
theorem dX8_isSheet_6 : decode cX8_isSheet 6 = .ok (.if_icmp .ge 7, 3) := by decide +kernel
theorem dX8_isSheet_9 : decode cX8_isSheet 9 = .ok (.iconst 1, 1) := by decide +kernel
theorem dX8_isSheet_10 : decode cX8_isSheet 10 = .ok (.goto 4, 3) := by decide +kernel
theorem dX8_isSheet_13 : decode cX8_isSheet 13 = .ok (.iconst 0, 1) := by decide +kernel
theorem dX8_isSheet_14 : decode cX8_isSheet 14 = .ok (.ireturn, 1) := by decide +kernel
theorem dX8_isFinder_0 : decode cX8_isFinder 0 = .ok (.iload_n 0, 1) := by decide +kernel
theorem dX8_isFinder_1 : decode cX8_isFinder 1 = .ok (.ifCond .lt 12, 3) := by decide +kernel
theorem dX8_isFinder_4 : decode cX8_isFinder 4 = .ok (.iload_n 0, 1) := by decide +kernel
theorem dX8_isFinder_5 : decode cX8_isFinder 5 = .ok (.iconst 4, 1) := by decide +kernel
theorem dX8_isFinder_6 : decode cX8_isFinder 6 = .ok (.if_icmp .ge 7, 3) := by decide +kernel
theorem dX8_isFinder_9 : decode cX8_isFinder 9 = .ok (.iconst 1, 1) := by decide +kernel
theorem dX8_isFinder_10 : decode cX8_isFinder 10 = .ok (.goto 4, 3) := by decide +kernel
theorem dX8_isFinder_13 : decode cX8_isFinder 13 = .ok (.iconst 0, 1) := by decide +kernel
theorem dX8_isFinder_14 : decode cX8_isFinder 14 = .ok (.ireturn, 1) := by decide +kernel
theorem dX8_isRow_0 : decode cX8_isRow 0 = .ok (.iload_n 0, 1) := by decide +kernel
theorem dX8_isRow_1 : decode cX8_isRow 1 = .ok (.ifCond .lt 14, 3) := by decide +kernel
theorem dX8_isRow_4 : decode cX8_isRow 4 = .ok (.iload_n 0, 1) := by decide +kernel
theorem dX8_isRow_5 : decode cX8_isRow 5 = .ok (.iconst 1, 1) := by decide +kernel
theorem dX8_isRow_6 : decode cX8_isRow 6 = .ok (.iload_n 1, 1) := by decide +kernel
theorem dX8_isRow_7 : decode cX8_isRow 7 = .ok (.ishl, 1) := by decide +kernel
theorem dX8_isRow_8 : decode cX8_isRow 8 = .ok (.if_icmp .ge 7, 3) := by decide +kernel
theorem dX8_isRow_11 : decode cX8_isRow 11 = .ok (.iconst 1, 1) := by decide +kernel
theorem dX8_isRow_12 : decode cX8_isRow 12 = .ok (.goto 4, 3) := by decide +kernel
theorem dX8_isRow_15 : decode cX8_isRow 15 = .ok (.iconst 0, 1) := by decide +kernel
theorem dX8_isRow_16 : decode cX8_isRow 16 = .ok (.ireturn, 1) := by decide +kernel
theorem dX8_isHeap_0 : decode cX8_isHeap 0 = .ok (.iload_n 0, 1) := by decide +kernel
theorem dX8_isHeap_1 : decode cX8_isHeap 1 = .ok (.ifCond .lt 32, 3) := by decide +kernel
theorem dX8_isHeap_4 : decode cX8_isHeap 4 = .ok (.iload_n 0, 1) := by decide +kernel
theorem dX8_isHeap_5 : decode cX8_isHeap 5 = .ok (.ldc 109, 2) := by decide +kernel
theorem dX8_isHeap_7 : decode cX8_isHeap 7 = .ok (.if_icmp .ge 26, 3) := by decide +kernel
theorem dX8_isHeap_10 : decode cX8_isHeap 10 = .ok (.iload_n 1, 1) := by decide +kernel
theorem dX8_isHeap_11 : decode cX8_isHeap 11 = .ok (.iconst 1, 1) := by decide +kernel
theorem dX8_isHeap_12 : decode cX8_isHeap 12 = .ok (.if_icmp .lt 21, 3) := by decide +kernel
theorem dX8_isHeap_15 : decode cX8_isHeap 15 = .ok (.iload_n 1, 1) := by decide +kernel
theorem dX8_isHeap_16 : decode cX8_isHeap 16 = .ok (.bipush 24, 2) := by decide +kernel
theorem dX8_isHeap_18 : decode cX8_isHeap 18 = .ok (.if_icmp .gt 15, 3) := by decide +kernel
theorem dX8_isHeap_21 : decode cX8_isHeap 21 = .ok (.iload_n 0, 1) := by decide +kernel
theorem dX8_isHeap_22 : decode cX8_isHeap 22 = .ok (.iload_n 1, 1) := by decide +kernel
theorem dX8_isHeap_23 : decode cX8_isHeap 23 = .ok (.iadd, 1) := by decide +kernel
theorem dX8_isHeap_24 : decode cX8_isHeap 24 = .ok (.ldc 109, 2) := by decide +kernel
theorem dX8_isHeap_26 : decode cX8_isHeap 26 = .ok (.if_icmp .gt 7, 3) := by decide +kernel
theorem dX8_isHeap_29 : decode cX8_isHeap 29 = .ok (.iconst 1, 1) := by decide +kernel
theorem dX8_isHeap_30 : decode cX8_isHeap 30 = .ok (.goto 4, 3) := by decide +kernel
theorem dX8_isHeap_33 : decode cX8_isHeap 33 = .ok (.iconst 0, 1) := by decide +kernel
theorem dX8_isHeap_34 : decode cX8_isHeap 34 = .ok (.ireturn, 1) := by decide +kernel
theorem dX9_init_0 : decode cX9_init 0 = .ok (.aload_n 0, 1) := by decide +kernel
theorem dX9_init_1 : decode cX9_init 1 = .ok (.invokespecial 1, 3) := by decide +kernel
theorem dX9_init_4 : decode cX9_init 4 = .ok (.aload_n 0, 1) := by decide +kernel
theorem dX9_init_5 : decode cX9_init 5 = .ok (.bipush 80, 2) := by decide +kernel
theorem dX9_init_7 : decode cX9_init 7 = .ok (.newarray .int, 2) := by decide +kernel
theorem dX9_init_9 : decode cX9_init 9 = .ok (.putfield 7, 3) := by decide +kernel
theorem dX9_init_12 : decode cX9_init 12 = .ok (.aload_n 0, 1) := by decide +kernel
theorem dX9_init_13 : decode cX9_init 13 = .ok (.bipush 6, 2) := by decide +kernel
theorem dX9_init_15 : decode cX9_init 15 = .ok (.newarray .int, 2) := by decide +kernel
theorem dX9_init_17 : decode cX9_init 17 = .ok (.putfield 13, 3) := by decide +kernel
theorem dX9_init_20 : decode cX9_init 20 = .ok (.aload_n 0, 1) := by decide +kernel
theorem dX9_init_21 : decode cX9_init 21 = .ok (.bipush 6, 2) := by decide +kernel
theorem dX9_init_23 : decode cX9_init 23 = .ok (.newarray .int, 2) := by decide +kernel
theorem dX9_init_25 : decode cX9_init 25 = .ok (.putfield 16, 3) := by decide +kernel
theorem dX9_init_28 : decode cX9_init 28 = .ok (.aload_n 0, 1) := by decide +kernel
theorem dX9_init_29 : decode cX9_init 29 = .ok (.bipush 6, 2) := by decide +kernel
theorem dX9_init_31 : decode cX9_init 31 = .ok (.newarray .int, 2) := by decide +kernel
theorem dX9_init_33 : decode cX9_init 33 = .ok (.putfield 19, 3) := by decide +kernel
theorem dX9_init_36 : decode cX9_init 36 = .ok (.aload_n 0, 1) := by decide +kernel
theorem dX9_init_37 : decode cX9_init 37 = .ok (.bipush 6, 2) := by decide +kernel
theorem dX9_init_39 : decode cX9_init 39 = .ok (.newarray .int, 2) := by decide +kernel
theorem dX9_init_41 : decode cX9_init 41 = .ok (.putfield 22, 3) := by decide +kernel
theorem dX9_init_44 : decode cX9_init 44 = .ok (.aload_n 0, 1) := by decide +kernel
theorem dX9_init_45 : decode cX9_init 45 = .ok (.bipush 24, 2) := by decide +kernel
theorem dX9_init_47 : decode cX9_init 47 = .ok (.newarray .int, 2) := by decide +kernel
theorem dX9_init_49 : decode cX9_init 49 = .ok (.putfield 25, 3) := by decide +kernel
theorem dX9_init_52 : decode cX9_init 52 = .ok (.aload_n 0, 1) := by decide +kernel
theorem dX9_init_53 : decode cX9_init 53 = .ok (.bipush 9, 2) := by decide +kernel
theorem dX9_init_55 : decode cX9_init 55 = .ok (.newarray .int, 2) := by decide +kernel
theorem dX9_init_57 : decode cX9_init 57 = .ok (.putfield 28, 3) := by decide +kernel
theorem dX9_init_60 : decode cX9_init 60 = .ok (.aload_n 0, 1) := by decide +kernel
theorem dX9_init_61 : decode cX9_init 61 = .ok (.bipush 9, 2) := by decide +kernel
theorem dX9_init_63 : decode cX9_init 63 = .ok (.newarray .int, 2) := by decide +kernel
theorem dX9_init_65 : decode cX9_init 65 = .ok (.putfield 31, 3) := by decide +kernel
theorem dX9_init_68 : decode cX9_init 68 = .ok (.aload_n 0, 1) := by decide +kernel
theorem dX9_init_69 : decode cX9_init 69 = .ok (.bipush 9, 2) := by decide +kernel
theorem dX9_init_71 : decode cX9_init 71 = .ok (.newarray .int, 2) := by decide +kernel
theorem dX9_init_73 : decode cX9_init 73 = .ok (.putfield 34, 3) := by decide +kernel
theorem dX9_init_76 : decode cX9_init 76 = .ok (.aload_n 0, 1) := by decide +kernel
theorem dX9_init_77 : decode cX9_init 77 = .ok (.bipush 9, 2) := by decide +kernel
theorem dX9_init_79 : decode cX9_init 79 = .ok (.newarray .int, 2) := by decide +kernel
theorem dX9_init_81 : decode cX9_init 81 = .ok (.putfield 37, 3) := by decide +kernel
theorem dX9_init_84 : decode cX9_init 84 = .ok (.aload_n 0, 1) := by decide +kernel
theorem dX9_init_85 : decode cX9_init 85 = .ok (.bipush 9, 2) := by decide +kernel
theorem dX9_init_87 : decode cX9_init 87 = .ok (.newarray .int, 2) := by decide +kernel
theorem dX9_init_89 : decode cX9_init 89 = .ok (.putfield 40, 3) := by decide +kernel
theorem dX9_init_92 : decode cX9_init 92 = .ok (.aload_n 0, 1) := by decide +kernel
theorem dX9_init_93 : decode cX9_init 93 = .ok (.bipush 9, 2) := by decide +kernel
theorem dX9_init_95 : decode cX9_init 95 = .ok (.newarray .int, 2) := by decide +kernel
theorem dX9_init_97 : decode cX9_init 97 = .ok (.putfield 43, 3) := by decide +kernel
theorem dX9_init_100 : decode cX9_init 100 = .ok (.aload_n 0, 1) := by decide +kernel
theorem dX9_init_101 : decode cX9_init 101 = .ok (.sipush 216, 3) := by decide +kernel
theorem dX9_init_104 : decode cX9_init 104 = .ok (.newarray .int, 2) := by decide +kernel
theorem dX9_init_106 : decode cX9_init 106 = .ok (.putfield 46, 3) := by decide +kernel
theorem dX9_init_109 : decode cX9_init 109 = .ok (.aload_n 0, 1) := by decide +kernel
theorem dX9_init_110 : decode cX9_init 110 = .ok (.sipush 216, 3) := by decide +kernel
theorem dX9_init_113 : decode cX9_init 113 = .ok (.newarray .int, 2) := by decide +kernel
theorem dX9_init_115 : decode cX9_init 115 = .ok (.putfield 49, 3) := by decide +kernel
theorem dX9_init_118 : decode cX9_init 118 = .ok (.aload_n 0, 1) := by decide +kernel
theorem dX9_init_119 : decode cX9_init 119 = .ok (.bipush 20, 2) := by decide +kernel
theorem dX9_init_121 : decode cX9_init 121 = .ok (.newarray .int, 2) := by decide +kernel
theorem dX9_init_123 : decode cX9_init 123 = .ok (.putfield 52, 3) := by decide +kernel
theorem dX9_init_126 : decode cX9_init 126 = .ok (.aload_n 0, 1) := by decide +kernel
theorem dX9_init_127 : decode cX9_init 127 = .ok (.bipush 20, 2) := by decide +kernel
theorem dX9_init_129 : decode cX9_init 129 = .ok (.newarray .int, 2) := by decide +kernel
theorem dX9_init_131 : decode cX9_init 131 = .ok (.putfield 55, 3) := by decide +kernel
theorem dX9_init_134 : decode cX9_init 134 = .ok (.aload_n 0, 1) := by decide +kernel
theorem dX9_init_135 : decode cX9_init 135 = .ok (.bipush 20, 2) := by decide +kernel
theorem dX9_init_137 : decode cX9_init 137 = .ok (.newarray .int, 2) := by decide +kernel
theorem dX9_init_139 : decode cX9_init 139 = .ok (.putfield 58, 3) := by decide +kernel
theorem dX9_init_142 : decode cX9_init 142 = .ok (.aload_n 0, 1) := by decide +kernel
theorem dX9_init_143 : decode cX9_init 143 = .ok (.bipush 20, 2) := by decide +kernel
theorem dX9_init_145 : decode cX9_init 145 = .ok (.newarray .int, 2) := by decide +kernel
theorem dX9_init_147 : decode cX9_init 147 = .ok (.putfield 61, 3) := by decide +kernel
theorem dX9_init_150 : decode cX9_init 150 = .ok (.aload_n 0, 1) := by decide +kernel
theorem dX9_init_151 : decode cX9_init 151 = .ok (.iconst 4, 1) := by decide +kernel
theorem dX9_init_152 : decode cX9_init 152 = .ok (.newarray .int, 2) := by decide +kernel
theorem dX9_init_154 : decode cX9_init 154 = .ok (.dup, 1) := by decide +kernel
theorem dX9_init_155 : decode cX9_init 155 = .ok (.iconst 0, 1) := by decide +kernel
theorem dX9_init_156 : decode cX9_init 156 = .ok (.iconst (-1), 1) := by decide +kernel
theorem dX9_init_157 : decode cX9_init 157 = .ok (.iastore, 1) := by decide +kernel
theorem dX9_init_158 : decode cX9_init 158 = .ok (.dup, 1) := by decide +kernel
theorem dX9_init_159 : decode cX9_init 159 = .ok (.iconst 1, 1) := by decide +kernel
theorem dX9_init_160 : decode cX9_init 160 = .ok (.iconst (-1), 1) := by decide +kernel
theorem dX9_init_161 : decode cX9_init 161 = .ok (.iastore, 1) := by decide +kernel
theorem dX9_init_162 : decode cX9_init 162 = .ok (.dup, 1) := by decide +kernel
theorem dX9_init_163 : decode cX9_init 163 = .ok (.iconst 2, 1) := by decide +kernel
theorem dX9_init_164 : decode cX9_init 164 = .ok (.iconst (-1), 1) := by decide +kernel
theorem dX9_init_165 : decode cX9_init 165 = .ok (.iastore, 1) := by decide +kernel
theorem dX9_init_166 : decode cX9_init 166 = .ok (.dup, 1) := by decide +kernel
theorem dX9_init_167 : decode cX9_init 167 = .ok (.iconst 3, 1) := by decide +kernel
theorem dX9_init_168 : decode cX9_init 168 = .ok (.iconst (-1), 1) := by decide +kernel
theorem dX9_init_169 : decode cX9_init 169 = .ok (.iastore, 1) := by decide +kernel
theorem dX9_init_170 : decode cX9_init 170 = .ok (.putfield 64, 3) := by decide +kernel
theorem dX9_init_173 : decode cX9_init 173 = .ok (.aload_n 0, 1) := by decide +kernel
theorem dX9_init_174 : decode cX9_init 174 = .ok (.iconst 4, 1) := by decide +kernel
theorem dX9_init_175 : decode cX9_init 175 = .ok (.newarray .int, 2) := by decide +kernel
theorem dX9_init_177 : decode cX9_init 177 = .ok (.putfield 67, 3) := by decide +kernel
theorem dX9_init_180 : decode cX9_init 180 = .ok (.aload_n 0, 1) := by decide +kernel
theorem dX9_init_181 : decode cX9_init 181 = .ok (.sipush 160, 3) := by decide +kernel
theorem dX9_init_184 : decode cX9_init 184 = .ok (.newarray .int, 2) := by decide +kernel
theorem dX9_init_186 : decode cX9_init 186 = .ok (.putfield 70, 3) := by decide +kernel
theorem dX9_init_189 : decode cX9_init 189 = .ok (.aload_n 0, 1) := by decide +kernel
theorem dX9_init_190 : decode cX9_init 190 = .ok (.iconst 3, 1) := by decide +kernel
theorem dX9_init_191 : decode cX9_init 191 = .ok (.newarray .int, 2) := by decide +kernel
theorem dX9_init_193 : decode cX9_init 193 = .ok (.putfield 73, 3) := by decide +kernel
theorem dX9_init_196 : decode cX9_init 196 = .ok (.aload_n 0, 1) := by decide +kernel
theorem dX9_init_197 : decode cX9_init 197 = .ok (.bipush 48, 2) := by decide +kernel
theorem dX9_init_199 : decode cX9_init 199 = .ok (.newarray .int, 2) := by decide +kernel
theorem dX9_init_201 : decode cX9_init 201 = .ok (.putfield 76, 3) := by decide +kernel
theorem dX9_init_204 : decode cX9_init 204 = .ok (.return_, 1) := by decide +kernel
theorem dX9_in_0 : decode cX9_in 0 = .ok (.iload_n 0, 1) := by decide +kernel
theorem dX9_in_1 : decode cX9_in 1 = .ok (.iload_n 1, 1) := by decide +kernel
theorem dX9_in_2 : decode cX9_in 2 = .ok (.if_icmp .lt 12, 3) := by decide +kernel
theorem dX9_in_5 : decode cX9_in 5 = .ok (.iload_n 0, 1) := by decide +kernel
theorem dX9_in_6 : decode cX9_in 6 = .ok (.iload_n 2, 1) := by decide +kernel
theorem dX9_in_7 : decode cX9_in 7 = .ok (.if_icmp .gt 7, 3) := by decide +kernel
theorem dX9_in_10 : decode cX9_in 10 = .ok (.iconst 1, 1) := by decide +kernel
theorem dX9_in_11 : decode cX9_in 11 = .ok (.goto 4, 3) := by decide +kernel
theorem dX9_in_14 : decode cX9_in 14 = .ok (.iconst 0, 1) := by decide +kernel
theorem dX9_in_15 : decode cX9_in 15 = .ok (.ireturn, 1) := by decide +kernel
theorem dX9_ones_0 : decode cX9_ones 0 = .ok (.iconst 0, 1) := by decide +kernel
theorem dX9_ones_1 : decode cX9_ones 1 = .ok (.istore_n 1, 1) := by decide +kernel
theorem dX9_ones_2 : decode cX9_ones 2 = .ok (.iconst 0, 1) := by decide +kernel
theorem dX9_ones_3 : decode cX9_ones 3 = .ok (.istore_n 2, 1) := by decide +kernel
theorem dX9_ones_4 : decode cX9_ones 4 = .ok (.iload_n 2, 1) := by decide +kernel
theorem dX9_ones_5 : decode cX9_ones 5 = .ok (.bipush 31, 2) := by decide +kernel
theorem dX9_ones_7 : decode cX9_ones 7 = .ok (.if_icmp .ge 17, 3) := by decide +kernel
theorem dX9_ones_10 : decode cX9_ones 10 = .ok (.iload_n 1, 1) := by decide +kernel
theorem dX9_ones_11 : decode cX9_ones 11 = .ok (.iload_n 0, 1) := by decide +kernel
theorem dX9_ones_12 : decode cX9_ones 12 = .ok (.iload_n 2, 1) := by decide +kernel
theorem dX9_ones_13 : decode cX9_ones 13 = .ok (.ishr, 1) := by decide +kernel
theorem dX9_ones_14 : decode cX9_ones 14 = .ok (.iconst 1, 1) := by decide +kernel
theorem dX9_ones_15 : decode cX9_ones 15 = .ok (.iand, 1) := by decide +kernel
theorem dX9_ones_16 : decode cX9_ones 16 = .ok (.iadd, 1) := by decide +kernel
theorem dX9_ones_17 : decode cX9_ones 17 = .ok (.istore_n 1, 1) := by decide +kernel
theorem dX9_ones_18 : decode cX9_ones 18 = .ok (.iinc 2 1, 3) := by decide +kernel
theorem dX9_ones_21 : decode cX9_ones 21 = .ok (.goto (-17), 3) := by decide +kernel
theorem dX9_ones_24 : decode cX9_ones 24 = .ok (.iload_n 1, 1) := by decide +kernel
theorem dX9_ones_25 : decode cX9_ones 25 = .ok (.ireturn, 1) := by decide +kernel
theorem dX9_holds_0 : decode cX9_holds 0 = .ok (.iload_n 0, 1) := by decide +kernel
theorem dX9_holds_1 : decode cX9_holds 1 = .ok (.tableswitch 118 1 5 #[35, 55, 68, 89, 101], 35) := by decide +kernel
theorem dX9_holds_36 : decode cX9_holds 36 = .ok (.iload_n 1, 1) := by decide +kernel
theorem dX9_holds_37 : decode cX9_holds 37 = .ok (.ifCond .le 17, 3) := by decide +kernel
theorem dX9_holds_40 : decode cX9_holds 40 = .ok (.iload_n 1, 1) := by decide +kernel
theorem dX9_holds_41 : decode cX9_holds 41 = .ok (.iload_n 2, 1) := by decide +kernel
theorem dX9_holds_42 : decode cX9_holds 42 = .ok (.if_icmp .lt 8, 3) := by decide +kernel
theorem dX9_holds_45 : decode cX9_holds 45 = .ok (.iload_n 2, 1) := by decide +kernel
theorem dX9_holds_46 : decode cX9_holds 46 = .ok (.iconst 1, 1) := by decide +kernel
theorem dX9_holds_47 : decode cX9_holds 47 = .ok (.if_icmp .ne 7, 3) := by decide +kernel
theorem dX9_holds_50 : decode cX9_holds 50 = .ok (.iconst 1, 1) := by decide +kernel
theorem dX9_holds_51 : decode cX9_holds 51 = .ok (.goto 4, 3) := by decide +kernel
theorem dX9_holds_54 : decode cX9_holds 54 = .ok (.iconst 0, 1) := by decide +kernel
theorem dX9_holds_55 : decode cX9_holds 55 = .ok (.ireturn, 1) := by decide +kernel
theorem dX9_holds_56 : decode cX9_holds 56 = .ok (.iload_n 1, 1) := by decide +kernel
theorem dX9_holds_57 : decode cX9_holds 57 = .ok (.iconst 2, 1) := by decide +kernel
theorem dX9_holds_58 : decode cX9_holds 58 = .ok (.irem, 1) := by decide +kernel
theorem dX9_holds_59 : decode cX9_holds 59 = .ok (.iconst 1, 1) := by decide +kernel
theorem dX9_holds_60 : decode cX9_holds 60 = .ok (.if_icmp .ne 7, 3) := by decide +kernel
theorem dX9_holds_63 : decode cX9_holds 63 = .ok (.iconst 1, 1) := by decide +kernel
theorem dX9_holds_64 : decode cX9_holds 64 = .ok (.goto 4, 3) := by decide +kernel
theorem dX9_holds_67 : decode cX9_holds 67 = .ok (.iconst 0, 1) := by decide +kernel
theorem dX9_holds_68 : decode cX9_holds 68 = .ok (.ireturn, 1) := by decide +kernel
theorem dX9_holds_69 : decode cX9_holds 69 = .ok (.iload_n 1, 1) := by decide +kernel
theorem dX9_holds_70 : decode cX9_holds 70 = .ok (.iconst 1, 1) := by decide +kernel
theorem dX9_holds_71 : decode cX9_holds 71 = .ok (.if_icmp .ne 17, 3) := by decide +kernel
theorem dX9_holds_74 : decode cX9_holds 74 = .ok (.iload_n 1, 1) := by decide +kernel
theorem dX9_holds_75 : decode cX9_holds 75 = .ok (.iload_n 2, 1) := by decide +kernel
theorem dX9_holds_76 : decode cX9_holds 76 = .ok (.if_icmp .lt 8, 3) := by decide +kernel
theorem dX9_holds_79 : decode cX9_holds 79 = .ok (.iload_n 2, 1) := by decide +kernel
theorem dX9_holds_80 : decode cX9_holds 80 = .ok (.iconst 1, 1) := by decide +kernel
theorem dX9_holds_81 : decode cX9_holds 81 = .ok (.if_icmp .ne 7, 3) := by decide +kernel
theorem dX9_holds_84 : decode cX9_holds 84 = .ok (.iconst 1, 1) := by decide +kernel
theorem dX9_holds_85 : decode cX9_holds 85 = .ok (.goto 4, 3) := by decide +kernel
theorem dX9_holds_88 : decode cX9_holds 88 = .ok (.iconst 0, 1) := by decide +kernel
theorem dX9_holds_89 : decode cX9_holds 89 = .ok (.ireturn, 1) := by decide +kernel
theorem dX9_holds_90 : decode cX9_holds 90 = .ok (.iload_n 1, 1) := by decide +kernel
theorem dX9_holds_91 : decode cX9_holds 91 = .ok (.iconst 2, 1) := by decide +kernel
theorem dX9_holds_92 : decode cX9_holds 92 = .ok (.irem, 1) := by decide +kernel
theorem dX9_holds_93 : decode cX9_holds 93 = .ok (.ifCond .ne 7, 3) := by decide +kernel
theorem dX9_holds_96 : decode cX9_holds 96 = .ok (.iconst 1, 1) := by decide +kernel
theorem dX9_holds_97 : decode cX9_holds 97 = .ok (.goto 4, 3) := by decide +kernel
theorem dX9_holds_100 : decode cX9_holds 100 = .ok (.iconst 0, 1) := by decide +kernel
theorem dX9_holds_101 : decode cX9_holds 101 = .ok (.ireturn, 1) := by decide +kernel
theorem dX9_holds_102 : decode cX9_holds 102 = .ok (.iload_n 1, 1) := by decide +kernel
theorem dX9_holds_103 : decode cX9_holds 103 = .ok (.ifCond .le 14, 3) := by decide +kernel
theorem dX9_holds_106 : decode cX9_holds 106 = .ok (.iconst 2, 1) := by decide +kernel
theorem dX9_holds_107 : decode cX9_holds 107 = .ok (.iload_n 1, 1) := by decide +kernel
theorem dX9_holds_108 : decode cX9_holds 108 = .ok (.imul, 1) := by decide +kernel
theorem dX9_holds_109 : decode cX9_holds 109 = .ok (.iload_n 2, 1) := by decide +kernel
theorem dX9_holds_110 : decode cX9_holds 110 = .ok (.if_icmp .le 7, 3) := by decide +kernel
theorem dX9_holds_113 : decode cX9_holds 113 = .ok (.iconst 1, 1) := by decide +kernel
theorem dX9_holds_114 : decode cX9_holds 114 = .ok (.goto 4, 3) := by decide +kernel
theorem dX9_holds_117 : decode cX9_holds 117 = .ok (.iconst 0, 1) := by decide +kernel
theorem dX9_holds_118 : decode cX9_holds 118 = .ok (.ireturn, 1) := by decide +kernel
theorem dX9_holds_119 : decode cX9_holds 119 = .ok (.iload_n 1, 1) := by decide +kernel
theorem dX9_holds_120 : decode cX9_holds 120 = .ok (.ifCond .le 7, 3) := by decide +kernel
theorem dX9_holds_123 : decode cX9_holds 123 = .ok (.iconst 1, 1) := by decide +kernel
theorem dX9_holds_124 : decode cX9_holds 124 = .ok (.goto 4, 3) := by decide +kernel
theorem dX9_holds_127 : decode cX9_holds 127 = .ok (.iconst 0, 1) := by decide +kernel
theorem dX9_holds_128 : decode cX9_holds 128 = .ok (.ireturn, 1) := by decide +kernel
set_option maxRecDepth 20000 in
theorem ggX9_worth_X9_holds : GoodIn wsX9_worth wsX9_holds := goodIn_r _ [4] (by decide +kernel) (by decide +kernel)
set_option maxRecDepth 20000 in
theorem gX9_worth_X9_holds : GoodIn wsX9_worth (va_wsS RX9 79 yX9_holds wsX9_holds) := goodIn_app (goodIn_of _ (by decide +kernel)) ggX9_worth_X9_holds
theorem dX9_worth_0 : decode cX9_worth 0 = .ok (.iload_n 0, 1) := by decide +kernel
theorem dX9_worth_1 : decode cX9_worth 1 = .ok (.iload_n 1, 1) := by decide +kernel
theorem dX9_worth_2 : decode cX9_worth 2 = .ok (.iload_n 2, 1) := by decide +kernel
theorem dX9_worth_3 : decode cX9_worth 3 = .ok (.invokestatic 79, 3) := by decide +kernel
theorem dX9_worth_6 : decode cX9_worth 6 = .ok (.ifCond .eq 7, 3) := by decide +kernel
theorem dX9_worth_9 : decode cX9_worth 9 = .ok (.iconst 3, 1) := by decide +kernel
theorem dX9_worth_10 : decode cX9_worth 10 = .ok (.goto 4, 3) := by decide +kernel
theorem dX9_worth_13 : decode cX9_worth 13 = .ok (.iconst 0, 1) := by decide +kernel
theorem dX9_worth_14 : decode cX9_worth 14 = .ok (.istore_n 3, 1) := by decide +kernel
theorem dX9_worth_15 : decode cX9_worth 15 = .ok (.iload_n 0, 1) := by decide +kernel
theorem dX9_worth_16 : decode cX9_worth 16 = .ok (.iconst 3, 1) := by decide +kernel
theorem dX9_worth_17 : decode cX9_worth 17 = .ok (.if_icmp .ne 13, 3) := by decide +kernel
theorem dX9_worth_20 : decode cX9_worth 20 = .ok (.iload_n 1, 1) := by decide +kernel
theorem dX9_worth_21 : decode cX9_worth 21 = .ok (.ifCond .ne 9, 3) := by decide +kernel
theorem dX9_worth_24 : decode cX9_worth 24 = .ok (.iload_n 3, 1) := by decide +kernel
theorem dX9_worth_25 : decode cX9_worth 25 = .ok (.iconst 1, 1) := by decide +kernel
theorem dX9_worth_26 : decode cX9_worth 26 = .ok (.isub, 1) := by decide +kernel
theorem dX9_worth_27 : decode cX9_worth 27 = .ok (.goto 15, 3) := by decide +kernel
theorem dX9_worth_30 : decode cX9_worth 30 = .ok (.iload_n 0, 1) := by decide +kernel
theorem dX9_worth_31 : decode cX9_worth 31 = .ok (.iconst 5, 1) := by decide +kernel
theorem dX9_worth_32 : decode cX9_worth 32 = .ok (.if_icmp .ne 9, 3) := by decide +kernel
theorem dX9_worth_35 : decode cX9_worth 35 = .ok (.iload_n 3, 1) := by decide +kernel
theorem dX9_worth_36 : decode cX9_worth 36 = .ok (.iload_n 1, 1) := by decide +kernel
theorem dX9_worth_37 : decode cX9_worth 37 = .ok (.iadd, 1) := by decide +kernel
theorem dX9_worth_38 : decode cX9_worth 38 = .ok (.goto 4, 3) := by decide +kernel
theorem dX9_worth_41 : decode cX9_worth 41 = .ok (.iload_n 3, 1) := by decide +kernel
theorem dX9_worth_42 : decode cX9_worth 42 = .ok (.ireturn, 1) := by decide +kernel
set_option maxRecDepth 20000 in
theorem ggX9_kindTold_X9_in : GoodIn wsX9_kindTold wsX9_in := goodIn_r _ [4] (by decide +kernel) (by decide +kernel)
set_option maxRecDepth 20000 in
theorem gX9_kindTold_X9_in : GoodIn wsX9_kindTold (va_wsS RX9 83 yX9_in wsX9_in) := goodIn_app (goodIn_of _ (by decide +kernel)) ggX9_kindTold_X9_in
set_option maxRecDepth 20000 in
theorem ggX9_kindTold_X9_worth : GoodIn wsX9_kindTold wsX9_worth := goodIn_r _ [7, 8, 9, 3, 10] (by decide +kernel) (by decide +kernel)
set_option maxRecDepth 20000 in
theorem gX9_kindTold_X9_worth : GoodIn wsX9_kindTold (va_wsS RX9 86 yX9_worth wsX9_worth) := goodIn_app (goodIn_of _ (by decide +kernel)) ggX9_kindTold_X9_worth
set_option maxRecDepth 20000 in
theorem ggX9_kindTold_X9_holds : GoodIn wsX9_kindTold wsX9_holds := goodIn_r _ [10] (by decide +kernel) (by decide +kernel)
set_option maxRecDepth 20000 in
theorem gX9_kindTold_X9_holds : GoodIn wsX9_kindTold (va_wsS RX9 79 yX9_holds wsX9_holds) := goodIn_app (goodIn_of _ (by decide +kernel)) ggX9_kindTold_X9_holds
theorem dX9_kindTold_0 : decode cX9_kindTold 0 = .ok (.iload_n 1, 1) := by decide +kernel
theorem dX9_kindTold_1 : decode cX9_kindTold 1 = .ok (.iconst 0, 1) := by decide +kernel
theorem dX9_kindTold_2 : decode cX9_kindTold 2 = .ok (.iconst 5, 1) := by decide +kernel
theorem dX9_kindTold_3 : decode cX9_kindTold 3 = .ok (.invokestatic 83, 3) := by decide +kernel
theorem dX9_kindTold_6 : decode cX9_kindTold 6 = .ok (.ifCond .eq 31, 3) := by decide +kernel
theorem dX9_kindTold_9 : decode cX9_kindTold 9 = .ok (.iload_n 3, 1) := by decide +kernel
theorem dX9_kindTold_10 : decode cX9_kindTold 10 = .ok (.iconst 1, 1) := by decide +kernel
theorem dX9_kindTold_11 : decode cX9_kindTold 11 = .ok (.iconst 3, 1) := by decide +kernel
theorem dX9_kindTold_12 : decode cX9_kindTold 12 = .ok (.invokestatic 83, 3) := by decide +kernel
theorem dX9_kindTold_15 : decode cX9_kindTold 15 = .ok (.ifCond .eq 22, 3) := by decide +kernel
theorem dX9_kindTold_18 : decode cX9_kindTold 18 = .ok (.iload_n 2, 1) := by decide +kernel
theorem dX9_kindTold_19 : decode cX9_kindTold 19 = .ok (.iconst 0, 1) := by decide +kernel
theorem dX9_kindTold_20 : decode cX9_kindTold 20 = .ok (.iload_n 3, 1) := by decide +kernel
theorem dX9_kindTold_21 : decode cX9_kindTold 21 = .ok (.invokestatic 83, 3) := by decide +kernel
theorem dX9_kindTold_24 : decode cX9_kindTold 24 = .ok (.ifCond .eq 13, 3) := by decide +kernel
theorem dX9_kindTold_27 : decode cX9_kindTold 27 = .ok (.iload 4, 2) := by decide +kernel
theorem dX9_kindTold_29 : decode cX9_kindTold 29 = .ok (.iconst 0, 1) := by decide +kernel
theorem dX9_kindTold_30 : decode cX9_kindTold 30 = .ok (.iconst 1, 1) := by decide +kernel
theorem dX9_kindTold_31 : decode cX9_kindTold 31 = .ok (.invokestatic 83, 3) := by decide +kernel
theorem dX9_kindTold_34 : decode cX9_kindTold 34 = .ok (.ifCond .ne 6, 3) := by decide +kernel
theorem dX9_kindTold_37 : decode cX9_kindTold 37 = .ok (.bipush (-2), 2) := by decide +kernel
theorem dX9_kindTold_39 : decode cX9_kindTold 39 = .ok (.ireturn, 1) := by decide +kernel
theorem dX9_kindTold_40 : decode cX9_kindTold 40 = .ok (.iload 4, 2) := by decide +kernel
theorem dX9_kindTold_42 : decode cX9_kindTold 42 = .ok (.iconst 1, 1) := by decide +kernel
theorem dX9_kindTold_43 : decode cX9_kindTold 43 = .ok (.if_icmp .ne 12, 3) := by decide +kernel
theorem dX9_kindTold_46 : decode cX9_kindTold 46 = .ok (.iload_n 1, 1) := by decide +kernel
theorem dX9_kindTold_47 : decode cX9_kindTold 47 = .ok (.iload_n 2, 1) := by decide +kernel
theorem dX9_kindTold_48 : decode cX9_kindTold 48 = .ok (.iload_n 3, 1) := by decide +kernel
theorem dX9_kindTold_49 : decode cX9_kindTold 49 = .ok (.invokestatic 86, 3) := by decide +kernel
theorem dX9_kindTold_52 : decode cX9_kindTold 52 = .ok (.goto 17, 3) := by decide +kernel
theorem dX9_kindTold_55 : decode cX9_kindTold 55 = .ok (.iload_n 1, 1) := by decide +kernel
theorem dX9_kindTold_56 : decode cX9_kindTold 56 = .ok (.iload_n 2, 1) := by decide +kernel
theorem dX9_kindTold_57 : decode cX9_kindTold 57 = .ok (.iload_n 3, 1) := by decide +kernel
theorem dX9_kindTold_58 : decode cX9_kindTold 58 = .ok (.invokestatic 79, 3) := by decide +kernel
theorem dX9_kindTold_61 : decode cX9_kindTold 61 = .ok (.ifCond .eq 7, 3) := by decide +kernel
theorem dX9_kindTold_64 : decode cX9_kindTold 64 = .ok (.iconst 1, 1) := by decide +kernel
theorem dX9_kindTold_65 : decode cX9_kindTold 65 = .ok (.goto 4, 3) := by decide +kernel
theorem dX9_kindTold_68 : decode cX9_kindTold 68 = .ok (.iconst 0, 1) := by decide +kernel
theorem dX9_kindTold_69 : decode cX9_kindTold 69 = .ok (.ireturn, 1) := by decide +kernel
set_option maxRecDepth 20000 in
theorem ggX9_feed_X9_in : GoodIn wsX9_feed wsX9_in := goodIn_r _ [7] (by decide +kernel) (by decide +kernel)
set_option maxRecDepth 20000 in
theorem gX9_feed_X9_in : GoodIn wsX9_feed (va_wsS RX9 83 yX9_in wsX9_in) := goodIn_app (goodIn_of _ (by decide +kernel)) ggX9_feed_X9_in
theorem dX9_feed_0 : decode cX9_feed 0 = .ok (.iload_n 3, 1) := by decide +kernel
theorem dX9_feed_1 : decode cX9_feed 1 = .ok (.iconst 1, 1) := by decide +kernel
theorem dX9_feed_2 : decode cX9_feed 2 = .ok (.bipush 8, 2) := by decide +kernel
theorem dX9_feed_4 : decode cX9_feed 4 = .ok (.invokestatic 83, 3) := by decide +kernel
theorem dX9_feed_7 : decode cX9_feed 7 = .ok (.ifCond .ne 6, 3) := by decide +kernel
theorem dX9_feed_10 : decode cX9_feed 10 = .ok (.bipush (-2), 2) := by decide +kernel
theorem dX9_feed_12 : decode cX9_feed 12 = .ok (.ireturn, 1) := by decide +kernel
theorem dX9_feed_13 : decode cX9_feed 13 = .ok (.aload_n 0, 1) := by decide +kernel
theorem dX9_feed_14 : decode cX9_feed 14 = .ok (.getfield 90, 3) := by decide +kernel
theorem dX9_feed_17 : decode cX9_feed 17 = .ok (.iload_n 3, 1) := by decide +kernel
theorem dX9_feed_18 : decode cX9_feed 18 = .ok (.iadd, 1) := by decide +kernel
theorem dX9_feed_19 : decode cX9_feed 19 = .ok (.bipush 80, 2) := by decide +kernel
theorem dX9_feed_21 : decode cX9_feed 21 = .ok (.if_icmp .le 6, 3) := by decide +kernel
theorem dX9_feed_24 : decode cX9_feed 24 = .ok (.bipush (-4), 2) := by decide +kernel
theorem dX9_feed_26 : decode cX9_feed 26 = .ok (.ireturn, 1) := by decide +kernel
theorem dX9_feed_27 : decode cX9_feed 27 = .ok (.iload_n 3, 1) := by decide +kernel
theorem dX9_feed_28 : decode cX9_feed 28 = .ok (.iconst 1, 1) := by decide +kernel
theorem dX9_feed_29 : decode cX9_feed 29 = .ok (.isub, 1) := by decide +kernel
theorem dX9_feed_30 : decode cX9_feed 30 = .ok (.istore 4, 2) := by decide +kernel
theorem dX9_feed_32 : decode cX9_feed 32 = .ok (.iload 4, 2) := by decide +kernel
theorem dX9_feed_34 : decode cX9_feed 34 = .ok (.ifCond .lt 40, 3) := by decide +kernel
theorem dX9_feed_37 : decode cX9_feed 37 = .ok (.aload_n 0, 1) := by decide +kernel
theorem dX9_feed_38 : decode cX9_feed 38 = .ok (.getfield 7, 3) := by decide +kernel
theorem dX9_feed_41 : decode cX9_feed 41 = .ok (.aload_n 0, 1) := by decide +kernel
theorem dX9_feed_42 : decode cX9_feed 42 = .ok (.getfield 90, 3) := by decide +kernel
theorem dX9_feed_45 : decode cX9_feed 45 = .ok (.lload_n 1, 1) := by decide +kernel
theorem dX9_feed_46 : decode cX9_feed 46 = .ok (.bipush 8, 2) := by decide +kernel
theorem dX9_feed_48 : decode cX9_feed 48 = .ok (.iload 4, 2) := by decide +kernel
theorem dX9_feed_50 : decode cX9_feed 50 = .ok (.imul, 1) := by decide +kernel
theorem dX9_feed_51 : decode cX9_feed 51 = .ok (.lshr, 1) := by decide +kernel
theorem dX9_feed_52 : decode cX9_feed 52 = .ok (.ldc2_w 94, 3) := by decide +kernel
theorem dX9_feed_55 : decode cX9_feed 55 = .ok (.land, 1) := by decide +kernel
theorem dX9_feed_56 : decode cX9_feed 56 = .ok (.l2i, 1) := by decide +kernel
theorem dX9_feed_57 : decode cX9_feed 57 = .ok (.iastore, 1) := by decide +kernel
theorem dX9_feed_58 : decode cX9_feed 58 = .ok (.aload_n 0, 1) := by decide +kernel
theorem dX9_feed_59 : decode cX9_feed 59 = .ok (.dup, 1) := by decide +kernel
theorem dX9_feed_60 : decode cX9_feed 60 = .ok (.getfield 90, 3) := by decide +kernel
theorem dX9_feed_63 : decode cX9_feed 63 = .ok (.iconst 1, 1) := by decide +kernel
theorem dX9_feed_64 : decode cX9_feed 64 = .ok (.iadd, 1) := by decide +kernel
theorem dX9_feed_65 : decode cX9_feed 65 = .ok (.putfield 90, 3) := by decide +kernel
theorem dX9_feed_68 : decode cX9_feed 68 = .ok (.iinc 4 (-1), 3) := by decide +kernel
theorem dX9_feed_71 : decode cX9_feed 71 = .ok (.goto (-39), 3) := by decide +kernel
theorem dX9_feed_74 : decode cX9_feed 74 = .ok (.aload_n 0, 1) := by decide +kernel
theorem dX9_feed_75 : decode cX9_feed 75 = .ok (.getfield 90, 3) := by decide +kernel
theorem dX9_feed_78 : decode cX9_feed 78 = .ok (.ireturn, 1) := by decide +kernel
theorem dX9_here_0 : decode cX9_here 0 = .ok (.aload_n 0, 1) := by decide +kernel
theorem dX9_here_1 : decode cX9_here 1 = .ok (.getfield 96, 3) := by decide +kernel
theorem dX9_here_4 : decode cX9_here 4 = .ok (.aload_n 0, 1) := by decide +kernel
theorem dX9_here_5 : decode cX9_here 5 = .ok (.getfield 90, 3) := by decide +kernel
theorem dX9_here_8 : decode cX9_here 8 = .ok (.if_icmp .ge 15, 3) := by decide +kernel
theorem dX9_here_11 : decode cX9_here 11 = .ok (.aload_n 0, 1) := by decide +kernel
theorem dX9_here_12 : decode cX9_here 12 = .ok (.getfield 7, 3) := by decide +kernel
theorem dX9_here_15 : decode cX9_here 15 = .ok (.aload_n 0, 1) := by decide +kernel
theorem dX9_here_16 : decode cX9_here 16 = .ok (.getfield 96, 3) := by decide +kernel
theorem dX9_here_19 : decode cX9_here 19 = .ok (.iaload, 1) := by decide +kernel
theorem dX9_here_20 : decode cX9_here 20 = .ok (.goto 4, 3) := by decide +kernel
theorem dX9_here_23 : decode cX9_here 23 = .ok (.iconst (-1), 1) := by decide +kernel
theorem dX9_here_24 : decode cX9_here 24 = .ok (.ireturn, 1) := by decide +kernel
set_option maxRecDepth 20000 in
theorem ggX9_number_X9_here : GoodIn wsX9_number wsX9_here := goodIn_r _ [6, 1, 7, 8, 12, 13, 14, 15, 16, 17, 18, 19, 20, 21, 22, 23, 24, 25, 26, 27, 28, 29, 30, 31, 32, 33, 34, 35, 36, 37, 38, 39, 40, 41, 42, 43] (by decide +kernel) (by decide +kernel)
set_option maxRecDepth 20000 in
theorem gX9_number_X9_here : GoodIn wsX9_number (wsV RX9 99 RX9 yX9_here wsX9_here) := goodIn_app (goodIn_of _ (by decide +kernel)) ggX9_number_X9_here
set_option maxRecDepth 20000 in
theorem ggX9_number_X9_in : GoodIn wsX9_number wsX9_in := goodIn_r _ [11] (by decide +kernel) (by decide +kernel)
set_option maxRecDepth 20000 in
theorem gX9_number_X9_in : GoodIn wsX9_number (va_wsS RX9 83 yX9_in wsX9_in) := goodIn_app (goodIn_of _ (by decide +kernel)) ggX9_number_X9_in
theorem dX9_number_0 : decode cX9_number 0 = .ok (.aload_n 0, 1) := by decide +kernel
theorem dX9_number_1 : decode cX9_number 1 = .ok (.getfield 96, 3) := by decide +kernel
theorem dX9_number_4 : decode cX9_number 4 = .ok (.istore_n 3, 1) := by decide +kernel
theorem dX9_number_5 : decode cX9_number 5 = .ok (.iconst 0, 1) := by decide +kernel
theorem dX9_number_6 : decode cX9_number 6 = .ok (.istore 4, 2) := by decide +kernel
theorem dX9_number_8 : decode cX9_number 8 = .ok (.iconst 0, 1) := by decide +kernel
theorem dX9_number_9 : decode cX9_number 9 = .ok (.istore 5, 2) := by decide +kernel
theorem dX9_number_11 : decode cX9_number 11 = .ok (.iload 5, 2) := by decide +kernel
theorem dX9_number_13 : decode cX9_number 13 = .ok (.iconst 2, 1) := by decide +kernel
theorem dX9_number_14 : decode cX9_number 14 = .ok (.if_icmp .ge 48, 3) := by decide +kernel
theorem dX9_number_17 : decode cX9_number 17 = .ok (.aload_n 0, 1) := by decide +kernel
theorem dX9_number_18 : decode cX9_number 18 = .ok (.invokevirtual 99, 3) := by decide +kernel
theorem dX9_number_21 : decode cX9_number 21 = .ok (.bipush 48, 2) := by decide +kernel
theorem dX9_number_23 : decode cX9_number 23 = .ok (.bipush 57, 2) := by decide +kernel
theorem dX9_number_25 : decode cX9_number 25 = .ok (.invokestatic 83, 3) := by decide +kernel
theorem dX9_number_28 : decode cX9_number 28 = .ok (.ifCond .eq 34, 3) := by decide +kernel
theorem dX9_number_31 : decode cX9_number 31 = .ok (.bipush 10, 2) := by decide +kernel
theorem dX9_number_33 : decode cX9_number 33 = .ok (.iload 4, 2) := by decide +kernel
theorem dX9_number_35 : decode cX9_number 35 = .ok (.imul, 1) := by decide +kernel
theorem dX9_number_36 : decode cX9_number 36 = .ok (.aload_n 0, 1) := by decide +kernel
theorem dX9_number_37 : decode cX9_number 37 = .ok (.invokevirtual 99, 3) := by decide +kernel
theorem dX9_number_40 : decode cX9_number 40 = .ok (.iadd, 1) := by decide +kernel
theorem dX9_number_41 : decode cX9_number 41 = .ok (.bipush 48, 2) := by decide +kernel
theorem dX9_number_43 : decode cX9_number 43 = .ok (.isub, 1) := by decide +kernel
theorem dX9_number_44 : decode cX9_number 44 = .ok (.istore 4, 2) := by decide +kernel
theorem dX9_number_46 : decode cX9_number 46 = .ok (.iinc 5 1, 3) := by decide +kernel
theorem dX9_number_49 : decode cX9_number 49 = .ok (.aload_n 0, 1) := by decide +kernel
theorem dX9_number_50 : decode cX9_number 50 = .ok (.dup, 1) := by decide +kernel
theorem dX9_number_51 : decode cX9_number 51 = .ok (.getfield 96, 3) := by decide +kernel
theorem dX9_number_54 : decode cX9_number 54 = .ok (.iconst 1, 1) := by decide +kernel
theorem dX9_number_55 : decode cX9_number 55 = .ok (.iadd, 1) := by decide +kernel
theorem dX9_number_56 : decode cX9_number 56 = .ok (.putfield 96, 3) := by decide +kernel
theorem dX9_number_59 : decode cX9_number 59 = .ok (.goto (-48), 3) := by decide +kernel
theorem dX9_number_62 : decode cX9_number 62 = .ok (.iload 5, 2) := by decide +kernel
theorem dX9_number_64 : decode cX9_number 64 = .ok (.ifCond .ne 5, 3) := by decide +kernel
theorem dX9_number_67 : decode cX9_number 67 = .ok (.iconst (-1), 1) := by decide +kernel
theorem dX9_number_68 : decode cX9_number 68 = .ok (.ireturn, 1) := by decide +kernel
theorem dX9_number_69 : decode cX9_number 69 = .ok (.iload 4, 2) := by decide +kernel
theorem dX9_number_71 : decode cX9_number 71 = .ok (.iload_n 1, 1) := by decide +kernel
theorem dX9_number_72 : decode cX9_number 72 = .ok (.iload_n 2, 1) := by decide +kernel
theorem dX9_number_73 : decode cX9_number 73 = .ok (.invokestatic 83, 3) := by decide +kernel
theorem dX9_number_76 : decode cX9_number 76 = .ok (.ifCond .ne 10, 3) := by decide +kernel
theorem dX9_number_79 : decode cX9_number 79 = .ok (.aload_n 0, 1) := by decide +kernel
theorem dX9_number_80 : decode cX9_number 80 = .ok (.iload_n 3, 1) := by decide +kernel
theorem dX9_number_81 : decode cX9_number 81 = .ok (.putfield 96, 3) := by decide +kernel
theorem dX9_number_84 : decode cX9_number 84 = .ok (.iconst (-1), 1) := by decide +kernel
theorem dX9_number_85 : decode cX9_number 85 = .ok (.ireturn, 1) := by decide +kernel
theorem dX9_number_86 : decode cX9_number 86 = .ok (.iload 4, 2) := by decide +kernel
theorem dX9_number_88 : decode cX9_number 88 = .ok (.ireturn, 1) := by decide +kernel
set_option maxRecDepth 20000 in
theorem ggX9_blanks_X9_here : GoodIn wsX9_blanks wsX9_here := goodIn_r _ [6, 1, 7, 8, 9, 10, 11, 12, 13, 14, 15, 16, 17, 18, 19, 20, 21, 22, 23, 24, 25, 26, 27, 28, 29, 30, 31, 32, 33, 34, 35, 36, 37, 38, 39, 40] (by decide +kernel) (by decide +kernel)
set_option maxRecDepth 20000 in
theorem gX9_blanks_X9_here : GoodIn wsX9_blanks (wsV RX9 99 RX9 yX9_here wsX9_here) := goodIn_app (goodIn_of _ (by decide +kernel)) ggX9_blanks_X9_here
theorem dX9_blanks_0 : decode cX9_blanks 0 = .ok (.aload_n 0, 1) := by decide +kernel
theorem dX9_blanks_1 : decode cX9_blanks 1 = .ok (.invokevirtual 99, 3) := by decide +kernel
theorem dX9_blanks_4 : decode cX9_blanks 4 = .ok (.bipush 32, 2) := by decide +kernel
theorem dX9_blanks_6 : decode cX9_blanks 6 = .ok (.if_icmp .eq 5, 3) := by decide +kernel
theorem dX9_blanks_9 : decode cX9_blanks 9 = .ok (.iconst 0, 1) := by decide +kernel
theorem dX9_blanks_10 : decode cX9_blanks 10 = .ok (.ireturn, 1) := by decide +kernel
theorem dX9_blanks_11 : decode cX9_blanks 11 = .ok (.aload_n 0, 1) := by decide +kernel
theorem dX9_blanks_12 : decode cX9_blanks 12 = .ok (.invokevirtual 99, 3) := by decide +kernel
theorem dX9_blanks_15 : decode cX9_blanks 15 = .ok (.bipush 32, 2) := by decide +kernel
theorem dX9_blanks_17 : decode cX9_blanks 17 = .ok (.if_icmp .ne 16, 3) := by decide +kernel
theorem dX9_blanks_20 : decode cX9_blanks 20 = .ok (.aload_n 0, 1) := by decide +kernel
theorem dX9_blanks_21 : decode cX9_blanks 21 = .ok (.dup, 1) := by decide +kernel
theorem dX9_blanks_22 : decode cX9_blanks 22 = .ok (.getfield 96, 3) := by decide +kernel
theorem dX9_blanks_25 : decode cX9_blanks 25 = .ok (.iconst 1, 1) := by decide +kernel
theorem dX9_blanks_26 : decode cX9_blanks 26 = .ok (.iadd, 1) := by decide +kernel
theorem dX9_blanks_27 : decode cX9_blanks 27 = .ok (.putfield 96, 3) := by decide +kernel
theorem dX9_blanks_30 : decode cX9_blanks 30 = .ok (.goto (-19), 3) := by decide +kernel
theorem dX9_blanks_33 : decode cX9_blanks 33 = .ok (.iconst 1, 1) := by decide +kernel
theorem dX9_blanks_34 : decode cX9_blanks 34 = .ok (.ireturn, 1) := by decide +kernel
set_option maxRecDepth 20000 in
theorem ggX9_part_X9_here : GoodIn wsX9_part wsX9_here := goodIn_r _ [6, 1, 7, 8, 16, 17, 18, 19, 20, 21, 22, 23, 24, 25, 26, 27, 28, 29, 30, 31, 32, 33, 34, 35, 36, 37, 38, 39, 40, 41, 42, 43, 44, 45, 46, 47] (by decide +kernel) (by decide +kernel)
set_option maxRecDepth 20000 in
theorem gX9_part_X9_here : GoodIn wsX9_part (wsV RX9 99 RX9 yX9_here wsX9_here) := goodIn_app (goodIn_of _ (by decide +kernel)) ggX9_part_X9_here
set_option maxRecDepth 20000 in
theorem ggX9_part_X9_number : GoodIn wsX9_part wsX9_number := goodIn_r _ [12, 1, 2, 3, 4, 5, 6, 7, 8, 13, 14, 15, 16, 17, 18, 19, 20, 21, 22, 23, 24, 25, 26, 27, 28, 29, 30, 31, 32, 33, 34, 35, 36, 37, 38, 39, 40, 41, 42, 43, 44, 45, 46, 47] (by decide +kernel) (by decide +kernel)
set_option maxRecDepth 20000 in
theorem gX9_part_X9_number : GoodIn wsX9_part (wsV RX9 103 RX9 yX9_number wsX9_number) := goodIn_app (goodIn_of _ (by decide +kernel)) ggX9_part_X9_number
theorem dX9_part_0 : decode cX9_part 0 = .ok (.aload_n 0, 1) := by decide +kernel
theorem dX9_part_1 : decode cX9_part 1 = .ok (.invokevirtual 99, 3) := by decide +kernel
theorem dX9_part_4 : decode cX9_part 4 = .ok (.iload_n 1, 1) := by decide +kernel
theorem dX9_part_5 : decode cX9_part 5 = .ok (.if_icmp .eq 5, 3) := by decide +kernel
theorem dX9_part_8 : decode cX9_part 8 = .ok (.iconst (-1), 1) := by decide +kernel
theorem dX9_part_9 : decode cX9_part 9 = .ok (.ireturn, 1) := by decide +kernel
theorem dX9_part_10 : decode cX9_part 10 = .ok (.aload_n 0, 1) := by decide +kernel
theorem dX9_part_11 : decode cX9_part 11 = .ok (.dup, 1) := by decide +kernel
theorem dX9_part_12 : decode cX9_part 12 = .ok (.getfield 96, 3) := by decide +kernel
theorem dX9_part_15 : decode cX9_part 15 = .ok (.iconst 1, 1) := by decide +kernel
theorem dX9_part_16 : decode cX9_part 16 = .ok (.iadd, 1) := by decide +kernel
theorem dX9_part_17 : decode cX9_part 17 = .ok (.putfield 96, 3) := by decide +kernel
theorem dX9_part_20 : decode cX9_part 20 = .ok (.aload_n 0, 1) := by decide +kernel
theorem dX9_part_21 : decode cX9_part 21 = .ok (.iload_n 2, 1) := by decide +kernel
theorem dX9_part_22 : decode cX9_part 22 = .ok (.iload_n 3, 1) := by decide +kernel
theorem dX9_part_23 : decode cX9_part 23 = .ok (.invokevirtual 103, 3) := by decide +kernel
theorem dX9_part_26 : decode cX9_part 26 = .ok (.ireturn, 1) := by decide +kernel
set_option maxRecDepth 20000 in
theorem ggX9_reads_X9_part : GoodIn wsX9_reads wsX9_part := goodIn_r _ [12, 6, 13, 14, 15, 11, 16, 7, 17, 18, 19, 20, 21, 22, 23, 24, 32, 33, 34, 35, 36, 37, 38, 39, 40, 41, 42, 43, 44, 45, 46, 47, 48, 49, 50, 51, 52, 53, 54, 55, 56, 57, 58, 59, 60, 61, 62, 63] (by decide +kernel) (by decide +kernel)
set_option maxRecDepth 20000 in
theorem gX9_reads_X9_part : GoodIn wsX9_reads (wsV RX9 107 RX9 yX9_part wsX9_part) := goodIn_app (goodIn_of _ (by decide +kernel)) ggX9_reads_X9_part
set_option maxRecDepth 20000 in
theorem ggX9_reads_X9_blanks : GoodIn wsX9_reads wsX9_blanks := goodIn_r _ [28, 6, 13, 14, 15, 11, 16, 7, 17, 32, 33, 34, 35, 36, 37, 38, 39, 40, 41, 42, 43, 44, 45, 46, 47, 48, 49, 50, 51, 52, 53, 54, 55, 56, 57, 58, 59, 60, 61, 62, 63] (by decide +kernel) (by decide +kernel)
set_option maxRecDepth 20000 in
theorem gX9_reads_X9_blanks : GoodIn wsX9_reads (wsV RX9 110 RX9 yX9_blanks wsX9_blanks) := goodIn_app (goodIn_of _ (by decide +kernel)) ggX9_reads_X9_blanks
set_option maxRecDepth 20000 in
theorem ggX9_reads_X9_holds : GoodIn wsX9_reads wsX9_holds := goodIn_r _ [31] (by decide +kernel) (by decide +kernel)
set_option maxRecDepth 20000 in
theorem gX9_reads_X9_holds : GoodIn wsX9_reads (va_wsS RX9 79 yX9_holds wsX9_holds) := goodIn_app (goodIn_of _ (by decide +kernel)) ggX9_reads_X9_holds
set_option maxRecDepth 20000 in
theorem ggX9_reads_X9_number : GoodIn wsX9_reads wsX9_number := goodIn_r _ [21, 6, 13, 14, 15, 11, 16, 7, 17, 22, 23, 24, 32, 33, 34, 35, 36, 37, 38, 39, 40, 41, 42, 43, 44, 45, 46, 47, 48, 49, 50, 51, 52, 53, 54, 55, 56, 57, 58, 59, 60, 61, 62, 63] (by decide +kernel) (by decide +kernel)
set_option maxRecDepth 20000 in
theorem gX9_reads_X9_number : GoodIn wsX9_reads (wsV RX9 103 RX9 yX9_number wsX9_number) := goodIn_app (goodIn_of _ (by decide +kernel)) ggX9_reads_X9_number
theorem dX9_reads_0 : decode cX9_reads 0 = .ok (.aload_n 0, 1) := by decide +kernel
theorem dX9_reads_1 : decode cX9_reads 1 = .ok (.getfield 13, 3) := by decide +kernel
theorem dX9_reads_4 : decode cX9_reads 4 = .ok (.iload_n 1, 1) := by decide +kernel
theorem dX9_reads_5 : decode cX9_reads 5 = .ok (.aload_n 0, 1) := by decide +kernel
theorem dX9_reads_6 : decode cX9_reads 6 = .ok (.bipush 107, 2) := by decide +kernel
theorem dX9_reads_8 : decode cX9_reads 8 = .ok (.iconst 0, 1) := by decide +kernel
theorem dX9_reads_9 : decode cX9_reads 9 = .ok (.iconst 5, 1) := by decide +kernel
theorem dX9_reads_10 : decode cX9_reads 10 = .ok (.invokevirtual 107, 3) := by decide +kernel
theorem dX9_reads_13 : decode cX9_reads 13 = .ok (.iastore, 1) := by decide +kernel
theorem dX9_reads_14 : decode cX9_reads 14 = .ok (.aload_n 0, 1) := by decide +kernel
theorem dX9_reads_15 : decode cX9_reads 15 = .ok (.getfield 13, 3) := by decide +kernel
theorem dX9_reads_18 : decode cX9_reads 18 = .ok (.iload_n 1, 1) := by decide +kernel
theorem dX9_reads_19 : decode cX9_reads 19 = .ok (.iaload, 1) := by decide +kernel
theorem dX9_reads_20 : decode cX9_reads 20 = .ok (.iconst (-1), 1) := by decide +kernel
theorem dX9_reads_21 : decode cX9_reads 21 = .ok (.if_icmp .eq 10, 3) := by decide +kernel
theorem dX9_reads_24 : decode cX9_reads 24 = .ok (.aload_n 0, 1) := by decide +kernel
theorem dX9_reads_25 : decode cX9_reads 25 = .ok (.invokevirtual 110, 3) := by decide +kernel
theorem dX9_reads_28 : decode cX9_reads 28 = .ok (.ifCond .ne 5, 3) := by decide +kernel
theorem dX9_reads_31 : decode cX9_reads 31 = .ok (.iconst 0, 1) := by decide +kernel
theorem dX9_reads_32 : decode cX9_reads 32 = .ok (.ireturn, 1) := by decide +kernel
theorem dX9_reads_33 : decode cX9_reads 33 = .ok (.aload_n 0, 1) := by decide +kernel
theorem dX9_reads_34 : decode cX9_reads 34 = .ok (.getfield 16, 3) := by decide +kernel
theorem dX9_reads_37 : decode cX9_reads 37 = .ok (.iload_n 1, 1) := by decide +kernel
theorem dX9_reads_38 : decode cX9_reads 38 = .ok (.aload_n 0, 1) := by decide +kernel
theorem dX9_reads_39 : decode cX9_reads 39 = .ok (.bipush 110, 2) := by decide +kernel
theorem dX9_reads_41 : decode cX9_reads 41 = .ok (.iconst 1, 1) := by decide +kernel
theorem dX9_reads_42 : decode cX9_reads 42 = .ok (.bipush 10, 2) := by decide +kernel
theorem dX9_reads_44 : decode cX9_reads 44 = .ok (.invokevirtual 107, 3) := by decide +kernel
theorem dX9_reads_47 : decode cX9_reads 47 = .ok (.iastore, 1) := by decide +kernel
theorem dX9_reads_48 : decode cX9_reads 48 = .ok (.aload_n 0, 1) := by decide +kernel
theorem dX9_reads_49 : decode cX9_reads 49 = .ok (.getfield 16, 3) := by decide +kernel
theorem dX9_reads_52 : decode cX9_reads 52 = .ok (.iload_n 1, 1) := by decide +kernel
theorem dX9_reads_53 : decode cX9_reads 53 = .ok (.iaload, 1) := by decide +kernel
theorem dX9_reads_54 : decode cX9_reads 54 = .ok (.iconst (-1), 1) := by decide +kernel
theorem dX9_reads_55 : decode cX9_reads 55 = .ok (.if_icmp .eq 10, 3) := by decide +kernel
theorem dX9_reads_58 : decode cX9_reads 58 = .ok (.aload_n 0, 1) := by decide +kernel
theorem dX9_reads_59 : decode cX9_reads 59 = .ok (.invokevirtual 110, 3) := by decide +kernel
theorem dX9_reads_62 : decode cX9_reads 62 = .ok (.ifCond .ne 5, 3) := by decide +kernel
theorem dX9_reads_65 : decode cX9_reads 65 = .ok (.iconst 0, 1) := by decide +kernel
theorem dX9_reads_66 : decode cX9_reads 66 = .ok (.ireturn, 1) := by decide +kernel
theorem dX9_reads_67 : decode cX9_reads 67 = .ok (.aload_n 0, 1) := by decide +kernel
theorem dX9_reads_68 : decode cX9_reads 68 = .ok (.getfield 19, 3) := by decide +kernel
theorem dX9_reads_71 : decode cX9_reads 71 = .ok (.iload_n 1, 1) := by decide +kernel
theorem dX9_reads_72 : decode cX9_reads 72 = .ok (.aload_n 0, 1) := by decide +kernel
theorem dX9_reads_73 : decode cX9_reads 73 = .ok (.bipush 99, 2) := by decide +kernel
theorem dX9_reads_75 : decode cX9_reads 75 = .ok (.iconst 0, 1) := by decide +kernel
theorem dX9_reads_76 : decode cX9_reads 76 = .ok (.bipush 24, 2) := by decide +kernel
theorem dX9_reads_78 : decode cX9_reads 78 = .ok (.invokevirtual 107, 3) := by decide +kernel
theorem dX9_reads_81 : decode cX9_reads 81 = .ok (.iastore, 1) := by decide +kernel
theorem dX9_reads_82 : decode cX9_reads 82 = .ok (.aload_n 0, 1) := by decide +kernel
theorem dX9_reads_83 : decode cX9_reads 83 = .ok (.getfield 19, 3) := by decide +kernel
theorem dX9_reads_86 : decode cX9_reads 86 = .ok (.iload_n 1, 1) := by decide +kernel
theorem dX9_reads_87 : decode cX9_reads 87 = .ok (.iaload, 1) := by decide +kernel
theorem dX9_reads_88 : decode cX9_reads 88 = .ok (.iconst (-1), 1) := by decide +kernel
theorem dX9_reads_89 : decode cX9_reads 89 = .ok (.if_icmp .eq 10, 3) := by decide +kernel
theorem dX9_reads_92 : decode cX9_reads 92 = .ok (.aload_n 0, 1) := by decide +kernel
theorem dX9_reads_93 : decode cX9_reads 93 = .ok (.invokevirtual 110, 3) := by decide +kernel
theorem dX9_reads_96 : decode cX9_reads 96 = .ok (.ifCond .ne 5, 3) := by decide +kernel
theorem dX9_reads_99 : decode cX9_reads 99 = .ok (.iconst 0, 1) := by decide +kernel
theorem dX9_reads_100 : decode cX9_reads 100 = .ok (.ireturn, 1) := by decide +kernel
theorem dX9_reads_101 : decode cX9_reads 101 = .ok (.aload_n 0, 1) := by decide +kernel
theorem dX9_reads_102 : decode cX9_reads 102 = .ok (.getfield 22, 3) := by decide +kernel
theorem dX9_reads_105 : decode cX9_reads 105 = .ok (.iload_n 1, 1) := by decide +kernel
theorem dX9_reads_106 : decode cX9_reads 106 = .ok (.aload_n 0, 1) := by decide +kernel
theorem dX9_reads_107 : decode cX9_reads 107 = .ok (.bipush 119, 2) := by decide +kernel
theorem dX9_reads_109 : decode cX9_reads 109 = .ok (.iconst 1, 1) := by decide +kernel
theorem dX9_reads_110 : decode cX9_reads 110 = .ok (.aload_n 0, 1) := by decide +kernel
theorem dX9_reads_111 : decode cX9_reads 111 = .ok (.getfield 16, 3) := by decide +kernel
theorem dX9_reads_114 : decode cX9_reads 114 = .ok (.iload_n 1, 1) := by decide +kernel
theorem dX9_reads_115 : decode cX9_reads 115 = .ok (.iaload, 1) := by decide +kernel
theorem dX9_reads_116 : decode cX9_reads 116 = .ok (.iconst 3, 1) := by decide +kernel
theorem dX9_reads_117 : decode cX9_reads 117 = .ok (.if_icmp .ge 12, 3) := by decide +kernel
theorem dX9_reads_120 : decode cX9_reads 120 = .ok (.aload_n 0, 1) := by decide +kernel
theorem dX9_reads_121 : decode cX9_reads 121 = .ok (.getfield 16, 3) := by decide +kernel
theorem dX9_reads_124 : decode cX9_reads 124 = .ok (.iload_n 1, 1) := by decide +kernel
theorem dX9_reads_125 : decode cX9_reads 125 = .ok (.iaload, 1) := by decide +kernel
theorem dX9_reads_126 : decode cX9_reads 126 = .ok (.goto 4, 3) := by decide +kernel
theorem dX9_reads_129 : decode cX9_reads 129 = .ok (.iconst 3, 1) := by decide +kernel
theorem dX9_reads_130 : decode cX9_reads 130 = .ok (.invokevirtual 107, 3) := by decide +kernel
theorem dX9_reads_133 : decode cX9_reads 133 = .ok (.iastore, 1) := by decide +kernel
theorem dX9_reads_134 : decode cX9_reads 134 = .ok (.aload_n 0, 1) := by decide +kernel
theorem dX9_reads_135 : decode cX9_reads 135 = .ok (.getfield 22, 3) := by decide +kernel
theorem dX9_reads_138 : decode cX9_reads 138 = .ok (.iload_n 1, 1) := by decide +kernel
theorem dX9_reads_139 : decode cX9_reads 139 = .ok (.iaload, 1) := by decide +kernel
theorem dX9_reads_140 : decode cX9_reads 140 = .ok (.iconst (-1), 1) := by decide +kernel
theorem dX9_reads_141 : decode cX9_reads 141 = .ok (.if_icmp .ne 5, 3) := by decide +kernel
theorem dX9_reads_144 : decode cX9_reads 144 = .ok (.iconst 0, 1) := by decide +kernel
theorem dX9_reads_145 : decode cX9_reads 145 = .ok (.ireturn, 1) := by decide +kernel
theorem dX9_reads_146 : decode cX9_reads 146 = .ok (.iconst 0, 1) := by decide +kernel
theorem dX9_reads_147 : decode cX9_reads 147 = .ok (.istore_n 2, 1) := by decide +kernel
theorem dX9_reads_148 : decode cX9_reads 148 = .ok (.iconst 0, 1) := by decide +kernel
theorem dX9_reads_149 : decode cX9_reads 149 = .ok (.istore_n 3, 1) := by decide +kernel
theorem dX9_reads_150 : decode cX9_reads 150 = .ok (.iload_n 3, 1) := by decide +kernel
theorem dX9_reads_151 : decode cX9_reads 151 = .ok (.aload_n 0, 1) := by decide +kernel
theorem dX9_reads_152 : decode cX9_reads 152 = .ok (.getfield 22, 3) := by decide +kernel
theorem dX9_reads_155 : decode cX9_reads 155 = .ok (.iload_n 1, 1) := by decide +kernel
theorem dX9_reads_156 : decode cX9_reads 156 = .ok (.iaload, 1) := by decide +kernel
theorem dX9_reads_157 : decode cX9_reads 157 = .ok (.if_icmp .gt 75, 3) := by decide +kernel
theorem dX9_reads_160 : decode cX9_reads 160 = .ok (.aload_n 0, 1) := by decide +kernel
theorem dX9_reads_161 : decode cX9_reads 161 = .ok (.invokevirtual 110, 3) := by decide +kernel
theorem dX9_reads_164 : decode cX9_reads 164 = .ok (.ifCond .ne 5, 3) := by decide +kernel
theorem dX9_reads_167 : decode cX9_reads 167 = .ok (.iconst 0, 1) := by decide +kernel
theorem dX9_reads_168 : decode cX9_reads 168 = .ok (.ireturn, 1) := by decide +kernel
theorem dX9_reads_169 : decode cX9_reads 169 = .ok (.aload_n 0, 1) := by decide +kernel
theorem dX9_reads_170 : decode cX9_reads 170 = .ok (.iconst 0, 1) := by decide +kernel
theorem dX9_reads_171 : decode cX9_reads 171 = .ok (.aload_n 0, 1) := by decide +kernel
theorem dX9_reads_172 : decode cX9_reads 172 = .ok (.getfield 13, 3) := by decide +kernel
theorem dX9_reads_175 : decode cX9_reads 175 = .ok (.iload_n 1, 1) := by decide +kernel
theorem dX9_reads_176 : decode cX9_reads 176 = .ok (.iaload, 1) := by decide +kernel
theorem dX9_reads_177 : decode cX9_reads 177 = .ok (.iload_n 3, 1) := by decide +kernel
theorem dX9_reads_178 : decode cX9_reads 178 = .ok (.aload_n 0, 1) := by decide +kernel
theorem dX9_reads_179 : decode cX9_reads 179 = .ok (.getfield 22, 3) := by decide +kernel
theorem dX9_reads_182 : decode cX9_reads 182 = .ok (.iload_n 1, 1) := by decide +kernel
theorem dX9_reads_183 : decode cX9_reads 183 = .ok (.iaload, 1) := by decide +kernel
theorem dX9_reads_184 : decode cX9_reads 184 = .ok (.invokestatic 79, 3) := by decide +kernel
theorem dX9_reads_187 : decode cX9_reads 187 = .ok (.ifCond .eq 8, 3) := by decide +kernel
theorem dX9_reads_190 : decode cX9_reads 190 = .ok (.bipush 99, 2) := by decide +kernel
theorem dX9_reads_192 : decode cX9_reads 192 = .ok (.goto 4, 3) := by decide +kernel
theorem dX9_reads_195 : decode cX9_reads 195 = .ok (.iconst 0, 1) := by decide +kernel
theorem dX9_reads_196 : decode cX9_reads 196 = .ok (.invokevirtual 103, 3) := by decide +kernel
theorem dX9_reads_199 : decode cX9_reads 199 = .ok (.istore 4, 2) := by decide +kernel
theorem dX9_reads_201 : decode cX9_reads 201 = .ok (.iload 4, 2) := by decide +kernel
theorem dX9_reads_203 : decode cX9_reads 203 = .ok (.iconst (-1), 1) := by decide +kernel
theorem dX9_reads_204 : decode cX9_reads 204 = .ok (.if_icmp .ne 5, 3) := by decide +kernel
theorem dX9_reads_207 : decode cX9_reads 207 = .ok (.iconst 0, 1) := by decide +kernel
theorem dX9_reads_208 : decode cX9_reads 208 = .ok (.ireturn, 1) := by decide +kernel
theorem dX9_reads_209 : decode cX9_reads 209 = .ok (.aload_n 0, 1) := by decide +kernel
theorem dX9_reads_210 : decode cX9_reads 210 = .ok (.getfield 25, 3) := by decide +kernel
theorem dX9_reads_213 : decode cX9_reads 213 = .ok (.iconst 4, 1) := by decide +kernel
theorem dX9_reads_214 : decode cX9_reads 214 = .ok (.iload_n 1, 1) := by decide +kernel
theorem dX9_reads_215 : decode cX9_reads 215 = .ok (.imul, 1) := by decide +kernel
theorem dX9_reads_216 : decode cX9_reads 216 = .ok (.iload_n 3, 1) := by decide +kernel
theorem dX9_reads_217 : decode cX9_reads 217 = .ok (.iadd, 1) := by decide +kernel
theorem dX9_reads_218 : decode cX9_reads 218 = .ok (.iload 4, 2) := by decide +kernel
theorem dX9_reads_220 : decode cX9_reads 220 = .ok (.iastore, 1) := by decide +kernel
theorem dX9_reads_221 : decode cX9_reads 221 = .ok (.iload_n 2, 1) := by decide +kernel
theorem dX9_reads_222 : decode cX9_reads 222 = .ok (.iload 4, 2) := by decide +kernel
theorem dX9_reads_224 : decode cX9_reads 224 = .ok (.iadd, 1) := by decide +kernel
theorem dX9_reads_225 : decode cX9_reads 225 = .ok (.istore_n 2, 1) := by decide +kernel
theorem dX9_reads_226 : decode cX9_reads 226 = .ok (.iinc 3 1, 3) := by decide +kernel
theorem dX9_reads_229 : decode cX9_reads 229 = .ok (.goto (-79), 3) := by decide +kernel
theorem dX9_reads_232 : decode cX9_reads 232 = .ok (.aload_n 0, 1) := by decide +kernel
theorem dX9_reads_233 : decode cX9_reads 233 = .ok (.getfield 96, 3) := by decide +kernel
theorem dX9_reads_236 : decode cX9_reads 236 = .ok (.aload_n 0, 1) := by decide +kernel
theorem dX9_reads_237 : decode cX9_reads 237 = .ok (.getfield 90, 3) := by decide +kernel
theorem dX9_reads_240 : decode cX9_reads 240 = .ok (.if_icmp .ne 11, 3) := by decide +kernel
theorem dX9_reads_243 : decode cX9_reads 243 = .ok (.iload_n 2, 1) := by decide +kernel
theorem dX9_reads_244 : decode cX9_reads 244 = .ok (.ifCond .le 7, 3) := by decide +kernel
theorem dX9_reads_247 : decode cX9_reads 247 = .ok (.iconst 1, 1) := by decide +kernel
theorem dX9_reads_248 : decode cX9_reads 248 = .ok (.goto 4, 3) := by decide +kernel
theorem dX9_reads_251 : decode cX9_reads 251 = .ok (.iconst 0, 1) := by decide +kernel
theorem dX9_reads_252 : decode cX9_reads 252 = .ok (.ireturn, 1) := by decide +kernel
set_option maxRecDepth 20000 in
theorem ggX9_recipe_X9_reads : GoodIn wsX9_recipe wsX9_reads := goodIn_r _ [8, 9, 10, 11, 12, 13, 2, 3, 14, 15, 16, 7, 17, 18, 19, 20, 21, 22, 23, 24, 25, 26, 27, 28, 29, 30, 31, 32, 33, 34, 35, 36, 37, 38, 39, 40, 41, 42, 43, 44, 45, 46, 47, 48, 49, 50, 51, 52, 53, 54, 55, 56, 57, 58, 59, 60, 61, 62, 63, 64, 65, 66, 67, 68] (by decide +kernel) (by decide +kernel)
set_option maxRecDepth 20000 in
theorem gX9_recipe_X9_reads : GoodIn wsX9_recipe (wsV RX9 117 RX9 yX9_reads wsX9_reads) := goodIn_app (goodIn_of _ (by decide +kernel)) ggX9_recipe_X9_reads
theorem dX9_recipe_0 : decode cX9_recipe 0 = .ok (.aload_n 0, 1) := by decide +kernel
theorem dX9_recipe_1 : decode cX9_recipe 1 = .ok (.getfield 114, 3) := by decide +kernel
theorem dX9_recipe_4 : decode cX9_recipe 4 = .ok (.bipush 6, 2) := by decide +kernel
theorem dX9_recipe_6 : decode cX9_recipe 6 = .ok (.if_icmp .ne 6, 3) := by decide +kernel
theorem dX9_recipe_9 : decode cX9_recipe 9 = .ok (.bipush (-4), 2) := by decide +kernel
theorem dX9_recipe_11 : decode cX9_recipe 11 = .ok (.ireturn, 1) := by decide +kernel
theorem dX9_recipe_12 : decode cX9_recipe 12 = .ok (.aload_n 0, 1) := by decide +kernel
theorem dX9_recipe_13 : decode cX9_recipe 13 = .ok (.iconst 0, 1) := by decide +kernel
theorem dX9_recipe_14 : decode cX9_recipe 14 = .ok (.putfield 96, 3) := by decide +kernel
theorem dX9_recipe_17 : decode cX9_recipe 17 = .ok (.aload_n 0, 1) := by decide +kernel
theorem dX9_recipe_18 : decode cX9_recipe 18 = .ok (.aload_n 0, 1) := by decide +kernel
theorem dX9_recipe_19 : decode cX9_recipe 19 = .ok (.getfield 114, 3) := by decide +kernel
theorem dX9_recipe_22 : decode cX9_recipe 22 = .ok (.invokevirtual 117, 3) := by decide +kernel
theorem dX9_recipe_25 : decode cX9_recipe 25 = .ok (.istore_n 1, 1) := by decide +kernel
theorem dX9_recipe_26 : decode cX9_recipe 26 = .ok (.aload_n 0, 1) := by decide +kernel
theorem dX9_recipe_27 : decode cX9_recipe 27 = .ok (.iconst 0, 1) := by decide +kernel
theorem dX9_recipe_28 : decode cX9_recipe 28 = .ok (.putfield 90, 3) := by decide +kernel
theorem dX9_recipe_31 : decode cX9_recipe 31 = .ok (.iload_n 1, 1) := by decide +kernel
theorem dX9_recipe_32 : decode cX9_recipe 32 = .ok (.ifCond .ne 11, 3) := by decide +kernel
theorem dX9_recipe_35 : decode cX9_recipe 35 = .ok (.bipush (-100), 2) := by decide +kernel
theorem dX9_recipe_37 : decode cX9_recipe 37 = .ok (.aload_n 0, 1) := by decide +kernel
theorem dX9_recipe_38 : decode cX9_recipe 38 = .ok (.getfield 96, 3) := by decide +kernel
theorem dX9_recipe_41 : decode cX9_recipe 41 = .ok (.isub, 1) := by decide +kernel
theorem dX9_recipe_42 : decode cX9_recipe 42 = .ok (.ireturn, 1) := by decide +kernel
theorem dX9_recipe_43 : decode cX9_recipe 43 = .ok (.aload_n 0, 1) := by decide +kernel
theorem dX9_recipe_44 : decode cX9_recipe 44 = .ok (.dup, 1) := by decide +kernel
theorem dX9_recipe_45 : decode cX9_recipe 45 = .ok (.getfield 114, 3) := by decide +kernel
theorem dX9_recipe_48 : decode cX9_recipe 48 = .ok (.iconst 1, 1) := by decide +kernel
theorem dX9_recipe_49 : decode cX9_recipe 49 = .ok (.iadd, 1) := by decide +kernel
theorem dX9_recipe_50 : decode cX9_recipe 50 = .ok (.putfield 114, 3) := by decide +kernel
theorem dX9_recipe_53 : decode cX9_recipe 53 = .ok (.aload_n 0, 1) := by decide +kernel
theorem dX9_recipe_54 : decode cX9_recipe 54 = .ok (.getfield 114, 3) := by decide +kernel
theorem dX9_recipe_57 : decode cX9_recipe 57 = .ok (.iconst 1, 1) := by decide +kernel
theorem dX9_recipe_58 : decode cX9_recipe 58 = .ok (.isub, 1) := by decide +kernel
theorem dX9_recipe_59 : decode cX9_recipe 59 = .ok (.ireturn, 1) := by decide +kernel
set_option maxRecDepth 20000 in
theorem ggX9_isRecipe_X9_in : GoodIn wsX9_isRecipe wsX9_in := goodIn_r _ [5] (by decide +kernel) (by decide +kernel)
set_option maxRecDepth 20000 in
theorem gX9_isRecipe_X9_in : GoodIn wsX9_isRecipe (va_wsS RX9 83 yX9_in wsX9_in) := goodIn_app (goodIn_of _ (by decide +kernel)) ggX9_isRecipe_X9_in
theorem dX9_isRecipe_0 : decode cX9_isRecipe 0 = .ok (.iload_n 1, 1) := by decide +kernel
theorem dX9_isRecipe_1 : decode cX9_isRecipe 1 = .ok (.iconst 0, 1) := by decide +kernel
theorem dX9_isRecipe_2 : decode cX9_isRecipe 2 = .ok (.aload_n 0, 1) := by decide +kernel
theorem dX9_isRecipe_3 : decode cX9_isRecipe 3 = .ok (.getfield 114, 3) := by decide +kernel
theorem dX9_isRecipe_6 : decode cX9_isRecipe 6 = .ok (.iconst 1, 1) := by decide +kernel
theorem dX9_isRecipe_7 : decode cX9_isRecipe 7 = .ok (.isub, 1) := by decide +kernel
theorem dX9_isRecipe_8 : decode cX9_isRecipe 8 = .ok (.invokestatic 83, 3) := by decide +kernel
theorem dX9_isRecipe_11 : decode cX9_isRecipe 11 = .ok (.ireturn, 1) := by decide +kernel
set_option maxRecDepth 20000 in
theorem ggX9_recipeTold_X9_isRecipe : GoodIn wsX9_recipeTold wsX9_isRecipe := goodIn_r _ [10, 11, 12, 13, 9, 14, 15, 16, 17, 18, 19, 20, 21, 22, 23, 24, 25, 26, 27, 28, 29, 30, 31, 32, 33, 34, 35, 36, 37, 38, 39, 40, 41, 42, 43, 44, 45, 46] (by decide +kernel) (by decide +kernel)
set_option maxRecDepth 20000 in
theorem gX9_recipeTold_X9_isRecipe : GoodIn wsX9_recipeTold (wsV RX9 121 RX9 yX9_isRecipe wsX9_isRecipe) := goodIn_app (goodIn_of _ (by decide +kernel)) ggX9_recipeTold_X9_isRecipe
set_option maxRecDepth 20000 in
theorem ggX9_recipeTold_X9_in : GoodIn wsX9_recipeTold wsX9_in := goodIn_r _ [14] (by decide +kernel) (by decide +kernel)
set_option maxRecDepth 20000 in
theorem gX9_recipeTold_X9_in : GoodIn wsX9_recipeTold (va_wsS RX9 83 yX9_in wsX9_in) := goodIn_app (goodIn_of _ (by decide +kernel)) ggX9_recipeTold_X9_in
theorem dX9_recipeTold_0 : decode cX9_recipeTold 0 = .ok (.aload_n 0, 1) := by decide +kernel
theorem dX9_recipeTold_1 : decode cX9_recipeTold 1 = .ok (.iload_n 1, 1) := by decide +kernel
theorem dX9_recipeTold_2 : decode cX9_recipeTold 2 = .ok (.invokevirtual 121, 3) := by decide +kernel
theorem dX9_recipeTold_5 : decode cX9_recipeTold 5 = .ok (.ifCond .ne 6, 3) := by decide +kernel
theorem dX9_recipeTold_8 : decode cX9_recipeTold 8 = .ok (.bipush (-5), 2) := by decide +kernel
theorem dX9_recipeTold_10 : decode cX9_recipeTold 10 = .ok (.ireturn, 1) := by decide +kernel
theorem dX9_recipeTold_11 : decode cX9_recipeTold 11 = .ok (.iload_n 2, 1) := by decide +kernel
theorem dX9_recipeTold_12 : decode cX9_recipeTold 12 = .ok (.tableswitch 60 0 3 #[32, 39, 46, 53], 32) := by decide +kernel
theorem dX9_recipeTold_44 : decode cX9_recipeTold 44 = .ok (.aload_n 0, 1) := by decide +kernel
theorem dX9_recipeTold_45 : decode cX9_recipeTold 45 = .ok (.getfield 13, 3) := by decide +kernel
theorem dX9_recipeTold_48 : decode cX9_recipeTold 48 = .ok (.iload_n 1, 1) := by decide +kernel
theorem dX9_recipeTold_49 : decode cX9_recipeTold 49 = .ok (.iaload, 1) := by decide +kernel
theorem dX9_recipeTold_50 : decode cX9_recipeTold 50 = .ok (.ireturn, 1) := by decide +kernel
theorem dX9_recipeTold_51 : decode cX9_recipeTold 51 = .ok (.aload_n 0, 1) := by decide +kernel
theorem dX9_recipeTold_52 : decode cX9_recipeTold 52 = .ok (.getfield 16, 3) := by decide +kernel
theorem dX9_recipeTold_55 : decode cX9_recipeTold 55 = .ok (.iload_n 1, 1) := by decide +kernel
theorem dX9_recipeTold_56 : decode cX9_recipeTold 56 = .ok (.iaload, 1) := by decide +kernel
theorem dX9_recipeTold_57 : decode cX9_recipeTold 57 = .ok (.ireturn, 1) := by decide +kernel
theorem dX9_recipeTold_58 : decode cX9_recipeTold 58 = .ok (.aload_n 0, 1) := by decide +kernel
theorem dX9_recipeTold_59 : decode cX9_recipeTold 59 = .ok (.getfield 19, 3) := by decide +kernel
theorem dX9_recipeTold_62 : decode cX9_recipeTold 62 = .ok (.iload_n 1, 1) := by decide +kernel
theorem dX9_recipeTold_63 : decode cX9_recipeTold 63 = .ok (.iaload, 1) := by decide +kernel
theorem dX9_recipeTold_64 : decode cX9_recipeTold 64 = .ok (.ireturn, 1) := by decide +kernel
theorem dX9_recipeTold_65 : decode cX9_recipeTold 65 = .ok (.aload_n 0, 1) := by decide +kernel
theorem dX9_recipeTold_66 : decode cX9_recipeTold 66 = .ok (.getfield 22, 3) := by decide +kernel
theorem dX9_recipeTold_69 : decode cX9_recipeTold 69 = .ok (.iload_n 1, 1) := by decide +kernel
theorem dX9_recipeTold_70 : decode cX9_recipeTold 70 = .ok (.iaload, 1) := by decide +kernel
theorem dX9_recipeTold_71 : decode cX9_recipeTold 71 = .ok (.ireturn, 1) := by decide +kernel
theorem dX9_recipeTold_72 : decode cX9_recipeTold 72 = .ok (.iload_n 2, 1) := by decide +kernel
theorem dX9_recipeTold_73 : decode cX9_recipeTold 73 = .ok (.iconst 4, 1) := by decide +kernel
theorem dX9_recipeTold_74 : decode cX9_recipeTold 74 = .ok (.iconst 4, 1) := by decide +kernel
theorem dX9_recipeTold_75 : decode cX9_recipeTold 75 = .ok (.aload_n 0, 1) := by decide +kernel
theorem dX9_recipeTold_76 : decode cX9_recipeTold 76 = .ok (.getfield 22, 3) := by decide +kernel
theorem dX9_recipeTold_79 : decode cX9_recipeTold 79 = .ok (.iload_n 1, 1) := by decide +kernel
theorem dX9_recipeTold_80 : decode cX9_recipeTold 80 = .ok (.iaload, 1) := by decide +kernel
theorem dX9_recipeTold_81 : decode cX9_recipeTold 81 = .ok (.iadd, 1) := by decide +kernel
theorem dX9_recipeTold_82 : decode cX9_recipeTold 82 = .ok (.invokestatic 83, 3) := by decide +kernel
theorem dX9_recipeTold_85 : decode cX9_recipeTold 85 = .ok (.ifCond .eq 32, 3) := by decide +kernel
theorem dX9_recipeTold_88 : decode cX9_recipeTold 88 = .ok (.aload_n 0, 1) := by decide +kernel
theorem dX9_recipeTold_89 : decode cX9_recipeTold 89 = .ok (.getfield 25, 3) := by decide +kernel
theorem dX9_recipeTold_92 : decode cX9_recipeTold 92 = .ok (.iconst 4, 1) := by decide +kernel
theorem dX9_recipeTold_93 : decode cX9_recipeTold 93 = .ok (.iload_n 1, 1) := by decide +kernel
theorem dX9_recipeTold_94 : decode cX9_recipeTold 94 = .ok (.imul, 1) := by decide +kernel
theorem dX9_recipeTold_95 : decode cX9_recipeTold 95 = .ok (.iload_n 2, 1) := by decide +kernel
theorem dX9_recipeTold_96 : decode cX9_recipeTold 96 = .ok (.iconst 4, 1) := by decide +kernel
theorem dX9_recipeTold_97 : decode cX9_recipeTold 97 = .ok (.bipush 7, 2) := by decide +kernel
theorem dX9_recipeTold_99 : decode cX9_recipeTold 99 = .ok (.invokestatic 83, 3) := by decide +kernel
theorem dX9_recipeTold_102 : decode cX9_recipeTold 102 = .ok (.ifCond .eq 9, 3) := by decide +kernel
theorem dX9_recipeTold_105 : decode cX9_recipeTold 105 = .ok (.iload_n 2, 1) := by decide +kernel
theorem dX9_recipeTold_106 : decode cX9_recipeTold 106 = .ok (.iconst 4, 1) := by decide +kernel
theorem dX9_recipeTold_107 : decode cX9_recipeTold 107 = .ok (.isub, 1) := by decide +kernel
theorem dX9_recipeTold_108 : decode cX9_recipeTold 108 = .ok (.goto 4, 3) := by decide +kernel
theorem dX9_recipeTold_111 : decode cX9_recipeTold 111 = .ok (.iconst 0, 1) := by decide +kernel
theorem dX9_recipeTold_112 : decode cX9_recipeTold 112 = .ok (.iadd, 1) := by decide +kernel
theorem dX9_recipeTold_113 : decode cX9_recipeTold 113 = .ok (.iaload, 1) := by decide +kernel
theorem dX9_recipeTold_114 : decode cX9_recipeTold 114 = .ok (.goto 5, 3) := by decide +kernel
theorem dX9_recipeTold_117 : decode cX9_recipeTold 117 = .ok (.bipush (-7), 2) := by decide +kernel
theorem dX9_recipeTold_119 : decode cX9_recipeTold 119 = .ok (.ireturn, 1) := by decide +kernel
theorem dX9_ways_0 : decode cX9_ways 0 = .ok (.iload_n 0, 1) := by decide +kernel
theorem dX9_ways_1 : decode cX9_ways 1 = .ok (.ifCond .eq 8, 3) := by decide +kernel
theorem dX9_ways_4 : decode cX9_ways 4 = .ok (.iload_n 0, 1) := by decide +kernel
theorem dX9_ways_5 : decode cX9_ways 5 = .ok (.iload_n 1, 1) := by decide +kernel
theorem dX9_ways_6 : decode cX9_ways 6 = .ok (.if_icmp .ne 7, 3) := by decide +kernel
theorem dX9_ways_9 : decode cX9_ways 9 = .ok (.iconst 1, 1) := by decide +kernel
theorem dX9_ways_10 : decode cX9_ways 10 = .ok (.goto 4, 3) := by decide +kernel
theorem dX9_ways_13 : decode cX9_ways 13 = .ok (.iload_n 1, 1) := by decide +kernel
theorem dX9_ways_14 : decode cX9_ways 14 = .ok (.ireturn, 1) := by decide +kernel
set_option maxRecDepth 20000 in
theorem ggX9_all_X9_ways : GoodIn wsX9_all wsX9_ways := goodIn_r _ [6] (by decide +kernel) (by decide +kernel)
set_option maxRecDepth 20000 in
theorem gX9_all_X9_ways : GoodIn wsX9_all (va_wsS RX9 124 yX9_ways wsX9_ways) := goodIn_app (goodIn_of _ (by decide +kernel)) ggX9_all_X9_ways
theorem dX9_all_0 : decode cX9_all 0 = .ok (.iconst 0, 1) := by decide +kernel
theorem dX9_all_1 : decode cX9_all 1 = .ok (.istore_n 2, 1) := by decide +kernel
theorem dX9_all_2 : decode cX9_all 2 = .ok (.iconst 0, 1) := by decide +kernel
theorem dX9_all_3 : decode cX9_all 3 = .ok (.istore_n 3, 1) := by decide +kernel
theorem dX9_all_4 : decode cX9_all 4 = .ok (.iload_n 3, 1) := by decide +kernel
theorem dX9_all_5 : decode cX9_all 5 = .ok (.aload_n 0, 1) := by decide +kernel
theorem dX9_all_6 : decode cX9_all 6 = .ok (.getfield 22, 3) := by decide +kernel
theorem dX9_all_9 : decode cX9_all 9 = .ok (.iload_n 1, 1) := by decide +kernel
theorem dX9_all_10 : decode cX9_all 10 = .ok (.iaload, 1) := by decide +kernel
theorem dX9_all_11 : decode cX9_all 11 = .ok (.if_icmp .gt 33, 3) := by decide +kernel
theorem dX9_all_14 : decode cX9_all 14 = .ok (.iload_n 2, 1) := by decide +kernel
theorem dX9_all_15 : decode cX9_all 15 = .ok (.aload_n 0, 1) := by decide +kernel
theorem dX9_all_16 : decode cX9_all 16 = .ok (.getfield 25, 3) := by decide +kernel
theorem dX9_all_19 : decode cX9_all 19 = .ok (.iconst 4, 1) := by decide +kernel
theorem dX9_all_20 : decode cX9_all 20 = .ok (.iload_n 1, 1) := by decide +kernel
theorem dX9_all_21 : decode cX9_all 21 = .ok (.imul, 1) := by decide +kernel
theorem dX9_all_22 : decode cX9_all 22 = .ok (.iload_n 3, 1) := by decide +kernel
theorem dX9_all_23 : decode cX9_all 23 = .ok (.iadd, 1) := by decide +kernel
theorem dX9_all_24 : decode cX9_all 24 = .ok (.iaload, 1) := by decide +kernel
theorem dX9_all_25 : decode cX9_all 25 = .ok (.iload_n 3, 1) := by decide +kernel
theorem dX9_all_26 : decode cX9_all 26 = .ok (.aload_n 0, 1) := by decide +kernel
theorem dX9_all_27 : decode cX9_all 27 = .ok (.getfield 22, 3) := by decide +kernel
theorem dX9_all_30 : decode cX9_all 30 = .ok (.iload_n 1, 1) := by decide +kernel
theorem dX9_all_31 : decode cX9_all 31 = .ok (.iaload, 1) := by decide +kernel
theorem dX9_all_32 : decode cX9_all 32 = .ok (.invokestatic 124, 3) := by decide +kernel
theorem dX9_all_35 : decode cX9_all 35 = .ok (.imul, 1) := by decide +kernel
theorem dX9_all_36 : decode cX9_all 36 = .ok (.iadd, 1) := by decide +kernel
theorem dX9_all_37 : decode cX9_all 37 = .ok (.istore_n 2, 1) := by decide +kernel
theorem dX9_all_38 : decode cX9_all 38 = .ok (.iinc 3 1, 3) := by decide +kernel
theorem dX9_all_41 : decode cX9_all 41 = .ok (.goto (-37), 3) := by decide +kernel
theorem dX9_all_44 : decode cX9_all 44 = .ok (.iload_n 2, 1) := by decide +kernel
theorem dX9_all_45 : decode cX9_all 45 = .ok (.ireturn, 1) := by decide +kernel
theorem dX9_draw_0 : decode cX9_draw 0 = .ok (.aload_n 0, 1) := by decide +kernel
theorem dX9_draw_1 : decode cX9_draw 1 = .ok (.aload_n 0, 1) := by decide +kernel
theorem dX9_draw_2 : decode cX9_draw 2 = .ok (.getfield 127, 3) := by decide +kernel
theorem dX9_draw_5 : decode cX9_draw 5 = .ok (.ldc2_w 131, 3) := by decide +kernel
theorem dX9_draw_8 : decode cX9_draw 8 = .ok (.lmul, 1) := by decide +kernel
theorem dX9_draw_9 : decode cX9_draw 9 = .ok (.ldc2_w 133, 3) := by decide +kernel
theorem dX9_draw_12 : decode cX9_draw 12 = .ok (.lrem, 1) := by decide +kernel
theorem dX9_draw_13 : decode cX9_draw 13 = .ok (.putfield 127, 3) := by decide +kernel
theorem dX9_draw_16 : decode cX9_draw 16 = .ok (.aload_n 0, 1) := by decide +kernel
theorem dX9_draw_17 : decode cX9_draw 17 = .ok (.getfield 127, 3) := by decide +kernel
theorem dX9_draw_20 : decode cX9_draw 20 = .ok (.ldc2_w 135, 3) := by decide +kernel
theorem dX9_draw_23 : decode cX9_draw 23 = .ok (.ldiv, 1) := by decide +kernel
theorem dX9_draw_24 : decode cX9_draw 24 = .ok (.iload_n 1, 1) := by decide +kernel
theorem dX9_draw_25 : decode cX9_draw 25 = .ok (.i2l, 1) := by decide +kernel
theorem dX9_draw_26 : decode cX9_draw 26 = .ok (.lrem, 1) := by decide +kernel
theorem dX9_draw_27 : decode cX9_draw 27 = .ok (.l2i, 1) := by decide +kernel
theorem dX9_draw_28 : decode cX9_draw 28 = .ok (.ireturn, 1) := by decide +kernel
set_option maxRecDepth 20000 in
theorem ggX9_choose_X9_draw : GoodIn wsX9_choose wsX9_draw := goodIn_r _ [6, 7, 8, 9, 10, 11, 12, 13, 14, 15, 16, 17, 18, 19, 20, 21, 22, 23, 24, 25, 26, 27, 28, 29, 30, 31, 32, 33, 34, 35, 36, 37, 38, 39, 40, 41, 42] (by decide +kernel) (by decide +kernel)
set_option maxRecDepth 20000 in
theorem gX9_choose_X9_draw : GoodIn wsX9_choose (wsV RX9 137 RX9 yX9_draw wsX9_draw) := goodIn_app (goodIn_of _ (by decide +kernel)) ggX9_choose_X9_draw
theorem dX9_choose_0 : decode cX9_choose 0 = .ok (.iconst 0, 1) := by decide +kernel
theorem dX9_choose_1 : decode cX9_choose 1 = .ok (.istore_n 3, 1) := by decide +kernel
theorem dX9_choose_2 : decode cX9_choose 2 = .ok (.iconst 0, 1) := by decide +kernel
theorem dX9_choose_3 : decode cX9_choose 3 = .ok (.istore 4, 2) := by decide +kernel
theorem dX9_choose_5 : decode cX9_choose 5 = .ok (.iload 4, 2) := by decide +kernel
theorem dX9_choose_7 : decode cX9_choose 7 = .ok (.iload_n 2, 1) := by decide +kernel
theorem dX9_choose_8 : decode cX9_choose 8 = .ok (.if_icmp .ge 70, 3) := by decide +kernel
theorem dX9_choose_11 : decode cX9_choose 11 = .ok (.aload_n 0, 1) := by decide +kernel
theorem dX9_choose_12 : decode cX9_choose 12 = .ok (.iload_n 1, 1) := by decide +kernel
theorem dX9_choose_13 : decode cX9_choose 13 = .ok (.iload 4, 2) := by decide +kernel
theorem dX9_choose_15 : decode cX9_choose 15 = .ok (.isub, 1) := by decide +kernel
theorem dX9_choose_16 : decode cX9_choose 16 = .ok (.invokevirtual 137, 3) := by decide +kernel
theorem dX9_choose_19 : decode cX9_choose 19 = .ok (.istore 5, 2) := by decide +kernel
theorem dX9_choose_21 : decode cX9_choose 21 = .ok (.iconst 0, 1) := by decide +kernel
theorem dX9_choose_22 : decode cX9_choose 22 = .ok (.istore 6, 2) := by decide +kernel
theorem dX9_choose_24 : decode cX9_choose 24 = .ok (.iload_n 3, 1) := by decide +kernel
theorem dX9_choose_25 : decode cX9_choose 25 = .ok (.iload 6, 2) := by decide +kernel
theorem dX9_choose_27 : decode cX9_choose 27 = .ok (.ishr, 1) := by decide +kernel
theorem dX9_choose_28 : decode cX9_choose 28 = .ok (.iconst 1, 1) := by decide +kernel
theorem dX9_choose_29 : decode cX9_choose 29 = .ok (.iand, 1) := by decide +kernel
theorem dX9_choose_30 : decode cX9_choose 30 = .ok (.iconst 1, 1) := by decide +kernel
theorem dX9_choose_31 : decode cX9_choose 31 = .ok (.if_icmp .eq 8, 3) := by decide +kernel
theorem dX9_choose_34 : decode cX9_choose 34 = .ok (.iload 5, 2) := by decide +kernel
theorem dX9_choose_36 : decode cX9_choose 36 = .ok (.ifCond .le 29, 3) := by decide +kernel
theorem dX9_choose_39 : decode cX9_choose 39 = .ok (.iload 5, 2) := by decide +kernel
theorem dX9_choose_41 : decode cX9_choose 41 = .ok (.iload_n 3, 1) := by decide +kernel
theorem dX9_choose_42 : decode cX9_choose 42 = .ok (.iload 6, 2) := by decide +kernel
theorem dX9_choose_44 : decode cX9_choose 44 = .ok (.ishr, 1) := by decide +kernel
theorem dX9_choose_45 : decode cX9_choose 45 = .ok (.iconst 1, 1) := by decide +kernel
theorem dX9_choose_46 : decode cX9_choose 46 = .ok (.iand, 1) := by decide +kernel
theorem dX9_choose_47 : decode cX9_choose 47 = .ok (.iconst 1, 1) := by decide +kernel
theorem dX9_choose_48 : decode cX9_choose 48 = .ok (.if_icmp .ne 7, 3) := by decide +kernel
theorem dX9_choose_51 : decode cX9_choose 51 = .ok (.iconst 0, 1) := by decide +kernel
theorem dX9_choose_52 : decode cX9_choose 52 = .ok (.goto 4, 3) := by decide +kernel
theorem dX9_choose_55 : decode cX9_choose 55 = .ok (.iconst 1, 1) := by decide +kernel
theorem dX9_choose_56 : decode cX9_choose 56 = .ok (.isub, 1) := by decide +kernel
theorem dX9_choose_57 : decode cX9_choose 57 = .ok (.istore 5, 2) := by decide +kernel
theorem dX9_choose_59 : decode cX9_choose 59 = .ok (.iinc 6 1, 3) := by decide +kernel
theorem dX9_choose_62 : decode cX9_choose 62 = .ok (.goto (-38), 3) := by decide +kernel
theorem dX9_choose_65 : decode cX9_choose 65 = .ok (.iload_n 3, 1) := by decide +kernel
theorem dX9_choose_66 : decode cX9_choose 66 = .ok (.iconst 1, 1) := by decide +kernel
theorem dX9_choose_67 : decode cX9_choose 67 = .ok (.iload 6, 2) := by decide +kernel
theorem dX9_choose_69 : decode cX9_choose 69 = .ok (.ishl, 1) := by decide +kernel
theorem dX9_choose_70 : decode cX9_choose 70 = .ok (.ior, 1) := by decide +kernel
theorem dX9_choose_71 : decode cX9_choose 71 = .ok (.istore_n 3, 1) := by decide +kernel
theorem dX9_choose_72 : decode cX9_choose 72 = .ok (.iinc 4 1, 3) := by decide +kernel
theorem dX9_choose_75 : decode cX9_choose 75 = .ok (.goto (-70), 3) := by decide +kernel
theorem dX9_choose_78 : decode cX9_choose 78 = .ok (.iconst 0, 1) := by decide +kernel
theorem dX9_choose_79 : decode cX9_choose 79 = .ok (.istore 4, 2) := by decide +kernel
theorem dX9_choose_81 : decode cX9_choose 81 = .ok (.iconst 0, 1) := by decide +kernel
theorem dX9_choose_82 : decode cX9_choose 82 = .ok (.istore 5, 2) := by decide +kernel
theorem dX9_choose_84 : decode cX9_choose 84 = .ok (.iload 5, 2) := by decide +kernel
theorem dX9_choose_86 : decode cX9_choose 86 = .ok (.iload_n 1, 1) := by decide +kernel
theorem dX9_choose_87 : decode cX9_choose 87 = .ok (.if_icmp .ge 31, 3) := by decide +kernel
theorem dX9_choose_90 : decode cX9_choose 90 = .ok (.iload_n 3, 1) := by decide +kernel
theorem dX9_choose_91 : decode cX9_choose 91 = .ok (.iload 5, 2) := by decide +kernel
theorem dX9_choose_93 : decode cX9_choose 93 = .ok (.ishr, 1) := by decide +kernel
theorem dX9_choose_94 : decode cX9_choose 94 = .ok (.iconst 1, 1) := by decide +kernel
theorem dX9_choose_95 : decode cX9_choose 95 = .ok (.iand, 1) := by decide +kernel
theorem dX9_choose_96 : decode cX9_choose 96 = .ok (.iconst 1, 1) := by decide +kernel
theorem dX9_choose_97 : decode cX9_choose 97 = .ok (.if_icmp .ne 15, 3) := by decide +kernel
theorem dX9_choose_100 : decode cX9_choose 100 = .ok (.aload_n 0, 1) := by decide +kernel
theorem dX9_choose_101 : decode cX9_choose 101 = .ok (.getfield 73, 3) := by decide +kernel
theorem dX9_choose_104 : decode cX9_choose 104 = .ok (.iload 4, 2) := by decide +kernel
theorem dX9_choose_106 : decode cX9_choose 106 = .ok (.iload 5, 2) := by decide +kernel
theorem dX9_choose_108 : decode cX9_choose 108 = .ok (.iastore, 1) := by decide +kernel
theorem dX9_choose_109 : decode cX9_choose 109 = .ok (.iinc 4 1, 3) := by decide +kernel
theorem dX9_choose_112 : decode cX9_choose 112 = .ok (.iinc 5 1, 3) := by decide +kernel
theorem dX9_choose_115 : decode cX9_choose 115 = .ok (.goto (-31), 3) := by decide +kernel
theorem dX9_choose_118 : decode cX9_choose 118 = .ok (.return_, 1) := by decide +kernel
set_option maxRecDepth 20000 in
theorem ggX9_truths_X9_all : GoodIn wsX9_truths wsX9_all := goodIn_r _ [7, 1, 2, 8, 9, 6, 10, 19, 20, 21, 22, 23, 24, 25, 26, 27, 28, 29, 30, 31, 32, 33, 34, 35, 36, 37, 38, 39, 40, 41, 42, 43, 44, 45, 46, 47, 48, 49, 50] (by decide +kernel) (by decide +kernel)
set_option maxRecDepth 20000 in
theorem gX9_truths_X9_all : GoodIn wsX9_truths (wsV RX9 141 RX9 yX9_all wsX9_all) := goodIn_app (goodIn_of _ (by decide +kernel)) ggX9_truths_X9_all
set_option maxRecDepth 20000 in
theorem ggX9_truths_X9_draw : GoodIn wsX9_truths wsX9_draw := goodIn_r _ [14, 15, 16, 17, 18, 19, 20, 21, 22, 23, 24, 25, 26, 27, 28, 29, 30, 31, 32, 33, 34, 35, 36, 37, 38, 39, 40, 41, 42, 43, 44, 45, 46, 47, 48, 49, 50] (by decide +kernel) (by decide +kernel)
set_option maxRecDepth 20000 in
theorem gX9_truths_X9_draw : GoodIn wsX9_truths (wsV RX9 137 RX9 yX9_draw wsX9_draw) := goodIn_app (goodIn_of _ (by decide +kernel)) ggX9_truths_X9_draw
set_option maxRecDepth 20000 in
theorem ggX9_truths_X9_ways : GoodIn wsX9_truths wsX9_ways := goodIn_r _ [10] (by decide +kernel) (by decide +kernel)
set_option maxRecDepth 20000 in
theorem gX9_truths_X9_ways : GoodIn wsX9_truths (va_wsS RX9 124 yX9_ways wsX9_ways) := goodIn_app (goodIn_of _ (by decide +kernel)) ggX9_truths_X9_ways
theorem dX9_truths_0 : decode cX9_truths 0 = .ok (.aload_n 0, 1) := by decide +kernel
theorem dX9_truths_1 : decode cX9_truths 1 = .ok (.getfield 22, 3) := by decide +kernel
theorem dX9_truths_4 : decode cX9_truths 4 = .ok (.iload_n 1, 1) := by decide +kernel
theorem dX9_truths_5 : decode cX9_truths 5 = .ok (.iaload, 1) := by decide +kernel
theorem dX9_truths_6 : decode cX9_truths 6 = .ok (.istore_n 2, 1) := by decide +kernel
theorem dX9_truths_7 : decode cX9_truths 7 = .ok (.aload_n 0, 1) := by decide +kernel
theorem dX9_truths_8 : decode cX9_truths 8 = .ok (.aload_n 0, 1) := by decide +kernel
theorem dX9_truths_9 : decode cX9_truths 9 = .ok (.iload_n 1, 1) := by decide +kernel
theorem dX9_truths_10 : decode cX9_truths 10 = .ok (.invokevirtual 141, 3) := by decide +kernel
theorem dX9_truths_13 : decode cX9_truths 13 = .ok (.invokevirtual 137, 3) := by decide +kernel
theorem dX9_truths_16 : decode cX9_truths 16 = .ok (.istore_n 3, 1) := by decide +kernel
theorem dX9_truths_17 : decode cX9_truths 17 = .ok (.iconst 0, 1) := by decide +kernel
theorem dX9_truths_18 : decode cX9_truths 18 = .ok (.istore 4, 2) := by decide +kernel
theorem dX9_truths_20 : decode cX9_truths 20 = .ok (.iload_n 3, 1) := by decide +kernel
theorem dX9_truths_21 : decode cX9_truths 21 = .ok (.aload_n 0, 1) := by decide +kernel
theorem dX9_truths_22 : decode cX9_truths 22 = .ok (.getfield 25, 3) := by decide +kernel
theorem dX9_truths_25 : decode cX9_truths 25 = .ok (.iconst 4, 1) := by decide +kernel
theorem dX9_truths_26 : decode cX9_truths 26 = .ok (.iload_n 1, 1) := by decide +kernel
theorem dX9_truths_27 : decode cX9_truths 27 = .ok (.imul, 1) := by decide +kernel
theorem dX9_truths_28 : decode cX9_truths 28 = .ok (.iload 4, 2) := by decide +kernel
theorem dX9_truths_30 : decode cX9_truths 30 = .ok (.iadd, 1) := by decide +kernel
theorem dX9_truths_31 : decode cX9_truths 31 = .ok (.iaload, 1) := by decide +kernel
theorem dX9_truths_32 : decode cX9_truths 32 = .ok (.iload 4, 2) := by decide +kernel
theorem dX9_truths_34 : decode cX9_truths 34 = .ok (.iload_n 2, 1) := by decide +kernel
theorem dX9_truths_35 : decode cX9_truths 35 = .ok (.invokestatic 124, 3) := by decide +kernel
theorem dX9_truths_38 : decode cX9_truths 38 = .ok (.imul, 1) := by decide +kernel
theorem dX9_truths_39 : decode cX9_truths 39 = .ok (.if_icmp .lt 30, 3) := by decide +kernel
theorem dX9_truths_42 : decode cX9_truths 42 = .ok (.iload_n 3, 1) := by decide +kernel
theorem dX9_truths_43 : decode cX9_truths 43 = .ok (.aload_n 0, 1) := by decide +kernel
theorem dX9_truths_44 : decode cX9_truths 44 = .ok (.getfield 25, 3) := by decide +kernel
theorem dX9_truths_47 : decode cX9_truths 47 = .ok (.iconst 4, 1) := by decide +kernel
theorem dX9_truths_48 : decode cX9_truths 48 = .ok (.iload_n 1, 1) := by decide +kernel
theorem dX9_truths_49 : decode cX9_truths 49 = .ok (.imul, 1) := by decide +kernel
theorem dX9_truths_50 : decode cX9_truths 50 = .ok (.iload 4, 2) := by decide +kernel
theorem dX9_truths_52 : decode cX9_truths 52 = .ok (.iadd, 1) := by decide +kernel
theorem dX9_truths_53 : decode cX9_truths 53 = .ok (.iaload, 1) := by decide +kernel
theorem dX9_truths_54 : decode cX9_truths 54 = .ok (.iload 4, 2) := by decide +kernel
theorem dX9_truths_56 : decode cX9_truths 56 = .ok (.iload_n 2, 1) := by decide +kernel
theorem dX9_truths_57 : decode cX9_truths 57 = .ok (.invokestatic 124, 3) := by decide +kernel
theorem dX9_truths_60 : decode cX9_truths 60 = .ok (.imul, 1) := by decide +kernel
theorem dX9_truths_61 : decode cX9_truths 61 = .ok (.isub, 1) := by decide +kernel
theorem dX9_truths_62 : decode cX9_truths 62 = .ok (.istore_n 3, 1) := by decide +kernel
theorem dX9_truths_63 : decode cX9_truths 63 = .ok (.iinc 4 1, 3) := by decide +kernel
theorem dX9_truths_66 : decode cX9_truths 66 = .ok (.goto (-46), 3) := by decide +kernel
theorem dX9_truths_69 : decode cX9_truths 69 = .ok (.iload_n 3, 1) := by decide +kernel
theorem dX9_truths_70 : decode cX9_truths 70 = .ok (.aload_n 0, 1) := by decide +kernel
theorem dX9_truths_71 : decode cX9_truths 71 = .ok (.getfield 25, 3) := by decide +kernel
theorem dX9_truths_74 : decode cX9_truths 74 = .ok (.iconst 4, 1) := by decide +kernel
theorem dX9_truths_75 : decode cX9_truths 75 = .ok (.iload_n 1, 1) := by decide +kernel
theorem dX9_truths_76 : decode cX9_truths 76 = .ok (.imul, 1) := by decide +kernel
theorem dX9_truths_77 : decode cX9_truths 77 = .ok (.iload 4, 2) := by decide +kernel
theorem dX9_truths_79 : decode cX9_truths 79 = .ok (.iadd, 1) := by decide +kernel
theorem dX9_truths_80 : decode cX9_truths 80 = .ok (.iaload, 1) := by decide +kernel
theorem dX9_truths_81 : decode cX9_truths 81 = .ok (.idiv, 1) := by decide +kernel
theorem dX9_truths_82 : decode cX9_truths 82 = .ok (.istore 5, 2) := by decide +kernel
theorem dX9_truths_84 : decode cX9_truths 84 = .ok (.iconst 1, 1) := by decide +kernel
theorem dX9_truths_85 : decode cX9_truths 85 = .ok (.iload_n 2, 1) := by decide +kernel
theorem dX9_truths_86 : decode cX9_truths 86 = .ok (.ishl, 1) := by decide +kernel
theorem dX9_truths_87 : decode cX9_truths 87 = .ok (.iconst 1, 1) := by decide +kernel
theorem dX9_truths_88 : decode cX9_truths 88 = .ok (.isub, 1) := by decide +kernel
theorem dX9_truths_89 : decode cX9_truths 89 = .ok (.istore 6, 2) := by decide +kernel
theorem dX9_truths_91 : decode cX9_truths 91 = .ok (.iload 4, 2) := by decide +kernel
theorem dX9_truths_93 : decode cX9_truths 93 = .ok (.ifCond .ne 7, 3) := by decide +kernel
theorem dX9_truths_96 : decode cX9_truths 96 = .ok (.iconst 0, 1) := by decide +kernel
theorem dX9_truths_97 : decode cX9_truths 97 = .ok (.goto 36, 3) := by decide +kernel
theorem dX9_truths_100 : decode cX9_truths 100 = .ok (.iload 4, 2) := by decide +kernel
theorem dX9_truths_102 : decode cX9_truths 102 = .ok (.iload_n 2, 1) := by decide +kernel
theorem dX9_truths_103 : decode cX9_truths 103 = .ok (.if_icmp .ne 8, 3) := by decide +kernel
theorem dX9_truths_106 : decode cX9_truths 106 = .ok (.iload 6, 2) := by decide +kernel
theorem dX9_truths_108 : decode cX9_truths 108 = .ok (.goto 25, 3) := by decide +kernel
theorem dX9_truths_111 : decode cX9_truths 111 = .ok (.iload 4, 2) := by decide +kernel
theorem dX9_truths_113 : decode cX9_truths 113 = .ok (.iconst 1, 1) := by decide +kernel
theorem dX9_truths_114 : decode cX9_truths 114 = .ok (.if_icmp .ne 10, 3) := by decide +kernel
theorem dX9_truths_117 : decode cX9_truths 117 = .ok (.iconst 1, 1) := by decide +kernel
theorem dX9_truths_118 : decode cX9_truths 118 = .ok (.iload 5, 2) := by decide +kernel
theorem dX9_truths_120 : decode cX9_truths 120 = .ok (.ishl, 1) := by decide +kernel
theorem dX9_truths_121 : decode cX9_truths 121 = .ok (.goto 12, 3) := by decide +kernel
theorem dX9_truths_124 : decode cX9_truths 124 = .ok (.iload 6, 2) := by decide +kernel
theorem dX9_truths_126 : decode cX9_truths 126 = .ok (.iconst 1, 1) := by decide +kernel
theorem dX9_truths_127 : decode cX9_truths 127 = .ok (.iload 5, 2) := by decide +kernel
theorem dX9_truths_129 : decode cX9_truths 129 = .ok (.ishl, 1) := by decide +kernel
theorem dX9_truths_130 : decode cX9_truths 130 = .ok (.iconst (-1), 1) := by decide +kernel
theorem dX9_truths_131 : decode cX9_truths 131 = .ok (.ixor, 1) := by decide +kernel
theorem dX9_truths_132 : decode cX9_truths 132 = .ok (.iand, 1) := by decide +kernel
theorem dX9_truths_133 : decode cX9_truths 133 = .ok (.ireturn, 1) := by decide +kernel
set_option maxRecDepth 20000 in
theorem ggX9_makes_X9_draw : GoodIn wsX9_makes wsX9_draw := goodIn_r _ [19, 1, 20, 21, 22, 39, 40, 41, 42, 43, 44, 45, 46, 47, 48, 49, 50, 51, 52, 53, 54, 55, 56, 57, 58, 59, 60, 61, 62, 63, 64, 65, 66, 67, 68, 69, 70] (by decide +kernel) (by decide +kernel)
set_option maxRecDepth 20000 in
theorem gX9_makes_X9_draw : GoodIn wsX9_makes (wsV RX9 137 RX9 yX9_draw wsX9_draw) := goodIn_app (goodIn_of _ (by decide +kernel)) ggX9_makes_X9_draw
set_option maxRecDepth 20000 in
theorem ggX9_makes_X9_choose : GoodIn wsX9_makes wsX9_choose := goodIn_r _ [26, 12, 15, 16, 17, 18, 19, 1, 20, 21, 22, 39, 40, 41, 42, 43, 44, 45, 46, 47, 48, 49, 50, 51, 52, 53, 54, 55, 56, 57, 58, 59, 60, 61, 62, 63, 64, 65, 66, 67, 68, 69, 70] (by decide +kernel) (by decide +kernel)
set_option maxRecDepth 20000 in
theorem gX9_makes_X9_choose : GoodIn wsX9_makes (wsV RX9 144 RX9 yX9_choose wsX9_choose) := goodIn_app (goodIn_of _ (by decide +kernel)) ggX9_makes_X9_choose
set_option maxRecDepth 20000 in
theorem ggX9_makes_X9_truths : GoodIn wsX9_makes wsX9_truths := goodIn_r _ [30, 11, 31, 32, 33, 34, 18, 35, 36, 37, 38, 15, 16, 17, 19, 1, 20, 21, 22, 39, 40, 41, 42, 43, 44, 45, 46, 47, 48, 49, 50, 51, 52, 53, 54, 55, 56, 57, 58, 59, 60, 61, 62, 63, 64, 65, 66, 67, 68, 69, 70] (by decide +kernel) (by decide +kernel)
set_option maxRecDepth 20000 in
theorem gX9_makes_X9_truths : GoodIn wsX9_makes (wsV RX9 148 RX9 yX9_truths wsX9_truths) := goodIn_app (goodIn_of _ (by decide +kernel)) ggX9_makes_X9_truths
theorem dX9_makes_0 : decode cX9_makes 0 = .ok (.aload_n 0, 1) := by decide +kernel
theorem dX9_makes_1 : decode cX9_makes 1 = .ok (.iload_n 3, 1) := by decide +kernel
theorem dX9_makes_2 : decode cX9_makes 2 = .ok (.iconst 1, 1) := by decide +kernel
theorem dX9_makes_3 : decode cX9_makes 3 = .ok (.iadd, 1) := by decide +kernel
theorem dX9_makes_4 : decode cX9_makes 4 = .ok (.i2l, 1) := by decide +kernel
theorem dX9_makes_5 : decode cX9_makes 5 = .ok (.putfield 127, 3) := by decide +kernel
theorem dX9_makes_8 : decode cX9_makes 8 = .ok (.aload_n 0, 1) := by decide +kernel
theorem dX9_makes_9 : decode cX9_makes 9 = .ok (.getfield 28, 3) := by decide +kernel
theorem dX9_makes_12 : decode cX9_makes 12 = .ok (.iload_n 1, 1) := by decide +kernel
theorem dX9_makes_13 : decode cX9_makes 13 = .ok (.aload_n 0, 1) := by decide +kernel
theorem dX9_makes_14 : decode cX9_makes 14 = .ok (.getfield 13, 3) := by decide +kernel
theorem dX9_makes_17 : decode cX9_makes 17 = .ok (.iload_n 2, 1) := by decide +kernel
theorem dX9_makes_18 : decode cX9_makes 18 = .ok (.iaload, 1) := by decide +kernel
theorem dX9_makes_19 : decode cX9_makes 19 = .ok (.iastore, 1) := by decide +kernel
theorem dX9_makes_20 : decode cX9_makes 20 = .ok (.aload_n 0, 1) := by decide +kernel
theorem dX9_makes_21 : decode cX9_makes 21 = .ok (.getfield 31, 3) := by decide +kernel
theorem dX9_makes_24 : decode cX9_makes 24 = .ok (.iload_n 1, 1) := by decide +kernel
theorem dX9_makes_25 : decode cX9_makes 25 = .ok (.aload_n 0, 1) := by decide +kernel
theorem dX9_makes_26 : decode cX9_makes 26 = .ok (.getfield 16, 3) := by decide +kernel
theorem dX9_makes_29 : decode cX9_makes 29 = .ok (.iload_n 2, 1) := by decide +kernel
theorem dX9_makes_30 : decode cX9_makes 30 = .ok (.iaload, 1) := by decide +kernel
theorem dX9_makes_31 : decode cX9_makes 31 = .ok (.iastore, 1) := by decide +kernel
theorem dX9_makes_32 : decode cX9_makes 32 = .ok (.aload_n 0, 1) := by decide +kernel
theorem dX9_makes_33 : decode cX9_makes 33 = .ok (.getfield 34, 3) := by decide +kernel
theorem dX9_makes_36 : decode cX9_makes 36 = .ok (.iload_n 1, 1) := by decide +kernel
theorem dX9_makes_37 : decode cX9_makes 37 = .ok (.aload_n 0, 1) := by decide +kernel
theorem dX9_makes_38 : decode cX9_makes 38 = .ok (.getfield 19, 3) := by decide +kernel
theorem dX9_makes_41 : decode cX9_makes 41 = .ok (.iload_n 2, 1) := by decide +kernel
theorem dX9_makes_42 : decode cX9_makes 42 = .ok (.iaload, 1) := by decide +kernel
theorem dX9_makes_43 : decode cX9_makes 43 = .ok (.iastore, 1) := by decide +kernel
theorem dX9_makes_44 : decode cX9_makes 44 = .ok (.aload_n 0, 1) := by decide +kernel
theorem dX9_makes_45 : decode cX9_makes 45 = .ok (.getfield 40, 3) := by decide +kernel
theorem dX9_makes_48 : decode cX9_makes 48 = .ok (.iload_n 1, 1) := by decide +kernel
theorem dX9_makes_49 : decode cX9_makes 49 = .ok (.iload_n 2, 1) := by decide +kernel
theorem dX9_makes_50 : decode cX9_makes 50 = .ok (.iastore, 1) := by decide +kernel
theorem dX9_makes_51 : decode cX9_makes 51 = .ok (.aload_n 0, 1) := by decide +kernel
theorem dX9_makes_52 : decode cX9_makes 52 = .ok (.getfield 43, 3) := by decide +kernel
theorem dX9_makes_55 : decode cX9_makes 55 = .ok (.iload_n 1, 1) := by decide +kernel
theorem dX9_makes_56 : decode cX9_makes 56 = .ok (.iload_n 3, 1) := by decide +kernel
theorem dX9_makes_57 : decode cX9_makes 57 = .ok (.iastore, 1) := by decide +kernel
theorem dX9_makes_58 : decode cX9_makes 58 = .ok (.iconst 0, 1) := by decide +kernel
theorem dX9_makes_59 : decode cX9_makes 59 = .ok (.istore 4, 2) := by decide +kernel
theorem dX9_makes_61 : decode cX9_makes 61 = .ok (.iconst 0, 1) := by decide +kernel
theorem dX9_makes_62 : decode cX9_makes 62 = .ok (.istore 5, 2) := by decide +kernel
theorem dX9_makes_64 : decode cX9_makes 64 = .ok (.iload 5, 2) := by decide +kernel
theorem dX9_makes_66 : decode cX9_makes 66 = .ok (.aload_n 0, 1) := by decide +kernel
theorem dX9_makes_67 : decode cX9_makes 67 = .ok (.getfield 31, 3) := by decide +kernel
theorem dX9_makes_70 : decode cX9_makes 70 = .ok (.iload_n 1, 1) := by decide +kernel
theorem dX9_makes_71 : decode cX9_makes 71 = .ok (.iaload, 1) := by decide +kernel
theorem dX9_makes_72 : decode cX9_makes 72 = .ok (.if_icmp .ge 22, 3) := by decide +kernel
theorem dX9_makes_75 : decode cX9_makes 75 = .ok (.iload 4, 2) := by decide +kernel
theorem dX9_makes_77 : decode cX9_makes 77 = .ok (.aload_n 0, 1) := by decide +kernel
theorem dX9_makes_78 : decode cX9_makes 78 = .ok (.iconst 2, 1) := by decide +kernel
theorem dX9_makes_79 : decode cX9_makes 79 = .ok (.invokevirtual 137, 3) := by decide +kernel
theorem dX9_makes_82 : decode cX9_makes 82 = .ok (.iload 5, 2) := by decide +kernel
theorem dX9_makes_84 : decode cX9_makes 84 = .ok (.ishl, 1) := by decide +kernel
theorem dX9_makes_85 : decode cX9_makes 85 = .ok (.ior, 1) := by decide +kernel
theorem dX9_makes_86 : decode cX9_makes 86 = .ok (.istore 4, 2) := by decide +kernel
theorem dX9_makes_88 : decode cX9_makes 88 = .ok (.iinc 5 1, 3) := by decide +kernel
theorem dX9_makes_91 : decode cX9_makes 91 = .ok (.goto (-27), 3) := by decide +kernel
theorem dX9_makes_94 : decode cX9_makes 94 = .ok (.aload_n 0, 1) := by decide +kernel
theorem dX9_makes_95 : decode cX9_makes 95 = .ok (.getfield 37, 3) := by decide +kernel
theorem dX9_makes_98 : decode cX9_makes 98 = .ok (.iload_n 1, 1) := by decide +kernel
theorem dX9_makes_99 : decode cX9_makes 99 = .ok (.iload 4, 2) := by decide +kernel
theorem dX9_makes_101 : decode cX9_makes 101 = .ok (.iastore, 1) := by decide +kernel
theorem dX9_makes_102 : decode cX9_makes 102 = .ok (.iconst 0, 1) := by decide +kernel
theorem dX9_makes_103 : decode cX9_makes 103 = .ok (.istore 5, 2) := by decide +kernel
theorem dX9_makes_105 : decode cX9_makes 105 = .ok (.iload 5, 2) := by decide +kernel
theorem dX9_makes_107 : decode cX9_makes 107 = .ok (.aload_n 0, 1) := by decide +kernel
theorem dX9_makes_108 : decode cX9_makes 108 = .ok (.getfield 34, 3) := by decide +kernel
theorem dX9_makes_111 : decode cX9_makes 111 = .ok (.iload_n 1, 1) := by decide +kernel
theorem dX9_makes_112 : decode cX9_makes 112 = .ok (.iaload, 1) := by decide +kernel
theorem dX9_makes_113 : decode cX9_makes 113 = .ok (.if_icmp .ge 161, 3) := by decide +kernel
theorem dX9_makes_116 : decode cX9_makes 116 = .ok (.aload_n 0, 1) := by decide +kernel
theorem dX9_makes_117 : decode cX9_makes 117 = .ok (.aload_n 0, 1) := by decide +kernel
theorem dX9_makes_118 : decode cX9_makes 118 = .ok (.getfield 31, 3) := by decide +kernel
theorem dX9_makes_121 : decode cX9_makes 121 = .ok (.iload_n 1, 1) := by decide +kernel
theorem dX9_makes_122 : decode cX9_makes 122 = .ok (.iaload, 1) := by decide +kernel
theorem dX9_makes_123 : decode cX9_makes 123 = .ok (.aload_n 0, 1) := by decide +kernel
theorem dX9_makes_124 : decode cX9_makes 124 = .ok (.getfield 22, 3) := by decide +kernel
theorem dX9_makes_127 : decode cX9_makes 127 = .ok (.iload_n 2, 1) := by decide +kernel
theorem dX9_makes_128 : decode cX9_makes 128 = .ok (.iaload, 1) := by decide +kernel
theorem dX9_makes_129 : decode cX9_makes 129 = .ok (.invokevirtual 144, 3) := by decide +kernel
theorem dX9_makes_132 : decode cX9_makes 132 = .ok (.aload_n 0, 1) := by decide +kernel
theorem dX9_makes_133 : decode cX9_makes 133 = .ok (.iload_n 2, 1) := by decide +kernel
theorem dX9_makes_134 : decode cX9_makes 134 = .ok (.invokevirtual 148, 3) := by decide +kernel
theorem dX9_makes_137 : decode cX9_makes 137 = .ok (.istore 6, 2) := by decide +kernel
theorem dX9_makes_139 : decode cX9_makes 139 = .ok (.iconst 0, 1) := by decide +kernel
theorem dX9_makes_140 : decode cX9_makes 140 = .ok (.istore 7, 2) := by decide +kernel
theorem dX9_makes_142 : decode cX9_makes 142 = .ok (.iconst 0, 1) := by decide +kernel
theorem dX9_makes_143 : decode cX9_makes 143 = .ok (.istore 8, 2) := by decide +kernel
theorem dX9_makes_145 : decode cX9_makes 145 = .ok (.iconst 0, 1) := by decide +kernel
theorem dX9_makes_146 : decode cX9_makes 146 = .ok (.istore 9, 2) := by decide +kernel
theorem dX9_makes_148 : decode cX9_makes 148 = .ok (.iload 9, 2) := by decide +kernel
theorem dX9_makes_150 : decode cX9_makes 150 = .ok (.aload_n 0, 1) := by decide +kernel
theorem dX9_makes_151 : decode cX9_makes 151 = .ok (.getfield 22, 3) := by decide +kernel
theorem dX9_makes_154 : decode cX9_makes 154 = .ok (.iload_n 2, 1) := by decide +kernel
theorem dX9_makes_155 : decode cX9_makes 155 = .ok (.iaload, 1) := by decide +kernel
theorem dX9_makes_156 : decode cX9_makes 156 = .ok (.if_icmp .ge 84, 3) := by decide +kernel
theorem dX9_makes_159 : decode cX9_makes 159 = .ok (.iload 6, 2) := by decide +kernel
theorem dX9_makes_161 : decode cX9_makes 161 = .ok (.iload 9, 2) := by decide +kernel
theorem dX9_makes_163 : decode cX9_makes 163 = .ok (.ishr, 1) := by decide +kernel
theorem dX9_makes_164 : decode cX9_makes 164 = .ok (.iconst 1, 1) := by decide +kernel
theorem dX9_makes_165 : decode cX9_makes 165 = .ok (.iand, 1) := by decide +kernel
theorem dX9_makes_166 : decode cX9_makes 166 = .ok (.iload 4, 2) := by decide +kernel
theorem dX9_makes_168 : decode cX9_makes 168 = .ok (.aload_n 0, 1) := by decide +kernel
theorem dX9_makes_169 : decode cX9_makes 169 = .ok (.getfield 73, 3) := by decide +kernel
theorem dX9_makes_172 : decode cX9_makes 172 = .ok (.iload 9, 2) := by decide +kernel
theorem dX9_makes_174 : decode cX9_makes 174 = .ok (.iaload, 1) := by decide +kernel
theorem dX9_makes_175 : decode cX9_makes 175 = .ok (.ishr, 1) := by decide +kernel
theorem dX9_makes_176 : decode cX9_makes 176 = .ok (.iconst 1, 1) := by decide +kernel
theorem dX9_makes_177 : decode cX9_makes 177 = .ok (.iand, 1) := by decide +kernel
theorem dX9_makes_178 : decode cX9_makes 178 = .ok (.if_icmp .ne 7, 3) := by decide +kernel
theorem dX9_makes_181 : decode cX9_makes 181 = .ok (.iconst 1, 1) := by decide +kernel
theorem dX9_makes_182 : decode cX9_makes 182 = .ok (.goto 4, 3) := by decide +kernel
theorem dX9_makes_185 : decode cX9_makes 185 = .ok (.iconst 0, 1) := by decide +kernel
theorem dX9_makes_186 : decode cX9_makes 186 = .ok (.istore 10, 2) := by decide +kernel
theorem dX9_makes_188 : decode cX9_makes 188 = .ok (.iload 7, 2) := by decide +kernel
theorem dX9_makes_190 : decode cX9_makes 190 = .ok (.iload 10, 2) := by decide +kernel
theorem dX9_makes_192 : decode cX9_makes 192 = .ok (.ifCond .eq 15, 3) := by decide +kernel
theorem dX9_makes_195 : decode cX9_makes 195 = .ok (.iconst 1, 1) := by decide +kernel
theorem dX9_makes_196 : decode cX9_makes 196 = .ok (.aload_n 0, 1) := by decide +kernel
theorem dX9_makes_197 : decode cX9_makes 197 = .ok (.getfield 73, 3) := by decide +kernel
theorem dX9_makes_200 : decode cX9_makes 200 = .ok (.iload 9, 2) := by decide +kernel
theorem dX9_makes_202 : decode cX9_makes 202 = .ok (.iaload, 1) := by decide +kernel
theorem dX9_makes_203 : decode cX9_makes 203 = .ok (.ishl, 1) := by decide +kernel
theorem dX9_makes_204 : decode cX9_makes 204 = .ok (.goto 4, 3) := by decide +kernel
theorem dX9_makes_207 : decode cX9_makes 207 = .ok (.iconst 0, 1) := by decide +kernel
theorem dX9_makes_208 : decode cX9_makes 208 = .ok (.ior, 1) := by decide +kernel
theorem dX9_makes_209 : decode cX9_makes 209 = .ok (.istore 7, 2) := by decide +kernel
theorem dX9_makes_211 : decode cX9_makes 211 = .ok (.iload 8, 2) := by decide +kernel
theorem dX9_makes_213 : decode cX9_makes 213 = .ok (.iload 10, 2) := by decide +kernel
theorem dX9_makes_215 : decode cX9_makes 215 = .ok (.ifCond .eq 7, 3) := by decide +kernel
theorem dX9_makes_218 : decode cX9_makes 218 = .ok (.iconst 0, 1) := by decide +kernel
theorem dX9_makes_219 : decode cX9_makes 219 = .ok (.goto 12, 3) := by decide +kernel
theorem dX9_makes_222 : decode cX9_makes 222 = .ok (.iconst 1, 1) := by decide +kernel
theorem dX9_makes_223 : decode cX9_makes 223 = .ok (.aload_n 0, 1) := by decide +kernel
theorem dX9_makes_224 : decode cX9_makes 224 = .ok (.getfield 73, 3) := by decide +kernel
theorem dX9_makes_227 : decode cX9_makes 227 = .ok (.iload 9, 2) := by decide +kernel
theorem dX9_makes_229 : decode cX9_makes 229 = .ok (.iaload, 1) := by decide +kernel
theorem dX9_makes_230 : decode cX9_makes 230 = .ok (.ishl, 1) := by decide +kernel
theorem dX9_makes_231 : decode cX9_makes 231 = .ok (.ior, 1) := by decide +kernel
theorem dX9_makes_232 : decode cX9_makes 232 = .ok (.istore 8, 2) := by decide +kernel
theorem dX9_makes_234 : decode cX9_makes 234 = .ok (.iinc 9 1, 3) := by decide +kernel
theorem dX9_makes_237 : decode cX9_makes 237 = .ok (.goto (-89), 3) := by decide +kernel
theorem dX9_makes_240 : decode cX9_makes 240 = .ok (.aload_n 0, 1) := by decide +kernel
theorem dX9_makes_241 : decode cX9_makes 241 = .ok (.getfield 46, 3) := by decide +kernel
theorem dX9_makes_244 : decode cX9_makes 244 = .ok (.bipush 24, 2) := by decide +kernel
theorem dX9_makes_246 : decode cX9_makes 246 = .ok (.iload_n 1, 1) := by decide +kernel
theorem dX9_makes_247 : decode cX9_makes 247 = .ok (.imul, 1) := by decide +kernel
theorem dX9_makes_248 : decode cX9_makes 248 = .ok (.iload 5, 2) := by decide +kernel
theorem dX9_makes_250 : decode cX9_makes 250 = .ok (.iadd, 1) := by decide +kernel
theorem dX9_makes_251 : decode cX9_makes 251 = .ok (.iload 7, 2) := by decide +kernel
theorem dX9_makes_253 : decode cX9_makes 253 = .ok (.iastore, 1) := by decide +kernel
theorem dX9_makes_254 : decode cX9_makes 254 = .ok (.aload_n 0, 1) := by decide +kernel
theorem dX9_makes_255 : decode cX9_makes 255 = .ok (.getfield 49, 3) := by decide +kernel
theorem dX9_makes_258 : decode cX9_makes 258 = .ok (.bipush 24, 2) := by decide +kernel
theorem dX9_makes_260 : decode cX9_makes 260 = .ok (.iload_n 1, 1) := by decide +kernel
theorem dX9_makes_261 : decode cX9_makes 261 = .ok (.imul, 1) := by decide +kernel
theorem dX9_makes_262 : decode cX9_makes 262 = .ok (.iload 5, 2) := by decide +kernel
theorem dX9_makes_264 : decode cX9_makes 264 = .ok (.iadd, 1) := by decide +kernel
theorem dX9_makes_265 : decode cX9_makes 265 = .ok (.iload 8, 2) := by decide +kernel
theorem dX9_makes_267 : decode cX9_makes 267 = .ok (.iastore, 1) := by decide +kernel
theorem dX9_makes_268 : decode cX9_makes 268 = .ok (.iinc 5 1, 3) := by decide +kernel
theorem dX9_makes_271 : decode cX9_makes 271 = .ok (.goto (-166), 3) := by decide +kernel
theorem dX9_makes_274 : decode cX9_makes 274 = .ok (.return_, 1) := by decide +kernel
set_option maxRecDepth 20000 in
theorem ggX9_make_X9_isRecipe : GoodIn wsX9_make wsX9_isRecipe := goodIn_r _ [7, 8, 9, 10, 6, 11, 53, 54, 55, 56, 57, 58, 59, 60, 61, 62, 63, 64, 65, 66, 67, 68, 69, 70, 71, 72, 73, 74, 75, 76, 77, 78, 79, 80, 81, 82, 83, 84] (by decide +kernel) (by decide +kernel)
set_option maxRecDepth 20000 in
theorem gX9_make_X9_isRecipe : GoodIn wsX9_make (wsV RX9 121 RX9 yX9_isRecipe wsX9_isRecipe) := goodIn_app (goodIn_of _ (by decide +kernel)) ggX9_make_X9_isRecipe
set_option maxRecDepth 20000 in
theorem ggX9_make_X9_in : GoodIn wsX9_make wsX9_in := goodIn_r _ [11] (by decide +kernel) (by decide +kernel)
set_option maxRecDepth 20000 in
theorem gX9_make_X9_in : GoodIn wsX9_make (va_wsS RX9 83 yX9_in wsX9_in) := goodIn_app (goodIn_of _ (by decide +kernel)) ggX9_make_X9_in
set_option maxRecDepth 20000 in
theorem ggX9_make_X9_makes : GoodIn wsX9_make wsX9_makes := goodIn_r _ [15, 16, 17, 18, 19, 20, 21, 22, 23, 24, 25, 26, 27, 28, 29, 30, 31, 32, 6, 33, 34, 35, 36, 37, 38, 39, 40, 41, 42, 43, 44, 45, 46, 47, 48, 49, 50, 51, 52, 53, 54, 55, 56, 57, 58, 59, 60, 61, 62, 63, 64, 65, 66, 67, 68, 69, 70, 71, 72, 73, 74, 75, 76, 77, 78, 79, 80, 81, 82, 83, 84] (by decide +kernel) (by decide +kernel)
set_option maxRecDepth 20000 in
theorem gX9_make_X9_makes : GoodIn wsX9_make (wsV RX9 155 RX9 yX9_makes wsX9_makes) := goodIn_app (goodIn_of _ (by decide +kernel)) ggX9_make_X9_makes
theorem dX9_make_0 : decode cX9_make 0 = .ok (.aload_n 0, 1) := by decide +kernel
theorem dX9_make_1 : decode cX9_make 1 = .ok (.iload_n 1, 1) := by decide +kernel
theorem dX9_make_2 : decode cX9_make 2 = .ok (.invokevirtual 121, 3) := by decide +kernel
theorem dX9_make_5 : decode cX9_make 5 = .ok (.ifCond .ne 5, 3) := by decide +kernel
theorem dX9_make_8 : decode cX9_make 8 = .ok (.iconst (-1), 1) := by decide +kernel
theorem dX9_make_9 : decode cX9_make 9 = .ok (.ireturn, 1) := by decide +kernel
theorem dX9_make_10 : decode cX9_make 10 = .ok (.iload_n 2, 1) := by decide +kernel
theorem dX9_make_11 : decode cX9_make 11 = .ok (.iconst 0, 1) := by decide +kernel
theorem dX9_make_12 : decode cX9_make 12 = .ok (.ldc 151, 2) := by decide +kernel
theorem dX9_make_14 : decode cX9_make 14 = .ok (.invokestatic 83, 3) := by decide +kernel
theorem dX9_make_17 : decode cX9_make 17 = .ok (.ifCond .ne 6, 3) := by decide +kernel
theorem dX9_make_20 : decode cX9_make 20 = .ok (.bipush (-2), 2) := by decide +kernel
theorem dX9_make_22 : decode cX9_make 22 = .ok (.ireturn, 1) := by decide +kernel
theorem dX9_make_23 : decode cX9_make 23 = .ok (.aload_n 0, 1) := by decide +kernel
theorem dX9_make_24 : decode cX9_make 24 = .ok (.getfield 152, 3) := by decide +kernel
theorem dX9_make_27 : decode cX9_make 27 = .ok (.bipush 8, 2) := by decide +kernel
theorem dX9_make_29 : decode cX9_make 29 = .ok (.if_icmp .ne 6, 3) := by decide +kernel
theorem dX9_make_32 : decode cX9_make 32 = .ok (.bipush (-4), 2) := by decide +kernel
theorem dX9_make_34 : decode cX9_make 34 = .ok (.ireturn, 1) := by decide +kernel
theorem dX9_make_35 : decode cX9_make 35 = .ok (.aload_n 0, 1) := by decide +kernel
theorem dX9_make_36 : decode cX9_make 36 = .ok (.aload_n 0, 1) := by decide +kernel
theorem dX9_make_37 : decode cX9_make 37 = .ok (.getfield 152, 3) := by decide +kernel
theorem dX9_make_40 : decode cX9_make 40 = .ok (.iload_n 1, 1) := by decide +kernel
theorem dX9_make_41 : decode cX9_make 41 = .ok (.iload_n 2, 1) := by decide +kernel
theorem dX9_make_42 : decode cX9_make 42 = .ok (.invokevirtual 155, 3) := by decide +kernel
theorem dX9_make_45 : decode cX9_make 45 = .ok (.aload_n 0, 1) := by decide +kernel
theorem dX9_make_46 : decode cX9_make 46 = .ok (.dup, 1) := by decide +kernel
theorem dX9_make_47 : decode cX9_make 47 = .ok (.getfield 152, 3) := by decide +kernel
theorem dX9_make_50 : decode cX9_make 50 = .ok (.iconst 1, 1) := by decide +kernel
theorem dX9_make_51 : decode cX9_make 51 = .ok (.iadd, 1) := by decide +kernel
theorem dX9_make_52 : decode cX9_make 52 = .ok (.putfield 152, 3) := by decide +kernel
theorem dX9_make_55 : decode cX9_make 55 = .ok (.aload_n 0, 1) := by decide +kernel
theorem dX9_make_56 : decode cX9_make 56 = .ok (.getfield 152, 3) := by decide +kernel
theorem dX9_make_59 : decode cX9_make 59 = .ok (.iconst 1, 1) := by decide +kernel
theorem dX9_make_60 : decode cX9_make 60 = .ok (.isub, 1) := by decide +kernel
theorem dX9_make_61 : decode cX9_make 61 = .ok (.ireturn, 1) := by decide +kernel
set_option maxRecDepth 20000 in
theorem ggX9_wild_X9_in : GoodIn wsX9_wild wsX9_in := goodIn_r _ [16] (by decide +kernel) (by decide +kernel)
set_option maxRecDepth 20000 in
theorem gX9_wild_X9_in : GoodIn wsX9_wild (va_wsS RX9 83 yX9_in wsX9_in) := goodIn_app (goodIn_of _ (by decide +kernel)) ggX9_wild_X9_in
set_option maxRecDepth 20000 in
theorem ggX9_wild_X9_ones : GoodIn wsX9_wild wsX9_ones := goodIn_r _ [19] (by decide +kernel) (by decide +kernel)
set_option maxRecDepth 20000 in
theorem gX9_wild_X9_ones : GoodIn wsX9_wild (va_wsS RX9 159 yX9_ones wsX9_ones) := goodIn_app (goodIn_of _ (by decide +kernel)) ggX9_wild_X9_ones
theorem dX9_wild_0 : decode cX9_wild 0 = .ok (.iload_n 3, 1) := by decide +kernel
theorem dX9_wild_1 : decode cX9_wild 1 = .ok (.iconst 0, 1) := by decide +kernel
theorem dX9_wild_2 : decode cX9_wild 2 = .ok (.iconst 3, 1) := by decide +kernel
theorem dX9_wild_3 : decode cX9_wild 3 = .ok (.invokestatic 83, 3) := by decide +kernel
theorem dX9_wild_6 : decode cX9_wild 6 = .ok (.ifCond .ne 5, 3) := by decide +kernel
theorem dX9_wild_9 : decode cX9_wild 9 = .ok (.iconst (-1), 1) := by decide +kernel
theorem dX9_wild_10 : decode cX9_wild 10 = .ok (.ireturn, 1) := by decide +kernel
theorem dX9_wild_11 : decode cX9_wild 11 = .ok (.iload_n 1, 1) := by decide +kernel
theorem dX9_wild_12 : decode cX9_wild 12 = .ok (.iconst 0, 1) := by decide +kernel
theorem dX9_wild_13 : decode cX9_wild 13 = .ok (.iconst 5, 1) := by decide +kernel
theorem dX9_wild_14 : decode cX9_wild 14 = .ok (.invokestatic 83, 3) := by decide +kernel
theorem dX9_wild_17 : decode cX9_wild 17 = .ok (.ifCond .eq 13, 3) := by decide +kernel
theorem dX9_wild_20 : decode cX9_wild 20 = .ok (.iload_n 2, 1) := by decide +kernel
theorem dX9_wild_21 : decode cX9_wild 21 = .ok (.iconst 1, 1) := by decide +kernel
theorem dX9_wild_22 : decode cX9_wild 22 = .ok (.bipush 10, 2) := by decide +kernel
theorem dX9_wild_24 : decode cX9_wild 24 = .ok (.invokestatic 83, 3) := by decide +kernel
theorem dX9_wild_27 : decode cX9_wild 27 = .ok (.ifCond .ne 6, 3) := by decide +kernel
theorem dX9_wild_30 : decode cX9_wild 30 = .ok (.bipush (-2), 2) := by decide +kernel
theorem dX9_wild_32 : decode cX9_wild 32 = .ok (.ireturn, 1) := by decide +kernel
theorem dX9_wild_33 : decode cX9_wild 33 = .ok (.aload_n 0, 1) := by decide +kernel
theorem dX9_wild_34 : decode cX9_wild 34 = .ok (.getfield 64, 3) := by decide +kernel
theorem dX9_wild_37 : decode cX9_wild 37 = .ok (.iload_n 3, 1) := by decide +kernel
theorem dX9_wild_38 : decode cX9_wild 38 = .ok (.iaload, 1) := by decide +kernel
theorem dX9_wild_39 : decode cX9_wild 39 = .ok (.iconst (-1), 1) := by decide +kernel
theorem dX9_wild_40 : decode cX9_wild 40 = .ok (.if_icmp .ne 6, 3) := by decide +kernel
theorem dX9_wild_43 : decode cX9_wild 43 = .ok (.bipush (-11), 2) := by decide +kernel
theorem dX9_wild_45 : decode cX9_wild 45 = .ok (.ireturn, 1) := by decide +kernel
theorem dX9_wild_46 : decode cX9_wild 46 = .ok (.aload_n 0, 1) := by decide +kernel
theorem dX9_wild_47 : decode cX9_wild 47 = .ok (.getfield 67, 3) := by decide +kernel
theorem dX9_wild_50 : decode cX9_wild 50 = .ok (.iload_n 3, 1) := by decide +kernel
theorem dX9_wild_51 : decode cX9_wild 51 = .ok (.iaload, 1) := by decide +kernel
theorem dX9_wild_52 : decode cX9_wild 52 = .ok (.iconst 2, 1) := by decide +kernel
theorem dX9_wild_53 : decode cX9_wild 53 = .ok (.irem, 1) := by decide +kernel
theorem dX9_wild_54 : decode cX9_wild 54 = .ok (.ifCond .ne 7, 3) := by decide +kernel
theorem dX9_wild_57 : decode cX9_wild 57 = .ok (.iconst 1, 1) := by decide +kernel
theorem dX9_wild_58 : decode cX9_wild 58 = .ok (.goto 4, 3) := by decide +kernel
theorem dX9_wild_61 : decode cX9_wild 61 = .ok (.iconst 0, 1) := by decide +kernel
theorem dX9_wild_62 : decode cX9_wild 62 = .ok (.istore 4, 2) := by decide +kernel
theorem dX9_wild_64 : decode cX9_wild 64 = .ok (.iconst 0, 1) := by decide +kernel
theorem dX9_wild_65 : decode cX9_wild 65 = .ok (.istore 5, 2) := by decide +kernel
theorem dX9_wild_67 : decode cX9_wild 67 = .ok (.iload 5, 2) := by decide +kernel
theorem dX9_wild_69 : decode cX9_wild 69 = .ok (.aload_n 0, 1) := by decide +kernel
theorem dX9_wild_70 : decode cX9_wild 70 = .ok (.getfield 67, 3) := by decide +kernel
theorem dX9_wild_73 : decode cX9_wild 73 = .ok (.iload_n 3, 1) := by decide +kernel
theorem dX9_wild_74 : decode cX9_wild 74 = .ok (.iaload, 1) := by decide +kernel
theorem dX9_wild_75 : decode cX9_wild 75 = .ok (.if_icmp .ge 103, 3) := by decide +kernel
theorem dX9_wild_78 : decode cX9_wild 78 = .ok (.iload 4, 2) := by decide +kernel
theorem dX9_wild_80 : decode cX9_wild 80 = .ok (.ifCond .eq 98, 3) := by decide +kernel
theorem dX9_wild_83 : decode cX9_wild 83 = .ok (.aload_n 0, 1) := by decide +kernel
theorem dX9_wild_84 : decode cX9_wild 84 = .ok (.getfield 70, 3) := by decide +kernel
theorem dX9_wild_87 : decode cX9_wild 87 = .ok (.bipush 40, 2) := by decide +kernel
theorem dX9_wild_89 : decode cX9_wild 89 = .ok (.iload_n 3, 1) := by decide +kernel
theorem dX9_wild_90 : decode cX9_wild 90 = .ok (.imul, 1) := by decide +kernel
theorem dX9_wild_91 : decode cX9_wild 91 = .ok (.iload 5, 2) := by decide +kernel
theorem dX9_wild_93 : decode cX9_wild 93 = .ok (.iadd, 1) := by decide +kernel
theorem dX9_wild_94 : decode cX9_wild 94 = .ok (.iaload, 1) := by decide +kernel
theorem dX9_wild_95 : decode cX9_wild 95 = .ok (.istore 6, 2) := by decide +kernel
theorem dX9_wild_97 : decode cX9_wild 97 = .ok (.aload_n 0, 1) := by decide +kernel
theorem dX9_wild_98 : decode cX9_wild 98 = .ok (.getfield 70, 3) := by decide +kernel
theorem dX9_wild_101 : decode cX9_wild 101 = .ok (.bipush 40, 2) := by decide +kernel
theorem dX9_wild_103 : decode cX9_wild 103 = .ok (.iload_n 3, 1) := by decide +kernel
theorem dX9_wild_104 : decode cX9_wild 104 = .ok (.imul, 1) := by decide +kernel
theorem dX9_wild_105 : decode cX9_wild 105 = .ok (.iload 5, 2) := by decide +kernel
theorem dX9_wild_107 : decode cX9_wild 107 = .ok (.iadd, 1) := by decide +kernel
theorem dX9_wild_108 : decode cX9_wild 108 = .ok (.iconst 1, 1) := by decide +kernel
theorem dX9_wild_109 : decode cX9_wild 109 = .ok (.iadd, 1) := by decide +kernel
theorem dX9_wild_110 : decode cX9_wild 110 = .ok (.iaload, 1) := by decide +kernel
theorem dX9_wild_111 : decode cX9_wild 111 = .ok (.istore 7, 2) := by decide +kernel
theorem dX9_wild_113 : decode cX9_wild 113 = .ok (.iload 6, 2) := by decide +kernel
theorem dX9_wild_115 : decode cX9_wild 115 = .ok (.iconst 0, 1) := by decide +kernel
theorem dX9_wild_116 : decode cX9_wild 116 = .ok (.iconst 1, 1) := by decide +kernel
theorem dX9_wild_117 : decode cX9_wild 117 = .ok (.iload_n 2, 1) := by decide +kernel
theorem dX9_wild_118 : decode cX9_wild 118 = .ok (.ishl, 1) := by decide +kernel
theorem dX9_wild_119 : decode cX9_wild 119 = .ok (.iconst 1, 1) := by decide +kernel
theorem dX9_wild_120 : decode cX9_wild 120 = .ok (.isub, 1) := by decide +kernel
theorem dX9_wild_121 : decode cX9_wild 121 = .ok (.invokestatic 83, 3) := by decide +kernel
theorem dX9_wild_124 : decode cX9_wild 124 = .ok (.ifCond .eq 45, 3) := by decide +kernel
theorem dX9_wild_127 : decode cX9_wild 127 = .ok (.iload 7, 2) := by decide +kernel
theorem dX9_wild_129 : decode cX9_wild 129 = .ok (.iconst 0, 1) := by decide +kernel
theorem dX9_wild_130 : decode cX9_wild 130 = .ok (.iconst 1, 1) := by decide +kernel
theorem dX9_wild_131 : decode cX9_wild 131 = .ok (.iload_n 2, 1) := by decide +kernel
theorem dX9_wild_132 : decode cX9_wild 132 = .ok (.ishl, 1) := by decide +kernel
theorem dX9_wild_133 : decode cX9_wild 133 = .ok (.iconst 1, 1) := by decide +kernel
theorem dX9_wild_134 : decode cX9_wild 134 = .ok (.isub, 1) := by decide +kernel
theorem dX9_wild_135 : decode cX9_wild 135 = .ok (.invokestatic 83, 3) := by decide +kernel
theorem dX9_wild_138 : decode cX9_wild 138 = .ok (.ifCond .eq 31, 3) := by decide +kernel
theorem dX9_wild_141 : decode cX9_wild 141 = .ok (.iload 6, 2) := by decide +kernel
theorem dX9_wild_143 : decode cX9_wild 143 = .ok (.iload 7, 2) := by decide +kernel
theorem dX9_wild_145 : decode cX9_wild 145 = .ok (.iand, 1) := by decide +kernel
theorem dX9_wild_146 : decode cX9_wild 146 = .ok (.ifCond .ne 23, 3) := by decide +kernel
theorem dX9_wild_149 : decode cX9_wild 149 = .ok (.iload 6, 2) := by decide +kernel
theorem dX9_wild_151 : decode cX9_wild 151 = .ok (.iload 7, 2) := by decide +kernel
theorem dX9_wild_153 : decode cX9_wild 153 = .ok (.ior, 1) := by decide +kernel
theorem dX9_wild_154 : decode cX9_wild 154 = .ok (.invokestatic 159, 3) := by decide +kernel
theorem dX9_wild_157 : decode cX9_wild 157 = .ok (.iconst 1, 1) := by decide +kernel
theorem dX9_wild_158 : decode cX9_wild 158 = .ok (.iconst 3, 1) := by decide +kernel
theorem dX9_wild_159 : decode cX9_wild 159 = .ok (.invokestatic 83, 3) := by decide +kernel
theorem dX9_wild_162 : decode cX9_wild 162 = .ok (.ifCond .eq 7, 3) := by decide +kernel
theorem dX9_wild_165 : decode cX9_wild 165 = .ok (.iconst 1, 1) := by decide +kernel
theorem dX9_wild_166 : decode cX9_wild 166 = .ok (.goto 4, 3) := by decide +kernel
theorem dX9_wild_169 : decode cX9_wild 169 = .ok (.iconst 0, 1) := by decide +kernel
theorem dX9_wild_170 : decode cX9_wild 170 = .ok (.istore 4, 2) := by decide +kernel
theorem dX9_wild_172 : decode cX9_wild 172 = .ok (.iinc 5 2, 3) := by decide +kernel
theorem dX9_wild_175 : decode cX9_wild 175 = .ok (.goto (-108), 3) := by decide +kernel
theorem dX9_wild_178 : decode cX9_wild 178 = .ok (.iload 4, 2) := by decide +kernel
theorem dX9_wild_180 : decode cX9_wild 180 = .ok (.ifCond .ne 6, 3) := by decide +kernel
theorem dX9_wild_183 : decode cX9_wild 183 = .ok (.bipush (-2), 2) := by decide +kernel
theorem dX9_wild_185 : decode cX9_wild 185 = .ok (.ireturn, 1) := by decide +kernel
theorem dX9_wild_186 : decode cX9_wild 186 = .ok (.aload_n 0, 1) := by decide +kernel
theorem dX9_wild_187 : decode cX9_wild 187 = .ok (.getfield 152, 3) := by decide +kernel
theorem dX9_wild_190 : decode cX9_wild 190 = .ok (.bipush 8, 2) := by decide +kernel
theorem dX9_wild_192 : decode cX9_wild 192 = .ok (.if_icmp .ne 6, 3) := by decide +kernel
theorem dX9_wild_195 : decode cX9_wild 195 = .ok (.bipush (-4), 2) := by decide +kernel
theorem dX9_wild_197 : decode cX9_wild 197 = .ok (.ireturn, 1) := by decide +kernel
theorem dX9_wild_198 : decode cX9_wild 198 = .ok (.aload_n 0, 1) := by decide +kernel
theorem dX9_wild_199 : decode cX9_wild 199 = .ok (.getfield 28, 3) := by decide +kernel
theorem dX9_wild_202 : decode cX9_wild 202 = .ok (.aload_n 0, 1) := by decide +kernel
theorem dX9_wild_203 : decode cX9_wild 203 = .ok (.getfield 152, 3) := by decide +kernel
theorem dX9_wild_206 : decode cX9_wild 206 = .ok (.iload_n 1, 1) := by decide +kernel
theorem dX9_wild_207 : decode cX9_wild 207 = .ok (.iastore, 1) := by decide +kernel
theorem dX9_wild_208 : decode cX9_wild 208 = .ok (.aload_n 0, 1) := by decide +kernel
theorem dX9_wild_209 : decode cX9_wild 209 = .ok (.getfield 31, 3) := by decide +kernel
theorem dX9_wild_212 : decode cX9_wild 212 = .ok (.aload_n 0, 1) := by decide +kernel
theorem dX9_wild_213 : decode cX9_wild 213 = .ok (.getfield 152, 3) := by decide +kernel
theorem dX9_wild_216 : decode cX9_wild 216 = .ok (.iload_n 2, 1) := by decide +kernel
theorem dX9_wild_217 : decode cX9_wild 217 = .ok (.iastore, 1) := by decide +kernel
theorem dX9_wild_218 : decode cX9_wild 218 = .ok (.aload_n 0, 1) := by decide +kernel
theorem dX9_wild_219 : decode cX9_wild 219 = .ok (.getfield 34, 3) := by decide +kernel
theorem dX9_wild_222 : decode cX9_wild 222 = .ok (.aload_n 0, 1) := by decide +kernel
theorem dX9_wild_223 : decode cX9_wild 223 = .ok (.getfield 152, 3) := by decide +kernel
theorem dX9_wild_226 : decode cX9_wild 226 = .ok (.aload_n 0, 1) := by decide +kernel
theorem dX9_wild_227 : decode cX9_wild 227 = .ok (.getfield 67, 3) := by decide +kernel
theorem dX9_wild_230 : decode cX9_wild 230 = .ok (.iload_n 3, 1) := by decide +kernel
theorem dX9_wild_231 : decode cX9_wild 231 = .ok (.iaload, 1) := by decide +kernel
theorem dX9_wild_232 : decode cX9_wild 232 = .ok (.iconst 2, 1) := by decide +kernel
theorem dX9_wild_233 : decode cX9_wild 233 = .ok (.idiv, 1) := by decide +kernel
theorem dX9_wild_234 : decode cX9_wild 234 = .ok (.iastore, 1) := by decide +kernel
theorem dX9_wild_235 : decode cX9_wild 235 = .ok (.aload_n 0, 1) := by decide +kernel
theorem dX9_wild_236 : decode cX9_wild 236 = .ok (.getfield 37, 3) := by decide +kernel
theorem dX9_wild_239 : decode cX9_wild 239 = .ok (.aload_n 0, 1) := by decide +kernel
theorem dX9_wild_240 : decode cX9_wild 240 = .ok (.getfield 152, 3) := by decide +kernel
theorem dX9_wild_243 : decode cX9_wild 243 = .ok (.iconst (-1), 1) := by decide +kernel
theorem dX9_wild_244 : decode cX9_wild 244 = .ok (.iastore, 1) := by decide +kernel
theorem dX9_wild_245 : decode cX9_wild 245 = .ok (.aload_n 0, 1) := by decide +kernel
theorem dX9_wild_246 : decode cX9_wild 246 = .ok (.getfield 40, 3) := by decide +kernel
theorem dX9_wild_249 : decode cX9_wild 249 = .ok (.aload_n 0, 1) := by decide +kernel
theorem dX9_wild_250 : decode cX9_wild 250 = .ok (.getfield 152, 3) := by decide +kernel
theorem dX9_wild_253 : decode cX9_wild 253 = .ok (.iconst (-1), 1) := by decide +kernel
theorem dX9_wild_254 : decode cX9_wild 254 = .ok (.iastore, 1) := by decide +kernel
theorem dX9_wild_255 : decode cX9_wild 255 = .ok (.aload_n 0, 1) := by decide +kernel
theorem dX9_wild_256 : decode cX9_wild 256 = .ok (.getfield 43, 3) := by decide +kernel
theorem dX9_wild_259 : decode cX9_wild 259 = .ok (.aload_n 0, 1) := by decide +kernel
theorem dX9_wild_260 : decode cX9_wild 260 = .ok (.getfield 152, 3) := by decide +kernel
theorem dX9_wild_263 : decode cX9_wild 263 = .ok (.iconst (-1), 1) := by decide +kernel
theorem dX9_wild_264 : decode cX9_wild 264 = .ok (.iastore, 1) := by decide +kernel
theorem dX9_wild_265 : decode cX9_wild 265 = .ok (.iconst 0, 1) := by decide +kernel
theorem dX9_wild_266 : decode cX9_wild 266 = .ok (.istore 5, 2) := by decide +kernel
theorem dX9_wild_268 : decode cX9_wild 268 = .ok (.iload 5, 2) := by decide +kernel
theorem dX9_wild_270 : decode cX9_wild 270 = .ok (.aload_n 0, 1) := by decide +kernel
theorem dX9_wild_271 : decode cX9_wild 271 = .ok (.getfield 34, 3) := by decide +kernel
theorem dX9_wild_274 : decode cX9_wild 274 = .ok (.aload_n 0, 1) := by decide +kernel
theorem dX9_wild_275 : decode cX9_wild 275 = .ok (.getfield 152, 3) := by decide +kernel
theorem dX9_wild_278 : decode cX9_wild 278 = .ok (.iaload, 1) := by decide +kernel
theorem dX9_wild_279 : decode cX9_wild 279 = .ok (.if_icmp .ge 69, 3) := by decide +kernel
theorem dX9_wild_282 : decode cX9_wild 282 = .ok (.aload_n 0, 1) := by decide +kernel
theorem dX9_wild_283 : decode cX9_wild 283 = .ok (.getfield 46, 3) := by decide +kernel
theorem dX9_wild_286 : decode cX9_wild 286 = .ok (.bipush 24, 2) := by decide +kernel
theorem dX9_wild_288 : decode cX9_wild 288 = .ok (.aload_n 0, 1) := by decide +kernel
theorem dX9_wild_289 : decode cX9_wild 289 = .ok (.getfield 152, 3) := by decide +kernel
theorem dX9_wild_292 : decode cX9_wild 292 = .ok (.imul, 1) := by decide +kernel
theorem dX9_wild_293 : decode cX9_wild 293 = .ok (.iload 5, 2) := by decide +kernel
theorem dX9_wild_295 : decode cX9_wild 295 = .ok (.iadd, 1) := by decide +kernel
theorem dX9_wild_296 : decode cX9_wild 296 = .ok (.aload_n 0, 1) := by decide +kernel
theorem dX9_wild_297 : decode cX9_wild 297 = .ok (.getfield 70, 3) := by decide +kernel
theorem dX9_wild_300 : decode cX9_wild 300 = .ok (.bipush 40, 2) := by decide +kernel
theorem dX9_wild_302 : decode cX9_wild 302 = .ok (.iload_n 3, 1) := by decide +kernel
theorem dX9_wild_303 : decode cX9_wild 303 = .ok (.imul, 1) := by decide +kernel
theorem dX9_wild_304 : decode cX9_wild 304 = .ok (.iconst 2, 1) := by decide +kernel
theorem dX9_wild_305 : decode cX9_wild 305 = .ok (.iload 5, 2) := by decide +kernel
theorem dX9_wild_307 : decode cX9_wild 307 = .ok (.imul, 1) := by decide +kernel
theorem dX9_wild_308 : decode cX9_wild 308 = .ok (.iadd, 1) := by decide +kernel
theorem dX9_wild_309 : decode cX9_wild 309 = .ok (.iaload, 1) := by decide +kernel
theorem dX9_wild_310 : decode cX9_wild 310 = .ok (.iastore, 1) := by decide +kernel
theorem dX9_wild_311 : decode cX9_wild 311 = .ok (.aload_n 0, 1) := by decide +kernel
theorem dX9_wild_312 : decode cX9_wild 312 = .ok (.getfield 49, 3) := by decide +kernel
theorem dX9_wild_315 : decode cX9_wild 315 = .ok (.bipush 24, 2) := by decide +kernel
theorem dX9_wild_317 : decode cX9_wild 317 = .ok (.aload_n 0, 1) := by decide +kernel
theorem dX9_wild_318 : decode cX9_wild 318 = .ok (.getfield 152, 3) := by decide +kernel
theorem dX9_wild_321 : decode cX9_wild 321 = .ok (.imul, 1) := by decide +kernel
theorem dX9_wild_322 : decode cX9_wild 322 = .ok (.iload 5, 2) := by decide +kernel
theorem dX9_wild_324 : decode cX9_wild 324 = .ok (.iadd, 1) := by decide +kernel
theorem dX9_wild_325 : decode cX9_wild 325 = .ok (.aload_n 0, 1) := by decide +kernel
theorem dX9_wild_326 : decode cX9_wild 326 = .ok (.getfield 70, 3) := by decide +kernel
theorem dX9_wild_329 : decode cX9_wild 329 = .ok (.bipush 40, 2) := by decide +kernel
theorem dX9_wild_331 : decode cX9_wild 331 = .ok (.iload_n 3, 1) := by decide +kernel
theorem dX9_wild_332 : decode cX9_wild 332 = .ok (.imul, 1) := by decide +kernel
theorem dX9_wild_333 : decode cX9_wild 333 = .ok (.iconst 2, 1) := by decide +kernel
theorem dX9_wild_334 : decode cX9_wild 334 = .ok (.iload 5, 2) := by decide +kernel
theorem dX9_wild_336 : decode cX9_wild 336 = .ok (.imul, 1) := by decide +kernel
theorem dX9_wild_337 : decode cX9_wild 337 = .ok (.iadd, 1) := by decide +kernel
theorem dX9_wild_338 : decode cX9_wild 338 = .ok (.iconst 1, 1) := by decide +kernel
theorem dX9_wild_339 : decode cX9_wild 339 = .ok (.iadd, 1) := by decide +kernel
theorem dX9_wild_340 : decode cX9_wild 340 = .ok (.iaload, 1) := by decide +kernel
theorem dX9_wild_341 : decode cX9_wild 341 = .ok (.iastore, 1) := by decide +kernel
theorem dX9_wild_342 : decode cX9_wild 342 = .ok (.iinc 5 1, 3) := by decide +kernel
theorem dX9_wild_345 : decode cX9_wild 345 = .ok (.goto (-77), 3) := by decide +kernel
theorem dX9_wild_348 : decode cX9_wild 348 = .ok (.aload_n 0, 1) := by decide +kernel
theorem dX9_wild_349 : decode cX9_wild 349 = .ok (.dup, 1) := by decide +kernel
theorem dX9_wild_350 : decode cX9_wild 350 = .ok (.getfield 152, 3) := by decide +kernel
theorem dX9_wild_353 : decode cX9_wild 353 = .ok (.iconst 1, 1) := by decide +kernel
theorem dX9_wild_354 : decode cX9_wild 354 = .ok (.iadd, 1) := by decide +kernel
theorem dX9_wild_355 : decode cX9_wild 355 = .ok (.putfield 152, 3) := by decide +kernel
theorem dX9_wild_358 : decode cX9_wild 358 = .ok (.aload_n 0, 1) := by decide +kernel
theorem dX9_wild_359 : decode cX9_wild 359 = .ok (.getfield 152, 3) := by decide +kernel
theorem dX9_wild_362 : decode cX9_wild 362 = .ok (.iconst 1, 1) := by decide +kernel
theorem dX9_wild_363 : decode cX9_wild 363 = .ok (.isub, 1) := by decide +kernel
theorem dX9_wild_364 : decode cX9_wild 364 = .ok (.ireturn, 1) := by decide +kernel
set_option maxRecDepth 20000 in
theorem ggX9_isTask_X9_in : GoodIn wsX9_isTask wsX9_in := goodIn_r _ [5] (by decide +kernel) (by decide +kernel)
set_option maxRecDepth 20000 in
theorem gX9_isTask_X9_in : GoodIn wsX9_isTask (va_wsS RX9 83 yX9_in wsX9_in) := goodIn_app (goodIn_of _ (by decide +kernel)) ggX9_isTask_X9_in
theorem dX9_isTask_0 : decode cX9_isTask 0 = .ok (.iload_n 1, 1) := by decide +kernel
theorem dX9_isTask_1 : decode cX9_isTask 1 = .ok (.iconst 0, 1) := by decide +kernel
theorem dX9_isTask_2 : decode cX9_isTask 2 = .ok (.aload_n 0, 1) := by decide +kernel
theorem dX9_isTask_3 : decode cX9_isTask 3 = .ok (.getfield 152, 3) := by decide +kernel
theorem dX9_isTask_6 : decode cX9_isTask 6 = .ok (.iconst 1, 1) := by decide +kernel
theorem dX9_isTask_7 : decode cX9_isTask 7 = .ok (.isub, 1) := by decide +kernel
theorem dX9_isTask_8 : decode cX9_isTask 8 = .ok (.invokestatic 83, 3) := by decide +kernel
theorem dX9_isTask_11 : decode cX9_isTask 11 = .ok (.ireturn, 1) := by decide +kernel
set_option maxRecDepth 20000 in
theorem ggX9_taskTold_X9_isTask : GoodIn wsX9_taskTold wsX9_isTask := goodIn_r _ [11, 12, 13, 14, 10, 15, 16, 17, 18, 19, 20, 21, 22, 23, 24, 25, 26, 27, 28, 29, 30, 31, 32, 33, 34, 35, 36, 37, 38, 39, 40, 41, 42, 43, 44, 45, 46, 47] (by decide +kernel) (by decide +kernel)
set_option maxRecDepth 20000 in
theorem gX9_taskTold_X9_isTask : GoodIn wsX9_taskTold (wsV RX9 162 RX9 yX9_isTask wsX9_isTask) := goodIn_app (goodIn_of _ (by decide +kernel)) ggX9_taskTold_X9_isTask
theorem dX9_taskTold_0 : decode cX9_taskTold 0 = .ok (.aload_n 0, 1) := by decide +kernel
theorem dX9_taskTold_1 : decode cX9_taskTold 1 = .ok (.iload_n 1, 1) := by decide +kernel
theorem dX9_taskTold_2 : decode cX9_taskTold 2 = .ok (.invokevirtual 162, 3) := by decide +kernel
theorem dX9_taskTold_5 : decode cX9_taskTold 5 = .ok (.ifCond .ne 6, 3) := by decide +kernel
theorem dX9_taskTold_8 : decode cX9_taskTold 8 = .ok (.bipush (-5), 2) := by decide +kernel
theorem dX9_taskTold_10 : decode cX9_taskTold 10 = .ok (.ireturn, 1) := by decide +kernel
theorem dX9_taskTold_11 : decode cX9_taskTold 11 = .ok (.iload_n 2, 1) := by decide +kernel
theorem dX9_taskTold_12 : decode cX9_taskTold 12 = .ok (.tableswitch 82 0 5 #[40, 47, 54, 61, 68, 75], 40) := by decide +kernel
theorem dX9_taskTold_52 : decode cX9_taskTold 52 = .ok (.aload_n 0, 1) := by decide +kernel
theorem dX9_taskTold_53 : decode cX9_taskTold 53 = .ok (.getfield 28, 3) := by decide +kernel
theorem dX9_taskTold_56 : decode cX9_taskTold 56 = .ok (.iload_n 1, 1) := by decide +kernel
theorem dX9_taskTold_57 : decode cX9_taskTold 57 = .ok (.iaload, 1) := by decide +kernel
theorem dX9_taskTold_58 : decode cX9_taskTold 58 = .ok (.ireturn, 1) := by decide +kernel
theorem dX9_taskTold_59 : decode cX9_taskTold 59 = .ok (.aload_n 0, 1) := by decide +kernel
theorem dX9_taskTold_60 : decode cX9_taskTold 60 = .ok (.getfield 31, 3) := by decide +kernel
theorem dX9_taskTold_63 : decode cX9_taskTold 63 = .ok (.iload_n 1, 1) := by decide +kernel
theorem dX9_taskTold_64 : decode cX9_taskTold 64 = .ok (.iaload, 1) := by decide +kernel
theorem dX9_taskTold_65 : decode cX9_taskTold 65 = .ok (.ireturn, 1) := by decide +kernel
theorem dX9_taskTold_66 : decode cX9_taskTold 66 = .ok (.aload_n 0, 1) := by decide +kernel
theorem dX9_taskTold_67 : decode cX9_taskTold 67 = .ok (.getfield 34, 3) := by decide +kernel
theorem dX9_taskTold_70 : decode cX9_taskTold 70 = .ok (.iload_n 1, 1) := by decide +kernel
theorem dX9_taskTold_71 : decode cX9_taskTold 71 = .ok (.iaload, 1) := by decide +kernel
theorem dX9_taskTold_72 : decode cX9_taskTold 72 = .ok (.ireturn, 1) := by decide +kernel
theorem dX9_taskTold_73 : decode cX9_taskTold 73 = .ok (.aload_n 0, 1) := by decide +kernel
theorem dX9_taskTold_74 : decode cX9_taskTold 74 = .ok (.getfield 37, 3) := by decide +kernel
theorem dX9_taskTold_77 : decode cX9_taskTold 77 = .ok (.iload_n 1, 1) := by decide +kernel
theorem dX9_taskTold_78 : decode cX9_taskTold 78 = .ok (.iaload, 1) := by decide +kernel
theorem dX9_taskTold_79 : decode cX9_taskTold 79 = .ok (.ireturn, 1) := by decide +kernel
theorem dX9_taskTold_80 : decode cX9_taskTold 80 = .ok (.aload_n 0, 1) := by decide +kernel
theorem dX9_taskTold_81 : decode cX9_taskTold 81 = .ok (.getfield 40, 3) := by decide +kernel
theorem dX9_taskTold_84 : decode cX9_taskTold 84 = .ok (.iload_n 1, 1) := by decide +kernel
theorem dX9_taskTold_85 : decode cX9_taskTold 85 = .ok (.iaload, 1) := by decide +kernel
theorem dX9_taskTold_86 : decode cX9_taskTold 86 = .ok (.ireturn, 1) := by decide +kernel
theorem dX9_taskTold_87 : decode cX9_taskTold 87 = .ok (.aload_n 0, 1) := by decide +kernel
theorem dX9_taskTold_88 : decode cX9_taskTold 88 = .ok (.getfield 43, 3) := by decide +kernel
theorem dX9_taskTold_91 : decode cX9_taskTold 91 = .ok (.iload_n 1, 1) := by decide +kernel
theorem dX9_taskTold_92 : decode cX9_taskTold 92 = .ok (.iaload, 1) := by decide +kernel
theorem dX9_taskTold_93 : decode cX9_taskTold 93 = .ok (.ireturn, 1) := by decide +kernel
theorem dX9_taskTold_94 : decode cX9_taskTold 94 = .ok (.bipush (-7), 2) := by decide +kernel
theorem dX9_taskTold_96 : decode cX9_taskTold 96 = .ok (.ireturn, 1) := by decide +kernel
set_option maxRecDepth 20000 in
theorem ggX9_clauseTold_X9_isTask : GoodIn wsX9_clauseTold wsX9_isTask := goodIn_r _ [8, 9, 10, 11, 7, 12, 13, 14, 15, 16, 17, 18, 19, 20, 21, 22, 23, 24, 25, 26, 27, 28, 29, 30, 31, 32, 33, 34, 35, 36, 37, 38, 39, 40, 41, 42, 43, 44] (by decide +kernel) (by decide +kernel)
set_option maxRecDepth 20000 in
theorem gX9_clauseTold_X9_isTask : GoodIn wsX9_clauseTold (wsV RX9 162 RX9 yX9_isTask wsX9_isTask) := goodIn_app (goodIn_of _ (by decide +kernel)) ggX9_clauseTold_X9_isTask
set_option maxRecDepth 20000 in
theorem ggX9_clauseTold_X9_in : GoodIn wsX9_clauseTold wsX9_in := goodIn_r _ [12] (by decide +kernel) (by decide +kernel)
set_option maxRecDepth 20000 in
theorem gX9_clauseTold_X9_in : GoodIn wsX9_clauseTold (va_wsS RX9 83 yX9_in wsX9_in) := goodIn_app (goodIn_of _ (by decide +kernel)) ggX9_clauseTold_X9_in
theorem dX9_clauseTold_0 : decode cX9_clauseTold 0 = .ok (.aload_n 0, 1) := by decide +kernel
theorem dX9_clauseTold_1 : decode cX9_clauseTold 1 = .ok (.iload_n 1, 1) := by decide +kernel
theorem dX9_clauseTold_2 : decode cX9_clauseTold 2 = .ok (.invokevirtual 162, 3) := by decide +kernel
theorem dX9_clauseTold_5 : decode cX9_clauseTold 5 = .ok (.ifCond .eq 31, 3) := by decide +kernel
theorem dX9_clauseTold_8 : decode cX9_clauseTold 8 = .ok (.iload_n 2, 1) := by decide +kernel
theorem dX9_clauseTold_9 : decode cX9_clauseTold 9 = .ok (.iconst 0, 1) := by decide +kernel
theorem dX9_clauseTold_10 : decode cX9_clauseTold 10 = .ok (.aload_n 0, 1) := by decide +kernel
theorem dX9_clauseTold_11 : decode cX9_clauseTold 11 = .ok (.getfield 34, 3) := by decide +kernel
theorem dX9_clauseTold_14 : decode cX9_clauseTold 14 = .ok (.aload_n 0, 1) := by decide +kernel
theorem dX9_clauseTold_15 : decode cX9_clauseTold 15 = .ok (.iload_n 1, 1) := by decide +kernel
theorem dX9_clauseTold_16 : decode cX9_clauseTold 16 = .ok (.invokevirtual 162, 3) := by decide +kernel
theorem dX9_clauseTold_19 : decode cX9_clauseTold 19 = .ok (.ifCond .eq 7, 3) := by decide +kernel
theorem dX9_clauseTold_22 : decode cX9_clauseTold 22 = .ok (.iload_n 1, 1) := by decide +kernel
theorem dX9_clauseTold_23 : decode cX9_clauseTold 23 = .ok (.goto 4, 3) := by decide +kernel
theorem dX9_clauseTold_26 : decode cX9_clauseTold 26 = .ok (.iconst 0, 1) := by decide +kernel
theorem dX9_clauseTold_27 : decode cX9_clauseTold 27 = .ok (.iaload, 1) := by decide +kernel
theorem dX9_clauseTold_28 : decode cX9_clauseTold 28 = .ok (.iconst 1, 1) := by decide +kernel
theorem dX9_clauseTold_29 : decode cX9_clauseTold 29 = .ok (.isub, 1) := by decide +kernel
theorem dX9_clauseTold_30 : decode cX9_clauseTold 30 = .ok (.invokestatic 83, 3) := by decide +kernel
theorem dX9_clauseTold_33 : decode cX9_clauseTold 33 = .ok (.ifCond .ne 6, 3) := by decide +kernel
theorem dX9_clauseTold_36 : decode cX9_clauseTold 36 = .ok (.bipush (-5), 2) := by decide +kernel
theorem dX9_clauseTold_38 : decode cX9_clauseTold 38 = .ok (.ireturn, 1) := by decide +kernel
theorem dX9_clauseTold_39 : decode cX9_clauseTold 39 = .ok (.iload_n 3, 1) := by decide +kernel
theorem dX9_clauseTold_40 : decode cX9_clauseTold 40 = .ok (.ifCond .ne 17, 3) := by decide +kernel
theorem dX9_clauseTold_43 : decode cX9_clauseTold 43 = .ok (.aload_n 0, 1) := by decide +kernel
theorem dX9_clauseTold_44 : decode cX9_clauseTold 44 = .ok (.getfield 46, 3) := by decide +kernel
theorem dX9_clauseTold_47 : decode cX9_clauseTold 47 = .ok (.bipush 24, 2) := by decide +kernel
theorem dX9_clauseTold_49 : decode cX9_clauseTold 49 = .ok (.iload_n 1, 1) := by decide +kernel
theorem dX9_clauseTold_50 : decode cX9_clauseTold 50 = .ok (.imul, 1) := by decide +kernel
theorem dX9_clauseTold_51 : decode cX9_clauseTold 51 = .ok (.iload_n 2, 1) := by decide +kernel
theorem dX9_clauseTold_52 : decode cX9_clauseTold 52 = .ok (.iadd, 1) := by decide +kernel
theorem dX9_clauseTold_53 : decode cX9_clauseTold 53 = .ok (.iaload, 1) := by decide +kernel
theorem dX9_clauseTold_54 : decode cX9_clauseTold 54 = .ok (.goto 24, 3) := by decide +kernel
theorem dX9_clauseTold_57 : decode cX9_clauseTold 57 = .ok (.iload_n 3, 1) := by decide +kernel
theorem dX9_clauseTold_58 : decode cX9_clauseTold 58 = .ok (.iconst 1, 1) := by decide +kernel
theorem dX9_clauseTold_59 : decode cX9_clauseTold 59 = .ok (.if_icmp .ne 17, 3) := by decide +kernel
theorem dX9_clauseTold_62 : decode cX9_clauseTold 62 = .ok (.aload_n 0, 1) := by decide +kernel
theorem dX9_clauseTold_63 : decode cX9_clauseTold 63 = .ok (.getfield 49, 3) := by decide +kernel
theorem dX9_clauseTold_66 : decode cX9_clauseTold 66 = .ok (.bipush 24, 2) := by decide +kernel
theorem dX9_clauseTold_68 : decode cX9_clauseTold 68 = .ok (.iload_n 1, 1) := by decide +kernel
theorem dX9_clauseTold_69 : decode cX9_clauseTold 69 = .ok (.imul, 1) := by decide +kernel
theorem dX9_clauseTold_70 : decode cX9_clauseTold 70 = .ok (.iload_n 2, 1) := by decide +kernel
theorem dX9_clauseTold_71 : decode cX9_clauseTold 71 = .ok (.iadd, 1) := by decide +kernel
theorem dX9_clauseTold_72 : decode cX9_clauseTold 72 = .ok (.iaload, 1) := by decide +kernel
theorem dX9_clauseTold_73 : decode cX9_clauseTold 73 = .ok (.goto 5, 3) := by decide +kernel
theorem dX9_clauseTold_76 : decode cX9_clauseTold 76 = .ok (.bipush (-7), 2) := by decide +kernel
theorem dX9_clauseTold_78 : decode cX9_clauseTold 78 = .ok (.ireturn, 1) := by decide +kernel
set_option maxRecDepth 20000 in
theorem ggX9_is_X9_ones : GoodIn wsX9_is wsX9_ones := goodIn_r _ [6] (by decide +kernel) (by decide +kernel)
set_option maxRecDepth 20000 in
theorem gX9_is_X9_ones : GoodIn wsX9_is (va_wsS RX9 159 yX9_ones wsX9_ones) := goodIn_app (goodIn_of _ (by decide +kernel)) ggX9_is_X9_ones
theorem dX9_is_0 : decode cX9_is 0 = .ok (.aload_n 0, 1) := by decide +kernel
theorem dX9_is_1 : decode cX9_is 1 = .ok (.getfield 46, 3) := by decide +kernel
theorem dX9_is_4 : decode cX9_is 4 = .ok (.iload_n 1, 1) := by decide +kernel
theorem dX9_is_5 : decode cX9_is 5 = .ok (.iaload, 1) := by decide +kernel
theorem dX9_is_6 : decode cX9_is 6 = .ok (.iload_n 2, 1) := by decide +kernel
theorem dX9_is_7 : decode cX9_is 7 = .ok (.iand, 1) := by decide +kernel
theorem dX9_is_8 : decode cX9_is 8 = .ok (.invokestatic 159, 3) := by decide +kernel
theorem dX9_is_11 : decode cX9_is 11 = .ok (.aload_n 0, 1) := by decide +kernel
theorem dX9_is_12 : decode cX9_is 12 = .ok (.getfield 49, 3) := by decide +kernel
theorem dX9_is_15 : decode cX9_is 15 = .ok (.iload_n 1, 1) := by decide +kernel
theorem dX9_is_16 : decode cX9_is 16 = .ok (.iaload, 1) := by decide +kernel
theorem dX9_is_17 : decode cX9_is 17 = .ok (.iload_n 2, 1) := by decide +kernel
theorem dX9_is_18 : decode cX9_is 18 = .ok (.iconst (-1), 1) := by decide +kernel
theorem dX9_is_19 : decode cX9_is 19 = .ok (.ixor, 1) := by decide +kernel
theorem dX9_is_20 : decode cX9_is 20 = .ok (.iand, 1) := by decide +kernel
theorem dX9_is_21 : decode cX9_is 21 = .ok (.invokestatic 159, 3) := by decide +kernel
theorem dX9_is_24 : decode cX9_is 24 = .ok (.iadd, 1) := by decide +kernel
theorem dX9_is_25 : decode cX9_is 25 = .ok (.ireturn, 1) := by decide +kernel
set_option maxRecDepth 20000 in
theorem ggX9_wide_X9_ones : GoodIn wsX9_wide wsX9_ones := goodIn_r _ [6] (by decide +kernel) (by decide +kernel)
set_option maxRecDepth 20000 in
theorem gX9_wide_X9_ones : GoodIn wsX9_wide (va_wsS RX9 159 yX9_ones wsX9_ones) := goodIn_app (goodIn_of _ (by decide +kernel)) ggX9_wide_X9_ones
theorem dX9_wide_0 : decode cX9_wide 0 = .ok (.aload_n 0, 1) := by decide +kernel
theorem dX9_wide_1 : decode cX9_wide 1 = .ok (.getfield 46, 3) := by decide +kernel
theorem dX9_wide_4 : decode cX9_wide 4 = .ok (.iload_n 1, 1) := by decide +kernel
theorem dX9_wide_5 : decode cX9_wide 5 = .ok (.iaload, 1) := by decide +kernel
theorem dX9_wide_6 : decode cX9_wide 6 = .ok (.aload_n 0, 1) := by decide +kernel
theorem dX9_wide_7 : decode cX9_wide 7 = .ok (.getfield 49, 3) := by decide +kernel
theorem dX9_wide_10 : decode cX9_wide 10 = .ok (.iload_n 1, 1) := by decide +kernel
theorem dX9_wide_11 : decode cX9_wide 11 = .ok (.iaload, 1) := by decide +kernel
theorem dX9_wide_12 : decode cX9_wide 12 = .ok (.ior, 1) := by decide +kernel
theorem dX9_wide_13 : decode cX9_wide 13 = .ok (.invokestatic 159, 3) := by decide +kernel
theorem dX9_wide_16 : decode cX9_wide 16 = .ok (.ireturn, 1) := by decide +kernel
set_option maxRecDepth 20000 in
theorem ggX9_firstBroken_X9_is : GoodIn wsX9_firstBroken wsX9_is := goodIn_r _ [7, 8, 9, 10, 11, 6, 12, 20, 21, 22, 23, 24, 25, 26, 27, 28, 29, 30, 31, 32, 33, 34, 35, 36, 37, 38, 39, 40, 41, 42, 43, 44, 45, 46, 47, 48, 49, 50, 51] (by decide +kernel) (by decide +kernel)
set_option maxRecDepth 20000 in
theorem gX9_firstBroken_X9_is : GoodIn wsX9_firstBroken (wsV RX9 165 RX9 yX9_is wsX9_is) := goodIn_app (goodIn_of _ (by decide +kernel)) ggX9_firstBroken_X9_is
set_option maxRecDepth 20000 in
theorem ggX9_firstBroken_X9_wide : GoodIn wsX9_firstBroken wsX9_wide := goodIn_r _ [16, 8, 9, 10, 11, 6, 12, 20, 21, 22, 23, 24, 25, 26, 27, 28, 29, 30, 31, 32, 33, 34, 35, 36, 37, 38, 39, 40, 41, 42, 43, 44, 45, 46, 47, 48, 49, 50, 51] (by decide +kernel) (by decide +kernel)
set_option maxRecDepth 20000 in
theorem gX9_firstBroken_X9_wide : GoodIn wsX9_firstBroken (wsV RX9 168 RX9 yX9_wide wsX9_wide) := goodIn_app (goodIn_of _ (by decide +kernel)) ggX9_firstBroken_X9_wide
set_option maxRecDepth 20000 in
theorem ggX9_firstBroken_X9_holds : GoodIn wsX9_firstBroken wsX9_holds := goodIn_r _ [19] (by decide +kernel) (by decide +kernel)
set_option maxRecDepth 20000 in
theorem gX9_firstBroken_X9_holds : GoodIn wsX9_firstBroken (va_wsS RX9 79 yX9_holds wsX9_holds) := goodIn_app (goodIn_of _ (by decide +kernel)) ggX9_firstBroken_X9_holds
theorem dX9_firstBroken_0 : decode cX9_firstBroken 0 = .ok (.iconst 0, 1) := by decide +kernel
theorem dX9_firstBroken_1 : decode cX9_firstBroken 1 = .ok (.istore_n 3, 1) := by decide +kernel
theorem dX9_firstBroken_2 : decode cX9_firstBroken 2 = .ok (.iload_n 3, 1) := by decide +kernel
theorem dX9_firstBroken_3 : decode cX9_firstBroken 3 = .ok (.aload_n 0, 1) := by decide +kernel
theorem dX9_firstBroken_4 : decode cX9_firstBroken 4 = .ok (.getfield 34, 3) := by decide +kernel
theorem dX9_firstBroken_7 : decode cX9_firstBroken 7 = .ok (.iload_n 1, 1) := by decide +kernel
theorem dX9_firstBroken_8 : decode cX9_firstBroken 8 = .ok (.iaload, 1) := by decide +kernel
theorem dX9_firstBroken_9 : decode cX9_firstBroken 9 = .ok (.if_icmp .ge 44, 3) := by decide +kernel
theorem dX9_firstBroken_12 : decode cX9_firstBroken 12 = .ok (.aload_n 0, 1) := by decide +kernel
theorem dX9_firstBroken_13 : decode cX9_firstBroken 13 = .ok (.getfield 28, 3) := by decide +kernel
theorem dX9_firstBroken_16 : decode cX9_firstBroken 16 = .ok (.iload_n 1, 1) := by decide +kernel
theorem dX9_firstBroken_17 : decode cX9_firstBroken 17 = .ok (.iaload, 1) := by decide +kernel
theorem dX9_firstBroken_18 : decode cX9_firstBroken 18 = .ok (.aload_n 0, 1) := by decide +kernel
theorem dX9_firstBroken_19 : decode cX9_firstBroken 19 = .ok (.bipush 24, 2) := by decide +kernel
theorem dX9_firstBroken_21 : decode cX9_firstBroken 21 = .ok (.iload_n 1, 1) := by decide +kernel
theorem dX9_firstBroken_22 : decode cX9_firstBroken 22 = .ok (.imul, 1) := by decide +kernel
theorem dX9_firstBroken_23 : decode cX9_firstBroken 23 = .ok (.iload_n 3, 1) := by decide +kernel
theorem dX9_firstBroken_24 : decode cX9_firstBroken 24 = .ok (.iadd, 1) := by decide +kernel
theorem dX9_firstBroken_25 : decode cX9_firstBroken 25 = .ok (.iload_n 2, 1) := by decide +kernel
theorem dX9_firstBroken_26 : decode cX9_firstBroken 26 = .ok (.invokevirtual 165, 3) := by decide +kernel
theorem dX9_firstBroken_29 : decode cX9_firstBroken 29 = .ok (.aload_n 0, 1) := by decide +kernel
theorem dX9_firstBroken_30 : decode cX9_firstBroken 30 = .ok (.bipush 24, 2) := by decide +kernel
theorem dX9_firstBroken_32 : decode cX9_firstBroken 32 = .ok (.iload_n 1, 1) := by decide +kernel
theorem dX9_firstBroken_33 : decode cX9_firstBroken 33 = .ok (.imul, 1) := by decide +kernel
theorem dX9_firstBroken_34 : decode cX9_firstBroken 34 = .ok (.iload_n 3, 1) := by decide +kernel
theorem dX9_firstBroken_35 : decode cX9_firstBroken 35 = .ok (.iadd, 1) := by decide +kernel
theorem dX9_firstBroken_36 : decode cX9_firstBroken 36 = .ok (.invokevirtual 168, 3) := by decide +kernel
theorem dX9_firstBroken_39 : decode cX9_firstBroken 39 = .ok (.invokestatic 79, 3) := by decide +kernel
theorem dX9_firstBroken_42 : decode cX9_firstBroken 42 = .ok (.ifCond .ne 5, 3) := by decide +kernel
theorem dX9_firstBroken_45 : decode cX9_firstBroken 45 = .ok (.iload_n 3, 1) := by decide +kernel
theorem dX9_firstBroken_46 : decode cX9_firstBroken 46 = .ok (.ireturn, 1) := by decide +kernel
theorem dX9_firstBroken_47 : decode cX9_firstBroken 47 = .ok (.iinc 3 1, 3) := by decide +kernel
theorem dX9_firstBroken_50 : decode cX9_firstBroken 50 = .ok (.goto (-48), 3) := by decide +kernel
theorem dX9_firstBroken_53 : decode cX9_firstBroken 53 = .ok (.iconst (-1), 1) := by decide +kernel
theorem dX9_firstBroken_54 : decode cX9_firstBroken 54 = .ok (.ireturn, 1) := by decide +kernel
set_option maxRecDepth 20000 in
theorem ggX9_doesSolve_X9_firstBroken : GoodIn wsX9_doesSolve wsX9_firstBroken := goodIn_r _ [5, 6, 7, 8, 9, 10, 4, 11, 12, 13, 14, 15, 16, 17, 18, 19, 20, 21, 22, 23, 24, 25, 26, 27, 28, 29, 30, 31, 32, 33, 34, 35, 36, 37, 38, 39, 40, 41, 42, 43, 44, 45, 46, 47, 48, 49, 50, 51, 52, 53, 54, 55] (by decide +kernel) (by decide +kernel)
set_option maxRecDepth 20000 in
theorem gX9_doesSolve_X9_firstBroken : GoodIn wsX9_doesSolve (wsV RX9 171 RX9 yX9_firstBroken wsX9_firstBroken) := goodIn_app (goodIn_of _ (by decide +kernel)) ggX9_doesSolve_X9_firstBroken
theorem dX9_doesSolve_0 : decode cX9_doesSolve 0 = .ok (.aload_n 0, 1) := by decide +kernel
theorem dX9_doesSolve_1 : decode cX9_doesSolve 1 = .ok (.iload_n 1, 1) := by decide +kernel
theorem dX9_doesSolve_2 : decode cX9_doesSolve 2 = .ok (.iload_n 2, 1) := by decide +kernel
theorem dX9_doesSolve_3 : decode cX9_doesSolve 3 = .ok (.invokevirtual 171, 3) := by decide +kernel
theorem dX9_doesSolve_6 : decode cX9_doesSolve 6 = .ok (.iconst (-1), 1) := by decide +kernel
theorem dX9_doesSolve_7 : decode cX9_doesSolve 7 = .ok (.if_icmp .ne 7, 3) := by decide +kernel
theorem dX9_doesSolve_10 : decode cX9_doesSolve 10 = .ok (.iconst 1, 1) := by decide +kernel
theorem dX9_doesSolve_11 : decode cX9_doesSolve 11 = .ok (.goto 4, 3) := by decide +kernel
theorem dX9_doesSolve_14 : decode cX9_doesSolve 14 = .ok (.iconst 0, 1) := by decide +kernel
theorem dX9_doesSolve_15 : decode cX9_doesSolve 15 = .ok (.ireturn, 1) := by decide +kernel
set_option maxRecDepth 20000 in
theorem ggX9_isRow_X9_in : GoodIn wsX9_isRow wsX9_in := goodIn_r _ [5] (by decide +kernel) (by decide +kernel)
set_option maxRecDepth 20000 in
theorem gX9_isRow_X9_in : GoodIn wsX9_isRow (va_wsS RX9 83 yX9_in wsX9_in) := goodIn_app (goodIn_of _ (by decide +kernel)) ggX9_isRow_X9_in
theorem dX9_isRow_0 : decode cX9_isRow 0 = .ok (.iload_n 2, 1) := by decide +kernel
theorem dX9_isRow_1 : decode cX9_isRow 1 = .ok (.iconst 0, 1) := by decide +kernel
theorem dX9_isRow_2 : decode cX9_isRow 2 = .ok (.iconst 1, 1) := by decide +kernel
theorem dX9_isRow_3 : decode cX9_isRow 3 = .ok (.aload_n 0, 1) := by decide +kernel
theorem dX9_isRow_4 : decode cX9_isRow 4 = .ok (.getfield 31, 3) := by decide +kernel
theorem dX9_isRow_7 : decode cX9_isRow 7 = .ok (.iload_n 1, 1) := by decide +kernel
theorem dX9_isRow_8 : decode cX9_isRow 8 = .ok (.iaload, 1) := by decide +kernel
theorem dX9_isRow_9 : decode cX9_isRow 9 = .ok (.ishl, 1) := by decide +kernel
theorem dX9_isRow_10 : decode cX9_isRow 10 = .ok (.iconst 1, 1) := by decide +kernel
theorem dX9_isRow_11 : decode cX9_isRow 11 = .ok (.isub, 1) := by decide +kernel
theorem dX9_isRow_12 : decode cX9_isRow 12 = .ok (.invokestatic 83, 3) := by decide +kernel
theorem dX9_isRow_15 : decode cX9_isRow 15 = .ok (.ireturn, 1) := by decide +kernel
set_option maxRecDepth 20000 in
theorem ggX9_solves_X9_isTask : GoodIn wsX9_solves wsX9_isTask := goodIn_r _ [5, 6, 7, 8, 4, 9, 37, 38, 39, 40, 41, 42, 43, 44, 45, 46, 47, 48, 49, 50, 51, 52, 53, 54, 55, 56, 57, 58, 59, 60, 61, 62, 63, 64, 65, 66, 67, 68] (by decide +kernel) (by decide +kernel)
set_option maxRecDepth 20000 in
theorem gX9_solves_X9_isTask : GoodIn wsX9_solves (wsV RX9 162 RX9 yX9_isTask wsX9_isTask) := goodIn_app (goodIn_of _ (by decide +kernel)) ggX9_solves_X9_isTask
set_option maxRecDepth 20000 in
theorem ggX9_solves_X9_isRow : GoodIn wsX9_solves wsX9_isRow := goodIn_r _ [13, 14, 7, 8, 4, 9, 37, 38, 39, 40, 41, 42, 43, 44, 45, 46, 47, 48, 49, 50, 51, 52, 53, 54, 55, 56, 57, 58, 59, 60, 61, 62, 63, 64, 65, 66, 67, 68] (by decide +kernel) (by decide +kernel)
set_option maxRecDepth 20000 in
theorem gX9_solves_X9_isRow : GoodIn wsX9_solves (wsV RX9 174 RX9 yX9_isRow wsX9_isRow) := goodIn_app (goodIn_of _ (by decide +kernel)) ggX9_solves_X9_isRow
set_option maxRecDepth 20000 in
theorem ggX9_solves_X9_firstBroken : GoodIn wsX9_solves wsX9_firstBroken := goodIn_r _ [18, 19, 20, 21, 22, 23, 4, 24, 25, 26, 27, 28, 29, 30, 31, 32, 33, 34, 35, 36, 37, 38, 39, 40, 41, 42, 43, 44, 45, 46, 47, 48, 49, 50, 51, 52, 53, 54, 55, 56, 57, 58, 59, 60, 61, 62, 63, 64, 65, 66, 67, 68] (by decide +kernel) (by decide +kernel)
set_option maxRecDepth 20000 in
theorem gX9_solves_X9_firstBroken : GoodIn wsX9_solves (wsV RX9 171 RX9 yX9_firstBroken wsX9_firstBroken) := goodIn_app (goodIn_of _ (by decide +kernel)) ggX9_solves_X9_firstBroken
theorem dX9_solves_0 : decode cX9_solves 0 = .ok (.aload_n 0, 1) := by decide +kernel
theorem dX9_solves_1 : decode cX9_solves 1 = .ok (.iload_n 1, 1) := by decide +kernel
theorem dX9_solves_2 : decode cX9_solves 2 = .ok (.invokevirtual 162, 3) := by decide +kernel
theorem dX9_solves_5 : decode cX9_solves 5 = .ok (.ifCond .ne 8, 3) := by decide +kernel
theorem dX9_solves_8 : decode cX9_solves 8 = .ok (.bipush (-5), 2) := by decide +kernel
theorem dX9_solves_10 : decode cX9_solves 10 = .ok (.goto 23, 3) := by decide +kernel
theorem dX9_solves_13 : decode cX9_solves 13 = .ok (.aload_n 0, 1) := by decide +kernel
theorem dX9_solves_14 : decode cX9_solves 14 = .ok (.iload_n 1, 1) := by decide +kernel
theorem dX9_solves_15 : decode cX9_solves 15 = .ok (.iload_n 2, 1) := by decide +kernel
theorem dX9_solves_16 : decode cX9_solves 16 = .ok (.invokevirtual 174, 3) := by decide +kernel
theorem dX9_solves_19 : decode cX9_solves 19 = .ok (.ifCond .eq 12, 3) := by decide +kernel
theorem dX9_solves_22 : decode cX9_solves 22 = .ok (.aload_n 0, 1) := by decide +kernel
theorem dX9_solves_23 : decode cX9_solves 23 = .ok (.iload_n 1, 1) := by decide +kernel
theorem dX9_solves_24 : decode cX9_solves 24 = .ok (.iload_n 2, 1) := by decide +kernel
theorem dX9_solves_25 : decode cX9_solves 25 = .ok (.invokevirtual 171, 3) := by decide +kernel
theorem dX9_solves_28 : decode cX9_solves 28 = .ok (.goto 5, 3) := by decide +kernel
theorem dX9_solves_31 : decode cX9_solves 31 = .ok (.bipush (-2), 2) := by decide +kernel
theorem dX9_solves_33 : decode cX9_solves 33 = .ok (.ireturn, 1) := by decide +kernel
set_option maxRecDepth 20000 in
theorem ggX9_answersOf_X9_doesSolve : GoodIn wsX9_answersOf wsX9_doesSolve := goodIn_r _ [6, 7, 8, 9, 5, 10, 11, 12, 13, 14, 15, 16, 17, 18, 19, 20, 21, 22, 23, 24, 25, 26, 27, 28, 29, 30, 31, 32, 33, 34, 35, 36, 37, 38, 39, 40, 41, 42, 43, 44, 45, 46, 47, 48, 49, 50, 51, 52, 53, 54, 55, 56, 57, 58, 59, 60] (by decide +kernel) (by decide +kernel)
