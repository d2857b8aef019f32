theorem dX6_days_10 : decode cX6_days 10 = .ok (.iconst (-1), 1) := by decide +kernel
theorem dX6_days_11 : decode cX6_days 11 = .ok (.ireturn, 1) := by decide +kernel
theorem dX6_days_12 : decode cX6_days 12 = .ok (.aload_n 0, 1) := by decide +kernel
theorem dX6_days_13 : decode cX6_days 13 = .ok (.getfield 12, 3) := by decide +kernel
theorem dX6_days_16 : decode cX6_days 16 = .ok (.getfield 58, 3) := by decide +kernel
theorem dX6_days_19 : decode cX6_days 19 = .ok (.iload_n 1, 1) := by decide +kernel
theorem dX6_days_20 : decode cX6_days 20 = .ok (.iadd, 1) := by decide +kernel
theorem dX6_days_21 : decode cX6_days 21 = .ok (.sipush 200, 3) := by decide +kernel
theorem dX6_days_24 : decode cX6_days 24 = .ok (.if_icmp .le 6, 3) := by decide +kernel
theorem dX6_days_27 : decode cX6_days 27 = .ok (.bipush (-4), 2) := by decide +kernel
theorem dX6_days_29 : decode cX6_days 29 = .ok (.ireturn, 1) := by decide +kernel
theorem dX6_days_30 : decode cX6_days 30 = .ok (.aload_n 0, 1) := by decide +kernel
theorem dX6_days_31 : decode cX6_days 31 = .ok (.getfield 12, 3) := by decide +kernel
theorem dX6_days_34 : decode cX6_days 34 = .ok (.dup, 1) := by decide +kernel
theorem dX6_days_35 : decode cX6_days 35 = .ok (.getfield 58, 3) := by decide +kernel
theorem dX6_days_38 : decode cX6_days 38 = .ok (.iload_n 1, 1) := by decide +kernel
theorem dX6_days_39 : decode cX6_days 39 = .ok (.iadd, 1) := by decide +kernel
theorem dX6_days_40 : decode cX6_days 40 = .ok (.putfield 58, 3) := by decide +kernel
theorem dX6_days_43 : decode cX6_days 43 = .ok (.aload_n 0, 1) := by decide +kernel
theorem dX6_days_44 : decode cX6_days 44 = .ok (.getfield 12, 3) := by decide +kernel
theorem dX6_days_47 : decode cX6_days 47 = .ok (.getfield 58, 3) := by decide +kernel
theorem dX6_days_50 : decode cX6_days 50 = .ok (.ireturn, 1) := by decide +kernel
set_option maxRecDepth 20000 in
theorem ggX6_box_X6_isMark : GoodIn wsX6_box wsX6_isMark := goodIn_r _ [7, 8, 9, 6, 10] (by decide +kernel) (by decide +kernel)
set_option maxRecDepth 20000 in
theorem gX6_box_X6_isMark : GoodIn wsX6_box (va_wsS RX6 62 yX6_isMark wsX6_isMark) := goodIn_app (goodIn_of _ (by decide +kernel)) ggX6_box_X6_isMark
set_option maxRecDepth 20000 in
theorem ggX6_box_X6_isKind : GoodIn wsX6_box wsX6_isKind := goodIn_r _ [13, 8, 9, 6, 10] (by decide +kernel) (by decide +kernel)
set_option maxRecDepth 20000 in
theorem gX6_box_X6_isKind : GoodIn wsX6_box (va_wsS RX6 66 yX6_isKind wsX6_isKind) := goodIn_app (goodIn_of _ (by decide +kernel)) ggX6_box_X6_isKind
set_option maxRecDepth 20000 in
theorem ggX6_box_X6_isLine : GoodIn wsX6_box wsX6_isLine := goodIn_r _ [16, 8, 9, 6, 10] (by decide +kernel) (by decide +kernel)
set_option maxRecDepth 20000 in
theorem gX6_box_X6_isLine : GoodIn wsX6_box (va_wsS RX6 69 yX6_isLine wsX6_isLine) := goodIn_app (goodIn_of _ (by decide +kernel)) ggX6_box_X6_isLine
set_option maxRecDepth 20000 in
theorem ggX6_box_X6_isLease : GoodIn wsX6_box wsX6_isLease := goodIn_r _ [19, 8, 9, 6, 10] (by decide +kernel) (by decide +kernel)
set_option maxRecDepth 20000 in
theorem gX6_box_X6_isLease : GoodIn wsX6_box (va_wsS RX6 72 yX6_isLease wsX6_isLease) := goodIn_app (goodIn_of _ (by decide +kernel)) ggX6_box_X6_isLease
set_option maxRecDepth 20000 in
theorem ggX6_box_X6_boxOfMark : GoodIn wsX6_box wsX6_boxOfMark := goodIn_r _ [23, 1, 2, 24, 25, 26, 27, 28, 29, 30, 31, 32, 33, 34, 35, 36, 37, 38, 39, 59, 60, 61, 62, 63, 64, 65, 66, 67, 68, 69, 70, 71, 72, 73, 74, 75, 76, 77, 78, 79, 80, 81, 82, 83] (by decide +kernel) (by decide +kernel)
set_option maxRecDepth 20000 in
theorem gX6_box_X6_boxOfMark : GoodIn wsX6_box (wsV RX6 75 RX6 yX6_boxOfMark wsX6_boxOfMark) := goodIn_app (goodIn_of _ (by decide +kernel)) ggX6_box_X6_boxOfMark
set_option maxRecDepth 20000 in
theorem ggX6_box_X6_wasRead : GoodIn wsX6_box wsX6_wasRead := goodIn_r _ [43, 1, 44, 30, 31, 32, 27, 33, 34, 35, 36, 37, 38, 39, 29, 59, 60, 61, 62, 63, 64, 65, 66, 67, 68, 69, 70, 71, 72, 73, 74, 75, 76, 77, 78, 79, 80, 81, 82, 83] (by decide +kernel) (by decide +kernel)
set_option maxRecDepth 20000 in
theorem gX6_box_X6_wasRead : GoodIn wsX6_box (wsV RX6 79 RX6 yX6_wasRead wsX6_wasRead) := goodIn_app (goodIn_of _ (by decide +kernel)) ggX6_box_X6_wasRead
set_option maxRecDepth 20000 in
theorem ggX6_box_X4_isFull : GoodIn wsX6_box wsX4_isFull := goodIn_r _ [48, 29, 49, 80, 81, 82, 83] (by decide +kernel) (by decide +kernel)
set_option maxRecDepth 20000 in
theorem gX6_box_X4_isFull : GoodIn wsX6_box (wsV RX6 86 RX4 yX4_isFull wsX4_isFull) := goodIn_app (goodIn_of _ (by decide +kernel)) ggX6_box_X4_isFull
set_option maxRecDepth 20000 in
theorem ggX6_box_X4_grow : GoodIn wsX6_box wsX4_grow := goodIn_r _ [53, 29, 54, 46, 47, 27, 48, 49, 80, 81, 82, 83] (by decide +kernel) (by decide +kernel)
set_option maxRecDepth 20000 in
theorem gX6_box_X4_grow : GoodIn wsX6_box (wsV RX6 92 RX4 yX4_grow wsX4_grow) := goodIn_app (goodIn_of _ (by decide +kernel)) ggX6_box_X4_grow
set_option maxRecDepth 20000 in
theorem ggX6_box_X4_put : GoodIn wsX6_box wsX4_put := goodIn_r _ [58, 34, 35, 36, 37, 38, 27, 39, 29, 80, 81, 82, 83] (by decide +kernel) (by decide +kernel)
set_option maxRecDepth 20000 in
theorem gX6_box_X4_put : GoodIn wsX6_box (wsV RX6 96 RX4 yX4_put wsX4_put) := goodIn_app (goodIn_of _ (by decide +kernel)) ggX6_box_X4_put
theorem dX6_box_0 : decode cX6_box 0 = .ok (.iload_n 1, 1) := by decide +kernel
theorem dX6_box_1 : decode cX6_box 1 = .ok (.invokestatic 62, 3) := by decide +kernel
theorem dX6_box_4 : decode cX6_box 4 = .ok (.ifCond .eq 31, 3) := by decide +kernel
theorem dX6_box_7 : decode cX6_box 7 = .ok (.iload_n 2, 1) := by decide +kernel
theorem dX6_box_8 : decode cX6_box 8 = .ok (.invokestatic 66, 3) := by decide +kernel
theorem dX6_box_11 : decode cX6_box 11 = .ok (.ifCond .eq 24, 3) := by decide +kernel
theorem dX6_box_14 : decode cX6_box 14 = .ok (.iload_n 3, 1) := by decide +kernel
theorem dX6_box_15 : decode cX6_box 15 = .ok (.invokestatic 69, 3) := by decide +kernel
theorem dX6_box_18 : decode cX6_box 18 = .ok (.ifCond .eq 17, 3) := by decide +kernel
theorem dX6_box_21 : decode cX6_box 21 = .ok (.iload 4, 2) := by decide +kernel
theorem dX6_box_23 : decode cX6_box 23 = .ok (.iconst (-1), 1) := by decide +kernel
theorem dX6_box_24 : decode cX6_box 24 = .ok (.if_icmp .eq 13, 3) := by decide +kernel
theorem dX6_box_27 : decode cX6_box 27 = .ok (.iload 4, 2) := by decide +kernel
theorem dX6_box_29 : decode cX6_box 29 = .ok (.invokestatic 72, 3) := by decide +kernel
theorem dX6_box_32 : decode cX6_box 32 = .ok (.ifCond .ne 5, 3) := by decide +kernel
theorem dX6_box_35 : decode cX6_box 35 = .ok (.iconst (-1), 1) := by decide +kernel
theorem dX6_box_36 : decode cX6_box 36 = .ok (.ireturn, 1) := by decide +kernel
theorem dX6_box_37 : decode cX6_box 37 = .ok (.aload_n 0, 1) := by decide +kernel
theorem dX6_box_38 : decode cX6_box 38 = .ok (.iload_n 1, 1) := by decide +kernel
theorem dX6_box_39 : decode cX6_box 39 = .ok (.invokevirtual 75, 3) := by decide +kernel
theorem dX6_box_42 : decode cX6_box 42 = .ok (.ifCond .ge 17, 3) := by decide +kernel
theorem dX6_box_45 : decode cX6_box 45 = .ok (.iload 4, 2) := by decide +kernel
theorem dX6_box_47 : decode cX6_box 47 = .ok (.ifCond .lt 15, 3) := by decide +kernel
theorem dX6_box_50 : decode cX6_box 50 = .ok (.aload_n 0, 1) := by decide +kernel
theorem dX6_box_51 : decode cX6_box 51 = .ok (.iload 4, 2) := by decide +kernel
theorem dX6_box_53 : decode cX6_box 53 = .ok (.invokevirtual 79, 3) := by decide +kernel
theorem dX6_box_56 : decode cX6_box 56 = .ok (.ifCond .ne 6, 3) := by decide +kernel
theorem dX6_box_59 : decode cX6_box 59 = .ok (.bipush (-4), 2) := by decide +kernel
theorem dX6_box_61 : decode cX6_box 61 = .ok (.ireturn, 1) := by decide +kernel
theorem dX6_box_62 : decode cX6_box 62 = .ok (.aload_n 0, 1) := by decide +kernel
theorem dX6_box_63 : decode cX6_box 63 = .ok (.getfield 12, 3) := by decide +kernel
theorem dX6_box_66 : decode cX6_box 66 = .ok (.getfield 82, 3) := by decide +kernel
theorem dX6_box_69 : decode cX6_box 69 = .ok (.invokevirtual 86, 3) := by decide +kernel
theorem dX6_box_72 : decode cX6_box 72 = .ok (.ifCond .eq 6, 3) := by decide +kernel
theorem dX6_box_75 : decode cX6_box 75 = .ok (.bipush (-2), 2) := by decide +kernel
theorem dX6_box_77 : decode cX6_box 77 = .ok (.ireturn, 1) := by decide +kernel
theorem dX6_box_78 : decode cX6_box 78 = .ok (.aload_n 0, 1) := by decide +kernel
theorem dX6_box_79 : decode cX6_box 79 = .ok (.getfield 12, 3) := by decide +kernel
theorem dX6_box_82 : decode cX6_box 82 = .ok (.getfield 82, 3) := by decide +kernel
theorem dX6_box_85 : decode cX6_box 85 = .ok (.invokevirtual 92, 3) := by decide +kernel
theorem dX6_box_88 : decode cX6_box 88 = .ok (.istore 5, 2) := by decide +kernel
theorem dX6_box_90 : decode cX6_box 90 = .ok (.aload_n 0, 1) := by decide +kernel
theorem dX6_box_91 : decode cX6_box 91 = .ok (.getfield 12, 3) := by decide +kernel
theorem dX6_box_94 : decode cX6_box 94 = .ok (.getfield 82, 3) := by decide +kernel
theorem dX6_box_97 : decode cX6_box 97 = .ok (.iload 5, 2) := by decide +kernel
theorem dX6_box_99 : decode cX6_box 99 = .ok (.iconst 0, 1) := by decide +kernel
theorem dX6_box_100 : decode cX6_box 100 = .ok (.iload_n 1, 1) := by decide +kernel
theorem dX6_box_101 : decode cX6_box 101 = .ok (.invokevirtual 96, 3) := by decide +kernel
theorem dX6_box_104 : decode cX6_box 104 = .ok (.aload_n 0, 1) := by decide +kernel
theorem dX6_box_105 : decode cX6_box 105 = .ok (.getfield 12, 3) := by decide +kernel
theorem dX6_box_108 : decode cX6_box 108 = .ok (.getfield 82, 3) := by decide +kernel
theorem dX6_box_111 : decode cX6_box 111 = .ok (.iload 5, 2) := by decide +kernel
theorem dX6_box_113 : decode cX6_box 113 = .ok (.iconst 1, 1) := by decide +kernel
theorem dX6_box_114 : decode cX6_box 114 = .ok (.iload_n 2, 1) := by decide +kernel
theorem dX6_box_115 : decode cX6_box 115 = .ok (.invokevirtual 96, 3) := by decide +kernel
theorem dX6_box_118 : decode cX6_box 118 = .ok (.aload_n 0, 1) := by decide +kernel
theorem dX6_box_119 : decode cX6_box 119 = .ok (.getfield 12, 3) := by decide +kernel
theorem dX6_box_122 : decode cX6_box 122 = .ok (.getfield 82, 3) := by decide +kernel
theorem dX6_box_125 : decode cX6_box 125 = .ok (.iload 5, 2) := by decide +kernel
theorem dX6_box_127 : decode cX6_box 127 = .ok (.iconst 2, 1) := by decide +kernel
theorem dX6_box_128 : decode cX6_box 128 = .ok (.iload_n 3, 1) := by decide +kernel
theorem dX6_box_129 : decode cX6_box 129 = .ok (.invokevirtual 96, 3) := by decide +kernel
theorem dX6_box_132 : decode cX6_box 132 = .ok (.aload_n 0, 1) := by decide +kernel
theorem dX6_box_133 : decode cX6_box 133 = .ok (.getfield 12, 3) := by decide +kernel
theorem dX6_box_136 : decode cX6_box 136 = .ok (.getfield 82, 3) := by decide +kernel
theorem dX6_box_139 : decode cX6_box 139 = .ok (.iload 5, 2) := by decide +kernel
theorem dX6_box_141 : decode cX6_box 141 = .ok (.iconst 3, 1) := by decide +kernel
theorem dX6_box_142 : decode cX6_box 142 = .ok (.iload 4, 2) := by decide +kernel
theorem dX6_box_144 : decode cX6_box 144 = .ok (.ifCond .lt 8, 3) := by decide +kernel
theorem dX6_box_147 : decode cX6_box 147 = .ok (.iload 4, 2) := by decide +kernel
theorem dX6_box_149 : decode cX6_box 149 = .ok (.goto 5, 3) := by decide +kernel
theorem dX6_box_152 : decode cX6_box 152 = .ok (.bipush (-3), 2) := by decide +kernel
theorem dX6_box_154 : decode cX6_box 154 = .ok (.invokevirtual 96, 3) := by decide +kernel
theorem dX6_box_157 : decode cX6_box 157 = .ok (.aload_n 0, 1) := by decide +kernel
theorem dX6_box_158 : decode cX6_box 158 = .ok (.getfield 12, 3) := by decide +kernel
theorem dX6_box_161 : decode cX6_box 161 = .ok (.getfield 82, 3) := by decide +kernel
theorem dX6_box_164 : decode cX6_box 164 = .ok (.iload 5, 2) := by decide +kernel
theorem dX6_box_166 : decode cX6_box 166 = .ok (.iconst 4, 1) := by decide +kernel
theorem dX6_box_167 : decode cX6_box 167 = .ok (.aload_n 0, 1) := by decide +kernel
theorem dX6_box_168 : decode cX6_box 168 = .ok (.getfield 12, 3) := by decide +kernel
theorem dX6_box_171 : decode cX6_box 171 = .ok (.getfield 58, 3) := by decide +kernel
theorem dX6_box_174 : decode cX6_box 174 = .ok (.invokevirtual 96, 3) := by decide +kernel
theorem dX6_box_177 : decode cX6_box 177 = .ok (.aload_n 0, 1) := by decide +kernel
theorem dX6_box_178 : decode cX6_box 178 = .ok (.getfield 12, 3) := by decide +kernel
theorem dX6_box_181 : decode cX6_box 181 = .ok (.getfield 82, 3) := by decide +kernel
theorem dX6_box_184 : decode cX6_box 184 = .ok (.iload 5, 2) := by decide +kernel
theorem dX6_box_186 : decode cX6_box 186 = .ok (.iconst 5, 1) := by decide +kernel
theorem dX6_box_187 : decode cX6_box 187 = .ok (.iconst 0, 1) := by decide +kernel
theorem dX6_box_188 : decode cX6_box 188 = .ok (.invokevirtual 96, 3) := by decide +kernel
theorem dX6_box_191 : decode cX6_box 191 = .ok (.aload_n 0, 1) := by decide +kernel
theorem dX6_box_192 : decode cX6_box 192 = .ok (.getfield 12, 3) := by decide +kernel
theorem dX6_box_195 : decode cX6_box 195 = .ok (.getfield 82, 3) := by decide +kernel
theorem dX6_box_198 : decode cX6_box 198 = .ok (.iload 5, 2) := by decide +kernel
theorem dX6_box_200 : decode cX6_box 200 = .ok (.bipush 6, 2) := by decide +kernel
theorem dX6_box_202 : decode cX6_box 202 = .ok (.bipush (-3), 2) := by decide +kernel
theorem dX6_box_204 : decode cX6_box 204 = .ok (.invokevirtual 96, 3) := by decide +kernel
theorem dX6_box_207 : decode cX6_box 207 = .ok (.aload_n 0, 1) := by decide +kernel
theorem dX6_box_208 : decode cX6_box 208 = .ok (.getfield 12, 3) := by decide +kernel
theorem dX6_box_211 : decode cX6_box 211 = .ok (.getfield 82, 3) := by decide +kernel
theorem dX6_box_214 : decode cX6_box 214 = .ok (.iload 5, 2) := by decide +kernel
theorem dX6_box_216 : decode cX6_box 216 = .ok (.bipush 7, 2) := by decide +kernel
theorem dX6_box_218 : decode cX6_box 218 = .ok (.bipush (-3), 2) := by decide +kernel
theorem dX6_box_220 : decode cX6_box 220 = .ok (.invokevirtual 96, 3) := by decide +kernel
theorem dX6_box_223 : decode cX6_box 223 = .ok (.aload_n 0, 1) := by decide +kernel
theorem dX6_box_224 : decode cX6_box 224 = .ok (.getfield 12, 3) := by decide +kernel
theorem dX6_box_227 : decode cX6_box 227 = .ok (.getfield 82, 3) := by decide +kernel
theorem dX6_box_230 : decode cX6_box 230 = .ok (.iload 5, 2) := by decide +kernel
theorem dX6_box_232 : decode cX6_box 232 = .ok (.bipush 8, 2) := by decide +kernel
theorem dX6_box_234 : decode cX6_box 234 = .ok (.bipush (-3), 2) := by decide +kernel
theorem dX6_box_236 : decode cX6_box 236 = .ok (.invokevirtual 96, 3) := by decide +kernel
theorem dX6_box_239 : decode cX6_box 239 = .ok (.iload 5, 2) := by decide +kernel
theorem dX6_box_241 : decode cX6_box 241 = .ok (.ireturn, 1) := by decide +kernel
set_option maxRecDepth 20000 in
theorem ggX6_check_X6_isMark : GoodIn wsX6_check wsX6_isMark := goodIn_r _ [4, 5, 6, 3, 7] (by decide +kernel) (by decide +kernel)
set_option maxRecDepth 20000 in
theorem gX6_check_X6_isMark : GoodIn wsX6_check (va_wsS RX6 62 yX6_isMark wsX6_isMark) := goodIn_app (goodIn_of _ (by decide +kernel)) ggX6_check_X6_isMark
set_option maxRecDepth 20000 in
theorem ggX6_check_X6_checkDigit : GoodIn wsX6_check wsX6_checkDigit := goodIn_r _ [10] (by decide +kernel) (by decide +kernel)
set_option maxRecDepth 20000 in
theorem gX6_check_X6_checkDigit : GoodIn wsX6_check (va_wsS RX6 100 yX6_checkDigit wsX6_checkDigit) := goodIn_app (goodIn_of _ (by decide +kernel)) ggX6_check_X6_checkDigit
theorem dX6_check_0 : decode cX6_check 0 = .ok (.iload_n 1, 1) := by decide +kernel
theorem dX6_check_1 : decode cX6_check 1 = .ok (.invokestatic 62, 3) := by decide +kernel
theorem dX6_check_4 : decode cX6_check 4 = .ok (.ifCond .eq 10, 3) := by decide +kernel
theorem dX6_check_7 : decode cX6_check 7 = .ok (.iload_n 1, 1) := by decide +kernel
theorem dX6_check_8 : decode cX6_check 8 = .ok (.invokestatic 100, 3) := by decide +kernel
theorem dX6_check_11 : decode cX6_check 11 = .ok (.goto 4, 3) := by decide +kernel
theorem dX6_check_14 : decode cX6_check 14 = .ok (.iconst (-1), 1) := by decide +kernel
theorem dX6_check_15 : decode cX6_check 15 = .ok (.ireturn, 1) := by decide +kernel
set_option maxRecDepth 20000 in
theorem ggX6_find_X6_isWithin : GoodIn wsX6_find wsX6_isWithin := goodIn_r _ [5] (by decide +kernel) (by decide +kernel)
set_option maxRecDepth 20000 in
theorem gX6_find_X6_isWithin : GoodIn wsX6_find (va_wsS RX6 54 yX6_isWithin wsX6_isWithin) := goodIn_app (goodIn_of _ (by decide +kernel)) ggX6_find_X6_isWithin
set_option maxRecDepth 20000 in
theorem ggX6_find_X6_boxOfMark : GoodIn wsX6_find wsX6_boxOfMark := goodIn_r _ [9, 10, 11, 12, 13, 14, 15, 16, 17, 18, 19, 20, 21, 22, 23, 24, 25, 26, 27, 42, 43, 44, 45, 46, 47, 48, 49, 50, 51, 52, 53, 54, 55, 56, 57, 58, 59, 60, 61, 62, 63, 64, 65, 66] (by decide +kernel) (by decide +kernel)
set_option maxRecDepth 20000 in
theorem gX6_find_X6_boxOfMark : GoodIn wsX6_find (wsV RX6 75 RX6 yX6_boxOfMark wsX6_boxOfMark) := goodIn_app (goodIn_of _ (by decide +kernel)) ggX6_find_X6_boxOfMark
set_option maxRecDepth 20000 in
theorem ggX6_find_X6_fiveDigits : GoodIn wsX6_find wsX6_fiveDigits := goodIn_r _ [31, 10, 11, 18, 19, 20, 15, 21, 22, 23, 24, 25, 26, 27, 17, 32, 33, 4, 34, 42, 43, 44, 45, 46, 47, 48, 49, 50, 51, 52, 53, 54, 55, 56, 57, 58, 59, 60, 61, 62, 63, 64, 65, 66] (by decide +kernel) (by decide +kernel)
set_option maxRecDepth 20000 in
theorem gX6_find_X6_fiveDigits : GoodIn wsX6_find (wsV RX6 104 RX6 yX6_fiveDigits wsX6_fiveDigits) := goodIn_app (goodIn_of _ (by decide +kernel)) ggX6_find_X6_fiveDigits
set_option maxRecDepth 20000 in
theorem ggX6_find_X6_onlyBoxNear : GoodIn wsX6_find wsX6_onlyBoxNear := goodIn_r _ [38, 10, 11, 12, 13, 14, 15, 16, 17, 28, 29, 30, 4, 31, 18, 19, 20, 21, 22, 23, 24, 25, 26, 27, 32, 33, 34, 39, 40, 41, 42, 43, 44, 45, 46, 47, 48, 49, 50, 51, 52, 53, 54, 55, 56, 57, 58, 59, 60, 61, 62, 63, 64, 65, 66] (by decide +kernel) (by decide +kernel)
set_option maxRecDepth 20000 in
theorem gX6_find_X6_onlyBoxNear : GoodIn wsX6_find (wsV RX6 107 RX6 yX6_onlyBoxNear wsX6_onlyBoxNear) := goodIn_app (goodIn_of _ (by decide +kernel)) ggX6_find_X6_onlyBoxNear
theorem dX6_find_0 : decode cX6_find 0 = .ok (.iload_n 1, 1) := by decide +kernel
theorem dX6_find_1 : decode cX6_find 1 = .ok (.iconst 0, 1) := by decide +kernel
theorem dX6_find_2 : decode cX6_find 2 = .ok (.ldc 103, 2) := by decide +kernel
theorem dX6_find_4 : decode cX6_find 4 = .ok (.invokestatic 54, 3) := by decide +kernel
theorem dX6_find_7 : decode cX6_find 7 = .ok (.ifCond .ne 5, 3) := by decide +kernel
theorem dX6_find_10 : decode cX6_find 10 = .ok (.iconst (-1), 1) := by decide +kernel
theorem dX6_find_11 : decode cX6_find 11 = .ok (.ireturn, 1) := by decide +kernel
theorem dX6_find_12 : decode cX6_find 12 = .ok (.aload_n 0, 1) := by decide +kernel
theorem dX6_find_13 : decode cX6_find 13 = .ok (.iload_n 1, 1) := by decide +kernel
theorem dX6_find_14 : decode cX6_find 14 = .ok (.bipush 10, 2) := by decide +kernel
theorem dX6_find_16 : decode cX6_find 16 = .ok (.idiv, 1) := by decide +kernel
theorem dX6_find_17 : decode cX6_find 17 = .ok (.invokevirtual 75, 3) := by decide +kernel
theorem dX6_find_20 : decode cX6_find 20 = .ok (.istore_n 2, 1) := by decide +kernel
theorem dX6_find_21 : decode cX6_find 21 = .ok (.iload_n 2, 1) := by decide +kernel
theorem dX6_find_22 : decode cX6_find 22 = .ok (.ifCond .lt 14, 3) := by decide +kernel
theorem dX6_find_25 : decode cX6_find 25 = .ok (.aload_n 0, 1) := by decide +kernel
theorem dX6_find_26 : decode cX6_find 26 = .ok (.iload_n 2, 1) := by decide +kernel
theorem dX6_find_27 : decode cX6_find 27 = .ok (.invokevirtual 104, 3) := by decide +kernel
theorem dX6_find_30 : decode cX6_find 30 = .ok (.iload_n 1, 1) := by decide +kernel
theorem dX6_find_31 : decode cX6_find 31 = .ok (.if_icmp .ne 5, 3) := by decide +kernel
theorem dX6_find_34 : decode cX6_find 34 = .ok (.iload_n 2, 1) := by decide +kernel
theorem dX6_find_35 : decode cX6_find 35 = .ok (.ireturn, 1) := by decide +kernel
theorem dX6_find_36 : decode cX6_find 36 = .ok (.aload_n 0, 1) := by decide +kernel
theorem dX6_find_37 : decode cX6_find 37 = .ok (.iload_n 1, 1) := by decide +kernel
theorem dX6_find_38 : decode cX6_find 38 = .ok (.invokevirtual 107, 3) := by decide +kernel
theorem dX6_find_41 : decode cX6_find 41 = .ok (.ireturn, 1) := by decide +kernel
set_option maxRecDepth 20000 in
theorem ggX6_of_X4_has : GoodIn wsX6_of wsX4_has := goodIn_r _ [7, 8, 44, 45, 46, 47] (by decide +kernel) (by decide +kernel)
set_option maxRecDepth 20000 in
theorem gX6_of_X4_has : GoodIn wsX6_of (wsV RX6 110 RX4 yX4_has wsX4_has) := goodIn_app (goodIn_of _ (by decide +kernel)) ggX6_of_X4_has
set_option maxRecDepth 20000 in
theorem ggX6_of_X6_isWithin : GoodIn wsX6_of wsX6_isWithin := goodIn_r _ [12] (by decide +kernel) (by decide +kernel)
set_option maxRecDepth 20000 in
theorem gX6_of_X6_isWithin : GoodIn wsX6_of (va_wsS RX6 54 yX6_isWithin wsX6_isWithin) := goodIn_app (goodIn_of _ (by decide +kernel)) ggX6_of_X6_isWithin
set_option maxRecDepth 20000 in
theorem ggX6_of_X4_cell : GoodIn wsX6_of wsX4_cell := goodIn_r _ [16, 17, 18, 19, 20, 21, 6, 22, 8, 44, 45, 46, 47] (by decide +kernel) (by decide +kernel)
set_option maxRecDepth 20000 in
theorem gX6_of_X4_cell : GoodIn wsX6_of (wsV RX6 113 RX4 yX4_cell wsX4_cell) := goodIn_app (goodIn_of _ (by decide +kernel)) ggX6_of_X4_cell
theorem dX6_of_0 : decode cX6_of 0 = .ok (.aload_n 0, 1) := by decide +kernel
theorem dX6_of_1 : decode cX6_of 1 = .ok (.getfield 12, 3) := by decide +kernel
theorem dX6_of_4 : decode cX6_of 4 = .ok (.getfield 82, 3) := by decide +kernel
theorem dX6_of_7 : decode cX6_of 7 = .ok (.iload_n 1, 1) := by decide +kernel
theorem dX6_of_8 : decode cX6_of 8 = .ok (.invokevirtual 110, 3) := by decide +kernel
theorem dX6_of_11 : decode cX6_of 11 = .ok (.ifCond .eq 13, 3) := by decide +kernel
theorem dX6_of_14 : decode cX6_of 14 = .ok (.iload_n 2, 1) := by decide +kernel
theorem dX6_of_15 : decode cX6_of 15 = .ok (.iconst 0, 1) := by decide +kernel
theorem dX6_of_16 : decode cX6_of 16 = .ok (.bipush 6, 2) := by decide +kernel
theorem dX6_of_18 : decode cX6_of 18 = .ok (.invokestatic 54, 3) := by decide +kernel
theorem dX6_of_21 : decode cX6_of 21 = .ok (.ifCond .ne 5, 3) := by decide +kernel
theorem dX6_of_24 : decode cX6_of 24 = .ok (.iconst (-1), 1) := by decide +kernel
theorem dX6_of_25 : decode cX6_of 25 = .ok (.ireturn, 1) := by decide +kernel
theorem dX6_of_26 : decode cX6_of 26 = .ok (.aload_n 0, 1) := by decide +kernel
theorem dX6_of_27 : decode cX6_of 27 = .ok (.getfield 12, 3) := by decide +kernel
theorem dX6_of_30 : decode cX6_of 30 = .ok (.getfield 82, 3) := by decide +kernel
theorem dX6_of_33 : decode cX6_of 33 = .ok (.iload_n 1, 1) := by decide +kernel
theorem dX6_of_34 : decode cX6_of 34 = .ok (.iload_n 2, 1) := by decide +kernel
theorem dX6_of_35 : decode cX6_of 35 = .ok (.invokevirtual 113, 3) := by decide +kernel
theorem dX6_of_38 : decode cX6_of 38 = .ok (.ireturn, 1) := by decide +kernel
theorem dX6_isWithin_0 : decode cX6_isWithin 0 = .ok (.iload_n 0, 1) := by decide +kernel
theorem dX6_isWithin_1 : decode cX6_isWithin 1 = .ok (.iload_n 1, 1) := by decide +kernel
theorem dX6_isWithin_2 : decode cX6_isWithin 2 = .ok (.if_icmp .lt 12, 3) := by decide +kernel
theorem dX6_isWithin_5 : decode cX6_isWithin 5 = .ok (.iload_n 0, 1) := by decide +kernel
theorem dX6_isWithin_6 : decode cX6_isWithin 6 = .ok (.iload_n 2, 1) := by decide +kernel
theorem dX6_isWithin_7 : decode cX6_isWithin 7 = .ok (.if_icmp .gt 7, 3) := by decide +kernel
theorem dX6_isWithin_10 : decode cX6_isWithin 10 = .ok (.iconst 1, 1) := by decide +kernel
theorem dX6_isWithin_11 : decode cX6_isWithin 11 = .ok (.goto 4, 3) := by decide +kernel
theorem dX6_isWithin_14 : decode cX6_isWithin 14 = .ok (.iconst 0, 1) := by decide +kernel
theorem dX6_isWithin_15 : decode cX6_isWithin 15 = .ok (.ireturn, 1) := by decide +kernel
set_option maxRecDepth 20000 in
theorem ggX6_isMark_X6_isWithin : GoodIn wsX6_isMark wsX6_isWithin := goodIn_r _ [4] (by decide +kernel) (by decide +kernel)
set_option maxRecDepth 20000 in
theorem gX6_isMark_X6_isWithin : GoodIn wsX6_isMark (va_wsS RX6 54 yX6_isWithin wsX6_isWithin) := goodIn_app (goodIn_of _ (by decide +kernel)) ggX6_isMark_X6_isWithin
theorem dX6_isMark_0 : decode cX6_isMark 0 = .ok (.iload_n 0, 1) := by decide +kernel
theorem dX6_isMark_1 : decode cX6_isMark 1 = .ok (.iconst 0, 1) := by decide +kernel
theorem dX6_isMark_2 : decode cX6_isMark 2 = .ok (.sipush 9999, 3) := by decide +kernel
theorem dX6_isMark_5 : decode cX6_isMark 5 = .ok (.invokestatic 54, 3) := by decide +kernel
theorem dX6_isMark_8 : decode cX6_isMark 8 = .ok (.ireturn, 1) := by decide +kernel
set_option maxRecDepth 20000 in
theorem ggX6_isKind_X6_isWithin : GoodIn wsX6_isKind wsX6_isWithin := goodIn_r _ [4] (by decide +kernel) (by decide +kernel)
set_option maxRecDepth 20000 in
theorem gX6_isKind_X6_isWithin : GoodIn wsX6_isKind (va_wsS RX6 54 yX6_isWithin wsX6_isWithin) := goodIn_app (goodIn_of _ (by decide +kernel)) ggX6_isKind_X6_isWithin
theorem dX6_isKind_0 : decode cX6_isKind 0 = .ok (.iload_n 0, 1) := by decide +kernel
theorem dX6_isKind_1 : decode cX6_isKind 1 = .ok (.iconst 0, 1) := by decide +kernel
theorem dX6_isKind_2 : decode cX6_isKind 2 = .ok (.iconst 2, 1) := by decide +kernel
theorem dX6_isKind_3 : decode cX6_isKind 3 = .ok (.invokestatic 54, 3) := by decide +kernel
theorem dX6_isKind_6 : decode cX6_isKind 6 = .ok (.ireturn, 1) := by decide +kernel
set_option maxRecDepth 20000 in
theorem ggX6_isLine_X6_isWithin : GoodIn wsX6_isLine wsX6_isWithin := goodIn_r _ [4] (by decide +kernel) (by decide +kernel)
set_option maxRecDepth 20000 in
theorem gX6_isLine_X6_isWithin : GoodIn wsX6_isLine (va_wsS RX6 54 yX6_isWithin wsX6_isWithin) := goodIn_app (goodIn_of _ (by decide +kernel)) ggX6_isLine_X6_isWithin
theorem dX6_isLine_0 : decode cX6_isLine 0 = .ok (.iload_n 0, 1) := by decide +kernel
theorem dX6_isLine_1 : decode cX6_isLine 1 = .ok (.iconst 0, 1) := by decide +kernel
theorem dX6_isLine_2 : decode cX6_isLine 2 = .ok (.iconst 3, 1) := by decide +kernel
theorem dX6_isLine_3 : decode cX6_isLine 3 = .ok (.invokestatic 54, 3) := by decide +kernel
theorem dX6_isLine_6 : decode cX6_isLine 6 = .ok (.ireturn, 1) := by decide +kernel
set_option maxRecDepth 20000 in
theorem ggX6_isLease_X6_isWithin : GoodIn wsX6_isLease wsX6_isWithin := goodIn_r _ [4] (by decide +kernel) (by decide +kernel)
set_option maxRecDepth 20000 in
theorem gX6_isLease_X6_isWithin : GoodIn wsX6_isLease (va_wsS RX6 54 yX6_isWithin wsX6_isWithin) := goodIn_app (goodIn_of _ (by decide +kernel)) ggX6_isLease_X6_isWithin
theorem dX6_isLease_0 : decode cX6_isLease 0 = .ok (.iload_n 0, 1) := by decide +kernel
theorem dX6_isLease_1 : decode cX6_isLease 1 = .ok (.iconst 0, 1) := by decide +kernel
theorem dX6_isLease_2 : decode cX6_isLease 2 = .ok (.iconst 2, 1) := by decide +kernel
theorem dX6_isLease_3 : decode cX6_isLease 3 = .ok (.invokestatic 54, 3) := by decide +kernel
theorem dX6_isLease_6 : decode cX6_isLease 6 = .ok (.ireturn, 1) := by decide +kernel
set_option maxRecDepth 20000 in
theorem ggX6_isPlace_X6_isWithin : GoodIn wsX6_isPlace wsX6_isWithin := goodIn_r _ [4] (by decide +kernel) (by decide +kernel)
set_option maxRecDepth 20000 in
theorem gX6_isPlace_X6_isWithin : GoodIn wsX6_isPlace (va_wsS RX6 54 yX6_isWithin wsX6_isWithin) := goodIn_app (goodIn_of _ (by decide +kernel)) ggX6_isPlace_X6_isWithin
theorem dX6_isPlace_0 : decode cX6_isPlace 0 = .ok (.iload_n 0, 1) := by decide +kernel
theorem dX6_isPlace_1 : decode cX6_isPlace 1 = .ok (.iconst 0, 1) := by decide +kernel
theorem dX6_isPlace_2 : decode cX6_isPlace 2 = .ok (.iconst 5, 1) := by decide +kernel
theorem dX6_isPlace_3 : decode cX6_isPlace 3 = .ok (.invokestatic 54, 3) := by decide +kernel
theorem dX6_isPlace_6 : decode cX6_isPlace 6 = .ok (.ireturn, 1) := by decide +kernel
set_option maxRecDepth 20000 in
theorem ggX6_isDay_X6_isWithin : GoodIn wsX6_isDay wsX6_isWithin := goodIn_r _ [4] (by decide +kernel) (by decide +kernel)
set_option maxRecDepth 20000 in
theorem gX6_isDay_X6_isWithin : GoodIn wsX6_isDay (va_wsS RX6 54 yX6_isWithin wsX6_isWithin) := goodIn_app (goodIn_of _ (by decide +kernel)) ggX6_isDay_X6_isWithin
theorem dX6_isDay_0 : decode cX6_isDay 0 = .ok (.iload_n 0, 1) := by decide +kernel
theorem dX6_isDay_1 : decode cX6_isDay 1 = .ok (.iconst 0, 1) := by decide +kernel
theorem dX6_isDay_2 : decode cX6_isDay 2 = .ok (.sipush 200, 3) := by decide +kernel
theorem dX6_isDay_5 : decode cX6_isDay 5 = .ok (.invokestatic 54, 3) := by decide +kernel
theorem dX6_isDay_8 : decode cX6_isDay 8 = .ok (.ireturn, 1) := by decide +kernel
set_option maxRecDepth 20000 in
theorem ggX6_isPastDay_X6_isWithin : GoodIn wsX6_isPastDay wsX6_isWithin := goodIn_r _ [6] (by decide +kernel) (by decide +kernel)
set_option maxRecDepth 20000 in
theorem gX6_isPastDay_X6_isWithin : GoodIn wsX6_isPastDay (va_wsS RX6 54 yX6_isWithin wsX6_isWithin) := goodIn_app (goodIn_of _ (by decide +kernel)) ggX6_isPastDay_X6_isWithin
theorem dX6_isPastDay_0 : decode cX6_isPastDay 0 = .ok (.iload_n 1, 1) := by decide +kernel
theorem dX6_isPastDay_1 : decode cX6_isPastDay 1 = .ok (.iconst 0, 1) := by decide +kernel
theorem dX6_isPastDay_2 : decode cX6_isPastDay 2 = .ok (.aload_n 0, 1) := by decide +kernel
theorem dX6_isPastDay_3 : decode cX6_isPastDay 3 = .ok (.getfield 12, 3) := by decide +kernel
theorem dX6_isPastDay_6 : decode cX6_isPastDay 6 = .ok (.getfield 58, 3) := by decide +kernel
theorem dX6_isPastDay_9 : decode cX6_isPastDay 9 = .ok (.invokestatic 54, 3) := by decide +kernel
theorem dX6_isPastDay_12 : decode cX6_isPastDay 12 = .ok (.ireturn, 1) := by decide +kernel
theorem dX6_checkDigit_0 : decode cX6_checkDigit 0 = .ok (.iload_n 0, 1) := by decide +kernel
theorem dX6_checkDigit_1 : decode cX6_checkDigit 1 = .ok (.sipush 1000, 3) := by decide +kernel
theorem dX6_checkDigit_4 : decode cX6_checkDigit 4 = .ok (.idiv, 1) := by decide +kernel
theorem dX6_checkDigit_5 : decode cX6_checkDigit 5 = .ok (.iconst 2, 1) := by decide +kernel
theorem dX6_checkDigit_6 : decode cX6_checkDigit 6 = .ok (.iload_n 0, 1) := by decide +kernel
theorem dX6_checkDigit_7 : decode cX6_checkDigit 7 = .ok (.bipush 100, 2) := by decide +kernel
theorem dX6_checkDigit_9 : decode cX6_checkDigit 9 = .ok (.idiv, 1) := by decide +kernel
theorem dX6_checkDigit_10 : decode cX6_checkDigit 10 = .ok (.bipush 10, 2) := by decide +kernel
theorem dX6_checkDigit_12 : decode cX6_checkDigit 12 = .ok (.irem, 1) := by decide +kernel
theorem dX6_checkDigit_13 : decode cX6_checkDigit 13 = .ok (.imul, 1) := by decide +kernel
theorem dX6_checkDigit_14 : decode cX6_checkDigit 14 = .ok (.iadd, 1) := by decide +kernel
theorem dX6_checkDigit_15 : decode cX6_checkDigit 15 = .ok (.iconst 4, 1) := by decide +kernel
theorem dX6_checkDigit_16 : decode cX6_checkDigit 16 = .ok (.iload_n 0, 1) := by decide +kernel
theorem dX6_checkDigit_17 : decode cX6_checkDigit 17 = .ok (.bipush 10, 2) := by decide +kernel
theorem dX6_checkDigit_19 : decode cX6_checkDigit 19 = .ok (.idiv, 1) := by decide +kernel
theorem dX6_checkDigit_20 : decode cX6_checkDigit 20 = .ok (.bipush 10, 2) := by decide +kernel
theorem dX6_checkDigit_22 : decode cX6_checkDigit 22 = .ok (.irem, 1) := by decide +kernel
theorem dX6_checkDigit_23 : decode cX6_checkDigit 23 = .ok (.imul, 1) := by decide +kernel
theorem dX6_checkDigit_24 : decode cX6_checkDigit 24 = .ok (.iadd, 1) := by decide +kernel
theorem dX6_checkDigit_25 : decode cX6_checkDigit 25 = .ok (.bipush 8, 2) := by decide +kernel
theorem dX6_checkDigit_27 : decode cX6_checkDigit 27 = .ok (.iload_n 0, 1) := by decide +kernel
theorem dX6_checkDigit_28 : decode cX6_checkDigit 28 = .ok (.bipush 10, 2) := by decide +kernel
theorem dX6_checkDigit_30 : decode cX6_checkDigit 30 = .ok (.irem, 1) := by decide +kernel
theorem dX6_checkDigit_31 : decode cX6_checkDigit 31 = .ok (.imul, 1) := by decide +kernel
theorem dX6_checkDigit_32 : decode cX6_checkDigit 32 = .ok (.iadd, 1) := by decide +kernel
theorem dX6_checkDigit_33 : decode cX6_checkDigit 33 = .ok (.istore_n 1, 1) := by decide +kernel
theorem dX6_checkDigit_34 : decode cX6_checkDigit 34 = .ok (.iload_n 1, 1) := by decide +kernel
theorem dX6_checkDigit_35 : decode cX6_checkDigit 35 = .ok (.bipush 11, 2) := by decide +kernel
theorem dX6_checkDigit_37 : decode cX6_checkDigit 37 = .ok (.irem, 1) := by decide +kernel
theorem dX6_checkDigit_38 : decode cX6_checkDigit 38 = .ok (.bipush 10, 2) := by decide +kernel
theorem dX6_checkDigit_40 : decode cX6_checkDigit 40 = .ok (.irem, 1) := by decide +kernel
theorem dX6_checkDigit_41 : decode cX6_checkDigit 41 = .ok (.ireturn, 1) := by decide +kernel
set_option maxRecDepth 20000 in
theorem ggX6_boxOfMark_X4_size : GoodIn wsX6_boxOfMark wsX4_size := goodIn_r _ [7, 8, 40, 41, 42, 43] (by decide +kernel) (by decide +kernel)
set_option maxRecDepth 20000 in
theorem gX6_boxOfMark_X4_size : GoodIn wsX6_boxOfMark (wsV RX6 117 RX4 yX4_size wsX4_size) := goodIn_app (goodIn_of _ (by decide +kernel)) ggX6_boxOfMark_X4_size
set_option maxRecDepth 20000 in
theorem ggX6_boxOfMark_X4_cell : GoodIn wsX6_boxOfMark wsX4_cell := goodIn_r _ [12, 13, 14, 15, 16, 17, 6, 18, 8, 40, 41, 42, 43] (by decide +kernel) (by decide +kernel)
set_option maxRecDepth 20000 in
theorem gX6_boxOfMark_X4_cell : GoodIn wsX6_boxOfMark (wsV RX6 113 RX4 yX4_cell wsX4_cell) := goodIn_app (goodIn_of _ (by decide +kernel)) ggX6_boxOfMark_X4_cell
theorem dX6_boxOfMark_0 : decode cX6_boxOfMark 0 = .ok (.iconst 0, 1) := by decide +kernel
theorem dX6_boxOfMark_1 : decode cX6_boxOfMark 1 = .ok (.istore_n 2, 1) := by decide +kernel
theorem dX6_boxOfMark_2 : decode cX6_boxOfMark 2 = .ok (.iload_n 2, 1) := by decide +kernel
theorem dX6_boxOfMark_3 : decode cX6_boxOfMark 3 = .ok (.aload_n 0, 1) := by decide +kernel
theorem dX6_boxOfMark_4 : decode cX6_boxOfMark 4 = .ok (.getfield 12, 3) := by decide +kernel
theorem dX6_boxOfMark_7 : decode cX6_boxOfMark 7 = .ok (.getfield 82, 3) := by decide +kernel
theorem dX6_boxOfMark_10 : decode cX6_boxOfMark 10 = .ok (.invokevirtual 117, 3) := by decide +kernel
theorem dX6_boxOfMark_13 : decode cX6_boxOfMark 13 = .ok (.if_icmp .ge 27, 3) := by decide +kernel
theorem dX6_boxOfMark_16 : decode cX6_boxOfMark 16 = .ok (.aload_n 0, 1) := by decide +kernel
theorem dX6_boxOfMark_17 : decode cX6_boxOfMark 17 = .ok (.getfield 12, 3) := by decide +kernel
theorem dX6_boxOfMark_20 : decode cX6_boxOfMark 20 = .ok (.getfield 82, 3) := by decide +kernel
theorem dX6_boxOfMark_23 : decode cX6_boxOfMark 23 = .ok (.iload_n 2, 1) := by decide +kernel
theorem dX6_boxOfMark_24 : decode cX6_boxOfMark 24 = .ok (.iconst 0, 1) := by decide +kernel
theorem dX6_boxOfMark_25 : decode cX6_boxOfMark 25 = .ok (.invokevirtual 113, 3) := by decide +kernel
theorem dX6_boxOfMark_28 : decode cX6_boxOfMark 28 = .ok (.iload_n 1, 1) := by decide +kernel
theorem dX6_boxOfMark_29 : decode cX6_boxOfMark 29 = .ok (.if_icmp .ne 5, 3) := by decide +kernel
theorem dX6_boxOfMark_32 : decode cX6_boxOfMark 32 = .ok (.iload_n 2, 1) := by decide +kernel
theorem dX6_boxOfMark_33 : decode cX6_boxOfMark 33 = .ok (.ireturn, 1) := by decide +kernel
theorem dX6_boxOfMark_34 : decode cX6_boxOfMark 34 = .ok (.iinc 2 1, 3) := by decide +kernel
theorem dX6_boxOfMark_37 : decode cX6_boxOfMark 37 = .ok (.goto (-35), 3) := by decide +kernel
theorem dX6_boxOfMark_40 : decode cX6_boxOfMark 40 = .ok (.bipush (-3), 2) := by decide +kernel
theorem dX6_boxOfMark_42 : decode cX6_boxOfMark 42 = .ok (.ireturn, 1) := by decide +kernel
set_option maxRecDepth 20000 in
theorem ggX6_fiveDigits_X4_cell : GoodIn wsX6_fiveDigits wsX4_cell := goodIn_r _ [7, 8, 9, 10, 11, 12, 6, 13, 14, 40, 41, 42, 43] (by decide +kernel) (by decide +kernel)
set_option maxRecDepth 20000 in
theorem gX6_fiveDigits_X4_cell : GoodIn wsX6_fiveDigits (wsV RX6 113 RX4 yX4_cell wsX4_cell) := goodIn_app (goodIn_of _ (by decide +kernel)) ggX6_fiveDigits_X4_cell
set_option maxRecDepth 20000 in
theorem ggX6_fiveDigits_X6_checkDigit : GoodIn wsX6_fiveDigits wsX6_checkDigit := goodIn_r _ [18] (by decide +kernel) (by decide +kernel)
set_option maxRecDepth 20000 in
theorem gX6_fiveDigits_X6_checkDigit : GoodIn wsX6_fiveDigits (va_wsS RX6 100 yX6_checkDigit wsX6_checkDigit) := goodIn_app (goodIn_of _ (by decide +kernel)) ggX6_fiveDigits_X6_checkDigit
theorem dX6_fiveDigits_0 : decode cX6_fiveDigits 0 = .ok (.aload_n 0, 1) := by decide +kernel
theorem dX6_fiveDigits_1 : decode cX6_fiveDigits 1 = .ok (.getfield 12, 3) := by decide +kernel
theorem dX6_fiveDigits_4 : decode cX6_fiveDigits 4 = .ok (.getfield 82, 3) := by decide +kernel
theorem dX6_fiveDigits_7 : decode cX6_fiveDigits 7 = .ok (.iload_n 1, 1) := by decide +kernel
theorem dX6_fiveDigits_8 : decode cX6_fiveDigits 8 = .ok (.iconst 0, 1) := by decide +kernel
theorem dX6_fiveDigits_9 : decode cX6_fiveDigits 9 = .ok (.invokevirtual 113, 3) := by decide +kernel
theorem dX6_fiveDigits_12 : decode cX6_fiveDigits 12 = .ok (.istore_n 2, 1) := by decide +kernel
theorem dX6_fiveDigits_13 : decode cX6_fiveDigits 13 = .ok (.iload_n 2, 1) := by decide +kernel
theorem dX6_fiveDigits_14 : decode cX6_fiveDigits 14 = .ok (.bipush 10, 2) := by decide +kernel
theorem dX6_fiveDigits_16 : decode cX6_fiveDigits 16 = .ok (.imul, 1) := by decide +kernel
theorem dX6_fiveDigits_17 : decode cX6_fiveDigits 17 = .ok (.iload_n 2, 1) := by decide +kernel
theorem dX6_fiveDigits_18 : decode cX6_fiveDigits 18 = .ok (.invokestatic 100, 3) := by decide +kernel
theorem dX6_fiveDigits_21 : decode cX6_fiveDigits 21 = .ok (.iadd, 1) := by decide +kernel
theorem dX6_fiveDigits_22 : decode cX6_fiveDigits 22 = .ok (.ireturn, 1) := by decide +kernel
set_option maxRecDepth 20000 in
theorem ggX6_onlyBoxNear_X4_size : GoodIn wsX6_onlyBoxNear wsX4_size := goodIn_r _ [7, 8, 51, 52, 53, 54] (by decide +kernel) (by decide +kernel)
set_option maxRecDepth 20000 in
theorem gX6_onlyBoxNear_X4_size : GoodIn wsX6_onlyBoxNear (wsV RX6 117 RX4 yX4_size wsX4_size) := goodIn_app (goodIn_of _ (by decide +kernel)) ggX6_onlyBoxNear_X4_size
set_option maxRecDepth 20000 in
theorem ggX6_onlyBoxNear_X6_fiveDigits : GoodIn wsX6_onlyBoxNear wsX6_fiveDigits := goodIn_r _ [13, 1, 2, 14, 15, 16, 6, 17, 18, 19, 20, 21, 22, 23, 8, 24, 25, 12, 26, 30, 31, 32, 33, 34, 35, 36, 37, 38, 39, 40, 41, 42, 43, 44, 45, 46, 47, 48, 49, 50, 51, 52, 53, 54] (by decide +kernel) (by decide +kernel)
set_option maxRecDepth 20000 in
theorem gX6_onlyBoxNear_X6_fiveDigits : GoodIn wsX6_onlyBoxNear (wsV RX6 104 RX6 yX6_fiveDigits wsX6_fiveDigits) := goodIn_app (goodIn_of _ (by decide +kernel)) ggX6_onlyBoxNear_X6_fiveDigits
set_option maxRecDepth 20000 in
theorem ggX6_onlyBoxNear_X6_unlikeDigits : GoodIn wsX6_onlyBoxNear wsX6_unlikeDigits := goodIn_r _ [29] (by decide +kernel) (by decide +kernel)
set_option maxRecDepth 20000 in
theorem gX6_onlyBoxNear_X6_unlikeDigits : GoodIn wsX6_onlyBoxNear (va_wsS RX6 120 yX6_unlikeDigits wsX6_unlikeDigits) := goodIn_app (goodIn_of _ (by decide +kernel)) ggX6_onlyBoxNear_X6_unlikeDigits
theorem dX6_onlyBoxNear_0 : decode cX6_onlyBoxNear 0 = .ok (.bipush (-3), 2) := by decide +kernel
theorem dX6_onlyBoxNear_2 : decode cX6_onlyBoxNear 2 = .ok (.istore_n 2, 1) := by decide +kernel
theorem dX6_onlyBoxNear_3 : decode cX6_onlyBoxNear 3 = .ok (.iconst 0, 1) := by decide +kernel
theorem dX6_onlyBoxNear_4 : decode cX6_onlyBoxNear 4 = .ok (.istore_n 3, 1) := by decide +kernel
theorem dX6_onlyBoxNear_5 : decode cX6_onlyBoxNear 5 = .ok (.iload_n 3, 1) := by decide +kernel
theorem dX6_onlyBoxNear_6 : decode cX6_onlyBoxNear 6 = .ok (.aload_n 0, 1) := by decide +kernel
theorem dX6_onlyBoxNear_7 : decode cX6_onlyBoxNear 7 = .ok (.getfield 12, 3) := by decide +kernel
theorem dX6_onlyBoxNear_10 : decode cX6_onlyBoxNear 10 = .ok (.getfield 82, 3) := by decide +kernel
theorem dX6_onlyBoxNear_13 : decode cX6_onlyBoxNear 13 = .ok (.invokevirtual 117, 3) := by decide +kernel
theorem dX6_onlyBoxNear_16 : decode cX6_onlyBoxNear 16 = .ok (.if_icmp .ge 31, 3) := by decide +kernel
theorem dX6_onlyBoxNear_19 : decode cX6_onlyBoxNear 19 = .ok (.aload_n 0, 1) := by decide +kernel
theorem dX6_onlyBoxNear_20 : decode cX6_onlyBoxNear 20 = .ok (.iload_n 3, 1) := by decide +kernel
theorem dX6_onlyBoxNear_21 : decode cX6_onlyBoxNear 21 = .ok (.invokevirtual 104, 3) := by decide +kernel
theorem dX6_onlyBoxNear_24 : decode cX6_onlyBoxNear 24 = .ok (.iload_n 1, 1) := by decide +kernel
theorem dX6_onlyBoxNear_25 : decode cX6_onlyBoxNear 25 = .ok (.invokestatic 120, 3) := by decide +kernel
theorem dX6_onlyBoxNear_28 : decode cX6_onlyBoxNear 28 = .ok (.iconst 1, 1) := by decide +kernel
theorem dX6_onlyBoxNear_29 : decode cX6_onlyBoxNear 29 = .ok (.if_icmp .ne 12, 3) := by decide +kernel
theorem dX6_onlyBoxNear_32 : decode cX6_onlyBoxNear 32 = .ok (.iload_n 2, 1) := by decide +kernel
theorem dX6_onlyBoxNear_33 : decode cX6_onlyBoxNear 33 = .ok (.ifCond .lt 6, 3) := by decide +kernel
theorem dX6_onlyBoxNear_36 : decode cX6_onlyBoxNear 36 = .ok (.bipush (-3), 2) := by decide +kernel
theorem dX6_onlyBoxNear_38 : decode cX6_onlyBoxNear 38 = .ok (.ireturn, 1) := by decide +kernel
theorem dX6_onlyBoxNear_39 : decode cX6_onlyBoxNear 39 = .ok (.iload_n 3, 1) := by decide +kernel
theorem dX6_onlyBoxNear_40 : decode cX6_onlyBoxNear 40 = .ok (.istore_n 2, 1) := by decide +kernel
theorem dX6_onlyBoxNear_41 : decode cX6_onlyBoxNear 41 = .ok (.iinc 3 1, 3) := by decide +kernel
theorem dX6_onlyBoxNear_44 : decode cX6_onlyBoxNear 44 = .ok (.goto (-39), 3) := by decide +kernel
theorem dX6_onlyBoxNear_47 : decode cX6_onlyBoxNear 47 = .ok (.iload_n 2, 1) := by decide +kernel
theorem dX6_onlyBoxNear_48 : decode cX6_onlyBoxNear 48 = .ok (.ireturn, 1) := by decide +kernel
theorem dX6_unlikeDigits_0 : decode cX6_unlikeDigits 0 = .ok (.iconst 0, 1) := by decide +kernel
theorem dX6_unlikeDigits_1 : decode cX6_unlikeDigits 1 = .ok (.istore_n 2, 1) := by decide +kernel
theorem dX6_unlikeDigits_2 : decode cX6_unlikeDigits 2 = .ok (.iconst 1, 1) := by decide +kernel
theorem dX6_unlikeDigits_3 : decode cX6_unlikeDigits 3 = .ok (.istore_n 3, 1) := by decide +kernel
theorem dX6_unlikeDigits_4 : decode cX6_unlikeDigits 4 = .ok (.iload_n 3, 1) := by decide +kernel
theorem dX6_unlikeDigits_5 : decode cX6_unlikeDigits 5 = .ok (.sipush 10000, 3) := by decide +kernel
theorem dX6_unlikeDigits_8 : decode cX6_unlikeDigits 8 = .ok (.if_icmp .gt 29, 3) := by decide +kernel
theorem dX6_unlikeDigits_11 : decode cX6_unlikeDigits 11 = .ok (.iload_n 0, 1) := by decide +kernel
theorem dX6_unlikeDigits_12 : decode cX6_unlikeDigits 12 = .ok (.iload_n 3, 1) := by decide +kernel
theorem dX6_unlikeDigits_13 : decode cX6_unlikeDigits 13 = .ok (.idiv, 1) := by decide +kernel
theorem dX6_unlikeDigits_14 : decode cX6_unlikeDigits 14 = .ok (.bipush 10, 2) := by decide +kernel
theorem dX6_unlikeDigits_16 : decode cX6_unlikeDigits 16 = .ok (.irem, 1) := by decide +kernel
theorem dX6_unlikeDigits_17 : decode cX6_unlikeDigits 17 = .ok (.iload_n 1, 1) := by decide +kernel
theorem dX6_unlikeDigits_18 : decode cX6_unlikeDigits 18 = .ok (.iload_n 3, 1) := by decide +kernel
theorem dX6_unlikeDigits_19 : decode cX6_unlikeDigits 19 = .ok (.idiv, 1) := by decide +kernel
theorem dX6_unlikeDigits_20 : decode cX6_unlikeDigits 20 = .ok (.bipush 10, 2) := by decide +kernel
theorem dX6_unlikeDigits_22 : decode cX6_unlikeDigits 22 = .ok (.irem, 1) := by decide +kernel
theorem dX6_unlikeDigits_23 : decode cX6_unlikeDigits 23 = .ok (.if_icmp .eq 6, 3) := by decide +kernel
theorem dX6_unlikeDigits_26 : decode cX6_unlikeDigits 26 = .ok (.iinc 2 1, 3) := by decide +kernel
theorem dX6_unlikeDigits_29 : decode cX6_unlikeDigits 29 = .ok (.iload_n 3, 1) := by decide +kernel
theorem dX6_unlikeDigits_30 : decode cX6_unlikeDigits 30 = .ok (.bipush 10, 2) := by decide +kernel
theorem dX6_unlikeDigits_32 : decode cX6_unlikeDigits 32 = .ok (.imul, 1) := by decide +kernel
theorem dX6_unlikeDigits_33 : decode cX6_unlikeDigits 33 = .ok (.istore_n 3, 1) := by decide +kernel
theorem dX6_unlikeDigits_34 : decode cX6_unlikeDigits 34 = .ok (.goto (-30), 3) := by decide +kernel
theorem dX6_unlikeDigits_37 : decode cX6_unlikeDigits 37 = .ok (.iload_n 2, 1) := by decide +kernel
theorem dX6_unlikeDigits_38 : decode cX6_unlikeDigits 38 = .ok (.ireturn, 1) := by decide +kernel
set_option maxRecDepth 20000 in
theorem ggX6_word_X4_has : GoodIn wsX6_word wsX4_has := goodIn_r _ [9, 10, 71, 72, 73, 74] (by decide +kernel) (by decide +kernel)
set_option maxRecDepth 20000 in
theorem gX6_word_X4_has : GoodIn wsX6_word (wsV RX6 110 RX4 yX4_has wsX4_has) := goodIn_app (goodIn_of _ (by decide +kernel)) ggX6_word_X4_has
set_option maxRecDepth 20000 in
theorem ggX6_word_X6_isPastDay : GoodIn wsX6_word wsX6_isPastDay := goodIn_r _ [15, 1, 4, 16, 17, 14, 18, 50, 51, 52, 53, 54, 55, 56, 57, 58, 59, 60, 61, 62, 63, 64, 65, 66, 67, 68, 69, 70] (by decide +kernel) (by decide +kernel)
set_option maxRecDepth 20000 in
theorem gX6_word_X6_isPastDay : GoodIn wsX6_word (wsV RX6 123 RX6 yX6_isPastDay wsX6_isPastDay) := goodIn_app (goodIn_of _ (by decide +kernel)) ggX6_word_X6_isPastDay
set_option maxRecDepth 20000 in
theorem ggX6_word_X6_isPlace : GoodIn wsX6_word wsX6_isPlace := goodIn_r _ [21, 16, 17, 14, 18] (by decide +kernel) (by decide +kernel)
set_option maxRecDepth 20000 in
theorem gX6_word_X6_isPlace : GoodIn wsX6_word (va_wsS RX6 126 yX6_isPlace wsX6_isPlace) := goodIn_app (goodIn_of _ (by decide +kernel)) ggX6_word_X6_isPlace
set_option maxRecDepth 20000 in
theorem ggX6_word_X6_isWithin : GoodIn wsX6_word wsX6_isWithin := goodIn_r _ [18] (by decide +kernel) (by decide +kernel)
set_option maxRecDepth 20000 in
theorem gX6_word_X6_isWithin : GoodIn wsX6_word (va_wsS RX6 54 yX6_isWithin wsX6_isWithin) := goodIn_app (goodIn_of _ (by decide +kernel)) ggX6_word_X6_isWithin
set_option maxRecDepth 20000 in
theorem ggX6_word_X6_isWithLine : GoodIn wsX6_word wsX6_isWithLine := goodIn_r _ [25, 1, 2, 26, 27, 28, 8, 29, 30, 31, 32, 33, 34, 35, 10, 50, 51, 52, 53, 54, 55, 56, 57, 58, 59, 60, 61, 62, 63, 64, 65, 66, 67, 68, 69, 70, 71, 72, 73, 74] (by decide +kernel) (by decide +kernel)
set_option maxRecDepth 20000 in
theorem gX6_word_X6_isWithLine : GoodIn wsX6_word (wsV RX6 129 RX6 yX6_isWithLine wsX6_isWithLine) := goodIn_app (goodIn_of _ (by decide +kernel)) ggX6_word_X6_isWithLine
set_option maxRecDepth 20000 in
theorem ggX6_word_X4_isFull : GoodIn wsX6_word wsX4_isFull := goodIn_r _ [39, 10, 40, 71, 72, 73, 74] (by decide +kernel) (by decide +kernel)
set_option maxRecDepth 20000 in
theorem gX6_word_X4_isFull : GoodIn wsX6_word (wsV RX6 86 RX4 yX4_isFull wsX4_isFull) := goodIn_app (goodIn_of _ (by decide +kernel)) ggX6_word_X4_isFull
set_option maxRecDepth 20000 in
theorem ggX6_word_X4_grow : GoodIn wsX6_word wsX4_grow := goodIn_r _ [44, 10, 45, 37, 38, 8, 39, 40, 71, 72, 73, 74] (by decide +kernel) (by decide +kernel)
set_option maxRecDepth 20000 in
theorem gX6_word_X4_grow : GoodIn wsX6_word (wsV RX6 92 RX4 yX4_grow wsX4_grow) := goodIn_app (goodIn_of _ (by decide +kernel)) ggX6_word_X4_grow
set_option maxRecDepth 20000 in
theorem ggX6_word_X4_put : GoodIn wsX6_word wsX4_put := goodIn_r _ [49, 30, 31, 32, 33, 34, 8, 35, 10, 71, 72, 73, 74] (by decide +kernel) (by decide +kernel)
set_option maxRecDepth 20000 in
theorem gX6_word_X4_put : GoodIn wsX6_word (wsV RX6 96 RX4 yX4_put wsX4_put) := goodIn_app (goodIn_of _ (by decide +kernel)) ggX6_word_X4_put
theorem dX6_word_0 : decode cX6_word 0 = .ok (.aload_n 0, 1) := by decide +kernel
theorem dX6_word_1 : decode cX6_word 1 = .ok (.getfield 12, 3) := by decide +kernel
theorem dX6_word_4 : decode cX6_word 4 = .ok (.getfield 82, 3) := by decide +kernel
theorem dX6_word_7 : decode cX6_word 7 = .ok (.iload_n 1, 1) := by decide +kernel
theorem dX6_word_8 : decode cX6_word 8 = .ok (.invokevirtual 110, 3) := by decide +kernel
theorem dX6_word_11 : decode cX6_word 11 = .ok (.ifCond .eq 28, 3) := by decide +kernel
theorem dX6_word_14 : decode cX6_word 14 = .ok (.aload_n 0, 1) := by decide +kernel
theorem dX6_word_15 : decode cX6_word 15 = .ok (.iload_n 2, 1) := by decide +kernel
theorem dX6_word_16 : decode cX6_word 16 = .ok (.invokevirtual 123, 3) := by decide +kernel
theorem dX6_word_19 : decode cX6_word 19 = .ok (.ifCond .eq 20, 3) := by decide +kernel
theorem dX6_word_22 : decode cX6_word 22 = .ok (.iload_n 3, 1) := by decide +kernel
theorem dX6_word_23 : decode cX6_word 23 = .ok (.invokestatic 126, 3) := by decide +kernel
theorem dX6_word_26 : decode cX6_word 26 = .ok (.ifCond .eq 13, 3) := by decide +kernel
theorem dX6_word_29 : decode cX6_word 29 = .ok (.iload 4, 2) := by decide +kernel
theorem dX6_word_31 : decode cX6_word 31 = .ok (.iconst 0, 1) := by decide +kernel
theorem dX6_word_32 : decode cX6_word 32 = .ok (.iconst 1, 1) := by decide +kernel
theorem dX6_word_33 : decode cX6_word 33 = .ok (.invokestatic 54, 3) := by decide +kernel
theorem dX6_word_36 : decode cX6_word 36 = .ok (.ifCond .ne 5, 3) := by decide +kernel
theorem dX6_word_39 : decode cX6_word 39 = .ok (.iconst (-1), 1) := by decide +kernel
theorem dX6_word_40 : decode cX6_word 40 = .ok (.ireturn, 1) := by decide +kernel
theorem dX6_word_41 : decode cX6_word 41 = .ok (.aload_n 0, 1) := by decide +kernel
theorem dX6_word_42 : decode cX6_word 42 = .ok (.iload_n 1, 1) := by decide +kernel
theorem dX6_word_43 : decode cX6_word 43 = .ok (.invokevirtual 129, 3) := by decide +kernel
theorem dX6_word_46 : decode cX6_word 46 = .ok (.ifCond .ne 6, 3) := by decide +kernel
theorem dX6_word_49 : decode cX6_word 49 = .ok (.bipush (-4), 2) := by decide +kernel
theorem dX6_word_51 : decode cX6_word 51 = .ok (.ireturn, 1) := by decide +kernel
theorem dX6_word_52 : decode cX6_word 52 = .ok (.aload_n 0, 1) := by decide +kernel
theorem dX6_word_53 : decode cX6_word 53 = .ok (.getfield 12, 3) := by decide +kernel
theorem dX6_word_56 : decode cX6_word 56 = .ok (.getfield 132, 3) := by decide +kernel
theorem dX6_word_59 : decode cX6_word 59 = .ok (.invokevirtual 86, 3) := by decide +kernel
theorem dX6_word_62 : decode cX6_word 62 = .ok (.ifCond .eq 6, 3) := by decide +kernel
theorem dX6_word_65 : decode cX6_word 65 = .ok (.bipush (-2), 2) := by decide +kernel
theorem dX6_word_67 : decode cX6_word 67 = .ok (.ireturn, 1) := by decide +kernel
theorem dX6_word_68 : decode cX6_word 68 = .ok (.aload_n 0, 1) := by decide +kernel
theorem dX6_word_69 : decode cX6_word 69 = .ok (.getfield 12, 3) := by decide +kernel
theorem dX6_word_72 : decode cX6_word 72 = .ok (.getfield 132, 3) := by decide +kernel
theorem dX6_word_75 : decode cX6_word 75 = .ok (.invokevirtual 92, 3) := by decide +kernel
theorem dX6_word_78 : decode cX6_word 78 = .ok (.istore 5, 2) := by decide +kernel
theorem dX6_word_80 : decode cX6_word 80 = .ok (.aload_n 0, 1) := by decide +kernel
theorem dX6_word_81 : decode cX6_word 81 = .ok (.getfield 12, 3) := by decide +kernel
theorem dX6_word_84 : decode cX6_word 84 = .ok (.getfield 132, 3) := by decide +kernel
theorem dX6_word_87 : decode cX6_word 87 = .ok (.iload 5, 2) := by decide +kernel
theorem dX6_word_89 : decode cX6_word 89 = .ok (.iconst 0, 1) := by decide +kernel
theorem dX6_word_90 : decode cX6_word 90 = .ok (.iload_n 1, 1) := by decide +kernel
theorem dX6_word_91 : decode cX6_word 91 = .ok (.invokevirtual 96, 3) := by decide +kernel
theorem dX6_word_94 : decode cX6_word 94 = .ok (.aload_n 0, 1) := by decide +kernel
theorem dX6_word_95 : decode cX6_word 95 = .ok (.getfield 12, 3) := by decide +kernel
theorem dX6_word_98 : decode cX6_word 98 = .ok (.getfield 132, 3) := by decide +kernel
theorem dX6_word_101 : decode cX6_word 101 = .ok (.iload 5, 2) := by decide +kernel
theorem dX6_word_103 : decode cX6_word 103 = .ok (.iconst 1, 1) := by decide +kernel
theorem dX6_word_104 : decode cX6_word 104 = .ok (.iload_n 2, 1) := by decide +kernel
theorem dX6_word_105 : decode cX6_word 105 = .ok (.invokevirtual 96, 3) := by decide +kernel
theorem dX6_word_108 : decode cX6_word 108 = .ok (.aload_n 0, 1) := by decide +kernel
theorem dX6_word_109 : decode cX6_word 109 = .ok (.getfield 12, 3) := by decide +kernel
theorem dX6_word_112 : decode cX6_word 112 = .ok (.getfield 132, 3) := by decide +kernel
theorem dX6_word_115 : decode cX6_word 115 = .ok (.iload 5, 2) := by decide +kernel
theorem dX6_word_117 : decode cX6_word 117 = .ok (.iconst 2, 1) := by decide +kernel
theorem dX6_word_118 : decode cX6_word 118 = .ok (.iload_n 3, 1) := by decide +kernel
theorem dX6_word_119 : decode cX6_word 119 = .ok (.invokevirtual 96, 3) := by decide +kernel
theorem dX6_word_122 : decode cX6_word 122 = .ok (.aload_n 0, 1) := by decide +kernel
theorem dX6_word_123 : decode cX6_word 123 = .ok (.getfield 12, 3) := by decide +kernel
theorem dX6_word_126 : decode cX6_word 126 = .ok (.getfield 132, 3) := by decide +kernel
theorem dX6_word_129 : decode cX6_word 129 = .ok (.iload 5, 2) := by decide +kernel
theorem dX6_word_131 : decode cX6_word 131 = .ok (.iconst 3, 1) := by decide +kernel
theorem dX6_word_132 : decode cX6_word 132 = .ok (.iload 4, 2) := by decide +kernel
theorem dX6_word_134 : decode cX6_word 134 = .ok (.invokevirtual 96, 3) := by decide +kernel
theorem dX6_word_137 : decode cX6_word 137 = .ok (.aload_n 0, 1) := by decide +kernel
theorem dX6_word_138 : decode cX6_word 138 = .ok (.getfield 12, 3) := by decide +kernel
theorem dX6_word_141 : decode cX6_word 141 = .ok (.getfield 132, 3) := by decide +kernel
theorem dX6_word_144 : decode cX6_word 144 = .ok (.iload 5, 2) := by decide +kernel
theorem dX6_word_146 : decode cX6_word 146 = .ok (.iconst 4, 1) := by decide +kernel
theorem dX6_word_147 : decode cX6_word 147 = .ok (.aload_n 0, 1) := by decide +kernel
theorem dX6_word_148 : decode cX6_word 148 = .ok (.getfield 12, 3) := by decide +kernel
theorem dX6_word_151 : decode cX6_word 151 = .ok (.getfield 58, 3) := by decide +kernel
theorem dX6_word_154 : decode cX6_word 154 = .ok (.invokevirtual 96, 3) := by decide +kernel
theorem dX6_word_157 : decode cX6_word 157 = .ok (.iload 5, 2) := by decide +kernel
theorem dX6_word_159 : decode cX6_word 159 = .ok (.ireturn, 1) := by decide +kernel
set_option maxRecDepth 20000 in
theorem ggX6_where_X4_has : GoodIn wsX6_where wsX4_has := goodIn_r _ [7, 8, 73, 74, 75, 76] (by decide +kernel) (by decide +kernel)
set_option maxRecDepth 20000 in
theorem gX6_where_X4_has : GoodIn wsX6_where (wsV RX6 110 RX4 yX4_has wsX4_has) := goodIn_app (goodIn_of _ (by decide +kernel)) ggX6_where_X4_has
set_option maxRecDepth 20000 in
theorem ggX6_where_X6_isDay : GoodIn wsX6_where wsX6_isDay := goodIn_r _ [12, 13, 14, 11, 15] (by decide +kernel) (by decide +kernel)
set_option maxRecDepth 20000 in
theorem gX6_where_X6_isDay : GoodIn wsX6_where (va_wsS RX6 135 yX6_isDay wsX6_isDay) := goodIn_app (goodIn_of _ (by decide +kernel)) ggX6_where_X6_isDay
set_option maxRecDepth 20000 in
theorem ggX6_where_X6_isPastDay : GoodIn wsX6_where wsX6_isPastDay := goodIn_r _ [19, 1, 20, 13, 14, 11, 15, 52, 53, 54, 55, 56, 57, 58, 59, 60, 61, 62, 63, 64, 65, 66, 67, 68, 69, 70, 71, 72] (by decide +kernel) (by decide +kernel)
set_option maxRecDepth 20000 in
theorem gX6_where_X6_isPastDay : GoodIn wsX6_where (wsV RX6 123 RX6 yX6_isPastDay wsX6_isPastDay) := goodIn_app (goodIn_of _ (by decide +kernel)) ggX6_where_X6_isPastDay
set_option maxRecDepth 20000 in
theorem ggX6_where_X6_standing : GoodIn wsX6_where wsX6_standing := goodIn_r _ [24, 1, 25, 26, 27, 28, 11, 29, 30, 31, 32, 6, 33, 8, 34, 35, 36, 37, 38, 39, 40, 41, 42, 43, 44, 45, 46, 47, 48, 49, 50, 51, 52, 53, 54, 55, 56, 57, 58, 59, 60, 61, 62, 63, 64, 65, 66, 67, 68, 69, 70, 71, 72, 73, 74, 75, 76] (by decide +kernel) (by decide +kernel)
set_option maxRecDepth 20000 in
theorem gX6_where_X6_standing : GoodIn wsX6_where (wsV RX6 138 RX6 yX6_standing wsX6_standing) := goodIn_app (goodIn_of _ (by decide +kernel)) ggX6_where_X6_standing
theorem dX6_where_0 : decode cX6_where 0 = .ok (.aload_n 0, 1) := by decide +kernel
theorem dX6_where_1 : decode cX6_where 1 = .ok (.getfield 12, 3) := by decide +kernel
theorem dX6_where_4 : decode cX6_where 4 = .ok (.getfield 82, 3) := by decide +kernel
theorem dX6_where_7 : decode cX6_where 7 = .ok (.iload_n 1, 1) := by decide +kernel
theorem dX6_where_8 : decode cX6_where 8 = .ok (.invokevirtual 110, 3) := by decide +kernel
theorem dX6_where_11 : decode cX6_where 11 = .ok (.ifCond .eq 18, 3) := by decide +kernel
theorem dX6_where_14 : decode cX6_where 14 = .ok (.iload_n 2, 1) := by decide +kernel
theorem dX6_where_15 : decode cX6_where 15 = .ok (.invokestatic 135, 3) := by decide +kernel
theorem dX6_where_18 : decode cX6_where 18 = .ok (.ifCond .eq 11, 3) := by decide +kernel
theorem dX6_where_21 : decode cX6_where 21 = .ok (.aload_n 0, 1) := by decide +kernel
theorem dX6_where_22 : decode cX6_where 22 = .ok (.iload_n 3, 1) := by decide +kernel
theorem dX6_where_23 : decode cX6_where 23 = .ok (.invokevirtual 123, 3) := by decide +kernel
theorem dX6_where_26 : decode cX6_where 26 = .ok (.ifCond .ne 5, 3) := by decide +kernel
theorem dX6_where_29 : decode cX6_where 29 = .ok (.iconst (-1), 1) := by decide +kernel
theorem dX6_where_30 : decode cX6_where 30 = .ok (.ireturn, 1) := by decide +kernel
theorem dX6_where_31 : decode cX6_where 31 = .ok (.aload_n 0, 1) := by decide +kernel
theorem dX6_where_32 : decode cX6_where 32 = .ok (.iload_n 1, 1) := by decide +kernel
theorem dX6_where_33 : decode cX6_where 33 = .ok (.iload_n 2, 1) := by decide +kernel
theorem dX6_where_34 : decode cX6_where 34 = .ok (.iload_n 3, 1) := by decide +kernel
theorem dX6_where_35 : decode cX6_where 35 = .ok (.invokevirtual 138, 3) := by decide +kernel
theorem dX6_where_38 : decode cX6_where 38 = .ok (.ireturn, 1) := by decide +kernel
set_option maxRecDepth 20000 in
theorem ggX6_since_X4_has : GoodIn wsX6_since wsX4_has := goodIn_r _ [8, 9, 65, 66, 67, 68] (by decide +kernel) (by decide +kernel)
set_option maxRecDepth 20000 in
theorem gX6_since_X4_has : GoodIn wsX6_since (wsV RX6 110 RX4 yX4_has wsX4_has) := goodIn_app (goodIn_of _ (by decide +kernel)) ggX6_since_X4_has
set_option maxRecDepth 20000 in
theorem ggX6_since_X6_isDay : GoodIn wsX6_since wsX6_isDay := goodIn_r _ [13, 14, 15, 12, 16] (by decide +kernel) (by decide +kernel)
set_option maxRecDepth 20000 in
theorem gX6_since_X6_isDay : GoodIn wsX6_since (va_wsS RX6 135 yX6_isDay wsX6_isDay) := goodIn_app (goodIn_of _ (by decide +kernel)) ggX6_since_X6_isDay
set_option maxRecDepth 20000 in
theorem ggX6_since_X6_isPastDay : GoodIn wsX6_since wsX6_isPastDay := goodIn_r _ [20, 1, 21, 14, 15, 12, 16, 44, 45, 46, 47, 48, 49, 50, 51, 52, 53, 54, 55, 56, 57, 58, 59, 60, 61, 62, 63, 64] (by decide +kernel) (by decide +kernel)
set_option maxRecDepth 20000 in
theorem gX6_since_X6_isPastDay : GoodIn wsX6_since (wsV RX6 123 RX6 yX6_isPastDay wsX6_isPastDay) := goodIn_app (goodIn_of _ (by decide +kernel)) ggX6_since_X6_isPastDay
set_option maxRecDepth 20000 in
theorem ggX6_since_X6_latestWord : GoodIn wsX6_since wsX6_latestWord := goodIn_r _ [25, 1, 3, 26, 27, 28, 7, 29, 9, 30, 31, 32, 33, 34, 35, 36, 37, 38, 39, 40, 41, 42, 12, 43, 44, 45, 46, 47, 48, 49, 50, 51, 52, 53, 54, 55, 56, 57, 58, 59, 60, 61, 62, 63, 64, 65, 66, 67, 68] (by decide +kernel) (by decide +kernel)
set_option maxRecDepth 20000 in
theorem gX6_since_X6_latestWord : GoodIn wsX6_since (wsV RX6 142 RX6 yX6_latestWord wsX6_latestWord) := goodIn_app (goodIn_of _ (by decide +kernel)) ggX6_since_X6_latestWord
set_option maxRecDepth 20000 in
theorem ggX6_since_X4_cell : GoodIn wsX6_since wsX4_cell := goodIn_r _ [33, 34, 35, 36, 37, 38, 7, 39, 9, 65, 66, 67, 68] (by decide +kernel) (by decide +kernel)
set_option maxRecDepth 20000 in
theorem gX6_since_X4_cell : GoodIn wsX6_since (wsV RX6 113 RX4 yX4_cell wsX4_cell) := goodIn_app (goodIn_of _ (by decide +kernel)) ggX6_since_X4_cell
theorem dX6_since_0 : decode cX6_since 0 = .ok (.aload_n 0, 1) := by decide +kernel
theorem dX6_since_1 : decode cX6_since 1 = .ok (.getfield 12, 3) := by decide +kernel
theorem dX6_since_4 : decode cX6_since 4 = .ok (.getfield 82, 3) := by decide +kernel
theorem dX6_since_7 : decode cX6_since 7 = .ok (.iload_n 1, 1) := by decide +kernel
theorem dX6_since_8 : decode cX6_since 8 = .ok (.invokevirtual 110, 3) := by decide +kernel
theorem dX6_since_11 : decode cX6_since 11 = .ok (.ifCond .eq 18, 3) := by decide +kernel
theorem dX6_since_14 : decode cX6_since 14 = .ok (.iload_n 2, 1) := by decide +kernel
theorem dX6_since_15 : decode cX6_since 15 = .ok (.invokestatic 135, 3) := by decide +kernel
theorem dX6_since_18 : decode cX6_since 18 = .ok (.ifCond .eq 11, 3) := by decide +kernel
theorem dX6_since_21 : decode cX6_since 21 = .ok (.aload_n 0, 1) := by decide +kernel
theorem dX6_since_22 : decode cX6_since 22 = .ok (.iload_n 3, 1) := by decide +kernel
theorem dX6_since_23 : decode cX6_since 23 = .ok (.invokevirtual 123, 3) := by decide +kernel
theorem dX6_since_26 : decode cX6_since 26 = .ok (.ifCond .ne 5, 3) := by decide +kernel
theorem dX6_since_29 : decode cX6_since 29 = .ok (.iconst (-1), 1) := by decide +kernel
theorem dX6_since_30 : decode cX6_since 30 = .ok (.ireturn, 1) := by decide +kernel
theorem dX6_since_31 : decode cX6_since 31 = .ok (.aload_n 0, 1) := by decide +kernel
theorem dX6_since_32 : decode cX6_since 32 = .ok (.iload_n 1, 1) := by decide +kernel
theorem dX6_since_33 : decode cX6_since 33 = .ok (.iload_n 2, 1) := by decide +kernel
theorem dX6_since_34 : decode cX6_since 34 = .ok (.iload_n 3, 1) := by decide +kernel
theorem dX6_since_35 : decode cX6_since 35 = .ok (.invokevirtual 142, 3) := by decide +kernel
theorem dX6_since_38 : decode cX6_since 38 = .ok (.istore 4, 2) := by decide +kernel
theorem dX6_since_40 : decode cX6_since 40 = .ok (.iload 4, 2) := by decide +kernel
theorem dX6_since_42 : decode cX6_since 42 = .ok (.ifCond .lt 19, 3) := by decide +kernel
theorem dX6_since_45 : decode cX6_since 45 = .ok (.aload_n 0, 1) := by decide +kernel
theorem dX6_since_46 : decode cX6_since 46 = .ok (.getfield 12, 3) := by decide +kernel
theorem dX6_since_49 : decode cX6_since 49 = .ok (.getfield 132, 3) := by decide +kernel
theorem dX6_since_52 : decode cX6_since 52 = .ok (.iload 4, 2) := by decide +kernel
theorem dX6_since_54 : decode cX6_since 54 = .ok (.iconst 1, 1) := by decide +kernel
theorem dX6_since_55 : decode cX6_since 55 = .ok (.invokevirtual 113, 3) := by decide +kernel
theorem dX6_since_58 : decode cX6_since 58 = .ok (.goto 5, 3) := by decide +kernel
theorem dX6_since_61 : decode cX6_since 61 = .ok (.bipush (-3), 2) := by decide +kernel
theorem dX6_since_63 : decode cX6_since 63 = .ok (.ireturn, 1) := by decide +kernel
set_option maxRecDepth 20000 in
theorem ggX6_quarrels_X4_has : GoodIn wsX6_quarrels wsX4_has := goodIn_r _ [8, 9, 74, 75, 76, 77] (by decide +kernel) (by decide +kernel)
set_option maxRecDepth 20000 in
theorem gX6_quarrels_X4_has : GoodIn wsX6_quarrels (wsV RX6 110 RX4 yX4_has wsX4_has) := goodIn_app (goodIn_of _ (by decide +kernel)) ggX6_quarrels_X4_has
set_option maxRecDepth 20000 in
theorem ggX6_quarrels_X6_isPastDay : GoodIn wsX6_quarrels wsX6_isPastDay := goodIn_r _ [14, 1, 15, 16, 17, 13, 18, 53, 54, 55, 56, 57, 58, 59, 60, 61, 62, 63, 64, 65, 66, 67, 68, 69, 70, 71, 72, 73] (by decide +kernel) (by decide +kernel)
set_option maxRecDepth 20000 in
theorem gX6_quarrels_X6_isPastDay : GoodIn wsX6_quarrels (wsV RX6 123 RX6 yX6_isPastDay wsX6_isPastDay) := goodIn_app (goodIn_of _ (by decide +kernel)) ggX6_quarrels_X6_isPastDay
set_option maxRecDepth 20000 in
theorem ggX6_quarrels_X4_size : GoodIn wsX6_quarrels wsX4_size := goodIn_r _ [22, 9, 74, 75, 76, 77] (by decide +kernel) (by decide +kernel)
set_option maxRecDepth 20000 in
theorem gX6_quarrels_X4_size : GoodIn wsX6_quarrels (wsV RX6 117 RX4 yX4_size wsX4_size) := goodIn_app (goodIn_of _ (by decide +kernel)) ggX6_quarrels_X4_size
set_option maxRecDepth 20000 in
theorem ggX6_quarrels_X6_isHeard : GoodIn wsX6_quarrels wsX6_isHeard := goodIn_r _ [26, 1, 3, 27, 28, 29, 7, 30, 31, 32, 33, 34, 35, 36, 9, 53, 54, 55, 56, 57, 58, 59, 60, 61, 62, 63, 64, 65, 66, 67, 68, 69, 70, 71, 72, 73, 74, 75, 76, 77] (by decide +kernel) (by decide +kernel)
set_option maxRecDepth 20000 in
theorem gX6_quarrels_X6_isHeard : GoodIn wsX6_quarrels (wsV RX6 145 RX6 yX6_isHeard wsX6_isHeard) := goodIn_app (goodIn_of _ (by decide +kernel)) ggX6_quarrels_X6_isHeard
set_option maxRecDepth 20000 in
theorem ggX6_quarrels_X6_wordBehind : GoodIn wsX6_quarrels wsX6_wordBehind := goodIn_r _ [40, 1, 3, 19, 20, 21, 7, 22, 9, 23, 24, 25, 13, 26, 27, 28, 29, 30, 31, 32, 33, 34, 35, 36, 41, 42, 43, 44, 53, 54, 55, 56, 57, 58, 59, 60, 61, 62, 63, 64, 65, 66, 67, 68, 69, 70, 71, 72, 73, 74, 75, 76, 77] (by decide +kernel) (by decide +kernel)
set_option maxRecDepth 20000 in
theorem gX6_quarrels_X6_wordBehind : GoodIn wsX6_quarrels (wsV RX6 148 RX6 yX6_wordBehind wsX6_wordBehind) := goodIn_app (goodIn_of _ (by decide +kernel)) ggX6_quarrels_X6_wordBehind
set_option maxRecDepth 20000 in
theorem ggX6_quarrels_X6_isQuarrel : GoodIn wsX6_quarrels wsX6_isQuarrel := goodIn_r _ [48, 1, 3, 49, 50, 51, 13, 52, 27, 28, 29, 7, 30, 31, 32, 33, 34, 35, 36, 9, 53, 54, 55, 56, 57, 58, 59, 60, 61, 62, 63, 64, 65, 66, 67, 68, 69, 70, 71, 72, 73, 74, 75, 76, 77] (by decide +kernel) (by decide +kernel)
set_option maxRecDepth 20000 in
theorem gX6_quarrels_X6_isQuarrel : GoodIn wsX6_quarrels (wsV RX6 151 RX6 yX6_isQuarrel wsX6_isQuarrel) := goodIn_app (goodIn_of _ (by decide +kernel)) ggX6_quarrels_X6_isQuarrel
theorem dX6_quarrels_0 : decode cX6_quarrels 0 = .ok (.aload_n 0, 1) := by decide +kernel
theorem dX6_quarrels_1 : decode cX6_quarrels 1 = .ok (.getfield 12, 3) := by decide +kernel
theorem dX6_quarrels_4 : decode cX6_quarrels 4 = .ok (.getfield 82, 3) := by decide +kernel
theorem dX6_quarrels_7 : decode cX6_quarrels 7 = .ok (.iload_n 1, 1) := by decide +kernel
theorem dX6_quarrels_8 : decode cX6_quarrels 8 = .ok (.invokevirtual 110, 3) := by decide +kernel
theorem dX6_quarrels_11 : decode cX6_quarrels 11 = .ok (.ifCond .eq 11, 3) := by decide +kernel
theorem dX6_quarrels_14 : decode cX6_quarrels 14 = .ok (.aload_n 0, 1) := by decide +kernel
theorem dX6_quarrels_15 : decode cX6_quarrels 15 = .ok (.iload_n 2, 1) := by decide +kernel
theorem dX6_quarrels_16 : decode cX6_quarrels 16 = .ok (.invokevirtual 123, 3) := by decide +kernel
theorem dX6_quarrels_19 : decode cX6_quarrels 19 = .ok (.ifCond .ne 5, 3) := by decide +kernel
theorem dX6_quarrels_22 : decode cX6_quarrels 22 = .ok (.iconst (-1), 1) := by decide +kernel
theorem dX6_quarrels_23 : decode cX6_quarrels 23 = .ok (.ireturn, 1) := by decide +kernel
theorem dX6_quarrels_24 : decode cX6_quarrels 24 = .ok (.iconst 0, 1) := by decide +kernel
theorem dX6_quarrels_25 : decode cX6_quarrels 25 = .ok (.istore_n 3, 1) := by decide +kernel
theorem dX6_quarrels_26 : decode cX6_quarrels 26 = .ok (.iconst 0, 1) := by decide +kernel
theorem dX6_quarrels_27 : decode cX6_quarrels 27 = .ok (.istore 4, 2) := by decide +kernel
theorem dX6_quarrels_29 : decode cX6_quarrels 29 = .ok (.iload 4, 2) := by decide +kernel
theorem dX6_quarrels_31 : decode cX6_quarrels 31 = .ok (.aload_n 0, 1) := by decide +kernel
theorem dX6_quarrels_32 : decode cX6_quarrels 32 = .ok (.getfield 12, 3) := by decide +kernel
theorem dX6_quarrels_35 : decode cX6_quarrels 35 = .ok (.getfield 132, 3) := by decide +kernel
theorem dX6_quarrels_38 : decode cX6_quarrels 38 = .ok (.invokevirtual 117, 3) := by decide +kernel
theorem dX6_quarrels_41 : decode cX6_quarrels 41 = .ok (.if_icmp .ge 49, 3) := by decide +kernel
theorem dX6_quarrels_44 : decode cX6_quarrels 44 = .ok (.aload_n 0, 1) := by decide +kernel
theorem dX6_quarrels_45 : decode cX6_quarrels 45 = .ok (.iload 4, 2) := by decide +kernel
theorem dX6_quarrels_47 : decode cX6_quarrels 47 = .ok (.iload_n 1, 1) := by decide +kernel
theorem dX6_quarrels_48 : decode cX6_quarrels 48 = .ok (.iload_n 2, 1) := by decide +kernel
theorem dX6_quarrels_49 : decode cX6_quarrels 49 = .ok (.invokevirtual 145, 3) := by decide +kernel
theorem dX6_quarrels_52 : decode cX6_quarrels 52 = .ok (.ifCond .eq 32, 3) := by decide +kernel
theorem dX6_quarrels_55 : decode cX6_quarrels 55 = .ok (.aload_n 0, 1) := by decide +kernel
theorem dX6_quarrels_56 : decode cX6_quarrels 56 = .ok (.iload 4, 2) := by decide +kernel
theorem dX6_quarrels_58 : decode cX6_quarrels 58 = .ok (.iload_n 1, 1) := by decide +kernel
theorem dX6_quarrels_59 : decode cX6_quarrels 59 = .ok (.iload_n 2, 1) := by decide +kernel
theorem dX6_quarrels_60 : decode cX6_quarrels 60 = .ok (.invokevirtual 148, 3) := by decide +kernel
theorem dX6_quarrels_63 : decode cX6_quarrels 63 = .ok (.istore 5, 2) := by decide +kernel
theorem dX6_quarrels_65 : decode cX6_quarrels 65 = .ok (.iload 5, 2) := by decide +kernel
theorem dX6_quarrels_67 : decode cX6_quarrels 67 = .ok (.ifCond .lt 17, 3) := by decide +kernel
theorem dX6_quarrels_70 : decode cX6_quarrels 70 = .ok (.aload_n 0, 1) := by decide +kernel
theorem dX6_quarrels_71 : decode cX6_quarrels 71 = .ok (.iload 4, 2) := by decide +kernel
theorem dX6_quarrels_73 : decode cX6_quarrels 73 = .ok (.iload 5, 2) := by decide +kernel
theorem dX6_quarrels_75 : decode cX6_quarrels 75 = .ok (.invokevirtual 151, 3) := by decide +kernel
theorem dX6_quarrels_78 : decode cX6_quarrels 78 = .ok (.ifCond .eq 6, 3) := by decide +kernel
theorem dX6_quarrels_81 : decode cX6_quarrels 81 = .ok (.iinc 3 1, 3) := by decide +kernel
theorem dX6_quarrels_84 : decode cX6_quarrels 84 = .ok (.iinc 4 1, 3) := by decide +kernel
theorem dX6_quarrels_87 : decode cX6_quarrels 87 = .ok (.goto (-58), 3) := by decide +kernel
theorem dX6_quarrels_90 : decode cX6_quarrels 90 = .ok (.iload_n 3, 1) := by decide +kernel
theorem dX6_quarrels_91 : decode cX6_quarrels 91 = .ok (.ireturn, 1) := by decide +kernel
set_option maxRecDepth 20000 in
theorem ggX6_count_X6_isPlace : GoodIn wsX6_count wsX6_isPlace := goodIn_r _ [6, 7, 8, 5, 9] (by decide +kernel) (by decide +kernel)
set_option maxRecDepth 20000 in
theorem gX6_count_X6_isPlace : GoodIn wsX6_count (va_wsS RX6 126 yX6_isPlace wsX6_isPlace) := goodIn_app (goodIn_of _ (by decide +kernel)) ggX6_count_X6_isPlace
set_option maxRecDepth 20000 in
theorem ggX6_count_X4_size : GoodIn wsX6_count wsX4_size := goodIn_r _ [14, 15, 77, 78, 79, 80] (by decide +kernel) (by decide +kernel)
set_option maxRecDepth 20000 in
theorem gX6_count_X4_size : GoodIn wsX6_count (wsV RX6 117 RX4 yX4_size wsX4_size) := goodIn_app (goodIn_of _ (by decide +kernel)) ggX6_count_X4_size
set_option maxRecDepth 20000 in
theorem ggX6_count_X6_isWithLine : GoodIn wsX6_count wsX6_isWithLine := goodIn_r _ [19, 1, 2, 20, 21, 22, 13, 23, 24, 25, 26, 27, 28, 29, 15, 56, 57, 58, 59, 60, 61, 62, 63, 64, 65, 66, 67, 68, 69, 70, 71, 72, 73, 74, 75, 76, 77, 78, 79, 80] (by decide +kernel) (by decide +kernel)
set_option maxRecDepth 20000 in
theorem gX6_count_X6_isWithLine : GoodIn wsX6_count (wsV RX6 129 RX6 yX6_isWithLine wsX6_isWithLine) := goodIn_app (goodIn_of _ (by decide +kernel)) ggX6_count_X6_isWithLine
set_option maxRecDepth 20000 in
theorem ggX6_count_X6_isCountedAs : GoodIn wsX6_count wsX6_isCountedAs := goodIn_r _ [33, 1, 34, 35, 36, 37, 5, 38, 39, 40, 41, 42, 43, 10, 11, 12, 13, 14, 15, 20, 21, 22, 23, 24, 25, 26, 27, 28, 29, 44, 45, 46, 47, 48, 49, 50, 51, 52, 53, 54, 55, 7, 8, 9, 56, 57, 58, 59, 60, 61, 62, 63, 64, 65, 66, 67, 68, 69, 70, 71, 72, 73, 74, 75, 76, 77, 78, 79, 80] (by decide +kernel) (by decide +kernel)
set_option maxRecDepth 20000 in
theorem gX6_count_X6_isCountedAs : GoodIn wsX6_count (wsV RX6 155 RX6 yX6_isCountedAs wsX6_isCountedAs) := goodIn_app (goodIn_of _ (by decide +kernel)) ggX6_count_X6_isCountedAs
theorem dX6_count_0 : decode cX6_count 0 = .ok (.iload_n 1, 1) := by decide +kernel
theorem dX6_count_1 : decode cX6_count 1 = .ok (.invokestatic 126, 3) := by decide +kernel
theorem dX6_count_4 : decode cX6_count 4 = .ok (.ifCond .ne 23, 3) := by decide +kernel
theorem dX6_count_7 : decode cX6_count 7 = .ok (.iload_n 1, 1) := by decide +kernel
theorem dX6_count_8 : decode cX6_count 8 = .ok (.bipush 10, 2) := by decide +kernel
theorem dX6_count_10 : decode cX6_count 10 = .ok (.if_icmp .eq 17, 3) := by decide +kernel
theorem dX6_count_13 : decode cX6_count 13 = .ok (.iload_n 1, 1) := by decide +kernel
theorem dX6_count_14 : decode cX6_count 14 = .ok (.bipush 20, 2) := by decide +kernel
theorem dX6_count_16 : decode cX6_count 16 = .ok (.if_icmp .eq 11, 3) := by decide +kernel
theorem dX6_count_19 : decode cX6_count 19 = .ok (.iload_n 1, 1) := by decide +kernel
theorem dX6_count_20 : decode cX6_count 20 = .ok (.bipush 30, 2) := by decide +kernel
theorem dX6_count_22 : decode cX6_count 22 = .ok (.if_icmp .eq 5, 3) := by decide +kernel
theorem dX6_count_25 : decode cX6_count 25 = .ok (.iconst (-1), 1) := by decide +kernel
theorem dX6_count_26 : decode cX6_count 26 = .ok (.ireturn, 1) := by decide +kernel
theorem dX6_count_27 : decode cX6_count 27 = .ok (.iconst 0, 1) := by decide +kernel
theorem dX6_count_28 : decode cX6_count 28 = .ok (.istore_n 2, 1) := by decide +kernel
theorem dX6_count_29 : decode cX6_count 29 = .ok (.iconst 0, 1) := by decide +kernel
theorem dX6_count_30 : decode cX6_count 30 = .ok (.istore_n 3, 1) := by decide +kernel
theorem dX6_count_31 : decode cX6_count 31 = .ok (.iload_n 3, 1) := by decide +kernel
theorem dX6_count_32 : decode cX6_count 32 = .ok (.aload_n 0, 1) := by decide +kernel
theorem dX6_count_33 : decode cX6_count 33 = .ok (.getfield 12, 3) := by decide +kernel
theorem dX6_count_36 : decode cX6_count 36 = .ok (.getfield 82, 3) := by decide +kernel
theorem dX6_count_39 : decode cX6_count 39 = .ok (.invokevirtual 117, 3) := by decide +kernel
theorem dX6_count_42 : decode cX6_count 42 = .ok (.if_icmp .ge 29, 3) := by decide +kernel
theorem dX6_count_45 : decode cX6_count 45 = .ok (.aload_n 0, 1) := by decide +kernel
theorem dX6_count_46 : decode cX6_count 46 = .ok (.iload_n 3, 1) := by decide +kernel
theorem dX6_count_47 : decode cX6_count 47 = .ok (.invokevirtual 129, 3) := by decide +kernel
theorem dX6_count_50 : decode cX6_count 50 = .ok (.ifCond .eq 15, 3) := by decide +kernel
theorem dX6_count_53 : decode cX6_count 53 = .ok (.aload_n 0, 1) := by decide +kernel
theorem dX6_count_54 : decode cX6_count 54 = .ok (.iload_n 3, 1) := by decide +kernel
theorem dX6_count_55 : decode cX6_count 55 = .ok (.iload_n 1, 1) := by decide +kernel
theorem dX6_count_56 : decode cX6_count 56 = .ok (.invokevirtual 155, 3) := by decide +kernel
theorem dX6_count_59 : decode cX6_count 59 = .ok (.ifCond .eq 6, 3) := by decide +kernel
theorem dX6_count_62 : decode cX6_count 62 = .ok (.iinc 2 1, 3) := by decide +kernel
theorem dX6_count_65 : decode cX6_count 65 = .ok (.iinc 3 1, 3) := by decide +kernel
theorem dX6_count_68 : decode cX6_count 68 = .ok (.goto (-37), 3) := by decide +kernel
theorem dX6_count_71 : decode cX6_count 71 = .ok (.iload_n 2, 1) := by decide +kernel
theorem dX6_count_72 : decode cX6_count 72 = .ok (.ireturn, 1) := by decide +kernel
set_option maxRecDepth 20000 in
theorem ggX6_isWithLine_X4_cell : GoodIn wsX6_isWithLine wsX4_cell := goodIn_r _ [7, 8, 9, 10, 11, 12, 6, 13, 14, 36, 37, 38, 39] (by decide +kernel) (by decide +kernel)
set_option maxRecDepth 20000 in
theorem gX6_isWithLine_X4_cell : GoodIn wsX6_isWithLine (wsV RX6 113 RX4 yX4_cell wsX4_cell) := goodIn_app (goodIn_of _ (by decide +kernel)) ggX6_isWithLine_X4_cell
theorem dX6_isWithLine_0 : decode cX6_isWithLine 0 = .ok (.aload_n 0, 1) := by decide +kernel
theorem dX6_isWithLine_1 : decode cX6_isWithLine 1 = .ok (.getfield 12, 3) := by decide +kernel
theorem dX6_isWithLine_4 : decode cX6_isWithLine 4 = .ok (.getfield 82, 3) := by decide +kernel
theorem dX6_isWithLine_7 : decode cX6_isWithLine 7 = .ok (.iload_n 1, 1) := by decide +kernel
theorem dX6_isWithLine_8 : decode cX6_isWithLine 8 = .ok (.iconst 5, 1) := by decide +kernel
theorem dX6_isWithLine_9 : decode cX6_isWithLine 9 = .ok (.invokevirtual 113, 3) := by decide +kernel
theorem dX6_isWithLine_12 : decode cX6_isWithLine 12 = .ok (.ifCond .ne 7, 3) := by decide +kernel
theorem dX6_isWithLine_15 : decode cX6_isWithLine 15 = .ok (.iconst 1, 1) := by decide +kernel
theorem dX6_isWithLine_16 : decode cX6_isWithLine 16 = .ok (.goto 4, 3) := by decide +kernel
theorem dX6_isWithLine_19 : decode cX6_isWithLine 19 = .ok (.iconst 0, 1) := by decide +kernel
theorem dX6_isWithLine_20 : decode cX6_isWithLine 20 = .ok (.ireturn, 1) := by decide +kernel
set_option maxRecDepth 20000 in
theorem ggX6_isHeard_X4_cell : GoodIn wsX6_isHeard wsX4_cell := goodIn_r _ [7, 8, 9, 10, 11, 12, 6, 13, 14, 36, 37, 38, 39] (by decide +kernel) (by decide +kernel)
set_option maxRecDepth 20000 in
theorem gX6_isHeard_X4_cell : GoodIn wsX6_isHeard (wsV RX6 113 RX4 yX4_cell wsX4_cell) := goodIn_app (goodIn_of _ (by decide +kernel)) ggX6_isHeard_X4_cell
theorem dX6_isHeard_0 : decode cX6_isHeard 0 = .ok (.aload_n 0, 1) := by decide +kernel
theorem dX6_isHeard_1 : decode cX6_isHeard 1 = .ok (.getfield 12, 3) := by decide +kernel
theorem dX6_isHeard_4 : decode cX6_isHeard 4 = .ok (.getfield 132, 3) := by decide +kernel
theorem dX6_isHeard_7 : decode cX6_isHeard 7 = .ok (.iload_n 1, 1) := by decide +kernel
theorem dX6_isHeard_8 : decode cX6_isHeard 8 = .ok (.iconst 0, 1) := by decide +kernel
theorem dX6_isHeard_9 : decode cX6_isHeard 9 = .ok (.invokevirtual 113, 3) := by decide +kernel
theorem dX6_isHeard_12 : decode cX6_isHeard 12 = .ok (.iload_n 2, 1) := by decide +kernel
theorem dX6_isHeard_13 : decode cX6_isHeard 13 = .ok (.if_icmp .ne 23, 3) := by decide +kernel
theorem dX6_isHeard_16 : decode cX6_isHeard 16 = .ok (.aload_n 0, 1) := by decide +kernel
theorem dX6_isHeard_17 : decode cX6_isHeard 17 = .ok (.getfield 12, 3) := by decide +kernel
theorem dX6_isHeard_20 : decode cX6_isHeard 20 = .ok (.getfield 132, 3) := by decide +kernel
theorem dX6_isHeard_23 : decode cX6_isHeard 23 = .ok (.iload_n 1, 1) := by decide +kernel
theorem dX6_isHeard_24 : decode cX6_isHeard 24 = .ok (.iconst 4, 1) := by decide +kernel
theorem dX6_isHeard_25 : decode cX6_isHeard 25 = .ok (.invokevirtual 113, 3) := by decide +kernel
theorem dX6_isHeard_28 : decode cX6_isHeard 28 = .ok (.iload_n 3, 1) := by decide +kernel
theorem dX6_isHeard_29 : decode cX6_isHeard 29 = .ok (.if_icmp .gt 7, 3) := by decide +kernel
theorem dX6_isHeard_32 : decode cX6_isHeard 32 = .ok (.iconst 1, 1) := by decide +kernel
theorem dX6_isHeard_33 : decode cX6_isHeard 33 = .ok (.goto 4, 3) := by decide +kernel
theorem dX6_isHeard_36 : decode cX6_isHeard 36 = .ok (.iconst 0, 1) := by decide +kernel
theorem dX6_isHeard_37 : decode cX6_isHeard 37 = .ok (.ireturn, 1) := by decide +kernel
set_option maxRecDepth 20000 in
theorem ggX6_latestWord_X4_size : GoodIn wsX6_latestWord wsX4_size := goodIn_r _ [7, 8, 45, 46, 47, 48] (by decide +kernel) (by decide +kernel)
set_option maxRecDepth 20000 in
theorem gX6_latestWord_X4_size : GoodIn wsX6_latestWord (wsV RX6 117 RX4 yX4_size wsX4_size) := goodIn_app (goodIn_of _ (by decide +kernel)) ggX6_latestWord_X4_size
set_option maxRecDepth 20000 in
theorem ggX6_latestWord_X4_cell : GoodIn wsX6_latestWord wsX4_cell := goodIn_r _ [12, 13, 14, 15, 16, 17, 6, 18, 8, 45, 46, 47, 48] (by decide +kernel) (by decide +kernel)
set_option maxRecDepth 20000 in
theorem gX6_latestWord_X4_cell : GoodIn wsX6_latestWord (wsV RX6 113 RX4 yX4_cell wsX4_cell) := goodIn_app (goodIn_of _ (by decide +kernel)) ggX6_latestWord_X4_cell
set_option maxRecDepth 20000 in
theorem ggX6_latestWord_X6_isHeard : GoodIn wsX6_latestWord wsX6_isHeard := goodIn_r _ [23, 1, 2, 9, 10, 11, 6, 12, 13, 14, 15, 16, 17, 18, 8, 24, 25, 26, 27, 28, 29, 30, 31, 32, 33, 34, 35, 36, 37, 38, 39, 40, 41, 42, 43, 44, 45, 46, 47, 48] (by decide +kernel) (by decide +kernel)
set_option maxRecDepth 20000 in
theorem gX6_latestWord_X6_isHeard : GoodIn wsX6_latestWord (wsV RX6 145 RX6 yX6_isHeard wsX6_isHeard) := goodIn_app (goodIn_of _ (by decide +kernel)) ggX6_latestWord_X6_isHeard
theorem dX6_latestWord_0 : decode cX6_latestWord 0 = .ok (.bipush (-3), 2) := by decide +kernel
theorem dX6_latestWord_2 : decode cX6_latestWord 2 = .ok (.istore 4, 2) := by decide +kernel
theorem dX6_latestWord_4 : decode cX6_latestWord 4 = .ok (.iconst 0, 1) := by decide +kernel
theorem dX6_latestWord_5 : decode cX6_latestWord 5 = .ok (.istore 5, 2) := by decide +kernel
theorem dX6_latestWord_7 : decode cX6_latestWord 7 = .ok (.iconst 0, 1) := by decide +kernel
theorem dX6_latestWord_8 : decode cX6_latestWord 8 = .ok (.istore 6, 2) := by decide +kernel
theorem dX6_latestWord_10 : decode cX6_latestWord 10 = .ok (.iload 6, 2) := by decide +kernel
theorem dX6_latestWord_12 : decode cX6_latestWord 12 = .ok (.aload_n 0, 1) := by decide +kernel
theorem dX6_latestWord_13 : decode cX6_latestWord 13 = .ok (.getfield 12, 3) := by decide +kernel
theorem dX6_latestWord_16 : decode cX6_latestWord 16 = .ok (.getfield 132, 3) := by decide +kernel
theorem dX6_latestWord_19 : decode cX6_latestWord 19 = .ok (.invokevirtual 117, 3) := by decide +kernel
theorem dX6_latestWord_22 : decode cX6_latestWord 22 = .ok (.if_icmp .ge 56, 3) := by decide +kernel
theorem dX6_latestWord_25 : decode cX6_latestWord 25 = .ok (.aload_n 0, 1) := by decide +kernel
theorem dX6_latestWord_26 : decode cX6_latestWord 26 = .ok (.getfield 12, 3) := by decide +kernel
theorem dX6_latestWord_29 : decode cX6_latestWord 29 = .ok (.getfield 132, 3) := by decide +kernel
theorem dX6_latestWord_32 : decode cX6_latestWord 32 = .ok (.iload 6, 2) := by decide +kernel
theorem dX6_latestWord_34 : decode cX6_latestWord 34 = .ok (.iconst 1, 1) := by decide +kernel
theorem dX6_latestWord_35 : decode cX6_latestWord 35 = .ok (.invokevirtual 113, 3) := by decide +kernel
theorem dX6_latestWord_38 : decode cX6_latestWord 38 = .ok (.istore 7, 2) := by decide +kernel
theorem dX6_latestWord_40 : decode cX6_latestWord 40 = .ok (.aload_n 0, 1) := by decide +kernel
theorem dX6_latestWord_41 : decode cX6_latestWord 41 = .ok (.iload 6, 2) := by decide +kernel
theorem dX6_latestWord_43 : decode cX6_latestWord 43 = .ok (.iload_n 1, 1) := by decide +kernel
theorem dX6_latestWord_44 : decode cX6_latestWord 44 = .ok (.iload_n 3, 1) := by decide +kernel
theorem dX6_latestWord_45 : decode cX6_latestWord 45 = .ok (.invokevirtual 145, 3) := by decide +kernel
theorem dX6_latestWord_48 : decode cX6_latestWord 48 = .ok (.ifCond .eq 24, 3) := by decide +kernel
theorem dX6_latestWord_51 : decode cX6_latestWord 51 = .ok (.iload 7, 2) := by decide +kernel
theorem dX6_latestWord_53 : decode cX6_latestWord 53 = .ok (.iload_n 2, 1) := by decide +kernel
theorem dX6_latestWord_54 : decode cX6_latestWord 54 = .ok (.if_icmp .gt 18, 3) := by decide +kernel
theorem dX6_latestWord_57 : decode cX6_latestWord 57 = .ok (.iload 7, 2) := by decide +kernel
theorem dX6_latestWord_59 : decode cX6_latestWord 59 = .ok (.iload 5, 2) := by decide +kernel
theorem dX6_latestWord_61 : decode cX6_latestWord 61 = .ok (.if_icmp .lt 11, 3) := by decide +kernel
theorem dX6_latestWord_64 : decode cX6_latestWord 64 = .ok (.iload 6, 2) := by decide +kernel
theorem dX6_latestWord_66 : decode cX6_latestWord 66 = .ok (.istore 4, 2) := by decide +kernel
theorem dX6_latestWord_68 : decode cX6_latestWord 68 = .ok (.iload 7, 2) := by decide +kernel
theorem dX6_latestWord_70 : decode cX6_latestWord 70 = .ok (.istore 5, 2) := by decide +kernel
theorem dX6_latestWord_72 : decode cX6_latestWord 72 = .ok (.iinc 6 1, 3) := by decide +kernel
theorem dX6_latestWord_75 : decode cX6_latestWord 75 = .ok (.goto (-65), 3) := by decide +kernel
theorem dX6_latestWord_78 : decode cX6_latestWord 78 = .ok (.iload 4, 2) := by decide +kernel
theorem dX6_latestWord_80 : decode cX6_latestWord 80 = .ok (.ireturn, 1) := by decide +kernel
set_option maxRecDepth 20000 in
theorem ggX6_standing_X6_latestWord : GoodIn wsX6_standing wsX6_latestWord := goodIn_r _ [7, 1, 2, 8, 9, 10, 11, 12, 13, 14, 15, 16, 17, 18, 19, 20, 21, 22, 23, 24, 25, 26, 6, 27, 32, 33, 34, 35, 36, 37, 38, 39, 40, 41, 42, 43, 44, 45, 46, 47, 48, 49, 50, 51, 52, 53, 54, 55, 56] (by decide +kernel) (by decide +kernel)
set_option maxRecDepth 20000 in
theorem gX6_standing_X6_latestWord : GoodIn wsX6_standing (wsV RX6 142 RX6 yX6_latestWord wsX6_latestWord) := goodIn_app (goodIn_of _ (by decide +kernel)) ggX6_standing_X6_latestWord
set_option maxRecDepth 20000 in
theorem ggX6_standing_X4_cell : GoodIn wsX6_standing wsX4_cell := goodIn_r _ [17, 18, 19, 20, 21, 22, 11, 23, 13, 53, 54, 55, 56] (by decide +kernel) (by decide +kernel)
set_option maxRecDepth 20000 in
theorem gX6_standing_X4_cell : GoodIn wsX6_standing (wsV RX6 113 RX4 yX4_cell wsX4_cell) := goodIn_app (goodIn_of _ (by decide +kernel)) ggX6_standing_X4_cell
set_option maxRecDepth 20000 in
theorem ggX6_standing_X6_isOut : GoodIn wsX6_standing wsX6_isOut := goodIn_r _ [31, 1, 2, 14, 15, 16, 11, 17, 18, 19, 20, 21, 22, 23, 13, 32, 33, 34, 35, 36, 37, 38, 39, 40, 41, 42, 43, 44, 45, 46, 47, 48, 49, 50, 51, 52, 53, 54, 55, 56] (by decide +kernel) (by decide +kernel)
set_option maxRecDepth 20000 in
theorem gX6_standing_X6_isOut : GoodIn wsX6_standing (wsV RX6 158 RX6 yX6_isOut wsX6_isOut) := goodIn_app (goodIn_of _ (by decide +kernel)) ggX6_standing_X6_isOut
theorem dX6_standing_0 : decode cX6_standing 0 = .ok (.aload_n 0, 1) := by decide +kernel
theorem dX6_standing_1 : decode cX6_standing 1 = .ok (.iload_n 1, 1) := by decide +kernel
theorem dX6_standing_2 : decode cX6_standing 2 = .ok (.iload_n 2, 1) := by decide +kernel
theorem dX6_standing_3 : decode cX6_standing 3 = .ok (.iload_n 3, 1) := by decide +kernel
theorem dX6_standing_4 : decode cX6_standing 4 = .ok (.invokevirtual 142, 3) := by decide +kernel
theorem dX6_standing_7 : decode cX6_standing 7 = .ok (.istore 4, 2) := by decide +kernel
theorem dX6_standing_9 : decode cX6_standing 9 = .ok (.iload 4, 2) := by decide +kernel
theorem dX6_standing_11 : decode cX6_standing 11 = .ok (.ifCond .ge 6, 3) := by decide +kernel
theorem dX6_standing_14 : decode cX6_standing 14 = .ok (.bipush 20, 2) := by decide +kernel
theorem dX6_standing_16 : decode cX6_standing 16 = .ok (.ireturn, 1) := by decide +kernel
theorem dX6_standing_17 : decode cX6_standing 17 = .ok (.aload_n 0, 1) := by decide +kernel
theorem dX6_standing_18 : decode cX6_standing 18 = .ok (.getfield 12, 3) := by decide +kernel
theorem dX6_standing_21 : decode cX6_standing 21 = .ok (.getfield 132, 3) := by decide +kernel
theorem dX6_standing_24 : decode cX6_standing 24 = .ok (.iload 4, 2) := by decide +kernel
theorem dX6_standing_26 : decode cX6_standing 26 = .ok (.iconst 2, 1) := by decide +kernel
theorem dX6_standing_27 : decode cX6_standing 27 = .ok (.invokevirtual 113, 3) := by decide +kernel
theorem dX6_standing_30 : decode cX6_standing 30 = .ok (.istore 5, 2) := by decide +kernel
theorem dX6_standing_32 : decode cX6_standing 32 = .ok (.aload_n 0, 1) := by decide +kernel
theorem dX6_standing_33 : decode cX6_standing 33 = .ok (.iload 4, 2) := by decide +kernel
theorem dX6_standing_35 : decode cX6_standing 35 = .ok (.invokevirtual 158, 3) := by decide +kernel
theorem dX6_standing_38 : decode cX6_standing 38 = .ok (.ifCond .eq 11, 3) := by decide +kernel
theorem dX6_standing_41 : decode cX6_standing 41 = .ok (.bipush 10, 2) := by decide +kernel
theorem dX6_standing_43 : decode cX6_standing 43 = .ok (.iload 5, 2) := by decide +kernel
theorem dX6_standing_45 : decode cX6_standing 45 = .ok (.iadd, 1) := by decide +kernel
theorem dX6_standing_46 : decode cX6_standing 46 = .ok (.goto 5, 3) := by decide +kernel
theorem dX6_standing_49 : decode cX6_standing 49 = .ok (.iload 5, 2) := by decide +kernel
theorem dX6_standing_51 : decode cX6_standing 51 = .ok (.ireturn, 1) := by decide +kernel
set_option maxRecDepth 20000 in
theorem ggX6_isOut_X4_cell : GoodIn wsX6_isOut wsX4_cell := goodIn_r _ [7, 8, 9, 10, 11, 12, 6, 13, 14, 36, 37, 38, 39] (by decide +kernel) (by decide +kernel)
set_option maxRecDepth 20000 in
theorem gX6_isOut_X4_cell : GoodIn wsX6_isOut (wsV RX6 113 RX4 yX4_cell wsX4_cell) := goodIn_app (goodIn_of _ (by decide +kernel)) ggX6_isOut_X4_cell
theorem dX6_isOut_0 : decode cX6_isOut 0 = .ok (.aload_n 0, 1) := by decide +kernel
theorem dX6_isOut_1 : decode cX6_isOut 1 = .ok (.getfield 12, 3) := by decide +kernel
theorem dX6_isOut_4 : decode cX6_isOut 4 = .ok (.getfield 132, 3) := by decide +kernel
theorem dX6_isOut_7 : decode cX6_isOut 7 = .ok (.iload_n 1, 1) := by decide +kernel
theorem dX6_isOut_8 : decode cX6_isOut 8 = .ok (.iconst 3, 1) := by decide +kernel
theorem dX6_isOut_9 : decode cX6_isOut 9 = .ok (.invokevirtual 113, 3) := by decide +kernel
theorem dX6_isOut_12 : decode cX6_isOut 12 = .ok (.iconst 1, 1) := by decide +kernel
theorem dX6_isOut_13 : decode cX6_isOut 13 = .ok (.if_icmp .ne 7, 3) := by decide +kernel
theorem dX6_isOut_16 : decode cX6_isOut 16 = .ok (.iconst 1, 1) := by decide +kernel
theorem dX6_isOut_17 : decode cX6_isOut 17 = .ok (.goto 4, 3) := by decide +kernel
theorem dX6_isOut_20 : decode cX6_isOut 20 = .ok (.iconst 0, 1) := by decide +kernel
theorem dX6_isOut_21 : decode cX6_isOut 21 = .ok (.ireturn, 1) := by decide +kernel
set_option maxRecDepth 20000 in
theorem ggX6_isLateToday_X6_latestWord : GoodIn wsX6_isLateToday wsX6_latestWord := goodIn_r _ [8, 1, 3, 9, 10, 11, 12, 13, 14, 15, 16, 17, 18, 19, 20, 21, 22, 23, 24, 25, 26, 27, 7, 28, 33, 34, 35, 36, 37, 38, 39, 40, 41, 42, 43, 44, 45, 46, 47, 48, 49, 50, 51, 52, 53, 54, 55, 56, 57] (by decide +kernel) (by decide +kernel)
set_option maxRecDepth 20000 in
theorem gX6_isLateToday_X6_latestWord : GoodIn wsX6_isLateToday (wsV RX6 142 RX6 yX6_latestWord wsX6_latestWord) := goodIn_app (goodIn_of _ (by decide +kernel)) ggX6_isLateToday_X6_latestWord
set_option maxRecDepth 20000 in
theorem ggX6_isLateToday_X6_isOut : GoodIn wsX6_isLateToday wsX6_isOut := goodIn_r _ [32, 1, 3, 15, 16, 17, 12, 18, 19, 20, 21, 22, 23, 24, 14, 33, 34, 35, 36, 37, 38, 39, 40, 41, 42, 43, 44, 45, 46, 47, 48, 49, 50, 51, 52, 53, 54, 55, 56, 57] (by decide +kernel) (by decide +kernel)
set_option maxRecDepth 20000 in
theorem gX6_isLateToday_X6_isOut : GoodIn wsX6_isLateToday (wsV RX6 158 RX6 yX6_isOut wsX6_isOut) := goodIn_app (goodIn_of _ (by decide +kernel)) ggX6_isLateToday_X6_isOut
set_option maxRecDepth 20000 in
theorem ggX6_isLateToday_X4_cell : GoodIn wsX6_isLateToday wsX4_cell := goodIn_r _ [18, 19, 20, 21, 22, 23, 12, 24, 14, 54, 55, 56, 57] (by decide +kernel) (by decide +kernel)
set_option maxRecDepth 20000 in
theorem gX6_isLateToday_X4_cell : GoodIn wsX6_isLateToday (wsV RX6 113 RX4 yX4_cell wsX4_cell) := goodIn_app (goodIn_of _ (by decide +kernel)) ggX6_isLateToday_X4_cell
theorem dX6_isLateToday_0 : decode cX6_isLateToday 0 = .ok (.aload_n 0, 1) := by decide +kernel
theorem dX6_isLateToday_1 : decode cX6_isLateToday 1 = .ok (.iload_n 1, 1) := by decide +kernel
theorem dX6_isLateToday_2 : decode cX6_isLateToday 2 = .ok (.aload_n 0, 1) := by decide +kernel
theorem dX6_isLateToday_3 : decode cX6_isLateToday 3 = .ok (.getfield 12, 3) := by decide +kernel
theorem dX6_isLateToday_6 : decode cX6_isLateToday 6 = .ok (.getfield 58, 3) := by decide +kernel
theorem dX6_isLateToday_9 : decode cX6_isLateToday 9 = .ok (.aload_n 0, 1) := by decide +kernel
theorem dX6_isLateToday_10 : decode cX6_isLateToday 10 = .ok (.getfield 12, 3) := by decide +kernel
theorem dX6_isLateToday_13 : decode cX6_isLateToday 13 = .ok (.getfield 58, 3) := by decide +kernel
theorem dX6_isLateToday_16 : decode cX6_isLateToday 16 = .ok (.invokevirtual 142, 3) := by decide +kernel
theorem dX6_isLateToday_19 : decode cX6_isLateToday 19 = .ok (.istore_n 2, 1) := by decide +kernel
theorem dX6_isLateToday_20 : decode cX6_isLateToday 20 = .ok (.iload_n 2, 1) := by decide +kernel
theorem dX6_isLateToday_21 : decode cX6_isLateToday 21 = .ok (.ifCond .lt 40, 3) := by decide +kernel
theorem dX6_isLateToday_24 : decode cX6_isLateToday 24 = .ok (.aload_n 0, 1) := by decide +kernel
theorem dX6_isLateToday_25 : decode cX6_isLateToday 25 = .ok (.iload_n 2, 1) := by decide +kernel
theorem dX6_isLateToday_26 : decode cX6_isLateToday 26 = .ok (.invokevirtual 158, 3) := by decide +kernel
theorem dX6_isLateToday_29 : decode cX6_isLateToday 29 = .ok (.ifCond .eq 32, 3) := by decide +kernel
theorem dX6_isLateToday_32 : decode cX6_isLateToday 32 = .ok (.aload_n 0, 1) := by decide +kernel
theorem dX6_isLateToday_33 : decode cX6_isLateToday 33 = .ok (.getfield 12, 3) := by decide +kernel
theorem dX6_isLateToday_36 : decode cX6_isLateToday 36 = .ok (.getfield 58, 3) := by decide +kernel
theorem dX6_isLateToday_39 : decode cX6_isLateToday 39 = .ok (.aload_n 0, 1) := by decide +kernel
theorem dX6_isLateToday_40 : decode cX6_isLateToday 40 = .ok (.getfield 12, 3) := by decide +kernel
theorem dX6_isLateToday_43 : decode cX6_isLateToday 43 = .ok (.getfield 132, 3) := by decide +kernel
theorem dX6_isLateToday_46 : decode cX6_isLateToday 46 = .ok (.iload_n 2, 1) := by decide +kernel
theorem dX6_isLateToday_47 : decode cX6_isLateToday 47 = .ok (.iconst 1, 1) := by decide +kernel
theorem dX6_isLateToday_48 : decode cX6_isLateToday 48 = .ok (.invokevirtual 113, 3) := by decide +kernel
theorem dX6_isLateToday_51 : decode cX6_isLateToday 51 = .ok (.isub, 1) := by decide +kernel
theorem dX6_isLateToday_52 : decode cX6_isLateToday 52 = .ok (.bipush 20, 2) := by decide +kernel
theorem dX6_isLateToday_54 : decode cX6_isLateToday 54 = .ok (.if_icmp .le 7, 3) := by decide +kernel
theorem dX6_isLateToday_57 : decode cX6_isLateToday 57 = .ok (.iconst 1, 1) := by decide +kernel
theorem dX6_isLateToday_58 : decode cX6_isLateToday 58 = .ok (.goto 4, 3) := by decide +kernel
theorem dX6_isLateToday_61 : decode cX6_isLateToday 61 = .ok (.iconst 0, 1) := by decide +kernel
theorem dX6_isLateToday_62 : decode cX6_isLateToday 62 = .ok (.ireturn, 1) := by decide +kernel
set_option maxRecDepth 20000 in
theorem ggX6_isCountedAs_X6_isLateToday : GoodIn wsX6_isCountedAs wsX6_isLateToday := goodIn_r _ [7, 1, 2, 8, 9, 10, 11, 6, 12, 13, 14, 15, 16, 17, 18, 19, 20, 21, 22, 23, 24, 25, 26, 27, 28, 29, 30, 31, 32, 33, 34, 35, 36, 44, 45, 46, 47, 48, 49, 50, 51, 52, 53, 54, 55, 56, 57, 58, 59, 60, 61, 62, 63, 64, 65, 66, 67, 68] (by decide +kernel) (by decide +kernel)
set_option maxRecDepth 20000 in
theorem gX6_isCountedAs_X6_isLateToday : GoodIn wsX6_isCountedAs (wsV RX6 161 RX6 yX6_isLateToday wsX6_isLateToday) := goodIn_app (goodIn_of _ (by decide +kernel)) ggX6_isCountedAs_X6_isLateToday
set_option maxRecDepth 20000 in
theorem ggX6_isCountedAs_X6_standing : GoodIn wsX6_isCountedAs wsX6_standing := goodIn_r _ [40, 1, 8, 9, 10, 11, 6, 12, 13, 14, 15, 16, 17, 18, 19, 20, 21, 22, 23, 24, 25, 26, 27, 28, 29, 30, 31, 32, 33, 34, 35, 36, 44, 45, 46, 47, 48, 49, 50, 51, 52, 53, 54, 55, 56, 57, 58, 59, 60, 61, 62, 63, 64, 65, 66, 67, 68] (by decide +kernel) (by decide +kernel)
set_option maxRecDepth 20000 in
theorem gX6_isCountedAs_X6_standing : GoodIn wsX6_isCountedAs (wsV RX6 138 RX6 yX6_standing wsX6_standing) := goodIn_app (goodIn_of _ (by decide +kernel)) ggX6_isCountedAs_X6_standing
set_option maxRecDepth 20000 in
theorem ggX6_isCountedAs_X6_isWithin : GoodIn wsX6_isCountedAs wsX6_isWithin := goodIn_r _ [43] (by decide +kernel) (by decide +kernel)
set_option maxRecDepth 20000 in
theorem gX6_isCountedAs_X6_isWithin : GoodIn wsX6_isCountedAs (va_wsS RX6 54 yX6_isWithin wsX6_isWithin) := goodIn_app (goodIn_of _ (by decide +kernel)) ggX6_isCountedAs_X6_isWithin
theorem dX6_isCountedAs_0 : decode cX6_isCountedAs 0 = .ok (.iload_n 2, 1) := by decide +kernel
theorem dX6_isCountedAs_1 : decode cX6_isCountedAs 1 = .ok (.bipush 30, 2) := by decide +kernel
theorem dX6_isCountedAs_3 : decode cX6_isCountedAs 3 = .ok (.if_icmp .ne 9, 3) := by decide +kernel
theorem dX6_isCountedAs_6 : decode cX6_isCountedAs 6 = .ok (.aload_n 0, 1) := by decide +kernel
theorem dX6_isCountedAs_7 : decode cX6_isCountedAs 7 = .ok (.iload_n 1, 1) := by decide +kernel
theorem dX6_isCountedAs_8 : decode cX6_isCountedAs 8 = .ok (.invokevirtual 161, 3) := by decide +kernel
theorem dX6_isCountedAs_11 : decode cX6_isCountedAs 11 = .ok (.ireturn, 1) := by decide +kernel
theorem dX6_isCountedAs_12 : decode cX6_isCountedAs 12 = .ok (.aload_n 0, 1) := by decide +kernel
theorem dX6_isCountedAs_13 : decode cX6_isCountedAs 13 = .ok (.iload_n 1, 1) := by decide +kernel
theorem dX6_isCountedAs_14 : decode cX6_isCountedAs 14 = .ok (.aload_n 0, 1) := by decide +kernel
theorem dX6_isCountedAs_15 : decode cX6_isCountedAs 15 = .ok (.getfield 12, 3) := by decide +kernel
theorem dX6_isCountedAs_18 : decode cX6_isCountedAs 18 = .ok (.getfield 58, 3) := by decide +kernel
theorem dX6_isCountedAs_21 : decode cX6_isCountedAs 21 = .ok (.aload_n 0, 1) := by decide +kernel
theorem dX6_isCountedAs_22 : decode cX6_isCountedAs 22 = .ok (.getfield 12, 3) := by decide +kernel
theorem dX6_isCountedAs_25 : decode cX6_isCountedAs 25 = .ok (.getfield 58, 3) := by decide +kernel
theorem dX6_isCountedAs_28 : decode cX6_isCountedAs 28 = .ok (.invokevirtual 138, 3) := by decide +kernel
theorem dX6_isCountedAs_31 : decode cX6_isCountedAs 31 = .ok (.istore_n 3, 1) := by decide +kernel
theorem dX6_isCountedAs_32 : decode cX6_isCountedAs 32 = .ok (.iload_n 2, 1) := by decide +kernel
theorem dX6_isCountedAs_33 : decode cX6_isCountedAs 33 = .ok (.bipush 10, 2) := by decide +kernel
theorem dX6_isCountedAs_35 : decode cX6_isCountedAs 35 = .ok (.if_icmp .ne 14, 3) := by decide +kernel
theorem dX6_isCountedAs_38 : decode cX6_isCountedAs 38 = .ok (.iload_n 3, 1) := by decide +kernel
theorem dX6_isCountedAs_39 : decode cX6_isCountedAs 39 = .ok (.bipush 10, 2) := by decide +kernel
theorem dX6_isCountedAs_41 : decode cX6_isCountedAs 41 = .ok (.bipush 15, 2) := by decide +kernel
theorem dX6_isCountedAs_43 : decode cX6_isCountedAs 43 = .ok (.invokestatic 54, 3) := by decide +kernel
theorem dX6_isCountedAs_46 : decode cX6_isCountedAs 46 = .ok (.goto 13, 3) := by decide +kernel
theorem dX6_isCountedAs_49 : decode cX6_isCountedAs 49 = .ok (.iload_n 3, 1) := by decide +kernel
theorem dX6_isCountedAs_50 : decode cX6_isCountedAs 50 = .ok (.iload_n 2, 1) := by decide +kernel
theorem dX6_isCountedAs_51 : decode cX6_isCountedAs 51 = .ok (.if_icmp .ne 7, 3) := by decide +kernel
theorem dX6_isCountedAs_54 : decode cX6_isCountedAs 54 = .ok (.iconst 1, 1) := by decide +kernel
theorem dX6_isCountedAs_55 : decode cX6_isCountedAs 55 = .ok (.goto 4, 3) := by decide +kernel
theorem dX6_isCountedAs_58 : decode cX6_isCountedAs 58 = .ok (.iconst 0, 1) := by decide +kernel
theorem dX6_isCountedAs_59 : decode cX6_isCountedAs 59 = .ok (.ireturn, 1) := by decide +kernel
set_option maxRecDepth 20000 in
theorem ggX6_wordBehind_X4_size : GoodIn wsX6_wordBehind wsX4_size := goodIn_r _ [7, 8, 49, 50, 51, 52] (by decide +kernel) (by decide +kernel)
set_option maxRecDepth 20000 in
theorem gX6_wordBehind_X4_size : GoodIn wsX6_wordBehind (wsV RX6 117 RX4 yX4_size wsX4_size) := goodIn_app (goodIn_of _ (by decide +kernel)) ggX6_wordBehind_X4_size
set_option maxRecDepth 20000 in
theorem ggX6_wordBehind_X6_isHeard : GoodIn wsX6_wordBehind wsX6_isHeard := goodIn_r _ [13, 1, 2, 14, 15, 16, 6, 17, 18, 19, 20, 21, 22, 23, 8, 28, 29, 30, 31, 32, 33, 34, 35, 36, 37, 38, 39, 40, 41, 42, 43, 44, 45, 46, 47, 48, 49, 50, 51, 52] (by decide +kernel) (by decide +kernel)
set_option maxRecDepth 20000 in
theorem gX6_wordBehind_X6_isHeard : GoodIn wsX6_wordBehind (wsV RX6 145 RX6 yX6_isHeard wsX6_isHeard) := goodIn_app (goodIn_of _ (by decide +kernel)) ggX6_wordBehind_X6_isHeard
set_option maxRecDepth 20000 in
theorem ggX6_wordBehind_X6_isBehind : GoodIn wsX6_wordBehind wsX6_isBehind := goodIn_r _ [27, 1, 2, 14, 15, 16, 6, 17, 18, 19, 20, 21, 22, 23, 8, 28, 29, 30, 31, 32, 33, 34, 35, 36, 37, 38, 39, 40, 41, 42, 43, 44, 45, 46, 47, 48, 49, 50, 51, 52] (by decide +kernel) (by decide +kernel)
set_option maxRecDepth 20000 in
theorem gX6_wordBehind_X6_isBehind : GoodIn wsX6_wordBehind (wsV RX6 164 RX6 yX6_isBehind wsX6_isBehind) := goodIn_app (goodIn_of _ (by decide +kernel)) ggX6_wordBehind_X6_isBehind
theorem dX6_wordBehind_0 : decode cX6_wordBehind 0 = .ok (.bipush (-3), 2) := by decide +kernel
theorem dX6_wordBehind_2 : decode cX6_wordBehind 2 = .ok (.istore 4, 2) := by decide +kernel
theorem dX6_wordBehind_4 : decode cX6_wordBehind 4 = .ok (.iconst 0, 1) := by decide +kernel
theorem dX6_wordBehind_5 : decode cX6_wordBehind 5 = .ok (.istore 5, 2) := by decide +kernel
theorem dX6_wordBehind_7 : decode cX6_wordBehind 7 = .ok (.iload 5, 2) := by decide +kernel
theorem dX6_wordBehind_9 : decode cX6_wordBehind 9 = .ok (.aload_n 0, 1) := by decide +kernel
theorem dX6_wordBehind_10 : decode cX6_wordBehind 10 = .ok (.getfield 12, 3) := by decide +kernel
theorem dX6_wordBehind_13 : decode cX6_wordBehind 13 = .ok (.getfield 132, 3) := by decide +kernel
theorem dX6_wordBehind_16 : decode cX6_wordBehind 16 = .ok (.invokevirtual 117, 3) := by decide +kernel
theorem dX6_wordBehind_19 : decode cX6_wordBehind 19 = .ok (.if_icmp .ge 50, 3) := by decide +kernel
theorem dX6_wordBehind_22 : decode cX6_wordBehind 22 = .ok (.aload_n 0, 1) := by decide +kernel
theorem dX6_wordBehind_23 : decode cX6_wordBehind 23 = .ok (.iload 5, 2) := by decide +kernel
theorem dX6_wordBehind_25 : decode cX6_wordBehind 25 = .ok (.iload_n 2, 1) := by decide +kernel
theorem dX6_wordBehind_26 : decode cX6_wordBehind 26 = .ok (.iload_n 3, 1) := by decide +kernel
theorem dX6_wordBehind_27 : decode cX6_wordBehind 27 = .ok (.invokevirtual 145, 3) := by decide +kernel
theorem dX6_wordBehind_30 : decode cX6_wordBehind 30 = .ok (.ifCond .eq 33, 3) := by decide +kernel
theorem dX6_wordBehind_33 : decode cX6_wordBehind 33 = .ok (.aload_n 0, 1) := by decide +kernel
theorem dX6_wordBehind_34 : decode cX6_wordBehind 34 = .ok (.iload 5, 2) := by decide +kernel
theorem dX6_wordBehind_36 : decode cX6_wordBehind 36 = .ok (.iload_n 1, 1) := by decide +kernel
theorem dX6_wordBehind_37 : decode cX6_wordBehind 37 = .ok (.invokevirtual 164, 3) := by decide +kernel
theorem dX6_wordBehind_40 : decode cX6_wordBehind 40 = .ok (.ifCond .eq 23, 3) := by decide +kernel
theorem dX6_wordBehind_43 : decode cX6_wordBehind 43 = .ok (.iload 4, 2) := by decide +kernel
theorem dX6_wordBehind_45 : decode cX6_wordBehind 45 = .ok (.ifCond .lt 14, 3) := by decide +kernel
theorem dX6_wordBehind_48 : decode cX6_wordBehind 48 = .ok (.aload_n 0, 1) := by decide +kernel
theorem dX6_wordBehind_49 : decode cX6_wordBehind 49 = .ok (.iload 4, 2) := by decide +kernel
theorem dX6_wordBehind_51 : decode cX6_wordBehind 51 = .ok (.iload 5, 2) := by decide +kernel
theorem dX6_wordBehind_53 : decode cX6_wordBehind 53 = .ok (.invokevirtual 164, 3) := by decide +kernel
theorem dX6_wordBehind_56 : decode cX6_wordBehind 56 = .ok (.ifCond .eq 7, 3) := by decide +kernel
theorem dX6_wordBehind_59 : decode cX6_wordBehind 59 = .ok (.iload 5, 2) := by decide +kernel
theorem dX6_wordBehind_61 : decode cX6_wordBehind 61 = .ok (.istore 4, 2) := by decide +kernel
theorem dX6_wordBehind_63 : decode cX6_wordBehind 63 = .ok (.iinc 5 1, 3) := by decide +kernel
theorem dX6_wordBehind_66 : decode cX6_wordBehind 66 = .ok (.goto (-59), 3) := by decide +kernel
theorem dX6_wordBehind_69 : decode cX6_wordBehind 69 = .ok (.iload 4, 2) := by decide +kernel
theorem dX6_wordBehind_71 : decode cX6_wordBehind 71 = .ok (.ireturn, 1) := by decide +kernel
set_option maxRecDepth 20000 in
theorem ggX6_isBehind_X4_cell : GoodIn wsX6_isBehind wsX4_cell := goodIn_r _ [7, 8, 9, 10, 11, 12, 6, 13, 14, 36, 37, 38, 39] (by decide +kernel) (by decide +kernel)
set_option maxRecDepth 20000 in
theorem gX6_isBehind_X4_cell : GoodIn wsX6_isBehind (wsV RX6 113 RX4 yX4_cell wsX4_cell) := goodIn_app (goodIn_of _ (by decide +kernel)) ggX6_isBehind_X4_cell
theorem dX6_isBehind_0 : decode cX6_isBehind 0 = .ok (.aload_n 0, 1) := by decide +kernel
theorem dX6_isBehind_1 : decode cX6_isBehind 1 = .ok (.getfield 12, 3) := by decide +kernel
theorem dX6_isBehind_4 : decode cX6_isBehind 4 = .ok (.getfield 132, 3) := by decide +kernel
theorem dX6_isBehind_7 : decode cX6_isBehind 7 = .ok (.iload_n 1, 1) := by decide +kernel
theorem dX6_isBehind_8 : decode cX6_isBehind 8 = .ok (.iconst 1, 1) := by decide +kernel
theorem dX6_isBehind_9 : decode cX6_isBehind 9 = .ok (.invokevirtual 113, 3) := by decide +kernel
theorem dX6_isBehind_12 : decode cX6_isBehind 12 = .ok (.istore_n 3, 1) := by decide +kernel
theorem dX6_isBehind_13 : decode cX6_isBehind 13 = .ok (.aload_n 0, 1) := by decide +kernel
theorem dX6_isBehind_14 : decode cX6_isBehind 14 = .ok (.getfield 12, 3) := by decide +kernel
theorem dX6_isBehind_17 : decode cX6_isBehind 17 = .ok (.getfield 132, 3) := by decide +kernel
theorem dX6_isBehind_20 : decode cX6_isBehind 20 = .ok (.iload_n 2, 1) := by decide +kernel
theorem dX6_isBehind_21 : decode cX6_isBehind 21 = .ok (.iconst 1, 1) := by decide +kernel
theorem dX6_isBehind_22 : decode cX6_isBehind 22 = .ok (.invokevirtual 113, 3) := by decide +kernel
theorem dX6_isBehind_25 : decode cX6_isBehind 25 = .ok (.istore 4, 2) := by decide +kernel
theorem dX6_isBehind_27 : decode cX6_isBehind 27 = .ok (.iload_n 3, 1) := by decide +kernel
theorem dX6_isBehind_28 : decode cX6_isBehind 28 = .ok (.iload 4, 2) := by decide +kernel
theorem dX6_isBehind_30 : decode cX6_isBehind 30 = .ok (.if_icmp .gt 14, 3) := by decide +kernel
theorem dX6_isBehind_33 : decode cX6_isBehind 33 = .ok (.iload_n 3, 1) := by decide +kernel
theorem dX6_isBehind_34 : decode cX6_isBehind 34 = .ok (.iload 4, 2) := by decide +kernel
theorem dX6_isBehind_36 : decode cX6_isBehind 36 = .ok (.if_icmp .ne 12, 3) := by decide +kernel
theorem dX6_isBehind_39 : decode cX6_isBehind 39 = .ok (.iload_n 1, 1) := by decide +kernel
theorem dX6_isBehind_40 : decode cX6_isBehind 40 = .ok (.iload_n 2, 1) := by decide +kernel
theorem dX6_isBehind_41 : decode cX6_isBehind 41 = .ok (.if_icmp .le 7, 3) := by decide +kernel
theorem dX6_isBehind_44 : decode cX6_isBehind 44 = .ok (.iconst 1, 1) := by decide +kernel
theorem dX6_isBehind_45 : decode cX6_isBehind 45 = .ok (.goto 4, 3) := by decide +kernel
theorem dX6_isBehind_48 : decode cX6_isBehind 48 = .ok (.iconst 0, 1) := by decide +kernel
theorem dX6_isBehind_49 : decode cX6_isBehind 49 = .ok (.ireturn, 1) := by decide +kernel
set_option maxRecDepth 20000 in
theorem ggX6_isQuarrel_X6_isOut : GoodIn wsX6_isQuarrel wsX6_isOut := goodIn_r _ [7, 1, 2, 8, 9, 10, 11, 12, 13, 14, 15, 16, 17, 18, 19, 20, 21, 22, 23, 24, 25, 26, 27, 28, 29, 30, 31, 32, 33, 34, 35, 36, 37, 38, 39, 40, 41, 42, 43, 44] (by decide +kernel) (by decide +kernel)
set_option maxRecDepth 20000 in
theorem gX6_isQuarrel_X6_isOut : GoodIn wsX6_isQuarrel (wsV RX6 158 RX6 yX6_isOut wsX6_isOut) := goodIn_app (goodIn_of _ (by decide +kernel)) ggX6_isQuarrel_X6_isOut
set_option maxRecDepth 20000 in
theorem ggX6_isQuarrel_X4_cell : GoodIn wsX6_isQuarrel wsX4_cell := goodIn_r _ [12, 13, 14, 15, 16, 17, 11, 18, 19, 41, 42, 43, 44] (by decide +kernel) (by decide +kernel)
set_option maxRecDepth 20000 in
theorem gX6_isQuarrel_X4_cell : GoodIn wsX6_isQuarrel (wsV RX6 113 RX4 yX4_cell wsX4_cell) := goodIn_app (goodIn_of _ (by decide +kernel)) ggX6_isQuarrel_X4_cell
theorem dX6_isQuarrel_0 : decode cX6_isQuarrel 0 = .ok (.aload_n 0, 1) := by decide +kernel
theorem dX6_isQuarrel_1 : decode cX6_isQuarrel 1 = .ok (.iload_n 1, 1) := by decide +kernel
theorem dX6_isQuarrel_2 : decode cX6_isQuarrel 2 = .ok (.invokevirtual 158, 3) := by decide +kernel
theorem dX6_isQuarrel_5 : decode cX6_isQuarrel 5 = .ok (.ifCond .eq 9, 3) := by decide +kernel
theorem dX6_isQuarrel_8 : decode cX6_isQuarrel 8 = .ok (.aload_n 0, 1) := by decide +kernel
theorem dX6_isQuarrel_9 : decode cX6_isQuarrel 9 = .ok (.iload_n 2, 1) := by decide +kernel
theorem dX6_isQuarrel_10 : decode cX6_isQuarrel 10 = .ok (.invokevirtual 158, 3) := by decide +kernel
theorem dX6_isQuarrel_13 : decode cX6_isQuarrel 13 = .ok (.ireturn, 1) := by decide +kernel
theorem dX6_isQuarrel_14 : decode cX6_isQuarrel 14 = .ok (.aload_n 0, 1) := by decide +kernel
theorem dX6_isQuarrel_15 : decode cX6_isQuarrel 15 = .ok (.getfield 12, 3) := by decide +kernel
theorem dX6_isQuarrel_18 : decode cX6_isQuarrel 18 = .ok (.getfield 132, 3) := by decide +kernel
theorem dX6_isQuarrel_21 : decode cX6_isQuarrel 21 = .ok (.iload_n 1, 1) := by decide +kernel
theorem dX6_isQuarrel_22 : decode cX6_isQuarrel 22 = .ok (.iconst 2, 1) := by decide +kernel
theorem dX6_isQuarrel_23 : decode cX6_isQuarrel 23 = .ok (.invokevirtual 113, 3) := by decide +kernel
theorem dX6_isQuarrel_26 : decode cX6_isQuarrel 26 = .ok (.aload_n 0, 1) := by decide +kernel
theorem dX6_isQuarrel_27 : decode cX6_isQuarrel 27 = .ok (.getfield 12, 3) := by decide +kernel
theorem dX6_isQuarrel_30 : decode cX6_isQuarrel 30 = .ok (.getfield 132, 3) := by decide +kernel
theorem dX6_isQuarrel_33 : decode cX6_isQuarrel 33 = .ok (.iload_n 2, 1) := by decide +kernel
theorem dX6_isQuarrel_34 : decode cX6_isQuarrel 34 = .ok (.iconst 2, 1) := by decide +kernel
theorem dX6_isQuarrel_35 : decode cX6_isQuarrel 35 = .ok (.invokevirtual 113, 3) := by decide +kernel
theorem dX6_isQuarrel_38 : decode cX6_isQuarrel 38 = .ok (.if_icmp .eq 7, 3) := by decide +kernel
theorem dX6_isQuarrel_41 : decode cX6_isQuarrel 41 = .ok (.iconst 1, 1) := by decide +kernel
theorem dX6_isQuarrel_42 : decode cX6_isQuarrel 42 = .ok (.goto 4, 3) := by decide +kernel
theorem dX6_isQuarrel_45 : decode cX6_isQuarrel 45 = .ok (.iconst 0, 1) := by decide +kernel
theorem dX6_isQuarrel_46 : decode cX6_isQuarrel 46 = .ok (.ireturn, 1) := by decide +kernel
set_option maxRecDepth 20000 in
theorem ggX6_week_X6_isPlace : GoodIn wsX6_week wsX6_isPlace := goodIn_r _ [7, 8, 9, 6, 10] (by decide +kernel) (by decide +kernel)
set_option maxRecDepth 20000 in
theorem gX6_week_X6_isPlace : GoodIn wsX6_week (va_wsS RX6 126 yX6_isPlace wsX6_isPlace) := goodIn_app (goodIn_of _ (by decide +kernel)) ggX6_week_X6_isPlace
set_option maxRecDepth 20000 in
theorem ggX6_week_X6_isWeek : GoodIn wsX6_week wsX6_isWeek := goodIn_r _ [13, 8, 9, 6, 10] (by decide +kernel) (by decide +kernel)
set_option maxRecDepth 20000 in
theorem gX6_week_X6_isWeek : GoodIn wsX6_week (va_wsS RX6 167 yX6_isWeek wsX6_isWeek) := goodIn_app (goodIn_of _ (by decide +kernel)) ggX6_week_X6_isWeek
set_option maxRecDepth 20000 in
theorem ggX6_week_X6_isWithin : GoodIn wsX6_week wsX6_isWithin := goodIn_r _ [10] (by decide +kernel) (by decide +kernel)
set_option maxRecDepth 20000 in
theorem gX6_week_X6_isWithin : GoodIn wsX6_week (va_wsS RX6 54 yX6_isWithin wsX6_isWithin) := goodIn_app (goodIn_of _ (by decide +kernel)) ggX6_week_X6_isWithin
set_option maxRecDepth 20000 in
theorem ggX6_week_X6_knotOf : GoodIn wsX6_week wsX6_knotOf := goodIn_r _ [16] (by decide +kernel) (by decide +kernel)
set_option maxRecDepth 20000 in
theorem gX6_week_X6_knotOf : GoodIn wsX6_week (va_wsS RX6 170 yX6_knotOf wsX6_knotOf) := goodIn_app (goodIn_of _ (by decide +kernel)) ggX6_week_X6_knotOf
set_option maxRecDepth 20000 in
theorem ggX6_week_X4_cell : GoodIn wsX6_week wsX4_cell := goodIn_r _ [21, 22, 23, 24, 25, 26, 20, 27, 28, 54, 55, 56, 57] (by decide +kernel) (by decide +kernel)
set_option maxRecDepth 20000 in
theorem gX6_week_X4_cell : GoodIn wsX6_week (wsV RX6 113 RX4 yX4_cell wsX4_cell) := goodIn_app (goodIn_of _ (by decide +kernel)) ggX6_week_X4_cell
set_option maxRecDepth 20000 in
theorem ggX6_week_X4_put : GoodIn wsX6_week wsX4_put := goodIn_r _ [32, 22, 23, 24, 25, 26, 20, 27, 28, 54, 55, 56, 57] (by decide +kernel) (by decide +kernel)
set_option maxRecDepth 20000 in
theorem gX6_week_X4_put : GoodIn wsX6_week (wsV RX6 96 RX4 yX4_put wsX4_put) := goodIn_app (goodIn_of _ (by decide +kernel)) ggX6_week_X4_put
theorem dX6_week_0 : decode cX6_week 0 = .ok (.iload_n 1, 1) := by decide +kernel
theorem dX6_week_1 : decode cX6_week 1 = .ok (.invokestatic 126, 3) := by decide +kernel
theorem dX6_week_4 : decode cX6_week 4 = .ok (.ifCond .eq 30, 3) := by decide +kernel
theorem dX6_week_7 : decode cX6_week 7 = .ok (.iload_n 2, 1) := by decide +kernel
theorem dX6_week_8 : decode cX6_week 8 = .ok (.invokestatic 167, 3) := by decide +kernel
theorem dX6_week_11 : decode cX6_week 11 = .ok (.ifCond .eq 23, 3) := by decide +kernel
theorem dX6_week_14 : decode cX6_week 14 = .ok (.iload_n 3, 1) := by decide +kernel
theorem dX6_week_15 : decode cX6_week 15 = .ok (.iconst 0, 1) := by decide +kernel
theorem dX6_week_16 : decode cX6_week 16 = .ok (.iconst 1, 1) := by decide +kernel
theorem dX6_week_17 : decode cX6_week 17 = .ok (.invokestatic 54, 3) := by decide +kernel
theorem dX6_week_20 : decode cX6_week 20 = .ok (.ifCond .eq 14, 3) := by decide +kernel
theorem dX6_week_23 : decode cX6_week 23 = .ok (.iload 4, 2) := by decide +kernel
theorem dX6_week_25 : decode cX6_week 25 = .ok (.iconst 0, 1) := by decide +kernel
theorem dX6_week_26 : decode cX6_week 26 = .ok (.bipush 9, 2) := by decide +kernel
theorem dX6_week_28 : decode cX6_week 28 = .ok (.invokestatic 54, 3) := by decide +kernel
theorem dX6_week_31 : decode cX6_week 31 = .ok (.ifCond .ne 5, 3) := by decide +kernel
theorem dX6_week_34 : decode cX6_week 34 = .ok (.iconst (-1), 1) := by decide +kernel
theorem dX6_week_35 : decode cX6_week 35 = .ok (.ireturn, 1) := by decide +kernel
theorem dX6_week_36 : decode cX6_week 36 = .ok (.iload_n 1, 1) := by decide +kernel
theorem dX6_week_37 : decode cX6_week 37 = .ok (.iload_n 2, 1) := by decide +kernel
theorem dX6_week_38 : decode cX6_week 38 = .ok (.invokestatic 170, 3) := by decide +kernel
theorem dX6_week_41 : decode cX6_week 41 = .ok (.istore 5, 2) := by decide +kernel
theorem dX6_week_43 : decode cX6_week 43 = .ok (.aload_n 0, 1) := by decide +kernel
theorem dX6_week_44 : decode cX6_week 44 = .ok (.getfield 12, 3) := by decide +kernel
theorem dX6_week_47 : decode cX6_week 47 = .ok (.getfield 173, 3) := by decide +kernel
theorem dX6_week_50 : decode cX6_week 50 = .ok (.iload 5, 2) := by decide +kernel
theorem dX6_week_52 : decode cX6_week 52 = .ok (.iload_n 3, 1) := by decide +kernel
theorem dX6_week_53 : decode cX6_week 53 = .ok (.invokevirtual 113, 3) := by decide +kernel
theorem dX6_week_56 : decode cX6_week 56 = .ok (.istore 6, 2) := by decide +kernel
theorem dX6_week_58 : decode cX6_week 58 = .ok (.aload_n 0, 1) := by decide +kernel
theorem dX6_week_59 : decode cX6_week 59 = .ok (.getfield 12, 3) := by decide +kernel
theorem dX6_week_62 : decode cX6_week 62 = .ok (.getfield 173, 3) := by decide +kernel
theorem dX6_week_65 : decode cX6_week 65 = .ok (.iload 5, 2) := by decide +kernel
theorem dX6_week_67 : decode cX6_week 67 = .ok (.iload_n 3, 1) := by decide +kernel
theorem dX6_week_68 : decode cX6_week 68 = .ok (.iload 4, 2) := by decide +kernel
theorem dX6_week_70 : decode cX6_week 70 = .ok (.invokevirtual 96, 3) := by decide +kernel
theorem dX6_week_73 : decode cX6_week 73 = .ok (.aload_n 0, 1) := by decide +kernel
theorem dX6_week_74 : decode cX6_week 74 = .ok (.iconst 0, 1) := by decide +kernel
theorem dX6_week_75 : decode cX6_week 75 = .ok (.putfield 51, 3) := by decide +kernel
theorem dX6_week_78 : decode cX6_week 78 = .ok (.iload 6, 2) := by decide +kernel
theorem dX6_week_80 : decode cX6_week 80 = .ok (.ireturn, 1) := by decide +kernel
set_option maxRecDepth 20000 in
theorem ggX6_route_X6_isPlace : GoodIn wsX6_route wsX6_isPlace := goodIn_r _ [7, 8, 9, 6, 10] (by decide +kernel) (by decide +kernel)
set_option maxRecDepth 20000 in
theorem gX6_route_X6_isPlace : GoodIn wsX6_route (va_wsS RX6 126 yX6_isPlace wsX6_isPlace) := goodIn_app (goodIn_of _ (by decide +kernel)) ggX6_route_X6_isPlace
set_option maxRecDepth 20000 in
theorem ggX6_route_X6_isWithin : GoodIn wsX6_route wsX6_isWithin := goodIn_r _ [10] (by decide +kernel) (by decide +kernel)
set_option maxRecDepth 20000 in
theorem gX6_route_X6_isWithin : GoodIn wsX6_route (va_wsS RX6 54 yX6_isWithin wsX6_isWithin) := goodIn_app (goodIn_of _ (by decide +kernel)) ggX6_route_X6_isWithin
set_option maxRecDepth 20000 in
theorem ggX6_route_X4_isFull : GoodIn wsX6_route wsX4_isFull := goodIn_r _ [15, 16, 17, 54, 55, 56, 57] (by decide +kernel) (by decide +kernel)
set_option maxRecDepth 20000 in
theorem gX6_route_X4_isFull : GoodIn wsX6_route (wsV RX6 86 RX4 yX4_isFull wsX4_isFull) := goodIn_app (goodIn_of _ (by decide +kernel)) ggX6_route_X4_isFull
set_option maxRecDepth 20000 in
theorem ggX6_route_X4_grow : GoodIn wsX6_route wsX4_grow := goodIn_r _ [21, 16, 22, 12, 13, 14, 15, 17, 54, 55, 56, 57] (by decide +kernel) (by decide +kernel)
set_option maxRecDepth 20000 in
theorem gX6_route_X4_grow : GoodIn wsX6_route (wsV RX6 92 RX4 yX4_grow wsX4_grow) := goodIn_app (goodIn_of _ (by decide +kernel)) ggX6_route_X4_grow
set_option maxRecDepth 20000 in
theorem ggX6_route_X4_put : GoodIn wsX6_route wsX4_put := goodIn_r _ [26, 27, 28, 29, 30, 31, 14, 32, 16, 54, 55, 56, 57] (by decide +kernel) (by decide +kernel)
set_option maxRecDepth 20000 in
theorem gX6_route_X4_put : GoodIn wsX6_route (wsV RX6 96 RX4 yX4_put wsX4_put) := goodIn_app (goodIn_of _ (by decide +kernel)) ggX6_route_X4_put
theorem dX6_route_0 : decode cX6_route 0 = .ok (.iload_n 1, 1) := by decide +kernel
theorem dX6_route_1 : decode cX6_route 1 = .ok (.invokestatic 126, 3) := by decide +kernel
theorem dX6_route_4 : decode cX6_route 4 = .ok (.ifCond .eq 36, 3) := by decide +kernel
theorem dX6_route_7 : decode cX6_route 7 = .ok (.iload_n 2, 1) := by decide +kernel
theorem dX6_route_8 : decode cX6_route 8 = .ok (.invokestatic 126, 3) := by decide +kernel
theorem dX6_route_11 : decode cX6_route 11 = .ok (.ifCond .eq 29, 3) := by decide +kernel
theorem dX6_route_14 : decode cX6_route 14 = .ok (.iload_n 1, 1) := by decide +kernel
theorem dX6_route_15 : decode cX6_route 15 = .ok (.iload_n 2, 1) := by decide +kernel
theorem dX6_route_16 : decode cX6_route 16 = .ok (.if_icmp .eq 24, 3) := by decide +kernel
theorem dX6_route_19 : decode cX6_route 19 = .ok (.iload_n 3, 1) := by decide +kernel
theorem dX6_route_20 : decode cX6_route 20 = .ok (.iconst 0, 1) := by decide +kernel
theorem dX6_route_21 : decode cX6_route 21 = .ok (.iconst 2, 1) := by decide +kernel
theorem dX6_route_22 : decode cX6_route 22 = .ok (.invokestatic 54, 3) := by decide +kernel
theorem dX6_route_25 : decode cX6_route 25 = .ok (.ifCond .eq 15, 3) := by decide +kernel
theorem dX6_route_28 : decode cX6_route 28 = .ok (.iload 4, 2) := by decide +kernel
theorem dX6_route_30 : decode cX6_route 30 = .ok (.iconst 0, 1) := by decide +kernel
theorem dX6_route_31 : decode cX6_route 31 = .ok (.sipush 999, 3) := by decide +kernel
theorem dX6_route_34 : decode cX6_route 34 = .ok (.invokestatic 54, 3) := by decide +kernel
theorem dX6_route_37 : decode cX6_route 37 = .ok (.ifCond .ne 5, 3) := by decide +kernel
theorem dX6_route_40 : decode cX6_route 40 = .ok (.iconst (-1), 1) := by decide +kernel
theorem dX6_route_41 : decode cX6_route 41 = .ok (.ireturn, 1) := by decide +kernel
theorem dX6_route_42 : decode cX6_route 42 = .ok (.aload_n 0, 1) := by decide +kernel
theorem dX6_route_43 : decode cX6_route 43 = .ok (.getfield 12, 3) := by decide +kernel
theorem dX6_route_46 : decode cX6_route 46 = .ok (.getfield 176, 3) := by decide +kernel
theorem dX6_route_49 : decode cX6_route 49 = .ok (.invokevirtual 86, 3) := by decide +kernel
theorem dX6_route_52 : decode cX6_route 52 = .ok (.ifCond .eq 6, 3) := by decide +kernel
theorem dX6_route_55 : decode cX6_route 55 = .ok (.bipush (-2), 2) := by decide +kernel
theorem dX6_route_57 : decode cX6_route 57 = .ok (.ireturn, 1) := by decide +kernel
theorem dX6_route_58 : decode cX6_route 58 = .ok (.aload_n 0, 1) := by decide +kernel
theorem dX6_route_59 : decode cX6_route 59 = .ok (.getfield 12, 3) := by decide +kernel
theorem dX6_route_62 : decode cX6_route 62 = .ok (.getfield 176, 3) := by decide +kernel
theorem dX6_route_65 : decode cX6_route 65 = .ok (.invokevirtual 92, 3) := by decide +kernel
theorem dX6_route_68 : decode cX6_route 68 = .ok (.istore 5, 2) := by decide +kernel
theorem dX6_route_70 : decode cX6_route 70 = .ok (.aload_n 0, 1) := by decide +kernel
theorem dX6_route_71 : decode cX6_route 71 = .ok (.getfield 12, 3) := by decide +kernel
theorem dX6_route_74 : decode cX6_route 74 = .ok (.getfield 176, 3) := by decide +kernel
theorem dX6_route_77 : decode cX6_route 77 = .ok (.iload 5, 2) := by decide +kernel
theorem dX6_route_79 : decode cX6_route 79 = .ok (.iconst 0, 1) := by decide +kernel
theorem dX6_route_80 : decode cX6_route 80 = .ok (.iload_n 1, 1) := by decide +kernel
theorem dX6_route_81 : decode cX6_route 81 = .ok (.invokevirtual 96, 3) := by decide +kernel
theorem dX6_route_84 : decode cX6_route 84 = .ok (.aload_n 0, 1) := by decide +kernel
theorem dX6_route_85 : decode cX6_route 85 = .ok (.getfield 12, 3) := by decide +kernel
theorem dX6_route_88 : decode cX6_route 88 = .ok (.getfield 176, 3) := by decide +kernel
theorem dX6_route_91 : decode cX6_route 91 = .ok (.iload 5, 2) := by decide +kernel
theorem dX6_route_93 : decode cX6_route 93 = .ok (.iconst 1, 1) := by decide +kernel
theorem dX6_route_94 : decode cX6_route 94 = .ok (.iload_n 2, 1) := by decide +kernel
theorem dX6_route_95 : decode cX6_route 95 = .ok (.invokevirtual 96, 3) := by decide +kernel
theorem dX6_route_98 : decode cX6_route 98 = .ok (.aload_n 0, 1) := by decide +kernel
theorem dX6_route_99 : decode cX6_route 99 = .ok (.getfield 12, 3) := by decide +kernel
theorem dX6_route_102 : decode cX6_route 102 = .ok (.getfield 176, 3) := by decide +kernel
theorem dX6_route_105 : decode cX6_route 105 = .ok (.iload 5, 2) := by decide +kernel
theorem dX6_route_107 : decode cX6_route 107 = .ok (.iconst 2, 1) := by decide +kernel
theorem dX6_route_108 : decode cX6_route 108 = .ok (.iload_n 3, 1) := by decide +kernel
theorem dX6_route_109 : decode cX6_route 109 = .ok (.invokevirtual 96, 3) := by decide +kernel
theorem dX6_route_112 : decode cX6_route 112 = .ok (.aload_n 0, 1) := by decide +kernel
theorem dX6_route_113 : decode cX6_route 113 = .ok (.getfield 12, 3) := by decide +kernel
theorem dX6_route_116 : decode cX6_route 116 = .ok (.getfield 176, 3) := by decide +kernel
theorem dX6_route_119 : decode cX6_route 119 = .ok (.iload 5, 2) := by decide +kernel
theorem dX6_route_121 : decode cX6_route 121 = .ok (.iconst 3, 1) := by decide +kernel
theorem dX6_route_122 : decode cX6_route 122 = .ok (.iload 4, 2) := by decide +kernel
theorem dX6_route_124 : decode cX6_route 124 = .ok (.bipush 100, 2) := by decide +kernel
theorem dX6_route_126 : decode cX6_route 126 = .ok (.irem, 1) := by decide +kernel
theorem dX6_route_127 : decode cX6_route 127 = .ok (.invokevirtual 96, 3) := by decide +kernel
theorem dX6_route_130 : decode cX6_route 130 = .ok (.aload_n 0, 1) := by decide +kernel
theorem dX6_route_131 : decode cX6_route 131 = .ok (.getfield 12, 3) := by decide +kernel
theorem dX6_route_134 : decode cX6_route 134 = .ok (.getfield 176, 3) := by decide +kernel
theorem dX6_route_137 : decode cX6_route 137 = .ok (.iload 5, 2) := by decide +kernel
theorem dX6_route_139 : decode cX6_route 139 = .ok (.iconst 4, 1) := by decide +kernel
theorem dX6_route_140 : decode cX6_route 140 = .ok (.iload 4, 2) := by decide +kernel
theorem dX6_route_142 : decode cX6_route 142 = .ok (.bipush 100, 2) := by decide +kernel
theorem dX6_route_144 : decode cX6_route 144 = .ok (.idiv, 1) := by decide +kernel
theorem dX6_route_145 : decode cX6_route 145 = .ok (.invokevirtual 96, 3) := by decide +kernel
theorem dX6_route_148 : decode cX6_route 148 = .ok (.aload_n 0, 1) := by decide +kernel
theorem dX6_route_149 : decode cX6_route 149 = .ok (.iconst 0, 1) := by decide +kernel
theorem dX6_route_150 : decode cX6_route 150 = .ok (.putfield 51, 3) := by decide +kernel
theorem dX6_route_153 : decode cX6_route 153 = .ok (.iload 5, 2) := by decide +kernel
theorem dX6_route_155 : decode cX6_route 155 = .ok (.ireturn, 1) := by decide +kernel
set_option maxRecDepth 20000 in
theorem ggX6_lack_X6_isWithin : GoodIn wsX6_lack wsX6_isWithin := goodIn_r _ [7] (by decide +kernel) (by decide +kernel)
set_option maxRecDepth 20000 in
theorem gX6_lack_X6_isWithin : GoodIn wsX6_lack (va_wsS RX6 54 yX6_isWithin wsX6_isWithin) := goodIn_app (goodIn_of _ (by decide +kernel)) ggX6_lack_X6_isWithin
theorem dX6_lack_0 : decode cX6_lack 0 = .ok (.iload_n 1, 1) := by decide +kernel
theorem dX6_lack_1 : decode cX6_lack 1 = .ok (.iconst 0, 1) := by decide +kernel
theorem dX6_lack_2 : decode cX6_lack 2 = .ok (.sipush 500, 3) := by decide +kernel
theorem dX6_lack_5 : decode cX6_lack 5 = .ok (.invokestatic 54, 3) := by decide +kernel
theorem dX6_lack_8 : decode cX6_lack 8 = .ok (.ifCond .ne 5, 3) := by decide +kernel
theorem dX6_lack_11 : decode cX6_lack 11 = .ok (.iconst (-1), 1) := by decide +kernel
theorem dX6_lack_12 : decode cX6_lack 12 = .ok (.ireturn, 1) := by decide +kernel
theorem dX6_lack_13 : decode cX6_lack 13 = .ok (.aload_n 0, 1) := by decide +kernel
theorem dX6_lack_14 : decode cX6_lack 14 = .ok (.getfield 12, 3) := by decide +kernel
theorem dX6_lack_17 : decode cX6_lack 17 = .ok (.getfield 179, 3) := by decide +kernel
theorem dX6_lack_20 : decode cX6_lack 20 = .ok (.istore_n 2, 1) := by decide +kernel
theorem dX6_lack_21 : decode cX6_lack 21 = .ok (.aload_n 0, 1) := by decide +kernel
theorem dX6_lack_22 : decode cX6_lack 22 = .ok (.getfield 12, 3) := by decide +kernel
theorem dX6_lack_25 : decode cX6_lack 25 = .ok (.iload_n 1, 1) := by decide +kernel
theorem dX6_lack_26 : decode cX6_lack 26 = .ok (.putfield 179, 3) := by decide +kernel
theorem dX6_lack_29 : decode cX6_lack 29 = .ok (.aload_n 0, 1) := by decide +kernel
theorem dX6_lack_30 : decode cX6_lack 30 = .ok (.iconst 0, 1) := by decide +kernel
theorem dX6_lack_31 : decode cX6_lack 31 = .ok (.putfield 51, 3) := by decide +kernel
theorem dX6_lack_34 : decode cX6_lack 34 = .ok (.iload_n 2, 1) := by decide +kernel
theorem dX6_lack_35 : decode cX6_lack 35 = .ok (.ireturn, 1) := by decide +kernel
set_option maxRecDepth 20000 in
theorem ggX6_least_X6_makePlan : GoodIn wsX6_least wsX6_makePlan := goodIn_r _ [7, 8, 1, 9, 10, 11, 12, 13, 14, 15, 16, 17, 18, 19, 20, 21, 22, 23, 24, 25, 26, 27, 28, 29, 30, 31, 32, 33, 34, 35, 36, 37, 38, 39, 40, 41, 42, 43, 44, 45, 46, 47, 48, 49, 50, 51, 6, 52, 53, 54, 55, 56, 57, 58, 59, 60, 61, 62, 63, 64, 65, 66, 67, 68, 69, 70, 71, 72, 73, 74, 75, 76, 77, 78, 79, 80, 81, 82, 83, 84, 85, 86, 87, 88, 89, 90, 91, 92, 93, 94, 95, 96, 97, 98, 110, 111, 112, 113, 114, 115, 116, 117, 118, 119, 120, 121, 122, 99, 100, 101, 102, 103, 104, 105, 106, 107, 108, 109, 123, 124, 125, 126] (by decide +kernel) (by decide +kernel)
set_option maxRecDepth 20000 in
theorem gX6_least_X6_makePlan : GoodIn wsX6_least (wsV RX6 182 RX6 yX6_makePlan wsX6_makePlan) := goodIn_app (goodIn_of _ (by decide +kernel)) ggX6_least_X6_makePlan
theorem dX6_least_0 : decode cX6_least 0 = .ok (.aload_n 0, 1) := by decide +kernel
theorem dX6_least_1 : decode cX6_least 1 = .ok (.invokevirtual 182, 3) := by decide +kernel
theorem dX6_least_4 : decode cX6_least 4 = .ok (.aload_n 0, 1) := by decide +kernel
theorem dX6_least_5 : decode cX6_least 5 = .ok (.getfield 36, 3) := by decide +kernel
theorem dX6_least_8 : decode cX6_least 8 = .ok (.getfield 185, 3) := by decide +kernel
theorem dX6_least_11 : decode cX6_least 11 = .ok (.ireturn, 1) := by decide +kernel
set_option maxRecDepth 20000 in
theorem ggX6_worth_X6_isPlace : GoodIn wsX6_worth wsX6_isPlace := goodIn_r _ [5, 6, 7, 4, 8] (by decide +kernel) (by decide +kernel)
set_option maxRecDepth 20000 in
theorem gX6_worth_X6_isPlace : GoodIn wsX6_worth (va_wsS RX6 126 yX6_isPlace wsX6_isPlace) := goodIn_app (goodIn_of _ (by decide +kernel)) ggX6_worth_X6_isPlace
set_option maxRecDepth 20000 in
theorem ggX6_worth_X6_isWeek : GoodIn wsX6_worth wsX6_isWeek := goodIn_r _ [11, 6, 7, 4, 8] (by decide +kernel) (by decide +kernel)
set_option maxRecDepth 20000 in
theorem gX6_worth_X6_isWeek : GoodIn wsX6_worth (va_wsS RX6 167 yX6_isWeek wsX6_isWeek) := goodIn_app (goodIn_of _ (by decide +kernel)) ggX6_worth_X6_isWeek
set_option maxRecDepth 20000 in
theorem ggX6_worth_X6_makePlan : GoodIn wsX6_worth wsX6_makePlan := goodIn_r _ [15, 16, 1, 17, 18, 19, 20, 21, 22, 23, 24, 25, 26, 27, 28, 29, 30, 31, 32, 33, 34, 35, 36, 37, 38, 39, 40, 41, 42, 43, 44, 45, 46, 47, 48, 49, 50, 51, 52, 53, 54, 55, 56, 57, 58, 59, 4, 60, 61, 62, 63, 64, 65, 66, 67, 7, 8, 68, 69, 70, 71, 72, 73, 74, 75, 76, 77, 78, 79, 80, 81, 82, 83, 84, 85, 86, 87, 88, 89, 90, 91, 92, 93, 94, 95, 96, 102, 103, 104, 105, 106, 107, 108, 109, 110, 111, 112, 113, 114, 115, 116, 117, 118, 119, 120, 121, 122, 123, 124, 125, 126, 127, 128, 129, 130, 131, 132, 133, 134, 135, 136, 137] (by decide +kernel) (by decide +kernel)
set_option maxRecDepth 20000 in
theorem gX6_worth_X6_makePlan : GoodIn wsX6_worth (wsV RX6 182 RX6 yX6_makePlan wsX6_makePlan) := goodIn_app (goodIn_of _ (by decide +kernel)) ggX6_worth_X6_makePlan
set_option maxRecDepth 20000 in
theorem ggX6_worth_X6_knotOf : GoodIn wsX6_worth wsX6_knotOf := goodIn_r _ [60] (by decide +kernel) (by decide +kernel)
set_option maxRecDepth 20000 in
theorem gX6_worth_X6_knotOf : GoodIn wsX6_worth (va_wsS RX6 170 yX6_knotOf wsX6_knotOf) := goodIn_app (goodIn_of _ (by decide +kernel)) ggX6_worth_X6_knotOf
set_option maxRecDepth 20000 in
theorem ggX6_worth_X3_gainAt : GoodIn wsX6_worth wsX3_gainAt := goodIn_r _ [101, 80, 65, 66, 21, 67, 7, 4, 8, 123, 124, 125, 126, 127, 128, 129, 130, 131, 132, 133] (by decide +kernel) (by decide +kernel)
set_option maxRecDepth 20000 in
theorem gX6_worth_X3_gainAt : GoodIn wsX6_worth (wsV RX6 188 RX3 yX3_gainAt wsX3_gainAt) := goodIn_app (goodIn_of _ (by decide +kernel)) ggX6_worth_X3_gainAt
theorem dX6_worth_0 : decode cX6_worth 0 = .ok (.iload_n 1, 1) := by decide +kernel
theorem dX6_worth_1 : decode cX6_worth 1 = .ok (.invokestatic 126, 3) := by decide +kernel
theorem dX6_worth_4 : decode cX6_worth 4 = .ok (.ifCond .eq 10, 3) := by decide +kernel
theorem dX6_worth_7 : decode cX6_worth 7 = .ok (.iload_n 2, 1) := by decide +kernel
theorem dX6_worth_8 : decode cX6_worth 8 = .ok (.invokestatic 167, 3) := by decide +kernel
theorem dX6_worth_11 : decode cX6_worth 11 = .ok (.ifCond .ne 5, 3) := by decide +kernel
theorem dX6_worth_14 : decode cX6_worth 14 = .ok (.iconst (-1), 1) := by decide +kernel
theorem dX6_worth_15 : decode cX6_worth 15 = .ok (.ireturn, 1) := by decide +kernel
theorem dX6_worth_16 : decode cX6_worth 16 = .ok (.aload_n 0, 1) := by decide +kernel
theorem dX6_worth_17 : decode cX6_worth 17 = .ok (.invokevirtual 182, 3) := by decide +kernel
theorem dX6_worth_20 : decode cX6_worth 20 = .ok (.aload_n 0, 1) := by decide +kernel
theorem dX6_worth_21 : decode cX6_worth 21 = .ok (.getfield 36, 3) := by decide +kernel
theorem dX6_worth_24 : decode cX6_worth 24 = .ok (.iload_n 1, 1) := by decide +kernel
theorem dX6_worth_25 : decode cX6_worth 25 = .ok (.iload_n 2, 1) := by decide +kernel
theorem dX6_worth_26 : decode cX6_worth 26 = .ok (.invokestatic 170, 3) := by decide +kernel
theorem dX6_worth_29 : decode cX6_worth 29 = .ok (.invokevirtual 188, 3) := by decide +kernel
theorem dX6_worth_32 : decode cX6_worth 32 = .ok (.ireturn, 1) := by decide +kernel
set_option maxRecDepth 20000 in
theorem ggX6_isWeek_X6_isWithin : GoodIn wsX6_isWeek wsX6_isWithin := goodIn_r _ [4] (by decide +kernel) (by decide +kernel)
set_option maxRecDepth 20000 in
theorem gX6_isWeek_X6_isWithin : GoodIn wsX6_isWeek (va_wsS RX6 54 yX6_isWithin wsX6_isWithin) := goodIn_app (goodIn_of _ (by decide +kernel)) ggX6_isWeek_X6_isWithin
theorem dX6_isWeek_0 : decode cX6_isWeek 0 = .ok (.iload_n 0, 1) := by decide +kernel
theorem dX6_isWeek_1 : decode cX6_isWeek 1 = .ok (.iconst 0, 1) := by decide +kernel
theorem dX6_isWeek_2 : decode cX6_isWeek 2 = .ok (.iconst 4, 1) := by decide +kernel
theorem dX6_isWeek_3 : decode cX6_isWeek 3 = .ok (.invokestatic 54, 3) := by decide +kernel
theorem dX6_isWeek_6 : decode cX6_isWeek 6 = .ok (.ireturn, 1) := by decide +kernel
theorem dX6_knotOf_0 : decode cX6_knotOf 0 = .ok (.iload_n 1, 1) := by decide +kernel
theorem dX6_knotOf_1 : decode cX6_knotOf 1 = .ok (.bipush 6, 2) := by decide +kernel
theorem dX6_knotOf_3 : decode cX6_knotOf 3 = .ok (.imul, 1) := by decide +kernel
theorem dX6_knotOf_4 : decode cX6_knotOf 4 = .ok (.iload_n 0, 1) := by decide +kernel
theorem dX6_knotOf_5 : decode cX6_knotOf 5 = .ok (.iadd, 1) := by decide +kernel
theorem dX6_knotOf_6 : decode cX6_knotOf 6 = .ok (.ireturn, 1) := by decide +kernel
set_option maxRecDepth 20000 in
theorem ggX6_makePlan_X3_solve : GoodIn wsX6_makePlan wsX3_solve := goodIn_r _ [8, 9, 10, 11, 12, 7, 13, 14, 15, 16, 17, 18, 19, 20, 21, 22, 23, 24, 25, 26, 27, 28, 29, 30, 31, 32, 33, 34, 35, 36, 37, 38, 39, 40, 41, 42, 43, 44, 45, 46, 47, 48, 49, 50, 51, 52, 53, 54, 55, 56, 57, 58, 59, 60, 61, 62, 63, 64, 65, 66, 67, 68, 69, 70, 71, 72, 73, 74, 75, 76, 77, 78, 79, 80, 81, 82, 83, 84, 85, 94, 95, 96, 97, 98, 99, 100, 101, 102, 103, 104, 105, 106, 107, 108, 109, 110, 111, 112, 113, 114, 115, 116, 117, 118, 119, 120, 121] (by decide +kernel) (by decide +kernel)
set_option maxRecDepth 20000 in
theorem gX6_makePlan_X3_solve : GoodIn wsX6_makePlan (wsV RX6 191 RX3 yX3_solve wsX3_solve) := goodIn_app (goodIn_of _ (by decide +kernel)) ggX6_makePlan_X3_solve
theorem dX6_makePlan_0 : decode cX6_makePlan 0 = .ok (.aload_n 0, 1) := by decide +kernel
theorem dX6_makePlan_1 : decode cX6_makePlan 1 = .ok (.getfield 51, 3) := by decide +kernel
theorem dX6_makePlan_4 : decode cX6_makePlan 4 = .ok (.ifCond .ne 19, 3) := by decide +kernel
theorem dX6_makePlan_7 : decode cX6_makePlan 7 = .ok (.aload_n 0, 1) := by decide +kernel
theorem dX6_makePlan_8 : decode cX6_makePlan 8 = .ok (.getfield 36, 3) := by decide +kernel
theorem dX6_makePlan_11 : decode cX6_makePlan 11 = .ok (.aload_n 0, 1) := by decide +kernel
theorem dX6_makePlan_12 : decode cX6_makePlan 12 = .ok (.getfield 12, 3) := by decide +kernel
theorem dX6_makePlan_15 : decode cX6_makePlan 15 = .ok (.invokevirtual 191, 3) := by decide +kernel
theorem dX6_makePlan_18 : decode cX6_makePlan 18 = .ok (.aload_n 0, 1) := by decide +kernel
theorem dX6_makePlan_19 : decode cX6_makePlan 19 = .ok (.iconst 1, 1) := by decide +kernel
theorem dX6_makePlan_20 : decode cX6_makePlan 20 = .ok (.putfield 51, 3) := by decide +kernel
theorem dX6_makePlan_23 : decode cX6_makePlan 23 = .ok (.return_, 1) := by decide +kernel
set_option maxRecDepth 20000 in
theorem ggX6_turn_X6_isPlace : GoodIn wsX6_turn wsX6_isPlace := goodIn_r _ [7, 8, 9, 6, 10] (by decide +kernel) (by decide +kernel)
set_option maxRecDepth 20000 in
theorem gX6_turn_X6_isPlace : GoodIn wsX6_turn (va_wsS RX6 126 yX6_isPlace wsX6_isPlace) := goodIn_app (goodIn_of _ (by decide +kernel)) ggX6_turn_X6_isPlace
set_option maxRecDepth 20000 in
theorem ggX6_turn_X6_isLine : GoodIn wsX6_turn wsX6_isLine := goodIn_r _ [13, 8, 9, 6, 10] (by decide +kernel) (by decide +kernel)
set_option maxRecDepth 20000 in
theorem gX6_turn_X6_isLine : GoodIn wsX6_turn (va_wsS RX6 69 yX6_isLine wsX6_isLine) := goodIn_app (goodIn_of _ (by decide +kernel)) ggX6_turn_X6_isLine
set_option maxRecDepth 20000 in
theorem ggX6_turn_X6_isKind : GoodIn wsX6_turn wsX6_isKind := goodIn_r _ [16, 8, 9, 6, 10] (by decide +kernel) (by decide +kernel)
set_option maxRecDepth 20000 in
theorem gX6_turn_X6_isKind : GoodIn wsX6_turn (va_wsS RX6 66 yX6_isKind wsX6_isKind) := goodIn_app (goodIn_of _ (by decide +kernel)) ggX6_turn_X6_isKind
set_option maxRecDepth 20000 in
theorem ggX6_turn_X6_isDay : GoodIn wsX6_turn wsX6_isDay := goodIn_r _ [19, 8, 9, 6, 10] (by decide +kernel) (by decide +kernel)
set_option maxRecDepth 20000 in
theorem gX6_turn_X6_isDay : GoodIn wsX6_turn (va_wsS RX6 135 yX6_isDay wsX6_isDay) := goodIn_app (goodIn_of _ (by decide +kernel)) ggX6_turn_X6_isDay
set_option maxRecDepth 20000 in
theorem ggX6_turn_X4_isFull : GoodIn wsX6_turn wsX4_isFull := goodIn_r _ [24, 25, 26, 63, 64, 65, 66] (by decide +kernel) (by decide +kernel)
set_option maxRecDepth 20000 in
theorem gX6_turn_X4_isFull : GoodIn wsX6_turn (wsV RX6 86 RX4 yX4_isFull wsX4_isFull) := goodIn_app (goodIn_of _ (by decide +kernel)) ggX6_turn_X4_isFull
set_option maxRecDepth 20000 in
theorem ggX6_turn_X4_grow : GoodIn wsX6_turn wsX4_grow := goodIn_r _ [30, 25, 31, 21, 22, 23, 24, 26, 63, 64, 65, 66] (by decide +kernel) (by decide +kernel)
set_option maxRecDepth 20000 in
theorem gX6_turn_X4_grow : GoodIn wsX6_turn (wsV RX6 92 RX4 yX4_grow wsX4_grow) := goodIn_app (goodIn_of _ (by decide +kernel)) ggX6_turn_X4_grow
set_option maxRecDepth 20000 in
theorem ggX6_turn_X4_put : GoodIn wsX6_turn wsX4_put := goodIn_r _ [35, 36, 37, 38, 39, 40, 23, 41, 25, 63, 64, 65, 66] (by decide +kernel) (by decide +kernel)
set_option maxRecDepth 20000 in
theorem gX6_turn_X4_put : GoodIn wsX6_turn (wsV RX6 96 RX4 yX4_put wsX4_put) := goodIn_app (goodIn_of _ (by decide +kernel)) ggX6_turn_X4_put
theorem dX6_turn_0 : decode cX6_turn 0 = .ok (.iload_n 2, 1) := by decide +kernel
theorem dX6_turn_1 : decode cX6_turn 1 = .ok (.invokestatic 126, 3) := by decide +kernel
theorem dX6_turn_4 : decode cX6_turn 4 = .ok (.ifCond .eq 41, 3) := by decide +kernel
theorem dX6_turn_7 : decode cX6_turn 7 = .ok (.iload_n 3, 1) := by decide +kernel
theorem dX6_turn_8 : decode cX6_turn 8 = .ok (.invokestatic 69, 3) := by decide +kernel
theorem dX6_turn_11 : decode cX6_turn 11 = .ok (.ifCond .eq 34, 3) := by decide +kernel
theorem dX6_turn_14 : decode cX6_turn 14 = .ok (.iload 4, 2) := by decide +kernel
theorem dX6_turn_16 : decode cX6_turn 16 = .ok (.invokestatic 66, 3) := by decide +kernel
theorem dX6_turn_19 : decode cX6_turn 19 = .ok (.ifCond .eq 26, 3) := by decide +kernel
theorem dX6_turn_22 : decode cX6_turn 22 = .ok (.iload 5, 2) := by decide +kernel
theorem dX6_turn_24 : decode cX6_turn 24 = .ok (.invokestatic 135, 3) := by decide +kernel
theorem dX6_turn_27 : decode cX6_turn 27 = .ok (.ifCond .eq 18, 3) := by decide +kernel
theorem dX6_turn_30 : decode cX6_turn 30 = .ok (.iload 6, 2) := by decide +kernel
theorem dX6_turn_32 : decode cX6_turn 32 = .ok (.invokestatic 135, 3) := by decide +kernel
theorem dX6_turn_35 : decode cX6_turn 35 = .ok (.ifCond .eq 10, 3) := by decide +kernel
theorem dX6_turn_38 : decode cX6_turn 38 = .ok (.iload 6, 2) := by decide +kernel
theorem dX6_turn_40 : decode cX6_turn 40 = .ok (.iload 5, 2) := by decide +kernel
theorem dX6_turn_42 : decode cX6_turn 42 = .ok (.if_icmp .ge 5, 3) := by decide +kernel
theorem dX6_turn_45 : decode cX6_turn 45 = .ok (.iconst (-1), 1) := by decide +kernel
theorem dX6_turn_46 : decode cX6_turn 46 = .ok (.ireturn, 1) := by decide +kernel
theorem dX6_turn_47 : decode cX6_turn 47 = .ok (.iload_n 1, 1) := by decide +kernel
theorem dX6_turn_48 : decode cX6_turn 48 = .ok (.ifCond .eq 13, 3) := by decide +kernel
theorem dX6_turn_51 : decode cX6_turn 51 = .ok (.aload_n 0, 1) := by decide +kernel
theorem dX6_turn_52 : decode cX6_turn 52 = .ok (.getfield 12, 3) := by decide +kernel
theorem dX6_turn_55 : decode cX6_turn 55 = .ok (.getfield 195, 3) := by decide +kernel
theorem dX6_turn_58 : decode cX6_turn 58 = .ok (.goto 10, 3) := by decide +kernel
theorem dX6_turn_61 : decode cX6_turn 61 = .ok (.aload_n 0, 1) := by decide +kernel
theorem dX6_turn_62 : decode cX6_turn 62 = .ok (.getfield 12, 3) := by decide +kernel
theorem dX6_turn_65 : decode cX6_turn 65 = .ok (.getfield 198, 3) := by decide +kernel
theorem dX6_turn_68 : decode cX6_turn 68 = .ok (.astore 7, 2) := by decide +kernel
theorem dX6_turn_70 : decode cX6_turn 70 = .ok (.aload 7, 2) := by decide +kernel
theorem dX6_turn_72 : decode cX6_turn 72 = .ok (.invokevirtual 86, 3) := by decide +kernel
theorem dX6_turn_75 : decode cX6_turn 75 = .ok (.ifCond .eq 6, 3) := by decide +kernel
theorem dX6_turn_78 : decode cX6_turn 78 = .ok (.bipush (-2), 2) := by decide +kernel
theorem dX6_turn_80 : decode cX6_turn 80 = .ok (.ireturn, 1) := by decide +kernel
theorem dX6_turn_81 : decode cX6_turn 81 = .ok (.aload 7, 2) := by decide +kernel
theorem dX6_turn_83 : decode cX6_turn 83 = .ok (.invokevirtual 92, 3) := by decide +kernel
theorem dX6_turn_86 : decode cX6_turn 86 = .ok (.istore 8, 2) := by decide +kernel
theorem dX6_turn_88 : decode cX6_turn 88 = .ok (.aload 7, 2) := by decide +kernel
theorem dX6_turn_90 : decode cX6_turn 90 = .ok (.iload 8, 2) := by decide +kernel
theorem dX6_turn_92 : decode cX6_turn 92 = .ok (.iconst 0, 1) := by decide +kernel
theorem dX6_turn_93 : decode cX6_turn 93 = .ok (.iload_n 2, 1) := by decide +kernel
theorem dX6_turn_94 : decode cX6_turn 94 = .ok (.invokevirtual 96, 3) := by decide +kernel
theorem dX6_turn_97 : decode cX6_turn 97 = .ok (.aload 7, 2) := by decide +kernel
theorem dX6_turn_99 : decode cX6_turn 99 = .ok (.iload 8, 2) := by decide +kernel
theorem dX6_turn_101 : decode cX6_turn 101 = .ok (.iconst 1, 1) := by decide +kernel
theorem dX6_turn_102 : decode cX6_turn 102 = .ok (.iload_n 3, 1) := by decide +kernel
theorem dX6_turn_103 : decode cX6_turn 103 = .ok (.invokevirtual 96, 3) := by decide +kernel
theorem dX6_turn_106 : decode cX6_turn 106 = .ok (.aload 7, 2) := by decide +kernel
theorem dX6_turn_108 : decode cX6_turn 108 = .ok (.iload 8, 2) := by decide +kernel
theorem dX6_turn_110 : decode cX6_turn 110 = .ok (.iconst 2, 1) := by decide +kernel
theorem dX6_turn_111 : decode cX6_turn 111 = .ok (.iload 4, 2) := by decide +kernel
theorem dX6_turn_113 : decode cX6_turn 113 = .ok (.invokevirtual 96, 3) := by decide +kernel
theorem dX6_turn_116 : decode cX6_turn 116 = .ok (.aload 7, 2) := by decide +kernel
theorem dX6_turn_118 : decode cX6_turn 118 = .ok (.iload 8, 2) := by decide +kernel
theorem dX6_turn_120 : decode cX6_turn 120 = .ok (.iconst 3, 1) := by decide +kernel
theorem dX6_turn_121 : decode cX6_turn 121 = .ok (.iload 5, 2) := by decide +kernel
theorem dX6_turn_123 : decode cX6_turn 123 = .ok (.invokevirtual 96, 3) := by decide +kernel
theorem dX6_turn_126 : decode cX6_turn 126 = .ok (.aload 7, 2) := by decide +kernel
theorem dX6_turn_128 : decode cX6_turn 128 = .ok (.iload 8, 2) := by decide +kernel
theorem dX6_turn_130 : decode cX6_turn 130 = .ok (.iconst 4, 1) := by decide +kernel
theorem dX6_turn_131 : decode cX6_turn 131 = .ok (.iload 6, 2) := by decide +kernel
theorem dX6_turn_133 : decode cX6_turn 133 = .ok (.invokevirtual 96, 3) := by decide +kernel
theorem dX6_turn_136 : decode cX6_turn 136 = .ok (.iload 8, 2) := by decide +kernel
theorem dX6_turn_138 : decode cX6_turn 138 = .ok (.ireturn, 1) := by decide +kernel
set_option maxRecDepth 20000 in
theorem ggX6_leave_X6_isLine : GoodIn wsX6_leave wsX6_isLine := goodIn_r _ [6, 7, 8, 5, 9] (by decide +kernel) (by decide +kernel)
set_option maxRecDepth 20000 in
theorem gX6_leave_X6_isLine : GoodIn wsX6_leave (va_wsS RX6 69 yX6_isLine wsX6_isLine) := goodIn_app (goodIn_of _ (by decide +kernel)) ggX6_leave_X6_isLine
set_option maxRecDepth 20000 in
theorem ggX6_leave_X6_hasLeave : GoodIn wsX6_leave wsX6_hasLeave := goodIn_r _ [13, 1, 2, 14, 15, 16, 17, 18, 19, 20, 21, 22, 23, 24, 25, 30, 31, 32, 33, 34, 35, 36, 37, 38, 39, 40, 41, 42, 43, 44, 45, 46, 47, 48, 49, 50, 51, 52, 53, 54] (by decide +kernel) (by decide +kernel)
set_option maxRecDepth 20000 in
theorem gX6_leave_X6_hasLeave : GoodIn wsX6_leave (wsV RX6 201 RX6 yX6_hasLeave wsX6_hasLeave) := goodIn_app (goodIn_of _ (by decide +kernel)) ggX6_leave_X6_hasLeave
set_option maxRecDepth 20000 in
theorem ggX6_leave_X4_put : GoodIn wsX6_leave wsX4_put := goodIn_r _ [29, 19, 20, 21, 22, 23, 17, 24, 25, 51, 52, 53, 54] (by decide +kernel) (by decide +kernel)
set_option maxRecDepth 20000 in
theorem gX6_leave_X4_put : GoodIn wsX6_leave (wsV RX6 96 RX4 yX4_put wsX4_put) := goodIn_app (goodIn_of _ (by decide +kernel)) ggX6_leave_X4_put
theorem dX6_leave_0 : decode cX6_leave 0 = .ok (.iload_n 1, 1) := by decide +kernel
theorem dX6_leave_1 : decode cX6_leave 1 = .ok (.invokestatic 69, 3) := by decide +kernel
theorem dX6_leave_4 : decode cX6_leave 4 = .ok (.ifCond .eq 15, 3) := by decide +kernel
theorem dX6_leave_7 : decode cX6_leave 7 = .ok (.iload_n 2, 1) := by decide +kernel
theorem dX6_leave_8 : decode cX6_leave 8 = .ok (.invokestatic 69, 3) := by decide +kernel
theorem dX6_leave_11 : decode cX6_leave 11 = .ok (.ifCond .eq 8, 3) := by decide +kernel
theorem dX6_leave_14 : decode cX6_leave 14 = .ok (.iload_n 1, 1) := by decide +kernel
theorem dX6_leave_15 : decode cX6_leave 15 = .ok (.iload_n 2, 1) := by decide +kernel
theorem dX6_leave_16 : decode cX6_leave 16 = .ok (.if_icmp .ne 5, 3) := by decide +kernel
theorem dX6_leave_19 : decode cX6_leave 19 = .ok (.iconst (-1), 1) := by decide +kernel
theorem dX6_leave_20 : decode cX6_leave 20 = .ok (.ireturn, 1) := by decide +kernel
theorem dX6_leave_21 : decode cX6_leave 21 = .ok (.aload_n 0, 1) := by decide +kernel
theorem dX6_leave_22 : decode cX6_leave 22 = .ok (.iload_n 1, 1) := by decide +kernel
theorem dX6_leave_23 : decode cX6_leave 23 = .ok (.iload_n 2, 1) := by decide +kernel
theorem dX6_leave_24 : decode cX6_leave 24 = .ok (.invokevirtual 201, 3) := by decide +kernel
theorem dX6_leave_27 : decode cX6_leave 27 = .ok (.iload_n 3, 1) := by decide +kernel
theorem dX6_leave_28 : decode cX6_leave 28 = .ok (.if_icmp .ne 5, 3) := by decide +kernel
theorem dX6_leave_31 : decode cX6_leave 31 = .ok (.iconst 0, 1) := by decide +kernel
theorem dX6_leave_32 : decode cX6_leave 32 = .ok (.ireturn, 1) := by decide +kernel
theorem dX6_leave_33 : decode cX6_leave 33 = .ok (.aload_n 0, 1) := by decide +kernel
theorem dX6_leave_34 : decode cX6_leave 34 = .ok (.getfield 12, 3) := by decide +kernel
theorem dX6_leave_37 : decode cX6_leave 37 = .ok (.getfield 204, 3) := by decide +kernel
theorem dX6_leave_40 : decode cX6_leave 40 = .ok (.iload_n 1, 1) := by decide +kernel
theorem dX6_leave_41 : decode cX6_leave 41 = .ok (.iload_n 2, 1) := by decide +kernel
theorem dX6_leave_42 : decode cX6_leave 42 = .ok (.iload_n 3, 1) := by decide +kernel
theorem dX6_leave_43 : decode cX6_leave 43 = .ok (.ifCond .eq 7, 3) := by decide +kernel
theorem dX6_leave_46 : decode cX6_leave 46 = .ok (.iconst 1, 1) := by decide +kernel
theorem dX6_leave_47 : decode cX6_leave 47 = .ok (.goto 4, 3) := by decide +kernel
theorem dX6_leave_50 : decode cX6_leave 50 = .ok (.iconst 0, 1) := by decide +kernel
theorem dX6_leave_51 : decode cX6_leave 51 = .ok (.invokevirtual 96, 3) := by decide +kernel
theorem dX6_leave_54 : decode cX6_leave 54 = .ok (.aload_n 0, 1) := by decide +kernel
theorem dX6_leave_55 : decode cX6_leave 55 = .ok (.getfield 12, 3) := by decide +kernel
theorem dX6_leave_58 : decode cX6_leave 58 = .ok (.getfield 204, 3) := by decide +kernel
theorem dX6_leave_61 : decode cX6_leave 61 = .ok (.iload_n 2, 1) := by decide +kernel
theorem dX6_leave_62 : decode cX6_leave 62 = .ok (.iload_n 1, 1) := by decide +kernel
theorem dX6_leave_63 : decode cX6_leave 63 = .ok (.iload_n 3, 1) := by decide +kernel
theorem dX6_leave_64 : decode cX6_leave 64 = .ok (.ifCond .eq 7, 3) := by decide +kernel
theorem dX6_leave_67 : decode cX6_leave 67 = .ok (.iconst 1, 1) := by decide +kernel
theorem dX6_leave_68 : decode cX6_leave 68 = .ok (.goto 4, 3) := by decide +kernel
theorem dX6_leave_71 : decode cX6_leave 71 = .ok (.iconst 0, 1) := by decide +kernel
theorem dX6_leave_72 : decode cX6_leave 72 = .ok (.invokevirtual 96, 3) := by decide +kernel
theorem dX6_leave_75 : decode cX6_leave 75 = .ok (.iconst 1, 1) := by decide +kernel
theorem dX6_leave_76 : decode cX6_leave 76 = .ok (.ireturn, 1) := by decide +kernel
set_option maxRecDepth 20000 in
theorem ggX6_suits_X4_has : GoodIn wsX6_suits wsX4_has := goodIn_r _ [8, 9, 64, 65, 66, 67] (by decide +kernel) (by decide +kernel)
set_option maxRecDepth 20000 in
theorem gX6_suits_X4_has : GoodIn wsX6_suits (wsV RX6 110 RX4 yX4_has wsX4_has) := goodIn_app (goodIn_of _ (by decide +kernel)) ggX6_suits_X4_has
set_option maxRecDepth 20000 in
theorem ggX6_suits_X6_isSuited : GoodIn wsX6_suits wsX6_isSuited := goodIn_r _ [14, 1, 2, 3, 15, 16, 17, 7, 18, 19, 20, 21, 22, 23, 24, 9, 25, 26, 27, 13, 28, 29, 30, 31, 32, 33, 34, 35, 36, 37, 38, 39, 40, 41, 42, 43, 44, 45, 46, 47, 48, 49, 50, 51, 52, 53, 54, 55, 56, 57, 58, 59, 60, 61, 62, 63, 64, 65, 66, 67] (by decide +kernel) (by decide +kernel)
set_option maxRecDepth 20000 in
theorem gX6_suits_X6_isSuited : GoodIn wsX6_suits (wsV RX6 207 RX6 yX6_isSuited wsX6_isSuited) := goodIn_app (goodIn_of _ (by decide +kernel)) ggX6_suits_X6_isSuited
theorem dX6_suits_0 : decode cX6_suits 0 = .ok (.aload_n 0, 1) := by decide +kernel
theorem dX6_suits_1 : decode cX6_suits 1 = .ok (.getfield 12, 3) := by decide +kernel
theorem dX6_suits_4 : decode cX6_suits 4 = .ok (.getfield 198, 3) := by decide +kernel
theorem dX6_suits_7 : decode cX6_suits 7 = .ok (.iload_n 1, 1) := by decide +kernel
theorem dX6_suits_8 : decode cX6_suits 8 = .ok (.invokevirtual 110, 3) := by decide +kernel
theorem dX6_suits_11 : decode cX6_suits 11 = .ok (.ifCond .eq 17, 3) := by decide +kernel
theorem dX6_suits_14 : decode cX6_suits 14 = .ok (.aload_n 0, 1) := by decide +kernel
theorem dX6_suits_15 : decode cX6_suits 15 = .ok (.getfield 12, 3) := by decide +kernel
theorem dX6_suits_18 : decode cX6_suits 18 = .ok (.getfield 195, 3) := by decide +kernel
theorem dX6_suits_21 : decode cX6_suits 21 = .ok (.iload_n 2, 1) := by decide +kernel
theorem dX6_suits_22 : decode cX6_suits 22 = .ok (.invokevirtual 110, 3) := by decide +kernel
theorem dX6_suits_25 : decode cX6_suits 25 = .ok (.ifCond .ne 5, 3) := by decide +kernel
theorem dX6_suits_28 : decode cX6_suits 28 = .ok (.iconst (-1), 1) := by decide +kernel
theorem dX6_suits_29 : decode cX6_suits 29 = .ok (.ireturn, 1) := by decide +kernel
theorem dX6_suits_30 : decode cX6_suits 30 = .ok (.aload_n 0, 1) := by decide +kernel
theorem dX6_suits_31 : decode cX6_suits 31 = .ok (.iload_n 1, 1) := by decide +kernel
theorem dX6_suits_32 : decode cX6_suits 32 = .ok (.iload_n 2, 1) := by decide +kernel
theorem dX6_suits_33 : decode cX6_suits 33 = .ok (.invokevirtual 207, 3) := by decide +kernel
theorem dX6_suits_36 : decode cX6_suits 36 = .ok (.ifCond .eq 7, 3) := by decide +kernel
theorem dX6_suits_39 : decode cX6_suits 39 = .ok (.iconst 1, 1) := by decide +kernel
theorem dX6_suits_40 : decode cX6_suits 40 = .ok (.goto 4, 3) := by decide +kernel
theorem dX6_suits_43 : decode cX6_suits 43 = .ok (.iconst 0, 1) := by decide +kernel
theorem dX6_suits_44 : decode cX6_suits 44 = .ok (.ireturn, 1) := by decide +kernel
set_option maxRecDepth 20000 in
theorem ggX6_match_X4_has : GoodIn wsX6_match wsX4_has := goodIn_r _ [10, 11, 134, 135, 136, 137] (by decide +kernel) (by decide +kernel)
set_option maxRecDepth 20000 in
theorem gX6_match_X4_has : GoodIn wsX6_match (wsV RX6 110 RX4 yX4_has wsX4_has) := goodIn_app (goodIn_of _ (by decide +kernel)) ggX6_match_X4_has
set_option maxRecDepth 20000 in
theorem ggX6_match_X6_makeMatch : GoodIn wsX6_match wsX6_makeMatch := goodIn_r _ [16, 3, 1, 2, 17, 18, 19, 20, 9, 21, 11, 22, 23, 24, 25, 26, 27, 28, 29, 30, 31, 32, 33, 34, 35, 36, 37, 38, 39, 15, 40, 41, 42, 43, 44, 45, 46, 47, 48, 49, 50, 51, 52, 53, 54, 55, 56, 57, 58, 59, 60, 61, 62, 63, 64, 65, 66, 67, 68, 69, 70, 71, 72, 73, 74, 75, 76, 77, 78, 79, 80, 81, 82, 83, 84, 85, 86, 87, 88, 89, 90, 91, 92, 93, 94, 95, 96, 97, 98, 99, 100, 101, 106, 107, 108, 109, 110, 111, 112, 113, 114, 115, 116, 117, 118, 119, 120, 121, 122, 123, 124, 125, 126, 134, 135, 136, 137, 127, 128, 129, 130, 131, 132, 133] (by decide +kernel) (by decide +kernel)
set_option maxRecDepth 20000 in
theorem gX6_match_X6_makeMatch : GoodIn wsX6_match (wsV RX6 210 RX6 yX6_makeMatch wsX6_makeMatch) := goodIn_app (goodIn_of _ (by decide +kernel)) ggX6_match_X6_makeMatch
set_option maxRecDepth 20000 in
theorem ggX6_match_X2_wantOf : GoodIn wsX6_match wsX2_wantOf := goodIn_r _ [105, 34, 85, 76, 15, 77, 127, 128, 129, 130, 131, 132, 133] (by decide +kernel) (by decide +kernel)
set_option maxRecDepth 20000 in
theorem gX6_match_X2_wantOf : GoodIn wsX6_match (wsV RX6 219 RX2 yX2_wantOf wsX2_wantOf) := goodIn_app (goodIn_of _ (by decide +kernel)) ggX6_match_X2_wantOf
theorem dX6_match_0 : decode cX6_match 0 = .ok (.iload_n 1, 1) := by decide +kernel
theorem dX6_match_1 : decode cX6_match 1 = .ok (.bipush 10, 2) := by decide +kernel
theorem dX6_match_3 : decode cX6_match 3 = .ok (.if_icmp .lt 24, 3) := by decide +kernel
theorem dX6_match_6 : decode cX6_match 6 = .ok (.aload_n 0, 1) := by decide +kernel
theorem dX6_match_7 : decode cX6_match 7 = .ok (.getfield 12, 3) := by decide +kernel
theorem dX6_match_10 : decode cX6_match 10 = .ok (.getfield 198, 3) := by decide +kernel
theorem dX6_match_13 : decode cX6_match 13 = .ok (.iload_n 1, 1) := by decide +kernel
theorem dX6_match_14 : decode cX6_match 14 = .ok (.bipush 10, 2) := by decide +kernel
theorem dX6_match_16 : decode cX6_match 16 = .ok (.isub, 1) := by decide +kernel
theorem dX6_match_17 : decode cX6_match 17 = .ok (.invokevirtual 110, 3) := by decide +kernel
theorem dX6_match_20 : decode cX6_match 20 = .ok (.ifCond .eq 7, 3) := by decide +kernel
theorem dX6_match_23 : decode cX6_match 23 = .ok (.iconst 1, 1) := by decide +kernel
theorem dX6_match_24 : decode cX6_match 24 = .ok (.goto 4, 3) := by decide +kernel
theorem dX6_match_27 : decode cX6_match 27 = .ok (.iconst 0, 1) := by decide +kernel
theorem dX6_match_28 : decode cX6_match 28 = .ok (.istore_n 2, 1) := by decide +kernel
theorem dX6_match_29 : decode cX6_match 29 = .ok (.iload_n 1, 1) := by decide +kernel
theorem dX6_match_30 : decode cX6_match 30 = .ok (.ifCond .eq 14, 3) := by decide +kernel
theorem dX6_match_33 : decode cX6_match 33 = .ok (.iload_n 1, 1) := by decide +kernel
theorem dX6_match_34 : decode cX6_match 34 = .ok (.iconst 1, 1) := by decide +kernel
theorem dX6_match_35 : decode cX6_match 35 = .ok (.if_icmp .eq 9, 3) := by decide +kernel
theorem dX6_match_38 : decode cX6_match 38 = .ok (.iload_n 2, 1) := by decide +kernel
theorem dX6_match_39 : decode cX6_match 39 = .ok (.ifCond .ne 5, 3) := by decide +kernel
theorem dX6_match_42 : decode cX6_match 42 = .ok (.iconst (-1), 1) := by decide +kernel
theorem dX6_match_43 : decode cX6_match 43 = .ok (.ireturn, 1) := by decide +kernel
theorem dX6_match_44 : decode cX6_match 44 = .ok (.aload_n 0, 1) := by decide +kernel
theorem dX6_match_45 : decode cX6_match 45 = .ok (.invokevirtual 210, 3) := by decide +kernel
theorem dX6_match_48 : decode cX6_match 48 = .ok (.iload_n 1, 1) := by decide +kernel
theorem dX6_match_49 : decode cX6_match 49 = .ok (.ifCond .ne 11, 3) := by decide +kernel
theorem dX6_match_52 : decode cX6_match 52 = .ok (.aload_n 0, 1) := by decide +kernel
theorem dX6_match_53 : decode cX6_match 53 = .ok (.getfield 43, 3) := by decide +kernel
theorem dX6_match_56 : decode cX6_match 56 = .ok (.getfield 213, 3) := by decide +kernel
theorem dX6_match_59 : decode cX6_match 59 = .ok (.ireturn, 1) := by decide +kernel
theorem dX6_match_60 : decode cX6_match 60 = .ok (.iload_n 1, 1) := by decide +kernel
theorem dX6_match_61 : decode cX6_match 61 = .ok (.iconst 1, 1) := by decide +kernel
theorem dX6_match_62 : decode cX6_match 62 = .ok (.if_icmp .ne 13, 3) := by decide +kernel
theorem dX6_match_65 : decode cX6_match 65 = .ok (.aload_n 0, 1) := by decide +kernel
theorem dX6_match_66 : decode cX6_match 66 = .ok (.getfield 43, 3) := by decide +kernel
theorem dX6_match_69 : decode cX6_match 69 = .ok (.getfield 216, 3) := by decide +kernel
theorem dX6_match_72 : decode cX6_match 72 = .ok (.goto 14, 3) := by decide +kernel
theorem dX6_match_75 : decode cX6_match 75 = .ok (.aload_n 0, 1) := by decide +kernel
theorem dX6_match_76 : decode cX6_match 76 = .ok (.getfield 43, 3) := by decide +kernel
theorem dX6_match_79 : decode cX6_match 79 = .ok (.iload_n 1, 1) := by decide +kernel
theorem dX6_match_80 : decode cX6_match 80 = .ok (.bipush 10, 2) := by decide +kernel
theorem dX6_match_82 : decode cX6_match 82 = .ok (.isub, 1) := by decide +kernel
theorem dX6_match_83 : decode cX6_match 83 = .ok (.invokevirtual 219, 3) := by decide +kernel
theorem dX6_match_86 : decode cX6_match 86 = .ok (.ireturn, 1) := by decide +kernel
set_option maxRecDepth 20000 in
theorem ggX6_clear_X4_size : GoodIn wsX6_clear wsX4_size := goodIn_r _ [8, 9, 35, 36, 37, 38] (by decide +kernel) (by decide +kernel)
set_option maxRecDepth 20000 in
theorem gX6_clear_X4_size : GoodIn wsX6_clear (wsV RX6 117 RX4 yX4_size wsX4_size) := goodIn_app (goodIn_of _ (by decide +kernel)) ggX6_clear_X4_size
set_option maxRecDepth 20000 in
theorem ggX6_clear_X4_empty : GoodIn wsX6_clear wsX4_empty := goodIn_r _ [13, 9, 35, 36, 37, 38] (by decide +kernel) (by decide +kernel)
set_option maxRecDepth 20000 in
theorem gX6_clear_X4_empty : GoodIn wsX6_clear (wsV RX6 222 RX4 yX4_empty wsX4_empty) := goodIn_app (goodIn_of _ (by decide +kernel)) ggX6_clear_X4_empty
theorem dX6_clear_0 : decode cX6_clear 0 = .ok (.aload_n 0, 1) := by decide +kernel
theorem dX6_clear_1 : decode cX6_clear 1 = .ok (.getfield 12, 3) := by decide +kernel
theorem dX6_clear_4 : decode cX6_clear 4 = .ok (.getfield 198, 3) := by decide +kernel
theorem dX6_clear_7 : decode cX6_clear 7 = .ok (.invokevirtual 117, 3) := by decide +kernel
theorem dX6_clear_10 : decode cX6_clear 10 = .ok (.aload_n 0, 1) := by decide +kernel
theorem dX6_clear_11 : decode cX6_clear 11 = .ok (.getfield 12, 3) := by decide +kernel
theorem dX6_clear_14 : decode cX6_clear 14 = .ok (.getfield 195, 3) := by decide +kernel
theorem dX6_clear_17 : decode cX6_clear 17 = .ok (.invokevirtual 117, 3) := by decide +kernel
theorem dX6_clear_20 : decode cX6_clear 20 = .ok (.iadd, 1) := by decide +kernel
theorem dX6_clear_21 : decode cX6_clear 21 = .ok (.istore_n 1, 1) := by decide +kernel
theorem dX6_clear_22 : decode cX6_clear 22 = .ok (.aload_n 0, 1) := by decide +kernel
theorem dX6_clear_23 : decode cX6_clear 23 = .ok (.getfield 12, 3) := by decide +kernel
theorem dX6_clear_26 : decode cX6_clear 26 = .ok (.getfield 198, 3) := by decide +kernel
theorem dX6_clear_29 : decode cX6_clear 29 = .ok (.invokevirtual 222, 3) := by decide +kernel
theorem dX6_clear_32 : decode cX6_clear 32 = .ok (.aload_n 0, 1) := by decide +kernel
theorem dX6_clear_33 : decode cX6_clear 33 = .ok (.getfield 12, 3) := by decide +kernel
theorem dX6_clear_36 : decode cX6_clear 36 = .ok (.getfield 195, 3) := by decide +kernel
theorem dX6_clear_39 : decode cX6_clear 39 = .ok (.invokevirtual 222, 3) := by decide +kernel
theorem dX6_clear_42 : decode cX6_clear 42 = .ok (.iload_n 1, 1) := by decide +kernel
theorem dX6_clear_43 : decode cX6_clear 43 = .ok (.ireturn, 1) := by decide +kernel
set_option maxRecDepth 20000 in
theorem ggX6_hasLeave_X4_cell : GoodIn wsX6_hasLeave wsX4_cell := goodIn_r _ [7, 8, 9, 10, 11, 12, 6, 13, 14, 36, 37, 38, 39] (by decide +kernel) (by decide +kernel)
set_option maxRecDepth 20000 in
theorem gX6_hasLeave_X4_cell : GoodIn wsX6_hasLeave (wsV RX6 113 RX4 yX4_cell wsX4_cell) := goodIn_app (goodIn_of _ (by decide +kernel)) ggX6_hasLeave_X4_cell
theorem dX6_hasLeave_0 : decode cX6_hasLeave 0 = .ok (.aload_n 0, 1) := by decide +kernel
theorem dX6_hasLeave_1 : decode cX6_hasLeave 1 = .ok (.getfield 12, 3) := by decide +kernel
theorem dX6_hasLeave_4 : decode cX6_hasLeave 4 = .ok (.getfield 204, 3) := by decide +kernel
theorem dX6_hasLeave_7 : decode cX6_hasLeave 7 = .ok (.iload_n 1, 1) := by decide +kernel
theorem dX6_hasLeave_8 : decode cX6_hasLeave 8 = .ok (.iload_n 2, 1) := by decide +kernel
theorem dX6_hasLeave_9 : decode cX6_hasLeave 9 = .ok (.invokevirtual 113, 3) := by decide +kernel
theorem dX6_hasLeave_12 : decode cX6_hasLeave 12 = .ok (.iconst 1, 1) := by decide +kernel
theorem dX6_hasLeave_13 : decode cX6_hasLeave 13 = .ok (.if_icmp .ne 7, 3) := by decide +kernel
theorem dX6_hasLeave_16 : decode cX6_hasLeave 16 = .ok (.iconst 1, 1) := by decide +kernel
theorem dX6_hasLeave_17 : decode cX6_hasLeave 17 = .ok (.goto 4, 3) := by decide +kernel
theorem dX6_hasLeave_20 : decode cX6_hasLeave 20 = .ok (.iconst 0, 1) := by decide +kernel
theorem dX6_hasLeave_21 : decode cX6_hasLeave 21 = .ok (.ireturn, 1) := by decide +kernel
set_option maxRecDepth 20000 in
theorem ggX6_isSuited_X4_cell : GoodIn wsX6_isSuited wsX4_cell := goodIn_r _ [8, 9, 10, 11, 12, 13, 7, 14, 15, 56, 57, 58, 59] (by decide +kernel) (by decide +kernel)
set_option maxRecDepth 20000 in
theorem gX6_isSuited_X4_cell : GoodIn wsX6_isSuited (wsV RX6 113 RX4 yX4_cell wsX4_cell) := goodIn_app (goodIn_of _ (by decide +kernel)) ggX6_isSuited_X4_cell
set_option maxRecDepth 20000 in
theorem ggX6_isSuited_X6_isSharing : GoodIn wsX6_isSuited wsX6_isSharing := goodIn_r _ [20, 21, 22, 23, 19, 24, 1, 25, 4, 5, 6, 7, 8, 9, 10, 11, 12, 13, 14, 15, 35, 36, 37, 38, 39, 40, 41, 42, 43, 44, 45, 46, 47, 48, 49, 50, 51, 52, 53, 54, 55, 56, 57, 58, 59] (by decide +kernel) (by decide +kernel)
set_option maxRecDepth 20000 in
theorem gX6_isSuited_X6_isSharing : GoodIn wsX6_isSuited (wsV RX6 225 RX6 yX6_isSharing wsX6_isSharing) := goodIn_app (goodIn_of _ (by decide +kernel)) ggX6_isSuited_X6_isSharing
set_option maxRecDepth 20000 in
theorem ggX6_isSuited_X6_isJoined : GoodIn wsX6_isSuited wsX6_isJoined := goodIn_r _ [29, 1, 30, 31, 32, 33, 7, 34, 15, 4, 5, 6, 8, 9, 10, 11, 12, 13, 14, 35, 36, 37, 38, 39, 40, 41, 42, 43, 44, 45, 46, 47, 48, 49, 50, 51, 52, 53, 54, 55, 56, 57, 58, 59] (by decide +kernel) (by decide +kernel)
set_option maxRecDepth 20000 in
theorem gX6_isSuited_X6_isJoined : GoodIn wsX6_isSuited (wsV RX6 228 RX6 yX6_isJoined wsX6_isJoined) := goodIn_app (goodIn_of _ (by decide +kernel)) ggX6_isSuited_X6_isJoined
theorem dX6_isSuited_0 : decode cX6_isSuited 0 = .ok (.aload_n 0, 1) := by decide +kernel
theorem dX6_isSuited_1 : decode cX6_isSuited 1 = .ok (.getfield 12, 3) := by decide +kernel
theorem dX6_isSuited_4 : decode cX6_isSuited 4 = .ok (.getfield 198, 3) := by decide +kernel
theorem dX6_isSuited_7 : decode cX6_isSuited 7 = .ok (.iload_n 1, 1) := by decide +kernel
theorem dX6_isSuited_8 : decode cX6_isSuited 8 = .ok (.iconst 2, 1) := by decide +kernel
theorem dX6_isSuited_9 : decode cX6_isSuited 9 = .ok (.invokevirtual 113, 3) := by decide +kernel
theorem dX6_isSuited_12 : decode cX6_isSuited 12 = .ok (.aload_n 0, 1) := by decide +kernel
theorem dX6_isSuited_13 : decode cX6_isSuited 13 = .ok (.getfield 12, 3) := by decide +kernel
theorem dX6_isSuited_16 : decode cX6_isSuited 16 = .ok (.getfield 195, 3) := by decide +kernel
theorem dX6_isSuited_19 : decode cX6_isSuited 19 = .ok (.iload_n 2, 1) := by decide +kernel
theorem dX6_isSuited_20 : decode cX6_isSuited 20 = .ok (.iconst 2, 1) := by decide +kernel
theorem dX6_isSuited_21 : decode cX6_isSuited 21 = .ok (.invokevirtual 113, 3) := by decide +kernel
theorem dX6_isSuited_24 : decode cX6_isSuited 24 = .ok (.if_icmp .ne 123, 3) := by decide +kernel
theorem dX6_isSuited_27 : decode cX6_isSuited 27 = .ok (.aload_n 0, 1) := by decide +kernel
theorem dX6_isSuited_28 : decode cX6_isSuited 28 = .ok (.aload_n 0, 1) := by decide +kernel
theorem dX6_isSuited_29 : decode cX6_isSuited 29 = .ok (.getfield 12, 3) := by decide +kernel
theorem dX6_isSuited_32 : decode cX6_isSuited 32 = .ok (.getfield 198, 3) := by decide +kernel
theorem dX6_isSuited_35 : decode cX6_isSuited 35 = .ok (.iload_n 1, 1) := by decide +kernel
theorem dX6_isSuited_36 : decode cX6_isSuited 36 = .ok (.iconst 1, 1) := by decide +kernel
theorem dX6_isSuited_37 : decode cX6_isSuited 37 = .ok (.invokevirtual 113, 3) := by decide +kernel
theorem dX6_isSuited_40 : decode cX6_isSuited 40 = .ok (.aload_n 0, 1) := by decide +kernel
theorem dX6_isSuited_41 : decode cX6_isSuited 41 = .ok (.getfield 12, 3) := by decide +kernel
theorem dX6_isSuited_44 : decode cX6_isSuited 44 = .ok (.getfield 195, 3) := by decide +kernel
theorem dX6_isSuited_47 : decode cX6_isSuited 47 = .ok (.iload_n 2, 1) := by decide +kernel
theorem dX6_isSuited_48 : decode cX6_isSuited 48 = .ok (.iconst 1, 1) := by decide +kernel
theorem dX6_isSuited_49 : decode cX6_isSuited 49 = .ok (.invokevirtual 113, 3) := by decide +kernel
theorem dX6_isSuited_52 : decode cX6_isSuited 52 = .ok (.invokevirtual 225, 3) := by decide +kernel
theorem dX6_isSuited_55 : decode cX6_isSuited 55 = .ok (.ifCond .eq 92, 3) := by decide +kernel
theorem dX6_isSuited_58 : decode cX6_isSuited 58 = .ok (.aload_n 0, 1) := by decide +kernel
theorem dX6_isSuited_59 : decode cX6_isSuited 59 = .ok (.getfield 12, 3) := by decide +kernel
theorem dX6_isSuited_62 : decode cX6_isSuited 62 = .ok (.getfield 198, 3) := by decide +kernel
theorem dX6_isSuited_65 : decode cX6_isSuited 65 = .ok (.iload_n 1, 1) := by decide +kernel
theorem dX6_isSuited_66 : decode cX6_isSuited 66 = .ok (.iconst 3, 1) := by decide +kernel
theorem dX6_isSuited_67 : decode cX6_isSuited 67 = .ok (.invokevirtual 113, 3) := by decide +kernel
theorem dX6_isSuited_70 : decode cX6_isSuited 70 = .ok (.aload_n 0, 1) := by decide +kernel
theorem dX6_isSuited_71 : decode cX6_isSuited 71 = .ok (.getfield 12, 3) := by decide +kernel
theorem dX6_isSuited_74 : decode cX6_isSuited 74 = .ok (.getfield 195, 3) := by decide +kernel
theorem dX6_isSuited_77 : decode cX6_isSuited 77 = .ok (.iload_n 2, 1) := by decide +kernel
theorem dX6_isSuited_78 : decode cX6_isSuited 78 = .ok (.iconst 4, 1) := by decide +kernel
theorem dX6_isSuited_79 : decode cX6_isSuited 79 = .ok (.invokevirtual 113, 3) := by decide +kernel
theorem dX6_isSuited_82 : decode cX6_isSuited 82 = .ok (.if_icmp .gt 65, 3) := by decide +kernel
theorem dX6_isSuited_85 : decode cX6_isSuited 85 = .ok (.aload_n 0, 1) := by decide +kernel
theorem dX6_isSuited_86 : decode cX6_isSuited 86 = .ok (.getfield 12, 3) := by decide +kernel
theorem dX6_isSuited_89 : decode cX6_isSuited 89 = .ok (.getfield 195, 3) := by decide +kernel
theorem dX6_isSuited_92 : decode cX6_isSuited 92 = .ok (.iload_n 2, 1) := by decide +kernel
theorem dX6_isSuited_93 : decode cX6_isSuited 93 = .ok (.iconst 3, 1) := by decide +kernel
theorem dX6_isSuited_94 : decode cX6_isSuited 94 = .ok (.invokevirtual 113, 3) := by decide +kernel
theorem dX6_isSuited_97 : decode cX6_isSuited 97 = .ok (.aload_n 0, 1) := by decide +kernel
theorem dX6_isSuited_98 : decode cX6_isSuited 98 = .ok (.getfield 12, 3) := by decide +kernel
theorem dX6_isSuited_101 : decode cX6_isSuited 101 = .ok (.getfield 198, 3) := by decide +kernel
theorem dX6_isSuited_104 : decode cX6_isSuited 104 = .ok (.iload_n 1, 1) := by decide +kernel
theorem dX6_isSuited_105 : decode cX6_isSuited 105 = .ok (.iconst 4, 1) := by decide +kernel
theorem dX6_isSuited_106 : decode cX6_isSuited 106 = .ok (.invokevirtual 113, 3) := by decide +kernel
theorem dX6_isSuited_109 : decode cX6_isSuited 109 = .ok (.if_icmp .gt 38, 3) := by decide +kernel
theorem dX6_isSuited_112 : decode cX6_isSuited 112 = .ok (.aload_n 0, 1) := by decide +kernel
theorem dX6_isSuited_113 : decode cX6_isSuited 113 = .ok (.aload_n 0, 1) := by decide +kernel
theorem dX6_isSuited_114 : decode cX6_isSuited 114 = .ok (.getfield 12, 3) := by decide +kernel
theorem dX6_isSuited_117 : decode cX6_isSuited 117 = .ok (.getfield 198, 3) := by decide +kernel
theorem dX6_isSuited_120 : decode cX6_isSuited 120 = .ok (.iload_n 1, 1) := by decide +kernel
theorem dX6_isSuited_121 : decode cX6_isSuited 121 = .ok (.iconst 0, 1) := by decide +kernel
theorem dX6_isSuited_122 : decode cX6_isSuited 122 = .ok (.invokevirtual 113, 3) := by decide +kernel
theorem dX6_isSuited_125 : decode cX6_isSuited 125 = .ok (.aload_n 0, 1) := by decide +kernel
theorem dX6_isSuited_126 : decode cX6_isSuited 126 = .ok (.getfield 12, 3) := by decide +kernel
theorem dX6_isSuited_129 : decode cX6_isSuited 129 = .ok (.getfield 195, 3) := by decide +kernel
theorem dX6_isSuited_132 : decode cX6_isSuited 132 = .ok (.iload_n 2, 1) := by decide +kernel
theorem dX6_isSuited_133 : decode cX6_isSuited 133 = .ok (.iconst 0, 1) := by decide +kernel
theorem dX6_isSuited_134 : decode cX6_isSuited 134 = .ok (.invokevirtual 113, 3) := by decide +kernel
theorem dX6_isSuited_137 : decode cX6_isSuited 137 = .ok (.invokevirtual 228, 3) := by decide +kernel
theorem dX6_isSuited_140 : decode cX6_isSuited 140 = .ok (.ifCond .eq 7, 3) := by decide +kernel
theorem dX6_isSuited_143 : decode cX6_isSuited 143 = .ok (.iconst 1, 1) := by decide +kernel
theorem dX6_isSuited_144 : decode cX6_isSuited 144 = .ok (.goto 4, 3) := by decide +kernel
theorem dX6_isSuited_147 : decode cX6_isSuited 147 = .ok (.iconst 0, 1) := by decide +kernel
theorem dX6_isSuited_148 : decode cX6_isSuited 148 = .ok (.ireturn, 1) := by decide +kernel
set_option maxRecDepth 20000 in
theorem ggX6_isSharing_X6_hasLeave : GoodIn wsX6_isSharing wsX6_hasLeave := goodIn_r _ [5, 6, 7, 8, 9, 10, 11, 12, 13, 14, 15, 16, 17, 18, 19, 20, 21, 22, 23, 24, 25, 26, 27, 28, 29, 30, 31, 32, 33, 34, 35, 36, 37, 38, 39, 40, 41, 42, 43, 44] (by decide +kernel) (by decide +kernel)
set_option maxRecDepth 20000 in
theorem gX6_isSharing_X6_hasLeave : GoodIn wsX6_isSharing (wsV RX6 201 RX6 yX6_hasLeave wsX6_hasLeave) := goodIn_app (goodIn_of _ (by decide +kernel)) ggX6_isSharing_X6_hasLeave
theorem dX6_isSharing_0 : decode cX6_isSharing 0 = .ok (.iload_n 1, 1) := by decide +kernel
theorem dX6_isSharing_1 : decode cX6_isSharing 1 = .ok (.iload_n 2, 1) := by decide +kernel
theorem dX6_isSharing_2 : decode cX6_isSharing 2 = .ok (.if_icmp .eq 12, 3) := by decide +kernel
theorem dX6_isSharing_5 : decode cX6_isSharing 5 = .ok (.aload_n 0, 1) := by decide +kernel
theorem dX6_isSharing_6 : decode cX6_isSharing 6 = .ok (.iload_n 1, 1) := by decide +kernel
theorem dX6_isSharing_7 : decode cX6_isSharing 7 = .ok (.iload_n 2, 1) := by decide +kernel
theorem dX6_isSharing_8 : decode cX6_isSharing 8 = .ok (.invokevirtual 201, 3) := by decide +kernel
theorem dX6_isSharing_11 : decode cX6_isSharing 11 = .ok (.ifCond .eq 7, 3) := by decide +kernel
theorem dX6_isSharing_14 : decode cX6_isSharing 14 = .ok (.iconst 1, 1) := by decide +kernel
theorem dX6_isSharing_15 : decode cX6_isSharing 15 = .ok (.goto 4, 3) := by decide +kernel
theorem dX6_isSharing_18 : decode cX6_isSharing 18 = .ok (.iconst 0, 1) := by decide +kernel
theorem dX6_isSharing_19 : decode cX6_isSharing 19 = .ok (.ireturn, 1) := by decide +kernel
set_option maxRecDepth 20000 in
theorem ggX6_isJoined_X4_size : GoodIn wsX6_isJoined wsX4_size := goodIn_r _ [7, 8, 40, 41, 42, 43] (by decide +kernel) (by decide +kernel)
set_option maxRecDepth 20000 in
theorem gX6_isJoined_X4_size : GoodIn wsX6_isJoined (wsV RX6 117 RX4 yX4_size wsX4_size) := goodIn_app (goodIn_of _ (by decide +kernel)) ggX6_isJoined_X4_size
set_option maxRecDepth 20000 in
theorem ggX6_isJoined_X4_cell : GoodIn wsX6_isJoined wsX4_cell := goodIn_r _ [12, 13, 14, 15, 16, 17, 6, 18, 8, 40, 41, 42, 43] (by decide +kernel) (by decide +kernel)
set_option maxRecDepth 20000 in
theorem gX6_isJoined_X4_cell : GoodIn wsX6_isJoined (wsV RX6 113 RX4 yX4_cell wsX4_cell) := goodIn_app (goodIn_of _ (by decide +kernel)) ggX6_isJoined_X4_cell
