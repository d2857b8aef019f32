theorem dX7_find_30 : decode cX7_find 30 = .ok (.idiv, 1) := by decide +kernel
theorem dX7_find_31 : decode cX7_find 31 = .ok (.invokevirtual 76, 3) := by decide +kernel
theorem dX7_find_34 : decode cX7_find 34 = .ok (.ifCond .lt 12, 3) := by decide +kernel
theorem dX7_find_37 : decode cX7_find 37 = .ok (.aload_n 0, 1) := by decide +kernel
theorem dX7_find_38 : decode cX7_find 38 = .ok (.iload_n 1, 1) := by decide +kernel
theorem dX7_find_39 : decode cX7_find 39 = .ok (.bipush 10, 2) := by decide +kernel
theorem dX7_find_41 : decode cX7_find 41 = .ok (.idiv, 1) := by decide +kernel
theorem dX7_find_42 : decode cX7_find 42 = .ok (.invokevirtual 76, 3) := by decide +kernel
theorem dX7_find_45 : decode cX7_find 45 = .ok (.ireturn, 1) := by decide +kernel
theorem dX7_find_46 : decode cX7_find 46 = .ok (.bipush (-3), 2) := by decide +kernel
theorem dX7_find_48 : decode cX7_find 48 = .ok (.istore_n 2, 1) := by decide +kernel
theorem dX7_find_49 : decode cX7_find 49 = .ok (.iconst 0, 1) := by decide +kernel
theorem dX7_find_50 : decode cX7_find 50 = .ok (.istore_n 3, 1) := by decide +kernel
theorem dX7_find_51 : decode cX7_find 51 = .ok (.iconst 0, 1) := by decide +kernel
theorem dX7_find_52 : decode cX7_find 52 = .ok (.istore 4, 2) := by decide +kernel
theorem dX7_find_54 : decode cX7_find 54 = .ok (.iload 4, 2) := by decide +kernel
theorem dX7_find_56 : decode cX7_find 56 = .ok (.aload_n 0, 1) := by decide +kernel
theorem dX7_find_57 : decode cX7_find 57 = .ok (.getfield 7, 3) := by decide +kernel
theorem dX7_find_60 : decode cX7_find 60 = .ok (.iconst 1, 1) := by decide +kernel
theorem dX7_find_61 : decode cX7_find 61 = .ok (.iaload, 1) := by decide +kernel
theorem dX7_find_62 : decode cX7_find 62 = .ok (.if_icmp .ge 100, 3) := by decide +kernel
theorem dX7_find_65 : decode cX7_find 65 = .ok (.bipush 10, 2) := by decide +kernel
theorem dX7_find_67 : decode cX7_find 67 = .ok (.aload_n 0, 1) := by decide +kernel
theorem dX7_find_68 : decode cX7_find 68 = .ok (.iload 4, 2) := by decide +kernel
theorem dX7_find_70 : decode cX7_find 70 = .ok (.iconst 0, 1) := by decide +kernel
theorem dX7_find_71 : decode cX7_find 71 = .ok (.invokevirtual 68, 3) := by decide +kernel
theorem dX7_find_74 : decode cX7_find 74 = .ok (.imul, 1) := by decide +kernel
theorem dX7_find_75 : decode cX7_find 75 = .ok (.aload_n 0, 1) := by decide +kernel
theorem dX7_find_76 : decode cX7_find 76 = .ok (.iload 4, 2) := by decide +kernel
theorem dX7_find_78 : decode cX7_find 78 = .ok (.iconst 0, 1) := by decide +kernel
theorem dX7_find_79 : decode cX7_find 79 = .ok (.invokevirtual 68, 3) := by decide +kernel
theorem dX7_find_82 : decode cX7_find 82 = .ok (.invokestatic 80, 3) := by decide +kernel
theorem dX7_find_85 : decode cX7_find 85 = .ok (.iadd, 1) := by decide +kernel
theorem dX7_find_86 : decode cX7_find 86 = .ok (.istore 5, 2) := by decide +kernel
theorem dX7_find_88 : decode cX7_find 88 = .ok (.iconst 0, 1) := by decide +kernel
theorem dX7_find_89 : decode cX7_find 89 = .ok (.istore 6, 2) := by decide +kernel
theorem dX7_find_91 : decode cX7_find 91 = .ok (.iconst 1, 1) := by decide +kernel
theorem dX7_find_92 : decode cX7_find 92 = .ok (.istore 7, 2) := by decide +kernel
theorem dX7_find_94 : decode cX7_find 94 = .ok (.iconst 0, 1) := by decide +kernel
theorem dX7_find_95 : decode cX7_find 95 = .ok (.istore 8, 2) := by decide +kernel
theorem dX7_find_97 : decode cX7_find 97 = .ok (.iload 8, 2) := by decide +kernel
theorem dX7_find_99 : decode cX7_find 99 = .ok (.iconst 5, 1) := by decide +kernel
theorem dX7_find_100 : decode cX7_find 100 = .ok (.if_icmp .ge 44, 3) := by decide +kernel
theorem dX7_find_103 : decode cX7_find 103 = .ok (.iload 6, 2) := by decide +kernel
theorem dX7_find_105 : decode cX7_find 105 = .ok (.iload 5, 2) := by decide +kernel
theorem dX7_find_107 : decode cX7_find 107 = .ok (.iload 7, 2) := by decide +kernel
theorem dX7_find_109 : decode cX7_find 109 = .ok (.idiv, 1) := by decide +kernel
theorem dX7_find_110 : decode cX7_find 110 = .ok (.bipush 10, 2) := by decide +kernel
theorem dX7_find_112 : decode cX7_find 112 = .ok (.irem, 1) := by decide +kernel
theorem dX7_find_113 : decode cX7_find 113 = .ok (.iload_n 1, 1) := by decide +kernel
theorem dX7_find_114 : decode cX7_find 114 = .ok (.iload 7, 2) := by decide +kernel
theorem dX7_find_116 : decode cX7_find 116 = .ok (.idiv, 1) := by decide +kernel
theorem dX7_find_117 : decode cX7_find 117 = .ok (.bipush 10, 2) := by decide +kernel
theorem dX7_find_119 : decode cX7_find 119 = .ok (.irem, 1) := by decide +kernel
theorem dX7_find_120 : decode cX7_find 120 = .ok (.if_icmp .ne 7, 3) := by decide +kernel
theorem dX7_find_123 : decode cX7_find 123 = .ok (.iconst 0, 1) := by decide +kernel
theorem dX7_find_124 : decode cX7_find 124 = .ok (.goto 4, 3) := by decide +kernel
theorem dX7_find_127 : decode cX7_find 127 = .ok (.iconst 1, 1) := by decide +kernel
theorem dX7_find_128 : decode cX7_find 128 = .ok (.iadd, 1) := by decide +kernel
theorem dX7_find_129 : decode cX7_find 129 = .ok (.istore 6, 2) := by decide +kernel
theorem dX7_find_131 : decode cX7_find 131 = .ok (.iload 7, 2) := by decide +kernel
theorem dX7_find_133 : decode cX7_find 133 = .ok (.bipush 10, 2) := by decide +kernel
theorem dX7_find_135 : decode cX7_find 135 = .ok (.imul, 1) := by decide +kernel
theorem dX7_find_136 : decode cX7_find 136 = .ok (.istore 7, 2) := by decide +kernel
theorem dX7_find_138 : decode cX7_find 138 = .ok (.iinc 8 1, 3) := by decide +kernel
theorem dX7_find_141 : decode cX7_find 141 = .ok (.goto (-44), 3) := by decide +kernel
theorem dX7_find_144 : decode cX7_find 144 = .ok (.iload 6, 2) := by decide +kernel
theorem dX7_find_146 : decode cX7_find 146 = .ok (.iconst 1, 1) := by decide +kernel
theorem dX7_find_147 : decode cX7_find 147 = .ok (.if_icmp .ne 9, 3) := by decide +kernel
theorem dX7_find_150 : decode cX7_find 150 = .ok (.iload 4, 2) := by decide +kernel
theorem dX7_find_152 : decode cX7_find 152 = .ok (.istore_n 2, 1) := by decide +kernel
theorem dX7_find_153 : decode cX7_find 153 = .ok (.iinc 3 1, 3) := by decide +kernel
theorem dX7_find_156 : decode cX7_find 156 = .ok (.iinc 4 1, 3) := by decide +kernel
theorem dX7_find_159 : decode cX7_find 159 = .ok (.goto (-105), 3) := by decide +kernel
theorem dX7_find_162 : decode cX7_find 162 = .ok (.iload_n 3, 1) := by decide +kernel
theorem dX7_find_163 : decode cX7_find 163 = .ok (.iconst 1, 1) := by decide +kernel
theorem dX7_find_164 : decode cX7_find 164 = .ok (.if_icmp .ne 7, 3) := by decide +kernel
theorem dX7_find_167 : decode cX7_find 167 = .ok (.iload_n 2, 1) := by decide +kernel
theorem dX7_find_168 : decode cX7_find 168 = .ok (.goto 5, 3) := by decide +kernel
theorem dX7_find_171 : decode cX7_find 171 = .ok (.bipush (-3), 2) := by decide +kernel
theorem dX7_find_173 : decode cX7_find 173 = .ok (.ireturn, 1) := by decide +kernel
set_option maxRecDepth 20000 in
theorem ggX7_of_X7_isBox : GoodIn wsX7_of wsX7_isBox := goodIn_r _ [5, 6, 7, 8, 4, 9, 15, 16, 17, 18, 19, 20, 21, 22, 23, 24, 25, 26, 27, 28, 29, 30, 31, 32, 33, 34, 35, 36, 37, 38, 39, 40, 41, 42] (by decide +kernel) (by decide +kernel)
set_option maxRecDepth 20000 in
theorem gX7_of_X7_isBox : GoodIn wsX7_of (wsV RX7 84 RX7 yX7_isBox wsX7_isBox) := goodIn_app (goodIn_of _ (by decide +kernel)) ggX7_of_X7_isBox
set_option maxRecDepth 20000 in
theorem ggX7_of_X7_in : GoodIn wsX7_of wsX7_in := goodIn_r _ [9] (by decide +kernel) (by decide +kernel)
set_option maxRecDepth 20000 in
theorem gX7_of_X7_in : GoodIn wsX7_of (va_wsS RX7 64 yX7_in wsX7_in) := goodIn_app (goodIn_of _ (by decide +kernel)) ggX7_of_X7_in
set_option maxRecDepth 20000 in
theorem ggX7_of_X7_get : GoodIn wsX7_of wsX7_get := goodIn_r _ [13, 14, 15, 16, 17, 18, 19, 20, 21, 22, 23, 24, 25, 26, 27, 28, 29, 30, 31, 32, 33, 34, 35, 36, 37, 38, 39, 40, 41, 42] (by decide +kernel) (by decide +kernel)
set_option maxRecDepth 20000 in
theorem gX7_of_X7_get : GoodIn wsX7_of (wsV RX7 68 RX7 yX7_get wsX7_get) := goodIn_app (goodIn_of _ (by decide +kernel)) ggX7_of_X7_get
theorem dX7_of_0 : decode cX7_of 0 = .ok (.aload_n 0, 1) := by decide +kernel
theorem dX7_of_1 : decode cX7_of 1 = .ok (.iload_n 1, 1) := by decide +kernel
theorem dX7_of_2 : decode cX7_of 2 = .ok (.invokevirtual 84, 3) := by decide +kernel
theorem dX7_of_5 : decode cX7_of 5 = .ok (.ifCond .eq 13, 3) := by decide +kernel
theorem dX7_of_8 : decode cX7_of 8 = .ok (.iload_n 2, 1) := by decide +kernel
theorem dX7_of_9 : decode cX7_of 9 = .ok (.iconst 0, 1) := by decide +kernel
theorem dX7_of_10 : decode cX7_of 10 = .ok (.bipush 6, 2) := by decide +kernel
theorem dX7_of_12 : decode cX7_of 12 = .ok (.invokestatic 64, 3) := by decide +kernel
theorem dX7_of_15 : decode cX7_of 15 = .ok (.ifCond .ne 5, 3) := by decide +kernel
theorem dX7_of_18 : decode cX7_of 18 = .ok (.iconst (-1), 1) := by decide +kernel
theorem dX7_of_19 : decode cX7_of 19 = .ok (.ireturn, 1) := by decide +kernel
theorem dX7_of_20 : decode cX7_of 20 = .ok (.aload_n 0, 1) := by decide +kernel
theorem dX7_of_21 : decode cX7_of 21 = .ok (.iload_n 1, 1) := by decide +kernel
theorem dX7_of_22 : decode cX7_of 22 = .ok (.iload_n 2, 1) := by decide +kernel
theorem dX7_of_23 : decode cX7_of 23 = .ok (.invokevirtual 68, 3) := by decide +kernel
theorem dX7_of_26 : decode cX7_of 26 = .ok (.istore_n 3, 1) := by decide +kernel
theorem dX7_of_27 : decode cX7_of 27 = .ok (.iload_n 3, 1) := by decide +kernel
theorem dX7_of_28 : decode cX7_of 28 = .ok (.ifCond .ge 8, 3) := by decide +kernel
theorem dX7_of_31 : decode cX7_of 31 = .ok (.bipush (-3), 2) := by decide +kernel
theorem dX7_of_33 : decode cX7_of 33 = .ok (.goto 4, 3) := by decide +kernel
theorem dX7_of_36 : decode cX7_of 36 = .ok (.iload_n 3, 1) := by decide +kernel
theorem dX7_of_37 : decode cX7_of 37 = .ok (.ireturn, 1) := by decide +kernel
set_option maxRecDepth 20000 in
theorem ggX7_word_X7_isBox : GoodIn wsX7_word wsX7_isBox := goodIn_r _ [7, 1, 8, 9, 6, 10, 23, 24, 25, 26, 27, 28, 29, 30, 31, 32, 33, 34, 35, 36, 37, 38, 39, 40, 41, 42, 43, 44, 45, 46, 47, 48, 49, 50] (by decide +kernel) (by decide +kernel)
set_option maxRecDepth 20000 in
theorem gX7_word_X7_isBox : GoodIn wsX7_word (wsV RX7 84 RX7 yX7_isBox wsX7_isBox) := goodIn_app (goodIn_of _ (by decide +kernel)) ggX7_word_X7_isBox
set_option maxRecDepth 20000 in
theorem ggX7_word_X7_isPast : GoodIn wsX7_word wsX7_isPast := goodIn_r _ [14, 1, 8, 9, 6, 10, 23, 24, 25, 26, 27, 28, 29, 30, 31, 32, 33, 34, 35, 36, 37, 38, 39, 40, 41, 42, 43, 44, 45, 46, 47, 48, 49, 50] (by decide +kernel) (by decide +kernel)
set_option maxRecDepth 20000 in
theorem gX7_word_X7_isPast : GoodIn wsX7_word (wsV RX7 87 RX7 yX7_isPast wsX7_isPast) := goodIn_app (goodIn_of _ (by decide +kernel)) ggX7_word_X7_isPast
set_option maxRecDepth 20000 in
theorem ggX7_word_X7_isPlace : GoodIn wsX7_word wsX7_isPlace := goodIn_r _ [17, 8, 9, 6, 10] (by decide +kernel) (by decide +kernel)
set_option maxRecDepth 20000 in
theorem gX7_word_X7_isPlace : GoodIn wsX7_word (va_wsS RX7 90 yX7_isPlace wsX7_isPlace) := goodIn_app (goodIn_of _ (by decide +kernel)) ggX7_word_X7_isPlace
set_option maxRecDepth 20000 in
theorem ggX7_word_X7_in : GoodIn wsX7_word wsX7_in := goodIn_r _ [10] (by decide +kernel) (by decide +kernel)
set_option maxRecDepth 20000 in
theorem gX7_word_X7_in : GoodIn wsX7_word (va_wsS RX7 64 yX7_in wsX7_in) := goodIn_app (goodIn_of _ (by decide +kernel)) ggX7_word_X7_in
set_option maxRecDepth 20000 in
theorem ggX7_word_X7_get : GoodIn wsX7_word wsX7_get := goodIn_r _ [21, 22, 23, 24, 25, 26, 27, 28, 29, 30, 31, 32, 33, 34, 35, 36, 37, 38, 39, 40, 41, 42, 43, 44, 45, 46, 47, 48, 49, 50] (by decide +kernel) (by decide +kernel)
set_option maxRecDepth 20000 in
theorem gX7_word_X7_get : GoodIn wsX7_word (wsV RX7 68 RX7 yX7_get wsX7_get) := goodIn_app (goodIn_of _ (by decide +kernel)) ggX7_word_X7_get
theorem dX7_word_0 : decode cX7_word 0 = .ok (.aload_n 0, 1) := by decide +kernel
theorem dX7_word_1 : decode cX7_word 1 = .ok (.iload_n 1, 1) := by decide +kernel
theorem dX7_word_2 : decode cX7_word 2 = .ok (.invokevirtual 84, 3) := by decide +kernel
theorem dX7_word_5 : decode cX7_word 5 = .ok (.ifCond .eq 28, 3) := by decide +kernel
theorem dX7_word_8 : decode cX7_word 8 = .ok (.aload_n 0, 1) := by decide +kernel
theorem dX7_word_9 : decode cX7_word 9 = .ok (.iload_n 2, 1) := by decide +kernel
theorem dX7_word_10 : decode cX7_word 10 = .ok (.invokevirtual 87, 3) := by decide +kernel
theorem dX7_word_13 : decode cX7_word 13 = .ok (.ifCond .eq 20, 3) := by decide +kernel
theorem dX7_word_16 : decode cX7_word 16 = .ok (.iload_n 3, 1) := by decide +kernel
theorem dX7_word_17 : decode cX7_word 17 = .ok (.invokestatic 90, 3) := by decide +kernel
theorem dX7_word_20 : decode cX7_word 20 = .ok (.ifCond .eq 13, 3) := by decide +kernel
theorem dX7_word_23 : decode cX7_word 23 = .ok (.iload 4, 2) := by decide +kernel
theorem dX7_word_25 : decode cX7_word 25 = .ok (.iconst 0, 1) := by decide +kernel
theorem dX7_word_26 : decode cX7_word 26 = .ok (.iconst 1, 1) := by decide +kernel
theorem dX7_word_27 : decode cX7_word 27 = .ok (.invokestatic 64, 3) := by decide +kernel
theorem dX7_word_30 : decode cX7_word 30 = .ok (.ifCond .ne 5, 3) := by decide +kernel
theorem dX7_word_33 : decode cX7_word 33 = .ok (.iconst (-1), 1) := by decide +kernel
theorem dX7_word_34 : decode cX7_word 34 = .ok (.ireturn, 1) := by decide +kernel
theorem dX7_word_35 : decode cX7_word 35 = .ok (.aload_n 0, 1) := by decide +kernel
theorem dX7_word_36 : decode cX7_word 36 = .ok (.iload_n 1, 1) := by decide +kernel
theorem dX7_word_37 : decode cX7_word 37 = .ok (.iconst 5, 1) := by decide +kernel
theorem dX7_word_38 : decode cX7_word 38 = .ok (.invokevirtual 68, 3) := by decide +kernel
theorem dX7_word_41 : decode cX7_word 41 = .ok (.ifCond .eq 6, 3) := by decide +kernel
theorem dX7_word_44 : decode cX7_word 44 = .ok (.bipush (-4), 2) := by decide +kernel
theorem dX7_word_46 : decode cX7_word 46 = .ok (.ireturn, 1) := by decide +kernel
theorem dX7_word_47 : decode cX7_word 47 = .ok (.aload_n 0, 1) := by decide +kernel
theorem dX7_word_48 : decode cX7_word 48 = .ok (.getfield 7, 3) := by decide +kernel
theorem dX7_word_51 : decode cX7_word 51 = .ok (.iconst 2, 1) := by decide +kernel
theorem dX7_word_52 : decode cX7_word 52 = .ok (.iaload, 1) := by decide +kernel
theorem dX7_word_53 : decode cX7_word 53 = .ok (.bipush 60, 2) := by decide +kernel
theorem dX7_word_55 : decode cX7_word 55 = .ok (.if_icmp .ne 6, 3) := by decide +kernel
theorem dX7_word_58 : decode cX7_word 58 = .ok (.bipush (-2), 2) := by decide +kernel
theorem dX7_word_60 : decode cX7_word 60 = .ok (.ireturn, 1) := by decide +kernel
theorem dX7_word_61 : decode cX7_word 61 = .ok (.iconst 5, 1) := by decide +kernel
theorem dX7_word_62 : decode cX7_word 62 = .ok (.aload_n 0, 1) := by decide +kernel
theorem dX7_word_63 : decode cX7_word 63 = .ok (.getfield 7, 3) := by decide +kernel
theorem dX7_word_66 : decode cX7_word 66 = .ok (.iconst 2, 1) := by decide +kernel
theorem dX7_word_67 : decode cX7_word 67 = .ok (.iaload, 1) := by decide +kernel
theorem dX7_word_68 : decode cX7_word 68 = .ok (.imul, 1) := by decide +kernel
theorem dX7_word_69 : decode cX7_word 69 = .ok (.istore 5, 2) := by decide +kernel
theorem dX7_word_71 : decode cX7_word 71 = .ok (.aload_n 0, 1) := by decide +kernel
theorem dX7_word_72 : decode cX7_word 72 = .ok (.getfield 16, 3) := by decide +kernel
theorem dX7_word_75 : decode cX7_word 75 = .ok (.iload 5, 2) := by decide +kernel
theorem dX7_word_77 : decode cX7_word 77 = .ok (.iload_n 1, 1) := by decide +kernel
theorem dX7_word_78 : decode cX7_word 78 = .ok (.iastore, 1) := by decide +kernel
theorem dX7_word_79 : decode cX7_word 79 = .ok (.aload_n 0, 1) := by decide +kernel
theorem dX7_word_80 : decode cX7_word 80 = .ok (.getfield 16, 3) := by decide +kernel
theorem dX7_word_83 : decode cX7_word 83 = .ok (.iload 5, 2) := by decide +kernel
theorem dX7_word_85 : decode cX7_word 85 = .ok (.iconst 1, 1) := by decide +kernel
theorem dX7_word_86 : decode cX7_word 86 = .ok (.iadd, 1) := by decide +kernel
theorem dX7_word_87 : decode cX7_word 87 = .ok (.iload_n 2, 1) := by decide +kernel
theorem dX7_word_88 : decode cX7_word 88 = .ok (.iastore, 1) := by decide +kernel
theorem dX7_word_89 : decode cX7_word 89 = .ok (.aload_n 0, 1) := by decide +kernel
theorem dX7_word_90 : decode cX7_word 90 = .ok (.getfield 16, 3) := by decide +kernel
theorem dX7_word_93 : decode cX7_word 93 = .ok (.iload 5, 2) := by decide +kernel
theorem dX7_word_95 : decode cX7_word 95 = .ok (.iconst 2, 1) := by decide +kernel
theorem dX7_word_96 : decode cX7_word 96 = .ok (.iadd, 1) := by decide +kernel
theorem dX7_word_97 : decode cX7_word 97 = .ok (.iload_n 3, 1) := by decide +kernel
theorem dX7_word_98 : decode cX7_word 98 = .ok (.iastore, 1) := by decide +kernel
theorem dX7_word_99 : decode cX7_word 99 = .ok (.aload_n 0, 1) := by decide +kernel
theorem dX7_word_100 : decode cX7_word 100 = .ok (.getfield 16, 3) := by decide +kernel
theorem dX7_word_103 : decode cX7_word 103 = .ok (.iload 5, 2) := by decide +kernel
theorem dX7_word_105 : decode cX7_word 105 = .ok (.iconst 3, 1) := by decide +kernel
theorem dX7_word_106 : decode cX7_word 106 = .ok (.iadd, 1) := by decide +kernel
theorem dX7_word_107 : decode cX7_word 107 = .ok (.iload 4, 2) := by decide +kernel
theorem dX7_word_109 : decode cX7_word 109 = .ok (.iastore, 1) := by decide +kernel
theorem dX7_word_110 : decode cX7_word 110 = .ok (.aload_n 0, 1) := by decide +kernel
theorem dX7_word_111 : decode cX7_word 111 = .ok (.getfield 16, 3) := by decide +kernel
theorem dX7_word_114 : decode cX7_word 114 = .ok (.iload 5, 2) := by decide +kernel
theorem dX7_word_116 : decode cX7_word 116 = .ok (.iconst 4, 1) := by decide +kernel
theorem dX7_word_117 : decode cX7_word 117 = .ok (.iadd, 1) := by decide +kernel
theorem dX7_word_118 : decode cX7_word 118 = .ok (.aload_n 0, 1) := by decide +kernel
theorem dX7_word_119 : decode cX7_word 119 = .ok (.getfield 7, 3) := by decide +kernel
theorem dX7_word_122 : decode cX7_word 122 = .ok (.iconst 0, 1) := by decide +kernel
theorem dX7_word_123 : decode cX7_word 123 = .ok (.iaload, 1) := by decide +kernel
theorem dX7_word_124 : decode cX7_word 124 = .ok (.iastore, 1) := by decide +kernel
theorem dX7_word_125 : decode cX7_word 125 = .ok (.aload_n 0, 1) := by decide +kernel
theorem dX7_word_126 : decode cX7_word 126 = .ok (.getfield 7, 3) := by decide +kernel
theorem dX7_word_129 : decode cX7_word 129 = .ok (.iconst 2, 1) := by decide +kernel
theorem dX7_word_130 : decode cX7_word 130 = .ok (.dup2, 1) := by decide +kernel
theorem dX7_word_131 : decode cX7_word 131 = .ok (.iaload, 1) := by decide +kernel
theorem dX7_word_132 : decode cX7_word 132 = .ok (.iconst 1, 1) := by decide +kernel
theorem dX7_word_133 : decode cX7_word 133 = .ok (.iadd, 1) := by decide +kernel
theorem dX7_word_134 : decode cX7_word 134 = .ok (.iastore, 1) := by decide +kernel
theorem dX7_word_135 : decode cX7_word 135 = .ok (.aload_n 0, 1) := by decide +kernel
theorem dX7_word_136 : decode cX7_word 136 = .ok (.getfield 7, 3) := by decide +kernel
theorem dX7_word_139 : decode cX7_word 139 = .ok (.iconst 2, 1) := by decide +kernel
theorem dX7_word_140 : decode cX7_word 140 = .ok (.iaload, 1) := by decide +kernel
theorem dX7_word_141 : decode cX7_word 141 = .ok (.iconst 1, 1) := by decide +kernel
theorem dX7_word_142 : decode cX7_word 142 = .ok (.isub, 1) := by decide +kernel
theorem dX7_word_143 : decode cX7_word 143 = .ok (.ireturn, 1) := by decide +kernel
theorem dX7_latest_0 : decode cX7_latest 0 = .ok (.iconst (-1), 1) := by decide +kernel
theorem dX7_latest_1 : decode cX7_latest 1 = .ok (.istore 4, 2) := by decide +kernel
theorem dX7_latest_3 : decode cX7_latest 3 = .ok (.iconst 0, 1) := by decide +kernel
theorem dX7_latest_4 : decode cX7_latest 4 = .ok (.istore 5, 2) := by decide +kernel
theorem dX7_latest_6 : decode cX7_latest 6 = .ok (.iload 5, 2) := by decide +kernel
theorem dX7_latest_8 : decode cX7_latest 8 = .ok (.aload_n 0, 1) := by decide +kernel
theorem dX7_latest_9 : decode cX7_latest 9 = .ok (.getfield 7, 3) := by decide +kernel
theorem dX7_latest_12 : decode cX7_latest 12 = .ok (.iconst 2, 1) := by decide +kernel
theorem dX7_latest_13 : decode cX7_latest 13 = .ok (.iaload, 1) := by decide +kernel
theorem dX7_latest_14 : decode cX7_latest 14 = .ok (.if_icmp .ge 91, 3) := by decide +kernel
theorem dX7_latest_17 : decode cX7_latest 17 = .ok (.aload_n 0, 1) := by decide +kernel
theorem dX7_latest_18 : decode cX7_latest 18 = .ok (.getfield 16, 3) := by decide +kernel
theorem dX7_latest_21 : decode cX7_latest 21 = .ok (.iconst 5, 1) := by decide +kernel
theorem dX7_latest_22 : decode cX7_latest 22 = .ok (.iload 5, 2) := by decide +kernel
theorem dX7_latest_24 : decode cX7_latest 24 = .ok (.imul, 1) := by decide +kernel
theorem dX7_latest_25 : decode cX7_latest 25 = .ok (.iaload, 1) := by decide +kernel
theorem dX7_latest_26 : decode cX7_latest 26 = .ok (.iload_n 1, 1) := by decide +kernel
theorem dX7_latest_27 : decode cX7_latest 27 = .ok (.if_icmp .ne 72, 3) := by decide +kernel
theorem dX7_latest_30 : decode cX7_latest 30 = .ok (.aload_n 0, 1) := by decide +kernel
theorem dX7_latest_31 : decode cX7_latest 31 = .ok (.getfield 16, 3) := by decide +kernel
theorem dX7_latest_34 : decode cX7_latest 34 = .ok (.iconst 5, 1) := by decide +kernel
theorem dX7_latest_35 : decode cX7_latest 35 = .ok (.iload 5, 2) := by decide +kernel
theorem dX7_latest_37 : decode cX7_latest 37 = .ok (.imul, 1) := by decide +kernel
theorem dX7_latest_38 : decode cX7_latest 38 = .ok (.iconst 1, 1) := by decide +kernel
theorem dX7_latest_39 : decode cX7_latest 39 = .ok (.iadd, 1) := by decide +kernel
theorem dX7_latest_40 : decode cX7_latest 40 = .ok (.iaload, 1) := by decide +kernel
theorem dX7_latest_41 : decode cX7_latest 41 = .ok (.iload_n 2, 1) := by decide +kernel
theorem dX7_latest_42 : decode cX7_latest 42 = .ok (.if_icmp .gt 57, 3) := by decide +kernel
theorem dX7_latest_45 : decode cX7_latest 45 = .ok (.aload_n 0, 1) := by decide +kernel
theorem dX7_latest_46 : decode cX7_latest 46 = .ok (.getfield 16, 3) := by decide +kernel
theorem dX7_latest_49 : decode cX7_latest 49 = .ok (.iconst 5, 1) := by decide +kernel
theorem dX7_latest_50 : decode cX7_latest 50 = .ok (.iload 5, 2) := by decide +kernel
theorem dX7_latest_52 : decode cX7_latest 52 = .ok (.imul, 1) := by decide +kernel
theorem dX7_latest_53 : decode cX7_latest 53 = .ok (.iconst 4, 1) := by decide +kernel
theorem dX7_latest_54 : decode cX7_latest 54 = .ok (.iadd, 1) := by decide +kernel
theorem dX7_latest_55 : decode cX7_latest 55 = .ok (.iaload, 1) := by decide +kernel
theorem dX7_latest_56 : decode cX7_latest 56 = .ok (.iload_n 3, 1) := by decide +kernel
theorem dX7_latest_57 : decode cX7_latest 57 = .ok (.if_icmp .gt 42, 3) := by decide +kernel
theorem dX7_latest_60 : decode cX7_latest 60 = .ok (.iload 4, 2) := by decide +kernel
theorem dX7_latest_62 : decode cX7_latest 62 = .ok (.ifCond .lt 28, 3) := by decide +kernel
theorem dX7_latest_65 : decode cX7_latest 65 = .ok (.aload_n 0, 1) := by decide +kernel
theorem dX7_latest_66 : decode cX7_latest 66 = .ok (.getfield 16, 3) := by decide +kernel
theorem dX7_latest_69 : decode cX7_latest 69 = .ok (.iconst 5, 1) := by decide +kernel
theorem dX7_latest_70 : decode cX7_latest 70 = .ok (.iload 5, 2) := by decide +kernel
theorem dX7_latest_72 : decode cX7_latest 72 = .ok (.imul, 1) := by decide +kernel
theorem dX7_latest_73 : decode cX7_latest 73 = .ok (.iconst 1, 1) := by decide +kernel
theorem dX7_latest_74 : decode cX7_latest 74 = .ok (.iadd, 1) := by decide +kernel
theorem dX7_latest_75 : decode cX7_latest 75 = .ok (.iaload, 1) := by decide +kernel
theorem dX7_latest_76 : decode cX7_latest 76 = .ok (.aload_n 0, 1) := by decide +kernel
theorem dX7_latest_77 : decode cX7_latest 77 = .ok (.getfield 16, 3) := by decide +kernel
theorem dX7_latest_80 : decode cX7_latest 80 = .ok (.iconst 5, 1) := by decide +kernel
theorem dX7_latest_81 : decode cX7_latest 81 = .ok (.iload 4, 2) := by decide +kernel
theorem dX7_latest_83 : decode cX7_latest 83 = .ok (.imul, 1) := by decide +kernel
theorem dX7_latest_84 : decode cX7_latest 84 = .ok (.iconst 1, 1) := by decide +kernel
theorem dX7_latest_85 : decode cX7_latest 85 = .ok (.iadd, 1) := by decide +kernel
theorem dX7_latest_86 : decode cX7_latest 86 = .ok (.iaload, 1) := by decide +kernel
theorem dX7_latest_87 : decode cX7_latest 87 = .ok (.if_icmp .lt 8, 3) := by decide +kernel
theorem dX7_latest_90 : decode cX7_latest 90 = .ok (.iload 5, 2) := by decide +kernel
theorem dX7_latest_92 : decode cX7_latest 92 = .ok (.goto 5, 3) := by decide +kernel
theorem dX7_latest_95 : decode cX7_latest 95 = .ok (.iload 4, 2) := by decide +kernel
theorem dX7_latest_97 : decode cX7_latest 97 = .ok (.istore 4, 2) := by decide +kernel
theorem dX7_latest_99 : decode cX7_latest 99 = .ok (.iinc 5 1, 3) := by decide +kernel
theorem dX7_latest_102 : decode cX7_latest 102 = .ok (.goto (-96), 3) := by decide +kernel
theorem dX7_latest_105 : decode cX7_latest 105 = .ok (.iload 4, 2) := by decide +kernel
theorem dX7_latest_107 : decode cX7_latest 107 = .ok (.ireturn, 1) := by decide +kernel
set_option maxRecDepth 20000 in
theorem ggX7_whereIs_X7_latest : GoodIn wsX7_whereIs wsX7_latest := goodIn_r _ [6, 7, 1, 8, 9, 10, 11, 12, 13, 14, 15, 16, 17, 18, 19, 20, 21, 22, 23, 24, 25, 26, 27, 28, 29, 30, 31, 32, 33, 34, 35] (by decide +kernel) (by decide +kernel)
set_option maxRecDepth 20000 in
theorem gX7_whereIs_X7_latest : GoodIn wsX7_whereIs (wsV RX7 93 RX7 yX7_latest wsX7_latest) := goodIn_app (goodIn_of _ (by decide +kernel)) ggX7_whereIs_X7_latest
theorem dX7_whereIs_0 : decode cX7_whereIs 0 = .ok (.aload_n 0, 1) := by decide +kernel
theorem dX7_whereIs_1 : decode cX7_whereIs 1 = .ok (.iload_n 1, 1) := by decide +kernel
theorem dX7_whereIs_2 : decode cX7_whereIs 2 = .ok (.iload_n 2, 1) := by decide +kernel
theorem dX7_whereIs_3 : decode cX7_whereIs 3 = .ok (.iload_n 3, 1) := by decide +kernel
theorem dX7_whereIs_4 : decode cX7_whereIs 4 = .ok (.invokevirtual 93, 3) := by decide +kernel
theorem dX7_whereIs_7 : decode cX7_whereIs 7 = .ok (.istore 4, 2) := by decide +kernel
theorem dX7_whereIs_9 : decode cX7_whereIs 9 = .ok (.iload 4, 2) := by decide +kernel
theorem dX7_whereIs_11 : decode cX7_whereIs 11 = .ok (.ifCond .ge 8, 3) := by decide +kernel
theorem dX7_whereIs_14 : decode cX7_whereIs 14 = .ok (.bipush 20, 2) := by decide +kernel
theorem dX7_whereIs_16 : decode cX7_whereIs 16 = .ok (.goto 29, 3) := by decide +kernel
theorem dX7_whereIs_19 : decode cX7_whereIs 19 = .ok (.aload_n 0, 1) := by decide +kernel
theorem dX7_whereIs_20 : decode cX7_whereIs 20 = .ok (.getfield 16, 3) := by decide +kernel
theorem dX7_whereIs_23 : decode cX7_whereIs 23 = .ok (.iconst 5, 1) := by decide +kernel
theorem dX7_whereIs_24 : decode cX7_whereIs 24 = .ok (.iload 4, 2) := by decide +kernel
theorem dX7_whereIs_26 : decode cX7_whereIs 26 = .ok (.imul, 1) := by decide +kernel
theorem dX7_whereIs_27 : decode cX7_whereIs 27 = .ok (.iconst 2, 1) := by decide +kernel
theorem dX7_whereIs_28 : decode cX7_whereIs 28 = .ok (.iadd, 1) := by decide +kernel
theorem dX7_whereIs_29 : decode cX7_whereIs 29 = .ok (.iaload, 1) := by decide +kernel
theorem dX7_whereIs_30 : decode cX7_whereIs 30 = .ok (.bipush 10, 2) := by decide +kernel
theorem dX7_whereIs_32 : decode cX7_whereIs 32 = .ok (.aload_n 0, 1) := by decide +kernel
theorem dX7_whereIs_33 : decode cX7_whereIs 33 = .ok (.getfield 16, 3) := by decide +kernel
theorem dX7_whereIs_36 : decode cX7_whereIs 36 = .ok (.iconst 5, 1) := by decide +kernel
theorem dX7_whereIs_37 : decode cX7_whereIs 37 = .ok (.iload 4, 2) := by decide +kernel
theorem dX7_whereIs_39 : decode cX7_whereIs 39 = .ok (.imul, 1) := by decide +kernel
theorem dX7_whereIs_40 : decode cX7_whereIs 40 = .ok (.iconst 3, 1) := by decide +kernel
theorem dX7_whereIs_41 : decode cX7_whereIs 41 = .ok (.iadd, 1) := by decide +kernel
theorem dX7_whereIs_42 : decode cX7_whereIs 42 = .ok (.iaload, 1) := by decide +kernel
theorem dX7_whereIs_43 : decode cX7_whereIs 43 = .ok (.imul, 1) := by decide +kernel
theorem dX7_whereIs_44 : decode cX7_whereIs 44 = .ok (.iadd, 1) := by decide +kernel
theorem dX7_whereIs_45 : decode cX7_whereIs 45 = .ok (.ireturn, 1) := by decide +kernel
set_option maxRecDepth 20000 in
theorem ggX7_where_X7_isBox : GoodIn wsX7_where wsX7_isBox := goodIn_r _ [5, 6, 7, 8, 4, 9, 26, 27, 28, 29, 30, 31, 32, 33, 34, 35, 36, 37, 38, 39, 40, 41, 42, 43, 44, 45, 46, 47, 48, 49, 50, 51, 52, 53] (by decide +kernel) (by decide +kernel)
set_option maxRecDepth 20000 in
theorem gX7_where_X7_isBox : GoodIn wsX7_where (wsV RX7 84 RX7 yX7_isBox wsX7_isBox) := goodIn_app (goodIn_of _ (by decide +kernel)) ggX7_where_X7_isBox
set_option maxRecDepth 20000 in
theorem ggX7_where_X7_isDay : GoodIn wsX7_where wsX7_isDay := goodIn_r _ [12, 7, 8, 4, 9] (by decide +kernel) (by decide +kernel)
set_option maxRecDepth 20000 in
theorem gX7_where_X7_isDay : GoodIn wsX7_where (va_wsS RX7 97 yX7_isDay wsX7_isDay) := goodIn_app (goodIn_of _ (by decide +kernel)) ggX7_where_X7_isDay
set_option maxRecDepth 20000 in
theorem ggX7_where_X7_isPast : GoodIn wsX7_where wsX7_isPast := goodIn_r _ [16, 6, 7, 8, 4, 9, 26, 27, 28, 29, 30, 31, 32, 33, 34, 35, 36, 37, 38, 39, 40, 41, 42, 43, 44, 45, 46, 47, 48, 49, 50, 51, 52, 53] (by decide +kernel) (by decide +kernel)
set_option maxRecDepth 20000 in
theorem gX7_where_X7_isPast : GoodIn wsX7_where (wsV RX7 87 RX7 yX7_isPast wsX7_isPast) := goodIn_app (goodIn_of _ (by decide +kernel)) ggX7_where_X7_isPast
set_option maxRecDepth 20000 in
theorem ggX7_where_X7_whereIs : GoodIn wsX7_where wsX7_whereIs := goodIn_r _ [20, 21, 22, 23, 24, 4, 25, 6, 26, 27, 28, 29, 30, 31, 32, 33, 34, 35, 36, 37, 38, 39, 40, 41, 42, 43, 44, 45, 46, 47, 48, 49, 50, 51, 52, 53] (by decide +kernel) (by decide +kernel)
set_option maxRecDepth 20000 in
theorem gX7_where_X7_whereIs : GoodIn wsX7_where (wsV RX7 100 RX7 yX7_whereIs wsX7_whereIs) := goodIn_app (goodIn_of _ (by decide +kernel)) ggX7_where_X7_whereIs
theorem dX7_where_0 : decode cX7_where 0 = .ok (.aload_n 0, 1) := by decide +kernel
theorem dX7_where_1 : decode cX7_where 1 = .ok (.iload_n 1, 1) := by decide +kernel
theorem dX7_where_2 : decode cX7_where 2 = .ok (.invokevirtual 84, 3) := by decide +kernel
theorem dX7_where_5 : decode cX7_where 5 = .ok (.ifCond .eq 28, 3) := by decide +kernel
theorem dX7_where_8 : decode cX7_where 8 = .ok (.iload_n 2, 1) := by decide +kernel
theorem dX7_where_9 : decode cX7_where 9 = .ok (.invokestatic 97, 3) := by decide +kernel
theorem dX7_where_12 : decode cX7_where 12 = .ok (.ifCond .eq 21, 3) := by decide +kernel
theorem dX7_where_15 : decode cX7_where 15 = .ok (.aload_n 0, 1) := by decide +kernel
theorem dX7_where_16 : decode cX7_where 16 = .ok (.iload_n 3, 1) := by decide +kernel
theorem dX7_where_17 : decode cX7_where 17 = .ok (.invokevirtual 87, 3) := by decide +kernel
theorem dX7_where_20 : decode cX7_where 20 = .ok (.ifCond .eq 13, 3) := by decide +kernel
theorem dX7_where_23 : decode cX7_where 23 = .ok (.aload_n 0, 1) := by decide +kernel
theorem dX7_where_24 : decode cX7_where 24 = .ok (.iload_n 1, 1) := by decide +kernel
theorem dX7_where_25 : decode cX7_where 25 = .ok (.iload_n 2, 1) := by decide +kernel
theorem dX7_where_26 : decode cX7_where 26 = .ok (.iload_n 3, 1) := by decide +kernel
theorem dX7_where_27 : decode cX7_where 27 = .ok (.invokevirtual 100, 3) := by decide +kernel
theorem dX7_where_30 : decode cX7_where 30 = .ok (.goto 4, 3) := by decide +kernel
theorem dX7_where_33 : decode cX7_where 33 = .ok (.iconst (-1), 1) := by decide +kernel
theorem dX7_where_34 : decode cX7_where 34 = .ok (.ireturn, 1) := by decide +kernel
set_option maxRecDepth 20000 in
theorem ggX7_since_X7_isBox : GoodIn wsX7_since wsX7_isBox := goodIn_r _ [6, 7, 8, 9, 5, 10, 22, 23, 24, 25, 26, 27, 28, 29, 30, 31, 32, 33, 34, 35, 36, 37, 38, 39, 40, 41, 42, 43, 44, 45, 46, 47, 48, 49] (by decide +kernel) (by decide +kernel)
set_option maxRecDepth 20000 in
theorem gX7_since_X7_isBox : GoodIn wsX7_since (wsV RX7 84 RX7 yX7_isBox wsX7_isBox) := goodIn_app (goodIn_of _ (by decide +kernel)) ggX7_since_X7_isBox
set_option maxRecDepth 20000 in
theorem ggX7_since_X7_isDay : GoodIn wsX7_since wsX7_isDay := goodIn_r _ [13, 8, 9, 5, 10] (by decide +kernel) (by decide +kernel)
set_option maxRecDepth 20000 in
theorem gX7_since_X7_isDay : GoodIn wsX7_since (va_wsS RX7 97 yX7_isDay wsX7_isDay) := goodIn_app (goodIn_of _ (by decide +kernel)) ggX7_since_X7_isDay
set_option maxRecDepth 20000 in
theorem ggX7_since_X7_isPast : GoodIn wsX7_since wsX7_isPast := goodIn_r _ [17, 7, 8, 9, 5, 10, 22, 23, 24, 25, 26, 27, 28, 29, 30, 31, 32, 33, 34, 35, 36, 37, 38, 39, 40, 41, 42, 43, 44, 45, 46, 47, 48, 49] (by decide +kernel) (by decide +kernel)
set_option maxRecDepth 20000 in
theorem gX7_since_X7_isPast : GoodIn wsX7_since (wsV RX7 87 RX7 yX7_isPast wsX7_isPast) := goodIn_app (goodIn_of _ (by decide +kernel)) ggX7_since_X7_isPast
set_option maxRecDepth 20000 in
theorem ggX7_since_X7_latest : GoodIn wsX7_since wsX7_latest := goodIn_r _ [21, 7, 1, 22, 23, 24, 25, 26, 27, 28, 29, 30, 31, 32, 33, 34, 35, 36, 37, 38, 39, 40, 41, 42, 43, 44, 45, 46, 47, 48, 49] (by decide +kernel) (by decide +kernel)
set_option maxRecDepth 20000 in
theorem gX7_since_X7_latest : GoodIn wsX7_since (wsV RX7 93 RX7 yX7_latest wsX7_latest) := goodIn_app (goodIn_of _ (by decide +kernel)) ggX7_since_X7_latest
theorem dX7_since_0 : decode cX7_since 0 = .ok (.aload_n 0, 1) := by decide +kernel
theorem dX7_since_1 : decode cX7_since 1 = .ok (.iload_n 1, 1) := by decide +kernel
theorem dX7_since_2 : decode cX7_since 2 = .ok (.invokevirtual 84, 3) := by decide +kernel
theorem dX7_since_5 : decode cX7_since 5 = .ok (.ifCond .eq 18, 3) := by decide +kernel
theorem dX7_since_8 : decode cX7_since 8 = .ok (.iload_n 2, 1) := by decide +kernel
theorem dX7_since_9 : decode cX7_since 9 = .ok (.invokestatic 97, 3) := by decide +kernel
theorem dX7_since_12 : decode cX7_since 12 = .ok (.ifCond .eq 11, 3) := by decide +kernel
theorem dX7_since_15 : decode cX7_since 15 = .ok (.aload_n 0, 1) := by decide +kernel
theorem dX7_since_16 : decode cX7_since 16 = .ok (.iload_n 3, 1) := by decide +kernel
theorem dX7_since_17 : decode cX7_since 17 = .ok (.invokevirtual 87, 3) := by decide +kernel
theorem dX7_since_20 : decode cX7_since 20 = .ok (.ifCond .ne 5, 3) := by decide +kernel
theorem dX7_since_23 : decode cX7_since 23 = .ok (.iconst (-1), 1) := by decide +kernel
theorem dX7_since_24 : decode cX7_since 24 = .ok (.ireturn, 1) := by decide +kernel
theorem dX7_since_25 : decode cX7_since 25 = .ok (.aload_n 0, 1) := by decide +kernel
theorem dX7_since_26 : decode cX7_since 26 = .ok (.iload_n 1, 1) := by decide +kernel
theorem dX7_since_27 : decode cX7_since 27 = .ok (.iload_n 2, 1) := by decide +kernel
theorem dX7_since_28 : decode cX7_since 28 = .ok (.iload_n 3, 1) := by decide +kernel
theorem dX7_since_29 : decode cX7_since 29 = .ok (.invokevirtual 93, 3) := by decide +kernel
theorem dX7_since_32 : decode cX7_since 32 = .ok (.istore 4, 2) := by decide +kernel
theorem dX7_since_34 : decode cX7_since 34 = .ok (.iload 4, 2) := by decide +kernel
theorem dX7_since_36 : decode cX7_since 36 = .ok (.ifCond .ge 8, 3) := by decide +kernel
theorem dX7_since_39 : decode cX7_since 39 = .ok (.bipush (-3), 2) := by decide +kernel
theorem dX7_since_41 : decode cX7_since 41 = .ok (.goto 14, 3) := by decide +kernel
theorem dX7_since_44 : decode cX7_since 44 = .ok (.aload_n 0, 1) := by decide +kernel
theorem dX7_since_45 : decode cX7_since 45 = .ok (.getfield 16, 3) := by decide +kernel
theorem dX7_since_48 : decode cX7_since 48 = .ok (.iconst 5, 1) := by decide +kernel
theorem dX7_since_49 : decode cX7_since 49 = .ok (.iload 4, 2) := by decide +kernel
theorem dX7_since_51 : decode cX7_since 51 = .ok (.imul, 1) := by decide +kernel
theorem dX7_since_52 : decode cX7_since 52 = .ok (.iconst 1, 1) := by decide +kernel
theorem dX7_since_53 : decode cX7_since 53 = .ok (.iadd, 1) := by decide +kernel
theorem dX7_since_54 : decode cX7_since 54 = .ok (.iaload, 1) := by decide +kernel
theorem dX7_since_55 : decode cX7_since 55 = .ok (.ireturn, 1) := by decide +kernel
theorem dX7_follows_0 : decode cX7_follows 0 = .ok (.iconst (-1), 1) := by decide +kernel
theorem dX7_follows_1 : decode cX7_follows 1 = .ok (.istore 4, 2) := by decide +kernel
theorem dX7_follows_3 : decode cX7_follows 3 = .ok (.iconst 0, 1) := by decide +kernel
theorem dX7_follows_4 : decode cX7_follows 4 = .ok (.istore 5, 2) := by decide +kernel
theorem dX7_follows_6 : decode cX7_follows 6 = .ok (.iload 5, 2) := by decide +kernel
theorem dX7_follows_8 : decode cX7_follows 8 = .ok (.aload_n 0, 1) := by decide +kernel
theorem dX7_follows_9 : decode cX7_follows 9 = .ok (.getfield 7, 3) := by decide +kernel
theorem dX7_follows_12 : decode cX7_follows 12 = .ok (.iconst 2, 1) := by decide +kernel
theorem dX7_follows_13 : decode cX7_follows 13 = .ok (.iaload, 1) := by decide +kernel
theorem dX7_follows_14 : decode cX7_follows 14 = .ok (.if_icmp .ge 153, 3) := by decide +kernel
theorem dX7_follows_17 : decode cX7_follows 17 = .ok (.aload_n 0, 1) := by decide +kernel
theorem dX7_follows_18 : decode cX7_follows 18 = .ok (.getfield 16, 3) := by decide +kernel
theorem dX7_follows_21 : decode cX7_follows 21 = .ok (.iconst 5, 1) := by decide +kernel
theorem dX7_follows_22 : decode cX7_follows 22 = .ok (.iload 5, 2) := by decide +kernel
theorem dX7_follows_24 : decode cX7_follows 24 = .ok (.imul, 1) := by decide +kernel
theorem dX7_follows_25 : decode cX7_follows 25 = .ok (.iaload, 1) := by decide +kernel
theorem dX7_follows_26 : decode cX7_follows 26 = .ok (.iload_n 1, 1) := by decide +kernel
theorem dX7_follows_27 : decode cX7_follows 27 = .ok (.if_icmp .ne 22, 3) := by decide +kernel
theorem dX7_follows_30 : decode cX7_follows 30 = .ok (.aload_n 0, 1) := by decide +kernel
theorem dX7_follows_31 : decode cX7_follows 31 = .ok (.getfield 16, 3) := by decide +kernel
theorem dX7_follows_34 : decode cX7_follows 34 = .ok (.iconst 5, 1) := by decide +kernel
theorem dX7_follows_35 : decode cX7_follows 35 = .ok (.iload 5, 2) := by decide +kernel
theorem dX7_follows_37 : decode cX7_follows 37 = .ok (.imul, 1) := by decide +kernel
theorem dX7_follows_38 : decode cX7_follows 38 = .ok (.iconst 4, 1) := by decide +kernel
theorem dX7_follows_39 : decode cX7_follows 39 = .ok (.iadd, 1) := by decide +kernel
theorem dX7_follows_40 : decode cX7_follows 40 = .ok (.iaload, 1) := by decide +kernel
theorem dX7_follows_41 : decode cX7_follows 41 = .ok (.iload_n 3, 1) := by decide +kernel
theorem dX7_follows_42 : decode cX7_follows 42 = .ok (.if_icmp .gt 7, 3) := by decide +kernel
theorem dX7_follows_45 : decode cX7_follows 45 = .ok (.iconst 1, 1) := by decide +kernel
theorem dX7_follows_46 : decode cX7_follows 46 = .ok (.goto 4, 3) := by decide +kernel
theorem dX7_follows_49 : decode cX7_follows 49 = .ok (.iconst 0, 1) := by decide +kernel
theorem dX7_follows_50 : decode cX7_follows 50 = .ok (.istore 6, 2) := by decide +kernel
theorem dX7_follows_52 : decode cX7_follows 52 = .ok (.iload 6, 2) := by decide +kernel
theorem dX7_follows_54 : decode cX7_follows 54 = .ok (.ifCond .eq 65, 3) := by decide +kernel
theorem dX7_follows_57 : decode cX7_follows 57 = .ok (.iload_n 2, 1) := by decide +kernel
theorem dX7_follows_58 : decode cX7_follows 58 = .ok (.ifCond .lt 57, 3) := by decide +kernel
theorem dX7_follows_61 : decode cX7_follows 61 = .ok (.aload_n 0, 1) := by decide +kernel
theorem dX7_follows_62 : decode cX7_follows 62 = .ok (.getfield 16, 3) := by decide +kernel
theorem dX7_follows_65 : decode cX7_follows 65 = .ok (.iconst 5, 1) := by decide +kernel
theorem dX7_follows_66 : decode cX7_follows 66 = .ok (.iload 5, 2) := by decide +kernel
theorem dX7_follows_68 : decode cX7_follows 68 = .ok (.imul, 1) := by decide +kernel
theorem dX7_follows_69 : decode cX7_follows 69 = .ok (.iconst 1, 1) := by decide +kernel
theorem dX7_follows_70 : decode cX7_follows 70 = .ok (.iadd, 1) := by decide +kernel
theorem dX7_follows_71 : decode cX7_follows 71 = .ok (.iaload, 1) := by decide +kernel
theorem dX7_follows_72 : decode cX7_follows 72 = .ok (.aload_n 0, 1) := by decide +kernel
theorem dX7_follows_73 : decode cX7_follows 73 = .ok (.getfield 16, 3) := by decide +kernel
theorem dX7_follows_76 : decode cX7_follows 76 = .ok (.iconst 5, 1) := by decide +kernel
theorem dX7_follows_77 : decode cX7_follows 77 = .ok (.iload_n 2, 1) := by decide +kernel
theorem dX7_follows_78 : decode cX7_follows 78 = .ok (.imul, 1) := by decide +kernel
theorem dX7_follows_79 : decode cX7_follows 79 = .ok (.iconst 1, 1) := by decide +kernel
theorem dX7_follows_80 : decode cX7_follows 80 = .ok (.iadd, 1) := by decide +kernel
theorem dX7_follows_81 : decode cX7_follows 81 = .ok (.iaload, 1) := by decide +kernel
theorem dX7_follows_82 : decode cX7_follows 82 = .ok (.if_icmp .gt 33, 3) := by decide +kernel
theorem dX7_follows_85 : decode cX7_follows 85 = .ok (.aload_n 0, 1) := by decide +kernel
theorem dX7_follows_86 : decode cX7_follows 86 = .ok (.getfield 16, 3) := by decide +kernel
theorem dX7_follows_89 : decode cX7_follows 89 = .ok (.iconst 5, 1) := by decide +kernel
theorem dX7_follows_90 : decode cX7_follows 90 = .ok (.iload 5, 2) := by decide +kernel
theorem dX7_follows_92 : decode cX7_follows 92 = .ok (.imul, 1) := by decide +kernel
theorem dX7_follows_93 : decode cX7_follows 93 = .ok (.iconst 1, 1) := by decide +kernel
theorem dX7_follows_94 : decode cX7_follows 94 = .ok (.iadd, 1) := by decide +kernel
theorem dX7_follows_95 : decode cX7_follows 95 = .ok (.iaload, 1) := by decide +kernel
theorem dX7_follows_96 : decode cX7_follows 96 = .ok (.aload_n 0, 1) := by decide +kernel
theorem dX7_follows_97 : decode cX7_follows 97 = .ok (.getfield 16, 3) := by decide +kernel
theorem dX7_follows_100 : decode cX7_follows 100 = .ok (.iconst 5, 1) := by decide +kernel
theorem dX7_follows_101 : decode cX7_follows 101 = .ok (.iload_n 2, 1) := by decide +kernel
theorem dX7_follows_102 : decode cX7_follows 102 = .ok (.imul, 1) := by decide +kernel
theorem dX7_follows_103 : decode cX7_follows 103 = .ok (.iconst 1, 1) := by decide +kernel
theorem dX7_follows_104 : decode cX7_follows 104 = .ok (.iadd, 1) := by decide +kernel
theorem dX7_follows_105 : decode cX7_follows 105 = .ok (.iaload, 1) := by decide +kernel
theorem dX7_follows_106 : decode cX7_follows 106 = .ok (.if_icmp .ne 13, 3) := by decide +kernel
theorem dX7_follows_109 : decode cX7_follows 109 = .ok (.iload 5, 2) := by decide +kernel
theorem dX7_follows_111 : decode cX7_follows 111 = .ok (.iload_n 2, 1) := by decide +kernel
theorem dX7_follows_112 : decode cX7_follows 112 = .ok (.if_icmp .le 7, 3) := by decide +kernel
theorem dX7_follows_115 : decode cX7_follows 115 = .ok (.iconst 1, 1) := by decide +kernel
theorem dX7_follows_116 : decode cX7_follows 116 = .ok (.goto 4, 3) := by decide +kernel
theorem dX7_follows_119 : decode cX7_follows 119 = .ok (.iconst 0, 1) := by decide +kernel
theorem dX7_follows_120 : decode cX7_follows 120 = .ok (.istore 6, 2) := by decide +kernel
theorem dX7_follows_122 : decode cX7_follows 122 = .ok (.iload 6, 2) := by decide +kernel
theorem dX7_follows_124 : decode cX7_follows 124 = .ok (.ifCond .eq 37, 3) := by decide +kernel
theorem dX7_follows_127 : decode cX7_follows 127 = .ok (.iload 4, 2) := by decide +kernel
theorem dX7_follows_129 : decode cX7_follows 129 = .ok (.ifCond .lt 28, 3) := by decide +kernel
theorem dX7_follows_132 : decode cX7_follows 132 = .ok (.aload_n 0, 1) := by decide +kernel
theorem dX7_follows_133 : decode cX7_follows 133 = .ok (.getfield 16, 3) := by decide +kernel
theorem dX7_follows_136 : decode cX7_follows 136 = .ok (.iconst 5, 1) := by decide +kernel
theorem dX7_follows_137 : decode cX7_follows 137 = .ok (.iload 5, 2) := by decide +kernel
theorem dX7_follows_139 : decode cX7_follows 139 = .ok (.imul, 1) := by decide +kernel
theorem dX7_follows_140 : decode cX7_follows 140 = .ok (.iconst 1, 1) := by decide +kernel
theorem dX7_follows_141 : decode cX7_follows 141 = .ok (.iadd, 1) := by decide +kernel
theorem dX7_follows_142 : decode cX7_follows 142 = .ok (.iaload, 1) := by decide +kernel
theorem dX7_follows_143 : decode cX7_follows 143 = .ok (.aload_n 0, 1) := by decide +kernel
theorem dX7_follows_144 : decode cX7_follows 144 = .ok (.getfield 16, 3) := by decide +kernel
theorem dX7_follows_147 : decode cX7_follows 147 = .ok (.iconst 5, 1) := by decide +kernel
theorem dX7_follows_148 : decode cX7_follows 148 = .ok (.iload 4, 2) := by decide +kernel
theorem dX7_follows_150 : decode cX7_follows 150 = .ok (.imul, 1) := by decide +kernel
theorem dX7_follows_151 : decode cX7_follows 151 = .ok (.iconst 1, 1) := by decide +kernel
theorem dX7_follows_152 : decode cX7_follows 152 = .ok (.iadd, 1) := by decide +kernel
theorem dX7_follows_153 : decode cX7_follows 153 = .ok (.iaload, 1) := by decide +kernel
theorem dX7_follows_154 : decode cX7_follows 154 = .ok (.if_icmp .ge 7, 3) := by decide +kernel
theorem dX7_follows_157 : decode cX7_follows 157 = .ok (.iload 5, 2) := by decide +kernel
theorem dX7_follows_159 : decode cX7_follows 159 = .ok (.istore 4, 2) := by decide +kernel
theorem dX7_follows_161 : decode cX7_follows 161 = .ok (.iinc 5 1, 3) := by decide +kernel
theorem dX7_follows_164 : decode cX7_follows 164 = .ok (.goto (-158), 3) := by decide +kernel
theorem dX7_follows_167 : decode cX7_follows 167 = .ok (.iload 4, 2) := by decide +kernel
theorem dX7_follows_169 : decode cX7_follows 169 = .ok (.ireturn, 1) := by decide +kernel
set_option maxRecDepth 20000 in
theorem ggX7_quarrels_X7_isBox : GoodIn wsX7_quarrels wsX7_isBox := goodIn_r _ [6, 7, 8, 9, 5, 10, 19, 20, 21, 22, 23, 24, 25, 26, 27, 28, 29, 30, 31, 32, 33, 34, 35, 36, 37, 38, 39, 40, 41, 42, 43, 44, 45, 46] (by decide +kernel) (by decide +kernel)
set_option maxRecDepth 20000 in
theorem gX7_quarrels_X7_isBox : GoodIn wsX7_quarrels (wsV RX7 84 RX7 yX7_isBox wsX7_isBox) := goodIn_app (goodIn_of _ (by decide +kernel)) ggX7_quarrels_X7_isBox
set_option maxRecDepth 20000 in
theorem ggX7_quarrels_X7_isPast : GoodIn wsX7_quarrels wsX7_isPast := goodIn_r _ [14, 7, 8, 9, 5, 10, 19, 20, 21, 22, 23, 24, 25, 26, 27, 28, 29, 30, 31, 32, 33, 34, 35, 36, 37, 38, 39, 40, 41, 42, 43, 44, 45, 46] (by decide +kernel) (by decide +kernel)
set_option maxRecDepth 20000 in
theorem gX7_quarrels_X7_isPast : GoodIn wsX7_quarrels (wsV RX7 87 RX7 yX7_isPast wsX7_isPast) := goodIn_app (goodIn_of _ (by decide +kernel)) ggX7_quarrels_X7_isPast
set_option maxRecDepth 20000 in
theorem ggX7_quarrels_X7_follows : GoodIn wsX7_quarrels wsX7_follows := goodIn_r _ [18, 7, 1, 19, 20, 21, 22, 23, 24, 25, 26, 27, 28, 29, 30, 31, 32, 33, 34, 35, 36, 37, 38, 39, 40, 41, 42, 43, 44, 45, 46] (by decide +kernel) (by decide +kernel)
set_option maxRecDepth 20000 in
theorem gX7_quarrels_X7_follows : GoodIn wsX7_quarrels (wsV RX7 103 RX7 yX7_follows wsX7_follows) := goodIn_app (goodIn_of _ (by decide +kernel)) ggX7_quarrels_X7_follows
theorem dX7_quarrels_0 : decode cX7_quarrels 0 = .ok (.aload_n 0, 1) := by decide +kernel
theorem dX7_quarrels_1 : decode cX7_quarrels 1 = .ok (.iload_n 1, 1) := by decide +kernel
theorem dX7_quarrels_2 : decode cX7_quarrels 2 = .ok (.invokevirtual 84, 3) := by decide +kernel
theorem dX7_quarrels_5 : decode cX7_quarrels 5 = .ok (.ifCond .eq 11, 3) := by decide +kernel
theorem dX7_quarrels_8 : decode cX7_quarrels 8 = .ok (.aload_n 0, 1) := by decide +kernel
theorem dX7_quarrels_9 : decode cX7_quarrels 9 = .ok (.iload_n 2, 1) := by decide +kernel
theorem dX7_quarrels_10 : decode cX7_quarrels 10 = .ok (.invokevirtual 87, 3) := by decide +kernel
theorem dX7_quarrels_13 : decode cX7_quarrels 13 = .ok (.ifCond .ne 5, 3) := by decide +kernel
theorem dX7_quarrels_16 : decode cX7_quarrels 16 = .ok (.iconst (-1), 1) := by decide +kernel
theorem dX7_quarrels_17 : decode cX7_quarrels 17 = .ok (.ireturn, 1) := by decide +kernel
theorem dX7_quarrels_18 : decode cX7_quarrels 18 = .ok (.iconst 0, 1) := by decide +kernel
theorem dX7_quarrels_19 : decode cX7_quarrels 19 = .ok (.istore_n 3, 1) := by decide +kernel
theorem dX7_quarrels_20 : decode cX7_quarrels 20 = .ok (.aload_n 0, 1) := by decide +kernel
theorem dX7_quarrels_21 : decode cX7_quarrels 21 = .ok (.iload_n 1, 1) := by decide +kernel
theorem dX7_quarrels_22 : decode cX7_quarrels 22 = .ok (.iconst (-1), 1) := by decide +kernel
theorem dX7_quarrels_23 : decode cX7_quarrels 23 = .ok (.iload_n 2, 1) := by decide +kernel
theorem dX7_quarrels_24 : decode cX7_quarrels 24 = .ok (.invokevirtual 103, 3) := by decide +kernel
theorem dX7_quarrels_27 : decode cX7_quarrels 27 = .ok (.istore 4, 2) := by decide +kernel
theorem dX7_quarrels_29 : decode cX7_quarrels 29 = .ok (.iload 4, 2) := by decide +kernel
theorem dX7_quarrels_31 : decode cX7_quarrels 31 = .ok (.ifCond .lt 126, 3) := by decide +kernel
theorem dX7_quarrels_34 : decode cX7_quarrels 34 = .ok (.aload_n 0, 1) := by decide +kernel
theorem dX7_quarrels_35 : decode cX7_quarrels 35 = .ok (.iload_n 1, 1) := by decide +kernel
theorem dX7_quarrels_36 : decode cX7_quarrels 36 = .ok (.iload 4, 2) := by decide +kernel
theorem dX7_quarrels_38 : decode cX7_quarrels 38 = .ok (.iload_n 2, 1) := by decide +kernel
theorem dX7_quarrels_39 : decode cX7_quarrels 39 = .ok (.invokevirtual 103, 3) := by decide +kernel
theorem dX7_quarrels_42 : decode cX7_quarrels 42 = .ok (.istore 5, 2) := by decide +kernel
theorem dX7_quarrels_44 : decode cX7_quarrels 44 = .ok (.iload 5, 2) := by decide +kernel
theorem dX7_quarrels_46 : decode cX7_quarrels 46 = .ok (.ifCond .lt 104, 3) := by decide +kernel
theorem dX7_quarrels_49 : decode cX7_quarrels 49 = .ok (.aload_n 0, 1) := by decide +kernel
theorem dX7_quarrels_50 : decode cX7_quarrels 50 = .ok (.getfield 16, 3) := by decide +kernel
theorem dX7_quarrels_53 : decode cX7_quarrels 53 = .ok (.iconst 5, 1) := by decide +kernel
theorem dX7_quarrels_54 : decode cX7_quarrels 54 = .ok (.iload 4, 2) := by decide +kernel
theorem dX7_quarrels_56 : decode cX7_quarrels 56 = .ok (.imul, 1) := by decide +kernel
theorem dX7_quarrels_57 : decode cX7_quarrels 57 = .ok (.iconst 2, 1) := by decide +kernel
theorem dX7_quarrels_58 : decode cX7_quarrels 58 = .ok (.iadd, 1) := by decide +kernel
theorem dX7_quarrels_59 : decode cX7_quarrels 59 = .ok (.iaload, 1) := by decide +kernel
theorem dX7_quarrels_60 : decode cX7_quarrels 60 = .ok (.aload_n 0, 1) := by decide +kernel
theorem dX7_quarrels_61 : decode cX7_quarrels 61 = .ok (.getfield 16, 3) := by decide +kernel
theorem dX7_quarrels_64 : decode cX7_quarrels 64 = .ok (.iconst 5, 1) := by decide +kernel
theorem dX7_quarrels_65 : decode cX7_quarrels 65 = .ok (.iload 5, 2) := by decide +kernel
theorem dX7_quarrels_67 : decode cX7_quarrels 67 = .ok (.imul, 1) := by decide +kernel
theorem dX7_quarrels_68 : decode cX7_quarrels 68 = .ok (.iconst 2, 1) := by decide +kernel
theorem dX7_quarrels_69 : decode cX7_quarrels 69 = .ok (.iadd, 1) := by decide +kernel
theorem dX7_quarrels_70 : decode cX7_quarrels 70 = .ok (.iaload, 1) := by decide +kernel
theorem dX7_quarrels_71 : decode cX7_quarrels 71 = .ok (.if_icmp .eq 7, 3) := by decide +kernel
theorem dX7_quarrels_74 : decode cX7_quarrels 74 = .ok (.iconst 1, 1) := by decide +kernel
theorem dX7_quarrels_75 : decode cX7_quarrels 75 = .ok (.goto 4, 3) := by decide +kernel
theorem dX7_quarrels_78 : decode cX7_quarrels 78 = .ok (.iconst 0, 1) := by decide +kernel
theorem dX7_quarrels_79 : decode cX7_quarrels 79 = .ok (.istore 6, 2) := by decide +kernel
theorem dX7_quarrels_81 : decode cX7_quarrels 81 = .ok (.aload_n 0, 1) := by decide +kernel
theorem dX7_quarrels_82 : decode cX7_quarrels 82 = .ok (.getfield 16, 3) := by decide +kernel
theorem dX7_quarrels_85 : decode cX7_quarrels 85 = .ok (.iconst 5, 1) := by decide +kernel
theorem dX7_quarrels_86 : decode cX7_quarrels 86 = .ok (.iload 4, 2) := by decide +kernel
theorem dX7_quarrels_88 : decode cX7_quarrels 88 = .ok (.imul, 1) := by decide +kernel
theorem dX7_quarrels_89 : decode cX7_quarrels 89 = .ok (.iconst 3, 1) := by decide +kernel
theorem dX7_quarrels_90 : decode cX7_quarrels 90 = .ok (.iadd, 1) := by decide +kernel
theorem dX7_quarrels_91 : decode cX7_quarrels 91 = .ok (.iaload, 1) := by decide +kernel
theorem dX7_quarrels_92 : decode cX7_quarrels 92 = .ok (.iconst 1, 1) := by decide +kernel
theorem dX7_quarrels_93 : decode cX7_quarrels 93 = .ok (.if_icmp .ne 22, 3) := by decide +kernel
theorem dX7_quarrels_96 : decode cX7_quarrels 96 = .ok (.aload_n 0, 1) := by decide +kernel
theorem dX7_quarrels_97 : decode cX7_quarrels 97 = .ok (.getfield 16, 3) := by decide +kernel
theorem dX7_quarrels_100 : decode cX7_quarrels 100 = .ok (.iconst 5, 1) := by decide +kernel
theorem dX7_quarrels_101 : decode cX7_quarrels 101 = .ok (.iload 5, 2) := by decide +kernel
theorem dX7_quarrels_103 : decode cX7_quarrels 103 = .ok (.imul, 1) := by decide +kernel
theorem dX7_quarrels_104 : decode cX7_quarrels 104 = .ok (.iconst 3, 1) := by decide +kernel
theorem dX7_quarrels_105 : decode cX7_quarrels 105 = .ok (.iadd, 1) := by decide +kernel
theorem dX7_quarrels_106 : decode cX7_quarrels 106 = .ok (.iaload, 1) := by decide +kernel
theorem dX7_quarrels_107 : decode cX7_quarrels 107 = .ok (.iconst 1, 1) := by decide +kernel
theorem dX7_quarrels_108 : decode cX7_quarrels 108 = .ok (.if_icmp .ne 7, 3) := by decide +kernel
theorem dX7_quarrels_111 : decode cX7_quarrels 111 = .ok (.iconst 1, 1) := by decide +kernel
theorem dX7_quarrels_112 : decode cX7_quarrels 112 = .ok (.goto 4, 3) := by decide +kernel
theorem dX7_quarrels_115 : decode cX7_quarrels 115 = .ok (.iconst 0, 1) := by decide +kernel
theorem dX7_quarrels_116 : decode cX7_quarrels 116 = .ok (.istore 7, 2) := by decide +kernel
theorem dX7_quarrels_118 : decode cX7_quarrels 118 = .ok (.iload_n 3, 1) := by decide +kernel
theorem dX7_quarrels_119 : decode cX7_quarrels 119 = .ok (.iload 7, 2) := by decide +kernel
theorem dX7_quarrels_121 : decode cX7_quarrels 121 = .ok (.ifCond .ne 22, 3) := by decide +kernel
theorem dX7_quarrels_124 : decode cX7_quarrels 124 = .ok (.aload_n 0, 1) := by decide +kernel
theorem dX7_quarrels_125 : decode cX7_quarrels 125 = .ok (.getfield 16, 3) := by decide +kernel
theorem dX7_quarrels_128 : decode cX7_quarrels 128 = .ok (.iconst 5, 1) := by decide +kernel
theorem dX7_quarrels_129 : decode cX7_quarrels 129 = .ok (.iload 4, 2) := by decide +kernel
theorem dX7_quarrels_131 : decode cX7_quarrels 131 = .ok (.imul, 1) := by decide +kernel
theorem dX7_quarrels_132 : decode cX7_quarrels 132 = .ok (.iconst 3, 1) := by decide +kernel
theorem dX7_quarrels_133 : decode cX7_quarrels 133 = .ok (.iadd, 1) := by decide +kernel
theorem dX7_quarrels_134 : decode cX7_quarrels 134 = .ok (.iaload, 1) := by decide +kernel
theorem dX7_quarrels_135 : decode cX7_quarrels 135 = .ok (.ifCond .ne 12, 3) := by decide +kernel
theorem dX7_quarrels_138 : decode cX7_quarrels 138 = .ok (.iload 6, 2) := by decide +kernel
theorem dX7_quarrels_140 : decode cX7_quarrels 140 = .ok (.ifCond .eq 7, 3) := by decide +kernel
theorem dX7_quarrels_143 : decode cX7_quarrels 143 = .ok (.iconst 1, 1) := by decide +kernel
theorem dX7_quarrels_144 : decode cX7_quarrels 144 = .ok (.goto 4, 3) := by decide +kernel
theorem dX7_quarrels_147 : decode cX7_quarrels 147 = .ok (.iconst 0, 1) := by decide +kernel
theorem dX7_quarrels_148 : decode cX7_quarrels 148 = .ok (.iadd, 1) := by decide +kernel
theorem dX7_quarrels_149 : decode cX7_quarrels 149 = .ok (.istore_n 3, 1) := by decide +kernel
theorem dX7_quarrels_150 : decode cX7_quarrels 150 = .ok (.iload 5, 2) := by decide +kernel
theorem dX7_quarrels_152 : decode cX7_quarrels 152 = .ok (.istore 4, 2) := by decide +kernel
theorem dX7_quarrels_154 : decode cX7_quarrels 154 = .ok (.goto (-125), 3) := by decide +kernel
theorem dX7_quarrels_157 : decode cX7_quarrels 157 = .ok (.iload_n 3, 1) := by decide +kernel
theorem dX7_quarrels_158 : decode cX7_quarrels 158 = .ok (.ireturn, 1) := by decide +kernel
set_option maxRecDepth 20000 in
theorem ggX7_isLate_X7_latest : GoodIn wsX7_isLate wsX7_latest := goodIn_r _ [7, 1, 2, 8, 9, 10, 11, 12, 13, 14, 15, 16, 17, 18, 19, 20, 21, 22, 23, 24, 25, 26, 27, 28, 29, 30, 31, 32, 33, 34, 35] (by decide +kernel) (by decide +kernel)
set_option maxRecDepth 20000 in
theorem gX7_isLate_X7_latest : GoodIn wsX7_isLate (wsV RX7 93 RX7 yX7_latest wsX7_latest) := goodIn_app (goodIn_of _ (by decide +kernel)) ggX7_isLate_X7_latest
theorem dX7_isLate_0 : decode cX7_isLate 0 = .ok (.aload_n 0, 1) := by decide +kernel
theorem dX7_isLate_1 : decode cX7_isLate 1 = .ok (.getfield 7, 3) := by decide +kernel
theorem dX7_isLate_4 : decode cX7_isLate 4 = .ok (.iconst 0, 1) := by decide +kernel
theorem dX7_isLate_5 : decode cX7_isLate 5 = .ok (.iaload, 1) := by decide +kernel
theorem dX7_isLate_6 : decode cX7_isLate 6 = .ok (.istore_n 2, 1) := by decide +kernel
theorem dX7_isLate_7 : decode cX7_isLate 7 = .ok (.aload_n 0, 1) := by decide +kernel
theorem dX7_isLate_8 : decode cX7_isLate 8 = .ok (.iload_n 1, 1) := by decide +kernel
theorem dX7_isLate_9 : decode cX7_isLate 9 = .ok (.iload_n 2, 1) := by decide +kernel
theorem dX7_isLate_10 : decode cX7_isLate 10 = .ok (.iload_n 2, 1) := by decide +kernel
theorem dX7_isLate_11 : decode cX7_isLate 11 = .ok (.invokevirtual 93, 3) := by decide +kernel
theorem dX7_isLate_14 : decode cX7_isLate 14 = .ok (.istore_n 3, 1) := by decide +kernel
theorem dX7_isLate_15 : decode cX7_isLate 15 = .ok (.iload_n 3, 1) := by decide +kernel
theorem dX7_isLate_16 : decode cX7_isLate 16 = .ok (.ifCond .lt 38, 3) := by decide +kernel
theorem dX7_isLate_19 : decode cX7_isLate 19 = .ok (.aload_n 0, 1) := by decide +kernel
theorem dX7_isLate_20 : decode cX7_isLate 20 = .ok (.getfield 16, 3) := by decide +kernel
theorem dX7_isLate_23 : decode cX7_isLate 23 = .ok (.iconst 5, 1) := by decide +kernel
theorem dX7_isLate_24 : decode cX7_isLate 24 = .ok (.iload_n 3, 1) := by decide +kernel
theorem dX7_isLate_25 : decode cX7_isLate 25 = .ok (.imul, 1) := by decide +kernel
theorem dX7_isLate_26 : decode cX7_isLate 26 = .ok (.iconst 3, 1) := by decide +kernel
theorem dX7_isLate_27 : decode cX7_isLate 27 = .ok (.iadd, 1) := by decide +kernel
theorem dX7_isLate_28 : decode cX7_isLate 28 = .ok (.iaload, 1) := by decide +kernel
theorem dX7_isLate_29 : decode cX7_isLate 29 = .ok (.iconst 1, 1) := by decide +kernel
theorem dX7_isLate_30 : decode cX7_isLate 30 = .ok (.if_icmp .ne 24, 3) := by decide +kernel
theorem dX7_isLate_33 : decode cX7_isLate 33 = .ok (.iload_n 2, 1) := by decide +kernel
theorem dX7_isLate_34 : decode cX7_isLate 34 = .ok (.aload_n 0, 1) := by decide +kernel
theorem dX7_isLate_35 : decode cX7_isLate 35 = .ok (.getfield 16, 3) := by decide +kernel
theorem dX7_isLate_38 : decode cX7_isLate 38 = .ok (.iconst 5, 1) := by decide +kernel
theorem dX7_isLate_39 : decode cX7_isLate 39 = .ok (.iload_n 3, 1) := by decide +kernel
theorem dX7_isLate_40 : decode cX7_isLate 40 = .ok (.imul, 1) := by decide +kernel
theorem dX7_isLate_41 : decode cX7_isLate 41 = .ok (.iconst 1, 1) := by decide +kernel
theorem dX7_isLate_42 : decode cX7_isLate 42 = .ok (.iadd, 1) := by decide +kernel
theorem dX7_isLate_43 : decode cX7_isLate 43 = .ok (.iaload, 1) := by decide +kernel
theorem dX7_isLate_44 : decode cX7_isLate 44 = .ok (.isub, 1) := by decide +kernel
theorem dX7_isLate_45 : decode cX7_isLate 45 = .ok (.bipush 20, 2) := by decide +kernel
theorem dX7_isLate_47 : decode cX7_isLate 47 = .ok (.if_icmp .le 7, 3) := by decide +kernel
theorem dX7_isLate_50 : decode cX7_isLate 50 = .ok (.iconst 1, 1) := by decide +kernel
theorem dX7_isLate_51 : decode cX7_isLate 51 = .ok (.goto 4, 3) := by decide +kernel
theorem dX7_isLate_54 : decode cX7_isLate 54 = .ok (.iconst 0, 1) := by decide +kernel
theorem dX7_isLate_55 : decode cX7_isLate 55 = .ok (.ireturn, 1) := by decide +kernel
set_option maxRecDepth 20000 in
theorem ggX7_count_X7_isPlace : GoodIn wsX7_count wsX7_isPlace := goodIn_r _ [5, 6, 7, 4, 8] (by decide +kernel) (by decide +kernel)
set_option maxRecDepth 20000 in
theorem gX7_count_X7_isPlace : GoodIn wsX7_count (va_wsS RX7 90 yX7_isPlace wsX7_isPlace) := goodIn_app (goodIn_of _ (by decide +kernel)) ggX7_count_X7_isPlace
set_option maxRecDepth 20000 in
theorem ggX7_count_X7_get : GoodIn wsX7_count wsX7_get := goodIn_r _ [12, 13, 27, 28, 29, 30, 31, 32, 33, 34, 35, 36, 37, 38, 39, 40, 41, 42, 43, 44, 45, 46, 47, 48, 49, 50, 51, 52, 53, 54] (by decide +kernel) (by decide +kernel)
set_option maxRecDepth 20000 in
theorem gX7_count_X7_get : GoodIn wsX7_count (wsV RX7 68 RX7 yX7_get wsX7_get) := goodIn_app (goodIn_of _ (by decide +kernel)) ggX7_count_X7_get
set_option maxRecDepth 20000 in
theorem ggX7_count_X7_whereIs : GoodIn wsX7_count wsX7_whereIs := goodIn_r _ [17, 18, 19, 20, 21, 4, 22, 1, 27, 28, 29, 30, 31, 32, 33, 34, 35, 36, 37, 38, 39, 40, 41, 42, 43, 44, 45, 46, 47, 48, 49, 50, 51, 52, 53, 54] (by decide +kernel) (by decide +kernel)
set_option maxRecDepth 20000 in
theorem gX7_count_X7_whereIs : GoodIn wsX7_count (wsV RX7 100 RX7 yX7_whereIs wsX7_whereIs) := goodIn_app (goodIn_of _ (by decide +kernel)) ggX7_count_X7_whereIs
set_option maxRecDepth 20000 in
theorem ggX7_count_X7_isLate : GoodIn wsX7_count wsX7_isLate := goodIn_r _ [26, 1, 18, 19, 20, 21, 4, 22, 27, 28, 29, 30, 31, 32, 33, 34, 35, 36, 37, 38, 39, 40, 41, 42, 43, 44, 45, 46, 47, 48, 49, 50, 51, 52, 53, 54] (by decide +kernel) (by decide +kernel)
set_option maxRecDepth 20000 in
theorem gX7_count_X7_isLate : GoodIn wsX7_count (wsV RX7 106 RX7 yX7_isLate wsX7_isLate) := goodIn_app (goodIn_of _ (by decide +kernel)) ggX7_count_X7_isLate
set_option maxRecDepth 20000 in
theorem ggX7_count_X7_in : GoodIn wsX7_count wsX7_in := goodIn_r _ [8] (by decide +kernel) (by decide +kernel)
set_option maxRecDepth 20000 in
theorem gX7_count_X7_in : GoodIn wsX7_count (va_wsS RX7 64 yX7_in wsX7_in) := goodIn_app (goodIn_of _ (by decide +kernel)) ggX7_count_X7_in
theorem dX7_count_0 : decode cX7_count 0 = .ok (.iload_n 1, 1) := by decide +kernel
theorem dX7_count_1 : decode cX7_count 1 = .ok (.invokestatic 90, 3) := by decide +kernel
theorem dX7_count_4 : decode cX7_count 4 = .ok (.ifCond .ne 23, 3) := by decide +kernel
theorem dX7_count_7 : decode cX7_count 7 = .ok (.iload_n 1, 1) := by decide +kernel
theorem dX7_count_8 : decode cX7_count 8 = .ok (.bipush 10, 2) := by decide +kernel
theorem dX7_count_10 : decode cX7_count 10 = .ok (.if_icmp .eq 17, 3) := by decide +kernel
theorem dX7_count_13 : decode cX7_count 13 = .ok (.iload_n 1, 1) := by decide +kernel
theorem dX7_count_14 : decode cX7_count 14 = .ok (.bipush 20, 2) := by decide +kernel
theorem dX7_count_16 : decode cX7_count 16 = .ok (.if_icmp .eq 11, 3) := by decide +kernel
theorem dX7_count_19 : decode cX7_count 19 = .ok (.iload_n 1, 1) := by decide +kernel
theorem dX7_count_20 : decode cX7_count 20 = .ok (.bipush 30, 2) := by decide +kernel
theorem dX7_count_22 : decode cX7_count 22 = .ok (.if_icmp .eq 5, 3) := by decide +kernel
theorem dX7_count_25 : decode cX7_count 25 = .ok (.iconst (-1), 1) := by decide +kernel
theorem dX7_count_26 : decode cX7_count 26 = .ok (.ireturn, 1) := by decide +kernel
theorem dX7_count_27 : decode cX7_count 27 = .ok (.iconst 0, 1) := by decide +kernel
theorem dX7_count_28 : decode cX7_count 28 = .ok (.istore_n 2, 1) := by decide +kernel
theorem dX7_count_29 : decode cX7_count 29 = .ok (.iconst 0, 1) := by decide +kernel
theorem dX7_count_30 : decode cX7_count 30 = .ok (.istore_n 3, 1) := by decide +kernel
theorem dX7_count_31 : decode cX7_count 31 = .ok (.iload_n 3, 1) := by decide +kernel
theorem dX7_count_32 : decode cX7_count 32 = .ok (.aload_n 0, 1) := by decide +kernel
theorem dX7_count_33 : decode cX7_count 33 = .ok (.getfield 7, 3) := by decide +kernel
theorem dX7_count_36 : decode cX7_count 36 = .ok (.iconst 1, 1) := by decide +kernel
theorem dX7_count_37 : decode cX7_count 37 = .ok (.iaload, 1) := by decide +kernel
theorem dX7_count_38 : decode cX7_count 38 = .ok (.if_icmp .ge 95, 3) := by decide +kernel
theorem dX7_count_41 : decode cX7_count 41 = .ok (.aload_n 0, 1) := by decide +kernel
theorem dX7_count_42 : decode cX7_count 42 = .ok (.iload_n 3, 1) := by decide +kernel
theorem dX7_count_43 : decode cX7_count 43 = .ok (.iconst 5, 1) := by decide +kernel
theorem dX7_count_44 : decode cX7_count 44 = .ok (.invokevirtual 68, 3) := by decide +kernel
theorem dX7_count_47 : decode cX7_count 47 = .ok (.ifCond .ne 80, 3) := by decide +kernel
theorem dX7_count_50 : decode cX7_count 50 = .ok (.aload_n 0, 1) := by decide +kernel
theorem dX7_count_51 : decode cX7_count 51 = .ok (.iload_n 3, 1) := by decide +kernel
theorem dX7_count_52 : decode cX7_count 52 = .ok (.aload_n 0, 1) := by decide +kernel
theorem dX7_count_53 : decode cX7_count 53 = .ok (.getfield 7, 3) := by decide +kernel
theorem dX7_count_56 : decode cX7_count 56 = .ok (.iconst 0, 1) := by decide +kernel
theorem dX7_count_57 : decode cX7_count 57 = .ok (.iaload, 1) := by decide +kernel
theorem dX7_count_58 : decode cX7_count 58 = .ok (.aload_n 0, 1) := by decide +kernel
theorem dX7_count_59 : decode cX7_count 59 = .ok (.getfield 7, 3) := by decide +kernel
theorem dX7_count_62 : decode cX7_count 62 = .ok (.iconst 0, 1) := by decide +kernel
theorem dX7_count_63 : decode cX7_count 63 = .ok (.iaload, 1) := by decide +kernel
theorem dX7_count_64 : decode cX7_count 64 = .ok (.invokevirtual 100, 3) := by decide +kernel
theorem dX7_count_67 : decode cX7_count 67 = .ok (.istore 4, 2) := by decide +kernel
theorem dX7_count_69 : decode cX7_count 69 = .ok (.iload_n 1, 1) := by decide +kernel
theorem dX7_count_70 : decode cX7_count 70 = .ok (.bipush 30, 2) := by decide +kernel
theorem dX7_count_72 : decode cX7_count 72 = .ok (.if_icmp .ne 11, 3) := by decide +kernel
theorem dX7_count_75 : decode cX7_count 75 = .ok (.aload_n 0, 1) := by decide +kernel
theorem dX7_count_76 : decode cX7_count 76 = .ok (.iload_n 3, 1) := by decide +kernel
theorem dX7_count_77 : decode cX7_count 77 = .ok (.invokevirtual 106, 3) := by decide +kernel
theorem dX7_count_80 : decode cX7_count 80 = .ok (.goto 32, 3) := by decide +kernel
theorem dX7_count_83 : decode cX7_count 83 = .ok (.iload_n 1, 1) := by decide +kernel
theorem dX7_count_84 : decode cX7_count 84 = .ok (.bipush 10, 2) := by decide +kernel
theorem dX7_count_86 : decode cX7_count 86 = .ok (.if_icmp .ne 15, 3) := by decide +kernel
theorem dX7_count_89 : decode cX7_count 89 = .ok (.iload 4, 2) := by decide +kernel
theorem dX7_count_91 : decode cX7_count 91 = .ok (.bipush 10, 2) := by decide +kernel
theorem dX7_count_93 : decode cX7_count 93 = .ok (.bipush 19, 2) := by decide +kernel
theorem dX7_count_95 : decode cX7_count 95 = .ok (.invokestatic 64, 3) := by decide +kernel
theorem dX7_count_98 : decode cX7_count 98 = .ok (.goto 14, 3) := by decide +kernel
theorem dX7_count_101 : decode cX7_count 101 = .ok (.iload 4, 2) := by decide +kernel
theorem dX7_count_103 : decode cX7_count 103 = .ok (.iload_n 1, 1) := by decide +kernel
theorem dX7_count_104 : decode cX7_count 104 = .ok (.if_icmp .ne 7, 3) := by decide +kernel
theorem dX7_count_107 : decode cX7_count 107 = .ok (.iconst 1, 1) := by decide +kernel
theorem dX7_count_108 : decode cX7_count 108 = .ok (.goto 4, 3) := by decide +kernel
theorem dX7_count_111 : decode cX7_count 111 = .ok (.iconst 0, 1) := by decide +kernel
theorem dX7_count_112 : decode cX7_count 112 = .ok (.istore 5, 2) := by decide +kernel
theorem dX7_count_114 : decode cX7_count 114 = .ok (.iload_n 2, 1) := by decide +kernel
theorem dX7_count_115 : decode cX7_count 115 = .ok (.iload 5, 2) := by decide +kernel
theorem dX7_count_117 : decode cX7_count 117 = .ok (.ifCond .eq 7, 3) := by decide +kernel
theorem dX7_count_120 : decode cX7_count 120 = .ok (.iconst 1, 1) := by decide +kernel
theorem dX7_count_121 : decode cX7_count 121 = .ok (.goto 4, 3) := by decide +kernel
theorem dX7_count_124 : decode cX7_count 124 = .ok (.iconst 0, 1) := by decide +kernel
theorem dX7_count_125 : decode cX7_count 125 = .ok (.iadd, 1) := by decide +kernel
theorem dX7_count_126 : decode cX7_count 126 = .ok (.istore_n 2, 1) := by decide +kernel
theorem dX7_count_127 : decode cX7_count 127 = .ok (.iinc 3 1, 3) := by decide +kernel
theorem dX7_count_130 : decode cX7_count 130 = .ok (.goto (-99), 3) := by decide +kernel
theorem dX7_count_133 : decode cX7_count 133 = .ok (.iload_n 2, 1) := by decide +kernel
theorem dX7_count_134 : decode cX7_count 134 = .ok (.ireturn, 1) := by decide +kernel
set_option maxRecDepth 20000 in
theorem ggX7_week_X7_isPlace : GoodIn wsX7_week wsX7_isPlace := goodIn_r _ [5, 6, 7, 4, 8] (by decide +kernel) (by decide +kernel)
set_option maxRecDepth 20000 in
theorem gX7_week_X7_isPlace : GoodIn wsX7_week (va_wsS RX7 90 yX7_isPlace wsX7_isPlace) := goodIn_app (goodIn_of _ (by decide +kernel)) ggX7_week_X7_isPlace
set_option maxRecDepth 20000 in
theorem ggX7_week_X7_in : GoodIn wsX7_week wsX7_in := goodIn_r _ [8] (by decide +kernel) (by decide +kernel)
set_option maxRecDepth 20000 in
theorem gX7_week_X7_in : GoodIn wsX7_week (va_wsS RX7 64 yX7_in wsX7_in) := goodIn_app (goodIn_of _ (by decide +kernel)) ggX7_week_X7_in
theorem dX7_week_0 : decode cX7_week 0 = .ok (.iload_n 1, 1) := by decide +kernel
theorem dX7_week_1 : decode cX7_week 1 = .ok (.invokestatic 90, 3) := by decide +kernel
theorem dX7_week_4 : decode cX7_week 4 = .ok (.ifCond .eq 32, 3) := by decide +kernel
theorem dX7_week_7 : decode cX7_week 7 = .ok (.iload_n 2, 1) := by decide +kernel
theorem dX7_week_8 : decode cX7_week 8 = .ok (.iconst 0, 1) := by decide +kernel
theorem dX7_week_9 : decode cX7_week 9 = .ok (.iconst 4, 1) := by decide +kernel
theorem dX7_week_10 : decode cX7_week 10 = .ok (.invokestatic 64, 3) := by decide +kernel
theorem dX7_week_13 : decode cX7_week 13 = .ok (.ifCond .eq 23, 3) := by decide +kernel
theorem dX7_week_16 : decode cX7_week 16 = .ok (.iload_n 3, 1) := by decide +kernel
theorem dX7_week_17 : decode cX7_week 17 = .ok (.iconst 0, 1) := by decide +kernel
theorem dX7_week_18 : decode cX7_week 18 = .ok (.iconst 1, 1) := by decide +kernel
theorem dX7_week_19 : decode cX7_week 19 = .ok (.invokestatic 64, 3) := by decide +kernel
theorem dX7_week_22 : decode cX7_week 22 = .ok (.ifCond .eq 14, 3) := by decide +kernel
theorem dX7_week_25 : decode cX7_week 25 = .ok (.iload 4, 2) := by decide +kernel
theorem dX7_week_27 : decode cX7_week 27 = .ok (.iconst 0, 1) := by decide +kernel
theorem dX7_week_28 : decode cX7_week 28 = .ok (.bipush 9, 2) := by decide +kernel
theorem dX7_week_30 : decode cX7_week 30 = .ok (.invokestatic 64, 3) := by decide +kernel
theorem dX7_week_33 : decode cX7_week 33 = .ok (.ifCond .ne 5, 3) := by decide +kernel
theorem dX7_week_36 : decode cX7_week 36 = .ok (.iconst (-1), 1) := by decide +kernel
theorem dX7_week_37 : decode cX7_week 37 = .ok (.ireturn, 1) := by decide +kernel
theorem dX7_week_38 : decode cX7_week 38 = .ok (.bipush 30, 2) := by decide +kernel
theorem dX7_week_40 : decode cX7_week 40 = .ok (.iload_n 3, 1) := by decide +kernel
theorem dX7_week_41 : decode cX7_week 41 = .ok (.imul, 1) := by decide +kernel
theorem dX7_week_42 : decode cX7_week 42 = .ok (.iconst 5, 1) := by decide +kernel
theorem dX7_week_43 : decode cX7_week 43 = .ok (.iload_n 1, 1) := by decide +kernel
theorem dX7_week_44 : decode cX7_week 44 = .ok (.imul, 1) := by decide +kernel
theorem dX7_week_45 : decode cX7_week 45 = .ok (.iadd, 1) := by decide +kernel
theorem dX7_week_46 : decode cX7_week 46 = .ok (.iload_n 2, 1) := by decide +kernel
theorem dX7_week_47 : decode cX7_week 47 = .ok (.iadd, 1) := by decide +kernel
theorem dX7_week_48 : decode cX7_week 48 = .ok (.istore 5, 2) := by decide +kernel
theorem dX7_week_50 : decode cX7_week 50 = .ok (.aload_n 0, 1) := by decide +kernel
theorem dX7_week_51 : decode cX7_week 51 = .ok (.getfield 19, 3) := by decide +kernel
theorem dX7_week_54 : decode cX7_week 54 = .ok (.iload 5, 2) := by decide +kernel
theorem dX7_week_56 : decode cX7_week 56 = .ok (.iaload, 1) := by decide +kernel
theorem dX7_week_57 : decode cX7_week 57 = .ok (.istore 6, 2) := by decide +kernel
theorem dX7_week_59 : decode cX7_week 59 = .ok (.aload_n 0, 1) := by decide +kernel
theorem dX7_week_60 : decode cX7_week 60 = .ok (.getfield 19, 3) := by decide +kernel
theorem dX7_week_63 : decode cX7_week 63 = .ok (.iload 5, 2) := by decide +kernel
theorem dX7_week_65 : decode cX7_week 65 = .ok (.iload 4, 2) := by decide +kernel
theorem dX7_week_67 : decode cX7_week 67 = .ok (.iastore, 1) := by decide +kernel
theorem dX7_week_68 : decode cX7_week 68 = .ok (.iload 6, 2) := by decide +kernel
theorem dX7_week_70 : decode cX7_week 70 = .ok (.ireturn, 1) := by decide +kernel
set_option maxRecDepth 20000 in
theorem ggX7_route_X7_isPlace : GoodIn wsX7_route wsX7_isPlace := goodIn_r _ [6, 7, 8, 5, 9] (by decide +kernel) (by decide +kernel)
set_option maxRecDepth 20000 in
theorem gX7_route_X7_isPlace : GoodIn wsX7_route (va_wsS RX7 90 yX7_isPlace wsX7_isPlace) := goodIn_app (goodIn_of _ (by decide +kernel)) ggX7_route_X7_isPlace
set_option maxRecDepth 20000 in
theorem ggX7_route_X7_in : GoodIn wsX7_route wsX7_in := goodIn_r _ [9] (by decide +kernel) (by decide +kernel)
set_option maxRecDepth 20000 in
theorem gX7_route_X7_in : GoodIn wsX7_route (va_wsS RX7 64 yX7_in wsX7_in) := goodIn_app (goodIn_of _ (by decide +kernel)) ggX7_route_X7_in
theorem dX7_route_0 : decode cX7_route 0 = .ok (.iload_n 1, 1) := by decide +kernel
theorem dX7_route_1 : decode cX7_route 1 = .ok (.invokestatic 90, 3) := by decide +kernel
theorem dX7_route_4 : decode cX7_route 4 = .ok (.ifCond .eq 36, 3) := by decide +kernel
theorem dX7_route_7 : decode cX7_route 7 = .ok (.iload_n 2, 1) := by decide +kernel
theorem dX7_route_8 : decode cX7_route 8 = .ok (.invokestatic 90, 3) := by decide +kernel
theorem dX7_route_11 : decode cX7_route 11 = .ok (.ifCond .eq 29, 3) := by decide +kernel
theorem dX7_route_14 : decode cX7_route 14 = .ok (.iload_n 1, 1) := by decide +kernel
theorem dX7_route_15 : decode cX7_route 15 = .ok (.iload_n 2, 1) := by decide +kernel
theorem dX7_route_16 : decode cX7_route 16 = .ok (.if_icmp .eq 24, 3) := by decide +kernel
theorem dX7_route_19 : decode cX7_route 19 = .ok (.iload_n 3, 1) := by decide +kernel
theorem dX7_route_20 : decode cX7_route 20 = .ok (.iconst 0, 1) := by decide +kernel
theorem dX7_route_21 : decode cX7_route 21 = .ok (.iconst 2, 1) := by decide +kernel
theorem dX7_route_22 : decode cX7_route 22 = .ok (.invokestatic 64, 3) := by decide +kernel
theorem dX7_route_25 : decode cX7_route 25 = .ok (.ifCond .eq 15, 3) := by decide +kernel
theorem dX7_route_28 : decode cX7_route 28 = .ok (.iload 4, 2) := by decide +kernel
theorem dX7_route_30 : decode cX7_route 30 = .ok (.iconst 0, 1) := by decide +kernel
theorem dX7_route_31 : decode cX7_route 31 = .ok (.sipush 999, 3) := by decide +kernel
theorem dX7_route_34 : decode cX7_route 34 = .ok (.invokestatic 64, 3) := by decide +kernel
theorem dX7_route_37 : decode cX7_route 37 = .ok (.ifCond .ne 5, 3) := by decide +kernel
theorem dX7_route_40 : decode cX7_route 40 = .ok (.iconst (-1), 1) := by decide +kernel
theorem dX7_route_41 : decode cX7_route 41 = .ok (.ireturn, 1) := by decide +kernel
theorem dX7_route_42 : decode cX7_route 42 = .ok (.aload_n 0, 1) := by decide +kernel
theorem dX7_route_43 : decode cX7_route 43 = .ok (.getfield 7, 3) := by decide +kernel
theorem dX7_route_46 : decode cX7_route 46 = .ok (.iconst 3, 1) := by decide +kernel
theorem dX7_route_47 : decode cX7_route 47 = .ok (.iaload, 1) := by decide +kernel
theorem dX7_route_48 : decode cX7_route 48 = .ok (.bipush 10, 2) := by decide +kernel
theorem dX7_route_50 : decode cX7_route 50 = .ok (.if_icmp .ne 6, 3) := by decide +kernel
theorem dX7_route_53 : decode cX7_route 53 = .ok (.bipush (-2), 2) := by decide +kernel
theorem dX7_route_55 : decode cX7_route 55 = .ok (.ireturn, 1) := by decide +kernel
theorem dX7_route_56 : decode cX7_route 56 = .ok (.iconst 5, 1) := by decide +kernel
theorem dX7_route_57 : decode cX7_route 57 = .ok (.aload_n 0, 1) := by decide +kernel
theorem dX7_route_58 : decode cX7_route 58 = .ok (.getfield 7, 3) := by decide +kernel
theorem dX7_route_61 : decode cX7_route 61 = .ok (.iconst 3, 1) := by decide +kernel
theorem dX7_route_62 : decode cX7_route 62 = .ok (.iaload, 1) := by decide +kernel
theorem dX7_route_63 : decode cX7_route 63 = .ok (.imul, 1) := by decide +kernel
theorem dX7_route_64 : decode cX7_route 64 = .ok (.istore 5, 2) := by decide +kernel
theorem dX7_route_66 : decode cX7_route 66 = .ok (.aload_n 0, 1) := by decide +kernel
theorem dX7_route_67 : decode cX7_route 67 = .ok (.getfield 22, 3) := by decide +kernel
theorem dX7_route_70 : decode cX7_route 70 = .ok (.iload 5, 2) := by decide +kernel
theorem dX7_route_72 : decode cX7_route 72 = .ok (.iload_n 1, 1) := by decide +kernel
theorem dX7_route_73 : decode cX7_route 73 = .ok (.iastore, 1) := by decide +kernel
theorem dX7_route_74 : decode cX7_route 74 = .ok (.aload_n 0, 1) := by decide +kernel
theorem dX7_route_75 : decode cX7_route 75 = .ok (.getfield 22, 3) := by decide +kernel
theorem dX7_route_78 : decode cX7_route 78 = .ok (.iload 5, 2) := by decide +kernel
theorem dX7_route_80 : decode cX7_route 80 = .ok (.iconst 1, 1) := by decide +kernel
theorem dX7_route_81 : decode cX7_route 81 = .ok (.iadd, 1) := by decide +kernel
theorem dX7_route_82 : decode cX7_route 82 = .ok (.iload_n 2, 1) := by decide +kernel
theorem dX7_route_83 : decode cX7_route 83 = .ok (.iastore, 1) := by decide +kernel
theorem dX7_route_84 : decode cX7_route 84 = .ok (.aload_n 0, 1) := by decide +kernel
theorem dX7_route_85 : decode cX7_route 85 = .ok (.getfield 22, 3) := by decide +kernel
theorem dX7_route_88 : decode cX7_route 88 = .ok (.iload 5, 2) := by decide +kernel
theorem dX7_route_90 : decode cX7_route 90 = .ok (.iconst 2, 1) := by decide +kernel
theorem dX7_route_91 : decode cX7_route 91 = .ok (.iadd, 1) := by decide +kernel
theorem dX7_route_92 : decode cX7_route 92 = .ok (.iload_n 3, 1) := by decide +kernel
theorem dX7_route_93 : decode cX7_route 93 = .ok (.iastore, 1) := by decide +kernel
theorem dX7_route_94 : decode cX7_route 94 = .ok (.aload_n 0, 1) := by decide +kernel
theorem dX7_route_95 : decode cX7_route 95 = .ok (.getfield 22, 3) := by decide +kernel
theorem dX7_route_98 : decode cX7_route 98 = .ok (.iload 5, 2) := by decide +kernel
theorem dX7_route_100 : decode cX7_route 100 = .ok (.iconst 3, 1) := by decide +kernel
theorem dX7_route_101 : decode cX7_route 101 = .ok (.iadd, 1) := by decide +kernel
theorem dX7_route_102 : decode cX7_route 102 = .ok (.iload 4, 2) := by decide +kernel
theorem dX7_route_104 : decode cX7_route 104 = .ok (.bipush 100, 2) := by decide +kernel
theorem dX7_route_106 : decode cX7_route 106 = .ok (.irem, 1) := by decide +kernel
theorem dX7_route_107 : decode cX7_route 107 = .ok (.iastore, 1) := by decide +kernel
theorem dX7_route_108 : decode cX7_route 108 = .ok (.aload_n 0, 1) := by decide +kernel
theorem dX7_route_109 : decode cX7_route 109 = .ok (.getfield 22, 3) := by decide +kernel
theorem dX7_route_112 : decode cX7_route 112 = .ok (.iload 5, 2) := by decide +kernel
theorem dX7_route_114 : decode cX7_route 114 = .ok (.iconst 4, 1) := by decide +kernel
theorem dX7_route_115 : decode cX7_route 115 = .ok (.iadd, 1) := by decide +kernel
theorem dX7_route_116 : decode cX7_route 116 = .ok (.iload 4, 2) := by decide +kernel
theorem dX7_route_118 : decode cX7_route 118 = .ok (.bipush 100, 2) := by decide +kernel
theorem dX7_route_120 : decode cX7_route 120 = .ok (.idiv, 1) := by decide +kernel
theorem dX7_route_121 : decode cX7_route 121 = .ok (.iastore, 1) := by decide +kernel
theorem dX7_route_122 : decode cX7_route 122 = .ok (.aload_n 0, 1) := by decide +kernel
theorem dX7_route_123 : decode cX7_route 123 = .ok (.getfield 7, 3) := by decide +kernel
theorem dX7_route_126 : decode cX7_route 126 = .ok (.iconst 3, 1) := by decide +kernel
theorem dX7_route_127 : decode cX7_route 127 = .ok (.dup2, 1) := by decide +kernel
theorem dX7_route_128 : decode cX7_route 128 = .ok (.iaload, 1) := by decide +kernel
theorem dX7_route_129 : decode cX7_route 129 = .ok (.iconst 1, 1) := by decide +kernel
theorem dX7_route_130 : decode cX7_route 130 = .ok (.iadd, 1) := by decide +kernel
theorem dX7_route_131 : decode cX7_route 131 = .ok (.iastore, 1) := by decide +kernel
theorem dX7_route_132 : decode cX7_route 132 = .ok (.aload_n 0, 1) := by decide +kernel
theorem dX7_route_133 : decode cX7_route 133 = .ok (.getfield 7, 3) := by decide +kernel
theorem dX7_route_136 : decode cX7_route 136 = .ok (.iconst 3, 1) := by decide +kernel
theorem dX7_route_137 : decode cX7_route 137 = .ok (.iaload, 1) := by decide +kernel
theorem dX7_route_138 : decode cX7_route 138 = .ok (.iconst 1, 1) := by decide +kernel
theorem dX7_route_139 : decode cX7_route 139 = .ok (.isub, 1) := by decide +kernel
theorem dX7_route_140 : decode cX7_route 140 = .ok (.ireturn, 1) := by decide +kernel
set_option maxRecDepth 20000 in
theorem ggX7_lack_X7_in : GoodIn wsX7_lack wsX7_in := goodIn_r _ [5] (by decide +kernel) (by decide +kernel)
set_option maxRecDepth 20000 in
theorem gX7_lack_X7_in : GoodIn wsX7_lack (va_wsS RX7 64 yX7_in wsX7_in) := goodIn_app (goodIn_of _ (by decide +kernel)) ggX7_lack_X7_in
theorem dX7_lack_0 : decode cX7_lack 0 = .ok (.iload_n 1, 1) := by decide +kernel
theorem dX7_lack_1 : decode cX7_lack 1 = .ok (.iconst 0, 1) := by decide +kernel
theorem dX7_lack_2 : decode cX7_lack 2 = .ok (.sipush 500, 3) := by decide +kernel
theorem dX7_lack_5 : decode cX7_lack 5 = .ok (.invokestatic 64, 3) := by decide +kernel
theorem dX7_lack_8 : decode cX7_lack 8 = .ok (.ifCond .ne 5, 3) := by decide +kernel
theorem dX7_lack_11 : decode cX7_lack 11 = .ok (.iconst (-1), 1) := by decide +kernel
theorem dX7_lack_12 : decode cX7_lack 12 = .ok (.ireturn, 1) := by decide +kernel
theorem dX7_lack_13 : decode cX7_lack 13 = .ok (.aload_n 0, 1) := by decide +kernel
theorem dX7_lack_14 : decode cX7_lack 14 = .ok (.getfield 7, 3) := by decide +kernel
theorem dX7_lack_17 : decode cX7_lack 17 = .ok (.bipush 9, 2) := by decide +kernel
theorem dX7_lack_19 : decode cX7_lack 19 = .ok (.iaload, 1) := by decide +kernel
theorem dX7_lack_20 : decode cX7_lack 20 = .ok (.istore_n 2, 1) := by decide +kernel
theorem dX7_lack_21 : decode cX7_lack 21 = .ok (.aload_n 0, 1) := by decide +kernel
theorem dX7_lack_22 : decode cX7_lack 22 = .ok (.getfield 7, 3) := by decide +kernel
theorem dX7_lack_25 : decode cX7_lack 25 = .ok (.bipush 9, 2) := by decide +kernel
theorem dX7_lack_27 : decode cX7_lack 27 = .ok (.iload_n 1, 1) := by decide +kernel
theorem dX7_lack_28 : decode cX7_lack 28 = .ok (.iastore, 1) := by decide +kernel
theorem dX7_lack_29 : decode cX7_lack 29 = .ok (.iload_n 2, 1) := by decide +kernel
theorem dX7_lack_30 : decode cX7_lack 30 = .ok (.ireturn, 1) := by decide +kernel
theorem dX7_addArc_0 : decode cX7_addArc 0 = .ok (.aload_n 0, 1) := by decide +kernel
theorem dX7_addArc_1 : decode cX7_addArc 1 = .ok (.getfield 37, 3) := by decide +kernel
theorem dX7_addArc_4 : decode cX7_addArc 4 = .ok (.aload_n 0, 1) := by decide +kernel
theorem dX7_addArc_5 : decode cX7_addArc 5 = .ok (.getfield 109, 3) := by decide +kernel
theorem dX7_addArc_8 : decode cX7_addArc 8 = .ok (.iload_n 1, 1) := by decide +kernel
theorem dX7_addArc_9 : decode cX7_addArc 9 = .ok (.iastore, 1) := by decide +kernel
theorem dX7_addArc_10 : decode cX7_addArc 10 = .ok (.aload_n 0, 1) := by decide +kernel
theorem dX7_addArc_11 : decode cX7_addArc 11 = .ok (.getfield 40, 3) := by decide +kernel
theorem dX7_addArc_14 : decode cX7_addArc 14 = .ok (.aload_n 0, 1) := by decide +kernel
theorem dX7_addArc_15 : decode cX7_addArc 15 = .ok (.getfield 109, 3) := by decide +kernel
theorem dX7_addArc_18 : decode cX7_addArc 18 = .ok (.iload_n 2, 1) := by decide +kernel
theorem dX7_addArc_19 : decode cX7_addArc 19 = .ok (.iastore, 1) := by decide +kernel
theorem dX7_addArc_20 : decode cX7_addArc 20 = .ok (.aload_n 0, 1) := by decide +kernel
theorem dX7_addArc_21 : decode cX7_addArc 21 = .ok (.getfield 43, 3) := by decide +kernel
theorem dX7_addArc_24 : decode cX7_addArc 24 = .ok (.aload_n 0, 1) := by decide +kernel
theorem dX7_addArc_25 : decode cX7_addArc 25 = .ok (.getfield 109, 3) := by decide +kernel
theorem dX7_addArc_28 : decode cX7_addArc 28 = .ok (.iload_n 3, 1) := by decide +kernel
theorem dX7_addArc_29 : decode cX7_addArc 29 = .ok (.iastore, 1) := by decide +kernel
theorem dX7_addArc_30 : decode cX7_addArc 30 = .ok (.aload_n 0, 1) := by decide +kernel
theorem dX7_addArc_31 : decode cX7_addArc 31 = .ok (.getfield 46, 3) := by decide +kernel
theorem dX7_addArc_34 : decode cX7_addArc 34 = .ok (.aload_n 0, 1) := by decide +kernel
theorem dX7_addArc_35 : decode cX7_addArc 35 = .ok (.getfield 109, 3) := by decide +kernel
theorem dX7_addArc_38 : decode cX7_addArc 38 = .ok (.iload 4, 2) := by decide +kernel
theorem dX7_addArc_40 : decode cX7_addArc 40 = .ok (.iastore, 1) := by decide +kernel
theorem dX7_addArc_41 : decode cX7_addArc 41 = .ok (.aload_n 0, 1) := by decide +kernel
theorem dX7_addArc_42 : decode cX7_addArc 42 = .ok (.getfield 37, 3) := by decide +kernel
theorem dX7_addArc_45 : decode cX7_addArc 45 = .ok (.aload_n 0, 1) := by decide +kernel
theorem dX7_addArc_46 : decode cX7_addArc 46 = .ok (.getfield 109, 3) := by decide +kernel
theorem dX7_addArc_49 : decode cX7_addArc 49 = .ok (.iconst 1, 1) := by decide +kernel
theorem dX7_addArc_50 : decode cX7_addArc 50 = .ok (.iadd, 1) := by decide +kernel
theorem dX7_addArc_51 : decode cX7_addArc 51 = .ok (.iload_n 2, 1) := by decide +kernel
theorem dX7_addArc_52 : decode cX7_addArc 52 = .ok (.iastore, 1) := by decide +kernel
theorem dX7_addArc_53 : decode cX7_addArc 53 = .ok (.aload_n 0, 1) := by decide +kernel
theorem dX7_addArc_54 : decode cX7_addArc 54 = .ok (.getfield 40, 3) := by decide +kernel
theorem dX7_addArc_57 : decode cX7_addArc 57 = .ok (.aload_n 0, 1) := by decide +kernel
theorem dX7_addArc_58 : decode cX7_addArc 58 = .ok (.getfield 109, 3) := by decide +kernel
theorem dX7_addArc_61 : decode cX7_addArc 61 = .ok (.iconst 1, 1) := by decide +kernel
theorem dX7_addArc_62 : decode cX7_addArc 62 = .ok (.iadd, 1) := by decide +kernel
theorem dX7_addArc_63 : decode cX7_addArc 63 = .ok (.iload_n 1, 1) := by decide +kernel
theorem dX7_addArc_64 : decode cX7_addArc 64 = .ok (.iastore, 1) := by decide +kernel
theorem dX7_addArc_65 : decode cX7_addArc 65 = .ok (.aload_n 0, 1) := by decide +kernel
theorem dX7_addArc_66 : decode cX7_addArc 66 = .ok (.getfield 43, 3) := by decide +kernel
theorem dX7_addArc_69 : decode cX7_addArc 69 = .ok (.aload_n 0, 1) := by decide +kernel
theorem dX7_addArc_70 : decode cX7_addArc 70 = .ok (.getfield 109, 3) := by decide +kernel
theorem dX7_addArc_73 : decode cX7_addArc 73 = .ok (.iconst 1, 1) := by decide +kernel
theorem dX7_addArc_74 : decode cX7_addArc 74 = .ok (.iadd, 1) := by decide +kernel
theorem dX7_addArc_75 : decode cX7_addArc 75 = .ok (.iconst 0, 1) := by decide +kernel
theorem dX7_addArc_76 : decode cX7_addArc 76 = .ok (.iastore, 1) := by decide +kernel
theorem dX7_addArc_77 : decode cX7_addArc 77 = .ok (.aload_n 0, 1) := by decide +kernel
theorem dX7_addArc_78 : decode cX7_addArc 78 = .ok (.getfield 46, 3) := by decide +kernel
theorem dX7_addArc_81 : decode cX7_addArc 81 = .ok (.aload_n 0, 1) := by decide +kernel
theorem dX7_addArc_82 : decode cX7_addArc 82 = .ok (.getfield 109, 3) := by decide +kernel
theorem dX7_addArc_85 : decode cX7_addArc 85 = .ok (.iconst 1, 1) := by decide +kernel
theorem dX7_addArc_86 : decode cX7_addArc 86 = .ok (.iadd, 1) := by decide +kernel
theorem dX7_addArc_87 : decode cX7_addArc 87 = .ok (.iload 4, 2) := by decide +kernel
theorem dX7_addArc_89 : decode cX7_addArc 89 = .ok (.ineg, 1) := by decide +kernel
theorem dX7_addArc_90 : decode cX7_addArc 90 = .ok (.iastore, 1) := by decide +kernel
theorem dX7_addArc_91 : decode cX7_addArc 91 = .ok (.aload_n 0, 1) := by decide +kernel
theorem dX7_addArc_92 : decode cX7_addArc 92 = .ok (.dup, 1) := by decide +kernel
theorem dX7_addArc_93 : decode cX7_addArc 93 = .ok (.getfield 109, 3) := by decide +kernel
theorem dX7_addArc_96 : decode cX7_addArc 96 = .ok (.iconst 2, 1) := by decide +kernel
theorem dX7_addArc_97 : decode cX7_addArc 97 = .ok (.iadd, 1) := by decide +kernel
theorem dX7_addArc_98 : decode cX7_addArc 98 = .ok (.putfield 109, 3) := by decide +kernel
theorem dX7_addArc_101 : decode cX7_addArc 101 = .ok (.return_, 1) := by decide +kernel
set_option maxRecDepth 20000 in
theorem ggX7_addArcs_X7_addArc : GoodIn wsX7_addArcs wsX7_addArc := goodIn_r _ [9, 10, 1, 11, 12, 13, 14, 15, 16, 17, 18, 19, 20, 21, 22, 23, 24, 25, 26, 27, 28, 29, 30, 31, 32, 33, 34, 35, 36, 37, 38, 39, 40, 41] (by decide +kernel) (by decide +kernel)
set_option maxRecDepth 20000 in
theorem gX7_addArcs_X7_addArc : GoodIn wsX7_addArcs (wsV RX7 113 RX7 yX7_addArc wsX7_addArc) := goodIn_app (goodIn_of _ (by decide +kernel)) ggX7_addArcs_X7_addArc
theorem dX7_addArcs_0 : decode cX7_addArcs 0 = .ok (.aload_n 0, 1) := by decide +kernel
theorem dX7_addArcs_1 : decode cX7_addArcs 1 = .ok (.iconst 0, 1) := by decide +kernel
theorem dX7_addArcs_2 : decode cX7_addArcs 2 = .ok (.putfield 109, 3) := by decide +kernel
theorem dX7_addArcs_5 : decode cX7_addArcs 5 = .ok (.iconst 0, 1) := by decide +kernel
theorem dX7_addArcs_6 : decode cX7_addArcs 6 = .ok (.istore_n 2, 1) := by decide +kernel
theorem dX7_addArcs_7 : decode cX7_addArcs 7 = .ok (.iload_n 2, 1) := by decide +kernel
theorem dX7_addArcs_8 : decode cX7_addArcs 8 = .ok (.bipush 30, 2) := by decide +kernel
theorem dX7_addArcs_10 : decode cX7_addArcs 10 = .ok (.if_icmp .ge 70, 3) := by decide +kernel
theorem dX7_addArcs_13 : decode cX7_addArcs 13 = .ok (.aload_n 0, 1) := by decide +kernel
theorem dX7_addArcs_14 : decode cX7_addArcs 14 = .ok (.bipush 30, 2) := by decide +kernel
theorem dX7_addArcs_16 : decode cX7_addArcs 16 = .ok (.iload_n 2, 1) := by decide +kernel
theorem dX7_addArcs_17 : decode cX7_addArcs 17 = .ok (.aload_n 0, 1) := by decide +kernel
theorem dX7_addArcs_18 : decode cX7_addArcs 18 = .ok (.getfield 19, 3) := by decide +kernel
theorem dX7_addArcs_21 : decode cX7_addArcs 21 = .ok (.iload_n 2, 1) := by decide +kernel
theorem dX7_addArcs_22 : decode cX7_addArcs 22 = .ok (.iaload, 1) := by decide +kernel
theorem dX7_addArcs_23 : decode cX7_addArcs 23 = .ok (.iload_n 2, 1) := by decide +kernel
theorem dX7_addArcs_24 : decode cX7_addArcs 24 = .ok (.iload_n 1, 1) := by decide +kernel
theorem dX7_addArcs_25 : decode cX7_addArcs 25 = .ok (.if_icmp .ne 7, 3) := by decide +kernel
theorem dX7_addArcs_28 : decode cX7_addArcs 28 = .ok (.iconst 1, 1) := by decide +kernel
theorem dX7_addArcs_29 : decode cX7_addArcs 29 = .ok (.goto 4, 3) := by decide +kernel
theorem dX7_addArcs_32 : decode cX7_addArcs 32 = .ok (.iconst 0, 1) := by decide +kernel
theorem dX7_addArcs_33 : decode cX7_addArcs 33 = .ok (.iadd, 1) := by decide +kernel
theorem dX7_addArcs_34 : decode cX7_addArcs 34 = .ok (.iconst 0, 1) := by decide +kernel
theorem dX7_addArcs_35 : decode cX7_addArcs 35 = .ok (.invokevirtual 113, 3) := by decide +kernel
theorem dX7_addArcs_38 : decode cX7_addArcs 38 = .ok (.aload_n 0, 1) := by decide +kernel
theorem dX7_addArcs_39 : decode cX7_addArcs 39 = .ok (.iload_n 2, 1) := by decide +kernel
theorem dX7_addArcs_40 : decode cX7_addArcs 40 = .ok (.bipush 31, 2) := by decide +kernel
theorem dX7_addArcs_42 : decode cX7_addArcs 42 = .ok (.aload_n 0, 1) := by decide +kernel
theorem dX7_addArcs_43 : decode cX7_addArcs 43 = .ok (.getfield 19, 3) := by decide +kernel
theorem dX7_addArcs_46 : decode cX7_addArcs 46 = .ok (.bipush 30, 2) := by decide +kernel
theorem dX7_addArcs_48 : decode cX7_addArcs 48 = .ok (.iload_n 2, 1) := by decide +kernel
theorem dX7_addArcs_49 : decode cX7_addArcs 49 = .ok (.iadd, 1) := by decide +kernel
theorem dX7_addArcs_50 : decode cX7_addArcs 50 = .ok (.iaload, 1) := by decide +kernel
theorem dX7_addArcs_51 : decode cX7_addArcs 51 = .ok (.iconst 0, 1) := by decide +kernel
theorem dX7_addArcs_52 : decode cX7_addArcs 52 = .ok (.invokevirtual 113, 3) := by decide +kernel
theorem dX7_addArcs_55 : decode cX7_addArcs 55 = .ok (.iload_n 2, 1) := by decide +kernel
theorem dX7_addArcs_56 : decode cX7_addArcs 56 = .ok (.iconst 5, 1) := by decide +kernel
theorem dX7_addArcs_57 : decode cX7_addArcs 57 = .ok (.irem, 1) := by decide +kernel
theorem dX7_addArcs_58 : decode cX7_addArcs 58 = .ok (.iconst 4, 1) := by decide +kernel
theorem dX7_addArcs_59 : decode cX7_addArcs 59 = .ok (.if_icmp .ge 15, 3) := by decide +kernel
theorem dX7_addArcs_62 : decode cX7_addArcs 62 = .ok (.aload_n 0, 1) := by decide +kernel
theorem dX7_addArcs_63 : decode cX7_addArcs 63 = .ok (.iload_n 2, 1) := by decide +kernel
theorem dX7_addArcs_64 : decode cX7_addArcs 64 = .ok (.iload_n 2, 1) := by decide +kernel
theorem dX7_addArcs_65 : decode cX7_addArcs 65 = .ok (.iconst 1, 1) := by decide +kernel
theorem dX7_addArcs_66 : decode cX7_addArcs 66 = .ok (.iadd, 1) := by decide +kernel
theorem dX7_addArcs_67 : decode cX7_addArcs 67 = .ok (.sipush 1000, 3) := by decide +kernel
theorem dX7_addArcs_70 : decode cX7_addArcs 70 = .ok (.iconst 0, 1) := by decide +kernel
theorem dX7_addArcs_71 : decode cX7_addArcs 71 = .ok (.invokevirtual 113, 3) := by decide +kernel
theorem dX7_addArcs_74 : decode cX7_addArcs 74 = .ok (.iinc 2 1, 3) := by decide +kernel
theorem dX7_addArcs_77 : decode cX7_addArcs 77 = .ok (.goto (-70), 3) := by decide +kernel
theorem dX7_addArcs_80 : decode cX7_addArcs 80 = .ok (.iconst 0, 1) := by decide +kernel
theorem dX7_addArcs_81 : decode cX7_addArcs 81 = .ok (.istore_n 2, 1) := by decide +kernel
theorem dX7_addArcs_82 : decode cX7_addArcs 82 = .ok (.iload_n 2, 1) := by decide +kernel
theorem dX7_addArcs_83 : decode cX7_addArcs 83 = .ok (.aload_n 0, 1) := by decide +kernel
theorem dX7_addArcs_84 : decode cX7_addArcs 84 = .ok (.getfield 7, 3) := by decide +kernel
theorem dX7_addArcs_87 : decode cX7_addArcs 87 = .ok (.iconst 3, 1) := by decide +kernel
theorem dX7_addArcs_88 : decode cX7_addArcs 88 = .ok (.iaload, 1) := by decide +kernel
theorem dX7_addArcs_89 : decode cX7_addArcs 89 = .ok (.if_icmp .ge 94, 3) := by decide +kernel
theorem dX7_addArcs_92 : decode cX7_addArcs 92 = .ok (.iconst 0, 1) := by decide +kernel
theorem dX7_addArcs_93 : decode cX7_addArcs 93 = .ok (.istore_n 3, 1) := by decide +kernel
theorem dX7_addArcs_94 : decode cX7_addArcs 94 = .ok (.iload_n 3, 1) := by decide +kernel
theorem dX7_addArcs_95 : decode cX7_addArcs 95 = .ok (.aload_n 0, 1) := by decide +kernel
theorem dX7_addArcs_96 : decode cX7_addArcs 96 = .ok (.getfield 22, 3) := by decide +kernel
theorem dX7_addArcs_99 : decode cX7_addArcs 99 = .ok (.iconst 5, 1) := by decide +kernel
theorem dX7_addArcs_100 : decode cX7_addArcs 100 = .ok (.iload_n 2, 1) := by decide +kernel
theorem dX7_addArcs_101 : decode cX7_addArcs 101 = .ok (.imul, 1) := by decide +kernel
theorem dX7_addArcs_102 : decode cX7_addArcs 102 = .ok (.iconst 2, 1) := by decide +kernel
theorem dX7_addArcs_103 : decode cX7_addArcs 103 = .ok (.iadd, 1) := by decide +kernel
theorem dX7_addArcs_104 : decode cX7_addArcs 104 = .ok (.iaload, 1) := by decide +kernel
theorem dX7_addArcs_105 : decode cX7_addArcs 105 = .ok (.iadd, 1) := by decide +kernel
theorem dX7_addArcs_106 : decode cX7_addArcs 106 = .ok (.iconst 5, 1) := by decide +kernel
theorem dX7_addArcs_107 : decode cX7_addArcs 107 = .ok (.if_icmp .ge 70, 3) := by decide +kernel
theorem dX7_addArcs_110 : decode cX7_addArcs 110 = .ok (.aload_n 0, 1) := by decide +kernel
theorem dX7_addArcs_111 : decode cX7_addArcs 111 = .ok (.iconst 5, 1) := by decide +kernel
theorem dX7_addArcs_112 : decode cX7_addArcs 112 = .ok (.aload_n 0, 1) := by decide +kernel
theorem dX7_addArcs_113 : decode cX7_addArcs 113 = .ok (.getfield 22, 3) := by decide +kernel
theorem dX7_addArcs_116 : decode cX7_addArcs 116 = .ok (.iconst 5, 1) := by decide +kernel
theorem dX7_addArcs_117 : decode cX7_addArcs 117 = .ok (.iload_n 2, 1) := by decide +kernel
theorem dX7_addArcs_118 : decode cX7_addArcs 118 = .ok (.imul, 1) := by decide +kernel
theorem dX7_addArcs_119 : decode cX7_addArcs 119 = .ok (.iaload, 1) := by decide +kernel
theorem dX7_addArcs_120 : decode cX7_addArcs 120 = .ok (.imul, 1) := by decide +kernel
theorem dX7_addArcs_121 : decode cX7_addArcs 121 = .ok (.iload_n 3, 1) := by decide +kernel
theorem dX7_addArcs_122 : decode cX7_addArcs 122 = .ok (.iadd, 1) := by decide +kernel
theorem dX7_addArcs_123 : decode cX7_addArcs 123 = .ok (.iconst 5, 1) := by decide +kernel
theorem dX7_addArcs_124 : decode cX7_addArcs 124 = .ok (.aload_n 0, 1) := by decide +kernel
theorem dX7_addArcs_125 : decode cX7_addArcs 125 = .ok (.getfield 22, 3) := by decide +kernel
theorem dX7_addArcs_128 : decode cX7_addArcs 128 = .ok (.iconst 5, 1) := by decide +kernel
theorem dX7_addArcs_129 : decode cX7_addArcs 129 = .ok (.iload_n 2, 1) := by decide +kernel
theorem dX7_addArcs_130 : decode cX7_addArcs 130 = .ok (.imul, 1) := by decide +kernel
theorem dX7_addArcs_131 : decode cX7_addArcs 131 = .ok (.iconst 1, 1) := by decide +kernel
theorem dX7_addArcs_132 : decode cX7_addArcs 132 = .ok (.iadd, 1) := by decide +kernel
theorem dX7_addArcs_133 : decode cX7_addArcs 133 = .ok (.iaload, 1) := by decide +kernel
theorem dX7_addArcs_134 : decode cX7_addArcs 134 = .ok (.imul, 1) := by decide +kernel
theorem dX7_addArcs_135 : decode cX7_addArcs 135 = .ok (.iload_n 3, 1) := by decide +kernel
theorem dX7_addArcs_136 : decode cX7_addArcs 136 = .ok (.iadd, 1) := by decide +kernel
theorem dX7_addArcs_137 : decode cX7_addArcs 137 = .ok (.aload_n 0, 1) := by decide +kernel
theorem dX7_addArcs_138 : decode cX7_addArcs 138 = .ok (.getfield 22, 3) := by decide +kernel
theorem dX7_addArcs_141 : decode cX7_addArcs 141 = .ok (.iconst 5, 1) := by decide +kernel
theorem dX7_addArcs_142 : decode cX7_addArcs 142 = .ok (.iload_n 2, 1) := by decide +kernel
theorem dX7_addArcs_143 : decode cX7_addArcs 143 = .ok (.imul, 1) := by decide +kernel
theorem dX7_addArcs_144 : decode cX7_addArcs 144 = .ok (.iconst 2, 1) := by decide +kernel
theorem dX7_addArcs_145 : decode cX7_addArcs 145 = .ok (.iadd, 1) := by decide +kernel
theorem dX7_addArcs_146 : decode cX7_addArcs 146 = .ok (.iaload, 1) := by decide +kernel
theorem dX7_addArcs_147 : decode cX7_addArcs 147 = .ok (.iadd, 1) := by decide +kernel
theorem dX7_addArcs_148 : decode cX7_addArcs 148 = .ok (.aload_n 0, 1) := by decide +kernel
theorem dX7_addArcs_149 : decode cX7_addArcs 149 = .ok (.getfield 22, 3) := by decide +kernel
theorem dX7_addArcs_152 : decode cX7_addArcs 152 = .ok (.iconst 5, 1) := by decide +kernel
theorem dX7_addArcs_153 : decode cX7_addArcs 153 = .ok (.iload_n 2, 1) := by decide +kernel
theorem dX7_addArcs_154 : decode cX7_addArcs 154 = .ok (.imul, 1) := by decide +kernel
theorem dX7_addArcs_155 : decode cX7_addArcs 155 = .ok (.iconst 4, 1) := by decide +kernel
theorem dX7_addArcs_156 : decode cX7_addArcs 156 = .ok (.iadd, 1) := by decide +kernel
theorem dX7_addArcs_157 : decode cX7_addArcs 157 = .ok (.iaload, 1) := by decide +kernel
theorem dX7_addArcs_158 : decode cX7_addArcs 158 = .ok (.aload_n 0, 1) := by decide +kernel
theorem dX7_addArcs_159 : decode cX7_addArcs 159 = .ok (.getfield 22, 3) := by decide +kernel
theorem dX7_addArcs_162 : decode cX7_addArcs 162 = .ok (.iconst 5, 1) := by decide +kernel
theorem dX7_addArcs_163 : decode cX7_addArcs 163 = .ok (.iload_n 2, 1) := by decide +kernel
theorem dX7_addArcs_164 : decode cX7_addArcs 164 = .ok (.imul, 1) := by decide +kernel
theorem dX7_addArcs_165 : decode cX7_addArcs 165 = .ok (.iconst 3, 1) := by decide +kernel
theorem dX7_addArcs_166 : decode cX7_addArcs 166 = .ok (.iadd, 1) := by decide +kernel
theorem dX7_addArcs_167 : decode cX7_addArcs 167 = .ok (.iaload, 1) := by decide +kernel
theorem dX7_addArcs_168 : decode cX7_addArcs 168 = .ok (.invokevirtual 113, 3) := by decide +kernel
theorem dX7_addArcs_171 : decode cX7_addArcs 171 = .ok (.iinc 3 1, 3) := by decide +kernel
theorem dX7_addArcs_174 : decode cX7_addArcs 174 = .ok (.goto (-80), 3) := by decide +kernel
theorem dX7_addArcs_177 : decode cX7_addArcs 177 = .ok (.iinc 2 1, 3) := by decide +kernel
theorem dX7_addArcs_180 : decode cX7_addArcs 180 = .ok (.goto (-98), 3) := by decide +kernel
theorem dX7_addArcs_183 : decode cX7_addArcs 183 = .ok (.return_, 1) := by decide +kernel
theorem dX7_cheapest_0 : decode cX7_cheapest 0 = .ok (.iconst 0, 1) := by decide +kernel
theorem dX7_cheapest_1 : decode cX7_cheapest 1 = .ok (.istore_n 1, 1) := by decide +kernel
theorem dX7_cheapest_2 : decode cX7_cheapest 2 = .ok (.iload_n 1, 1) := by decide +kernel
theorem dX7_cheapest_3 : decode cX7_cheapest 3 = .ok (.bipush 32, 2) := by decide +kernel
theorem dX7_cheapest_5 : decode cX7_cheapest 5 = .ok (.if_icmp .ge 27, 3) := by decide +kernel
theorem dX7_cheapest_8 : decode cX7_cheapest 8 = .ok (.aload_n 0, 1) := by decide +kernel
theorem dX7_cheapest_9 : decode cX7_cheapest 9 = .ok (.getfield 49, 3) := by decide +kernel
theorem dX7_cheapest_12 : decode cX7_cheapest 12 = .ok (.iload_n 1, 1) := by decide +kernel
theorem dX7_cheapest_13 : decode cX7_cheapest 13 = .ok (.iload_n 1, 1) := by decide +kernel
theorem dX7_cheapest_14 : decode cX7_cheapest 14 = .ok (.bipush 30, 2) := by decide +kernel
theorem dX7_cheapest_16 : decode cX7_cheapest 16 = .ok (.if_icmp .ne 7, 3) := by decide +kernel
theorem dX7_cheapest_19 : decode cX7_cheapest 19 = .ok (.iconst 0, 1) := by decide +kernel
theorem dX7_cheapest_20 : decode cX7_cheapest 20 = .ok (.goto 5, 3) := by decide +kernel
theorem dX7_cheapest_23 : decode cX7_cheapest 23 = .ok (.ldc 117, 2) := by decide +kernel
theorem dX7_cheapest_25 : decode cX7_cheapest 25 = .ok (.iastore, 1) := by decide +kernel
theorem dX7_cheapest_26 : decode cX7_cheapest 26 = .ok (.iinc 1 1, 3) := by decide +kernel
theorem dX7_cheapest_29 : decode cX7_cheapest 29 = .ok (.goto (-27), 3) := by decide +kernel
theorem dX7_cheapest_32 : decode cX7_cheapest 32 = .ok (.iconst 1, 1) := by decide +kernel
theorem dX7_cheapest_33 : decode cX7_cheapest 33 = .ok (.istore_n 1, 1) := by decide +kernel
theorem dX7_cheapest_34 : decode cX7_cheapest 34 = .ok (.iload_n 1, 1) := by decide +kernel
theorem dX7_cheapest_35 : decode cX7_cheapest 35 = .ok (.ifCond .eq 109, 3) := by decide +kernel
theorem dX7_cheapest_38 : decode cX7_cheapest 38 = .ok (.iconst 0, 1) := by decide +kernel
theorem dX7_cheapest_39 : decode cX7_cheapest 39 = .ok (.istore_n 1, 1) := by decide +kernel
theorem dX7_cheapest_40 : decode cX7_cheapest 40 = .ok (.iconst 0, 1) := by decide +kernel
theorem dX7_cheapest_41 : decode cX7_cheapest 41 = .ok (.istore_n 2, 1) := by decide +kernel
theorem dX7_cheapest_42 : decode cX7_cheapest 42 = .ok (.iload_n 2, 1) := by decide +kernel
theorem dX7_cheapest_43 : decode cX7_cheapest 43 = .ok (.aload_n 0, 1) := by decide +kernel
theorem dX7_cheapest_44 : decode cX7_cheapest 44 = .ok (.getfield 109, 3) := by decide +kernel
theorem dX7_cheapest_47 : decode cX7_cheapest 47 = .ok (.if_icmp .ge 94, 3) := by decide +kernel
theorem dX7_cheapest_50 : decode cX7_cheapest 50 = .ok (.aload_n 0, 1) := by decide +kernel
theorem dX7_cheapest_51 : decode cX7_cheapest 51 = .ok (.getfield 49, 3) := by decide +kernel
theorem dX7_cheapest_54 : decode cX7_cheapest 54 = .ok (.aload_n 0, 1) := by decide +kernel
theorem dX7_cheapest_55 : decode cX7_cheapest 55 = .ok (.getfield 37, 3) := by decide +kernel
theorem dX7_cheapest_58 : decode cX7_cheapest 58 = .ok (.iload_n 2, 1) := by decide +kernel
theorem dX7_cheapest_59 : decode cX7_cheapest 59 = .ok (.iaload, 1) := by decide +kernel
theorem dX7_cheapest_60 : decode cX7_cheapest 60 = .ok (.iaload, 1) := by decide +kernel
theorem dX7_cheapest_61 : decode cX7_cheapest 61 = .ok (.aload_n 0, 1) := by decide +kernel
theorem dX7_cheapest_62 : decode cX7_cheapest 62 = .ok (.getfield 46, 3) := by decide +kernel
theorem dX7_cheapest_65 : decode cX7_cheapest 65 = .ok (.iload_n 2, 1) := by decide +kernel
theorem dX7_cheapest_66 : decode cX7_cheapest 66 = .ok (.iaload, 1) := by decide +kernel
theorem dX7_cheapest_67 : decode cX7_cheapest 67 = .ok (.iadd, 1) := by decide +kernel
theorem dX7_cheapest_68 : decode cX7_cheapest 68 = .ok (.istore_n 3, 1) := by decide +kernel
theorem dX7_cheapest_69 : decode cX7_cheapest 69 = .ok (.aload_n 0, 1) := by decide +kernel
theorem dX7_cheapest_70 : decode cX7_cheapest 70 = .ok (.getfield 43, 3) := by decide +kernel
theorem dX7_cheapest_73 : decode cX7_cheapest 73 = .ok (.iload_n 2, 1) := by decide +kernel
theorem dX7_cheapest_74 : decode cX7_cheapest 74 = .ok (.iaload, 1) := by decide +kernel
theorem dX7_cheapest_75 : decode cX7_cheapest 75 = .ok (.ifCond .le 60, 3) := by decide +kernel
theorem dX7_cheapest_78 : decode cX7_cheapest 78 = .ok (.aload_n 0, 1) := by decide +kernel
theorem dX7_cheapest_79 : decode cX7_cheapest 79 = .ok (.getfield 49, 3) := by decide +kernel
theorem dX7_cheapest_82 : decode cX7_cheapest 82 = .ok (.aload_n 0, 1) := by decide +kernel
theorem dX7_cheapest_83 : decode cX7_cheapest 83 = .ok (.getfield 37, 3) := by decide +kernel
theorem dX7_cheapest_86 : decode cX7_cheapest 86 = .ok (.iload_n 2, 1) := by decide +kernel
theorem dX7_cheapest_87 : decode cX7_cheapest 87 = .ok (.iaload, 1) := by decide +kernel
theorem dX7_cheapest_88 : decode cX7_cheapest 88 = .ok (.iaload, 1) := by decide +kernel
theorem dX7_cheapest_89 : decode cX7_cheapest 89 = .ok (.ldc 117, 2) := by decide +kernel
theorem dX7_cheapest_91 : decode cX7_cheapest 91 = .ok (.if_icmp .ge 44, 3) := by decide +kernel
theorem dX7_cheapest_94 : decode cX7_cheapest 94 = .ok (.iload_n 3, 1) := by decide +kernel
theorem dX7_cheapest_95 : decode cX7_cheapest 95 = .ok (.aload_n 0, 1) := by decide +kernel
theorem dX7_cheapest_96 : decode cX7_cheapest 96 = .ok (.getfield 49, 3) := by decide +kernel
theorem dX7_cheapest_99 : decode cX7_cheapest 99 = .ok (.aload_n 0, 1) := by decide +kernel
theorem dX7_cheapest_100 : decode cX7_cheapest 100 = .ok (.getfield 40, 3) := by decide +kernel
theorem dX7_cheapest_103 : decode cX7_cheapest 103 = .ok (.iload_n 2, 1) := by decide +kernel
theorem dX7_cheapest_104 : decode cX7_cheapest 104 = .ok (.iaload, 1) := by decide +kernel
theorem dX7_cheapest_105 : decode cX7_cheapest 105 = .ok (.iaload, 1) := by decide +kernel
theorem dX7_cheapest_106 : decode cX7_cheapest 106 = .ok (.if_icmp .ge 29, 3) := by decide +kernel
theorem dX7_cheapest_109 : decode cX7_cheapest 109 = .ok (.aload_n 0, 1) := by decide +kernel
theorem dX7_cheapest_110 : decode cX7_cheapest 110 = .ok (.getfield 49, 3) := by decide +kernel
theorem dX7_cheapest_113 : decode cX7_cheapest 113 = .ok (.aload_n 0, 1) := by decide +kernel
theorem dX7_cheapest_114 : decode cX7_cheapest 114 = .ok (.getfield 40, 3) := by decide +kernel
theorem dX7_cheapest_117 : decode cX7_cheapest 117 = .ok (.iload_n 2, 1) := by decide +kernel
theorem dX7_cheapest_118 : decode cX7_cheapest 118 = .ok (.iaload, 1) := by decide +kernel
theorem dX7_cheapest_119 : decode cX7_cheapest 119 = .ok (.iload_n 3, 1) := by decide +kernel
theorem dX7_cheapest_120 : decode cX7_cheapest 120 = .ok (.iastore, 1) := by decide +kernel
theorem dX7_cheapest_121 : decode cX7_cheapest 121 = .ok (.aload_n 0, 1) := by decide +kernel
theorem dX7_cheapest_122 : decode cX7_cheapest 122 = .ok (.getfield 52, 3) := by decide +kernel
theorem dX7_cheapest_125 : decode cX7_cheapest 125 = .ok (.aload_n 0, 1) := by decide +kernel
theorem dX7_cheapest_126 : decode cX7_cheapest 126 = .ok (.getfield 40, 3) := by decide +kernel
theorem dX7_cheapest_129 : decode cX7_cheapest 129 = .ok (.iload_n 2, 1) := by decide +kernel
theorem dX7_cheapest_130 : decode cX7_cheapest 130 = .ok (.iaload, 1) := by decide +kernel
theorem dX7_cheapest_131 : decode cX7_cheapest 131 = .ok (.iload_n 2, 1) := by decide +kernel
theorem dX7_cheapest_132 : decode cX7_cheapest 132 = .ok (.iastore, 1) := by decide +kernel
theorem dX7_cheapest_133 : decode cX7_cheapest 133 = .ok (.iconst 1, 1) := by decide +kernel
theorem dX7_cheapest_134 : decode cX7_cheapest 134 = .ok (.istore_n 1, 1) := by decide +kernel
theorem dX7_cheapest_135 : decode cX7_cheapest 135 = .ok (.iinc 2 1, 3) := by decide +kernel
theorem dX7_cheapest_138 : decode cX7_cheapest 138 = .ok (.goto (-96), 3) := by decide +kernel
theorem dX7_cheapest_141 : decode cX7_cheapest 141 = .ok (.goto (-107), 3) := by decide +kernel
theorem dX7_cheapest_144 : decode cX7_cheapest 144 = .ok (.aload_n 0, 1) := by decide +kernel
theorem dX7_cheapest_145 : decode cX7_cheapest 145 = .ok (.getfield 49, 3) := by decide +kernel
theorem dX7_cheapest_148 : decode cX7_cheapest 148 = .ok (.bipush 31, 2) := by decide +kernel
theorem dX7_cheapest_150 : decode cX7_cheapest 150 = .ok (.iaload, 1) := by decide +kernel
theorem dX7_cheapest_151 : decode cX7_cheapest 151 = .ok (.ireturn, 1) := by decide +kernel
set_option maxRecDepth 20000 in
theorem ggX7_leastWith_X7_addArcs : GoodIn wsX7_leastWith wsX7_addArcs := goodIn_r _ [10, 11, 2, 1, 12, 13, 14, 15, 9, 16, 5, 17, 4, 18, 25, 26, 27, 28, 29, 30, 31, 32, 33, 34, 35, 36, 37, 38, 39, 40, 41, 42, 43, 44, 45, 46, 47, 48, 49, 50, 51, 52] (by decide +kernel) (by decide +kernel)
set_option maxRecDepth 20000 in
theorem gX7_leastWith_X7_addArcs : GoodIn wsX7_leastWith (wsV RX7 118 RX7 yX7_addArcs wsX7_addArcs) := goodIn_app (goodIn_of _ (by decide +kernel)) ggX7_leastWith_X7_addArcs
set_option maxRecDepth 20000 in
theorem ggX7_leastWith_X7_cheapest : GoodIn wsX7_leastWith wsX7_cheapest := goodIn_r _ [22, 23, 24, 11, 5, 18, 4, 17, 3, 25, 26, 27, 28, 29, 30, 31, 32, 33, 34, 35, 36, 37, 38, 39, 40, 41, 42, 43, 44, 45, 46, 47, 48, 49, 50, 51, 52] (by decide +kernel) (by decide +kernel)
set_option maxRecDepth 20000 in
theorem gX7_leastWith_X7_cheapest : GoodIn wsX7_leastWith (wsV RX7 122 RX7 yX7_cheapest wsX7_cheapest) := goodIn_app (goodIn_of _ (by decide +kernel)) ggX7_leastWith_X7_cheapest
theorem dX7_leastWith_0 : decode cX7_leastWith 0 = .ok (.aload_n 0, 1) := by decide +kernel
theorem dX7_leastWith_1 : decode cX7_leastWith 1 = .ok (.iload_n 1, 1) := by decide +kernel
theorem dX7_leastWith_2 : decode cX7_leastWith 2 = .ok (.invokevirtual 118, 3) := by decide +kernel
theorem dX7_leastWith_5 : decode cX7_leastWith 5 = .ok (.iconst 0, 1) := by decide +kernel
theorem dX7_leastWith_6 : decode cX7_leastWith 6 = .ok (.istore_n 2, 1) := by decide +kernel
theorem dX7_leastWith_7 : decode cX7_leastWith 7 = .ok (.iconst 0, 1) := by decide +kernel
theorem dX7_leastWith_8 : decode cX7_leastWith 8 = .ok (.istore_n 3, 1) := by decide +kernel
theorem dX7_leastWith_9 : decode cX7_leastWith 9 = .ok (.iload_n 3, 1) := by decide +kernel
theorem dX7_leastWith_10 : decode cX7_leastWith 10 = .ok (.bipush 30, 2) := by decide +kernel
theorem dX7_leastWith_12 : decode cX7_leastWith 12 = .ok (.if_icmp .ge 29, 3) := by decide +kernel
theorem dX7_leastWith_15 : decode cX7_leastWith 15 = .ok (.iload_n 2, 1) := by decide +kernel
theorem dX7_leastWith_16 : decode cX7_leastWith 16 = .ok (.aload_n 0, 1) := by decide +kernel
theorem dX7_leastWith_17 : decode cX7_leastWith 17 = .ok (.getfield 7, 3) := by decide +kernel
theorem dX7_leastWith_20 : decode cX7_leastWith 20 = .ok (.bipush 9, 2) := by decide +kernel
theorem dX7_leastWith_22 : decode cX7_leastWith 22 = .ok (.iaload, 1) := by decide +kernel
theorem dX7_leastWith_23 : decode cX7_leastWith 23 = .ok (.aload_n 0, 1) := by decide +kernel
theorem dX7_leastWith_24 : decode cX7_leastWith 24 = .ok (.getfield 19, 3) := by decide +kernel
theorem dX7_leastWith_27 : decode cX7_leastWith 27 = .ok (.bipush 30, 2) := by decide +kernel
theorem dX7_leastWith_29 : decode cX7_leastWith 29 = .ok (.iload_n 3, 1) := by decide +kernel
theorem dX7_leastWith_30 : decode cX7_leastWith 30 = .ok (.iadd, 1) := by decide +kernel
theorem dX7_leastWith_31 : decode cX7_leastWith 31 = .ok (.iaload, 1) := by decide +kernel
theorem dX7_leastWith_32 : decode cX7_leastWith 32 = .ok (.imul, 1) := by decide +kernel
theorem dX7_leastWith_33 : decode cX7_leastWith 33 = .ok (.iadd, 1) := by decide +kernel
theorem dX7_leastWith_34 : decode cX7_leastWith 34 = .ok (.istore_n 2, 1) := by decide +kernel
theorem dX7_leastWith_35 : decode cX7_leastWith 35 = .ok (.iinc 3 1, 3) := by decide +kernel
theorem dX7_leastWith_38 : decode cX7_leastWith 38 = .ok (.goto (-29), 3) := by decide +kernel
theorem dX7_leastWith_41 : decode cX7_leastWith 41 = .ok (.aload_n 0, 1) := by decide +kernel
theorem dX7_leastWith_42 : decode cX7_leastWith 42 = .ok (.invokevirtual 122, 3) := by decide +kernel
theorem dX7_leastWith_45 : decode cX7_leastWith 45 = .ok (.istore_n 3, 1) := by decide +kernel
theorem dX7_leastWith_46 : decode cX7_leastWith 46 = .ok (.iload_n 3, 1) := by decide +kernel
theorem dX7_leastWith_47 : decode cX7_leastWith 47 = .ok (.aload_n 0, 1) := by decide +kernel
theorem dX7_leastWith_48 : decode cX7_leastWith 48 = .ok (.getfield 7, 3) := by decide +kernel
theorem dX7_leastWith_51 : decode cX7_leastWith 51 = .ok (.bipush 9, 2) := by decide +kernel
theorem dX7_leastWith_53 : decode cX7_leastWith 53 = .ok (.iaload, 1) := by decide +kernel
theorem dX7_leastWith_54 : decode cX7_leastWith 54 = .ok (.if_icmp .ge 93, 3) := by decide +kernel
theorem dX7_leastWith_57 : decode cX7_leastWith 57 = .ok (.iload_n 2, 1) := by decide +kernel
theorem dX7_leastWith_58 : decode cX7_leastWith 58 = .ok (.iload_n 3, 1) := by decide +kernel
theorem dX7_leastWith_59 : decode cX7_leastWith 59 = .ok (.aload_n 0, 1) := by decide +kernel
theorem dX7_leastWith_60 : decode cX7_leastWith 60 = .ok (.getfield 7, 3) := by decide +kernel
theorem dX7_leastWith_63 : decode cX7_leastWith 63 = .ok (.bipush 9, 2) := by decide +kernel
theorem dX7_leastWith_65 : decode cX7_leastWith 65 = .ok (.iaload, 1) := by decide +kernel
theorem dX7_leastWith_66 : decode cX7_leastWith 66 = .ok (.isub, 1) := by decide +kernel
theorem dX7_leastWith_67 : decode cX7_leastWith 67 = .ok (.iadd, 1) := by decide +kernel
theorem dX7_leastWith_68 : decode cX7_leastWith 68 = .ok (.istore_n 2, 1) := by decide +kernel
theorem dX7_leastWith_69 : decode cX7_leastWith 69 = .ok (.bipush 31, 2) := by decide +kernel
theorem dX7_leastWith_71 : decode cX7_leastWith 71 = .ok (.istore 4, 2) := by decide +kernel
theorem dX7_leastWith_73 : decode cX7_leastWith 73 = .ok (.iload 4, 2) := by decide +kernel
theorem dX7_leastWith_75 : decode cX7_leastWith 75 = .ok (.bipush 30, 2) := by decide +kernel
theorem dX7_leastWith_77 : decode cX7_leastWith 77 = .ok (.if_icmp .eq 62, 3) := by decide +kernel
theorem dX7_leastWith_80 : decode cX7_leastWith 80 = .ok (.aload_n 0, 1) := by decide +kernel
theorem dX7_leastWith_81 : decode cX7_leastWith 81 = .ok (.getfield 52, 3) := by decide +kernel
theorem dX7_leastWith_84 : decode cX7_leastWith 84 = .ok (.iload 4, 2) := by decide +kernel
theorem dX7_leastWith_86 : decode cX7_leastWith 86 = .ok (.iaload, 1) := by decide +kernel
theorem dX7_leastWith_87 : decode cX7_leastWith 87 = .ok (.istore 5, 2) := by decide +kernel
theorem dX7_leastWith_89 : decode cX7_leastWith 89 = .ok (.aload_n 0, 1) := by decide +kernel
theorem dX7_leastWith_90 : decode cX7_leastWith 90 = .ok (.getfield 43, 3) := by decide +kernel
theorem dX7_leastWith_93 : decode cX7_leastWith 93 = .ok (.iload 5, 2) := by decide +kernel
theorem dX7_leastWith_95 : decode cX7_leastWith 95 = .ok (.dup2, 1) := by decide +kernel
theorem dX7_leastWith_96 : decode cX7_leastWith 96 = .ok (.iaload, 1) := by decide +kernel
theorem dX7_leastWith_97 : decode cX7_leastWith 97 = .ok (.iconst 1, 1) := by decide +kernel
theorem dX7_leastWith_98 : decode cX7_leastWith 98 = .ok (.isub, 1) := by decide +kernel
theorem dX7_leastWith_99 : decode cX7_leastWith 99 = .ok (.iastore, 1) := by decide +kernel
theorem dX7_leastWith_100 : decode cX7_leastWith 100 = .ok (.aload_n 0, 1) := by decide +kernel
theorem dX7_leastWith_101 : decode cX7_leastWith 101 = .ok (.getfield 43, 3) := by decide +kernel
theorem dX7_leastWith_104 : decode cX7_leastWith 104 = .ok (.iload 5, 2) := by decide +kernel
theorem dX7_leastWith_106 : decode cX7_leastWith 106 = .ok (.iconst 2, 1) := by decide +kernel
theorem dX7_leastWith_107 : decode cX7_leastWith 107 = .ok (.irem, 1) := by decide +kernel
theorem dX7_leastWith_108 : decode cX7_leastWith 108 = .ok (.ifCond .ne 10, 3) := by decide +kernel
theorem dX7_leastWith_111 : decode cX7_leastWith 111 = .ok (.iload 5, 2) := by decide +kernel
theorem dX7_leastWith_113 : decode cX7_leastWith 113 = .ok (.iconst 1, 1) := by decide +kernel
theorem dX7_leastWith_114 : decode cX7_leastWith 114 = .ok (.iadd, 1) := by decide +kernel
theorem dX7_leastWith_115 : decode cX7_leastWith 115 = .ok (.goto 7, 3) := by decide +kernel
theorem dX7_leastWith_118 : decode cX7_leastWith 118 = .ok (.iload 5, 2) := by decide +kernel
theorem dX7_leastWith_120 : decode cX7_leastWith 120 = .ok (.iconst 1, 1) := by decide +kernel
theorem dX7_leastWith_121 : decode cX7_leastWith 121 = .ok (.isub, 1) := by decide +kernel
theorem dX7_leastWith_122 : decode cX7_leastWith 122 = .ok (.dup2, 1) := by decide +kernel
theorem dX7_leastWith_123 : decode cX7_leastWith 123 = .ok (.iaload, 1) := by decide +kernel
theorem dX7_leastWith_124 : decode cX7_leastWith 124 = .ok (.iconst 1, 1) := by decide +kernel
theorem dX7_leastWith_125 : decode cX7_leastWith 125 = .ok (.iadd, 1) := by decide +kernel
theorem dX7_leastWith_126 : decode cX7_leastWith 126 = .ok (.iastore, 1) := by decide +kernel
theorem dX7_leastWith_127 : decode cX7_leastWith 127 = .ok (.aload_n 0, 1) := by decide +kernel
theorem dX7_leastWith_128 : decode cX7_leastWith 128 = .ok (.getfield 37, 3) := by decide +kernel
theorem dX7_leastWith_131 : decode cX7_leastWith 131 = .ok (.iload 5, 2) := by decide +kernel
theorem dX7_leastWith_133 : decode cX7_leastWith 133 = .ok (.iaload, 1) := by decide +kernel
theorem dX7_leastWith_134 : decode cX7_leastWith 134 = .ok (.istore 4, 2) := by decide +kernel
theorem dX7_leastWith_136 : decode cX7_leastWith 136 = .ok (.goto (-63), 3) := by decide +kernel
theorem dX7_leastWith_139 : decode cX7_leastWith 139 = .ok (.aload_n 0, 1) := by decide +kernel
theorem dX7_leastWith_140 : decode cX7_leastWith 140 = .ok (.invokevirtual 122, 3) := by decide +kernel
theorem dX7_leastWith_143 : decode cX7_leastWith 143 = .ok (.istore_n 3, 1) := by decide +kernel
theorem dX7_leastWith_144 : decode cX7_leastWith 144 = .ok (.goto (-98), 3) := by decide +kernel
theorem dX7_leastWith_147 : decode cX7_leastWith 147 = .ok (.iload_n 2, 1) := by decide +kernel
theorem dX7_leastWith_148 : decode cX7_leastWith 148 = .ok (.ireturn, 1) := by decide +kernel
set_option maxRecDepth 20000 in
theorem ggX7_least_X7_leastWith : GoodIn wsX7_least wsX7_leastWith := goodIn_r _ [5, 6, 7, 8, 9, 10, 11, 12, 13, 4, 14, 15, 16, 17, 18, 19, 20, 21, 22, 23, 24, 25, 26, 27, 28, 29, 30, 31, 32, 33, 34, 35, 36, 37, 38, 39, 40, 41, 42, 43, 44, 45, 46, 47, 48, 49, 50, 51, 52, 53, 54, 55, 56] (by decide +kernel) (by decide +kernel)
set_option maxRecDepth 20000 in
theorem gX7_least_X7_leastWith : GoodIn wsX7_least (wsV RX7 126 RX7 yX7_leastWith wsX7_leastWith) := goodIn_app (goodIn_of _ (by decide +kernel)) ggX7_least_X7_leastWith
theorem dX7_least_0 : decode cX7_least 0 = .ok (.aload_n 0, 1) := by decide +kernel
theorem dX7_least_1 : decode cX7_least 1 = .ok (.iconst (-1), 1) := by decide +kernel
theorem dX7_least_2 : decode cX7_least 2 = .ok (.invokevirtual 126, 3) := by decide +kernel
theorem dX7_least_5 : decode cX7_least 5 = .ok (.ireturn, 1) := by decide +kernel
set_option maxRecDepth 20000 in
theorem ggX7_worth_X7_isPlace : GoodIn wsX7_worth wsX7_isPlace := goodIn_r _ [4, 5, 6, 3, 7] (by decide +kernel) (by decide +kernel)
set_option maxRecDepth 20000 in
theorem gX7_worth_X7_isPlace : GoodIn wsX7_worth (va_wsS RX7 90 yX7_isPlace wsX7_isPlace) := goodIn_app (goodIn_of _ (by decide +kernel)) ggX7_worth_X7_isPlace
set_option maxRecDepth 20000 in
theorem ggX7_worth_X7_in : GoodIn wsX7_worth wsX7_in := goodIn_r _ [7] (by decide +kernel) (by decide +kernel)
set_option maxRecDepth 20000 in
theorem gX7_worth_X7_in : GoodIn wsX7_worth (va_wsS RX7 64 yX7_in wsX7_in) := goodIn_app (goodIn_of _ (by decide +kernel)) ggX7_worth_X7_in
set_option maxRecDepth 20000 in
theorem ggX7_worth_X7_leastWith : GoodIn wsX7_worth wsX7_leastWith := goodIn_r _ [11, 12, 13, 14, 15, 16, 17, 18, 19, 3, 20, 21, 22, 23, 24, 25, 26, 27, 28, 29, 30, 31, 32, 33, 34, 35, 36, 37, 38, 39, 40, 41, 42, 43, 44, 45, 46, 47, 48, 49, 50, 51, 52, 53, 54, 55, 56, 57, 58, 59, 60, 61, 62] (by decide +kernel) (by decide +kernel)
set_option maxRecDepth 20000 in
theorem gX7_worth_X7_leastWith : GoodIn wsX7_worth (wsV RX7 126 RX7 yX7_leastWith wsX7_leastWith) := goodIn_app (goodIn_of _ (by decide +kernel)) ggX7_worth_X7_leastWith
theorem dX7_worth_0 : decode cX7_worth 0 = .ok (.iload_n 1, 1) := by decide +kernel
theorem dX7_worth_1 : decode cX7_worth 1 = .ok (.invokestatic 90, 3) := by decide +kernel
theorem dX7_worth_4 : decode cX7_worth 4 = .ok (.ifCond .eq 30, 3) := by decide +kernel
theorem dX7_worth_7 : decode cX7_worth 7 = .ok (.iload_n 2, 1) := by decide +kernel
theorem dX7_worth_8 : decode cX7_worth 8 = .ok (.iconst 0, 1) := by decide +kernel
theorem dX7_worth_9 : decode cX7_worth 9 = .ok (.iconst 4, 1) := by decide +kernel
theorem dX7_worth_10 : decode cX7_worth 10 = .ok (.invokestatic 64, 3) := by decide +kernel
theorem dX7_worth_13 : decode cX7_worth 13 = .ok (.ifCond .eq 21, 3) := by decide +kernel
theorem dX7_worth_16 : decode cX7_worth 16 = .ok (.aload_n 0, 1) := by decide +kernel
theorem dX7_worth_17 : decode cX7_worth 17 = .ok (.iconst (-1), 1) := by decide +kernel
theorem dX7_worth_18 : decode cX7_worth 18 = .ok (.invokevirtual 126, 3) := by decide +kernel
theorem dX7_worth_21 : decode cX7_worth 21 = .ok (.aload_n 0, 1) := by decide +kernel
theorem dX7_worth_22 : decode cX7_worth 22 = .ok (.iconst 5, 1) := by decide +kernel
theorem dX7_worth_23 : decode cX7_worth 23 = .ok (.iload_n 1, 1) := by decide +kernel
theorem dX7_worth_24 : decode cX7_worth 24 = .ok (.imul, 1) := by decide +kernel
theorem dX7_worth_25 : decode cX7_worth 25 = .ok (.iload_n 2, 1) := by decide +kernel
theorem dX7_worth_26 : decode cX7_worth 26 = .ok (.iadd, 1) := by decide +kernel
theorem dX7_worth_27 : decode cX7_worth 27 = .ok (.invokevirtual 126, 3) := by decide +kernel
theorem dX7_worth_30 : decode cX7_worth 30 = .ok (.isub, 1) := by decide +kernel
theorem dX7_worth_31 : decode cX7_worth 31 = .ok (.goto 4, 3) := by decide +kernel
theorem dX7_worth_34 : decode cX7_worth 34 = .ok (.iconst (-1), 1) := by decide +kernel
theorem dX7_worth_35 : decode cX7_worth 35 = .ok (.ireturn, 1) := by decide +kernel
set_option maxRecDepth 20000 in
theorem ggX7_turn_X7_isPlace : GoodIn wsX7_turn wsX7_isPlace := goodIn_r _ [6, 7, 8, 5, 9] (by decide +kernel) (by decide +kernel)
set_option maxRecDepth 20000 in
theorem gX7_turn_X7_isPlace : GoodIn wsX7_turn (va_wsS RX7 90 yX7_isPlace wsX7_isPlace) := goodIn_app (goodIn_of _ (by decide +kernel)) ggX7_turn_X7_isPlace
set_option maxRecDepth 20000 in
theorem ggX7_turn_X7_isLine : GoodIn wsX7_turn wsX7_isLine := goodIn_r _ [12, 7, 8, 5, 9] (by decide +kernel) (by decide +kernel)
set_option maxRecDepth 20000 in
theorem gX7_turn_X7_isLine : GoodIn wsX7_turn (va_wsS RX7 72 yX7_isLine wsX7_isLine) := goodIn_app (goodIn_of _ (by decide +kernel)) ggX7_turn_X7_isLine
set_option maxRecDepth 20000 in
theorem ggX7_turn_X7_in : GoodIn wsX7_turn wsX7_in := goodIn_r _ [9] (by decide +kernel) (by decide +kernel)
set_option maxRecDepth 20000 in
theorem gX7_turn_X7_in : GoodIn wsX7_turn (va_wsS RX7 64 yX7_in wsX7_in) := goodIn_app (goodIn_of _ (by decide +kernel)) ggX7_turn_X7_in
set_option maxRecDepth 20000 in
theorem ggX7_turn_X7_isDay : GoodIn wsX7_turn wsX7_isDay := goodIn_r _ [15, 7, 8, 5, 9] (by decide +kernel) (by decide +kernel)
set_option maxRecDepth 20000 in
theorem gX7_turn_X7_isDay : GoodIn wsX7_turn (va_wsS RX7 97 yX7_isDay wsX7_isDay) := goodIn_app (goodIn_of _ (by decide +kernel)) ggX7_turn_X7_isDay
theorem dX7_turn_0 : decode cX7_turn 0 = .ok (.iload_n 2, 1) := by decide +kernel
theorem dX7_turn_1 : decode cX7_turn 1 = .ok (.invokestatic 90, 3) := by decide +kernel
theorem dX7_turn_4 : decode cX7_turn 4 = .ok (.ifCond .eq 43, 3) := by decide +kernel
theorem dX7_turn_7 : decode cX7_turn 7 = .ok (.iload_n 3, 1) := by decide +kernel
theorem dX7_turn_8 : decode cX7_turn 8 = .ok (.invokestatic 72, 3) := by decide +kernel
theorem dX7_turn_11 : decode cX7_turn 11 = .ok (.ifCond .eq 36, 3) := by decide +kernel
theorem dX7_turn_14 : decode cX7_turn 14 = .ok (.iload 4, 2) := by decide +kernel
theorem dX7_turn_16 : decode cX7_turn 16 = .ok (.iconst 0, 1) := by decide +kernel
theorem dX7_turn_17 : decode cX7_turn 17 = .ok (.iconst 2, 1) := by decide +kernel
theorem dX7_turn_18 : decode cX7_turn 18 = .ok (.invokestatic 64, 3) := by decide +kernel
theorem dX7_turn_21 : decode cX7_turn 21 = .ok (.ifCond .eq 26, 3) := by decide +kernel
theorem dX7_turn_24 : decode cX7_turn 24 = .ok (.iload 5, 2) := by decide +kernel
theorem dX7_turn_26 : decode cX7_turn 26 = .ok (.invokestatic 97, 3) := by decide +kernel
theorem dX7_turn_29 : decode cX7_turn 29 = .ok (.ifCond .eq 18, 3) := by decide +kernel
theorem dX7_turn_32 : decode cX7_turn 32 = .ok (.iload 6, 2) := by decide +kernel
theorem dX7_turn_34 : decode cX7_turn 34 = .ok (.invokestatic 97, 3) := by decide +kernel
theorem dX7_turn_37 : decode cX7_turn 37 = .ok (.ifCond .eq 10, 3) := by decide +kernel
theorem dX7_turn_40 : decode cX7_turn 40 = .ok (.iload 6, 2) := by decide +kernel
theorem dX7_turn_42 : decode cX7_turn 42 = .ok (.iload 5, 2) := by decide +kernel
theorem dX7_turn_44 : decode cX7_turn 44 = .ok (.if_icmp .ge 5, 3) := by decide +kernel
theorem dX7_turn_47 : decode cX7_turn 47 = .ok (.iconst (-1), 1) := by decide +kernel
theorem dX7_turn_48 : decode cX7_turn 48 = .ok (.ireturn, 1) := by decide +kernel
theorem dX7_turn_49 : decode cX7_turn 49 = .ok (.iload_n 1, 1) := by decide +kernel
theorem dX7_turn_50 : decode cX7_turn 50 = .ok (.ifCond .eq 7, 3) := by decide +kernel
theorem dX7_turn_53 : decode cX7_turn 53 = .ok (.iconst 5, 1) := by decide +kernel
theorem dX7_turn_54 : decode cX7_turn 54 = .ok (.goto 4, 3) := by decide +kernel
theorem dX7_turn_57 : decode cX7_turn 57 = .ok (.iconst 4, 1) := by decide +kernel
theorem dX7_turn_58 : decode cX7_turn 58 = .ok (.istore 7, 2) := by decide +kernel
theorem dX7_turn_60 : decode cX7_turn 60 = .ok (.aload_n 0, 1) := by decide +kernel
theorem dX7_turn_61 : decode cX7_turn 61 = .ok (.getfield 7, 3) := by decide +kernel
theorem dX7_turn_64 : decode cX7_turn 64 = .ok (.iload 7, 2) := by decide +kernel
theorem dX7_turn_66 : decode cX7_turn 66 = .ok (.iaload, 1) := by decide +kernel
theorem dX7_turn_67 : decode cX7_turn 67 = .ok (.bipush 7, 2) := by decide +kernel
theorem dX7_turn_69 : decode cX7_turn 69 = .ok (.if_icmp .ne 6, 3) := by decide +kernel
theorem dX7_turn_72 : decode cX7_turn 72 = .ok (.bipush (-2), 2) := by decide +kernel
theorem dX7_turn_74 : decode cX7_turn 74 = .ok (.ireturn, 1) := by decide +kernel
theorem dX7_turn_75 : decode cX7_turn 75 = .ok (.iconst 5, 1) := by decide +kernel
theorem dX7_turn_76 : decode cX7_turn 76 = .ok (.aload_n 0, 1) := by decide +kernel
theorem dX7_turn_77 : decode cX7_turn 77 = .ok (.getfield 7, 3) := by decide +kernel
theorem dX7_turn_80 : decode cX7_turn 80 = .ok (.iload 7, 2) := by decide +kernel
theorem dX7_turn_82 : decode cX7_turn 82 = .ok (.iaload, 1) := by decide +kernel
theorem dX7_turn_83 : decode cX7_turn 83 = .ok (.imul, 1) := by decide +kernel
theorem dX7_turn_84 : decode cX7_turn 84 = .ok (.iload_n 1, 1) := by decide +kernel
theorem dX7_turn_85 : decode cX7_turn 85 = .ok (.ifCond .eq 8, 3) := by decide +kernel
theorem dX7_turn_88 : decode cX7_turn 88 = .ok (.bipush 35, 2) := by decide +kernel
theorem dX7_turn_90 : decode cX7_turn 90 = .ok (.goto 4, 3) := by decide +kernel
theorem dX7_turn_93 : decode cX7_turn 93 = .ok (.iconst 0, 1) := by decide +kernel
theorem dX7_turn_94 : decode cX7_turn 94 = .ok (.iadd, 1) := by decide +kernel
theorem dX7_turn_95 : decode cX7_turn 95 = .ok (.istore 8, 2) := by decide +kernel
theorem dX7_turn_97 : decode cX7_turn 97 = .ok (.aload_n 0, 1) := by decide +kernel
theorem dX7_turn_98 : decode cX7_turn 98 = .ok (.getfield 25, 3) := by decide +kernel
theorem dX7_turn_101 : decode cX7_turn 101 = .ok (.iload 8, 2) := by decide +kernel
theorem dX7_turn_103 : decode cX7_turn 103 = .ok (.iload_n 2, 1) := by decide +kernel
theorem dX7_turn_104 : decode cX7_turn 104 = .ok (.iastore, 1) := by decide +kernel
theorem dX7_turn_105 : decode cX7_turn 105 = .ok (.aload_n 0, 1) := by decide +kernel
theorem dX7_turn_106 : decode cX7_turn 106 = .ok (.getfield 25, 3) := by decide +kernel
theorem dX7_turn_109 : decode cX7_turn 109 = .ok (.iload 8, 2) := by decide +kernel
theorem dX7_turn_111 : decode cX7_turn 111 = .ok (.iconst 1, 1) := by decide +kernel
theorem dX7_turn_112 : decode cX7_turn 112 = .ok (.iadd, 1) := by decide +kernel
theorem dX7_turn_113 : decode cX7_turn 113 = .ok (.iload_n 3, 1) := by decide +kernel
theorem dX7_turn_114 : decode cX7_turn 114 = .ok (.iastore, 1) := by decide +kernel
theorem dX7_turn_115 : decode cX7_turn 115 = .ok (.aload_n 0, 1) := by decide +kernel
theorem dX7_turn_116 : decode cX7_turn 116 = .ok (.getfield 25, 3) := by decide +kernel
theorem dX7_turn_119 : decode cX7_turn 119 = .ok (.iload 8, 2) := by decide +kernel
theorem dX7_turn_121 : decode cX7_turn 121 = .ok (.iconst 2, 1) := by decide +kernel
theorem dX7_turn_122 : decode cX7_turn 122 = .ok (.iadd, 1) := by decide +kernel
theorem dX7_turn_123 : decode cX7_turn 123 = .ok (.iload 4, 2) := by decide +kernel
theorem dX7_turn_125 : decode cX7_turn 125 = .ok (.iastore, 1) := by decide +kernel
theorem dX7_turn_126 : decode cX7_turn 126 = .ok (.aload_n 0, 1) := by decide +kernel
theorem dX7_turn_127 : decode cX7_turn 127 = .ok (.getfield 25, 3) := by decide +kernel
theorem dX7_turn_130 : decode cX7_turn 130 = .ok (.iload 8, 2) := by decide +kernel
theorem dX7_turn_132 : decode cX7_turn 132 = .ok (.iconst 3, 1) := by decide +kernel
theorem dX7_turn_133 : decode cX7_turn 133 = .ok (.iadd, 1) := by decide +kernel
theorem dX7_turn_134 : decode cX7_turn 134 = .ok (.iload 5, 2) := by decide +kernel
theorem dX7_turn_136 : decode cX7_turn 136 = .ok (.iastore, 1) := by decide +kernel
theorem dX7_turn_137 : decode cX7_turn 137 = .ok (.aload_n 0, 1) := by decide +kernel
theorem dX7_turn_138 : decode cX7_turn 138 = .ok (.getfield 25, 3) := by decide +kernel
theorem dX7_turn_141 : decode cX7_turn 141 = .ok (.iload 8, 2) := by decide +kernel
theorem dX7_turn_143 : decode cX7_turn 143 = .ok (.iconst 4, 1) := by decide +kernel
theorem dX7_turn_144 : decode cX7_turn 144 = .ok (.iadd, 1) := by decide +kernel
theorem dX7_turn_145 : decode cX7_turn 145 = .ok (.iload 6, 2) := by decide +kernel
theorem dX7_turn_147 : decode cX7_turn 147 = .ok (.iastore, 1) := by decide +kernel
theorem dX7_turn_148 : decode cX7_turn 148 = .ok (.aload_n 0, 1) := by decide +kernel
theorem dX7_turn_149 : decode cX7_turn 149 = .ok (.getfield 7, 3) := by decide +kernel
theorem dX7_turn_152 : decode cX7_turn 152 = .ok (.iload 7, 2) := by decide +kernel
theorem dX7_turn_154 : decode cX7_turn 154 = .ok (.dup2, 1) := by decide +kernel
theorem dX7_turn_155 : decode cX7_turn 155 = .ok (.iaload, 1) := by decide +kernel
theorem dX7_turn_156 : decode cX7_turn 156 = .ok (.iconst 1, 1) := by decide +kernel
theorem dX7_turn_157 : decode cX7_turn 157 = .ok (.iadd, 1) := by decide +kernel
theorem dX7_turn_158 : decode cX7_turn 158 = .ok (.iastore, 1) := by decide +kernel
theorem dX7_turn_159 : decode cX7_turn 159 = .ok (.aload_n 0, 1) := by decide +kernel
theorem dX7_turn_160 : decode cX7_turn 160 = .ok (.getfield 7, 3) := by decide +kernel
theorem dX7_turn_163 : decode cX7_turn 163 = .ok (.iload 7, 2) := by decide +kernel
theorem dX7_turn_165 : decode cX7_turn 165 = .ok (.iaload, 1) := by decide +kernel
theorem dX7_turn_166 : decode cX7_turn 166 = .ok (.iconst 1, 1) := by decide +kernel
theorem dX7_turn_167 : decode cX7_turn 167 = .ok (.isub, 1) := by decide +kernel
theorem dX7_turn_168 : decode cX7_turn 168 = .ok (.ireturn, 1) := by decide +kernel
set_option maxRecDepth 20000 in
theorem ggX7_leave_X7_isLine : GoodIn wsX7_leave wsX7_isLine := goodIn_r _ [5, 6, 7, 4, 8] (by decide +kernel) (by decide +kernel)
set_option maxRecDepth 20000 in
theorem gX7_leave_X7_isLine : GoodIn wsX7_leave (va_wsS RX7 72 yX7_isLine wsX7_isLine) := goodIn_app (goodIn_of _ (by decide +kernel)) ggX7_leave_X7_isLine
theorem dX7_leave_0 : decode cX7_leave 0 = .ok (.iload_n 1, 1) := by decide +kernel
theorem dX7_leave_1 : decode cX7_leave 1 = .ok (.invokestatic 72, 3) := by decide +kernel
theorem dX7_leave_4 : decode cX7_leave 4 = .ok (.ifCond .eq 15, 3) := by decide +kernel
theorem dX7_leave_7 : decode cX7_leave 7 = .ok (.iload_n 2, 1) := by decide +kernel
theorem dX7_leave_8 : decode cX7_leave 8 = .ok (.invokestatic 72, 3) := by decide +kernel
theorem dX7_leave_11 : decode cX7_leave 11 = .ok (.ifCond .eq 8, 3) := by decide +kernel
theorem dX7_leave_14 : decode cX7_leave 14 = .ok (.iload_n 1, 1) := by decide +kernel
theorem dX7_leave_15 : decode cX7_leave 15 = .ok (.iload_n 2, 1) := by decide +kernel
theorem dX7_leave_16 : decode cX7_leave 16 = .ok (.if_icmp .ne 5, 3) := by decide +kernel
theorem dX7_leave_19 : decode cX7_leave 19 = .ok (.iconst (-1), 1) := by decide +kernel
theorem dX7_leave_20 : decode cX7_leave 20 = .ok (.ireturn, 1) := by decide +kernel
theorem dX7_leave_21 : decode cX7_leave 21 = .ok (.iload_n 3, 1) := by decide +kernel
theorem dX7_leave_22 : decode cX7_leave 22 = .ok (.ifCond .eq 7, 3) := by decide +kernel
theorem dX7_leave_25 : decode cX7_leave 25 = .ok (.iconst 1, 1) := by decide +kernel
theorem dX7_leave_26 : decode cX7_leave 26 = .ok (.goto 4, 3) := by decide +kernel
theorem dX7_leave_29 : decode cX7_leave 29 = .ok (.iconst 0, 1) := by decide +kernel
theorem dX7_leave_30 : decode cX7_leave 30 = .ok (.istore 4, 2) := by decide +kernel
theorem dX7_leave_32 : decode cX7_leave 32 = .ok (.aload_n 0, 1) := by decide +kernel
theorem dX7_leave_33 : decode cX7_leave 33 = .ok (.getfield 28, 3) := by decide +kernel
theorem dX7_leave_36 : decode cX7_leave 36 = .ok (.iconst 4, 1) := by decide +kernel
theorem dX7_leave_37 : decode cX7_leave 37 = .ok (.iload_n 1, 1) := by decide +kernel
theorem dX7_leave_38 : decode cX7_leave 38 = .ok (.imul, 1) := by decide +kernel
theorem dX7_leave_39 : decode cX7_leave 39 = .ok (.iload_n 2, 1) := by decide +kernel
theorem dX7_leave_40 : decode cX7_leave 40 = .ok (.iadd, 1) := by decide +kernel
theorem dX7_leave_41 : decode cX7_leave 41 = .ok (.iaload, 1) := by decide +kernel
theorem dX7_leave_42 : decode cX7_leave 42 = .ok (.iload 4, 2) := by decide +kernel
theorem dX7_leave_44 : decode cX7_leave 44 = .ok (.if_icmp .ne 7, 3) := by decide +kernel
theorem dX7_leave_47 : decode cX7_leave 47 = .ok (.iconst 0, 1) := by decide +kernel
theorem dX7_leave_48 : decode cX7_leave 48 = .ok (.goto 4, 3) := by decide +kernel
theorem dX7_leave_51 : decode cX7_leave 51 = .ok (.iconst 1, 1) := by decide +kernel
theorem dX7_leave_52 : decode cX7_leave 52 = .ok (.istore 5, 2) := by decide +kernel
theorem dX7_leave_54 : decode cX7_leave 54 = .ok (.aload_n 0, 1) := by decide +kernel
theorem dX7_leave_55 : decode cX7_leave 55 = .ok (.getfield 28, 3) := by decide +kernel
theorem dX7_leave_58 : decode cX7_leave 58 = .ok (.iconst 4, 1) := by decide +kernel
theorem dX7_leave_59 : decode cX7_leave 59 = .ok (.iload_n 1, 1) := by decide +kernel
theorem dX7_leave_60 : decode cX7_leave 60 = .ok (.imul, 1) := by decide +kernel
theorem dX7_leave_61 : decode cX7_leave 61 = .ok (.iload_n 2, 1) := by decide +kernel
theorem dX7_leave_62 : decode cX7_leave 62 = .ok (.iadd, 1) := by decide +kernel
theorem dX7_leave_63 : decode cX7_leave 63 = .ok (.iload 4, 2) := by decide +kernel
theorem dX7_leave_65 : decode cX7_leave 65 = .ok (.iastore, 1) := by decide +kernel
theorem dX7_leave_66 : decode cX7_leave 66 = .ok (.aload_n 0, 1) := by decide +kernel
theorem dX7_leave_67 : decode cX7_leave 67 = .ok (.getfield 28, 3) := by decide +kernel
theorem dX7_leave_70 : decode cX7_leave 70 = .ok (.iconst 4, 1) := by decide +kernel
theorem dX7_leave_71 : decode cX7_leave 71 = .ok (.iload_n 2, 1) := by decide +kernel
theorem dX7_leave_72 : decode cX7_leave 72 = .ok (.imul, 1) := by decide +kernel
theorem dX7_leave_73 : decode cX7_leave 73 = .ok (.iload_n 1, 1) := by decide +kernel
theorem dX7_leave_74 : decode cX7_leave 74 = .ok (.iadd, 1) := by decide +kernel
theorem dX7_leave_75 : decode cX7_leave 75 = .ok (.iload 4, 2) := by decide +kernel
theorem dX7_leave_77 : decode cX7_leave 77 = .ok (.iastore, 1) := by decide +kernel
theorem dX7_leave_78 : decode cX7_leave 78 = .ok (.iload 5, 2) := by decide +kernel
theorem dX7_leave_80 : decode cX7_leave 80 = .ok (.ireturn, 1) := by decide +kernel
theorem dX7_isNear_0 : decode cX7_isNear 0 = .ok (.iload_n 1, 1) := by decide +kernel
theorem dX7_isNear_1 : decode cX7_isNear 1 = .ok (.iload_n 2, 1) := by decide +kernel
theorem dX7_isNear_2 : decode cX7_isNear 2 = .ok (.if_icmp .ne 7, 3) := by decide +kernel
theorem dX7_isNear_5 : decode cX7_isNear 5 = .ok (.iconst 1, 1) := by decide +kernel
theorem dX7_isNear_6 : decode cX7_isNear 6 = .ok (.goto 4, 3) := by decide +kernel
theorem dX7_isNear_9 : decode cX7_isNear 9 = .ok (.iconst 0, 1) := by decide +kernel
theorem dX7_isNear_10 : decode cX7_isNear 10 = .ok (.istore_n 3, 1) := by decide +kernel
theorem dX7_isNear_11 : decode cX7_isNear 11 = .ok (.iconst 0, 1) := by decide +kernel
theorem dX7_isNear_12 : decode cX7_isNear 12 = .ok (.istore 4, 2) := by decide +kernel
theorem dX7_isNear_14 : decode cX7_isNear 14 = .ok (.iload 4, 2) := by decide +kernel
theorem dX7_isNear_16 : decode cX7_isNear 16 = .ok (.aload_n 0, 1) := by decide +kernel
theorem dX7_isNear_17 : decode cX7_isNear 17 = .ok (.getfield 7, 3) := by decide +kernel
theorem dX7_isNear_20 : decode cX7_isNear 20 = .ok (.iconst 3, 1) := by decide +kernel
theorem dX7_isNear_21 : decode cX7_isNear 21 = .ok (.iaload, 1) := by decide +kernel
theorem dX7_isNear_22 : decode cX7_isNear 22 = .ok (.if_icmp .ge 87, 3) := by decide +kernel
theorem dX7_isNear_25 : decode cX7_isNear 25 = .ok (.aload_n 0, 1) := by decide +kernel
theorem dX7_isNear_26 : decode cX7_isNear 26 = .ok (.getfield 22, 3) := by decide +kernel
theorem dX7_isNear_29 : decode cX7_isNear 29 = .ok (.iconst 5, 1) := by decide +kernel
theorem dX7_isNear_30 : decode cX7_isNear 30 = .ok (.iload 4, 2) := by decide +kernel
theorem dX7_isNear_32 : decode cX7_isNear 32 = .ok (.imul, 1) := by decide +kernel
theorem dX7_isNear_33 : decode cX7_isNear 33 = .ok (.iaload, 1) := by decide +kernel
theorem dX7_isNear_34 : decode cX7_isNear 34 = .ok (.iload_n 1, 1) := by decide +kernel
theorem dX7_isNear_35 : decode cX7_isNear 35 = .ok (.if_icmp .ne 22, 3) := by decide +kernel
theorem dX7_isNear_38 : decode cX7_isNear 38 = .ok (.aload_n 0, 1) := by decide +kernel
theorem dX7_isNear_39 : decode cX7_isNear 39 = .ok (.getfield 22, 3) := by decide +kernel
theorem dX7_isNear_42 : decode cX7_isNear 42 = .ok (.iconst 5, 1) := by decide +kernel
theorem dX7_isNear_43 : decode cX7_isNear 43 = .ok (.iload 4, 2) := by decide +kernel
theorem dX7_isNear_45 : decode cX7_isNear 45 = .ok (.imul, 1) := by decide +kernel
theorem dX7_isNear_46 : decode cX7_isNear 46 = .ok (.iconst 1, 1) := by decide +kernel
theorem dX7_isNear_47 : decode cX7_isNear 47 = .ok (.iadd, 1) := by decide +kernel
theorem dX7_isNear_48 : decode cX7_isNear 48 = .ok (.iaload, 1) := by decide +kernel
theorem dX7_isNear_49 : decode cX7_isNear 49 = .ok (.iload_n 2, 1) := by decide +kernel
theorem dX7_isNear_50 : decode cX7_isNear 50 = .ok (.if_icmp .ne 7, 3) := by decide +kernel
theorem dX7_isNear_53 : decode cX7_isNear 53 = .ok (.iconst 1, 1) := by decide +kernel
theorem dX7_isNear_54 : decode cX7_isNear 54 = .ok (.goto 4, 3) := by decide +kernel
theorem dX7_isNear_57 : decode cX7_isNear 57 = .ok (.iconst 0, 1) := by decide +kernel
theorem dX7_isNear_58 : decode cX7_isNear 58 = .ok (.istore 5, 2) := by decide +kernel
theorem dX7_isNear_60 : decode cX7_isNear 60 = .ok (.iload_n 3, 1) := by decide +kernel
theorem dX7_isNear_61 : decode cX7_isNear 61 = .ok (.ifCond .ne 36, 3) := by decide +kernel
theorem dX7_isNear_64 : decode cX7_isNear 64 = .ok (.iload 5, 2) := by decide +kernel
theorem dX7_isNear_66 : decode cX7_isNear 66 = .ok (.ifCond .ne 31, 3) := by decide +kernel
theorem dX7_isNear_69 : decode cX7_isNear 69 = .ok (.aload_n 0, 1) := by decide +kernel
theorem dX7_isNear_70 : decode cX7_isNear 70 = .ok (.getfield 22, 3) := by decide +kernel
theorem dX7_isNear_73 : decode cX7_isNear 73 = .ok (.iconst 5, 1) := by decide +kernel
theorem dX7_isNear_74 : decode cX7_isNear 74 = .ok (.iload 4, 2) := by decide +kernel
theorem dX7_isNear_76 : decode cX7_isNear 76 = .ok (.imul, 1) := by decide +kernel
theorem dX7_isNear_77 : decode cX7_isNear 77 = .ok (.iaload, 1) := by decide +kernel
theorem dX7_isNear_78 : decode cX7_isNear 78 = .ok (.iload_n 2, 1) := by decide +kernel
theorem dX7_isNear_79 : decode cX7_isNear 79 = .ok (.if_icmp .ne 22, 3) := by decide +kernel
theorem dX7_isNear_82 : decode cX7_isNear 82 = .ok (.aload_n 0, 1) := by decide +kernel
theorem dX7_isNear_83 : decode cX7_isNear 83 = .ok (.getfield 22, 3) := by decide +kernel
theorem dX7_isNear_86 : decode cX7_isNear 86 = .ok (.iconst 5, 1) := by decide +kernel
theorem dX7_isNear_87 : decode cX7_isNear 87 = .ok (.iload 4, 2) := by decide +kernel
theorem dX7_isNear_89 : decode cX7_isNear 89 = .ok (.imul, 1) := by decide +kernel
theorem dX7_isNear_90 : decode cX7_isNear 90 = .ok (.iconst 1, 1) := by decide +kernel
theorem dX7_isNear_91 : decode cX7_isNear 91 = .ok (.iadd, 1) := by decide +kernel
theorem dX7_isNear_92 : decode cX7_isNear 92 = .ok (.iaload, 1) := by decide +kernel
theorem dX7_isNear_93 : decode cX7_isNear 93 = .ok (.iload_n 1, 1) := by decide +kernel
theorem dX7_isNear_94 : decode cX7_isNear 94 = .ok (.if_icmp .ne 7, 3) := by decide +kernel
theorem dX7_isNear_97 : decode cX7_isNear 97 = .ok (.iconst 1, 1) := by decide +kernel
theorem dX7_isNear_98 : decode cX7_isNear 98 = .ok (.goto 4, 3) := by decide +kernel
theorem dX7_isNear_101 : decode cX7_isNear 101 = .ok (.iconst 0, 1) := by decide +kernel
theorem dX7_isNear_102 : decode cX7_isNear 102 = .ok (.istore_n 3, 1) := by decide +kernel
theorem dX7_isNear_103 : decode cX7_isNear 103 = .ok (.iinc 4 1, 3) := by decide +kernel
theorem dX7_isNear_106 : decode cX7_isNear 106 = .ok (.goto (-92), 3) := by decide +kernel
theorem dX7_isNear_109 : decode cX7_isNear 109 = .ok (.iload_n 3, 1) := by decide +kernel
theorem dX7_isNear_110 : decode cX7_isNear 110 = .ok (.ireturn, 1) := by decide +kernel
set_option maxRecDepth 20000 in
theorem ggX7_suitsIt_X7_isNear : GoodIn wsX7_suitsIt wsX7_isNear := goodIn_r _ [7, 8, 9, 10, 11, 12, 13, 14, 15, 16, 17, 18, 19, 20, 21, 22, 23, 24, 25, 26, 27, 28, 29, 30, 31, 32, 33, 34, 35, 36, 37] (by decide +kernel) (by decide +kernel)
set_option maxRecDepth 20000 in
theorem gX7_suitsIt_X7_isNear : GoodIn wsX7_suitsIt (wsV RX7 129 RX7 yX7_isNear wsX7_isNear) := goodIn_app (goodIn_of _ (by decide +kernel)) ggX7_suitsIt_X7_isNear
theorem dX7_suitsIt_0 : decode cX7_suitsIt 0 = .ok (.iconst 5, 1) := by decide +kernel
theorem dX7_suitsIt_1 : decode cX7_suitsIt 1 = .ok (.iload_n 1, 1) := by decide +kernel
theorem dX7_suitsIt_2 : decode cX7_suitsIt 2 = .ok (.imul, 1) := by decide +kernel
theorem dX7_suitsIt_3 : decode cX7_suitsIt 3 = .ok (.istore_n 3, 1) := by decide +kernel
theorem dX7_suitsIt_4 : decode cX7_suitsIt 4 = .ok (.bipush 35, 2) := by decide +kernel
theorem dX7_suitsIt_6 : decode cX7_suitsIt 6 = .ok (.iconst 5, 1) := by decide +kernel
theorem dX7_suitsIt_7 : decode cX7_suitsIt 7 = .ok (.iload_n 2, 1) := by decide +kernel
theorem dX7_suitsIt_8 : decode cX7_suitsIt 8 = .ok (.imul, 1) := by decide +kernel
theorem dX7_suitsIt_9 : decode cX7_suitsIt 9 = .ok (.iadd, 1) := by decide +kernel
theorem dX7_suitsIt_10 : decode cX7_suitsIt 10 = .ok (.istore 4, 2) := by decide +kernel
theorem dX7_suitsIt_12 : decode cX7_suitsIt 12 = .ok (.aload_n 0, 1) := by decide +kernel
theorem dX7_suitsIt_13 : decode cX7_suitsIt 13 = .ok (.getfield 25, 3) := by decide +kernel
theorem dX7_suitsIt_16 : decode cX7_suitsIt 16 = .ok (.iload_n 3, 1) := by decide +kernel
theorem dX7_suitsIt_17 : decode cX7_suitsIt 17 = .ok (.iconst 1, 1) := by decide +kernel
theorem dX7_suitsIt_18 : decode cX7_suitsIt 18 = .ok (.iadd, 1) := by decide +kernel
theorem dX7_suitsIt_19 : decode cX7_suitsIt 19 = .ok (.iaload, 1) := by decide +kernel
theorem dX7_suitsIt_20 : decode cX7_suitsIt 20 = .ok (.aload_n 0, 1) := by decide +kernel
theorem dX7_suitsIt_21 : decode cX7_suitsIt 21 = .ok (.getfield 25, 3) := by decide +kernel
theorem dX7_suitsIt_24 : decode cX7_suitsIt 24 = .ok (.iload 4, 2) := by decide +kernel
theorem dX7_suitsIt_26 : decode cX7_suitsIt 26 = .ok (.iconst 1, 1) := by decide +kernel
theorem dX7_suitsIt_27 : decode cX7_suitsIt 27 = .ok (.iadd, 1) := by decide +kernel
theorem dX7_suitsIt_28 : decode cX7_suitsIt 28 = .ok (.iaload, 1) := by decide +kernel
theorem dX7_suitsIt_29 : decode cX7_suitsIt 29 = .ok (.if_icmp .eq 32, 3) := by decide +kernel
theorem dX7_suitsIt_32 : decode cX7_suitsIt 32 = .ok (.aload_n 0, 1) := by decide +kernel
theorem dX7_suitsIt_33 : decode cX7_suitsIt 33 = .ok (.getfield 28, 3) := by decide +kernel
theorem dX7_suitsIt_36 : decode cX7_suitsIt 36 = .ok (.iconst 4, 1) := by decide +kernel
theorem dX7_suitsIt_37 : decode cX7_suitsIt 37 = .ok (.aload_n 0, 1) := by decide +kernel
theorem dX7_suitsIt_38 : decode cX7_suitsIt 38 = .ok (.getfield 25, 3) := by decide +kernel
theorem dX7_suitsIt_41 : decode cX7_suitsIt 41 = .ok (.iload_n 3, 1) := by decide +kernel
theorem dX7_suitsIt_42 : decode cX7_suitsIt 42 = .ok (.iconst 1, 1) := by decide +kernel
theorem dX7_suitsIt_43 : decode cX7_suitsIt 43 = .ok (.iadd, 1) := by decide +kernel
theorem dX7_suitsIt_44 : decode cX7_suitsIt 44 = .ok (.iaload, 1) := by decide +kernel
theorem dX7_suitsIt_45 : decode cX7_suitsIt 45 = .ok (.imul, 1) := by decide +kernel
theorem dX7_suitsIt_46 : decode cX7_suitsIt 46 = .ok (.aload_n 0, 1) := by decide +kernel
theorem dX7_suitsIt_47 : decode cX7_suitsIt 47 = .ok (.getfield 25, 3) := by decide +kernel
theorem dX7_suitsIt_50 : decode cX7_suitsIt 50 = .ok (.iload 4, 2) := by decide +kernel
theorem dX7_suitsIt_52 : decode cX7_suitsIt 52 = .ok (.iconst 1, 1) := by decide +kernel
theorem dX7_suitsIt_53 : decode cX7_suitsIt 53 = .ok (.iadd, 1) := by decide +kernel
theorem dX7_suitsIt_54 : decode cX7_suitsIt 54 = .ok (.iaload, 1) := by decide +kernel
theorem dX7_suitsIt_55 : decode cX7_suitsIt 55 = .ok (.iadd, 1) := by decide +kernel
theorem dX7_suitsIt_56 : decode cX7_suitsIt 56 = .ok (.iaload, 1) := by decide +kernel
theorem dX7_suitsIt_57 : decode cX7_suitsIt 57 = .ok (.iconst 1, 1) := by decide +kernel
theorem dX7_suitsIt_58 : decode cX7_suitsIt 58 = .ok (.if_icmp .ne 7, 3) := by decide +kernel
theorem dX7_suitsIt_61 : decode cX7_suitsIt 61 = .ok (.iconst 1, 1) := by decide +kernel
theorem dX7_suitsIt_62 : decode cX7_suitsIt 62 = .ok (.goto 4, 3) := by decide +kernel
theorem dX7_suitsIt_65 : decode cX7_suitsIt 65 = .ok (.iconst 0, 1) := by decide +kernel
theorem dX7_suitsIt_66 : decode cX7_suitsIt 66 = .ok (.istore 5, 2) := by decide +kernel
theorem dX7_suitsIt_68 : decode cX7_suitsIt 68 = .ok (.aload_n 0, 1) := by decide +kernel
theorem dX7_suitsIt_69 : decode cX7_suitsIt 69 = .ok (.getfield 25, 3) := by decide +kernel
theorem dX7_suitsIt_72 : decode cX7_suitsIt 72 = .ok (.iload_n 3, 1) := by decide +kernel
theorem dX7_suitsIt_73 : decode cX7_suitsIt 73 = .ok (.iconst 3, 1) := by decide +kernel
theorem dX7_suitsIt_74 : decode cX7_suitsIt 74 = .ok (.iadd, 1) := by decide +kernel
theorem dX7_suitsIt_75 : decode cX7_suitsIt 75 = .ok (.iaload, 1) := by decide +kernel
theorem dX7_suitsIt_76 : decode cX7_suitsIt 76 = .ok (.aload_n 0, 1) := by decide +kernel
theorem dX7_suitsIt_77 : decode cX7_suitsIt 77 = .ok (.getfield 25, 3) := by decide +kernel
theorem dX7_suitsIt_80 : decode cX7_suitsIt 80 = .ok (.iload 4, 2) := by decide +kernel
theorem dX7_suitsIt_82 : decode cX7_suitsIt 82 = .ok (.iconst 4, 1) := by decide +kernel
theorem dX7_suitsIt_83 : decode cX7_suitsIt 83 = .ok (.iadd, 1) := by decide +kernel
theorem dX7_suitsIt_84 : decode cX7_suitsIt 84 = .ok (.iaload, 1) := by decide +kernel
theorem dX7_suitsIt_85 : decode cX7_suitsIt 85 = .ok (.if_icmp .gt 27, 3) := by decide +kernel
theorem dX7_suitsIt_88 : decode cX7_suitsIt 88 = .ok (.aload_n 0, 1) := by decide +kernel
theorem dX7_suitsIt_89 : decode cX7_suitsIt 89 = .ok (.getfield 25, 3) := by decide +kernel
theorem dX7_suitsIt_92 : decode cX7_suitsIt 92 = .ok (.iload 4, 2) := by decide +kernel
theorem dX7_suitsIt_94 : decode cX7_suitsIt 94 = .ok (.iconst 3, 1) := by decide +kernel
theorem dX7_suitsIt_95 : decode cX7_suitsIt 95 = .ok (.iadd, 1) := by decide +kernel
theorem dX7_suitsIt_96 : decode cX7_suitsIt 96 = .ok (.iaload, 1) := by decide +kernel
theorem dX7_suitsIt_97 : decode cX7_suitsIt 97 = .ok (.aload_n 0, 1) := by decide +kernel
theorem dX7_suitsIt_98 : decode cX7_suitsIt 98 = .ok (.getfield 25, 3) := by decide +kernel
theorem dX7_suitsIt_101 : decode cX7_suitsIt 101 = .ok (.iload_n 3, 1) := by decide +kernel
theorem dX7_suitsIt_102 : decode cX7_suitsIt 102 = .ok (.iconst 4, 1) := by decide +kernel
theorem dX7_suitsIt_103 : decode cX7_suitsIt 103 = .ok (.iadd, 1) := by decide +kernel
theorem dX7_suitsIt_104 : decode cX7_suitsIt 104 = .ok (.iaload, 1) := by decide +kernel
theorem dX7_suitsIt_105 : decode cX7_suitsIt 105 = .ok (.if_icmp .gt 7, 3) := by decide +kernel
theorem dX7_suitsIt_108 : decode cX7_suitsIt 108 = .ok (.iconst 1, 1) := by decide +kernel
theorem dX7_suitsIt_109 : decode cX7_suitsIt 109 = .ok (.goto 4, 3) := by decide +kernel
theorem dX7_suitsIt_112 : decode cX7_suitsIt 112 = .ok (.iconst 0, 1) := by decide +kernel
theorem dX7_suitsIt_113 : decode cX7_suitsIt 113 = .ok (.istore 6, 2) := by decide +kernel
theorem dX7_suitsIt_115 : decode cX7_suitsIt 115 = .ok (.aload_n 0, 1) := by decide +kernel
theorem dX7_suitsIt_116 : decode cX7_suitsIt 116 = .ok (.getfield 25, 3) := by decide +kernel
theorem dX7_suitsIt_119 : decode cX7_suitsIt 119 = .ok (.iload_n 3, 1) := by decide +kernel
theorem dX7_suitsIt_120 : decode cX7_suitsIt 120 = .ok (.iconst 2, 1) := by decide +kernel
theorem dX7_suitsIt_121 : decode cX7_suitsIt 121 = .ok (.iadd, 1) := by decide +kernel
theorem dX7_suitsIt_122 : decode cX7_suitsIt 122 = .ok (.iaload, 1) := by decide +kernel
theorem dX7_suitsIt_123 : decode cX7_suitsIt 123 = .ok (.aload_n 0, 1) := by decide +kernel
theorem dX7_suitsIt_124 : decode cX7_suitsIt 124 = .ok (.getfield 25, 3) := by decide +kernel
theorem dX7_suitsIt_127 : decode cX7_suitsIt 127 = .ok (.iload 4, 2) := by decide +kernel
theorem dX7_suitsIt_129 : decode cX7_suitsIt 129 = .ok (.iconst 2, 1) := by decide +kernel
theorem dX7_suitsIt_130 : decode cX7_suitsIt 130 = .ok (.iadd, 1) := by decide +kernel
theorem dX7_suitsIt_131 : decode cX7_suitsIt 131 = .ok (.iaload, 1) := by decide +kernel
theorem dX7_suitsIt_132 : decode cX7_suitsIt 132 = .ok (.if_icmp .ne 37, 3) := by decide +kernel
theorem dX7_suitsIt_135 : decode cX7_suitsIt 135 = .ok (.iload 5, 2) := by decide +kernel
theorem dX7_suitsIt_137 : decode cX7_suitsIt 137 = .ok (.ifCond .eq 32, 3) := by decide +kernel
theorem dX7_suitsIt_140 : decode cX7_suitsIt 140 = .ok (.iload 6, 2) := by decide +kernel
theorem dX7_suitsIt_142 : decode cX7_suitsIt 142 = .ok (.ifCond .eq 27, 3) := by decide +kernel
theorem dX7_suitsIt_145 : decode cX7_suitsIt 145 = .ok (.aload_n 0, 1) := by decide +kernel
theorem dX7_suitsIt_146 : decode cX7_suitsIt 146 = .ok (.aload_n 0, 1) := by decide +kernel
theorem dX7_suitsIt_147 : decode cX7_suitsIt 147 = .ok (.getfield 25, 3) := by decide +kernel
theorem dX7_suitsIt_150 : decode cX7_suitsIt 150 = .ok (.iload_n 3, 1) := by decide +kernel
theorem dX7_suitsIt_151 : decode cX7_suitsIt 151 = .ok (.iaload, 1) := by decide +kernel
theorem dX7_suitsIt_152 : decode cX7_suitsIt 152 = .ok (.aload_n 0, 1) := by decide +kernel
theorem dX7_suitsIt_153 : decode cX7_suitsIt 153 = .ok (.getfield 25, 3) := by decide +kernel
theorem dX7_suitsIt_156 : decode cX7_suitsIt 156 = .ok (.iload 4, 2) := by decide +kernel
theorem dX7_suitsIt_158 : decode cX7_suitsIt 158 = .ok (.iaload, 1) := by decide +kernel
theorem dX7_suitsIt_159 : decode cX7_suitsIt 159 = .ok (.invokevirtual 129, 3) := by decide +kernel
theorem dX7_suitsIt_162 : decode cX7_suitsIt 162 = .ok (.ifCond .eq 7, 3) := by decide +kernel
theorem dX7_suitsIt_165 : decode cX7_suitsIt 165 = .ok (.iconst 1, 1) := by decide +kernel
theorem dX7_suitsIt_166 : decode cX7_suitsIt 166 = .ok (.goto 4, 3) := by decide +kernel
theorem dX7_suitsIt_169 : decode cX7_suitsIt 169 = .ok (.iconst 0, 1) := by decide +kernel
theorem dX7_suitsIt_170 : decode cX7_suitsIt 170 = .ok (.ireturn, 1) := by decide +kernel
set_option maxRecDepth 20000 in
theorem ggX7_suits_X7_in : GoodIn wsX7_suits wsX7_in := goodIn_r _ [5] (by decide +kernel) (by decide +kernel)
set_option maxRecDepth 20000 in
theorem gX7_suits_X7_in : GoodIn wsX7_suits (va_wsS RX7 64 yX7_in wsX7_in) := goodIn_app (goodIn_of _ (by decide +kernel)) ggX7_suits_X7_in
set_option maxRecDepth 20000 in
theorem ggX7_suits_X7_suitsIt : GoodIn wsX7_suits wsX7_suitsIt := goodIn_r _ [9, 10, 11, 12, 13, 14, 4, 15, 1, 16, 17, 18, 19, 20, 21, 22, 23, 24, 25, 26, 27, 28, 29, 30, 31, 32, 33, 34, 35, 36, 37, 38, 39, 40, 41, 42, 43, 44] (by decide +kernel) (by decide +kernel)
set_option maxRecDepth 20000 in
theorem gX7_suits_X7_suitsIt : GoodIn wsX7_suits (wsV RX7 133 RX7 yX7_suitsIt wsX7_suitsIt) := goodIn_app (goodIn_of _ (by decide +kernel)) ggX7_suits_X7_suitsIt
theorem dX7_suits_0 : decode cX7_suits 0 = .ok (.iload_n 1, 1) := by decide +kernel
theorem dX7_suits_1 : decode cX7_suits 1 = .ok (.iconst 0, 1) := by decide +kernel
theorem dX7_suits_2 : decode cX7_suits 2 = .ok (.aload_n 0, 1) := by decide +kernel
theorem dX7_suits_3 : decode cX7_suits 3 = .ok (.getfield 7, 3) := by decide +kernel
theorem dX7_suits_6 : decode cX7_suits 6 = .ok (.iconst 4, 1) := by decide +kernel
theorem dX7_suits_7 : decode cX7_suits 7 = .ok (.iaload, 1) := by decide +kernel
theorem dX7_suits_8 : decode cX7_suits 8 = .ok (.iconst 1, 1) := by decide +kernel
theorem dX7_suits_9 : decode cX7_suits 9 = .ok (.isub, 1) := by decide +kernel
theorem dX7_suits_10 : decode cX7_suits 10 = .ok (.invokestatic 64, 3) := by decide +kernel
theorem dX7_suits_13 : decode cX7_suits 13 = .ok (.ifCond .eq 19, 3) := by decide +kernel
theorem dX7_suits_16 : decode cX7_suits 16 = .ok (.iload_n 2, 1) := by decide +kernel
theorem dX7_suits_17 : decode cX7_suits 17 = .ok (.iconst 0, 1) := by decide +kernel
theorem dX7_suits_18 : decode cX7_suits 18 = .ok (.aload_n 0, 1) := by decide +kernel
theorem dX7_suits_19 : decode cX7_suits 19 = .ok (.getfield 7, 3) := by decide +kernel
theorem dX7_suits_22 : decode cX7_suits 22 = .ok (.iconst 5, 1) := by decide +kernel
theorem dX7_suits_23 : decode cX7_suits 23 = .ok (.iaload, 1) := by decide +kernel
theorem dX7_suits_24 : decode cX7_suits 24 = .ok (.iconst 1, 1) := by decide +kernel
theorem dX7_suits_25 : decode cX7_suits 25 = .ok (.isub, 1) := by decide +kernel
theorem dX7_suits_26 : decode cX7_suits 26 = .ok (.invokestatic 64, 3) := by decide +kernel
theorem dX7_suits_29 : decode cX7_suits 29 = .ok (.ifCond .ne 5, 3) := by decide +kernel
theorem dX7_suits_32 : decode cX7_suits 32 = .ok (.iconst (-1), 1) := by decide +kernel
theorem dX7_suits_33 : decode cX7_suits 33 = .ok (.ireturn, 1) := by decide +kernel
theorem dX7_suits_34 : decode cX7_suits 34 = .ok (.aload_n 0, 1) := by decide +kernel
theorem dX7_suits_35 : decode cX7_suits 35 = .ok (.iload_n 1, 1) := by decide +kernel
theorem dX7_suits_36 : decode cX7_suits 36 = .ok (.iload_n 2, 1) := by decide +kernel
theorem dX7_suits_37 : decode cX7_suits 37 = .ok (.invokevirtual 133, 3) := by decide +kernel
theorem dX7_suits_40 : decode cX7_suits 40 = .ok (.ifCond .eq 7, 3) := by decide +kernel
theorem dX7_suits_43 : decode cX7_suits 43 = .ok (.iconst 1, 1) := by decide +kernel
theorem dX7_suits_44 : decode cX7_suits 44 = .ok (.goto 4, 3) := by decide +kernel
theorem dX7_suits_47 : decode cX7_suits 47 = .ok (.iconst 0, 1) := by decide +kernel
theorem dX7_suits_48 : decode cX7_suits 48 = .ok (.ireturn, 1) := by decide +kernel
theorem dX7_gapOf_0 : decode cX7_gapOf 0 = .ok (.aload_n 0, 1) := by decide +kernel
theorem dX7_gapOf_1 : decode cX7_gapOf 1 = .ok (.getfield 25, 3) := by decide +kernel
theorem dX7_gapOf_4 : decode cX7_gapOf 4 = .ok (.iconst 5, 1) := by decide +kernel
theorem dX7_gapOf_5 : decode cX7_gapOf 5 = .ok (.iload_n 1, 1) := by decide +kernel
theorem dX7_gapOf_6 : decode cX7_gapOf 6 = .ok (.imul, 1) := by decide +kernel
theorem dX7_gapOf_7 : decode cX7_gapOf 7 = .ok (.iconst 3, 1) := by decide +kernel
theorem dX7_gapOf_8 : decode cX7_gapOf 8 = .ok (.iadd, 1) := by decide +kernel
theorem dX7_gapOf_9 : decode cX7_gapOf 9 = .ok (.iaload, 1) := by decide +kernel
theorem dX7_gapOf_10 : decode cX7_gapOf 10 = .ok (.aload_n 0, 1) := by decide +kernel
theorem dX7_gapOf_11 : decode cX7_gapOf 11 = .ok (.getfield 25, 3) := by decide +kernel
theorem dX7_gapOf_14 : decode cX7_gapOf 14 = .ok (.bipush 35, 2) := by decide +kernel
theorem dX7_gapOf_16 : decode cX7_gapOf 16 = .ok (.iconst 5, 1) := by decide +kernel
theorem dX7_gapOf_17 : decode cX7_gapOf 17 = .ok (.iload_n 2, 1) := by decide +kernel
theorem dX7_gapOf_18 : decode cX7_gapOf 18 = .ok (.imul, 1) := by decide +kernel
theorem dX7_gapOf_19 : decode cX7_gapOf 19 = .ok (.iadd, 1) := by decide +kernel
theorem dX7_gapOf_20 : decode cX7_gapOf 20 = .ok (.iconst 3, 1) := by decide +kernel
theorem dX7_gapOf_21 : decode cX7_gapOf 21 = .ok (.iadd, 1) := by decide +kernel
theorem dX7_gapOf_22 : decode cX7_gapOf 22 = .ok (.iaload, 1) := by decide +kernel
theorem dX7_gapOf_23 : decode cX7_gapOf 23 = .ok (.isub, 1) := by decide +kernel
theorem dX7_gapOf_24 : decode cX7_gapOf 24 = .ok (.istore_n 3, 1) := by decide +kernel
theorem dX7_gapOf_25 : decode cX7_gapOf 25 = .ok (.iload_n 3, 1) := by decide +kernel
theorem dX7_gapOf_26 : decode cX7_gapOf 26 = .ok (.ifCond .ge 8, 3) := by decide +kernel
theorem dX7_gapOf_29 : decode cX7_gapOf 29 = .ok (.iload_n 3, 1) := by decide +kernel
theorem dX7_gapOf_30 : decode cX7_gapOf 30 = .ok (.ineg, 1) := by decide +kernel
theorem dX7_gapOf_31 : decode cX7_gapOf 31 = .ok (.goto 4, 3) := by decide +kernel
theorem dX7_gapOf_34 : decode cX7_gapOf 34 = .ok (.iload_n 3, 1) := by decide +kernel
theorem dX7_gapOf_35 : decode cX7_gapOf 35 = .ok (.ireturn, 1) := by decide +kernel
set_option maxRecDepth 20000 in
theorem ggX7_weigh_X7_goesWith : GoodIn wsX7_weigh wsX7_goesWith := goodIn_r _ [7, 2, 8, 9, 10, 6, 11, 12, 13, 14, 15, 16, 17, 1, 18, 19, 20, 21, 22, 23, 24, 25, 26, 27, 28, 29, 30, 31, 32, 33, 34, 35, 36, 37, 38, 39, 40, 41, 42, 43, 44, 45, 46, 47, 48, 49, 50] (by decide +kernel) (by decide +kernel)
set_option maxRecDepth 20000 in
theorem gX7_weigh_X7_goesWith : GoodIn wsX7_weigh (wsV RX7 136 RX7 yX7_goesWith wsX7_goesWith) := goodIn_app (goodIn_of _ (by decide +kernel)) ggX7_weigh_X7_goesWith
theorem dX7_weigh_0 : decode cX7_weigh 0 = .ok (.aload_n 0, 1) := by decide +kernel
theorem dX7_weigh_1 : decode cX7_weigh 1 = .ok (.getfield 7, 3) := by decide +kernel
theorem dX7_weigh_4 : decode cX7_weigh 4 = .ok (.iconst 4, 1) := by decide +kernel
theorem dX7_weigh_5 : decode cX7_weigh 5 = .ok (.iaload, 1) := by decide +kernel
theorem dX7_weigh_6 : decode cX7_weigh 6 = .ok (.istore_n 1, 1) := by decide +kernel
theorem dX7_weigh_7 : decode cX7_weigh 7 = .ok (.iconst 0, 1) := by decide +kernel
theorem dX7_weigh_8 : decode cX7_weigh 8 = .ok (.istore_n 2, 1) := by decide +kernel
theorem dX7_weigh_9 : decode cX7_weigh 9 = .ok (.iload_n 2, 1) := by decide +kernel
theorem dX7_weigh_10 : decode cX7_weigh 10 = .ok (.sipush 128, 3) := by decide +kernel
theorem dX7_weigh_13 : decode cX7_weigh 13 = .ok (.if_icmp .ge 22, 3) := by decide +kernel
theorem dX7_weigh_16 : decode cX7_weigh 16 = .ok (.aload_n 0, 1) := by decide +kernel
theorem dX7_weigh_17 : decode cX7_weigh 17 = .ok (.getfield 55, 3) := by decide +kernel
theorem dX7_weigh_20 : decode cX7_weigh 20 = .ok (.sipush 128, 3) := by decide +kernel
theorem dX7_weigh_23 : decode cX7_weigh 23 = .ok (.iload_n 1, 1) := by decide +kernel
theorem dX7_weigh_24 : decode cX7_weigh 24 = .ok (.imul, 1) := by decide +kernel
theorem dX7_weigh_25 : decode cX7_weigh 25 = .ok (.iload_n 2, 1) := by decide +kernel
theorem dX7_weigh_26 : decode cX7_weigh 26 = .ok (.iadd, 1) := by decide +kernel
theorem dX7_weigh_27 : decode cX7_weigh 27 = .ok (.iconst 0, 1) := by decide +kernel
theorem dX7_weigh_28 : decode cX7_weigh 28 = .ok (.iastore, 1) := by decide +kernel
theorem dX7_weigh_29 : decode cX7_weigh 29 = .ok (.iinc 2 1, 3) := by decide +kernel
theorem dX7_weigh_32 : decode cX7_weigh 32 = .ok (.goto (-23), 3) := by decide +kernel
theorem dX7_weigh_35 : decode cX7_weigh 35 = .ok (.iload_n 1, 1) := by decide +kernel
theorem dX7_weigh_36 : decode cX7_weigh 36 = .ok (.iconst 1, 1) := by decide +kernel
theorem dX7_weigh_37 : decode cX7_weigh 37 = .ok (.isub, 1) := by decide +kernel
theorem dX7_weigh_38 : decode cX7_weigh 38 = .ok (.istore_n 2, 1) := by decide +kernel
theorem dX7_weigh_39 : decode cX7_weigh 39 = .ok (.iload_n 2, 1) := by decide +kernel
theorem dX7_weigh_40 : decode cX7_weigh 40 = .ok (.ifCond .lt 100, 3) := by decide +kernel
