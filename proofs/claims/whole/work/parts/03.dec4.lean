theorem dX7_weigh_43 : decode cX7_weigh 43 = .ok (.iconst 0, 1) := by decide +kernel
theorem dX7_weigh_44 : decode cX7_weigh 44 = .ok (.istore_n 3, 1) := by decide +kernel
theorem dX7_weigh_45 : decode cX7_weigh 45 = .ok (.iload_n 3, 1) := by decide +kernel
theorem dX7_weigh_46 : decode cX7_weigh 46 = .ok (.sipush 128, 3) := by decide +kernel
theorem dX7_weigh_49 : decode cX7_weigh 49 = .ok (.if_icmp .ge 85, 3) := by decide +kernel
theorem dX7_weigh_52 : decode cX7_weigh 52 = .ok (.aload_n 0, 1) := by decide +kernel
theorem dX7_weigh_53 : decode cX7_weigh 53 = .ok (.getfield 55, 3) := by decide +kernel
theorem dX7_weigh_56 : decode cX7_weigh 56 = .ok (.sipush 128, 3) := by decide +kernel
theorem dX7_weigh_59 : decode cX7_weigh 59 = .ok (.iload_n 2, 1) := by decide +kernel
theorem dX7_weigh_60 : decode cX7_weigh 60 = .ok (.iconst 1, 1) := by decide +kernel
theorem dX7_weigh_61 : decode cX7_weigh 61 = .ok (.iadd, 1) := by decide +kernel
theorem dX7_weigh_62 : decode cX7_weigh 62 = .ok (.imul, 1) := by decide +kernel
theorem dX7_weigh_63 : decode cX7_weigh 63 = .ok (.iload_n 3, 1) := by decide +kernel
theorem dX7_weigh_64 : decode cX7_weigh 64 = .ok (.iadd, 1) := by decide +kernel
theorem dX7_weigh_65 : decode cX7_weigh 65 = .ok (.iaload, 1) := by decide +kernel
theorem dX7_weigh_66 : decode cX7_weigh 66 = .ok (.istore 4, 2) := by decide +kernel
theorem dX7_weigh_68 : decode cX7_weigh 68 = .ok (.iconst 0, 1) := by decide +kernel
theorem dX7_weigh_69 : decode cX7_weigh 69 = .ok (.istore 5, 2) := by decide +kernel
theorem dX7_weigh_71 : decode cX7_weigh 71 = .ok (.iload 5, 2) := by decide +kernel
theorem dX7_weigh_73 : decode cX7_weigh 73 = .ok (.aload_n 0, 1) := by decide +kernel
theorem dX7_weigh_74 : decode cX7_weigh 74 = .ok (.getfield 7, 3) := by decide +kernel
theorem dX7_weigh_77 : decode cX7_weigh 77 = .ok (.iconst 5, 1) := by decide +kernel
theorem dX7_weigh_78 : decode cX7_weigh 78 = .ok (.iaload, 1) := by decide +kernel
theorem dX7_weigh_79 : decode cX7_weigh 79 = .ok (.if_icmp .ge 35, 3) := by decide +kernel
theorem dX7_weigh_82 : decode cX7_weigh 82 = .ok (.aload_n 0, 1) := by decide +kernel
theorem dX7_weigh_83 : decode cX7_weigh 83 = .ok (.iload_n 2, 1) := by decide +kernel
theorem dX7_weigh_84 : decode cX7_weigh 84 = .ok (.iload 5, 2) := by decide +kernel
theorem dX7_weigh_86 : decode cX7_weigh 86 = .ok (.iload_n 3, 1) := by decide +kernel
theorem dX7_weigh_87 : decode cX7_weigh 87 = .ok (.invokevirtual 136, 3) := by decide +kernel
theorem dX7_weigh_90 : decode cX7_weigh 90 = .ok (.istore 6, 2) := by decide +kernel
theorem dX7_weigh_92 : decode cX7_weigh 92 = .ok (.iload 6, 2) := by decide +kernel
theorem dX7_weigh_94 : decode cX7_weigh 94 = .ok (.iload 4, 2) := by decide +kernel
theorem dX7_weigh_96 : decode cX7_weigh 96 = .ok (.if_icmp .le 8, 3) := by decide +kernel
theorem dX7_weigh_99 : decode cX7_weigh 99 = .ok (.iload 6, 2) := by decide +kernel
theorem dX7_weigh_101 : decode cX7_weigh 101 = .ok (.goto 5, 3) := by decide +kernel
theorem dX7_weigh_104 : decode cX7_weigh 104 = .ok (.iload 4, 2) := by decide +kernel
theorem dX7_weigh_106 : decode cX7_weigh 106 = .ok (.istore 4, 2) := by decide +kernel
theorem dX7_weigh_108 : decode cX7_weigh 108 = .ok (.iinc 5 1, 3) := by decide +kernel
theorem dX7_weigh_111 : decode cX7_weigh 111 = .ok (.goto (-40), 3) := by decide +kernel
theorem dX7_weigh_114 : decode cX7_weigh 114 = .ok (.aload_n 0, 1) := by decide +kernel
theorem dX7_weigh_115 : decode cX7_weigh 115 = .ok (.getfield 55, 3) := by decide +kernel
theorem dX7_weigh_118 : decode cX7_weigh 118 = .ok (.sipush 128, 3) := by decide +kernel
theorem dX7_weigh_121 : decode cX7_weigh 121 = .ok (.iload_n 2, 1) := by decide +kernel
theorem dX7_weigh_122 : decode cX7_weigh 122 = .ok (.imul, 1) := by decide +kernel
theorem dX7_weigh_123 : decode cX7_weigh 123 = .ok (.iload_n 3, 1) := by decide +kernel
theorem dX7_weigh_124 : decode cX7_weigh 124 = .ok (.iadd, 1) := by decide +kernel
theorem dX7_weigh_125 : decode cX7_weigh 125 = .ok (.iload 4, 2) := by decide +kernel
theorem dX7_weigh_127 : decode cX7_weigh 127 = .ok (.iastore, 1) := by decide +kernel
theorem dX7_weigh_128 : decode cX7_weigh 128 = .ok (.iinc 3 1, 3) := by decide +kernel
theorem dX7_weigh_131 : decode cX7_weigh 131 = .ok (.goto (-86), 3) := by decide +kernel
theorem dX7_weigh_134 : decode cX7_weigh 134 = .ok (.iinc 2 (-1), 3) := by decide +kernel
theorem dX7_weigh_137 : decode cX7_weigh 137 = .ok (.goto (-98), 3) := by decide +kernel
theorem dX7_weigh_140 : decode cX7_weigh 140 = .ok (.return_, 1) := by decide +kernel
set_option maxRecDepth 20000 in
theorem ggX7_goesWith_X7_suitsIt : GoodIn wsX7_goesWith wsX7_suitsIt := goodIn_r _ [6, 7, 8, 9, 10, 11, 5, 12, 13, 14, 19, 20, 21, 22, 23, 24, 25, 26, 27, 28, 29, 30, 31, 32, 33, 34, 35, 36, 37, 38, 39, 40, 41, 42, 43, 44, 45, 46] (by decide +kernel) (by decide +kernel)
set_option maxRecDepth 20000 in
theorem gX7_goesWith_X7_suitsIt : GoodIn wsX7_goesWith (wsV RX7 133 RX7 yX7_suitsIt wsX7_suitsIt) := goodIn_app (goodIn_of _ (by decide +kernel)) ggX7_goesWith_X7_suitsIt
set_option maxRecDepth 20000 in
theorem ggX7_goesWith_X7_gapOf : GoodIn wsX7_goesWith wsX7_gapOf := goodIn_r _ [18, 7, 19, 20, 21, 22, 23, 24, 25, 26, 27, 28, 29, 30, 31, 32, 33, 34, 35, 36, 37, 38, 39, 40, 41, 42, 43, 44, 45, 46] (by decide +kernel) (by decide +kernel)
set_option maxRecDepth 20000 in
theorem gX7_goesWith_X7_gapOf : GoodIn wsX7_goesWith (wsV RX7 139 RX7 yX7_gapOf wsX7_gapOf) := goodIn_app (goodIn_of _ (by decide +kernel)) ggX7_goesWith_X7_gapOf
theorem dX7_goesWith_0 : decode cX7_goesWith 0 = .ok (.iload_n 3, 1) := by decide +kernel
theorem dX7_goesWith_1 : decode cX7_goesWith 1 = .ok (.iload_n 2, 1) := by decide +kernel
theorem dX7_goesWith_2 : decode cX7_goesWith 2 = .ok (.ishr, 1) := by decide +kernel
theorem dX7_goesWith_3 : decode cX7_goesWith 3 = .ok (.iconst 1, 1) := by decide +kernel
theorem dX7_goesWith_4 : decode cX7_goesWith 4 = .ok (.iand, 1) := by decide +kernel
theorem dX7_goesWith_5 : decode cX7_goesWith 5 = .ok (.iconst 1, 1) := by decide +kernel
theorem dX7_goesWith_6 : decode cX7_goesWith 6 = .ok (.if_icmp .eq 12, 3) := by decide +kernel
theorem dX7_goesWith_9 : decode cX7_goesWith 9 = .ok (.aload_n 0, 1) := by decide +kernel
theorem dX7_goesWith_10 : decode cX7_goesWith 10 = .ok (.iload_n 1, 1) := by decide +kernel
theorem dX7_goesWith_11 : decode cX7_goesWith 11 = .ok (.iload_n 2, 1) := by decide +kernel
theorem dX7_goesWith_12 : decode cX7_goesWith 12 = .ok (.invokevirtual 133, 3) := by decide +kernel
theorem dX7_goesWith_15 : decode cX7_goesWith 15 = .ok (.ifCond .ne 5, 3) := by decide +kernel
theorem dX7_goesWith_18 : decode cX7_goesWith 18 = .ok (.iconst (-1), 1) := by decide +kernel
theorem dX7_goesWith_19 : decode cX7_goesWith 19 = .ok (.ireturn, 1) := by decide +kernel
theorem dX7_goesWith_20 : decode cX7_goesWith 20 = .ok (.sipush 10000, 3) := by decide +kernel
theorem dX7_goesWith_23 : decode cX7_goesWith 23 = .ok (.aload_n 0, 1) := by decide +kernel
theorem dX7_goesWith_24 : decode cX7_goesWith 24 = .ok (.iload_n 1, 1) := by decide +kernel
theorem dX7_goesWith_25 : decode cX7_goesWith 25 = .ok (.iload_n 2, 1) := by decide +kernel
theorem dX7_goesWith_26 : decode cX7_goesWith 26 = .ok (.invokevirtual 139, 3) := by decide +kernel
theorem dX7_goesWith_29 : decode cX7_goesWith 29 = .ok (.isub, 1) := by decide +kernel
theorem dX7_goesWith_30 : decode cX7_goesWith 30 = .ok (.aload_n 0, 1) := by decide +kernel
theorem dX7_goesWith_31 : decode cX7_goesWith 31 = .ok (.getfield 55, 3) := by decide +kernel
theorem dX7_goesWith_34 : decode cX7_goesWith 34 = .ok (.sipush 128, 3) := by decide +kernel
theorem dX7_goesWith_37 : decode cX7_goesWith 37 = .ok (.iload_n 1, 1) := by decide +kernel
theorem dX7_goesWith_38 : decode cX7_goesWith 38 = .ok (.iconst 1, 1) := by decide +kernel
theorem dX7_goesWith_39 : decode cX7_goesWith 39 = .ok (.iadd, 1) := by decide +kernel
theorem dX7_goesWith_40 : decode cX7_goesWith 40 = .ok (.imul, 1) := by decide +kernel
theorem dX7_goesWith_41 : decode cX7_goesWith 41 = .ok (.iload_n 3, 1) := by decide +kernel
theorem dX7_goesWith_42 : decode cX7_goesWith 42 = .ok (.iconst 1, 1) := by decide +kernel
theorem dX7_goesWith_43 : decode cX7_goesWith 43 = .ok (.iload_n 2, 1) := by decide +kernel
theorem dX7_goesWith_44 : decode cX7_goesWith 44 = .ok (.ishl, 1) := by decide +kernel
theorem dX7_goesWith_45 : decode cX7_goesWith 45 = .ok (.ior, 1) := by decide +kernel
theorem dX7_goesWith_46 : decode cX7_goesWith 46 = .ok (.iadd, 1) := by decide +kernel
theorem dX7_goesWith_47 : decode cX7_goesWith 47 = .ok (.iaload, 1) := by decide +kernel
theorem dX7_goesWith_48 : decode cX7_goesWith 48 = .ok (.iadd, 1) := by decide +kernel
theorem dX7_goesWith_49 : decode cX7_goesWith 49 = .ok (.ireturn, 1) := by decide +kernel
set_option maxRecDepth 20000 in
theorem ggX7_match_X7_in : GoodIn wsX7_match wsX7_in := goodIn_r _ [6] (by decide +kernel) (by decide +kernel)
set_option maxRecDepth 20000 in
theorem gX7_match_X7_in : GoodIn wsX7_match (va_wsS RX7 64 yX7_in wsX7_in) := goodIn_app (goodIn_of _ (by decide +kernel)) ggX7_match_X7_in
set_option maxRecDepth 20000 in
theorem ggX7_match_X7_weigh : GoodIn wsX7_match wsX7_weigh := goodIn_r _ [10, 1, 2, 11, 12, 13, 5, 14, 15, 16, 17, 18, 19, 20, 21, 22, 23, 24, 25, 26, 27, 28, 29, 30, 31, 32, 33, 34, 35, 36, 37, 38, 39, 40, 41, 42, 43, 44, 45, 46, 47, 48, 49, 50, 51, 52, 53, 54, 55, 56, 57] (by decide +kernel) (by decide +kernel)
set_option maxRecDepth 20000 in
theorem gX7_match_X7_weigh : GoodIn wsX7_match (wsV RX7 142 RX7 yX7_weigh wsX7_weigh) := goodIn_app (goodIn_of _ (by decide +kernel)) ggX7_match_X7_weigh
set_option maxRecDepth 20000 in
theorem ggX7_match_X7_goesWith : GoodIn wsX7_match wsX7_goesWith := goodIn_r _ [14, 2, 15, 16, 17, 5, 18, 19, 20, 21, 22, 23, 24, 1, 25, 26, 27, 28, 29, 30, 31, 32, 33, 34, 35, 36, 37, 38, 39, 40, 41, 42, 43, 44, 45, 46, 47, 48, 49, 50, 51, 52, 53, 54, 55, 56, 57] (by decide +kernel) (by decide +kernel)
set_option maxRecDepth 20000 in
theorem gX7_match_X7_goesWith : GoodIn wsX7_match (wsV RX7 136 RX7 yX7_goesWith wsX7_goesWith) := goodIn_app (goodIn_of _ (by decide +kernel)) ggX7_match_X7_goesWith
set_option maxRecDepth 20000 in
theorem ggX7_match_X7_gapOf : GoodIn wsX7_match wsX7_gapOf := goodIn_r _ [29, 19, 30, 31, 32, 33, 34, 35, 36, 37, 38, 39, 40, 41, 42, 43, 44, 45, 46, 47, 48, 49, 50, 51, 52, 53, 54, 55, 56, 57] (by decide +kernel) (by decide +kernel)
set_option maxRecDepth 20000 in
theorem gX7_match_X7_gapOf : GoodIn wsX7_match (wsV RX7 139 RX7 yX7_gapOf wsX7_gapOf) := goodIn_app (goodIn_of _ (by decide +kernel)) ggX7_match_X7_gapOf
theorem dX7_match_0 : decode cX7_match 0 = .ok (.iload_n 1, 1) := by decide +kernel
theorem dX7_match_1 : decode cX7_match 1 = .ok (.iconst 0, 1) := by decide +kernel
theorem dX7_match_2 : decode cX7_match 2 = .ok (.iconst 1, 1) := by decide +kernel
theorem dX7_match_3 : decode cX7_match 3 = .ok (.invokestatic 64, 3) := by decide +kernel
theorem dX7_match_6 : decode cX7_match 6 = .ok (.ifCond .ne 23, 3) := by decide +kernel
theorem dX7_match_9 : decode cX7_match 9 = .ok (.iload_n 1, 1) := by decide +kernel
theorem dX7_match_10 : decode cX7_match 10 = .ok (.bipush 10, 2) := by decide +kernel
theorem dX7_match_12 : decode cX7_match 12 = .ok (.bipush 9, 2) := by decide +kernel
theorem dX7_match_14 : decode cX7_match 14 = .ok (.aload_n 0, 1) := by decide +kernel
theorem dX7_match_15 : decode cX7_match 15 = .ok (.getfield 7, 3) := by decide +kernel
theorem dX7_match_18 : decode cX7_match 18 = .ok (.iconst 4, 1) := by decide +kernel
theorem dX7_match_19 : decode cX7_match 19 = .ok (.iaload, 1) := by decide +kernel
theorem dX7_match_20 : decode cX7_match 20 = .ok (.iadd, 1) := by decide +kernel
theorem dX7_match_21 : decode cX7_match 21 = .ok (.invokestatic 64, 3) := by decide +kernel
theorem dX7_match_24 : decode cX7_match 24 = .ok (.ifCond .ne 5, 3) := by decide +kernel
theorem dX7_match_27 : decode cX7_match 27 = .ok (.iconst (-1), 1) := by decide +kernel
theorem dX7_match_28 : decode cX7_match 28 = .ok (.ireturn, 1) := by decide +kernel
theorem dX7_match_29 : decode cX7_match 29 = .ok (.aload_n 0, 1) := by decide +kernel
theorem dX7_match_30 : decode cX7_match 30 = .ok (.invokevirtual 142, 3) := by decide +kernel
theorem dX7_match_33 : decode cX7_match 33 = .ok (.iconst 0, 1) := by decide +kernel
theorem dX7_match_34 : decode cX7_match 34 = .ok (.istore_n 2, 1) := by decide +kernel
theorem dX7_match_35 : decode cX7_match 35 = .ok (.iconst 0, 1) := by decide +kernel
theorem dX7_match_36 : decode cX7_match 36 = .ok (.istore_n 3, 1) := by decide +kernel
theorem dX7_match_37 : decode cX7_match 37 = .ok (.iconst 0, 1) := by decide +kernel
theorem dX7_match_38 : decode cX7_match 38 = .ok (.istore 4, 2) := by decide +kernel
theorem dX7_match_40 : decode cX7_match 40 = .ok (.iconst 0, 1) := by decide +kernel
theorem dX7_match_41 : decode cX7_match 41 = .ok (.istore 5, 2) := by decide +kernel
theorem dX7_match_43 : decode cX7_match 43 = .ok (.iload 5, 2) := by decide +kernel
theorem dX7_match_45 : decode cX7_match 45 = .ok (.aload_n 0, 1) := by decide +kernel
theorem dX7_match_46 : decode cX7_match 46 = .ok (.getfield 7, 3) := by decide +kernel
theorem dX7_match_49 : decode cX7_match 49 = .ok (.iconst 4, 1) := by decide +kernel
theorem dX7_match_50 : decode cX7_match 50 = .ok (.iaload, 1) := by decide +kernel
theorem dX7_match_51 : decode cX7_match 51 = .ok (.if_icmp .ge 110, 3) := by decide +kernel
theorem dX7_match_54 : decode cX7_match 54 = .ok (.bipush (-3), 2) := by decide +kernel
theorem dX7_match_56 : decode cX7_match 56 = .ok (.istore 6, 2) := by decide +kernel
theorem dX7_match_58 : decode cX7_match 58 = .ok (.aload_n 0, 1) := by decide +kernel
theorem dX7_match_59 : decode cX7_match 59 = .ok (.getfield 7, 3) := by decide +kernel
theorem dX7_match_62 : decode cX7_match 62 = .ok (.iconst 5, 1) := by decide +kernel
theorem dX7_match_63 : decode cX7_match 63 = .ok (.iaload, 1) := by decide +kernel
theorem dX7_match_64 : decode cX7_match 64 = .ok (.iconst 1, 1) := by decide +kernel
theorem dX7_match_65 : decode cX7_match 65 = .ok (.isub, 1) := by decide +kernel
theorem dX7_match_66 : decode cX7_match 66 = .ok (.istore 7, 2) := by decide +kernel
theorem dX7_match_68 : decode cX7_match 68 = .ok (.iload 7, 2) := by decide +kernel
theorem dX7_match_70 : decode cX7_match 70 = .ok (.ifCond .lt 45, 3) := by decide +kernel
theorem dX7_match_73 : decode cX7_match 73 = .ok (.aload_n 0, 1) := by decide +kernel
theorem dX7_match_74 : decode cX7_match 74 = .ok (.iload 5, 2) := by decide +kernel
theorem dX7_match_76 : decode cX7_match 76 = .ok (.iload 7, 2) := by decide +kernel
theorem dX7_match_78 : decode cX7_match 78 = .ok (.iload 4, 2) := by decide +kernel
theorem dX7_match_80 : decode cX7_match 80 = .ok (.invokevirtual 136, 3) := by decide +kernel
theorem dX7_match_83 : decode cX7_match 83 = .ok (.aload_n 0, 1) := by decide +kernel
theorem dX7_match_84 : decode cX7_match 84 = .ok (.getfield 55, 3) := by decide +kernel
theorem dX7_match_87 : decode cX7_match 87 = .ok (.sipush 128, 3) := by decide +kernel
theorem dX7_match_90 : decode cX7_match 90 = .ok (.iload 5, 2) := by decide +kernel
theorem dX7_match_92 : decode cX7_match 92 = .ok (.imul, 1) := by decide +kernel
theorem dX7_match_93 : decode cX7_match 93 = .ok (.iload 4, 2) := by decide +kernel
theorem dX7_match_95 : decode cX7_match 95 = .ok (.iadd, 1) := by decide +kernel
theorem dX7_match_96 : decode cX7_match 96 = .ok (.iaload, 1) := by decide +kernel
theorem dX7_match_97 : decode cX7_match 97 = .ok (.if_icmp .ne 8, 3) := by decide +kernel
theorem dX7_match_100 : decode cX7_match 100 = .ok (.iload 7, 2) := by decide +kernel
theorem dX7_match_102 : decode cX7_match 102 = .ok (.goto 5, 3) := by decide +kernel
theorem dX7_match_105 : decode cX7_match 105 = .ok (.iload 6, 2) := by decide +kernel
theorem dX7_match_107 : decode cX7_match 107 = .ok (.istore 6, 2) := by decide +kernel
theorem dX7_match_109 : decode cX7_match 109 = .ok (.iinc 7 (-1), 3) := by decide +kernel
theorem dX7_match_112 : decode cX7_match 112 = .ok (.goto (-44), 3) := by decide +kernel
theorem dX7_match_115 : decode cX7_match 115 = .ok (.iload_n 1, 1) := by decide +kernel
theorem dX7_match_116 : decode cX7_match 116 = .ok (.bipush 10, 2) := by decide +kernel
theorem dX7_match_118 : decode cX7_match 118 = .ok (.iload 5, 2) := by decide +kernel
theorem dX7_match_120 : decode cX7_match 120 = .ok (.iadd, 1) := by decide +kernel
theorem dX7_match_121 : decode cX7_match 121 = .ok (.if_icmp .ne 6, 3) := by decide +kernel
theorem dX7_match_124 : decode cX7_match 124 = .ok (.iload 6, 2) := by decide +kernel
theorem dX7_match_126 : decode cX7_match 126 = .ok (.ireturn, 1) := by decide +kernel
theorem dX7_match_127 : decode cX7_match 127 = .ok (.iload 6, 2) := by decide +kernel
theorem dX7_match_129 : decode cX7_match 129 = .ok (.ifCond .lt 26, 3) := by decide +kernel
theorem dX7_match_132 : decode cX7_match 132 = .ok (.iinc 2 1, 3) := by decide +kernel
theorem dX7_match_135 : decode cX7_match 135 = .ok (.iload_n 3, 1) := by decide +kernel
theorem dX7_match_136 : decode cX7_match 136 = .ok (.aload_n 0, 1) := by decide +kernel
theorem dX7_match_137 : decode cX7_match 137 = .ok (.iload 5, 2) := by decide +kernel
theorem dX7_match_139 : decode cX7_match 139 = .ok (.iload 6, 2) := by decide +kernel
theorem dX7_match_141 : decode cX7_match 141 = .ok (.invokevirtual 139, 3) := by decide +kernel
theorem dX7_match_144 : decode cX7_match 144 = .ok (.iadd, 1) := by decide +kernel
theorem dX7_match_145 : decode cX7_match 145 = .ok (.istore_n 3, 1) := by decide +kernel
theorem dX7_match_146 : decode cX7_match 146 = .ok (.iload 4, 2) := by decide +kernel
theorem dX7_match_148 : decode cX7_match 148 = .ok (.iconst 1, 1) := by decide +kernel
theorem dX7_match_149 : decode cX7_match 149 = .ok (.iload 6, 2) := by decide +kernel
theorem dX7_match_151 : decode cX7_match 151 = .ok (.ishl, 1) := by decide +kernel
theorem dX7_match_152 : decode cX7_match 152 = .ok (.ior, 1) := by decide +kernel
theorem dX7_match_153 : decode cX7_match 153 = .ok (.istore 4, 2) := by decide +kernel
theorem dX7_match_155 : decode cX7_match 155 = .ok (.iinc 5 1, 3) := by decide +kernel
theorem dX7_match_158 : decode cX7_match 158 = .ok (.goto (-115), 3) := by decide +kernel
theorem dX7_match_161 : decode cX7_match 161 = .ok (.iload_n 1, 1) := by decide +kernel
theorem dX7_match_162 : decode cX7_match 162 = .ok (.ifCond .ne 7, 3) := by decide +kernel
theorem dX7_match_165 : decode cX7_match 165 = .ok (.iload_n 2, 1) := by decide +kernel
theorem dX7_match_166 : decode cX7_match 166 = .ok (.goto 4, 3) := by decide +kernel
theorem dX7_match_169 : decode cX7_match 169 = .ok (.iload_n 3, 1) := by decide +kernel
theorem dX7_match_170 : decode cX7_match 170 = .ok (.ireturn, 1) := by decide +kernel
theorem dX7_clear_0 : decode cX7_clear 0 = .ok (.aload_n 0, 1) := by decide +kernel
theorem dX7_clear_1 : decode cX7_clear 1 = .ok (.getfield 7, 3) := by decide +kernel
theorem dX7_clear_4 : decode cX7_clear 4 = .ok (.iconst 4, 1) := by decide +kernel
theorem dX7_clear_5 : decode cX7_clear 5 = .ok (.iaload, 1) := by decide +kernel
theorem dX7_clear_6 : decode cX7_clear 6 = .ok (.aload_n 0, 1) := by decide +kernel
theorem dX7_clear_7 : decode cX7_clear 7 = .ok (.getfield 7, 3) := by decide +kernel
theorem dX7_clear_10 : decode cX7_clear 10 = .ok (.iconst 5, 1) := by decide +kernel
theorem dX7_clear_11 : decode cX7_clear 11 = .ok (.iaload, 1) := by decide +kernel
theorem dX7_clear_12 : decode cX7_clear 12 = .ok (.iadd, 1) := by decide +kernel
theorem dX7_clear_13 : decode cX7_clear 13 = .ok (.istore_n 1, 1) := by decide +kernel
theorem dX7_clear_14 : decode cX7_clear 14 = .ok (.aload_n 0, 1) := by decide +kernel
theorem dX7_clear_15 : decode cX7_clear 15 = .ok (.getfield 7, 3) := by decide +kernel
theorem dX7_clear_18 : decode cX7_clear 18 = .ok (.iconst 4, 1) := by decide +kernel
theorem dX7_clear_19 : decode cX7_clear 19 = .ok (.iconst 0, 1) := by decide +kernel
theorem dX7_clear_20 : decode cX7_clear 20 = .ok (.iastore, 1) := by decide +kernel
theorem dX7_clear_21 : decode cX7_clear 21 = .ok (.aload_n 0, 1) := by decide +kernel
theorem dX7_clear_22 : decode cX7_clear 22 = .ok (.getfield 7, 3) := by decide +kernel
theorem dX7_clear_25 : decode cX7_clear 25 = .ok (.iconst 5, 1) := by decide +kernel
theorem dX7_clear_26 : decode cX7_clear 26 = .ok (.iconst 0, 1) := by decide +kernel
theorem dX7_clear_27 : decode cX7_clear 27 = .ok (.iastore, 1) := by decide +kernel
theorem dX7_clear_28 : decode cX7_clear 28 = .ok (.iload_n 1, 1) := by decide +kernel
theorem dX7_clear_29 : decode cX7_clear 29 = .ok (.ireturn, 1) := by decide +kernel
set_option maxRecDepth 20000 in
theorem ggX7_feed_X7_in : GoodIn wsX7_feed wsX7_in := goodIn_r _ [7] (by decide +kernel) (by decide +kernel)
set_option maxRecDepth 20000 in
theorem gX7_feed_X7_in : GoodIn wsX7_feed (va_wsS RX7 64 yX7_in wsX7_in) := goodIn_app (goodIn_of _ (by decide +kernel)) ggX7_feed_X7_in
theorem dX7_feed_0 : decode cX7_feed 0 = .ok (.iload_n 3, 1) := by decide +kernel
theorem dX7_feed_1 : decode cX7_feed 1 = .ok (.iconst 1, 1) := by decide +kernel
theorem dX7_feed_2 : decode cX7_feed 2 = .ok (.bipush 8, 2) := by decide +kernel
theorem dX7_feed_4 : decode cX7_feed 4 = .ok (.invokestatic 64, 3) := by decide +kernel
theorem dX7_feed_7 : decode cX7_feed 7 = .ok (.ifCond .ne 5, 3) := by decide +kernel
theorem dX7_feed_10 : decode cX7_feed 10 = .ok (.iconst (-1), 1) := by decide +kernel
theorem dX7_feed_11 : decode cX7_feed 11 = .ok (.ireturn, 1) := by decide +kernel
theorem dX7_feed_12 : decode cX7_feed 12 = .ok (.aload_n 0, 1) := by decide +kernel
theorem dX7_feed_13 : decode cX7_feed 13 = .ok (.getfield 145, 3) := by decide +kernel
theorem dX7_feed_16 : decode cX7_feed 16 = .ok (.iload_n 3, 1) := by decide +kernel
theorem dX7_feed_17 : decode cX7_feed 17 = .ok (.iadd, 1) := by decide +kernel
theorem dX7_feed_18 : decode cX7_feed 18 = .ok (.bipush 120, 2) := by decide +kernel
theorem dX7_feed_20 : decode cX7_feed 20 = .ok (.if_icmp .le 6, 3) := by decide +kernel
theorem dX7_feed_23 : decode cX7_feed 23 = .ok (.bipush (-2), 2) := by decide +kernel
theorem dX7_feed_25 : decode cX7_feed 25 = .ok (.ireturn, 1) := by decide +kernel
theorem dX7_feed_26 : decode cX7_feed 26 = .ok (.iconst 0, 1) := by decide +kernel
theorem dX7_feed_27 : decode cX7_feed 27 = .ok (.istore 4, 2) := by decide +kernel
theorem dX7_feed_29 : decode cX7_feed 29 = .ok (.iload 4, 2) := by decide +kernel
theorem dX7_feed_31 : decode cX7_feed 31 = .ok (.iload_n 3, 1) := by decide +kernel
theorem dX7_feed_32 : decode cX7_feed 32 = .ok (.if_icmp .ge 40, 3) := by decide +kernel
theorem dX7_feed_35 : decode cX7_feed 35 = .ok (.aload_n 0, 1) := by decide +kernel
theorem dX7_feed_36 : decode cX7_feed 36 = .ok (.getfield 58, 3) := by decide +kernel
theorem dX7_feed_39 : decode cX7_feed 39 = .ok (.aload_n 0, 1) := by decide +kernel
theorem dX7_feed_40 : decode cX7_feed 40 = .ok (.getfield 145, 3) := by decide +kernel
theorem dX7_feed_43 : decode cX7_feed 43 = .ok (.lload_n 1, 1) := by decide +kernel
theorem dX7_feed_44 : decode cX7_feed 44 = .ok (.bipush 8, 2) := by decide +kernel
theorem dX7_feed_46 : decode cX7_feed 46 = .ok (.iload 4, 2) := by decide +kernel
theorem dX7_feed_48 : decode cX7_feed 48 = .ok (.imul, 1) := by decide +kernel
theorem dX7_feed_49 : decode cX7_feed 49 = .ok (.lushr, 1) := by decide +kernel
theorem dX7_feed_50 : decode cX7_feed 50 = .ok (.ldc2_w 148, 3) := by decide +kernel
theorem dX7_feed_53 : decode cX7_feed 53 = .ok (.land, 1) := by decide +kernel
theorem dX7_feed_54 : decode cX7_feed 54 = .ok (.l2i, 1) := by decide +kernel
theorem dX7_feed_55 : decode cX7_feed 55 = .ok (.iastore, 1) := by decide +kernel
theorem dX7_feed_56 : decode cX7_feed 56 = .ok (.aload_n 0, 1) := by decide +kernel
theorem dX7_feed_57 : decode cX7_feed 57 = .ok (.dup, 1) := by decide +kernel
theorem dX7_feed_58 : decode cX7_feed 58 = .ok (.getfield 145, 3) := by decide +kernel
theorem dX7_feed_61 : decode cX7_feed 61 = .ok (.iconst 1, 1) := by decide +kernel
theorem dX7_feed_62 : decode cX7_feed 62 = .ok (.iadd, 1) := by decide +kernel
theorem dX7_feed_63 : decode cX7_feed 63 = .ok (.putfield 145, 3) := by decide +kernel
theorem dX7_feed_66 : decode cX7_feed 66 = .ok (.iinc 4 1, 3) := by decide +kernel
theorem dX7_feed_69 : decode cX7_feed 69 = .ok (.goto (-40), 3) := by decide +kernel
theorem dX7_feed_72 : decode cX7_feed 72 = .ok (.aload_n 0, 1) := by decide +kernel
theorem dX7_feed_73 : decode cX7_feed 73 = .ok (.getfield 145, 3) := by decide +kernel
theorem dX7_feed_76 : decode cX7_feed 76 = .ok (.ireturn, 1) := by decide +kernel
theorem dX7_isLetter_0 : decode cX7_isLetter 0 = .ok (.iload_n 0, 1) := by decide +kernel
theorem dX7_isLetter_1 : decode cX7_isLetter 1 = .ok (.bipush 97, 2) := by decide +kernel
theorem dX7_isLetter_3 : decode cX7_isLetter 3 = .ok (.if_icmp .lt 13, 3) := by decide +kernel
theorem dX7_isLetter_6 : decode cX7_isLetter 6 = .ok (.iload_n 0, 1) := by decide +kernel
theorem dX7_isLetter_7 : decode cX7_isLetter 7 = .ok (.bipush 122, 2) := by decide +kernel
theorem dX7_isLetter_9 : decode cX7_isLetter 9 = .ok (.if_icmp .gt 7, 3) := by decide +kernel
theorem dX7_isLetter_12 : decode cX7_isLetter 12 = .ok (.iconst 1, 1) := by decide +kernel
theorem dX7_isLetter_13 : decode cX7_isLetter 13 = .ok (.goto 4, 3) := by decide +kernel
theorem dX7_isLetter_16 : decode cX7_isLetter 16 = .ok (.iconst 0, 1) := by decide +kernel
theorem dX7_isLetter_17 : decode cX7_isLetter 17 = .ok (.ireturn, 1) := by decide +kernel
theorem dX7_isDigit_0 : decode cX7_isDigit 0 = .ok (.iload_n 0, 1) := by decide +kernel
theorem dX7_isDigit_1 : decode cX7_isDigit 1 = .ok (.bipush 48, 2) := by decide +kernel
theorem dX7_isDigit_3 : decode cX7_isDigit 3 = .ok (.if_icmp .lt 13, 3) := by decide +kernel
theorem dX7_isDigit_6 : decode cX7_isDigit 6 = .ok (.iload_n 0, 1) := by decide +kernel
theorem dX7_isDigit_7 : decode cX7_isDigit 7 = .ok (.bipush 57, 2) := by decide +kernel
theorem dX7_isDigit_9 : decode cX7_isDigit 9 = .ok (.if_icmp .gt 7, 3) := by decide +kernel
theorem dX7_isDigit_12 : decode cX7_isDigit 12 = .ok (.iconst 1, 1) := by decide +kernel
theorem dX7_isDigit_13 : decode cX7_isDigit 13 = .ok (.goto 4, 3) := by decide +kernel
theorem dX7_isDigit_16 : decode cX7_isDigit 16 = .ok (.iconst 0, 1) := by decide +kernel
theorem dX7_isDigit_17 : decode cX7_isDigit 17 = .ok (.ireturn, 1) := by decide +kernel
set_option maxRecDepth 20000 in
theorem ggX7_advance_X7_isLetter : GoodIn wsX7_advance wsX7_isLetter := goodIn_r _ [10] (by decide +kernel) (by decide +kernel)
set_option maxRecDepth 20000 in
theorem gX7_advance_X7_isLetter : GoodIn wsX7_advance (va_wsS RX7 162 yX7_isLetter wsX7_isLetter) := goodIn_app (goodIn_of _ (by decide +kernel)) ggX7_advance_X7_isLetter
set_option maxRecDepth 20000 in
theorem ggX7_advance_X7_isDigit : GoodIn wsX7_advance wsX7_isDigit := goodIn_r _ [13] (by decide +kernel) (by decide +kernel)
set_option maxRecDepth 20000 in
theorem gX7_advance_X7_isDigit : GoodIn wsX7_advance (va_wsS RX7 165 yX7_isDigit wsX7_isDigit) := goodIn_app (goodIn_of _ (by decide +kernel)) ggX7_advance_X7_isDigit
theorem dX7_advance_0 : decode cX7_advance 0 = .ok (.aload_n 0, 1) := by decide +kernel
theorem dX7_advance_1 : decode cX7_advance 1 = .ok (.getfield 150, 3) := by decide +kernel
theorem dX7_advance_4 : decode cX7_advance 4 = .ok (.istore_n 1, 1) := by decide +kernel
theorem dX7_advance_5 : decode cX7_advance 5 = .ok (.iload_n 1, 1) := by decide +kernel
theorem dX7_advance_6 : decode cX7_advance 6 = .ok (.aload_n 0, 1) := by decide +kernel
theorem dX7_advance_7 : decode cX7_advance 7 = .ok (.getfield 145, 3) := by decide +kernel
theorem dX7_advance_10 : decode cX7_advance 10 = .ok (.if_icmp .ge 20, 3) := by decide +kernel
theorem dX7_advance_13 : decode cX7_advance 13 = .ok (.aload_n 0, 1) := by decide +kernel
theorem dX7_advance_14 : decode cX7_advance 14 = .ok (.getfield 58, 3) := by decide +kernel
theorem dX7_advance_17 : decode cX7_advance 17 = .ok (.iload_n 1, 1) := by decide +kernel
theorem dX7_advance_18 : decode cX7_advance 18 = .ok (.iaload, 1) := by decide +kernel
theorem dX7_advance_19 : decode cX7_advance 19 = .ok (.bipush 32, 2) := by decide +kernel
theorem dX7_advance_21 : decode cX7_advance 21 = .ok (.if_icmp .ne 9, 3) := by decide +kernel
theorem dX7_advance_24 : decode cX7_advance 24 = .ok (.iinc 1 1, 3) := by decide +kernel
theorem dX7_advance_27 : decode cX7_advance 27 = .ok (.goto (-22), 3) := by decide +kernel
theorem dX7_advance_30 : decode cX7_advance 30 = .ok (.aload_n 0, 1) := by decide +kernel
theorem dX7_advance_31 : decode cX7_advance 31 = .ok (.iload_n 1, 1) := by decide +kernel
theorem dX7_advance_32 : decode cX7_advance 32 = .ok (.putfield 153, 3) := by decide +kernel
theorem dX7_advance_35 : decode cX7_advance 35 = .ok (.aload_n 0, 1) := by decide +kernel
theorem dX7_advance_36 : decode cX7_advance 36 = .ok (.iconst 0, 1) := by decide +kernel
theorem dX7_advance_37 : decode cX7_advance 37 = .ok (.putfield 156, 3) := by decide +kernel
theorem dX7_advance_40 : decode cX7_advance 40 = .ok (.iload_n 1, 1) := by decide +kernel
theorem dX7_advance_41 : decode cX7_advance 41 = .ok (.aload_n 0, 1) := by decide +kernel
theorem dX7_advance_42 : decode cX7_advance 42 = .ok (.getfield 145, 3) := by decide +kernel
theorem dX7_advance_45 : decode cX7_advance 45 = .ok (.if_icmp .ne 11, 3) := by decide +kernel
theorem dX7_advance_48 : decode cX7_advance 48 = .ok (.aload_n 0, 1) := by decide +kernel
theorem dX7_advance_49 : decode cX7_advance 49 = .ok (.iconst 0, 1) := by decide +kernel
theorem dX7_advance_50 : decode cX7_advance 50 = .ok (.putfield 159, 3) := by decide +kernel
theorem dX7_advance_53 : decode cX7_advance 53 = .ok (.goto 205, 3) := by decide +kernel
theorem dX7_advance_56 : decode cX7_advance 56 = .ok (.aload_n 0, 1) := by decide +kernel
theorem dX7_advance_57 : decode cX7_advance 57 = .ok (.getfield 58, 3) := by decide +kernel
theorem dX7_advance_60 : decode cX7_advance 60 = .ok (.iload_n 1, 1) := by decide +kernel
theorem dX7_advance_61 : decode cX7_advance 61 = .ok (.iaload, 1) := by decide +kernel
theorem dX7_advance_62 : decode cX7_advance 62 = .ok (.invokestatic 162, 3) := by decide +kernel
theorem dX7_advance_65 : decode cX7_advance 65 = .ok (.ifCond .eq 94, 3) := by decide +kernel
theorem dX7_advance_68 : decode cX7_advance 68 = .ok (.aload_n 0, 1) := by decide +kernel
theorem dX7_advance_69 : decode cX7_advance 69 = .ok (.iconst 1, 1) := by decide +kernel
theorem dX7_advance_70 : decode cX7_advance 70 = .ok (.putfield 159, 3) := by decide +kernel
theorem dX7_advance_73 : decode cX7_advance 73 = .ok (.iload_n 1, 1) := by decide +kernel
theorem dX7_advance_74 : decode cX7_advance 74 = .ok (.aload_n 0, 1) := by decide +kernel
theorem dX7_advance_75 : decode cX7_advance 75 = .ok (.getfield 145, 3) := by decide +kernel
theorem dX7_advance_78 : decode cX7_advance 78 = .ok (.if_icmp .ge 56, 3) := by decide +kernel
theorem dX7_advance_81 : decode cX7_advance 81 = .ok (.aload_n 0, 1) := by decide +kernel
theorem dX7_advance_82 : decode cX7_advance 82 = .ok (.getfield 58, 3) := by decide +kernel
theorem dX7_advance_85 : decode cX7_advance 85 = .ok (.iload_n 1, 1) := by decide +kernel
theorem dX7_advance_86 : decode cX7_advance 86 = .ok (.iaload, 1) := by decide +kernel
theorem dX7_advance_87 : decode cX7_advance 87 = .ok (.invokestatic 162, 3) := by decide +kernel
theorem dX7_advance_90 : decode cX7_advance 90 = .ok (.ifCond .eq 44, 3) := by decide +kernel
theorem dX7_advance_93 : decode cX7_advance 93 = .ok (.aload_n 0, 1) := by decide +kernel
theorem dX7_advance_94 : decode cX7_advance 94 = .ok (.iload_n 1, 1) := by decide +kernel
theorem dX7_advance_95 : decode cX7_advance 95 = .ok (.aload_n 0, 1) := by decide +kernel
theorem dX7_advance_96 : decode cX7_advance 96 = .ok (.getfield 153, 3) := by decide +kernel
theorem dX7_advance_99 : decode cX7_advance 99 = .ok (.isub, 1) := by decide +kernel
theorem dX7_advance_100 : decode cX7_advance 100 = .ok (.iconst 5, 1) := by decide +kernel
theorem dX7_advance_101 : decode cX7_advance 101 = .ok (.if_icmp .ge 23, 3) := by decide +kernel
theorem dX7_advance_104 : decode cX7_advance 104 = .ok (.bipush 27, 2) := by decide +kernel
theorem dX7_advance_106 : decode cX7_advance 106 = .ok (.aload_n 0, 1) := by decide +kernel
theorem dX7_advance_107 : decode cX7_advance 107 = .ok (.getfield 156, 3) := by decide +kernel
theorem dX7_advance_110 : decode cX7_advance 110 = .ok (.imul, 1) := by decide +kernel
theorem dX7_advance_111 : decode cX7_advance 111 = .ok (.aload_n 0, 1) := by decide +kernel
theorem dX7_advance_112 : decode cX7_advance 112 = .ok (.getfield 58, 3) := by decide +kernel
theorem dX7_advance_115 : decode cX7_advance 115 = .ok (.iload_n 1, 1) := by decide +kernel
theorem dX7_advance_116 : decode cX7_advance 116 = .ok (.iaload, 1) := by decide +kernel
theorem dX7_advance_117 : decode cX7_advance 117 = .ok (.iadd, 1) := by decide +kernel
theorem dX7_advance_118 : decode cX7_advance 118 = .ok (.bipush 96, 2) := by decide +kernel
theorem dX7_advance_120 : decode cX7_advance 120 = .ok (.isub, 1) := by decide +kernel
theorem dX7_advance_121 : decode cX7_advance 121 = .ok (.goto 4, 3) := by decide +kernel
theorem dX7_advance_124 : decode cX7_advance 124 = .ok (.iconst 0, 1) := by decide +kernel
theorem dX7_advance_125 : decode cX7_advance 125 = .ok (.putfield 156, 3) := by decide +kernel
theorem dX7_advance_128 : decode cX7_advance 128 = .ok (.iinc 1 1, 3) := by decide +kernel
theorem dX7_advance_131 : decode cX7_advance 131 = .ok (.goto (-58), 3) := by decide +kernel
theorem dX7_advance_134 : decode cX7_advance 134 = .ok (.aload_n 0, 1) := by decide +kernel
theorem dX7_advance_135 : decode cX7_advance 135 = .ok (.iload_n 1, 1) := by decide +kernel
theorem dX7_advance_136 : decode cX7_advance 136 = .ok (.aload_n 0, 1) := by decide +kernel
theorem dX7_advance_137 : decode cX7_advance 137 = .ok (.getfield 153, 3) := by decide +kernel
theorem dX7_advance_140 : decode cX7_advance 140 = .ok (.isub, 1) := by decide +kernel
theorem dX7_advance_141 : decode cX7_advance 141 = .ok (.iconst 5, 1) := by decide +kernel
theorem dX7_advance_142 : decode cX7_advance 142 = .ok (.if_icmp .le 7, 3) := by decide +kernel
theorem dX7_advance_145 : decode cX7_advance 145 = .ok (.iconst 0, 1) := by decide +kernel
theorem dX7_advance_146 : decode cX7_advance 146 = .ok (.goto 7, 3) := by decide +kernel
theorem dX7_advance_149 : decode cX7_advance 149 = .ok (.aload_n 0, 1) := by decide +kernel
theorem dX7_advance_150 : decode cX7_advance 150 = .ok (.getfield 156, 3) := by decide +kernel
theorem dX7_advance_153 : decode cX7_advance 153 = .ok (.putfield 156, 3) := by decide +kernel
theorem dX7_advance_156 : decode cX7_advance 156 = .ok (.goto 102, 3) := by decide +kernel
theorem dX7_advance_159 : decode cX7_advance 159 = .ok (.aload_n 0, 1) := by decide +kernel
theorem dX7_advance_160 : decode cX7_advance 160 = .ok (.getfield 58, 3) := by decide +kernel
theorem dX7_advance_163 : decode cX7_advance 163 = .ok (.iload_n 1, 1) := by decide +kernel
theorem dX7_advance_164 : decode cX7_advance 164 = .ok (.iaload, 1) := by decide +kernel
theorem dX7_advance_165 : decode cX7_advance 165 = .ok (.invokestatic 165, 3) := by decide +kernel
theorem dX7_advance_168 : decode cX7_advance 168 = .ok (.ifCond .eq 72, 3) := by decide +kernel
theorem dX7_advance_171 : decode cX7_advance 171 = .ok (.aload_n 0, 1) := by decide +kernel
theorem dX7_advance_172 : decode cX7_advance 172 = .ok (.iconst 2, 1) := by decide +kernel
theorem dX7_advance_173 : decode cX7_advance 173 = .ok (.putfield 159, 3) := by decide +kernel
theorem dX7_advance_176 : decode cX7_advance 176 = .ok (.iload_n 1, 1) := by decide +kernel
theorem dX7_advance_177 : decode cX7_advance 177 = .ok (.aload_n 0, 1) := by decide +kernel
theorem dX7_advance_178 : decode cX7_advance 178 = .ok (.getfield 145, 3) := by decide +kernel
theorem dX7_advance_181 : decode cX7_advance 181 = .ok (.if_icmp .ge 77, 3) := by decide +kernel
theorem dX7_advance_184 : decode cX7_advance 184 = .ok (.aload_n 0, 1) := by decide +kernel
theorem dX7_advance_185 : decode cX7_advance 185 = .ok (.getfield 58, 3) := by decide +kernel
theorem dX7_advance_188 : decode cX7_advance 188 = .ok (.iload_n 1, 1) := by decide +kernel
theorem dX7_advance_189 : decode cX7_advance 189 = .ok (.iaload, 1) := by decide +kernel
theorem dX7_advance_190 : decode cX7_advance 190 = .ok (.invokestatic 165, 3) := by decide +kernel
theorem dX7_advance_193 : decode cX7_advance 193 = .ok (.ifCond .eq 65, 3) := by decide +kernel
theorem dX7_advance_196 : decode cX7_advance 196 = .ok (.aload_n 0, 1) := by decide +kernel
theorem dX7_advance_197 : decode cX7_advance 197 = .ok (.iload_n 1, 1) := by decide +kernel
theorem dX7_advance_198 : decode cX7_advance 198 = .ok (.aload_n 0, 1) := by decide +kernel
theorem dX7_advance_199 : decode cX7_advance 199 = .ok (.getfield 153, 3) := by decide +kernel
theorem dX7_advance_202 : decode cX7_advance 202 = .ok (.isub, 1) := by decide +kernel
theorem dX7_advance_203 : decode cX7_advance 203 = .ok (.iconst 3, 1) := by decide +kernel
theorem dX7_advance_204 : decode cX7_advance 204 = .ok (.if_icmp .ge 23, 3) := by decide +kernel
theorem dX7_advance_207 : decode cX7_advance 207 = .ok (.bipush 10, 2) := by decide +kernel
theorem dX7_advance_209 : decode cX7_advance 209 = .ok (.aload_n 0, 1) := by decide +kernel
theorem dX7_advance_210 : decode cX7_advance 210 = .ok (.getfield 156, 3) := by decide +kernel
theorem dX7_advance_213 : decode cX7_advance 213 = .ok (.imul, 1) := by decide +kernel
theorem dX7_advance_214 : decode cX7_advance 214 = .ok (.aload_n 0, 1) := by decide +kernel
theorem dX7_advance_215 : decode cX7_advance 215 = .ok (.getfield 58, 3) := by decide +kernel
theorem dX7_advance_218 : decode cX7_advance 218 = .ok (.iload_n 1, 1) := by decide +kernel
theorem dX7_advance_219 : decode cX7_advance 219 = .ok (.iaload, 1) := by decide +kernel
theorem dX7_advance_220 : decode cX7_advance 220 = .ok (.iadd, 1) := by decide +kernel
theorem dX7_advance_221 : decode cX7_advance 221 = .ok (.bipush 48, 2) := by decide +kernel
theorem dX7_advance_223 : decode cX7_advance 223 = .ok (.isub, 1) := by decide +kernel
theorem dX7_advance_224 : decode cX7_advance 224 = .ok (.goto 7, 3) := by decide +kernel
theorem dX7_advance_227 : decode cX7_advance 227 = .ok (.aload_n 0, 1) := by decide +kernel
theorem dX7_advance_228 : decode cX7_advance 228 = .ok (.getfield 156, 3) := by decide +kernel
theorem dX7_advance_231 : decode cX7_advance 231 = .ok (.putfield 156, 3) := by decide +kernel
theorem dX7_advance_234 : decode cX7_advance 234 = .ok (.iinc 1 1, 3) := by decide +kernel
theorem dX7_advance_237 : decode cX7_advance 237 = .ok (.goto (-61), 3) := by decide +kernel
theorem dX7_advance_240 : decode cX7_advance 240 = .ok (.aload_n 0, 1) := by decide +kernel
theorem dX7_advance_241 : decode cX7_advance 241 = .ok (.iconst 3, 1) := by decide +kernel
theorem dX7_advance_242 : decode cX7_advance 242 = .ok (.putfield 159, 3) := by decide +kernel
theorem dX7_advance_245 : decode cX7_advance 245 = .ok (.aload_n 0, 1) := by decide +kernel
theorem dX7_advance_246 : decode cX7_advance 246 = .ok (.aload_n 0, 1) := by decide +kernel
theorem dX7_advance_247 : decode cX7_advance 247 = .ok (.getfield 58, 3) := by decide +kernel
theorem dX7_advance_250 : decode cX7_advance 250 = .ok (.iload_n 1, 1) := by decide +kernel
theorem dX7_advance_251 : decode cX7_advance 251 = .ok (.iaload, 1) := by decide +kernel
theorem dX7_advance_252 : decode cX7_advance 252 = .ok (.putfield 156, 3) := by decide +kernel
theorem dX7_advance_255 : decode cX7_advance 255 = .ok (.iinc 1 1, 3) := by decide +kernel
theorem dX7_advance_258 : decode cX7_advance 258 = .ok (.aload_n 0, 1) := by decide +kernel
theorem dX7_advance_259 : decode cX7_advance 259 = .ok (.iload_n 1, 1) := by decide +kernel
theorem dX7_advance_260 : decode cX7_advance 260 = .ok (.putfield 150, 3) := by decide +kernel
theorem dX7_advance_263 : decode cX7_advance 263 = .ok (.return_, 1) := by decide +kernel
theorem dX7_isGood_0 : decode cX7_isGood 0 = .ok (.aload_n 0, 1) := by decide +kernel
theorem dX7_isGood_1 : decode cX7_isGood 1 = .ok (.getfield 168, 3) := by decide +kernel
theorem dX7_isGood_4 : decode cX7_isGood 4 = .ok (.ifCond .ge 7, 3) := by decide +kernel
theorem dX7_isGood_7 : decode cX7_isGood 7 = .ok (.iconst 1, 1) := by decide +kernel
theorem dX7_isGood_8 : decode cX7_isGood 8 = .ok (.goto 4, 3) := by decide +kernel
theorem dX7_isGood_11 : decode cX7_isGood 11 = .ok (.iconst 0, 1) := by decide +kernel
theorem dX7_isGood_12 : decode cX7_isGood 12 = .ok (.ireturn, 1) := by decide +kernel
theorem dX7_wrong_0 : decode cX7_wrong 0 = .ok (.aload_n 0, 1) := by decide +kernel
theorem dX7_wrong_1 : decode cX7_wrong 1 = .ok (.aload_n 0, 1) := by decide +kernel
theorem dX7_wrong_2 : decode cX7_wrong 2 = .ok (.getfield 168, 3) := by decide +kernel
theorem dX7_wrong_5 : decode cX7_wrong 5 = .ok (.ifCond .ge 10, 3) := by decide +kernel
theorem dX7_wrong_8 : decode cX7_wrong 8 = .ok (.aload_n 0, 1) := by decide +kernel
theorem dX7_wrong_9 : decode cX7_wrong 9 = .ok (.getfield 153, 3) := by decide +kernel
theorem dX7_wrong_12 : decode cX7_wrong 12 = .ok (.goto 7, 3) := by decide +kernel
theorem dX7_wrong_15 : decode cX7_wrong 15 = .ok (.aload_n 0, 1) := by decide +kernel
theorem dX7_wrong_16 : decode cX7_wrong 16 = .ok (.getfield 168, 3) := by decide +kernel
theorem dX7_wrong_19 : decode cX7_wrong 19 = .ok (.putfield 168, 3) := by decide +kernel
theorem dX7_wrong_22 : decode cX7_wrong 22 = .ok (.return_, 1) := by decide +kernel
set_option maxRecDepth 20000 in
theorem ggX7_wantNumber_X7_isGood : GoodIn wsX7_wantNumber wsX7_isGood := goodIn_r _ [9, 10, 27, 28, 29, 30, 31, 32, 33, 34, 35, 36, 37, 38, 39, 40, 41, 42, 43, 44, 45, 46, 47, 48, 49, 50, 51, 52, 53, 54] (by decide +kernel) (by decide +kernel)
set_option maxRecDepth 20000 in
theorem gX7_wantNumber_X7_isGood : GoodIn wsX7_wantNumber (wsV RX7 171 RX7 yX7_isGood wsX7_isGood) := goodIn_app (goodIn_of _ (by decide +kernel)) ggX7_wantNumber_X7_isGood
set_option maxRecDepth 20000 in
theorem ggX7_wantNumber_X7_advance : GoodIn wsX7_wantNumber wsX7_advance := goodIn_r _ [14, 3, 15, 16, 4, 1, 2, 17, 18, 8, 19, 20, 21, 22, 27, 28, 29, 30, 31, 32, 33, 34, 35, 36, 37, 38, 39, 40, 41, 42, 43, 44, 45, 46, 47, 48, 49, 50, 51, 52, 53, 54] (by decide +kernel) (by decide +kernel)
set_option maxRecDepth 20000 in
theorem gX7_wantNumber_X7_advance : GoodIn wsX7_wantNumber (wsV RX7 175 RX7 yX7_advance wsX7_advance) := goodIn_app (goodIn_of _ (by decide +kernel)) ggX7_wantNumber_X7_advance
set_option maxRecDepth 20000 in
theorem ggX7_wantNumber_X7_wrong : GoodIn wsX7_wantNumber wsX7_wrong := goodIn_r _ [26, 10, 4, 27, 28, 29, 30, 31, 32, 33, 34, 35, 36, 37, 38, 39, 40, 41, 42, 43, 44, 45, 46, 47, 48, 49, 50, 51, 52, 53, 54] (by decide +kernel) (by decide +kernel)
set_option maxRecDepth 20000 in
theorem gX7_wantNumber_X7_wrong : GoodIn wsX7_wantNumber (wsV RX7 178 RX7 yX7_wrong wsX7_wrong) := goodIn_app (goodIn_of _ (by decide +kernel)) ggX7_wantNumber_X7_wrong
theorem dX7_wantNumber_0 : decode cX7_wantNumber 0 = .ok (.aload_n 0, 1) := by decide +kernel
theorem dX7_wantNumber_1 : decode cX7_wantNumber 1 = .ok (.getfield 156, 3) := by decide +kernel
theorem dX7_wantNumber_4 : decode cX7_wantNumber 4 = .ok (.istore_n 2, 1) := by decide +kernel
theorem dX7_wantNumber_5 : decode cX7_wantNumber 5 = .ok (.aload_n 0, 1) := by decide +kernel
theorem dX7_wantNumber_6 : decode cX7_wantNumber 6 = .ok (.invokevirtual 171, 3) := by decide +kernel
theorem dX7_wantNumber_9 : decode cX7_wantNumber 9 = .ok (.ifCond .eq 40, 3) := by decide +kernel
theorem dX7_wantNumber_12 : decode cX7_wantNumber 12 = .ok (.aload_n 0, 1) := by decide +kernel
theorem dX7_wantNumber_13 : decode cX7_wantNumber 13 = .ok (.getfield 159, 3) := by decide +kernel
theorem dX7_wantNumber_16 : decode cX7_wantNumber 16 = .ok (.iconst 2, 1) := by decide +kernel
theorem dX7_wantNumber_17 : decode cX7_wantNumber 17 = .ok (.if_icmp .ne 28, 3) := by decide +kernel
theorem dX7_wantNumber_20 : decode cX7_wantNumber 20 = .ok (.aload_n 0, 1) := by decide +kernel
theorem dX7_wantNumber_21 : decode cX7_wantNumber 21 = .ok (.getfield 150, 3) := by decide +kernel
theorem dX7_wantNumber_24 : decode cX7_wantNumber 24 = .ok (.aload_n 0, 1) := by decide +kernel
theorem dX7_wantNumber_25 : decode cX7_wantNumber 25 = .ok (.getfield 153, 3) := by decide +kernel
theorem dX7_wantNumber_28 : decode cX7_wantNumber 28 = .ok (.isub, 1) := by decide +kernel
theorem dX7_wantNumber_29 : decode cX7_wantNumber 29 = .ok (.iconst 3, 1) := by decide +kernel
theorem dX7_wantNumber_30 : decode cX7_wantNumber 30 = .ok (.if_icmp .gt 15, 3) := by decide +kernel
theorem dX7_wantNumber_33 : decode cX7_wantNumber 33 = .ok (.iload_n 2, 1) := by decide +kernel
theorem dX7_wantNumber_34 : decode cX7_wantNumber 34 = .ok (.iload_n 1, 1) := by decide +kernel
theorem dX7_wantNumber_35 : decode cX7_wantNumber 35 = .ok (.if_icmp .gt 10, 3) := by decide +kernel
theorem dX7_wantNumber_38 : decode cX7_wantNumber 38 = .ok (.aload_n 0, 1) := by decide +kernel
theorem dX7_wantNumber_39 : decode cX7_wantNumber 39 = .ok (.invokevirtual 175, 3) := by decide +kernel
theorem dX7_wantNumber_42 : decode cX7_wantNumber 42 = .ok (.goto 7, 3) := by decide +kernel
theorem dX7_wantNumber_45 : decode cX7_wantNumber 45 = .ok (.aload_n 0, 1) := by decide +kernel
theorem dX7_wantNumber_46 : decode cX7_wantNumber 46 = .ok (.invokevirtual 178, 3) := by decide +kernel
theorem dX7_wantNumber_49 : decode cX7_wantNumber 49 = .ok (.iload_n 2, 1) := by decide +kernel
theorem dX7_wantNumber_50 : decode cX7_wantNumber 50 = .ok (.ireturn, 1) := by decide +kernel
theorem dX7_kindOf_0 : decode cX7_kindOf 0 = .ok (.aload_n 0, 1) := by decide +kernel
theorem dX7_kindOf_1 : decode cX7_kindOf 1 = .ok (.getfield 159, 3) := by decide +kernel
theorem dX7_kindOf_4 : decode cX7_kindOf 4 = .ok (.iconst 1, 1) := by decide +kernel
theorem dX7_kindOf_5 : decode cX7_kindOf 5 = .ok (.if_icmp .eq 5, 3) := by decide +kernel
theorem dX7_kindOf_8 : decode cX7_kindOf 8 = .ok (.iconst (-1), 1) := by decide +kernel
theorem dX7_kindOf_9 : decode cX7_kindOf 9 = .ok (.ireturn, 1) := by decide +kernel
theorem dX7_kindOf_10 : decode cX7_kindOf 10 = .ok (.aload_n 0, 1) := by decide +kernel
theorem dX7_kindOf_11 : decode cX7_kindOf 11 = .ok (.getfield 156, 3) := by decide +kernel
theorem dX7_kindOf_14 : decode cX7_kindOf 14 = .ok (.lookupswitch 71 #[(2968, 60), (92275, 66), (131360, 58), (247664, 64), (365647, 68), (464144, 62)], 58) := by decide +kernel
theorem dX7_kindOf_72 : decode cX7_kindOf 72 = .ok (.iconst 0, 1) := by decide +kernel
theorem dX7_kindOf_73 : decode cX7_kindOf 73 = .ok (.ireturn, 1) := by decide +kernel
theorem dX7_kindOf_74 : decode cX7_kindOf 74 = .ok (.iconst 1, 1) := by decide +kernel
theorem dX7_kindOf_75 : decode cX7_kindOf 75 = .ok (.ireturn, 1) := by decide +kernel
theorem dX7_kindOf_76 : decode cX7_kindOf 76 = .ok (.iconst 2, 1) := by decide +kernel
theorem dX7_kindOf_77 : decode cX7_kindOf 77 = .ok (.ireturn, 1) := by decide +kernel
theorem dX7_kindOf_78 : decode cX7_kindOf 78 = .ok (.iconst 3, 1) := by decide +kernel
theorem dX7_kindOf_79 : decode cX7_kindOf 79 = .ok (.ireturn, 1) := by decide +kernel
theorem dX7_kindOf_80 : decode cX7_kindOf 80 = .ok (.iconst 4, 1) := by decide +kernel
theorem dX7_kindOf_81 : decode cX7_kindOf 81 = .ok (.ireturn, 1) := by decide +kernel
theorem dX7_kindOf_82 : decode cX7_kindOf 82 = .ok (.bipush 10, 2) := by decide +kernel
theorem dX7_kindOf_84 : decode cX7_kindOf 84 = .ok (.ireturn, 1) := by decide +kernel
theorem dX7_kindOf_85 : decode cX7_kindOf 85 = .ok (.iconst (-1), 1) := by decide +kernel
theorem dX7_kindOf_86 : decode cX7_kindOf 86 = .ok (.ireturn, 1) := by decide +kernel
set_option maxRecDepth 20000 in
theorem ggX7_wantClause_X7_kindOf : GoodIn wsX7_wantClause wsX7_kindOf := goodIn_r _ [11, 2, 5, 37, 38, 39, 40, 41, 42, 43, 44, 45, 46, 47, 48, 49, 50, 51, 52, 53, 54, 55, 56, 57, 58, 59, 60, 61, 62, 63, 64] (by decide +kernel) (by decide +kernel)
set_option maxRecDepth 20000 in
theorem gX7_wantClause_X7_kindOf : GoodIn wsX7_wantClause (wsV RX7 181 RX7 yX7_kindOf wsX7_kindOf) := goodIn_app (goodIn_of _ (by decide +kernel)) ggX7_wantClause_X7_kindOf
set_option maxRecDepth 20000 in
theorem ggX7_wantClause_X7_wrong : GoodIn wsX7_wantClause wsX7_wrong := goodIn_r _ [15, 16, 4, 37, 38, 39, 40, 41, 42, 43, 44, 45, 46, 47, 48, 49, 50, 51, 52, 53, 54, 55, 56, 57, 58, 59, 60, 61, 62, 63, 64] (by decide +kernel) (by decide +kernel)
set_option maxRecDepth 20000 in
theorem gX7_wantClause_X7_wrong : GoodIn wsX7_wantClause (wsV RX7 178 RX7 yX7_wrong wsX7_wrong) := goodIn_app (goodIn_of _ (by decide +kernel)) ggX7_wantClause_X7_wrong
set_option maxRecDepth 20000 in
theorem ggX7_wantClause_X7_advance : GoodIn wsX7_wantClause wsX7_advance := goodIn_r _ [20, 3, 21, 22, 4, 5, 2, 23, 24, 10, 25, 26, 27, 28, 37, 38, 39, 40, 41, 42, 43, 44, 45, 46, 47, 48, 49, 50, 51, 52, 53, 54, 55, 56, 57, 58, 59, 60, 61, 62, 63, 64] (by decide +kernel) (by decide +kernel)
set_option maxRecDepth 20000 in
theorem gX7_wantClause_X7_advance : GoodIn wsX7_wantClause (wsV RX7 175 RX7 yX7_advance wsX7_advance) := goodIn_app (goodIn_of _ (by decide +kernel)) ggX7_wantClause_X7_advance
set_option maxRecDepth 20000 in
theorem ggX7_wantClause_X7_wantNumber : GoodIn wsX7_wantClause wsX7_wantNumber := goodIn_r _ [32, 5, 2, 3, 4, 33, 34, 35, 10, 36, 16, 17, 18, 19, 20, 21, 22, 23, 24, 25, 26, 27, 28, 12, 13, 14, 15, 37, 38, 39, 40, 41, 42, 43, 44, 45, 46, 47, 48, 49, 50, 51, 52, 53, 54, 55, 56, 57, 58, 59, 60, 61, 62, 63, 64] (by decide +kernel) (by decide +kernel)
set_option maxRecDepth 20000 in
theorem gX7_wantClause_X7_wantNumber : GoodIn wsX7_wantClause (wsV RX7 187 RX7 yX7_wantNumber wsX7_wantNumber) := goodIn_app (goodIn_of _ (by decide +kernel)) ggX7_wantClause_X7_wantNumber
set_option maxRecDepth 20000 in
theorem ggX7_wantClause_X7_isGood : GoodIn wsX7_wantClause wsX7_isGood := goodIn_r _ [36, 16, 37, 38, 39, 40, 41, 42, 43, 44, 45, 46, 47, 48, 49, 50, 51, 52, 53, 54, 55, 56, 57, 58, 59, 60, 61, 62, 63, 64] (by decide +kernel) (by decide +kernel)
set_option maxRecDepth 20000 in
theorem gX7_wantClause_X7_isGood : GoodIn wsX7_wantClause (wsV RX7 171 RX7 yX7_isGood wsX7_isGood) := goodIn_app (goodIn_of _ (by decide +kernel)) ggX7_wantClause_X7_isGood
theorem dX7_wantClause_0 : decode cX7_wantClause 0 = .ok (.aload_n 0, 1) := by decide +kernel
theorem dX7_wantClause_1 : decode cX7_wantClause 1 = .ok (.invokevirtual 181, 3) := by decide +kernel
theorem dX7_wantClause_4 : decode cX7_wantClause 4 = .ok (.istore_n 1, 1) := by decide +kernel
theorem dX7_wantClause_5 : decode cX7_wantClause 5 = .ok (.iload_n 1, 1) := by decide +kernel
theorem dX7_wantClause_6 : decode cX7_wantClause 6 = .ok (.ifCond .lt 20, 3) := by decide +kernel
theorem dX7_wantClause_9 : decode cX7_wantClause 9 = .ok (.iload_n 1, 1) := by decide +kernel
theorem dX7_wantClause_10 : decode cX7_wantClause 10 = .ok (.iconst 4, 1) := by decide +kernel
theorem dX7_wantClause_11 : decode cX7_wantClause 11 = .ok (.if_icmp .ge 20, 3) := by decide +kernel
theorem dX7_wantClause_14 : decode cX7_wantClause 14 = .ok (.aload_n 0, 1) := by decide +kernel
theorem dX7_wantClause_15 : decode cX7_wantClause 15 = .ok (.getfield 184, 3) := by decide +kernel
theorem dX7_wantClause_18 : decode cX7_wantClause 18 = .ok (.iload_n 1, 1) := by decide +kernel
theorem dX7_wantClause_19 : decode cX7_wantClause 19 = .ok (.ishr, 1) := by decide +kernel
theorem dX7_wantClause_20 : decode cX7_wantClause 20 = .ok (.iconst 1, 1) := by decide +kernel
theorem dX7_wantClause_21 : decode cX7_wantClause 21 = .ok (.iand, 1) := by decide +kernel
theorem dX7_wantClause_22 : decode cX7_wantClause 22 = .ok (.iconst 1, 1) := by decide +kernel
theorem dX7_wantClause_23 : decode cX7_wantClause 23 = .ok (.if_icmp .ne 8, 3) := by decide +kernel
theorem dX7_wantClause_26 : decode cX7_wantClause 26 = .ok (.aload_n 0, 1) := by decide +kernel
theorem dX7_wantClause_27 : decode cX7_wantClause 27 = .ok (.invokevirtual 178, 3) := by decide +kernel
theorem dX7_wantClause_30 : decode cX7_wantClause 30 = .ok (.return_, 1) := by decide +kernel
theorem dX7_wantClause_31 : decode cX7_wantClause 31 = .ok (.aload_n 0, 1) := by decide +kernel
theorem dX7_wantClause_32 : decode cX7_wantClause 32 = .ok (.invokevirtual 175, 3) := by decide +kernel
theorem dX7_wantClause_35 : decode cX7_wantClause 35 = .ok (.iload_n 1, 1) := by decide +kernel
theorem dX7_wantClause_36 : decode cX7_wantClause 36 = .ok (.iconst 4, 1) := by decide +kernel
theorem dX7_wantClause_37 : decode cX7_wantClause 37 = .ok (.if_icmp .lt 71, 3) := by decide +kernel
theorem dX7_wantClause_40 : decode cX7_wantClause 40 = .ok (.aload_n 0, 1) := by decide +kernel
theorem dX7_wantClause_41 : decode cX7_wantClause 41 = .ok (.getfield 159, 3) := by decide +kernel
theorem dX7_wantClause_44 : decode cX7_wantClause 44 = .ok (.iconst 2, 1) := by decide +kernel
theorem dX7_wantClause_45 : decode cX7_wantClause 45 = .ok (.if_icmp .ne 45, 3) := by decide +kernel
theorem dX7_wantClause_48 : decode cX7_wantClause 48 = .ok (.aload_n 0, 1) := by decide +kernel
theorem dX7_wantClause_49 : decode cX7_wantClause 49 = .ok (.getfield 150, 3) := by decide +kernel
theorem dX7_wantClause_52 : decode cX7_wantClause 52 = .ok (.aload_n 0, 1) := by decide +kernel
theorem dX7_wantClause_53 : decode cX7_wantClause 53 = .ok (.getfield 153, 3) := by decide +kernel
theorem dX7_wantClause_56 : decode cX7_wantClause 56 = .ok (.isub, 1) := by decide +kernel
theorem dX7_wantClause_57 : decode cX7_wantClause 57 = .ok (.iconst 3, 1) := by decide +kernel
theorem dX7_wantClause_58 : decode cX7_wantClause 58 = .ok (.if_icmp .gt 32, 3) := by decide +kernel
theorem dX7_wantClause_61 : decode cX7_wantClause 61 = .ok (.aload_n 0, 1) := by decide +kernel
theorem dX7_wantClause_62 : decode cX7_wantClause 62 = .ok (.getfield 156, 3) := by decide +kernel
theorem dX7_wantClause_65 : decode cX7_wantClause 65 = .ok (.iconst 5, 1) := by decide +kernel
theorem dX7_wantClause_66 : decode cX7_wantClause 66 = .ok (.if_icmp .gt 24, 3) := by decide +kernel
theorem dX7_wantClause_69 : decode cX7_wantClause 69 = .ok (.aload_n 0, 1) := by decide +kernel
theorem dX7_wantClause_70 : decode cX7_wantClause 70 = .ok (.getfield 184, 3) := by decide +kernel
theorem dX7_wantClause_73 : decode cX7_wantClause 73 = .ok (.iload_n 1, 1) := by decide +kernel
theorem dX7_wantClause_74 : decode cX7_wantClause 74 = .ok (.aload_n 0, 1) := by decide +kernel
theorem dX7_wantClause_75 : decode cX7_wantClause 75 = .ok (.getfield 156, 3) := by decide +kernel
theorem dX7_wantClause_78 : decode cX7_wantClause 78 = .ok (.iadd, 1) := by decide +kernel
theorem dX7_wantClause_79 : decode cX7_wantClause 79 = .ok (.ishr, 1) := by decide +kernel
theorem dX7_wantClause_80 : decode cX7_wantClause 80 = .ok (.iconst 1, 1) := by decide +kernel
theorem dX7_wantClause_81 : decode cX7_wantClause 81 = .ok (.iand, 1) := by decide +kernel
theorem dX7_wantClause_82 : decode cX7_wantClause 82 = .ok (.iconst 1, 1) := by decide +kernel
theorem dX7_wantClause_83 : decode cX7_wantClause 83 = .ok (.if_icmp .ne 7, 3) := by decide +kernel
theorem dX7_wantClause_86 : decode cX7_wantClause 86 = .ok (.iconst 1, 1) := by decide +kernel
theorem dX7_wantClause_87 : decode cX7_wantClause 87 = .ok (.goto 4, 3) := by decide +kernel
theorem dX7_wantClause_90 : decode cX7_wantClause 90 = .ok (.iconst 0, 1) := by decide +kernel
theorem dX7_wantClause_91 : decode cX7_wantClause 91 = .ok (.istore_n 2, 1) := by decide +kernel
theorem dX7_wantClause_92 : decode cX7_wantClause 92 = .ok (.iload_n 2, 1) := by decide +kernel
theorem dX7_wantClause_93 : decode cX7_wantClause 93 = .ok (.ifCond .eq 7, 3) := by decide +kernel
theorem dX7_wantClause_96 : decode cX7_wantClause 96 = .ok (.aload_n 0, 1) := by decide +kernel
theorem dX7_wantClause_97 : decode cX7_wantClause 97 = .ok (.invokevirtual 178, 3) := by decide +kernel
theorem dX7_wantClause_100 : decode cX7_wantClause 100 = .ok (.iload_n 1, 1) := by decide +kernel
theorem dX7_wantClause_101 : decode cX7_wantClause 101 = .ok (.aload_n 0, 1) := by decide +kernel
theorem dX7_wantClause_102 : decode cX7_wantClause 102 = .ok (.iconst 5, 1) := by decide +kernel
theorem dX7_wantClause_103 : decode cX7_wantClause 103 = .ok (.invokevirtual 187, 3) := by decide +kernel
theorem dX7_wantClause_106 : decode cX7_wantClause 106 = .ok (.iadd, 1) := by decide +kernel
theorem dX7_wantClause_107 : decode cX7_wantClause 107 = .ok (.istore_n 1, 1) := by decide +kernel
theorem dX7_wantClause_108 : decode cX7_wantClause 108 = .ok (.aload_n 0, 1) := by decide +kernel
theorem dX7_wantClause_109 : decode cX7_wantClause 109 = .ok (.sipush 999, 3) := by decide +kernel
theorem dX7_wantClause_112 : decode cX7_wantClause 112 = .ok (.invokevirtual 187, 3) := by decide +kernel
theorem dX7_wantClause_115 : decode cX7_wantClause 115 = .ok (.istore_n 2, 1) := by decide +kernel
theorem dX7_wantClause_116 : decode cX7_wantClause 116 = .ok (.aload_n 0, 1) := by decide +kernel
theorem dX7_wantClause_117 : decode cX7_wantClause 117 = .ok (.invokevirtual 171, 3) := by decide +kernel
theorem dX7_wantClause_120 : decode cX7_wantClause 120 = .ok (.ifCond .eq 53, 3) := by decide +kernel
theorem dX7_wantClause_123 : decode cX7_wantClause 123 = .ok (.aload_n 0, 1) := by decide +kernel
theorem dX7_wantClause_124 : decode cX7_wantClause 124 = .ok (.dup, 1) := by decide +kernel
theorem dX7_wantClause_125 : decode cX7_wantClause 125 = .ok (.getfield 184, 3) := by decide +kernel
theorem dX7_wantClause_128 : decode cX7_wantClause 128 = .ok (.iconst 1, 1) := by decide +kernel
theorem dX7_wantClause_129 : decode cX7_wantClause 129 = .ok (.iload_n 1, 1) := by decide +kernel
theorem dX7_wantClause_130 : decode cX7_wantClause 130 = .ok (.ishl, 1) := by decide +kernel
theorem dX7_wantClause_131 : decode cX7_wantClause 131 = .ok (.ior, 1) := by decide +kernel
theorem dX7_wantClause_132 : decode cX7_wantClause 132 = .ok (.putfield 184, 3) := by decide +kernel
theorem dX7_wantClause_135 : decode cX7_wantClause 135 = .ok (.aload_n 0, 1) := by decide +kernel
theorem dX7_wantClause_136 : decode cX7_wantClause 136 = .ok (.getfield 31, 3) := by decide +kernel
theorem dX7_wantClause_139 : decode cX7_wantClause 139 = .ok (.bipush 51, 2) := by decide +kernel
theorem dX7_wantClause_141 : decode cX7_wantClause 141 = .ok (.iload_n 1, 1) := by decide +kernel
theorem dX7_wantClause_142 : decode cX7_wantClause 142 = .ok (.iadd, 1) := by decide +kernel
theorem dX7_wantClause_143 : decode cX7_wantClause 143 = .ok (.iload_n 2, 1) := by decide +kernel
theorem dX7_wantClause_144 : decode cX7_wantClause 144 = .ok (.iastore, 1) := by decide +kernel
theorem dX7_wantClause_145 : decode cX7_wantClause 145 = .ok (.aload_n 0, 1) := by decide +kernel
theorem dX7_wantClause_146 : decode cX7_wantClause 146 = .ok (.getfield 159, 3) := by decide +kernel
theorem dX7_wantClause_149 : decode cX7_wantClause 149 = .ok (.iconst 3, 1) := by decide +kernel
theorem dX7_wantClause_150 : decode cX7_wantClause 150 = .ok (.if_icmp .ne 19, 3) := by decide +kernel
theorem dX7_wantClause_153 : decode cX7_wantClause 153 = .ok (.aload_n 0, 1) := by decide +kernel
theorem dX7_wantClause_154 : decode cX7_wantClause 154 = .ok (.getfield 156, 3) := by decide +kernel
theorem dX7_wantClause_157 : decode cX7_wantClause 157 = .ok (.bipush 59, 2) := by decide +kernel
theorem dX7_wantClause_159 : decode cX7_wantClause 159 = .ok (.if_icmp .ne 10, 3) := by decide +kernel
theorem dX7_wantClause_162 : decode cX7_wantClause 162 = .ok (.aload_n 0, 1) := by decide +kernel
theorem dX7_wantClause_163 : decode cX7_wantClause 163 = .ok (.invokevirtual 175, 3) := by decide +kernel
theorem dX7_wantClause_166 : decode cX7_wantClause 166 = .ok (.goto 7, 3) := by decide +kernel
theorem dX7_wantClause_169 : decode cX7_wantClause 169 = .ok (.aload_n 0, 1) := by decide +kernel
theorem dX7_wantClause_170 : decode cX7_wantClause 170 = .ok (.invokevirtual 178, 3) := by decide +kernel
theorem dX7_wantClause_173 : decode cX7_wantClause 173 = .ok (.return_, 1) := by decide +kernel
set_option maxRecDepth 20000 in
theorem ggX7_read_X7_in : GoodIn wsX7_read wsX7_in := goodIn_r _ [10] (by decide +kernel) (by decide +kernel)
set_option maxRecDepth 20000 in
theorem gX7_read_X7_in : GoodIn wsX7_read (va_wsS RX7 64 yX7_in wsX7_in) := goodIn_app (goodIn_of _ (by decide +kernel)) ggX7_read_X7_in
set_option maxRecDepth 20000 in
theorem ggX7_read_X7_advance : GoodIn wsX7_read wsX7_advance := goodIn_r _ [14, 5, 1, 15, 16, 17, 6, 18, 19, 9, 20, 21, 22, 23, 44, 45, 46, 47, 48, 49, 50, 51, 52, 53, 54, 55, 56, 57, 58, 59, 60, 61, 62, 63, 64, 65, 66, 67, 68, 69, 70, 71] (by decide +kernel) (by decide +kernel)
set_option maxRecDepth 20000 in
theorem gX7_read_X7_advance : GoodIn wsX7_read (wsV RX7 175 RX7 yX7_advance wsX7_advance) := goodIn_app (goodIn_of _ (by decide +kernel)) ggX7_read_X7_advance
set_option maxRecDepth 20000 in
theorem ggX7_read_X7_isGood : GoodIn wsX7_read wsX7_isGood := goodIn_r _ [27, 3, 44, 45, 46, 47, 48, 49, 50, 51, 52, 53, 54, 55, 56, 57, 58, 59, 60, 61, 62, 63, 64, 65, 66, 67, 68, 69, 70, 71] (by decide +kernel) (by decide +kernel)
set_option maxRecDepth 20000 in
theorem gX7_read_X7_isGood : GoodIn wsX7_read (wsV RX7 171 RX7 yX7_isGood wsX7_isGood) := goodIn_app (goodIn_of _ (by decide +kernel)) ggX7_read_X7_isGood
set_option maxRecDepth 20000 in
theorem ggX7_read_X7_wantClause : GoodIn wsX7_read wsX7_wantClause := goodIn_r _ [31, 4, 6, 5, 16, 17, 2, 32, 33, 34, 9, 35, 36, 37, 38, 39, 3, 11, 12, 13, 14, 1, 15, 18, 19, 20, 21, 22, 23, 40, 41, 42, 43, 24, 25, 26, 27, 44, 45, 46, 47, 48, 49, 50, 51, 52, 53, 54, 55, 56, 57, 58, 59, 60, 61, 62, 63, 64, 65, 66, 67, 68, 69, 70, 71] (by decide +kernel) (by decide +kernel)
set_option maxRecDepth 20000 in
theorem gX7_read_X7_wantClause : GoodIn wsX7_read (wsV RX7 190 RX7 yX7_wantClause wsX7_wantClause) := goodIn_app (goodIn_of _ (by decide +kernel)) ggX7_read_X7_wantClause
theorem dX7_read_0 : decode cX7_read 0 = .ok (.iload_n 1, 1) := by decide +kernel
theorem dX7_read_1 : decode cX7_read 1 = .ok (.iconst 0, 1) := by decide +kernel
theorem dX7_read_2 : decode cX7_read 2 = .ok (.iconst 2, 1) := by decide +kernel
theorem dX7_read_3 : decode cX7_read 3 = .ok (.invokestatic 64, 3) := by decide +kernel
theorem dX7_read_6 : decode cX7_read 6 = .ok (.ifCond .ne 10, 3) := by decide +kernel
theorem dX7_read_9 : decode cX7_read 9 = .ok (.aload_n 0, 1) := by decide +kernel
theorem dX7_read_10 : decode cX7_read 10 = .ok (.iconst 0, 1) := by decide +kernel
theorem dX7_read_11 : decode cX7_read 11 = .ok (.putfield 145, 3) := by decide +kernel
theorem dX7_read_14 : decode cX7_read 14 = .ok (.iconst (-1), 1) := by decide +kernel
theorem dX7_read_15 : decode cX7_read 15 = .ok (.ireturn, 1) := by decide +kernel
theorem dX7_read_16 : decode cX7_read 16 = .ok (.bipush 51, 2) := by decide +kernel
theorem dX7_read_18 : decode cX7_read 18 = .ok (.istore_n 2, 1) := by decide +kernel
theorem dX7_read_19 : decode cX7_read 19 = .ok (.iconst 0, 1) := by decide +kernel
theorem dX7_read_20 : decode cX7_read 20 = .ok (.istore_n 3, 1) := by decide +kernel
theorem dX7_read_21 : decode cX7_read 21 = .ok (.iload_n 3, 1) := by decide +kernel
theorem dX7_read_22 : decode cX7_read 22 = .ok (.bipush 16, 2) := by decide +kernel
theorem dX7_read_24 : decode cX7_read 24 = .ok (.if_icmp .ge 30, 3) := by decide +kernel
theorem dX7_read_27 : decode cX7_read 27 = .ok (.aload_n 0, 1) := by decide +kernel
theorem dX7_read_28 : decode cX7_read 28 = .ok (.getfield 31, 3) := by decide +kernel
theorem dX7_read_31 : decode cX7_read 31 = .ok (.iload_n 2, 1) := by decide +kernel
theorem dX7_read_32 : decode cX7_read 32 = .ok (.iload_n 3, 1) := by decide +kernel
theorem dX7_read_33 : decode cX7_read 33 = .ok (.iadd, 1) := by decide +kernel
theorem dX7_read_34 : decode cX7_read 34 = .ok (.iload_n 3, 1) := by decide +kernel
theorem dX7_read_35 : decode cX7_read 35 = .ok (.bipush 10, 2) := by decide +kernel
theorem dX7_read_37 : decode cX7_read 37 = .ok (.if_icmp .lt 9, 3) := by decide +kernel
theorem dX7_read_40 : decode cX7_read 40 = .ok (.sipush 999, 3) := by decide +kernel
theorem dX7_read_43 : decode cX7_read 43 = .ok (.goto 4, 3) := by decide +kernel
theorem dX7_read_46 : decode cX7_read 46 = .ok (.iconst 0, 1) := by decide +kernel
theorem dX7_read_47 : decode cX7_read 47 = .ok (.iastore, 1) := by decide +kernel
theorem dX7_read_48 : decode cX7_read 48 = .ok (.iinc 3 1, 3) := by decide +kernel
theorem dX7_read_51 : decode cX7_read 51 = .ok (.goto (-30), 3) := by decide +kernel
theorem dX7_read_54 : decode cX7_read 54 = .ok (.aload_n 0, 1) := by decide +kernel
theorem dX7_read_55 : decode cX7_read 55 = .ok (.getfield 31, 3) := by decide +kernel
theorem dX7_read_58 : decode cX7_read 58 = .ok (.iload_n 2, 1) := by decide +kernel
theorem dX7_read_59 : decode cX7_read 59 = .ok (.bipush 16, 2) := by decide +kernel
theorem dX7_read_61 : decode cX7_read 61 = .ok (.iadd, 1) := by decide +kernel
theorem dX7_read_62 : decode cX7_read 62 = .ok (.iconst 1, 1) := by decide +kernel
theorem dX7_read_63 : decode cX7_read 63 = .ok (.iastore, 1) := by decide +kernel
theorem dX7_read_64 : decode cX7_read 64 = .ok (.aload_n 0, 1) := by decide +kernel
theorem dX7_read_65 : decode cX7_read 65 = .ok (.iconst (-1), 1) := by decide +kernel
theorem dX7_read_66 : decode cX7_read 66 = .ok (.putfield 168, 3) := by decide +kernel
theorem dX7_read_69 : decode cX7_read 69 = .ok (.aload_n 0, 1) := by decide +kernel
theorem dX7_read_70 : decode cX7_read 70 = .ok (.iconst 0, 1) := by decide +kernel
theorem dX7_read_71 : decode cX7_read 71 = .ok (.putfield 184, 3) := by decide +kernel
theorem dX7_read_74 : decode cX7_read 74 = .ok (.aload_n 0, 1) := by decide +kernel
theorem dX7_read_75 : decode cX7_read 75 = .ok (.iconst 0, 1) := by decide +kernel
theorem dX7_read_76 : decode cX7_read 76 = .ok (.putfield 150, 3) := by decide +kernel
theorem dX7_read_79 : decode cX7_read 79 = .ok (.aload_n 0, 1) := by decide +kernel
theorem dX7_read_80 : decode cX7_read 80 = .ok (.invokevirtual 175, 3) := by decide +kernel
theorem dX7_read_83 : decode cX7_read 83 = .ok (.iconst 0, 1) := by decide +kernel
theorem dX7_read_84 : decode cX7_read 84 = .ok (.istore_n 3, 1) := by decide +kernel
theorem dX7_read_85 : decode cX7_read 85 = .ok (.aload_n 0, 1) := by decide +kernel
theorem dX7_read_86 : decode cX7_read 86 = .ok (.getfield 159, 3) := by decide +kernel
theorem dX7_read_89 : decode cX7_read 89 = .ok (.ifCond .eq 20, 3) := by decide +kernel
theorem dX7_read_92 : decode cX7_read 92 = .ok (.aload_n 0, 1) := by decide +kernel
theorem dX7_read_93 : decode cX7_read 93 = .ok (.invokevirtual 171, 3) := by decide +kernel
theorem dX7_read_96 : decode cX7_read 96 = .ok (.ifCond .eq 13, 3) := by decide +kernel
theorem dX7_read_99 : decode cX7_read 99 = .ok (.aload_n 0, 1) := by decide +kernel
theorem dX7_read_100 : decode cX7_read 100 = .ok (.invokevirtual 190, 3) := by decide +kernel
theorem dX7_read_103 : decode cX7_read 103 = .ok (.iinc 3 1, 3) := by decide +kernel
theorem dX7_read_106 : decode cX7_read 106 = .ok (.goto (-21), 3) := by decide +kernel
theorem dX7_read_109 : decode cX7_read 109 = .ok (.aload_n 0, 1) := by decide +kernel
theorem dX7_read_110 : decode cX7_read 110 = .ok (.iconst 0, 1) := by decide +kernel
theorem dX7_read_111 : decode cX7_read 111 = .ok (.putfield 145, 3) := by decide +kernel
theorem dX7_read_114 : decode cX7_read 114 = .ok (.aload_n 0, 1) := by decide +kernel
theorem dX7_read_115 : decode cX7_read 115 = .ok (.invokevirtual 171, 3) := by decide +kernel
theorem dX7_read_118 : decode cX7_read 118 = .ok (.ifCond .ne 11, 3) := by decide +kernel
theorem dX7_read_121 : decode cX7_read 121 = .ok (.bipush (-100), 2) := by decide +kernel
theorem dX7_read_123 : decode cX7_read 123 = .ok (.aload_n 0, 1) := by decide +kernel
theorem dX7_read_124 : decode cX7_read 124 = .ok (.getfield 168, 3) := by decide +kernel
theorem dX7_read_127 : decode cX7_read 127 = .ok (.isub, 1) := by decide +kernel
theorem dX7_read_128 : decode cX7_read 128 = .ok (.ireturn, 1) := by decide +kernel
theorem dX7_read_129 : decode cX7_read 129 = .ok (.iconst 0, 1) := by decide +kernel
theorem dX7_read_130 : decode cX7_read 130 = .ok (.istore 4, 2) := by decide +kernel
theorem dX7_read_132 : decode cX7_read 132 = .ok (.iload 4, 2) := by decide +kernel
theorem dX7_read_134 : decode cX7_read 134 = .ok (.bipush 17, 2) := by decide +kernel
theorem dX7_read_136 : decode cX7_read 136 = .ok (.if_icmp .ge 30, 3) := by decide +kernel
theorem dX7_read_139 : decode cX7_read 139 = .ok (.aload_n 0, 1) := by decide +kernel
theorem dX7_read_140 : decode cX7_read 140 = .ok (.getfield 31, 3) := by decide +kernel
theorem dX7_read_143 : decode cX7_read 143 = .ok (.bipush 17, 2) := by decide +kernel
theorem dX7_read_145 : decode cX7_read 145 = .ok (.iload_n 1, 1) := by decide +kernel
theorem dX7_read_146 : decode cX7_read 146 = .ok (.imul, 1) := by decide +kernel
theorem dX7_read_147 : decode cX7_read 147 = .ok (.iload 4, 2) := by decide +kernel
theorem dX7_read_149 : decode cX7_read 149 = .ok (.iadd, 1) := by decide +kernel
theorem dX7_read_150 : decode cX7_read 150 = .ok (.aload_n 0, 1) := by decide +kernel
theorem dX7_read_151 : decode cX7_read 151 = .ok (.getfield 31, 3) := by decide +kernel
theorem dX7_read_154 : decode cX7_read 154 = .ok (.iload_n 2, 1) := by decide +kernel
theorem dX7_read_155 : decode cX7_read 155 = .ok (.iload 4, 2) := by decide +kernel
theorem dX7_read_157 : decode cX7_read 157 = .ok (.iadd, 1) := by decide +kernel
theorem dX7_read_158 : decode cX7_read 158 = .ok (.iaload, 1) := by decide +kernel
theorem dX7_read_159 : decode cX7_read 159 = .ok (.iastore, 1) := by decide +kernel
theorem dX7_read_160 : decode cX7_read 160 = .ok (.iinc 4 1, 3) := by decide +kernel
theorem dX7_read_163 : decode cX7_read 163 = .ok (.goto (-31), 3) := by decide +kernel
theorem dX7_read_166 : decode cX7_read 166 = .ok (.iload_n 3, 1) := by decide +kernel
theorem dX7_read_167 : decode cX7_read 167 = .ok (.ireturn, 1) := by decide +kernel
set_option maxRecDepth 20000 in
theorem ggX7_lease_X7_in : GoodIn wsX7_lease wsX7_in := goodIn_r _ [5] (by decide +kernel) (by decide +kernel)
set_option maxRecDepth 20000 in
theorem gX7_lease_X7_in : GoodIn wsX7_lease (va_wsS RX7 64 yX7_in wsX7_in) := goodIn_app (goodIn_of _ (by decide +kernel)) ggX7_lease_X7_in
theorem dX7_lease_0 : decode cX7_lease 0 = .ok (.iload_n 1, 1) := by decide +kernel
theorem dX7_lease_1 : decode cX7_lease 1 = .ok (.iconst 0, 1) := by decide +kernel
theorem dX7_lease_2 : decode cX7_lease 2 = .ok (.iconst 2, 1) := by decide +kernel
theorem dX7_lease_3 : decode cX7_lease 3 = .ok (.invokestatic 64, 3) := by decide +kernel
theorem dX7_lease_6 : decode cX7_lease 6 = .ok (.ifCond .eq 34, 3) := by decide +kernel
theorem dX7_lease_9 : decode cX7_lease 9 = .ok (.iload_n 2, 1) := by decide +kernel
theorem dX7_lease_10 : decode cX7_lease 10 = .ok (.iconst 0, 1) := by decide +kernel
theorem dX7_lease_11 : decode cX7_lease 11 = .ok (.iconst 3, 1) := by decide +kernel
theorem dX7_lease_12 : decode cX7_lease 12 = .ok (.invokestatic 64, 3) := by decide +kernel
theorem dX7_lease_15 : decode cX7_lease 15 = .ok (.ifCond .ne 27, 3) := by decide +kernel
theorem dX7_lease_18 : decode cX7_lease 18 = .ok (.iload_n 2, 1) := by decide +kernel
theorem dX7_lease_19 : decode cX7_lease 19 = .ok (.bipush 10, 2) := by decide +kernel
theorem dX7_lease_21 : decode cX7_lease 21 = .ok (.bipush 15, 2) := by decide +kernel
theorem dX7_lease_23 : decode cX7_lease 23 = .ok (.invokestatic 64, 3) := by decide +kernel
theorem dX7_lease_26 : decode cX7_lease 26 = .ok (.ifCond .ne 16, 3) := by decide +kernel
theorem dX7_lease_29 : decode cX7_lease 29 = .ok (.iload_n 2, 1) := by decide +kernel
theorem dX7_lease_30 : decode cX7_lease 30 = .ok (.bipush 20, 2) := by decide +kernel
theorem dX7_lease_32 : decode cX7_lease 32 = .ok (.bipush 25, 2) := by decide +kernel
theorem dX7_lease_34 : decode cX7_lease 34 = .ok (.invokestatic 64, 3) := by decide +kernel
theorem dX7_lease_37 : decode cX7_lease 37 = .ok (.ifCond .ne 5, 3) := by decide +kernel
theorem dX7_lease_40 : decode cX7_lease 40 = .ok (.iconst (-1), 1) := by decide +kernel
theorem dX7_lease_41 : decode cX7_lease 41 = .ok (.ireturn, 1) := by decide +kernel
theorem dX7_lease_42 : decode cX7_lease 42 = .ok (.aload_n 0, 1) := by decide +kernel
theorem dX7_lease_43 : decode cX7_lease 43 = .ok (.getfield 31, 3) := by decide +kernel
theorem dX7_lease_46 : decode cX7_lease 46 = .ok (.bipush 17, 2) := by decide +kernel
theorem dX7_lease_48 : decode cX7_lease 48 = .ok (.iload_n 1, 1) := by decide +kernel
theorem dX7_lease_49 : decode cX7_lease 49 = .ok (.imul, 1) := by decide +kernel
theorem dX7_lease_50 : decode cX7_lease 50 = .ok (.bipush 16, 2) := by decide +kernel
theorem dX7_lease_52 : decode cX7_lease 52 = .ok (.iadd, 1) := by decide +kernel
theorem dX7_lease_53 : decode cX7_lease 53 = .ok (.iaload, 1) := by decide +kernel
theorem dX7_lease_54 : decode cX7_lease 54 = .ok (.ifCond .ne 6, 3) := by decide +kernel
theorem dX7_lease_57 : decode cX7_lease 57 = .ok (.bipush (-3), 2) := by decide +kernel
theorem dX7_lease_59 : decode cX7_lease 59 = .ok (.ireturn, 1) := by decide +kernel
theorem dX7_lease_60 : decode cX7_lease 60 = .ok (.aload_n 0, 1) := by decide +kernel
theorem dX7_lease_61 : decode cX7_lease 61 = .ok (.getfield 31, 3) := by decide +kernel
theorem dX7_lease_64 : decode cX7_lease 64 = .ok (.bipush 17, 2) := by decide +kernel
theorem dX7_lease_66 : decode cX7_lease 66 = .ok (.iload_n 1, 1) := by decide +kernel
theorem dX7_lease_67 : decode cX7_lease 67 = .ok (.imul, 1) := by decide +kernel
theorem dX7_lease_68 : decode cX7_lease 68 = .ok (.iload_n 2, 1) := by decide +kernel
theorem dX7_lease_69 : decode cX7_lease 69 = .ok (.bipush 10, 2) := by decide +kernel
theorem dX7_lease_71 : decode cX7_lease 71 = .ok (.if_icmp .ge 7, 3) := by decide +kernel
theorem dX7_lease_74 : decode cX7_lease 74 = .ok (.iload_n 2, 1) := by decide +kernel
theorem dX7_lease_75 : decode cX7_lease 75 = .ok (.goto 20, 3) := by decide +kernel
theorem dX7_lease_78 : decode cX7_lease 78 = .ok (.iload_n 2, 1) := by decide +kernel
theorem dX7_lease_79 : decode cX7_lease 79 = .ok (.bipush 20, 2) := by decide +kernel
theorem dX7_lease_81 : decode cX7_lease 81 = .ok (.if_icmp .ge 10, 3) := by decide +kernel
theorem dX7_lease_84 : decode cX7_lease 84 = .ok (.iload_n 2, 1) := by decide +kernel
theorem dX7_lease_85 : decode cX7_lease 85 = .ok (.bipush 6, 2) := by decide +kernel
theorem dX7_lease_87 : decode cX7_lease 87 = .ok (.isub, 1) := by decide +kernel
theorem dX7_lease_88 : decode cX7_lease 88 = .ok (.goto 7, 3) := by decide +kernel
theorem dX7_lease_91 : decode cX7_lease 91 = .ok (.iload_n 2, 1) := by decide +kernel
theorem dX7_lease_92 : decode cX7_lease 92 = .ok (.bipush 10, 2) := by decide +kernel
theorem dX7_lease_94 : decode cX7_lease 94 = .ok (.isub, 1) := by decide +kernel
theorem dX7_lease_95 : decode cX7_lease 95 = .ok (.iadd, 1) := by decide +kernel
theorem dX7_lease_96 : decode cX7_lease 96 = .ok (.iaload, 1) := by decide +kernel
theorem dX7_lease_97 : decode cX7_lease 97 = .ok (.ireturn, 1) := by decide +kernel
set_option maxRecDepth 20000 in
theorem ggX7_daysCost_X7_get : GoodIn wsX7_daysCost wsX7_get := goodIn_r _ [7, 8, 9, 10, 11, 12, 13, 14, 15, 16, 17, 18, 19, 20, 21, 22, 23, 24, 25, 26, 27, 28, 29, 30, 31, 32, 33, 34, 35, 36] (by decide +kernel) (by decide +kernel)
set_option maxRecDepth 20000 in
theorem gX7_daysCost_X7_get : GoodIn wsX7_daysCost (wsV RX7 68 RX7 yX7_get wsX7_get) := goodIn_app (goodIn_of _ (by decide +kernel)) ggX7_daysCost_X7_get
theorem dX7_daysCost_0 : decode cX7_daysCost 0 = .ok (.bipush 17, 2) := by decide +kernel
theorem dX7_daysCost_2 : decode cX7_daysCost 2 = .ok (.aload_n 0, 1) := by decide +kernel
theorem dX7_daysCost_3 : decode cX7_daysCost 3 = .ok (.iload_n 1, 1) := by decide +kernel
theorem dX7_daysCost_4 : decode cX7_daysCost 4 = .ok (.iconst 3, 1) := by decide +kernel
theorem dX7_daysCost_5 : decode cX7_daysCost 5 = .ok (.invokevirtual 68, 3) := by decide +kernel
theorem dX7_daysCost_8 : decode cX7_daysCost 8 = .ok (.imul, 1) := by decide +kernel
theorem dX7_daysCost_9 : decode cX7_daysCost 9 = .ok (.istore_n 2, 1) := by decide +kernel
theorem dX7_daysCost_10 : decode cX7_daysCost 10 = .ok (.aload_n 0, 1) := by decide +kernel
theorem dX7_daysCost_11 : decode cX7_daysCost 11 = .ok (.getfield 7, 3) := by decide +kernel
theorem dX7_daysCost_14 : decode cX7_daysCost 14 = .ok (.iconst 0, 1) := by decide +kernel
theorem dX7_daysCost_15 : decode cX7_daysCost 15 = .ok (.iaload, 1) := by decide +kernel
theorem dX7_daysCost_16 : decode cX7_daysCost 16 = .ok (.aload_n 0, 1) := by decide +kernel
theorem dX7_daysCost_17 : decode cX7_daysCost 17 = .ok (.iload_n 1, 1) := by decide +kernel
theorem dX7_daysCost_18 : decode cX7_daysCost 18 = .ok (.iconst 4, 1) := by decide +kernel
theorem dX7_daysCost_19 : decode cX7_daysCost 19 = .ok (.invokevirtual 68, 3) := by decide +kernel
theorem dX7_daysCost_22 : decode cX7_daysCost 22 = .ok (.isub, 1) := by decide +kernel
theorem dX7_daysCost_23 : decode cX7_daysCost 23 = .ok (.iconst 1, 1) := by decide +kernel
theorem dX7_daysCost_24 : decode cX7_daysCost 24 = .ok (.iadd, 1) := by decide +kernel
theorem dX7_daysCost_25 : decode cX7_daysCost 25 = .ok (.aload_n 0, 1) := by decide +kernel
theorem dX7_daysCost_26 : decode cX7_daysCost 26 = .ok (.getfield 31, 3) := by decide +kernel
theorem dX7_daysCost_29 : decode cX7_daysCost 29 = .ok (.iload_n 2, 1) := by decide +kernel
theorem dX7_daysCost_30 : decode cX7_daysCost 30 = .ok (.iaload, 1) := by decide +kernel
theorem dX7_daysCost_31 : decode cX7_daysCost 31 = .ok (.isub, 1) := by decide +kernel
theorem dX7_daysCost_32 : decode cX7_daysCost 32 = .ok (.istore_n 3, 1) := by decide +kernel
theorem dX7_daysCost_33 : decode cX7_daysCost 33 = .ok (.iload_n 3, 1) := by decide +kernel
theorem dX7_daysCost_34 : decode cX7_daysCost 34 = .ok (.ifCond .le 16, 3) := by decide +kernel
theorem dX7_daysCost_37 : decode cX7_daysCost 37 = .ok (.iload_n 3, 1) := by decide +kernel
theorem dX7_daysCost_38 : decode cX7_daysCost 38 = .ok (.aload_n 0, 1) := by decide +kernel
theorem dX7_daysCost_39 : decode cX7_daysCost 39 = .ok (.getfield 31, 3) := by decide +kernel
theorem dX7_daysCost_42 : decode cX7_daysCost 42 = .ok (.iload_n 2, 1) := by decide +kernel
theorem dX7_daysCost_43 : decode cX7_daysCost 43 = .ok (.iconst 1, 1) := by decide +kernel
theorem dX7_daysCost_44 : decode cX7_daysCost 44 = .ok (.iadd, 1) := by decide +kernel
theorem dX7_daysCost_45 : decode cX7_daysCost 45 = .ok (.iaload, 1) := by decide +kernel
theorem dX7_daysCost_46 : decode cX7_daysCost 46 = .ok (.imul, 1) := by decide +kernel
theorem dX7_daysCost_47 : decode cX7_daysCost 47 = .ok (.goto 4, 3) := by decide +kernel
theorem dX7_daysCost_50 : decode cX7_daysCost 50 = .ok (.iconst 0, 1) := by decide +kernel
theorem dX7_daysCost_51 : decode cX7_daysCost 51 = .ok (.ireturn, 1) := by decide +kernel
theorem dX7_ends_0 : decode cX7_ends 0 = .ok (.aload_n 0, 1) := by decide +kernel
theorem dX7_ends_1 : decode cX7_ends 1 = .ok (.getfield 13, 3) := by decide +kernel
theorem dX7_ends_4 : decode cX7_ends 4 = .ok (.bipush 9, 2) := by decide +kernel
theorem dX7_ends_6 : decode cX7_ends 6 = .ok (.iload_n 1, 1) := by decide +kernel
theorem dX7_ends_7 : decode cX7_ends 7 = .ok (.imul, 1) := by decide +kernel
theorem dX7_ends_8 : decode cX7_ends 8 = .ok (.iconst 5, 1) := by decide +kernel
theorem dX7_ends_9 : decode cX7_ends 9 = .ok (.iadd, 1) := by decide +kernel
theorem dX7_ends_10 : decode cX7_ends 10 = .ok (.iload_n 2, 1) := by decide +kernel
theorem dX7_ends_11 : decode cX7_ends 11 = .ok (.iastore, 1) := by decide +kernel
theorem dX7_ends_12 : decode cX7_ends 12 = .ok (.aload_n 0, 1) := by decide +kernel
theorem dX7_ends_13 : decode cX7_ends 13 = .ok (.getfield 13, 3) := by decide +kernel
theorem dX7_ends_16 : decode cX7_ends 16 = .ok (.bipush 9, 2) := by decide +kernel
theorem dX7_ends_18 : decode cX7_ends 18 = .ok (.iload_n 1, 1) := by decide +kernel
theorem dX7_ends_19 : decode cX7_ends 19 = .ok (.imul, 1) := by decide +kernel
theorem dX7_ends_20 : decode cX7_ends 20 = .ok (.bipush 6, 2) := by decide +kernel
theorem dX7_ends_22 : decode cX7_ends 22 = .ok (.iadd, 1) := by decide +kernel
theorem dX7_ends_23 : decode cX7_ends 23 = .ok (.iload_n 3, 1) := by decide +kernel
theorem dX7_ends_24 : decode cX7_ends 24 = .ok (.iastore, 1) := by decide +kernel
theorem dX7_ends_25 : decode cX7_ends 25 = .ok (.iload_n 3, 1) := by decide +kernel
theorem dX7_ends_26 : decode cX7_ends 26 = .ok (.ireturn, 1) := by decide +kernel
set_option maxRecDepth 20000 in
theorem ggX7_giveBack_X7_isBox : GoodIn wsX7_giveBack wsX7_isBox := goodIn_r _ [8, 1, 9, 10, 7, 11, 36, 37, 38, 39, 40, 41, 42, 43, 44, 45, 46, 47, 48, 49, 50, 51, 52, 53, 54, 55, 56, 57, 58, 59, 60, 61, 62, 63] (by decide +kernel) (by decide +kernel)
set_option maxRecDepth 20000 in
theorem gX7_giveBack_X7_isBox : GoodIn wsX7_giveBack (wsV RX7 84 RX7 yX7_isBox wsX7_isBox) := goodIn_app (goodIn_of _ (by decide +kernel)) ggX7_giveBack_X7_isBox
set_option maxRecDepth 20000 in
theorem ggX7_giveBack_X7_in : GoodIn wsX7_giveBack wsX7_in := goodIn_r _ [11] (by decide +kernel) (by decide +kernel)
set_option maxRecDepth 20000 in
theorem gX7_giveBack_X7_in : GoodIn wsX7_giveBack (va_wsS RX7 64 yX7_in wsX7_in) := goodIn_app (goodIn_of _ (by decide +kernel)) ggX7_giveBack_X7_in
set_option maxRecDepth 20000 in
theorem ggX7_giveBack_X7_whereIs : GoodIn wsX7_giveBack wsX7_whereIs := goodIn_r _ [15, 16, 17, 18, 19, 7, 20, 1, 36, 37, 38, 39, 40, 41, 42, 43, 44, 45, 46, 47, 48, 49, 50, 51, 52, 53, 54, 55, 56, 57, 58, 59, 60, 61, 62, 63] (by decide +kernel) (by decide +kernel)
set_option maxRecDepth 20000 in
theorem gX7_giveBack_X7_whereIs : GoodIn wsX7_giveBack (wsV RX7 100 RX7 yX7_whereIs wsX7_whereIs) := goodIn_app (goodIn_of _ (by decide +kernel)) ggX7_giveBack_X7_whereIs
set_option maxRecDepth 20000 in
theorem ggX7_giveBack_X7_get : GoodIn wsX7_giveBack wsX7_get := goodIn_r _ [24, 3, 36, 37, 38, 39, 40, 41, 42, 43, 44, 45, 46, 47, 48, 49, 50, 51, 52, 53, 54, 55, 56, 57, 58, 59, 60, 61, 62, 63] (by decide +kernel) (by decide +kernel)
set_option maxRecDepth 20000 in
theorem gX7_giveBack_X7_get : GoodIn wsX7_giveBack (wsV RX7 68 RX7 yX7_get wsX7_get) := goodIn_app (goodIn_of _ (by decide +kernel)) ggX7_giveBack_X7_get
set_option maxRecDepth 20000 in
theorem ggX7_giveBack_X7_isPlace : GoodIn wsX7_giveBack wsX7_isPlace := goodIn_r _ [27, 9, 10, 7, 11] (by decide +kernel) (by decide +kernel)
set_option maxRecDepth 20000 in
theorem gX7_giveBack_X7_isPlace : GoodIn wsX7_giveBack (va_wsS RX7 90 yX7_isPlace wsX7_isPlace) := goodIn_app (goodIn_of _ (by decide +kernel)) ggX7_giveBack_X7_isPlace
set_option maxRecDepth 20000 in
theorem ggX7_giveBack_X7_daysCost : GoodIn wsX7_giveBack wsX7_daysCost := goodIn_r _ [31, 1, 2, 21, 22, 23, 7, 24, 3, 36, 37, 38, 39, 40, 41, 42, 43, 44, 45, 46, 47, 48, 49, 50, 51, 52, 53, 54, 55, 56, 57, 58, 59, 60, 61, 62, 63] (by decide +kernel) (by decide +kernel)
set_option maxRecDepth 20000 in
theorem gX7_giveBack_X7_daysCost : GoodIn wsX7_giveBack (wsV RX7 193 RX7 yX7_daysCost wsX7_daysCost) := goodIn_app (goodIn_of _ (by decide +kernel)) ggX7_giveBack_X7_daysCost
set_option maxRecDepth 20000 in
theorem ggX7_giveBack_X7_ends : GoodIn wsX7_giveBack wsX7_ends := goodIn_r _ [35, 3, 36, 37, 38, 39, 40, 41, 42, 43, 44, 45, 46, 47, 48, 49, 50, 51, 52, 53, 54, 55, 56, 57, 58, 59, 60, 61, 62, 63] (by decide +kernel) (by decide +kernel)
set_option maxRecDepth 20000 in
theorem gX7_giveBack_X7_ends : GoodIn wsX7_giveBack (wsV RX7 196 RX7 yX7_ends wsX7_ends) := goodIn_app (goodIn_of _ (by decide +kernel)) ggX7_giveBack_X7_ends
theorem dX7_giveBack_0 : decode cX7_giveBack 0 = .ok (.aload_n 0, 1) := by decide +kernel
theorem dX7_giveBack_1 : decode cX7_giveBack 1 = .ok (.iload_n 1, 1) := by decide +kernel
theorem dX7_giveBack_2 : decode cX7_giveBack 2 = .ok (.invokevirtual 84, 3) := by decide +kernel
theorem dX7_giveBack_5 : decode cX7_giveBack 5 = .ok (.ifCond .eq 13, 3) := by decide +kernel
theorem dX7_giveBack_8 : decode cX7_giveBack 8 = .ok (.iload_n 2, 1) := by decide +kernel
theorem dX7_giveBack_9 : decode cX7_giveBack 9 = .ok (.iconst 0, 1) := by decide +kernel
theorem dX7_giveBack_10 : decode cX7_giveBack 10 = .ok (.bipush 9, 2) := by decide +kernel
theorem dX7_giveBack_12 : decode cX7_giveBack 12 = .ok (.invokestatic 64, 3) := by decide +kernel
theorem dX7_giveBack_15 : decode cX7_giveBack 15 = .ok (.ifCond .ne 5, 3) := by decide +kernel
theorem dX7_giveBack_18 : decode cX7_giveBack 18 = .ok (.iconst (-1), 1) := by decide +kernel
theorem dX7_giveBack_19 : decode cX7_giveBack 19 = .ok (.ireturn, 1) := by decide +kernel
theorem dX7_giveBack_20 : decode cX7_giveBack 20 = .ok (.aload_n 0, 1) := by decide +kernel
theorem dX7_giveBack_21 : decode cX7_giveBack 21 = .ok (.getfield 7, 3) := by decide +kernel
theorem dX7_giveBack_24 : decode cX7_giveBack 24 = .ok (.iconst 0, 1) := by decide +kernel
theorem dX7_giveBack_25 : decode cX7_giveBack 25 = .ok (.iaload, 1) := by decide +kernel
theorem dX7_giveBack_26 : decode cX7_giveBack 26 = .ok (.istore_n 3, 1) := by decide +kernel
theorem dX7_giveBack_27 : decode cX7_giveBack 27 = .ok (.aload_n 0, 1) := by decide +kernel
theorem dX7_giveBack_28 : decode cX7_giveBack 28 = .ok (.iload_n 1, 1) := by decide +kernel
theorem dX7_giveBack_29 : decode cX7_giveBack 29 = .ok (.iload_n 3, 1) := by decide +kernel
theorem dX7_giveBack_30 : decode cX7_giveBack 30 = .ok (.iload_n 3, 1) := by decide +kernel
theorem dX7_giveBack_31 : decode cX7_giveBack 31 = .ok (.invokevirtual 100, 3) := by decide +kernel
theorem dX7_giveBack_34 : decode cX7_giveBack 34 = .ok (.istore 4, 2) := by decide +kernel
theorem dX7_giveBack_36 : decode cX7_giveBack 36 = .ok (.aload_n 0, 1) := by decide +kernel
theorem dX7_giveBack_37 : decode cX7_giveBack 37 = .ok (.iload_n 1, 1) := by decide +kernel
theorem dX7_giveBack_38 : decode cX7_giveBack 38 = .ok (.iconst 3, 1) := by decide +kernel
theorem dX7_giveBack_39 : decode cX7_giveBack 39 = .ok (.invokevirtual 68, 3) := by decide +kernel
theorem dX7_giveBack_42 : decode cX7_giveBack 42 = .ok (.istore 5, 2) := by decide +kernel
theorem dX7_giveBack_44 : decode cX7_giveBack 44 = .ok (.iload 5, 2) := by decide +kernel
theorem dX7_giveBack_46 : decode cX7_giveBack 46 = .ok (.ifCond .lt 20, 3) := by decide +kernel
theorem dX7_giveBack_49 : decode cX7_giveBack 49 = .ok (.aload_n 0, 1) := by decide +kernel
theorem dX7_giveBack_50 : decode cX7_giveBack 50 = .ok (.iload_n 1, 1) := by decide +kernel
theorem dX7_giveBack_51 : decode cX7_giveBack 51 = .ok (.iconst 5, 1) := by decide +kernel
theorem dX7_giveBack_52 : decode cX7_giveBack 52 = .ok (.invokevirtual 68, 3) := by decide +kernel
theorem dX7_giveBack_55 : decode cX7_giveBack 55 = .ok (.ifCond .ne 11, 3) := by decide +kernel
theorem dX7_giveBack_58 : decode cX7_giveBack 58 = .ok (.iload 4, 2) := by decide +kernel
theorem dX7_giveBack_60 : decode cX7_giveBack 60 = .ok (.invokestatic 90, 3) := by decide +kernel
theorem dX7_giveBack_63 : decode cX7_giveBack 63 = .ok (.ifCond .ne 6, 3) := by decide +kernel
theorem dX7_giveBack_66 : decode cX7_giveBack 66 = .ok (.bipush (-4), 2) := by decide +kernel
theorem dX7_giveBack_68 : decode cX7_giveBack 68 = .ok (.ireturn, 1) := by decide +kernel
theorem dX7_giveBack_69 : decode cX7_giveBack 69 = .ok (.iconst 0, 1) := by decide +kernel
theorem dX7_giveBack_70 : decode cX7_giveBack 70 = .ok (.istore 6, 2) := by decide +kernel
theorem dX7_giveBack_72 : decode cX7_giveBack 72 = .ok (.iconst 0, 1) := by decide +kernel
theorem dX7_giveBack_73 : decode cX7_giveBack 73 = .ok (.istore 7, 2) := by decide +kernel
theorem dX7_giveBack_75 : decode cX7_giveBack 75 = .ok (.iload 7, 2) := by decide +kernel
theorem dX7_giveBack_77 : decode cX7_giveBack 77 = .ok (.aload_n 0, 1) := by decide +kernel
theorem dX7_giveBack_78 : decode cX7_giveBack 78 = .ok (.getfield 7, 3) := by decide +kernel
theorem dX7_giveBack_81 : decode cX7_giveBack 81 = .ok (.iconst 1, 1) := by decide +kernel
theorem dX7_giveBack_82 : decode cX7_giveBack 82 = .ok (.iaload, 1) := by decide +kernel
theorem dX7_giveBack_83 : decode cX7_giveBack 83 = .ok (.if_icmp .ge 85, 3) := by decide +kernel
theorem dX7_giveBack_86 : decode cX7_giveBack 86 = .ok (.aload_n 0, 1) := by decide +kernel
theorem dX7_giveBack_87 : decode cX7_giveBack 87 = .ok (.iload 7, 2) := by decide +kernel
theorem dX7_giveBack_89 : decode cX7_giveBack 89 = .ok (.iconst 5, 1) := by decide +kernel
theorem dX7_giveBack_90 : decode cX7_giveBack 90 = .ok (.invokevirtual 68, 3) := by decide +kernel
theorem dX7_giveBack_93 : decode cX7_giveBack 93 = .ok (.iconst 1, 1) := by decide +kernel
theorem dX7_giveBack_94 : decode cX7_giveBack 94 = .ok (.if_icmp .ne 50, 3) := by decide +kernel
theorem dX7_giveBack_97 : decode cX7_giveBack 97 = .ok (.aload_n 0, 1) := by decide +kernel
theorem dX7_giveBack_98 : decode cX7_giveBack 98 = .ok (.iload 7, 2) := by decide +kernel
theorem dX7_giveBack_100 : decode cX7_giveBack 100 = .ok (.iconst 3, 1) := by decide +kernel
theorem dX7_giveBack_101 : decode cX7_giveBack 101 = .ok (.invokevirtual 68, 3) := by decide +kernel
theorem dX7_giveBack_104 : decode cX7_giveBack 104 = .ok (.iload 5, 2) := by decide +kernel
theorem dX7_giveBack_106 : decode cX7_giveBack 106 = .ok (.if_icmp .ne 38, 3) := by decide +kernel
theorem dX7_giveBack_109 : decode cX7_giveBack 109 = .ok (.aload_n 0, 1) := by decide +kernel
theorem dX7_giveBack_110 : decode cX7_giveBack 110 = .ok (.iload 7, 2) := by decide +kernel
theorem dX7_giveBack_112 : decode cX7_giveBack 112 = .ok (.bipush 8, 2) := by decide +kernel
theorem dX7_giveBack_114 : decode cX7_giveBack 114 = .ok (.invokevirtual 68, 3) := by decide +kernel
theorem dX7_giveBack_117 : decode cX7_giveBack 117 = .ok (.iload 4, 2) := by decide +kernel
theorem dX7_giveBack_119 : decode cX7_giveBack 119 = .ok (.if_icmp .ne 25, 3) := by decide +kernel
theorem dX7_giveBack_122 : decode cX7_giveBack 122 = .ok (.aload_n 0, 1) := by decide +kernel
theorem dX7_giveBack_123 : decode cX7_giveBack 123 = .ok (.iload 7, 2) := by decide +kernel
theorem dX7_giveBack_125 : decode cX7_giveBack 125 = .ok (.bipush 7, 2) := by decide +kernel
theorem dX7_giveBack_127 : decode cX7_giveBack 127 = .ok (.invokevirtual 68, 3) := by decide +kernel
theorem dX7_giveBack_130 : decode cX7_giveBack 130 = .ok (.bipush 7, 2) := by decide +kernel
theorem dX7_giveBack_132 : decode cX7_giveBack 132 = .ok (.idiv, 1) := by decide +kernel
theorem dX7_giveBack_133 : decode cX7_giveBack 133 = .ok (.iload_n 3, 1) := by decide +kernel
theorem dX7_giveBack_134 : decode cX7_giveBack 134 = .ok (.bipush 7, 2) := by decide +kernel
theorem dX7_giveBack_136 : decode cX7_giveBack 136 = .ok (.idiv, 1) := by decide +kernel
theorem dX7_giveBack_137 : decode cX7_giveBack 137 = .ok (.if_icmp .ne 7, 3) := by decide +kernel
theorem dX7_giveBack_140 : decode cX7_giveBack 140 = .ok (.iconst 1, 1) := by decide +kernel
theorem dX7_giveBack_141 : decode cX7_giveBack 141 = .ok (.goto 4, 3) := by decide +kernel
theorem dX7_giveBack_144 : decode cX7_giveBack 144 = .ok (.iconst 0, 1) := by decide +kernel
theorem dX7_giveBack_145 : decode cX7_giveBack 145 = .ok (.istore 8, 2) := by decide +kernel
theorem dX7_giveBack_147 : decode cX7_giveBack 147 = .ok (.iload 6, 2) := by decide +kernel
theorem dX7_giveBack_149 : decode cX7_giveBack 149 = .ok (.iload 8, 2) := by decide +kernel
theorem dX7_giveBack_151 : decode cX7_giveBack 151 = .ok (.ifCond .eq 7, 3) := by decide +kernel
theorem dX7_giveBack_154 : decode cX7_giveBack 154 = .ok (.iconst 1, 1) := by decide +kernel
theorem dX7_giveBack_155 : decode cX7_giveBack 155 = .ok (.goto 4, 3) := by decide +kernel
theorem dX7_giveBack_158 : decode cX7_giveBack 158 = .ok (.iconst 0, 1) := by decide +kernel
theorem dX7_giveBack_159 : decode cX7_giveBack 159 = .ok (.iadd, 1) := by decide +kernel
theorem dX7_giveBack_160 : decode cX7_giveBack 160 = .ok (.istore 6, 2) := by decide +kernel
theorem dX7_giveBack_162 : decode cX7_giveBack 162 = .ok (.iinc 7 1, 3) := by decide +kernel
theorem dX7_giveBack_165 : decode cX7_giveBack 165 = .ok (.goto (-90), 3) := by decide +kernel
theorem dX7_giveBack_168 : decode cX7_giveBack 168 = .ok (.bipush 17, 2) := by decide +kernel
theorem dX7_giveBack_170 : decode cX7_giveBack 170 = .ok (.iload 5, 2) := by decide +kernel
theorem dX7_giveBack_172 : decode cX7_giveBack 172 = .ok (.imul, 1) := by decide +kernel
theorem dX7_giveBack_173 : decode cX7_giveBack 173 = .ok (.istore 7, 2) := by decide +kernel
theorem dX7_giveBack_175 : decode cX7_giveBack 175 = .ok (.iload 6, 2) := by decide +kernel
theorem dX7_giveBack_177 : decode cX7_giveBack 177 = .ok (.aload_n 0, 1) := by decide +kernel
theorem dX7_giveBack_178 : decode cX7_giveBack 178 = .ok (.getfield 31, 3) := by decide +kernel
theorem dX7_giveBack_181 : decode cX7_giveBack 181 = .ok (.iload 7, 2) := by decide +kernel
theorem dX7_giveBack_183 : decode cX7_giveBack 183 = .ok (.bipush 10, 2) := by decide +kernel
theorem dX7_giveBack_185 : decode cX7_giveBack 185 = .ok (.iadd, 1) := by decide +kernel
theorem dX7_giveBack_186 : decode cX7_giveBack 186 = .ok (.iload 4, 2) := by decide +kernel
theorem dX7_giveBack_188 : decode cX7_giveBack 188 = .ok (.iadd, 1) := by decide +kernel
theorem dX7_giveBack_189 : decode cX7_giveBack 189 = .ok (.iaload, 1) := by decide +kernel
theorem dX7_giveBack_190 : decode cX7_giveBack 190 = .ok (.if_icmp .lt 6, 3) := by decide +kernel
theorem dX7_giveBack_193 : decode cX7_giveBack 193 = .ok (.bipush (-2), 2) := by decide +kernel
theorem dX7_giveBack_195 : decode cX7_giveBack 195 = .ok (.ireturn, 1) := by decide +kernel
theorem dX7_giveBack_196 : decode cX7_giveBack 196 = .ok (.aload_n 0, 1) := by decide +kernel
theorem dX7_giveBack_197 : decode cX7_giveBack 197 = .ok (.getfield 13, 3) := by decide +kernel
theorem dX7_giveBack_200 : decode cX7_giveBack 200 = .ok (.bipush 9, 2) := by decide +kernel
theorem dX7_giveBack_202 : decode cX7_giveBack 202 = .ok (.iload_n 1, 1) := by decide +kernel
theorem dX7_giveBack_203 : decode cX7_giveBack 203 = .ok (.imul, 1) := by decide +kernel
theorem dX7_giveBack_204 : decode cX7_giveBack 204 = .ok (.bipush 7, 2) := by decide +kernel
theorem dX7_giveBack_206 : decode cX7_giveBack 206 = .ok (.iadd, 1) := by decide +kernel
theorem dX7_giveBack_207 : decode cX7_giveBack 207 = .ok (.iload_n 3, 1) := by decide +kernel
theorem dX7_giveBack_208 : decode cX7_giveBack 208 = .ok (.iastore, 1) := by decide +kernel
theorem dX7_giveBack_209 : decode cX7_giveBack 209 = .ok (.aload_n 0, 1) := by decide +kernel
theorem dX7_giveBack_210 : decode cX7_giveBack 210 = .ok (.getfield 13, 3) := by decide +kernel
theorem dX7_giveBack_213 : decode cX7_giveBack 213 = .ok (.bipush 9, 2) := by decide +kernel
theorem dX7_giveBack_215 : decode cX7_giveBack 215 = .ok (.iload_n 1, 1) := by decide +kernel
theorem dX7_giveBack_216 : decode cX7_giveBack 216 = .ok (.imul, 1) := by decide +kernel
theorem dX7_giveBack_217 : decode cX7_giveBack 217 = .ok (.bipush 8, 2) := by decide +kernel
theorem dX7_giveBack_219 : decode cX7_giveBack 219 = .ok (.iadd, 1) := by decide +kernel
theorem dX7_giveBack_220 : decode cX7_giveBack 220 = .ok (.iload 4, 2) := by decide +kernel
theorem dX7_giveBack_222 : decode cX7_giveBack 222 = .ok (.iastore, 1) := by decide +kernel
theorem dX7_giveBack_223 : decode cX7_giveBack 223 = .ok (.aload_n 0, 1) := by decide +kernel
theorem dX7_giveBack_224 : decode cX7_giveBack 224 = .ok (.iload_n 1, 1) := by decide +kernel
theorem dX7_giveBack_225 : decode cX7_giveBack 225 = .ok (.iconst 1, 1) := by decide +kernel
theorem dX7_giveBack_226 : decode cX7_giveBack 226 = .ok (.aload_n 0, 1) := by decide +kernel
theorem dX7_giveBack_227 : decode cX7_giveBack 227 = .ok (.iload_n 1, 1) := by decide +kernel
theorem dX7_giveBack_228 : decode cX7_giveBack 228 = .ok (.invokevirtual 193, 3) := by decide +kernel
theorem dX7_giveBack_231 : decode cX7_giveBack 231 = .ok (.aload_n 0, 1) := by decide +kernel
theorem dX7_giveBack_232 : decode cX7_giveBack 232 = .ok (.getfield 31, 3) := by decide +kernel
theorem dX7_giveBack_235 : decode cX7_giveBack 235 = .ok (.iload 7, 2) := by decide +kernel
theorem dX7_giveBack_237 : decode cX7_giveBack 237 = .ok (.iconst 4, 1) := by decide +kernel
theorem dX7_giveBack_238 : decode cX7_giveBack 238 = .ok (.iadd, 1) := by decide +kernel
theorem dX7_giveBack_239 : decode cX7_giveBack 239 = .ok (.iload 4, 2) := by decide +kernel
theorem dX7_giveBack_241 : decode cX7_giveBack 241 = .ok (.iadd, 1) := by decide +kernel
theorem dX7_giveBack_242 : decode cX7_giveBack 242 = .ok (.iaload, 1) := by decide +kernel
theorem dX7_giveBack_243 : decode cX7_giveBack 243 = .ok (.iadd, 1) := by decide +kernel
theorem dX7_giveBack_244 : decode cX7_giveBack 244 = .ok (.aload_n 0, 1) := by decide +kernel
theorem dX7_giveBack_245 : decode cX7_giveBack 245 = .ok (.getfield 31, 3) := by decide +kernel
theorem dX7_giveBack_248 : decode cX7_giveBack 248 = .ok (.iload 7, 2) := by decide +kernel
theorem dX7_giveBack_250 : decode cX7_giveBack 250 = .ok (.iconst 2, 1) := by decide +kernel
theorem dX7_giveBack_251 : decode cX7_giveBack 251 = .ok (.iadd, 1) := by decide +kernel
theorem dX7_giveBack_252 : decode cX7_giveBack 252 = .ok (.iaload, 1) := by decide +kernel
theorem dX7_giveBack_253 : decode cX7_giveBack 253 = .ok (.iload_n 2, 1) := by decide +kernel
theorem dX7_giveBack_254 : decode cX7_giveBack 254 = .ok (.imul, 1) := by decide +kernel
theorem dX7_giveBack_255 : decode cX7_giveBack 255 = .ok (.iadd, 1) := by decide +kernel
theorem dX7_giveBack_256 : decode cX7_giveBack 256 = .ok (.invokevirtual 196, 3) := by decide +kernel
theorem dX7_giveBack_259 : decode cX7_giveBack 259 = .ok (.ireturn, 1) := by decide +kernel
set_option maxRecDepth 20000 in
theorem ggX7_writeOff_X7_isBox : GoodIn wsX7_writeOff wsX7_isBox := goodIn_r _ [7, 1, 8, 9, 6, 10, 33, 34, 35, 36, 37, 38, 39, 40, 41, 42, 43, 44, 45, 46, 47, 48, 49, 50, 51, 52, 53, 54, 55, 56, 57, 58, 59, 60] (by decide +kernel) (by decide +kernel)
set_option maxRecDepth 20000 in
theorem gX7_writeOff_X7_isBox : GoodIn wsX7_writeOff (wsV RX7 84 RX7 yX7_isBox wsX7_isBox) := goodIn_app (goodIn_of _ (by decide +kernel)) ggX7_writeOff_X7_isBox
set_option maxRecDepth 20000 in
theorem ggX7_writeOff_X7_isLate : GoodIn wsX7_writeOff wsX7_isLate := goodIn_r _ [14, 1, 15, 16, 17, 18, 6, 19, 33, 34, 35, 36, 37, 38, 39, 40, 41, 42, 43, 44, 45, 46, 47, 48, 49, 50, 51, 52, 53, 54, 55, 56, 57, 58, 59, 60] (by decide +kernel) (by decide +kernel)
set_option maxRecDepth 20000 in
theorem gX7_writeOff_X7_isLate : GoodIn wsX7_writeOff (wsV RX7 106 RX7 yX7_isLate wsX7_isLate) := goodIn_app (goodIn_of _ (by decide +kernel)) ggX7_writeOff_X7_isLate
set_option maxRecDepth 20000 in
theorem ggX7_writeOff_X7_latest : GoodIn wsX7_writeOff wsX7_latest := goodIn_r _ [19, 1, 15, 33, 34, 35, 36, 37, 38, 39, 40, 41, 42, 43, 44, 45, 46, 47, 48, 49, 50, 51, 52, 53, 54, 55, 56, 57, 58, 59, 60] (by decide +kernel) (by decide +kernel)
set_option maxRecDepth 20000 in
theorem gX7_writeOff_X7_latest : GoodIn wsX7_writeOff (wsV RX7 93 RX7 yX7_latest wsX7_latest) := goodIn_app (goodIn_of _ (by decide +kernel)) ggX7_writeOff_X7_latest
set_option maxRecDepth 20000 in
theorem ggX7_writeOff_X7_get : GoodIn wsX7_writeOff wsX7_get := goodIn_r _ [23, 24, 33, 34, 35, 36, 37, 38, 39, 40, 41, 42, 43, 44, 45, 46, 47, 48, 49, 50, 51, 52, 53, 54, 55, 56, 57, 58, 59, 60] (by decide +kernel) (by decide +kernel)
set_option maxRecDepth 20000 in
theorem gX7_writeOff_X7_get : GoodIn wsX7_writeOff (wsV RX7 68 RX7 yX7_get wsX7_get) := goodIn_app (goodIn_of _ (by decide +kernel)) ggX7_writeOff_X7_get
set_option maxRecDepth 20000 in
theorem ggX7_writeOff_X7_daysCost : GoodIn wsX7_writeOff wsX7_daysCost := goodIn_r _ [28, 1, 2, 20, 21, 22, 6, 23, 24, 33, 34, 35, 36, 37, 38, 39, 40, 41, 42, 43, 44, 45, 46, 47, 48, 49, 50, 51, 52, 53, 54, 55, 56, 57, 58, 59, 60] (by decide +kernel) (by decide +kernel)
set_option maxRecDepth 20000 in
theorem gX7_writeOff_X7_daysCost : GoodIn wsX7_writeOff (wsV RX7 193 RX7 yX7_daysCost wsX7_daysCost) := goodIn_app (goodIn_of _ (by decide +kernel)) ggX7_writeOff_X7_daysCost
set_option maxRecDepth 20000 in
theorem ggX7_writeOff_X7_ends : GoodIn wsX7_writeOff wsX7_ends := goodIn_r _ [32, 24, 33, 34, 35, 36, 37, 38, 39, 40, 41, 42, 43, 44, 45, 46, 47, 48, 49, 50, 51, 52, 53, 54, 55, 56, 57, 58, 59, 60] (by decide +kernel) (by decide +kernel)
set_option maxRecDepth 20000 in
theorem gX7_writeOff_X7_ends : GoodIn wsX7_writeOff (wsV RX7 196 RX7 yX7_ends wsX7_ends) := goodIn_app (goodIn_of _ (by decide +kernel)) ggX7_writeOff_X7_ends
theorem dX7_writeOff_0 : decode cX7_writeOff 0 = .ok (.aload_n 0, 1) := by decide +kernel
theorem dX7_writeOff_1 : decode cX7_writeOff 1 = .ok (.iload_n 1, 1) := by decide +kernel
theorem dX7_writeOff_2 : decode cX7_writeOff 2 = .ok (.invokevirtual 84, 3) := by decide +kernel
theorem dX7_writeOff_5 : decode cX7_writeOff 5 = .ok (.ifCond .ne 5, 3) := by decide +kernel
theorem dX7_writeOff_8 : decode cX7_writeOff 8 = .ok (.iconst (-1), 1) := by decide +kernel
theorem dX7_writeOff_9 : decode cX7_writeOff 9 = .ok (.ireturn, 1) := by decide +kernel
theorem dX7_writeOff_10 : decode cX7_writeOff 10 = .ok (.aload_n 0, 1) := by decide +kernel
theorem dX7_writeOff_11 : decode cX7_writeOff 11 = .ok (.getfield 7, 3) := by decide +kernel
theorem dX7_writeOff_14 : decode cX7_writeOff 14 = .ok (.iconst 0, 1) := by decide +kernel
theorem dX7_writeOff_15 : decode cX7_writeOff 15 = .ok (.iaload, 1) := by decide +kernel
theorem dX7_writeOff_16 : decode cX7_writeOff 16 = .ok (.istore_n 2, 1) := by decide +kernel
theorem dX7_writeOff_17 : decode cX7_writeOff 17 = .ok (.aload_n 0, 1) := by decide +kernel
theorem dX7_writeOff_18 : decode cX7_writeOff 18 = .ok (.iload_n 1, 1) := by decide +kernel
theorem dX7_writeOff_19 : decode cX7_writeOff 19 = .ok (.invokevirtual 106, 3) := by decide +kernel
theorem dX7_writeOff_22 : decode cX7_writeOff 22 = .ok (.ifCond .ne 13, 3) := by decide +kernel
theorem dX7_writeOff_25 : decode cX7_writeOff 25 = .ok (.aload_n 0, 1) := by decide +kernel
theorem dX7_writeOff_26 : decode cX7_writeOff 26 = .ok (.iload_n 1, 1) := by decide +kernel
theorem dX7_writeOff_27 : decode cX7_writeOff 27 = .ok (.iload_n 2, 1) := by decide +kernel
theorem dX7_writeOff_28 : decode cX7_writeOff 28 = .ok (.iload_n 2, 1) := by decide +kernel
theorem dX7_writeOff_29 : decode cX7_writeOff 29 = .ok (.invokevirtual 93, 3) := by decide +kernel
theorem dX7_writeOff_32 : decode cX7_writeOff 32 = .ok (.ifCond .ge 7, 3) := by decide +kernel
theorem dX7_writeOff_35 : decode cX7_writeOff 35 = .ok (.iconst 1, 1) := by decide +kernel
theorem dX7_writeOff_36 : decode cX7_writeOff 36 = .ok (.goto 4, 3) := by decide +kernel
theorem dX7_writeOff_39 : decode cX7_writeOff 39 = .ok (.iconst 0, 1) := by decide +kernel
theorem dX7_writeOff_40 : decode cX7_writeOff 40 = .ok (.istore_n 3, 1) := by decide +kernel
theorem dX7_writeOff_41 : decode cX7_writeOff 41 = .ok (.aload_n 0, 1) := by decide +kernel
theorem dX7_writeOff_42 : decode cX7_writeOff 42 = .ok (.iload_n 1, 1) := by decide +kernel
theorem dX7_writeOff_43 : decode cX7_writeOff 43 = .ok (.iconst 3, 1) := by decide +kernel
theorem dX7_writeOff_44 : decode cX7_writeOff 44 = .ok (.invokevirtual 68, 3) := by decide +kernel
theorem dX7_writeOff_47 : decode cX7_writeOff 47 = .ok (.ifCond .lt 16, 3) := by decide +kernel
theorem dX7_writeOff_50 : decode cX7_writeOff 50 = .ok (.aload_n 0, 1) := by decide +kernel
theorem dX7_writeOff_51 : decode cX7_writeOff 51 = .ok (.iload_n 1, 1) := by decide +kernel
theorem dX7_writeOff_52 : decode cX7_writeOff 52 = .ok (.iconst 5, 1) := by decide +kernel
theorem dX7_writeOff_53 : decode cX7_writeOff 53 = .ok (.invokevirtual 68, 3) := by decide +kernel
theorem dX7_writeOff_56 : decode cX7_writeOff 56 = .ok (.ifCond .ne 7, 3) := by decide +kernel
theorem dX7_writeOff_59 : decode cX7_writeOff 59 = .ok (.iload_n 3, 1) := by decide +kernel
theorem dX7_writeOff_60 : decode cX7_writeOff 60 = .ok (.ifCond .ne 6, 3) := by decide +kernel
theorem dX7_writeOff_63 : decode cX7_writeOff 63 = .ok (.bipush (-4), 2) := by decide +kernel
theorem dX7_writeOff_65 : decode cX7_writeOff 65 = .ok (.ireturn, 1) := by decide +kernel
theorem dX7_writeOff_66 : decode cX7_writeOff 66 = .ok (.aload_n 0, 1) := by decide +kernel
theorem dX7_writeOff_67 : decode cX7_writeOff 67 = .ok (.iload_n 1, 1) := by decide +kernel
theorem dX7_writeOff_68 : decode cX7_writeOff 68 = .ok (.iconst 2, 1) := by decide +kernel
theorem dX7_writeOff_69 : decode cX7_writeOff 69 = .ok (.aload_n 0, 1) := by decide +kernel
theorem dX7_writeOff_70 : decode cX7_writeOff 70 = .ok (.iload_n 1, 1) := by decide +kernel
theorem dX7_writeOff_71 : decode cX7_writeOff 71 = .ok (.invokevirtual 193, 3) := by decide +kernel
theorem dX7_writeOff_74 : decode cX7_writeOff 74 = .ok (.aload_n 0, 1) := by decide +kernel
theorem dX7_writeOff_75 : decode cX7_writeOff 75 = .ok (.getfield 31, 3) := by decide +kernel
theorem dX7_writeOff_78 : decode cX7_writeOff 78 = .ok (.bipush 17, 2) := by decide +kernel
theorem dX7_writeOff_80 : decode cX7_writeOff 80 = .ok (.aload_n 0, 1) := by decide +kernel
theorem dX7_writeOff_81 : decode cX7_writeOff 81 = .ok (.iload_n 1, 1) := by decide +kernel
theorem dX7_writeOff_82 : decode cX7_writeOff 82 = .ok (.iconst 3, 1) := by decide +kernel
theorem dX7_writeOff_83 : decode cX7_writeOff 83 = .ok (.invokevirtual 68, 3) := by decide +kernel
theorem dX7_writeOff_86 : decode cX7_writeOff 86 = .ok (.imul, 1) := by decide +kernel
theorem dX7_writeOff_87 : decode cX7_writeOff 87 = .ok (.iconst 3, 1) := by decide +kernel
theorem dX7_writeOff_88 : decode cX7_writeOff 88 = .ok (.iadd, 1) := by decide +kernel
theorem dX7_writeOff_89 : decode cX7_writeOff 89 = .ok (.iaload, 1) := by decide +kernel
theorem dX7_writeOff_90 : decode cX7_writeOff 90 = .ok (.iadd, 1) := by decide +kernel
theorem dX7_writeOff_91 : decode cX7_writeOff 91 = .ok (.invokevirtual 196, 3) := by decide +kernel
theorem dX7_writeOff_94 : decode cX7_writeOff 94 = .ok (.ireturn, 1) := by decide +kernel
set_option maxRecDepth 20000 in
theorem ggX7_rate_X7_in : GoodIn wsX7_rate wsX7_in := goodIn_r _ [5] (by decide +kernel) (by decide +kernel)
set_option maxRecDepth 20000 in
theorem gX7_rate_X7_in : GoodIn wsX7_rate (va_wsS RX7 64 yX7_in wsX7_in) := goodIn_app (goodIn_of _ (by decide +kernel)) ggX7_rate_X7_in
theorem dX7_rate_0 : decode cX7_rate 0 = .ok (.iload_n 1, 1) := by decide +kernel
theorem dX7_rate_1 : decode cX7_rate 1 = .ok (.iconst 0, 1) := by decide +kernel
theorem dX7_rate_2 : decode cX7_rate 2 = .ok (.iconst 1, 1) := by decide +kernel
theorem dX7_rate_3 : decode cX7_rate 3 = .ok (.invokestatic 64, 3) := by decide +kernel
theorem dX7_rate_6 : decode cX7_rate 6 = .ok (.ifCond .eq 22, 3) := by decide +kernel
theorem dX7_rate_9 : decode cX7_rate 9 = .ok (.iload_n 2, 1) := by decide +kernel
theorem dX7_rate_10 : decode cX7_rate 10 = .ok (.iconst 0, 1) := by decide +kernel
theorem dX7_rate_11 : decode cX7_rate 11 = .ok (.iload_n 1, 1) := by decide +kernel
theorem dX7_rate_12 : decode cX7_rate 12 = .ok (.ifCond .ne 8, 3) := by decide +kernel
theorem dX7_rate_15 : decode cX7_rate 15 = .ok (.bipush 50, 2) := by decide +kernel
theorem dX7_rate_17 : decode cX7_rate 17 = .ok (.goto 5, 3) := by decide +kernel
theorem dX7_rate_20 : decode cX7_rate 20 = .ok (.bipush 10, 2) := by decide +kernel
theorem dX7_rate_22 : decode cX7_rate 22 = .ok (.invokestatic 64, 3) := by decide +kernel
theorem dX7_rate_25 : decode cX7_rate 25 = .ok (.ifCond .ne 5, 3) := by decide +kernel
theorem dX7_rate_28 : decode cX7_rate 28 = .ok (.iconst (-1), 1) := by decide +kernel
theorem dX7_rate_29 : decode cX7_rate 29 = .ok (.ireturn, 1) := by decide +kernel
theorem dX7_rate_30 : decode cX7_rate 30 = .ok (.aload_n 0, 1) := by decide +kernel
theorem dX7_rate_31 : decode cX7_rate 31 = .ok (.getfield 7, 3) := by decide +kernel
theorem dX7_rate_34 : decode cX7_rate 34 = .ok (.bipush 7, 2) := by decide +kernel
theorem dX7_rate_36 : decode cX7_rate 36 = .ok (.iload_n 1, 1) := by decide +kernel
theorem dX7_rate_37 : decode cX7_rate 37 = .ok (.iadd, 1) := by decide +kernel
theorem dX7_rate_38 : decode cX7_rate 38 = .ok (.iaload, 1) := by decide +kernel
theorem dX7_rate_39 : decode cX7_rate 39 = .ok (.istore_n 3, 1) := by decide +kernel
theorem dX7_rate_40 : decode cX7_rate 40 = .ok (.aload_n 0, 1) := by decide +kernel
theorem dX7_rate_41 : decode cX7_rate 41 = .ok (.getfield 7, 3) := by decide +kernel
theorem dX7_rate_44 : decode cX7_rate 44 = .ok (.bipush 7, 2) := by decide +kernel
theorem dX7_rate_46 : decode cX7_rate 46 = .ok (.iload_n 1, 1) := by decide +kernel
theorem dX7_rate_47 : decode cX7_rate 47 = .ok (.iadd, 1) := by decide +kernel
theorem dX7_rate_48 : decode cX7_rate 48 = .ok (.iload_n 2, 1) := by decide +kernel
theorem dX7_rate_49 : decode cX7_rate 49 = .ok (.iastore, 1) := by decide +kernel
theorem dX7_rate_50 : decode cX7_rate 50 = .ok (.iload_n 3, 1) := by decide +kernel
theorem dX7_rate_51 : decode cX7_rate 51 = .ok (.ireturn, 1) := by decide +kernel
set_option maxRecDepth 20000 in
theorem ggX7_use_X7_isBox : GoodIn wsX7_use wsX7_isBox := goodIn_r _ [7, 1, 8, 9, 6, 10, 23, 24, 25, 26, 27, 28, 29, 30, 31, 32, 33, 34, 35, 36, 37, 38, 39, 40, 41, 42, 43, 44, 45, 46, 47, 48, 49, 50] (by decide +kernel) (by decide +kernel)
set_option maxRecDepth 20000 in
theorem gX7_use_X7_isBox : GoodIn wsX7_use (wsV RX7 84 RX7 yX7_isBox wsX7_isBox) := goodIn_app (goodIn_of _ (by decide +kernel)) ggX7_use_X7_isBox
set_option maxRecDepth 20000 in
theorem ggX7_use_X7_isLine : GoodIn wsX7_use wsX7_isLine := goodIn_r _ [13, 8, 9, 6, 10] (by decide +kernel) (by decide +kernel)
set_option maxRecDepth 20000 in
theorem gX7_use_X7_isLine : GoodIn wsX7_use (va_wsS RX7 72 yX7_isLine wsX7_isLine) := goodIn_app (goodIn_of _ (by decide +kernel)) ggX7_use_X7_isLine
set_option maxRecDepth 20000 in
theorem ggX7_use_X7_isPast : GoodIn wsX7_use wsX7_isPast := goodIn_r _ [17, 1, 8, 9, 6, 10, 23, 24, 25, 26, 27, 28, 29, 30, 31, 32, 33, 34, 35, 36, 37, 38, 39, 40, 41, 42, 43, 44, 45, 46, 47, 48, 49, 50] (by decide +kernel) (by decide +kernel)
set_option maxRecDepth 20000 in
theorem gX7_use_X7_isPast : GoodIn wsX7_use (wsV RX7 87 RX7 yX7_isPast wsX7_isPast) := goodIn_app (goodIn_of _ (by decide +kernel)) ggX7_use_X7_isPast
set_option maxRecDepth 20000 in
theorem ggX7_use_X7_get : GoodIn wsX7_use wsX7_get := goodIn_r _ [21, 22, 23, 24, 25, 26, 27, 28, 29, 30, 31, 32, 33, 34, 35, 36, 37, 38, 39, 40, 41, 42, 43, 44, 45, 46, 47, 48, 49, 50] (by decide +kernel) (by decide +kernel)
set_option maxRecDepth 20000 in
theorem gX7_use_X7_get : GoodIn wsX7_use (wsV RX7 68 RX7 yX7_get wsX7_get) := goodIn_app (goodIn_of _ (by decide +kernel)) ggX7_use_X7_get
theorem dX7_use_0 : decode cX7_use 0 = .ok (.aload_n 0, 1) := by decide +kernel
theorem dX7_use_1 : decode cX7_use 1 = .ok (.iload_n 1, 1) := by decide +kernel
theorem dX7_use_2 : decode cX7_use 2 = .ok (.invokevirtual 84, 3) := by decide +kernel
theorem dX7_use_5 : decode cX7_use 5 = .ok (.ifCond .eq 33, 3) := by decide +kernel
theorem dX7_use_8 : decode cX7_use 8 = .ok (.iload_n 2, 1) := by decide +kernel
theorem dX7_use_9 : decode cX7_use 9 = .ok (.invokestatic 72, 3) := by decide +kernel
theorem dX7_use_12 : decode cX7_use 12 = .ok (.ifCond .eq 26, 3) := by decide +kernel
theorem dX7_use_15 : decode cX7_use 15 = .ok (.aload_n 0, 1) := by decide +kernel
theorem dX7_use_16 : decode cX7_use 16 = .ok (.iload_n 3, 1) := by decide +kernel
theorem dX7_use_17 : decode cX7_use 17 = .ok (.invokevirtual 87, 3) := by decide +kernel
theorem dX7_use_20 : decode cX7_use 20 = .ok (.ifCond .eq 18, 3) := by decide +kernel
theorem dX7_use_23 : decode cX7_use 23 = .ok (.aload_n 0, 1) := by decide +kernel
theorem dX7_use_24 : decode cX7_use 24 = .ok (.iload 4, 2) := by decide +kernel
theorem dX7_use_26 : decode cX7_use 26 = .ok (.invokevirtual 87, 3) := by decide +kernel
theorem dX7_use_29 : decode cX7_use 29 = .ok (.ifCond .eq 9, 3) := by decide +kernel
theorem dX7_use_32 : decode cX7_use 32 = .ok (.iload 4, 2) := by decide +kernel
theorem dX7_use_34 : decode cX7_use 34 = .ok (.iload_n 3, 1) := by decide +kernel
theorem dX7_use_35 : decode cX7_use 35 = .ok (.if_icmp .ge 5, 3) := by decide +kernel
theorem dX7_use_38 : decode cX7_use 38 = .ok (.iconst (-1), 1) := by decide +kernel
theorem dX7_use_39 : decode cX7_use 39 = .ok (.ireturn, 1) := by decide +kernel
theorem dX7_use_40 : decode cX7_use 40 = .ok (.aload_n 0, 1) := by decide +kernel
theorem dX7_use_41 : decode cX7_use 41 = .ok (.iload_n 1, 1) := by decide +kernel
theorem dX7_use_42 : decode cX7_use 42 = .ok (.iconst 2, 1) := by decide +kernel
theorem dX7_use_43 : decode cX7_use 43 = .ok (.invokevirtual 68, 3) := by decide +kernel
theorem dX7_use_46 : decode cX7_use 46 = .ok (.iload_n 2, 1) := by decide +kernel
theorem dX7_use_47 : decode cX7_use 47 = .ok (.if_icmp .ne 6, 3) := by decide +kernel
theorem dX7_use_50 : decode cX7_use 50 = .ok (.bipush (-4), 2) := by decide +kernel
theorem dX7_use_52 : decode cX7_use 52 = .ok (.ireturn, 1) := by decide +kernel
theorem dX7_use_53 : decode cX7_use 53 = .ok (.aload_n 0, 1) := by decide +kernel
theorem dX7_use_54 : decode cX7_use 54 = .ok (.getfield 7, 3) := by decide +kernel
theorem dX7_use_57 : decode cX7_use 57 = .ok (.bipush 6, 2) := by decide +kernel
theorem dX7_use_59 : decode cX7_use 59 = .ok (.iaload, 1) := by decide +kernel
theorem dX7_use_60 : decode cX7_use 60 = .ok (.bipush 40, 2) := by decide +kernel
theorem dX7_use_62 : decode cX7_use 62 = .ok (.if_icmp .ne 6, 3) := by decide +kernel
theorem dX7_use_65 : decode cX7_use 65 = .ok (.bipush (-2), 2) := by decide +kernel
theorem dX7_use_67 : decode cX7_use 67 = .ok (.ireturn, 1) := by decide +kernel
theorem dX7_use_68 : decode cX7_use 68 = .ok (.bipush 6, 2) := by decide +kernel
theorem dX7_use_70 : decode cX7_use 70 = .ok (.aload_n 0, 1) := by decide +kernel
theorem dX7_use_71 : decode cX7_use 71 = .ok (.getfield 7, 3) := by decide +kernel
theorem dX7_use_74 : decode cX7_use 74 = .ok (.bipush 6, 2) := by decide +kernel
theorem dX7_use_76 : decode cX7_use 76 = .ok (.iaload, 1) := by decide +kernel
theorem dX7_use_77 : decode cX7_use 77 = .ok (.imul, 1) := by decide +kernel
theorem dX7_use_78 : decode cX7_use 78 = .ok (.istore 5, 2) := by decide +kernel
theorem dX7_use_80 : decode cX7_use 80 = .ok (.aload_n 0, 1) := by decide +kernel
theorem dX7_use_81 : decode cX7_use 81 = .ok (.getfield 34, 3) := by decide +kernel
theorem dX7_use_84 : decode cX7_use 84 = .ok (.iload 5, 2) := by decide +kernel
theorem dX7_use_86 : decode cX7_use 86 = .ok (.iload_n 1, 1) := by decide +kernel
theorem dX7_use_87 : decode cX7_use 87 = .ok (.iastore, 1) := by decide +kernel
theorem dX7_use_88 : decode cX7_use 88 = .ok (.aload_n 0, 1) := by decide +kernel
theorem dX7_use_89 : decode cX7_use 89 = .ok (.getfield 34, 3) := by decide +kernel
theorem dX7_use_92 : decode cX7_use 92 = .ok (.iload 5, 2) := by decide +kernel
theorem dX7_use_94 : decode cX7_use 94 = .ok (.iconst 1, 1) := by decide +kernel
theorem dX7_use_95 : decode cX7_use 95 = .ok (.iadd, 1) := by decide +kernel
theorem dX7_use_96 : decode cX7_use 96 = .ok (.iload_n 2, 1) := by decide +kernel
theorem dX7_use_97 : decode cX7_use 97 = .ok (.iastore, 1) := by decide +kernel
theorem dX7_use_98 : decode cX7_use 98 = .ok (.aload_n 0, 1) := by decide +kernel
theorem dX7_use_99 : decode cX7_use 99 = .ok (.getfield 34, 3) := by decide +kernel
theorem dX7_use_102 : decode cX7_use 102 = .ok (.iload 5, 2) := by decide +kernel
theorem dX7_use_104 : decode cX7_use 104 = .ok (.iconst 2, 1) := by decide +kernel
theorem dX7_use_105 : decode cX7_use 105 = .ok (.iadd, 1) := by decide +kernel
theorem dX7_use_106 : decode cX7_use 106 = .ok (.iload_n 3, 1) := by decide +kernel
theorem dX7_use_107 : decode cX7_use 107 = .ok (.iastore, 1) := by decide +kernel
theorem dX7_use_108 : decode cX7_use 108 = .ok (.aload_n 0, 1) := by decide +kernel
theorem dX7_use_109 : decode cX7_use 109 = .ok (.getfield 34, 3) := by decide +kernel
theorem dX7_use_112 : decode cX7_use 112 = .ok (.iload 5, 2) := by decide +kernel
theorem dX7_use_114 : decode cX7_use 114 = .ok (.iconst 3, 1) := by decide +kernel
theorem dX7_use_115 : decode cX7_use 115 = .ok (.iadd, 1) := by decide +kernel
theorem dX7_use_116 : decode cX7_use 116 = .ok (.iload 4, 2) := by decide +kernel
theorem dX7_use_118 : decode cX7_use 118 = .ok (.iastore, 1) := by decide +kernel
theorem dX7_use_119 : decode cX7_use 119 = .ok (.aload_n 0, 1) := by decide +kernel
theorem dX7_use_120 : decode cX7_use 120 = .ok (.getfield 34, 3) := by decide +kernel
theorem dX7_use_123 : decode cX7_use 123 = .ok (.iload 5, 2) := by decide +kernel
theorem dX7_use_125 : decode cX7_use 125 = .ok (.iconst 4, 1) := by decide +kernel
theorem dX7_use_126 : decode cX7_use 126 = .ok (.iadd, 1) := by decide +kernel
theorem dX7_use_127 : decode cX7_use 127 = .ok (.aload_n 0, 1) := by decide +kernel
theorem dX7_use_128 : decode cX7_use 128 = .ok (.getfield 7, 3) := by decide +kernel
theorem dX7_use_131 : decode cX7_use 131 = .ok (.iconst 0, 1) := by decide +kernel
theorem dX7_use_132 : decode cX7_use 132 = .ok (.iaload, 1) := by decide +kernel
theorem dX7_use_133 : decode cX7_use 133 = .ok (.iastore, 1) := by decide +kernel
theorem dX7_use_134 : decode cX7_use 134 = .ok (.aload_n 0, 1) := by decide +kernel
theorem dX7_use_135 : decode cX7_use 135 = .ok (.getfield 34, 3) := by decide +kernel
theorem dX7_use_138 : decode cX7_use 138 = .ok (.iload 5, 2) := by decide +kernel
theorem dX7_use_140 : decode cX7_use 140 = .ok (.iconst 5, 1) := by decide +kernel
theorem dX7_use_141 : decode cX7_use 141 = .ok (.iadd, 1) := by decide +kernel
theorem dX7_use_142 : decode cX7_use 142 = .ok (.iconst (-1), 1) := by decide +kernel
theorem dX7_use_143 : decode cX7_use 143 = .ok (.iastore, 1) := by decide +kernel
theorem dX7_use_144 : decode cX7_use 144 = .ok (.aload_n 0, 1) := by decide +kernel
theorem dX7_use_145 : decode cX7_use 145 = .ok (.getfield 7, 3) := by decide +kernel
theorem dX7_use_148 : decode cX7_use 148 = .ok (.bipush 6, 2) := by decide +kernel
theorem dX7_use_150 : decode cX7_use 150 = .ok (.dup2, 1) := by decide +kernel
theorem dX7_use_151 : decode cX7_use 151 = .ok (.iaload, 1) := by decide +kernel
theorem dX7_use_152 : decode cX7_use 152 = .ok (.iconst 1, 1) := by decide +kernel
theorem dX7_use_153 : decode cX7_use 153 = .ok (.iadd, 1) := by decide +kernel
theorem dX7_use_154 : decode cX7_use 154 = .ok (.iastore, 1) := by decide +kernel
theorem dX7_use_155 : decode cX7_use 155 = .ok (.aload_n 0, 1) := by decide +kernel
theorem dX7_use_156 : decode cX7_use 156 = .ok (.getfield 7, 3) := by decide +kernel
theorem dX7_use_159 : decode cX7_use 159 = .ok (.bipush 6, 2) := by decide +kernel
theorem dX7_use_161 : decode cX7_use 161 = .ok (.iaload, 1) := by decide +kernel
theorem dX7_use_162 : decode cX7_use 162 = .ok (.iconst 1, 1) := by decide +kernel
theorem dX7_use_163 : decode cX7_use 163 = .ok (.isub, 1) := by decide +kernel
theorem dX7_use_164 : decode cX7_use 164 = .ok (.ireturn, 1) := by decide +kernel
theorem dX7_worthOf_0 : decode cX7_worthOf 0 = .ok (.aload_n 0, 1) := by decide +kernel
theorem dX7_worthOf_1 : decode cX7_worthOf 1 = .ok (.getfield 34, 3) := by decide +kernel
theorem dX7_worthOf_4 : decode cX7_worthOf 4 = .ok (.bipush 6, 2) := by decide +kernel
theorem dX7_worthOf_6 : decode cX7_worthOf 6 = .ok (.iload_n 1, 1) := by decide +kernel
theorem dX7_worthOf_7 : decode cX7_worthOf 7 = .ok (.imul, 1) := by decide +kernel
theorem dX7_worthOf_8 : decode cX7_worthOf 8 = .ok (.iconst 3, 1) := by decide +kernel
theorem dX7_worthOf_9 : decode cX7_worthOf 9 = .ok (.iadd, 1) := by decide +kernel
theorem dX7_worthOf_10 : decode cX7_worthOf 10 = .ok (.iaload, 1) := by decide +kernel
theorem dX7_worthOf_11 : decode cX7_worthOf 11 = .ok (.aload_n 0, 1) := by decide +kernel
theorem dX7_worthOf_12 : decode cX7_worthOf 12 = .ok (.getfield 34, 3) := by decide +kernel
theorem dX7_worthOf_15 : decode cX7_worthOf 15 = .ok (.bipush 6, 2) := by decide +kernel
theorem dX7_worthOf_17 : decode cX7_worthOf 17 = .ok (.iload_n 1, 1) := by decide +kernel
theorem dX7_worthOf_18 : decode cX7_worthOf 18 = .ok (.imul, 1) := by decide +kernel
theorem dX7_worthOf_19 : decode cX7_worthOf 19 = .ok (.iconst 2, 1) := by decide +kernel
theorem dX7_worthOf_20 : decode cX7_worthOf 20 = .ok (.iadd, 1) := by decide +kernel
theorem dX7_worthOf_21 : decode cX7_worthOf 21 = .ok (.iaload, 1) := by decide +kernel
theorem dX7_worthOf_22 : decode cX7_worthOf 22 = .ok (.isub, 1) := by decide +kernel
theorem dX7_worthOf_23 : decode cX7_worthOf 23 = .ok (.iconst 1, 1) := by decide +kernel
theorem dX7_worthOf_24 : decode cX7_worthOf 24 = .ok (.iadd, 1) := by decide +kernel
theorem dX7_worthOf_25 : decode cX7_worthOf 25 = .ok (.aload_n 0, 1) := by decide +kernel
theorem dX7_worthOf_26 : decode cX7_worthOf 26 = .ok (.getfield 7, 3) := by decide +kernel
theorem dX7_worthOf_29 : decode cX7_worthOf 29 = .ok (.bipush 8, 2) := by decide +kernel
theorem dX7_worthOf_31 : decode cX7_worthOf 31 = .ok (.iaload, 1) := by decide +kernel
theorem dX7_worthOf_32 : decode cX7_worthOf 32 = .ok (.isub, 1) := by decide +kernel
theorem dX7_worthOf_33 : decode cX7_worthOf 33 = .ok (.istore_n 2, 1) := by decide +kernel
theorem dX7_worthOf_34 : decode cX7_worthOf 34 = .ok (.iload_n 2, 1) := by decide +kernel
theorem dX7_worthOf_35 : decode cX7_worthOf 35 = .ok (.ifCond .le 15, 3) := by decide +kernel
theorem dX7_worthOf_38 : decode cX7_worthOf 38 = .ok (.iload_n 2, 1) := by decide +kernel
theorem dX7_worthOf_39 : decode cX7_worthOf 39 = .ok (.aload_n 0, 1) := by decide +kernel
theorem dX7_worthOf_40 : decode cX7_worthOf 40 = .ok (.getfield 7, 3) := by decide +kernel
theorem dX7_worthOf_43 : decode cX7_worthOf 43 = .ok (.bipush 7, 2) := by decide +kernel
theorem dX7_worthOf_45 : decode cX7_worthOf 45 = .ok (.iaload, 1) := by decide +kernel
theorem dX7_worthOf_46 : decode cX7_worthOf 46 = .ok (.imul, 1) := by decide +kernel
theorem dX7_worthOf_47 : decode cX7_worthOf 47 = .ok (.goto 4, 3) := by decide +kernel
theorem dX7_worthOf_50 : decode cX7_worthOf 50 = .ok (.iconst 0, 1) := by decide +kernel
theorem dX7_worthOf_51 : decode cX7_worthOf 51 = .ok (.ireturn, 1) := by decide +kernel
set_option maxRecDepth 20000 in
theorem ggX7_strike_X7_in : GoodIn wsX7_strike wsX7_in := goodIn_r _ [6] (by decide +kernel) (by decide +kernel)
set_option maxRecDepth 20000 in
theorem gX7_strike_X7_in : GoodIn wsX7_strike (va_wsS RX7 64 yX7_in wsX7_in) := goodIn_app (goodIn_of _ (by decide +kernel)) ggX7_strike_X7_in
set_option maxRecDepth 20000 in
theorem ggX7_strike_X7_worthOf : GoodIn wsX7_strike wsX7_worthOf := goodIn_r _ [10, 2, 1, 11, 12, 13, 14, 15, 16, 17, 18, 19, 20, 21, 22, 23, 24, 25, 26, 27, 28, 29, 30, 31, 32, 33, 34, 35, 36, 37, 38] (by decide +kernel) (by decide +kernel)
set_option maxRecDepth 20000 in
theorem gX7_strike_X7_worthOf : GoodIn wsX7_strike (wsV RX7 199 RX7 yX7_worthOf wsX7_worthOf) := goodIn_app (goodIn_of _ (by decide +kernel)) ggX7_strike_X7_worthOf
theorem dX7_strike_0 : decode cX7_strike 0 = .ok (.iload_n 1, 1) := by decide +kernel
theorem dX7_strike_1 : decode cX7_strike 1 = .ok (.iconst 0, 1) := by decide +kernel
theorem dX7_strike_2 : decode cX7_strike 2 = .ok (.aload_n 0, 1) := by decide +kernel
theorem dX7_strike_3 : decode cX7_strike 3 = .ok (.getfield 7, 3) := by decide +kernel
theorem dX7_strike_6 : decode cX7_strike 6 = .ok (.bipush 6, 2) := by decide +kernel
theorem dX7_strike_8 : decode cX7_strike 8 = .ok (.iaload, 1) := by decide +kernel
theorem dX7_strike_9 : decode cX7_strike 9 = .ok (.iconst 1, 1) := by decide +kernel
theorem dX7_strike_10 : decode cX7_strike 10 = .ok (.isub, 1) := by decide +kernel
theorem dX7_strike_11 : decode cX7_strike 11 = .ok (.invokestatic 64, 3) := by decide +kernel
theorem dX7_strike_14 : decode cX7_strike 14 = .ok (.ifCond .ne 5, 3) := by decide +kernel
theorem dX7_strike_17 : decode cX7_strike 17 = .ok (.iconst (-1), 1) := by decide +kernel
theorem dX7_strike_18 : decode cX7_strike 18 = .ok (.ireturn, 1) := by decide +kernel
theorem dX7_strike_19 : decode cX7_strike 19 = .ok (.aload_n 0, 1) := by decide +kernel
theorem dX7_strike_20 : decode cX7_strike 20 = .ok (.getfield 34, 3) := by decide +kernel
theorem dX7_strike_23 : decode cX7_strike 23 = .ok (.bipush 6, 2) := by decide +kernel
theorem dX7_strike_25 : decode cX7_strike 25 = .ok (.iload_n 1, 1) := by decide +kernel
theorem dX7_strike_26 : decode cX7_strike 26 = .ok (.imul, 1) := by decide +kernel
theorem dX7_strike_27 : decode cX7_strike 27 = .ok (.iconst 5, 1) := by decide +kernel
theorem dX7_strike_28 : decode cX7_strike 28 = .ok (.iadd, 1) := by decide +kernel
theorem dX7_strike_29 : decode cX7_strike 29 = .ok (.iaload, 1) := by decide +kernel
theorem dX7_strike_30 : decode cX7_strike 30 = .ok (.ifCond .lt 6, 3) := by decide +kernel
theorem dX7_strike_33 : decode cX7_strike 33 = .ok (.bipush (-4), 2) := by decide +kernel
theorem dX7_strike_35 : decode cX7_strike 35 = .ok (.ireturn, 1) := by decide +kernel
theorem dX7_strike_36 : decode cX7_strike 36 = .ok (.aload_n 0, 1) := by decide +kernel
theorem dX7_strike_37 : decode cX7_strike 37 = .ok (.getfield 34, 3) := by decide +kernel
theorem dX7_strike_40 : decode cX7_strike 40 = .ok (.bipush 6, 2) := by decide +kernel
theorem dX7_strike_42 : decode cX7_strike 42 = .ok (.iload_n 1, 1) := by decide +kernel
theorem dX7_strike_43 : decode cX7_strike 43 = .ok (.imul, 1) := by decide +kernel
theorem dX7_strike_44 : decode cX7_strike 44 = .ok (.iconst 5, 1) := by decide +kernel
theorem dX7_strike_45 : decode cX7_strike 45 = .ok (.iadd, 1) := by decide +kernel
theorem dX7_strike_46 : decode cX7_strike 46 = .ok (.aload_n 0, 1) := by decide +kernel
theorem dX7_strike_47 : decode cX7_strike 47 = .ok (.getfield 7, 3) := by decide +kernel
theorem dX7_strike_50 : decode cX7_strike 50 = .ok (.iconst 0, 1) := by decide +kernel
theorem dX7_strike_51 : decode cX7_strike 51 = .ok (.iaload, 1) := by decide +kernel
theorem dX7_strike_52 : decode cX7_strike 52 = .ok (.iastore, 1) := by decide +kernel
theorem dX7_strike_53 : decode cX7_strike 53 = .ok (.aload_n 0, 1) := by decide +kernel
theorem dX7_strike_54 : decode cX7_strike 54 = .ok (.iload_n 1, 1) := by decide +kernel
theorem dX7_strike_55 : decode cX7_strike 55 = .ok (.invokevirtual 199, 3) := by decide +kernel
theorem dX7_strike_58 : decode cX7_strike 58 = .ok (.ireturn, 1) := by decide +kernel
set_option maxRecDepth 20000 in
theorem ggX7_owesOf_X7_get : GoodIn wsX7_owesOf wsX7_get := goodIn_r _ [7, 8, 13, 14, 15, 16, 17, 18, 19, 20, 21, 22, 23, 24, 25, 26, 27, 28, 29, 30, 31, 32, 33, 34, 35, 36, 37, 38, 39, 40] (by decide +kernel) (by decide +kernel)
set_option maxRecDepth 20000 in
theorem gX7_owesOf_X7_get : GoodIn wsX7_owesOf (wsV RX7 68 RX7 yX7_get wsX7_get) := goodIn_app (goodIn_of _ (by decide +kernel)) ggX7_owesOf_X7_get
set_option maxRecDepth 20000 in
theorem ggX7_owesOf_X7_worthOf : GoodIn wsX7_owesOf wsX7_worthOf := goodIn_r _ [12, 2, 1, 13, 14, 15, 16, 17, 18, 19, 20, 21, 22, 23, 24, 25, 26, 27, 28, 29, 30, 31, 32, 33, 34, 35, 36, 37, 38, 39, 40] (by decide +kernel) (by decide +kernel)
set_option maxRecDepth 20000 in
theorem gX7_owesOf_X7_worthOf : GoodIn wsX7_owesOf (wsV RX7 199 RX7 yX7_worthOf wsX7_worthOf) := goodIn_app (goodIn_of _ (by decide +kernel)) ggX7_owesOf_X7_worthOf
theorem dX7_owesOf_0 : decode cX7_owesOf 0 = .ok (.iconst 0, 1) := by decide +kernel
theorem dX7_owesOf_1 : decode cX7_owesOf 1 = .ok (.istore 4, 2) := by decide +kernel
theorem dX7_owesOf_3 : decode cX7_owesOf 3 = .ok (.iconst 0, 1) := by decide +kernel
theorem dX7_owesOf_4 : decode cX7_owesOf 4 = .ok (.istore 5, 2) := by decide +kernel
theorem dX7_owesOf_6 : decode cX7_owesOf 6 = .ok (.iload 5, 2) := by decide +kernel
theorem dX7_owesOf_8 : decode cX7_owesOf 8 = .ok (.aload_n 0, 1) := by decide +kernel
theorem dX7_owesOf_9 : decode cX7_owesOf 9 = .ok (.getfield 7, 3) := by decide +kernel
theorem dX7_owesOf_12 : decode cX7_owesOf 12 = .ok (.bipush 6, 2) := by decide +kernel
theorem dX7_owesOf_14 : decode cX7_owesOf 14 = .ok (.iaload, 1) := by decide +kernel
theorem dX7_owesOf_15 : decode cX7_owesOf 15 = .ok (.if_icmp .ge 124, 3) := by decide +kernel
theorem dX7_owesOf_18 : decode cX7_owesOf 18 = .ok (.aload_n 0, 1) := by decide +kernel
theorem dX7_owesOf_19 : decode cX7_owesOf 19 = .ok (.getfield 34, 3) := by decide +kernel
theorem dX7_owesOf_22 : decode cX7_owesOf 22 = .ok (.bipush 6, 2) := by decide +kernel
theorem dX7_owesOf_24 : decode cX7_owesOf 24 = .ok (.iload 5, 2) := by decide +kernel
theorem dX7_owesOf_26 : decode cX7_owesOf 26 = .ok (.imul, 1) := by decide +kernel
theorem dX7_owesOf_27 : decode cX7_owesOf 27 = .ok (.iconst 5, 1) := by decide +kernel
theorem dX7_owesOf_28 : decode cX7_owesOf 28 = .ok (.iadd, 1) := by decide +kernel
theorem dX7_owesOf_29 : decode cX7_owesOf 29 = .ok (.iaload, 1) := by decide +kernel
theorem dX7_owesOf_30 : decode cX7_owesOf 30 = .ok (.istore 6, 2) := by decide +kernel
theorem dX7_owesOf_32 : decode cX7_owesOf 32 = .ok (.aload_n 0, 1) := by decide +kernel
theorem dX7_owesOf_33 : decode cX7_owesOf 33 = .ok (.getfield 34, 3) := by decide +kernel
theorem dX7_owesOf_36 : decode cX7_owesOf 36 = .ok (.bipush 6, 2) := by decide +kernel
theorem dX7_owesOf_38 : decode cX7_owesOf 38 = .ok (.iload 5, 2) := by decide +kernel
theorem dX7_owesOf_40 : decode cX7_owesOf 40 = .ok (.imul, 1) := by decide +kernel
theorem dX7_owesOf_41 : decode cX7_owesOf 41 = .ok (.iconst 1, 1) := by decide +kernel
theorem dX7_owesOf_42 : decode cX7_owesOf 42 = .ok (.iadd, 1) := by decide +kernel
theorem dX7_owesOf_43 : decode cX7_owesOf 43 = .ok (.iaload, 1) := by decide +kernel
theorem dX7_owesOf_44 : decode cX7_owesOf 44 = .ok (.iload_n 1, 1) := by decide +kernel
theorem dX7_owesOf_45 : decode cX7_owesOf 45 = .ok (.if_icmp .ne 26, 3) := by decide +kernel
theorem dX7_owesOf_48 : decode cX7_owesOf 48 = .ok (.aload_n 0, 1) := by decide +kernel
theorem dX7_owesOf_49 : decode cX7_owesOf 49 = .ok (.aload_n 0, 1) := by decide +kernel
theorem dX7_owesOf_50 : decode cX7_owesOf 50 = .ok (.getfield 34, 3) := by decide +kernel
theorem dX7_owesOf_53 : decode cX7_owesOf 53 = .ok (.bipush 6, 2) := by decide +kernel
theorem dX7_owesOf_55 : decode cX7_owesOf 55 = .ok (.iload 5, 2) := by decide +kernel
theorem dX7_owesOf_57 : decode cX7_owesOf 57 = .ok (.imul, 1) := by decide +kernel
theorem dX7_owesOf_58 : decode cX7_owesOf 58 = .ok (.iaload, 1) := by decide +kernel
theorem dX7_owesOf_59 : decode cX7_owesOf 59 = .ok (.iconst 2, 1) := by decide +kernel
theorem dX7_owesOf_60 : decode cX7_owesOf 60 = .ok (.invokevirtual 68, 3) := by decide +kernel
theorem dX7_owesOf_63 : decode cX7_owesOf 63 = .ok (.iload_n 2, 1) := by decide +kernel
theorem dX7_owesOf_64 : decode cX7_owesOf 64 = .ok (.if_icmp .ne 7, 3) := by decide +kernel
theorem dX7_owesOf_67 : decode cX7_owesOf 67 = .ok (.iconst 1, 1) := by decide +kernel
theorem dX7_owesOf_68 : decode cX7_owesOf 68 = .ok (.goto 4, 3) := by decide +kernel
theorem dX7_owesOf_71 : decode cX7_owesOf 71 = .ok (.iconst 0, 1) := by decide +kernel
theorem dX7_owesOf_72 : decode cX7_owesOf 72 = .ok (.istore 7, 2) := by decide +kernel
theorem dX7_owesOf_74 : decode cX7_owesOf 74 = .ok (.iload 7, 2) := by decide +kernel
theorem dX7_owesOf_76 : decode cX7_owesOf 76 = .ok (.ifCond .eq 34, 3) := by decide +kernel
theorem dX7_owesOf_79 : decode cX7_owesOf 79 = .ok (.aload_n 0, 1) := by decide +kernel
theorem dX7_owesOf_80 : decode cX7_owesOf 80 = .ok (.getfield 34, 3) := by decide +kernel
theorem dX7_owesOf_83 : decode cX7_owesOf 83 = .ok (.bipush 6, 2) := by decide +kernel
theorem dX7_owesOf_85 : decode cX7_owesOf 85 = .ok (.iload 5, 2) := by decide +kernel
theorem dX7_owesOf_87 : decode cX7_owesOf 87 = .ok (.imul, 1) := by decide +kernel
theorem dX7_owesOf_88 : decode cX7_owesOf 88 = .ok (.iconst 4, 1) := by decide +kernel
theorem dX7_owesOf_89 : decode cX7_owesOf 89 = .ok (.iadd, 1) := by decide +kernel
theorem dX7_owesOf_90 : decode cX7_owesOf 90 = .ok (.iaload, 1) := by decide +kernel
theorem dX7_owesOf_91 : decode cX7_owesOf 91 = .ok (.iload_n 3, 1) := by decide +kernel
theorem dX7_owesOf_92 : decode cX7_owesOf 92 = .ok (.if_icmp .gt 18, 3) := by decide +kernel
theorem dX7_owesOf_95 : decode cX7_owesOf 95 = .ok (.iload 6, 2) := by decide +kernel
theorem dX7_owesOf_97 : decode cX7_owesOf 97 = .ok (.ifCond .lt 9, 3) := by decide +kernel
theorem dX7_owesOf_100 : decode cX7_owesOf 100 = .ok (.iload 6, 2) := by decide +kernel
theorem dX7_owesOf_102 : decode cX7_owesOf 102 = .ok (.iload_n 3, 1) := by decide +kernel
theorem dX7_owesOf_103 : decode cX7_owesOf 103 = .ok (.if_icmp .le 7, 3) := by decide +kernel
theorem dX7_owesOf_106 : decode cX7_owesOf 106 = .ok (.iconst 1, 1) := by decide +kernel
theorem dX7_owesOf_107 : decode cX7_owesOf 107 = .ok (.goto 4, 3) := by decide +kernel
theorem dX7_owesOf_110 : decode cX7_owesOf 110 = .ok (.iconst 0, 1) := by decide +kernel
theorem dX7_owesOf_111 : decode cX7_owesOf 111 = .ok (.istore 7, 2) := by decide +kernel
theorem dX7_owesOf_113 : decode cX7_owesOf 113 = .ok (.iload 4, 2) := by decide +kernel
theorem dX7_owesOf_115 : decode cX7_owesOf 115 = .ok (.iload 7, 2) := by decide +kernel
theorem dX7_owesOf_117 : decode cX7_owesOf 117 = .ok (.ifCond .eq 12, 3) := by decide +kernel
theorem dX7_owesOf_120 : decode cX7_owesOf 120 = .ok (.aload_n 0, 1) := by decide +kernel
theorem dX7_owesOf_121 : decode cX7_owesOf 121 = .ok (.iload 5, 2) := by decide +kernel
theorem dX7_owesOf_123 : decode cX7_owesOf 123 = .ok (.invokevirtual 199, 3) := by decide +kernel
theorem dX7_owesOf_126 : decode cX7_owesOf 126 = .ok (.goto 4, 3) := by decide +kernel
theorem dX7_owesOf_129 : decode cX7_owesOf 129 = .ok (.iconst 0, 1) := by decide +kernel
theorem dX7_owesOf_130 : decode cX7_owesOf 130 = .ok (.iadd, 1) := by decide +kernel
theorem dX7_owesOf_131 : decode cX7_owesOf 131 = .ok (.istore 4, 2) := by decide +kernel
theorem dX7_owesOf_133 : decode cX7_owesOf 133 = .ok (.iinc 5 1, 3) := by decide +kernel
theorem dX7_owesOf_136 : decode cX7_owesOf 136 = .ok (.goto (-130), 3) := by decide +kernel
theorem dX7_owesOf_139 : decode cX7_owesOf 139 = .ok (.iload 4, 2) := by decide +kernel
theorem dX7_owesOf_141 : decode cX7_owesOf 141 = .ok (.ireturn, 1) := by decide +kernel
set_option maxRecDepth 20000 in
theorem ggX7_net_X7_isLine : GoodIn wsX7_net wsX7_isLine := goodIn_r _ [5, 6, 7, 4, 8] (by decide +kernel) (by decide +kernel)
set_option maxRecDepth 20000 in
theorem gX7_net_X7_isLine : GoodIn wsX7_net (va_wsS RX7 72 yX7_isLine wsX7_isLine) := goodIn_app (goodIn_of _ (by decide +kernel)) ggX7_net_X7_isLine
set_option maxRecDepth 20000 in
theorem ggX7_net_X7_isPast : GoodIn wsX7_net wsX7_isPast := goodIn_r _ [12, 13, 6, 7, 4, 8, 28, 29, 30, 31, 32, 33, 34, 35, 36, 37, 38, 39, 40, 41, 42, 43, 44, 45, 46, 47, 48, 49, 50, 51, 52, 53, 54, 55] (by decide +kernel) (by decide +kernel)
set_option maxRecDepth 20000 in
theorem gX7_net_X7_isPast : GoodIn wsX7_net (wsV RX7 87 RX7 yX7_isPast wsX7_isPast) := goodIn_app (goodIn_of _ (by decide +kernel)) ggX7_net_X7_isPast
set_option maxRecDepth 20000 in
theorem ggX7_net_X7_owesOf : GoodIn wsX7_net wsX7_owesOf := goodIn_r _ [17, 13, 18, 19, 20, 21, 4, 22, 23, 24, 25, 26, 27, 28, 29, 30, 31, 32, 33, 34, 35, 36, 37, 38, 39, 40, 41, 42, 43, 44, 45, 46, 47, 48, 49, 50, 51, 52, 53, 54, 55] (by decide +kernel) (by decide +kernel)
set_option maxRecDepth 20000 in
theorem gX7_net_X7_owesOf : GoodIn wsX7_net (wsV RX7 202 RX7 yX7_owesOf wsX7_owesOf) := goodIn_app (goodIn_of _ (by decide +kernel)) ggX7_net_X7_owesOf
theorem dX7_net_0 : decode cX7_net 0 = .ok (.iload_n 1, 1) := by decide +kernel
theorem dX7_net_1 : decode cX7_net 1 = .ok (.invokestatic 72, 3) := by decide +kernel
theorem dX7_net_4 : decode cX7_net 4 = .ok (.ifCond .eq 11, 3) := by decide +kernel
theorem dX7_net_7 : decode cX7_net 7 = .ok (.aload_n 0, 1) := by decide +kernel
theorem dX7_net_8 : decode cX7_net 8 = .ok (.iload_n 2, 1) := by decide +kernel
theorem dX7_net_9 : decode cX7_net 9 = .ok (.invokevirtual 87, 3) := by decide +kernel
theorem dX7_net_12 : decode cX7_net 12 = .ok (.ifCond .ne 5, 3) := by decide +kernel
theorem dX7_net_15 : decode cX7_net 15 = .ok (.iconst (-1), 1) := by decide +kernel
theorem dX7_net_16 : decode cX7_net 16 = .ok (.ireturn, 1) := by decide +kernel
theorem dX7_net_17 : decode cX7_net 17 = .ok (.ldc 117, 2) := by decide +kernel
theorem dX7_net_19 : decode cX7_net 19 = .ok (.istore_n 3, 1) := by decide +kernel
theorem dX7_net_20 : decode cX7_net 20 = .ok (.iconst 0, 1) := by decide +kernel
theorem dX7_net_21 : decode cX7_net 21 = .ok (.istore 4, 2) := by decide +kernel
theorem dX7_net_23 : decode cX7_net 23 = .ok (.iload 4, 2) := by decide +kernel
theorem dX7_net_25 : decode cX7_net 25 = .ok (.iconst 4, 1) := by decide +kernel
theorem dX7_net_26 : decode cX7_net 26 = .ok (.if_icmp .ge 29, 3) := by decide +kernel
theorem dX7_net_29 : decode cX7_net 29 = .ok (.iload_n 3, 1) := by decide +kernel
theorem dX7_net_30 : decode cX7_net 30 = .ok (.aload_n 0, 1) := by decide +kernel
theorem dX7_net_31 : decode cX7_net 31 = .ok (.iload 4, 2) := by decide +kernel
theorem dX7_net_33 : decode cX7_net 33 = .ok (.iload_n 1, 1) := by decide +kernel
theorem dX7_net_34 : decode cX7_net 34 = .ok (.iload_n 2, 1) := by decide +kernel
theorem dX7_net_35 : decode cX7_net 35 = .ok (.invokevirtual 202, 3) := by decide +kernel
theorem dX7_net_38 : decode cX7_net 38 = .ok (.aload_n 0, 1) := by decide +kernel
theorem dX7_net_39 : decode cX7_net 39 = .ok (.iload_n 1, 1) := by decide +kernel
theorem dX7_net_40 : decode cX7_net 40 = .ok (.iload 4, 2) := by decide +kernel
theorem dX7_net_42 : decode cX7_net 42 = .ok (.iload_n 2, 1) := by decide +kernel
theorem dX7_net_43 : decode cX7_net 43 = .ok (.invokevirtual 202, 3) := by decide +kernel
theorem dX7_net_46 : decode cX7_net 46 = .ok (.isub, 1) := by decide +kernel
theorem dX7_net_47 : decode cX7_net 47 = .ok (.iadd, 1) := by decide +kernel
theorem dX7_net_48 : decode cX7_net 48 = .ok (.istore_n 3, 1) := by decide +kernel
theorem dX7_net_49 : decode cX7_net 49 = .ok (.iinc 4 1, 3) := by decide +kernel
theorem dX7_net_52 : decode cX7_net 52 = .ok (.goto (-29), 3) := by decide +kernel
theorem dX7_net_55 : decode cX7_net 55 = .ok (.iload_n 3, 1) := by decide +kernel
theorem dX7_net_56 : decode cX7_net 56 = .ok (.ireturn, 1) := by decide +kernel
set_option maxRecDepth 20000 in
theorem ggX7_owes_X7_isLine : GoodIn wsX7_owes wsX7_isLine := goodIn_r _ [4, 5, 6, 3, 7] (by decide +kernel) (by decide +kernel)
set_option maxRecDepth 20000 in
theorem gX7_owes_X7_isLine : GoodIn wsX7_owes (va_wsS RX7 72 yX7_isLine wsX7_isLine) := goodIn_app (goodIn_of _ (by decide +kernel)) ggX7_owes_X7_isLine
set_option maxRecDepth 20000 in
theorem ggX7_owes_X7_isPast : GoodIn wsX7_owes wsX7_isPast := goodIn_r _ [11, 12, 5, 6, 3, 7, 27, 28, 29, 30, 31, 32, 33, 34, 35, 36, 37, 38, 39, 40, 41, 42, 43, 44, 45, 46, 47, 48, 49, 50, 51, 52, 53, 54] (by decide +kernel) (by decide +kernel)
set_option maxRecDepth 20000 in
theorem gX7_owes_X7_isPast : GoodIn wsX7_owes (wsV RX7 87 RX7 yX7_isPast wsX7_isPast) := goodIn_app (goodIn_of _ (by decide +kernel)) ggX7_owes_X7_isPast
set_option maxRecDepth 20000 in
theorem ggX7_owes_X7_owesOf : GoodIn wsX7_owes wsX7_owesOf := goodIn_r _ [16, 12, 17, 18, 19, 20, 3, 21, 22, 23, 24, 25, 26, 27, 28, 29, 30, 31, 32, 33, 34, 35, 36, 37, 38, 39, 40, 41, 42, 43, 44, 45, 46, 47, 48, 49, 50, 51, 52, 53, 54] (by decide +kernel) (by decide +kernel)
set_option maxRecDepth 20000 in
theorem gX7_owes_X7_owesOf : GoodIn wsX7_owes (wsV RX7 202 RX7 yX7_owesOf wsX7_owesOf) := goodIn_app (goodIn_of _ (by decide +kernel)) ggX7_owes_X7_owesOf
theorem dX7_owes_0 : decode cX7_owes 0 = .ok (.iload_n 1, 1) := by decide +kernel
theorem dX7_owes_1 : decode cX7_owes 1 = .ok (.invokestatic 72, 3) := by decide +kernel
theorem dX7_owes_4 : decode cX7_owes 4 = .ok (.ifCond .eq 28, 3) := by decide +kernel
theorem dX7_owes_7 : decode cX7_owes 7 = .ok (.iload_n 2, 1) := by decide +kernel
theorem dX7_owes_8 : decode cX7_owes 8 = .ok (.invokestatic 72, 3) := by decide +kernel
theorem dX7_owes_11 : decode cX7_owes 11 = .ok (.ifCond .eq 21, 3) := by decide +kernel
theorem dX7_owes_14 : decode cX7_owes 14 = .ok (.aload_n 0, 1) := by decide +kernel
theorem dX7_owes_15 : decode cX7_owes 15 = .ok (.iload_n 3, 1) := by decide +kernel
theorem dX7_owes_16 : decode cX7_owes 16 = .ok (.invokevirtual 87, 3) := by decide +kernel
theorem dX7_owes_19 : decode cX7_owes 19 = .ok (.ifCond .eq 13, 3) := by decide +kernel
theorem dX7_owes_22 : decode cX7_owes 22 = .ok (.aload_n 0, 1) := by decide +kernel
theorem dX7_owes_23 : decode cX7_owes 23 = .ok (.iload_n 1, 1) := by decide +kernel
theorem dX7_owes_24 : decode cX7_owes 24 = .ok (.iload_n 2, 1) := by decide +kernel
theorem dX7_owes_25 : decode cX7_owes 25 = .ok (.iload_n 3, 1) := by decide +kernel
theorem dX7_owes_26 : decode cX7_owes 26 = .ok (.invokevirtual 202, 3) := by decide +kernel
theorem dX7_owes_29 : decode cX7_owes 29 = .ok (.goto 4, 3) := by decide +kernel
theorem dX7_owes_32 : decode cX7_owes 32 = .ok (.iconst (-1), 1) := by decide +kernel
theorem dX7_owes_33 : decode cX7_owes 33 = .ok (.ireturn, 1) := by decide +kernel
set_option maxRecDepth 20000 in
theorem ggX7_many_X7_get : GoodIn wsX7_many wsX7_get := goodIn_r _ [8, 9, 10, 11, 12, 13, 14, 15, 16, 17, 18, 19, 20, 21, 22, 23, 24, 25, 26, 27, 28, 29, 30, 31, 32, 33, 34, 35, 36, 37] (by decide +kernel) (by decide +kernel)
set_option maxRecDepth 20000 in
theorem gX7_many_X7_get : GoodIn wsX7_many (wsV RX7 68 RX7 yX7_get wsX7_get) := goodIn_app (goodIn_of _ (by decide +kernel)) ggX7_many_X7_get
theorem dX7_many_0 : decode cX7_many 0 = .ok (.iconst 0, 1) := by decide +kernel
theorem dX7_many_1 : decode cX7_many 1 = .ok (.istore_n 2, 1) := by decide +kernel
theorem dX7_many_2 : decode cX7_many 2 = .ok (.iload_n 1, 1) := by decide +kernel
theorem dX7_many_3 : decode cX7_many 3 = .ok (.tableswitch 231 0 11 #[61, 68, 75, 82, 89, 96, 126, 134, 139, 146, 146, 187], 61) := by decide +kernel
theorem dX7_many_64 : decode cX7_many 64 = .ok (.aload_n 0, 1) := by decide +kernel
theorem dX7_many_65 : decode cX7_many 65 = .ok (.getfield 7, 3) := by decide +kernel
theorem dX7_many_68 : decode cX7_many 68 = .ok (.iconst 1, 1) := by decide +kernel
theorem dX7_many_69 : decode cX7_many 69 = .ok (.iaload, 1) := by decide +kernel
theorem dX7_many_70 : decode cX7_many 70 = .ok (.ireturn, 1) := by decide +kernel
theorem dX7_many_71 : decode cX7_many 71 = .ok (.aload_n 0, 1) := by decide +kernel
theorem dX7_many_72 : decode cX7_many 72 = .ok (.getfield 7, 3) := by decide +kernel
theorem dX7_many_75 : decode cX7_many 75 = .ok (.iconst 2, 1) := by decide +kernel
theorem dX7_many_76 : decode cX7_many 76 = .ok (.iaload, 1) := by decide +kernel
theorem dX7_many_77 : decode cX7_many 77 = .ok (.ireturn, 1) := by decide +kernel
theorem dX7_many_78 : decode cX7_many 78 = .ok (.aload_n 0, 1) := by decide +kernel
theorem dX7_many_79 : decode cX7_many 79 = .ok (.getfield 7, 3) := by decide +kernel
theorem dX7_many_82 : decode cX7_many 82 = .ok (.iconst 3, 1) := by decide +kernel
theorem dX7_many_83 : decode cX7_many 83 = .ok (.iaload, 1) := by decide +kernel
theorem dX7_many_84 : decode cX7_many 84 = .ok (.ireturn, 1) := by decide +kernel
theorem dX7_many_85 : decode cX7_many 85 = .ok (.aload_n 0, 1) := by decide +kernel
theorem dX7_many_86 : decode cX7_many 86 = .ok (.getfield 7, 3) := by decide +kernel
theorem dX7_many_89 : decode cX7_many 89 = .ok (.iconst 4, 1) := by decide +kernel
theorem dX7_many_90 : decode cX7_many 90 = .ok (.iaload, 1) := by decide +kernel
theorem dX7_many_91 : decode cX7_many 91 = .ok (.ireturn, 1) := by decide +kernel
theorem dX7_many_92 : decode cX7_many 92 = .ok (.aload_n 0, 1) := by decide +kernel
theorem dX7_many_93 : decode cX7_many 93 = .ok (.getfield 7, 3) := by decide +kernel
theorem dX7_many_96 : decode cX7_many 96 = .ok (.iconst 5, 1) := by decide +kernel
theorem dX7_many_97 : decode cX7_many 97 = .ok (.iaload, 1) := by decide +kernel
theorem dX7_many_98 : decode cX7_many 98 = .ok (.ireturn, 1) := by decide +kernel
theorem dX7_many_99 : decode cX7_many 99 = .ok (.iconst 0, 1) := by decide +kernel
theorem dX7_many_100 : decode cX7_many 100 = .ok (.istore_n 3, 1) := by decide +kernel
theorem dX7_many_101 : decode cX7_many 101 = .ok (.iload_n 3, 1) := by decide +kernel
theorem dX7_many_102 : decode cX7_many 102 = .ok (.iconst 3, 1) := by decide +kernel
theorem dX7_many_103 : decode cX7_many 103 = .ok (.if_icmp .ge 24, 3) := by decide +kernel
theorem dX7_many_106 : decode cX7_many 106 = .ok (.iload_n 2, 1) := by decide +kernel
theorem dX7_many_107 : decode cX7_many 107 = .ok (.aload_n 0, 1) := by decide +kernel
theorem dX7_many_108 : decode cX7_many 108 = .ok (.getfield 31, 3) := by decide +kernel
theorem dX7_many_111 : decode cX7_many 111 = .ok (.bipush 17, 2) := by decide +kernel
theorem dX7_many_113 : decode cX7_many 113 = .ok (.iload_n 3, 1) := by decide +kernel
theorem dX7_many_114 : decode cX7_many 114 = .ok (.imul, 1) := by decide +kernel
theorem dX7_many_115 : decode cX7_many 115 = .ok (.bipush 16, 2) := by decide +kernel
theorem dX7_many_117 : decode cX7_many 117 = .ok (.iadd, 1) := by decide +kernel
theorem dX7_many_118 : decode cX7_many 118 = .ok (.iaload, 1) := by decide +kernel
theorem dX7_many_119 : decode cX7_many 119 = .ok (.iadd, 1) := by decide +kernel
theorem dX7_many_120 : decode cX7_many 120 = .ok (.istore_n 2, 1) := by decide +kernel
theorem dX7_many_121 : decode cX7_many 121 = .ok (.iinc 3 1, 3) := by decide +kernel
theorem dX7_many_124 : decode cX7_many 124 = .ok (.goto (-23), 3) := by decide +kernel
theorem dX7_many_127 : decode cX7_many 127 = .ok (.iload_n 2, 1) := by decide +kernel
theorem dX7_many_128 : decode cX7_many 128 = .ok (.ireturn, 1) := by decide +kernel
theorem dX7_many_129 : decode cX7_many 129 = .ok (.aload_n 0, 1) := by decide +kernel
theorem dX7_many_130 : decode cX7_many 130 = .ok (.getfield 7, 3) := by decide +kernel
theorem dX7_many_133 : decode cX7_many 133 = .ok (.bipush 6, 2) := by decide +kernel
theorem dX7_many_135 : decode cX7_many 135 = .ok (.iaload, 1) := by decide +kernel
theorem dX7_many_136 : decode cX7_many 136 = .ok (.ireturn, 1) := by decide +kernel
theorem dX7_many_137 : decode cX7_many 137 = .ok (.aload_n 0, 1) := by decide +kernel
theorem dX7_many_138 : decode cX7_many 138 = .ok (.getfield 145, 3) := by decide +kernel
theorem dX7_many_141 : decode cX7_many 141 = .ok (.ireturn, 1) := by decide +kernel
theorem dX7_many_142 : decode cX7_many 142 = .ok (.aload_n 0, 1) := by decide +kernel
theorem dX7_many_143 : decode cX7_many 143 = .ok (.getfield 7, 3) := by decide +kernel
theorem dX7_many_146 : decode cX7_many 146 = .ok (.iconst 0, 1) := by decide +kernel
theorem dX7_many_147 : decode cX7_many 147 = .ok (.iaload, 1) := by decide +kernel
theorem dX7_many_148 : decode cX7_many 148 = .ok (.ireturn, 1) := by decide +kernel
theorem dX7_many_149 : decode cX7_many 149 = .ok (.iconst 0, 1) := by decide +kernel
theorem dX7_many_150 : decode cX7_many 150 = .ok (.istore_n 3, 1) := by decide +kernel
theorem dX7_many_151 : decode cX7_many 151 = .ok (.iload_n 3, 1) := by decide +kernel
theorem dX7_many_152 : decode cX7_many 152 = .ok (.aload_n 0, 1) := by decide +kernel
theorem dX7_many_153 : decode cX7_many 153 = .ok (.getfield 7, 3) := by decide +kernel
theorem dX7_many_156 : decode cX7_many 156 = .ok (.iconst 1, 1) := by decide +kernel
theorem dX7_many_157 : decode cX7_many 157 = .ok (.iaload, 1) := by decide +kernel
theorem dX7_many_158 : decode cX7_many 158 = .ok (.if_icmp .ge 30, 3) := by decide +kernel
theorem dX7_many_161 : decode cX7_many 161 = .ok (.iload_n 2, 1) := by decide +kernel
theorem dX7_many_162 : decode cX7_many 162 = .ok (.aload_n 0, 1) := by decide +kernel
theorem dX7_many_163 : decode cX7_many 163 = .ok (.iload_n 3, 1) := by decide +kernel
theorem dX7_many_164 : decode cX7_many 164 = .ok (.iconst 5, 1) := by decide +kernel
theorem dX7_many_165 : decode cX7_many 165 = .ok (.invokevirtual 68, 3) := by decide +kernel
theorem dX7_many_168 : decode cX7_many 168 = .ok (.iload_n 1, 1) := by decide +kernel
theorem dX7_many_169 : decode cX7_many 169 = .ok (.bipush 8, 2) := by decide +kernel
theorem dX7_many_171 : decode cX7_many 171 = .ok (.isub, 1) := by decide +kernel
theorem dX7_many_172 : decode cX7_many 172 = .ok (.if_icmp .ne 7, 3) := by decide +kernel
theorem dX7_many_175 : decode cX7_many 175 = .ok (.iconst 1, 1) := by decide +kernel
theorem dX7_many_176 : decode cX7_many 176 = .ok (.goto 4, 3) := by decide +kernel
theorem dX7_many_179 : decode cX7_many 179 = .ok (.iconst 0, 1) := by decide +kernel
theorem dX7_many_180 : decode cX7_many 180 = .ok (.iadd, 1) := by decide +kernel
theorem dX7_many_181 : decode cX7_many 181 = .ok (.istore_n 2, 1) := by decide +kernel
theorem dX7_many_182 : decode cX7_many 182 = .ok (.iinc 3 1, 3) := by decide +kernel
theorem dX7_many_185 : decode cX7_many 185 = .ok (.goto (-34), 3) := by decide +kernel
theorem dX7_many_188 : decode cX7_many 188 = .ok (.iload_n 2, 1) := by decide +kernel
theorem dX7_many_189 : decode cX7_many 189 = .ok (.ireturn, 1) := by decide +kernel
theorem dX7_many_190 : decode cX7_many 190 = .ok (.iconst 0, 1) := by decide +kernel
theorem dX7_many_191 : decode cX7_many 191 = .ok (.istore_n 3, 1) := by decide +kernel
theorem dX7_many_192 : decode cX7_many 192 = .ok (.iload_n 3, 1) := by decide +kernel
theorem dX7_many_193 : decode cX7_many 193 = .ok (.aload_n 0, 1) := by decide +kernel
theorem dX7_many_194 : decode cX7_many 194 = .ok (.getfield 7, 3) := by decide +kernel
theorem dX7_many_197 : decode cX7_many 197 = .ok (.iconst 1, 1) := by decide +kernel
theorem dX7_many_198 : decode cX7_many 198 = .ok (.iaload, 1) := by decide +kernel
theorem dX7_many_199 : decode cX7_many 199 = .ok (.if_icmp .ge 33, 3) := by decide +kernel
theorem dX7_many_202 : decode cX7_many 202 = .ok (.iload_n 2, 1) := by decide +kernel
theorem dX7_many_203 : decode cX7_many 203 = .ok (.aload_n 0, 1) := by decide +kernel
theorem dX7_many_204 : decode cX7_many 204 = .ok (.iload_n 3, 1) := by decide +kernel
theorem dX7_many_205 : decode cX7_many 205 = .ok (.bipush 6, 2) := by decide +kernel
theorem dX7_many_207 : decode cX7_many 207 = .ok (.invokevirtual 68, 3) := by decide +kernel
theorem dX7_many_210 : decode cX7_many 210 = .ok (.ifCond .ge 7, 3) := by decide +kernel
theorem dX7_many_213 : decode cX7_many 213 = .ok (.iconst 0, 1) := by decide +kernel
theorem dX7_many_214 : decode cX7_many 214 = .ok (.goto 10, 3) := by decide +kernel
theorem dX7_many_217 : decode cX7_many 217 = .ok (.aload_n 0, 1) := by decide +kernel
theorem dX7_many_218 : decode cX7_many 218 = .ok (.iload_n 3, 1) := by decide +kernel
theorem dX7_many_219 : decode cX7_many 219 = .ok (.bipush 6, 2) := by decide +kernel
theorem dX7_many_221 : decode cX7_many 221 = .ok (.invokevirtual 68, 3) := by decide +kernel
theorem dX7_many_224 : decode cX7_many 224 = .ok (.iadd, 1) := by decide +kernel
theorem dX7_many_225 : decode cX7_many 225 = .ok (.istore_n 2, 1) := by decide +kernel
theorem dX7_many_226 : decode cX7_many 226 = .ok (.iinc 3 1, 3) := by decide +kernel
theorem dX7_many_229 : decode cX7_many 229 = .ok (.goto (-37), 3) := by decide +kernel
theorem dX7_many_232 : decode cX7_many 232 = .ok (.iload_n 2, 1) := by decide +kernel
theorem dX7_many_233 : decode cX7_many 233 = .ok (.ireturn, 1) := by decide +kernel
theorem dX7_many_234 : decode cX7_many 234 = .ok (.iconst (-1), 1) := by decide +kernel
theorem dX7_many_235 : decode cX7_many 235 = .ok (.ireturn, 1) := by decide +kernel
theorem dX7_move_0 : decode cX7_move 0 = .ok (.iconst 0, 1) := by decide +kernel
theorem dX7_move_1 : decode cX7_move 1 = .ok (.istore 4, 2) := by decide +kernel
theorem dX7_move_3 : decode cX7_move 3 = .ok (.iload 4, 2) := by decide +kernel
theorem dX7_move_5 : decode cX7_move 5 = .ok (.iload_n 2, 1) := by decide +kernel
theorem dX7_move_6 : decode cX7_move 6 = .ok (.if_icmp .ge 52, 3) := by decide +kernel
theorem dX7_move_9 : decode cX7_move 9 = .ok (.iload_n 3, 1) := by decide +kernel
theorem dX7_move_10 : decode cX7_move 10 = .ok (.ifCond .eq 19, 3) := by decide +kernel
theorem dX7_move_13 : decode cX7_move 13 = .ok (.aload_n 0, 1) := by decide +kernel
theorem dX7_move_14 : decode cX7_move 14 = .ok (.getfield 61, 3) := by decide +kernel
theorem dX7_move_17 : decode cX7_move 17 = .ok (.aload_n 0, 1) := by decide +kernel
theorem dX7_move_18 : decode cX7_move 18 = .ok (.getfield 205, 3) := by decide +kernel
theorem dX7_move_21 : decode cX7_move 21 = .ok (.aload_n 1, 1) := by decide +kernel
theorem dX7_move_22 : decode cX7_move 22 = .ok (.iload 4, 2) := by decide +kernel
theorem dX7_move_24 : decode cX7_move 24 = .ok (.iaload, 1) := by decide +kernel
theorem dX7_move_25 : decode cX7_move 25 = .ok (.iastore, 1) := by decide +kernel
theorem dX7_move_26 : decode cX7_move 26 = .ok (.goto 16, 3) := by decide +kernel
theorem dX7_move_29 : decode cX7_move 29 = .ok (.aload_n 1, 1) := by decide +kernel
theorem dX7_move_30 : decode cX7_move 30 = .ok (.iload 4, 2) := by decide +kernel
theorem dX7_move_32 : decode cX7_move 32 = .ok (.aload_n 0, 1) := by decide +kernel
theorem dX7_move_33 : decode cX7_move 33 = .ok (.getfield 61, 3) := by decide +kernel
theorem dX7_move_36 : decode cX7_move 36 = .ok (.aload_n 0, 1) := by decide +kernel
theorem dX7_move_37 : decode cX7_move 37 = .ok (.getfield 205, 3) := by decide +kernel
theorem dX7_move_40 : decode cX7_move 40 = .ok (.iaload, 1) := by decide +kernel
theorem dX7_move_41 : decode cX7_move 41 = .ok (.iastore, 1) := by decide +kernel
theorem dX7_move_42 : decode cX7_move 42 = .ok (.aload_n 0, 1) := by decide +kernel
theorem dX7_move_43 : decode cX7_move 43 = .ok (.dup, 1) := by decide +kernel
theorem dX7_move_44 : decode cX7_move 44 = .ok (.getfield 205, 3) := by decide +kernel
theorem dX7_move_47 : decode cX7_move 47 = .ok (.iconst 1, 1) := by decide +kernel
theorem dX7_move_48 : decode cX7_move 48 = .ok (.iadd, 1) := by decide +kernel
theorem dX7_move_49 : decode cX7_move 49 = .ok (.putfield 205, 3) := by decide +kernel
theorem dX7_move_52 : decode cX7_move 52 = .ok (.iinc 4 1, 3) := by decide +kernel
theorem dX7_move_55 : decode cX7_move 55 = .ok (.goto (-52), 3) := by decide +kernel
theorem dX7_move_58 : decode cX7_move 58 = .ok (.return_, 1) := by decide +kernel
set_option maxRecDepth 20000 in
theorem ggX7_moveAll_X7_move : GoodIn wsX7_moveAll wsX7_move := goodIn_r _ [15, 16, 1, 17, 18, 19, 20, 21, 22, 23, 24, 25, 26, 27, 28, 29, 30, 31, 32, 33, 34, 35, 36, 37, 38, 39, 40, 41, 42, 43, 44] (by decide +kernel) (by decide +kernel)
set_option maxRecDepth 20000 in
theorem gX7_moveAll_X7_move : GoodIn wsX7_moveAll (wsV RX7 208 RX7 yX7_move wsX7_move) := goodIn_app (goodIn_of _ (by decide +kernel)) ggX7_moveAll_X7_move
theorem dX7_moveAll_0 : decode cX7_moveAll 0 = .ok (.aload_n 0, 1) := by decide +kernel
theorem dX7_moveAll_1 : decode cX7_moveAll 1 = .ok (.iconst 0, 1) := by decide +kernel
theorem dX7_moveAll_2 : decode cX7_moveAll 2 = .ok (.putfield 205, 3) := by decide +kernel
theorem dX7_moveAll_5 : decode cX7_moveAll 5 = .ok (.aload_n 0, 1) := by decide +kernel
theorem dX7_moveAll_6 : decode cX7_moveAll 6 = .ok (.aload_n 0, 1) := by decide +kernel
theorem dX7_moveAll_7 : decode cX7_moveAll 7 = .ok (.getfield 7, 3) := by decide +kernel
theorem dX7_moveAll_10 : decode cX7_moveAll 10 = .ok (.bipush 10, 2) := by decide +kernel
theorem dX7_moveAll_12 : decode cX7_moveAll 12 = .ok (.iload_n 1, 1) := by decide +kernel
theorem dX7_moveAll_13 : decode cX7_moveAll 13 = .ok (.invokevirtual 208, 3) := by decide +kernel
theorem dX7_moveAll_16 : decode cX7_moveAll 16 = .ok (.aload_n 0, 1) := by decide +kernel
theorem dX7_moveAll_17 : decode cX7_moveAll 17 = .ok (.aload_n 0, 1) := by decide +kernel
theorem dX7_moveAll_18 : decode cX7_moveAll 18 = .ok (.getfield 13, 3) := by decide +kernel
theorem dX7_moveAll_21 : decode cX7_moveAll 21 = .ok (.sipush 216, 3) := by decide +kernel
theorem dX7_moveAll_24 : decode cX7_moveAll 24 = .ok (.iload_n 1, 1) := by decide +kernel
theorem dX7_moveAll_25 : decode cX7_moveAll 25 = .ok (.invokevirtual 208, 3) := by decide +kernel
theorem dX7_moveAll_28 : decode cX7_moveAll 28 = .ok (.aload_n 0, 1) := by decide +kernel
theorem dX7_moveAll_29 : decode cX7_moveAll 29 = .ok (.aload_n 0, 1) := by decide +kernel
theorem dX7_moveAll_30 : decode cX7_moveAll 30 = .ok (.getfield 16, 3) := by decide +kernel
theorem dX7_moveAll_33 : decode cX7_moveAll 33 = .ok (.sipush 300, 3) := by decide +kernel
theorem dX7_moveAll_36 : decode cX7_moveAll 36 = .ok (.iload_n 1, 1) := by decide +kernel
theorem dX7_moveAll_37 : decode cX7_moveAll 37 = .ok (.invokevirtual 208, 3) := by decide +kernel
theorem dX7_moveAll_40 : decode cX7_moveAll 40 = .ok (.aload_n 0, 1) := by decide +kernel
theorem dX7_moveAll_41 : decode cX7_moveAll 41 = .ok (.aload_n 0, 1) := by decide +kernel
theorem dX7_moveAll_42 : decode cX7_moveAll 42 = .ok (.getfield 19, 3) := by decide +kernel
theorem dX7_moveAll_45 : decode cX7_moveAll 45 = .ok (.bipush 60, 2) := by decide +kernel
theorem dX7_moveAll_47 : decode cX7_moveAll 47 = .ok (.iload_n 1, 1) := by decide +kernel
theorem dX7_moveAll_48 : decode cX7_moveAll 48 = .ok (.invokevirtual 208, 3) := by decide +kernel
theorem dX7_moveAll_51 : decode cX7_moveAll 51 = .ok (.aload_n 0, 1) := by decide +kernel
theorem dX7_moveAll_52 : decode cX7_moveAll 52 = .ok (.aload_n 0, 1) := by decide +kernel
theorem dX7_moveAll_53 : decode cX7_moveAll 53 = .ok (.getfield 22, 3) := by decide +kernel
theorem dX7_moveAll_56 : decode cX7_moveAll 56 = .ok (.bipush 50, 2) := by decide +kernel
theorem dX7_moveAll_58 : decode cX7_moveAll 58 = .ok (.iload_n 1, 1) := by decide +kernel
theorem dX7_moveAll_59 : decode cX7_moveAll 59 = .ok (.invokevirtual 208, 3) := by decide +kernel
theorem dX7_moveAll_62 : decode cX7_moveAll 62 = .ok (.aload_n 0, 1) := by decide +kernel
theorem dX7_moveAll_63 : decode cX7_moveAll 63 = .ok (.aload_n 0, 1) := by decide +kernel
theorem dX7_moveAll_64 : decode cX7_moveAll 64 = .ok (.getfield 25, 3) := by decide +kernel
theorem dX7_moveAll_67 : decode cX7_moveAll 67 = .ok (.bipush 70, 2) := by decide +kernel
theorem dX7_moveAll_69 : decode cX7_moveAll 69 = .ok (.iload_n 1, 1) := by decide +kernel
theorem dX7_moveAll_70 : decode cX7_moveAll 70 = .ok (.invokevirtual 208, 3) := by decide +kernel
theorem dX7_moveAll_73 : decode cX7_moveAll 73 = .ok (.aload_n 0, 1) := by decide +kernel
theorem dX7_moveAll_74 : decode cX7_moveAll 74 = .ok (.aload_n 0, 1) := by decide +kernel
theorem dX7_moveAll_75 : decode cX7_moveAll 75 = .ok (.getfield 28, 3) := by decide +kernel
theorem dX7_moveAll_78 : decode cX7_moveAll 78 = .ok (.bipush 16, 2) := by decide +kernel
theorem dX7_moveAll_80 : decode cX7_moveAll 80 = .ok (.iload_n 1, 1) := by decide +kernel
theorem dX7_moveAll_81 : decode cX7_moveAll 81 = .ok (.invokevirtual 208, 3) := by decide +kernel
theorem dX7_moveAll_84 : decode cX7_moveAll 84 = .ok (.aload_n 0, 1) := by decide +kernel
theorem dX7_moveAll_85 : decode cX7_moveAll 85 = .ok (.aload_n 0, 1) := by decide +kernel
theorem dX7_moveAll_86 : decode cX7_moveAll 86 = .ok (.getfield 31, 3) := by decide +kernel
theorem dX7_moveAll_89 : decode cX7_moveAll 89 = .ok (.bipush 68, 2) := by decide +kernel
theorem dX7_moveAll_91 : decode cX7_moveAll 91 = .ok (.iload_n 1, 1) := by decide +kernel
theorem dX7_moveAll_92 : decode cX7_moveAll 92 = .ok (.invokevirtual 208, 3) := by decide +kernel
theorem dX7_moveAll_95 : decode cX7_moveAll 95 = .ok (.aload_n 0, 1) := by decide +kernel
theorem dX7_moveAll_96 : decode cX7_moveAll 96 = .ok (.aload_n 0, 1) := by decide +kernel
theorem dX7_moveAll_97 : decode cX7_moveAll 97 = .ok (.getfield 34, 3) := by decide +kernel
theorem dX7_moveAll_100 : decode cX7_moveAll 100 = .ok (.sipush 240, 3) := by decide +kernel
theorem dX7_moveAll_103 : decode cX7_moveAll 103 = .ok (.iload_n 1, 1) := by decide +kernel
theorem dX7_moveAll_104 : decode cX7_moveAll 104 = .ok (.invokevirtual 208, 3) := by decide +kernel
theorem dX7_moveAll_107 : decode cX7_moveAll 107 = .ok (.return_, 1) := by decide +kernel
set_option maxRecDepth 20000 in
theorem ggX7_keep_X7_moveAll : GoodIn wsX7_keep wsX7_moveAll := goodIn_r _ [6, 7, 8, 9, 10, 11, 12, 13, 14, 15, 16, 17, 18, 19, 5, 20, 21, 22, 23, 24, 25, 26, 27, 28, 29, 30, 31, 32, 33, 34, 35, 36, 37, 38, 39, 40, 41, 42, 43, 44, 45, 46, 47, 48, 49] (by decide +kernel) (by decide +kernel)
set_option maxRecDepth 20000 in
theorem gX7_keep_X7_moveAll : GoodIn wsX7_keep (wsV RX7 212 RX7 yX7_moveAll wsX7_moveAll) := goodIn_app (goodIn_of _ (by decide +kernel)) ggX7_keep_X7_moveAll
theorem dX7_keep_0 : decode cX7_keep 0 = .ok (.aload_n 0, 1) := by decide +kernel
theorem dX7_keep_1 : decode cX7_keep 1 = .ok (.iconst 1, 1) := by decide +kernel
theorem dX7_keep_2 : decode cX7_keep 2 = .ok (.invokevirtual 212, 3) := by decide +kernel
theorem dX7_keep_5 : decode cX7_keep 5 = .ok (.aload_n 0, 1) := by decide +kernel
theorem dX7_keep_6 : decode cX7_keep 6 = .ok (.iconst 1, 1) := by decide +kernel
theorem dX7_keep_7 : decode cX7_keep 7 = .ok (.putfield 216, 3) := by decide +kernel
theorem dX7_keep_10 : decode cX7_keep 10 = .ok (.iconst 1, 1) := by decide +kernel
theorem dX7_keep_11 : decode cX7_keep 11 = .ok (.ireturn, 1) := by decide +kernel
set_option maxRecDepth 20000 in
theorem ggX7_back_X7_moveAll : GoodIn wsX7_back wsX7_moveAll := goodIn_r _ [6, 7, 8, 9, 10, 11, 12, 13, 14, 15, 16, 17, 18, 19, 5, 20, 21, 22, 23, 24, 25, 26, 27, 28, 29, 30, 31, 32, 33, 34, 35, 36, 37, 38, 39, 40, 41, 42, 43, 44, 45, 46, 47, 48, 49] (by decide +kernel) (by decide +kernel)
set_option maxRecDepth 20000 in
theorem gX7_back_X7_moveAll : GoodIn wsX7_back (wsV RX7 212 RX7 yX7_moveAll wsX7_moveAll) := goodIn_app (goodIn_of _ (by decide +kernel)) ggX7_back_X7_moveAll
theorem dX7_back_0 : decode cX7_back 0 = .ok (.aload_n 0, 1) := by decide +kernel
theorem dX7_back_1 : decode cX7_back 1 = .ok (.getfield 216, 3) := by decide +kernel
theorem dX7_back_4 : decode cX7_back 4 = .ok (.ifCond .ne 6, 3) := by decide +kernel
theorem dX7_back_7 : decode cX7_back 7 = .ok (.bipush (-3), 2) := by decide +kernel
theorem dX7_back_9 : decode cX7_back 9 = .ok (.ireturn, 1) := by decide +kernel
theorem dX7_back_10 : decode cX7_back 10 = .ok (.aload_n 0, 1) := by decide +kernel
theorem dX7_back_11 : decode cX7_back 11 = .ok (.iconst 0, 1) := by decide +kernel
theorem dX7_back_12 : decode cX7_back 12 = .ok (.invokevirtual 212, 3) := by decide +kernel
theorem dX7_back_15 : decode cX7_back 15 = .ok (.iconst 1, 1) := by decide +kernel
theorem dX7_back_16 : decode cX7_back 16 = .ok (.ireturn, 1) := by decide +kernel
theorem dJ9_abs_0f7a4_0 : decode cJ9_abs_0f7a4 0 = .ok (.iload_n 0, 1) := by decide +kernel
theorem dJ9_abs_0f7a4_1 : decode cJ9_abs_0f7a4 1 = .ok (.ifCond .ge 8, 3) := by decide +kernel
theorem dJ9_abs_0f7a4_4 : decode cJ9_abs_0f7a4 4 = .ok (.iload_n 0, 1) := by decide +kernel
theorem dJ9_abs_0f7a4_5 : decode cJ9_abs_0f7a4 5 = .ok (.ineg, 1) := by decide +kernel
theorem dJ9_abs_0f7a4_6 : decode cJ9_abs_0f7a4 6 = .ok (.goto 4, 3) := by decide +kernel
theorem dJ9_abs_0f7a4_9 : decode cJ9_abs_0f7a4 9 = .ok (.iload_n 0, 1) := by decide +kernel
theorem dJ9_abs_0f7a4_10 : decode cJ9_abs_0f7a4 10 = .ok (.ireturn, 1) := by decide +kernel
theorem dJ9_max_7cf53_0 : decode cJ9_max_7cf53 0 = .ok (.iload_n 0, 1) := by decide +kernel
theorem dJ9_max_7cf53_1 : decode cJ9_max_7cf53 1 = .ok (.iload_n 1, 1) := by decide +kernel
theorem dJ9_max_7cf53_2 : decode cJ9_max_7cf53 2 = .ok (.if_icmp .lt 7, 3) := by decide +kernel
theorem dJ9_max_7cf53_5 : decode cJ9_max_7cf53 5 = .ok (.iload_n 0, 1) := by decide +kernel
theorem dJ9_max_7cf53_6 : decode cJ9_max_7cf53 6 = .ok (.goto 4, 3) := by decide +kernel
theorem dJ9_max_7cf53_9 : decode cJ9_max_7cf53 9 = .ok (.iload_n 1, 1) := by decide +kernel
theorem dJ9_max_7cf53_10 : decode cJ9_max_7cf53 10 = .ok (.ireturn, 1) := by decide +kernel
theorem dJ9_min_7cf53_0 : decode cJ9_min_7cf53 0 = .ok (.iload_n 0, 1) := by decide +kernel
theorem dJ9_min_7cf53_1 : decode cJ9_min_7cf53 1 = .ok (.iload_n 1, 1) := by decide +kernel
theorem dJ9_min_7cf53_2 : decode cJ9_min_7cf53 2 = .ok (.if_icmp .gt 7, 3) := by decide +kernel
theorem dJ9_min_7cf53_5 : decode cJ9_min_7cf53 5 = .ok (.iload_n 0, 1) := by decide +kernel
theorem dJ9_min_7cf53_6 : decode cJ9_min_7cf53 6 = .ok (.goto 4, 3) := by decide +kernel
