theorem dX0_init_0 : decode cX0_init 0 = .ok (.aload_n 0, 1) := by decide +kernel
theorem dX0_init_1 : decode cX0_init 1 = .ok (.invokespecial 3, 3) := by decide +kernel
theorem dX0_init_4 : decode cX0_init 4 = .ok (.aload_n 0, 1) := by decide +kernel
theorem dX0_init_5 : decode cX0_init 5 = .ok (.new 9, 3) := by decide +kernel
theorem dX0_init_8 : decode cX0_init 8 = .ok (.dup, 1) := by decide +kernel
theorem dX0_init_9 : decode cX0_init 9 = .ok (.bipush 24, 2) := by decide +kernel
theorem dX0_init_11 : decode cX0_init 11 = .ok (.bipush 9, 2) := by decide +kernel
theorem dX0_init_13 : decode cX0_init 13 = .ok (.invokespecial 11, 3) := by decide +kernel
theorem dX0_init_16 : decode cX0_init 16 = .ok (.putfield 14, 3) := by decide +kernel
theorem dX0_init_19 : decode cX0_init 19 = .ok (.aload_n 0, 1) := by decide +kernel
theorem dX0_init_20 : decode cX0_init 20 = .ok (.new 9, 3) := by decide +kernel
theorem dX0_init_23 : decode cX0_init 23 = .ok (.dup, 1) := by decide +kernel
theorem dX0_init_24 : decode cX0_init 24 = .ok (.bipush 60, 2) := by decide +kernel
theorem dX0_init_26 : decode cX0_init 26 = .ok (.iconst 5, 1) := by decide +kernel
theorem dX0_init_27 : decode cX0_init 27 = .ok (.invokespecial 11, 3) := by decide +kernel
theorem dX0_init_30 : decode cX0_init 30 = .ok (.putfield 20, 3) := by decide +kernel
theorem dX0_init_33 : decode cX0_init 33 = .ok (.aload_n 0, 1) := by decide +kernel
theorem dX0_init_34 : decode cX0_init 34 = .ok (.new 9, 3) := by decide +kernel
theorem dX0_init_37 : decode cX0_init 37 = .ok (.dup, 1) := by decide +kernel
theorem dX0_init_38 : decode cX0_init 38 = .ok (.bipush 30, 2) := by decide +kernel
theorem dX0_init_40 : decode cX0_init 40 = .ok (.iconst 2, 1) := by decide +kernel
theorem dX0_init_41 : decode cX0_init 41 = .ok (.invokespecial 11, 3) := by decide +kernel
theorem dX0_init_44 : decode cX0_init 44 = .ok (.putfield 23, 3) := by decide +kernel
theorem dX0_init_47 : decode cX0_init 47 = .ok (.aload_n 0, 1) := by decide +kernel
theorem dX0_init_48 : decode cX0_init 48 = .ok (.new 9, 3) := by decide +kernel
theorem dX0_init_51 : decode cX0_init 51 = .ok (.dup, 1) := by decide +kernel
theorem dX0_init_52 : decode cX0_init 52 = .ok (.bipush 10, 2) := by decide +kernel
theorem dX0_init_54 : decode cX0_init 54 = .ok (.iconst 5, 1) := by decide +kernel
theorem dX0_init_55 : decode cX0_init 55 = .ok (.invokespecial 11, 3) := by decide +kernel
theorem dX0_init_58 : decode cX0_init 58 = .ok (.putfield 26, 3) := by decide +kernel
theorem dX0_init_61 : decode cX0_init 61 = .ok (.aload_n 0, 1) := by decide +kernel
theorem dX0_init_62 : decode cX0_init 62 = .ok (.new 9, 3) := by decide +kernel
theorem dX0_init_65 : decode cX0_init 65 = .ok (.dup, 1) := by decide +kernel
theorem dX0_init_66 : decode cX0_init 66 = .ok (.bipush 7, 2) := by decide +kernel
theorem dX0_init_68 : decode cX0_init 68 = .ok (.iconst 5, 1) := by decide +kernel
theorem dX0_init_69 : decode cX0_init 69 = .ok (.invokespecial 11, 3) := by decide +kernel
theorem dX0_init_72 : decode cX0_init 72 = .ok (.putfield 29, 3) := by decide +kernel
theorem dX0_init_75 : decode cX0_init 75 = .ok (.aload_n 0, 1) := by decide +kernel
theorem dX0_init_76 : decode cX0_init 76 = .ok (.new 9, 3) := by decide +kernel
theorem dX0_init_79 : decode cX0_init 79 = .ok (.dup, 1) := by decide +kernel
theorem dX0_init_80 : decode cX0_init 80 = .ok (.bipush 7, 2) := by decide +kernel
theorem dX0_init_82 : decode cX0_init 82 = .ok (.iconst 5, 1) := by decide +kernel
theorem dX0_init_83 : decode cX0_init 83 = .ok (.invokespecial 11, 3) := by decide +kernel
theorem dX0_init_86 : decode cX0_init 86 = .ok (.putfield 32, 3) := by decide +kernel
theorem dX0_init_89 : decode cX0_init 89 = .ok (.aload_n 0, 1) := by decide +kernel
theorem dX0_init_90 : decode cX0_init 90 = .ok (.new 9, 3) := by decide +kernel
theorem dX0_init_93 : decode cX0_init 93 = .ok (.dup, 1) := by decide +kernel
theorem dX0_init_94 : decode cX0_init 94 = .ok (.iconst 4, 1) := by decide +kernel
theorem dX0_init_95 : decode cX0_init 95 = .ok (.iconst 4, 1) := by decide +kernel
theorem dX0_init_96 : decode cX0_init 96 = .ok (.invokespecial 11, 3) := by decide +kernel
theorem dX0_init_99 : decode cX0_init 99 = .ok (.putfield 35, 3) := by decide +kernel
theorem dX0_init_102 : decode cX0_init 102 = .ok (.aload_n 0, 1) := by decide +kernel
theorem dX0_init_103 : decode cX0_init 103 = .ok (.new 9, 3) := by decide +kernel
theorem dX0_init_106 : decode cX0_init 106 = .ok (.dup, 1) := by decide +kernel
theorem dX0_init_107 : decode cX0_init 107 = .ok (.iconst 3, 1) := by decide +kernel
theorem dX0_init_108 : decode cX0_init 108 = .ok (.bipush 17, 2) := by decide +kernel
theorem dX0_init_110 : decode cX0_init 110 = .ok (.invokespecial 11, 3) := by decide +kernel
theorem dX0_init_113 : decode cX0_init 113 = .ok (.putfield 38, 3) := by decide +kernel
theorem dX0_init_116 : decode cX0_init 116 = .ok (.aload_n 0, 1) := by decide +kernel
theorem dX0_init_117 : decode cX0_init 117 = .ok (.new 9, 3) := by decide +kernel
theorem dX0_init_120 : decode cX0_init 120 = .ok (.dup, 1) := by decide +kernel
theorem dX0_init_121 : decode cX0_init 121 = .ok (.bipush 40, 2) := by decide +kernel
theorem dX0_init_123 : decode cX0_init 123 = .ok (.bipush 6, 2) := by decide +kernel
theorem dX0_init_125 : decode cX0_init 125 = .ok (.invokespecial 11, 3) := by decide +kernel
theorem dX0_init_128 : decode cX0_init 128 = .ok (.putfield 41, 3) := by decide +kernel
theorem dX0_init_131 : decode cX0_init 131 = .ok (.aload_n 0, 1) := by decide +kernel
theorem dX0_init_132 : decode cX0_init 132 = .ok (.getfield 23, 3) := by decide +kernel
theorem dX0_init_135 : decode cX0_init 135 = .ok (.invokevirtual 44, 3) := by decide +kernel
theorem dX0_init_138 : decode cX0_init 138 = .ok (.aload_n 0, 1) := by decide +kernel
theorem dX0_init_139 : decode cX0_init 139 = .ok (.getfield 35, 3) := by decide +kernel
theorem dX0_init_142 : decode cX0_init 142 = .ok (.invokevirtual 44, 3) := by decide +kernel
theorem dX0_init_145 : decode cX0_init 145 = .ok (.aload_n 0, 1) := by decide +kernel
theorem dX0_init_146 : decode cX0_init 146 = .ok (.getfield 38, 3) := by decide +kernel
theorem dX0_init_149 : decode cX0_init 149 = .ok (.invokevirtual 44, 3) := by decide +kernel
theorem dX0_init_152 : decode cX0_init 152 = .ok (.aload_n 0, 1) := by decide +kernel
theorem dX0_init_153 : decode cX0_init 153 = .ok (.iconst 0, 1) := by decide +kernel
theorem dX0_init_154 : decode cX0_init 154 = .ok (.putfield 47, 3) := by decide +kernel
theorem dX0_init_157 : decode cX0_init 157 = .ok (.aload_n 0, 1) := by decide +kernel
theorem dX0_init_158 : decode cX0_init 158 = .ok (.bipush 100, 2) := by decide +kernel
theorem dX0_init_160 : decode cX0_init 160 = .ok (.putfield 51, 3) := by decide +kernel
theorem dX0_init_163 : decode cX0_init 163 = .ok (.aload_n 0, 1) := by decide +kernel
theorem dX0_init_164 : decode cX0_init 164 = .ok (.iconst 5, 1) := by decide +kernel
theorem dX0_init_165 : decode cX0_init 165 = .ok (.putfield 54, 3) := by decide +kernel
theorem dX0_init_168 : decode cX0_init 168 = .ok (.aload_n 0, 1) := by decide +kernel
theorem dX0_init_169 : decode cX0_init 169 = .ok (.iconst 2, 1) := by decide +kernel
theorem dX0_init_170 : decode cX0_init 170 = .ok (.putfield 57, 3) := by decide +kernel
theorem dX0_init_173 : decode cX0_init 173 = .ok (.return_, 1) := by decide +kernel
set_option maxRecDepth 20000 in
theorem ggX0_become_X4_become : GoodIn wsX0_become wsX4_become := goodIn_r _ [18, 19, 20, 21, 22, 23, 24, 25, 26, 27, 28, 29, 43, 44, 45, 46] (by decide +kernel) (by decide +kernel)
set_option maxRecDepth 20000 in
theorem gX0_become_X4_become : GoodIn wsX0_become (wsV RX0 60 RX4 yX4_become wsX4_become) := goodIn_app (goodIn_of _ (by decide +kernel)) ggX0_become_X4_become
theorem dX0_become_0 : decode cX0_become 0 = .ok (.aload_n 0, 1) := by decide +kernel
theorem dX0_become_1 : decode cX0_become 1 = .ok (.getfield 14, 3) := by decide +kernel
theorem dX0_become_4 : decode cX0_become 4 = .ok (.aload_n 1, 1) := by decide +kernel
theorem dX0_become_5 : decode cX0_become 5 = .ok (.getfield 14, 3) := by decide +kernel
theorem dX0_become_8 : decode cX0_become 8 = .ok (.invokevirtual 60, 3) := by decide +kernel
theorem dX0_become_11 : decode cX0_become 11 = .ok (.aload_n 0, 1) := by decide +kernel
theorem dX0_become_12 : decode cX0_become 12 = .ok (.getfield 20, 3) := by decide +kernel
theorem dX0_become_15 : decode cX0_become 15 = .ok (.aload_n 1, 1) := by decide +kernel
theorem dX0_become_16 : decode cX0_become 16 = .ok (.getfield 20, 3) := by decide +kernel
theorem dX0_become_19 : decode cX0_become 19 = .ok (.invokevirtual 60, 3) := by decide +kernel
theorem dX0_become_22 : decode cX0_become 22 = .ok (.aload_n 0, 1) := by decide +kernel
theorem dX0_become_23 : decode cX0_become 23 = .ok (.getfield 23, 3) := by decide +kernel
theorem dX0_become_26 : decode cX0_become 26 = .ok (.aload_n 1, 1) := by decide +kernel
theorem dX0_become_27 : decode cX0_become 27 = .ok (.getfield 23, 3) := by decide +kernel
theorem dX0_become_30 : decode cX0_become 30 = .ok (.invokevirtual 60, 3) := by decide +kernel
theorem dX0_become_33 : decode cX0_become 33 = .ok (.aload_n 0, 1) := by decide +kernel
theorem dX0_become_34 : decode cX0_become 34 = .ok (.getfield 26, 3) := by decide +kernel
theorem dX0_become_37 : decode cX0_become 37 = .ok (.aload_n 1, 1) := by decide +kernel
theorem dX0_become_38 : decode cX0_become 38 = .ok (.getfield 26, 3) := by decide +kernel
theorem dX0_become_41 : decode cX0_become 41 = .ok (.invokevirtual 60, 3) := by decide +kernel
theorem dX0_become_44 : decode cX0_become 44 = .ok (.aload_n 0, 1) := by decide +kernel
theorem dX0_become_45 : decode cX0_become 45 = .ok (.getfield 29, 3) := by decide +kernel
theorem dX0_become_48 : decode cX0_become 48 = .ok (.aload_n 1, 1) := by decide +kernel
theorem dX0_become_49 : decode cX0_become 49 = .ok (.getfield 29, 3) := by decide +kernel
theorem dX0_become_52 : decode cX0_become 52 = .ok (.invokevirtual 60, 3) := by decide +kernel
theorem dX0_become_55 : decode cX0_become 55 = .ok (.aload_n 0, 1) := by decide +kernel
theorem dX0_become_56 : decode cX0_become 56 = .ok (.getfield 32, 3) := by decide +kernel
theorem dX0_become_59 : decode cX0_become 59 = .ok (.aload_n 1, 1) := by decide +kernel
theorem dX0_become_60 : decode cX0_become 60 = .ok (.getfield 32, 3) := by decide +kernel
theorem dX0_become_63 : decode cX0_become 63 = .ok (.invokevirtual 60, 3) := by decide +kernel
theorem dX0_become_66 : decode cX0_become 66 = .ok (.aload_n 0, 1) := by decide +kernel
theorem dX0_become_67 : decode cX0_become 67 = .ok (.getfield 35, 3) := by decide +kernel
theorem dX0_become_70 : decode cX0_become 70 = .ok (.aload_n 1, 1) := by decide +kernel
theorem dX0_become_71 : decode cX0_become 71 = .ok (.getfield 35, 3) := by decide +kernel
theorem dX0_become_74 : decode cX0_become 74 = .ok (.invokevirtual 60, 3) := by decide +kernel
theorem dX0_become_77 : decode cX0_become 77 = .ok (.aload_n 0, 1) := by decide +kernel
theorem dX0_become_78 : decode cX0_become 78 = .ok (.getfield 38, 3) := by decide +kernel
theorem dX0_become_81 : decode cX0_become 81 = .ok (.aload_n 1, 1) := by decide +kernel
theorem dX0_become_82 : decode cX0_become 82 = .ok (.getfield 38, 3) := by decide +kernel
theorem dX0_become_85 : decode cX0_become 85 = .ok (.invokevirtual 60, 3) := by decide +kernel
theorem dX0_become_88 : decode cX0_become 88 = .ok (.aload_n 0, 1) := by decide +kernel
theorem dX0_become_89 : decode cX0_become 89 = .ok (.getfield 41, 3) := by decide +kernel
theorem dX0_become_92 : decode cX0_become 92 = .ok (.aload_n 1, 1) := by decide +kernel
theorem dX0_become_93 : decode cX0_become 93 = .ok (.getfield 41, 3) := by decide +kernel
theorem dX0_become_96 : decode cX0_become 96 = .ok (.invokevirtual 60, 3) := by decide +kernel
theorem dX0_become_99 : decode cX0_become 99 = .ok (.aload_n 0, 1) := by decide +kernel
theorem dX0_become_100 : decode cX0_become 100 = .ok (.aload_n 1, 1) := by decide +kernel
theorem dX0_become_101 : decode cX0_become 101 = .ok (.getfield 47, 3) := by decide +kernel
theorem dX0_become_104 : decode cX0_become 104 = .ok (.putfield 47, 3) := by decide +kernel
theorem dX0_become_107 : decode cX0_become 107 = .ok (.aload_n 0, 1) := by decide +kernel
theorem dX0_become_108 : decode cX0_become 108 = .ok (.aload_n 1, 1) := by decide +kernel
theorem dX0_become_109 : decode cX0_become 109 = .ok (.getfield 51, 3) := by decide +kernel
theorem dX0_become_112 : decode cX0_become 112 = .ok (.putfield 51, 3) := by decide +kernel
theorem dX0_become_115 : decode cX0_become 115 = .ok (.aload_n 0, 1) := by decide +kernel
theorem dX0_become_116 : decode cX0_become 116 = .ok (.aload_n 1, 1) := by decide +kernel
theorem dX0_become_117 : decode cX0_become 117 = .ok (.getfield 54, 3) := by decide +kernel
theorem dX0_become_120 : decode cX0_become 120 = .ok (.putfield 54, 3) := by decide +kernel
theorem dX0_become_123 : decode cX0_become 123 = .ok (.aload_n 0, 1) := by decide +kernel
theorem dX0_become_124 : decode cX0_become 124 = .ok (.aload_n 1, 1) := by decide +kernel
theorem dX0_become_125 : decode cX0_become 125 = .ok (.getfield 57, 3) := by decide +kernel
theorem dX0_become_128 : decode cX0_become 128 = .ok (.putfield 57, 3) := by decide +kernel
theorem dX0_become_131 : decode cX0_become 131 = .ok (.return_, 1) := by decide +kernel
theorem dX1_init_0 : decode cX1_init 0 = .ok (.aload_n 0, 1) := by decide +kernel
theorem dX1_init_1 : decode cX1_init 1 = .ok (.invokespecial 3, 3) := by decide +kernel
theorem dX1_init_4 : decode cX1_init 4 = .ok (.aload_n 0, 1) := by decide +kernel
theorem dX1_init_5 : decode cX1_init 5 = .ok (.bipush 16, 2) := by decide +kernel
theorem dX1_init_7 : decode cX1_init 7 = .ok (.newarray .int, 2) := by decide +kernel
theorem dX1_init_9 : decode cX1_init 9 = .ok (.putfield 9, 3) := by decide +kernel
theorem dX1_init_12 : decode cX1_init 12 = .ok (.return_, 1) := by decide +kernel
set_option maxRecDepth 20000 in
theorem ggX1_parse_X5_rewind : GoodIn wsX1_parse wsX5_rewind := goodIn_r _ [8, 9, 10, 105, 106, 107, 108] (by decide +kernel) (by decide +kernel)
set_option maxRecDepth 20000 in
theorem gX1_parse_X5_rewind : GoodIn wsX1_parse (wsV RX1 22 RX5 yX5_rewind wsX5_rewind) := goodIn_app (goodIn_of _ (by decide +kernel)) ggX1_parse_X5_rewind
set_option maxRecDepth 20000 in
theorem ggX1_parse_X5_advance : GoodIn wsX1_parse wsX5_advance := goodIn_r _ [14, 10, 15, 16, 9, 17, 18, 7, 19, 20, 21, 22, 23, 24, 25, 26, 105, 106, 107, 108] (by decide +kernel) (by decide +kernel)
set_option maxRecDepth 20000 in
theorem gX1_parse_X5_advance : GoodIn wsX1_parse (wsV RX1 27 RX5 yX5_advance wsX5_advance) := goodIn_app (goodIn_of _ (by decide +kernel)) ggX1_parse_X5_advance
set_option maxRecDepth 20000 in
theorem ggX1_parse_X1_parseClause : GoodIn wsX1_parse wsX1_parseClause := goodIn_r _ [31, 1, 32, 33, 30, 34, 35, 36, 37, 7, 38, 10, 9, 15, 16, 39, 40, 41, 42, 43, 44, 45, 46, 47, 48, 49, 50, 51, 52, 53, 54, 55, 56, 57, 58, 59, 60, 61, 62, 63, 64, 65, 66, 67, 68, 69, 70, 71, 72, 73, 74, 75, 76, 77, 78, 79, 80, 81, 82, 83, 84, 85, 86, 87, 11, 12, 13, 14, 17, 18, 19, 20, 21, 22, 23, 24, 25, 26, 88, 89, 90, 91, 92, 93, 94, 95, 96, 97, 102, 103, 104, 105, 106, 107, 108] (by decide +kernel) (by decide +kernel)
set_option maxRecDepth 20000 in
theorem gX1_parse_X1_parseClause : GoodIn wsX1_parse (wsV RX1 31 RX1 yX1_parseClause wsX1_parseClause) := goodIn_app (goodIn_of _ (by decide +kernel)) ggX1_parse_X1_parseClause
set_option maxRecDepth 20000 in
theorem ggX1_parse_X5_place : GoodIn wsX1_parse wsX5_place := goodIn_r _ [101, 9, 105, 106, 107, 108] (by decide +kernel) (by decide +kernel)
set_option maxRecDepth 20000 in
theorem gX1_parse_X5_place : GoodIn wsX1_parse (wsV RX1 35 RX5 yX5_place wsX5_place) := goodIn_app (goodIn_of _ (by decide +kernel)) ggX1_parse_X5_place
theorem dX1_parse_0 : decode cX1_parse 0 = .ok (.iconst 0, 1) := by decide +kernel
theorem dX1_parse_1 : decode cX1_parse 1 = .ok (.istore_n 2, 1) := by decide +kernel
theorem dX1_parse_2 : decode cX1_parse 2 = .ok (.iload_n 2, 1) := by decide +kernel
theorem dX1_parse_3 : decode cX1_parse 3 = .ok (.bipush 16, 2) := by decide +kernel
theorem dX1_parse_5 : decode cX1_parse 5 = .ok (.if_icmp .ge 17, 3) := by decide +kernel
theorem dX1_parse_8 : decode cX1_parse 8 = .ok (.aload_n 0, 1) := by decide +kernel
theorem dX1_parse_9 : decode cX1_parse 9 = .ok (.getfield 9, 3) := by decide +kernel
theorem dX1_parse_12 : decode cX1_parse 12 = .ok (.iload_n 2, 1) := by decide +kernel
theorem dX1_parse_13 : decode cX1_parse 13 = .ok (.bipush (-3), 2) := by decide +kernel
theorem dX1_parse_15 : decode cX1_parse 15 = .ok (.iastore, 1) := by decide +kernel
theorem dX1_parse_16 : decode cX1_parse 16 = .ok (.iinc 2 1, 3) := by decide +kernel
theorem dX1_parse_19 : decode cX1_parse 19 = .ok (.goto (-17), 3) := by decide +kernel
theorem dX1_parse_22 : decode cX1_parse 22 = .ok (.aload_n 0, 1) := by decide +kernel
theorem dX1_parse_23 : decode cX1_parse 23 = .ok (.iconst 0, 1) := by decide +kernel
theorem dX1_parse_24 : decode cX1_parse 24 = .ok (.putfield 15, 3) := by decide +kernel
theorem dX1_parse_27 : decode cX1_parse 27 = .ok (.aload_n 0, 1) := by decide +kernel
theorem dX1_parse_28 : decode cX1_parse 28 = .ok (.iconst 0, 1) := by decide +kernel
theorem dX1_parse_29 : decode cX1_parse 29 = .ok (.putfield 19, 3) := by decide +kernel
theorem dX1_parse_32 : decode cX1_parse 32 = .ok (.aload_n 1, 1) := by decide +kernel
theorem dX1_parse_33 : decode cX1_parse 33 = .ok (.invokevirtual 22, 3) := by decide +kernel
theorem dX1_parse_36 : decode cX1_parse 36 = .ok (.iconst 0, 1) := by decide +kernel
theorem dX1_parse_37 : decode cX1_parse 37 = .ok (.istore_n 2, 1) := by decide +kernel
theorem dX1_parse_38 : decode cX1_parse 38 = .ok (.iload_n 2, 1) := by decide +kernel
theorem dX1_parse_39 : decode cX1_parse 39 = .ok (.bipush 16, 2) := by decide +kernel
theorem dX1_parse_41 : decode cX1_parse 41 = .ok (.if_icmp .gt 46, 3) := by decide +kernel
theorem dX1_parse_44 : decode cX1_parse 44 = .ok (.aload_n 1, 1) := by decide +kernel
theorem dX1_parse_45 : decode cX1_parse 45 = .ok (.invokevirtual 27, 3) := by decide +kernel
theorem dX1_parse_48 : decode cX1_parse 48 = .ok (.ifCond .ne 5, 3) := by decide +kernel
theorem dX1_parse_51 : decode cX1_parse 51 = .ok (.iconst 1, 1) := by decide +kernel
theorem dX1_parse_52 : decode cX1_parse 52 = .ok (.ireturn, 1) := by decide +kernel
theorem dX1_parse_53 : decode cX1_parse 53 = .ok (.aload_n 0, 1) := by decide +kernel
theorem dX1_parse_54 : decode cX1_parse 54 = .ok (.aload_n 1, 1) := by decide +kernel
theorem dX1_parse_55 : decode cX1_parse 55 = .ok (.invokevirtual 31, 3) := by decide +kernel
theorem dX1_parse_58 : decode cX1_parse 58 = .ok (.ifCond .ne 13, 3) := by decide +kernel
theorem dX1_parse_61 : decode cX1_parse 61 = .ok (.aload_n 0, 1) := by decide +kernel
theorem dX1_parse_62 : decode cX1_parse 62 = .ok (.aload_n 1, 1) := by decide +kernel
theorem dX1_parse_63 : decode cX1_parse 63 = .ok (.invokevirtual 35, 3) := by decide +kernel
theorem dX1_parse_66 : decode cX1_parse 66 = .ok (.putfield 19, 3) := by decide +kernel
theorem dX1_parse_69 : decode cX1_parse 69 = .ok (.iconst 0, 1) := by decide +kernel
theorem dX1_parse_70 : decode cX1_parse 70 = .ok (.ireturn, 1) := by decide +kernel
theorem dX1_parse_71 : decode cX1_parse 71 = .ok (.aload_n 0, 1) := by decide +kernel
theorem dX1_parse_72 : decode cX1_parse 72 = .ok (.dup, 1) := by decide +kernel
theorem dX1_parse_73 : decode cX1_parse 73 = .ok (.getfield 15, 3) := by decide +kernel
theorem dX1_parse_76 : decode cX1_parse 76 = .ok (.iconst 1, 1) := by decide +kernel
theorem dX1_parse_77 : decode cX1_parse 77 = .ok (.iadd, 1) := by decide +kernel
theorem dX1_parse_78 : decode cX1_parse 78 = .ok (.putfield 15, 3) := by decide +kernel
theorem dX1_parse_81 : decode cX1_parse 81 = .ok (.iinc 2 1, 3) := by decide +kernel
theorem dX1_parse_84 : decode cX1_parse 84 = .ok (.goto (-46), 3) := by decide +kernel
theorem dX1_parse_87 : decode cX1_parse 87 = .ok (.iconst 0, 1) := by decide +kernel
theorem dX1_parse_88 : decode cX1_parse 88 = .ok (.ireturn, 1) := by decide +kernel
theorem dX1_termOr_0 : decode cX1_termOr 0 = .ok (.iload_n 1, 1) := by decide +kernel
theorem dX1_termOr_1 : decode cX1_termOr 1 = .ok (.ifCond .lt 22, 3) := by decide +kernel
theorem dX1_termOr_4 : decode cX1_termOr 4 = .ok (.iload_n 1, 1) := by decide +kernel
theorem dX1_termOr_5 : decode cX1_termOr 5 = .ok (.bipush 16, 2) := by decide +kernel
theorem dX1_termOr_7 : decode cX1_termOr 7 = .ok (.if_icmp .ge 16, 3) := by decide +kernel
theorem dX1_termOr_10 : decode cX1_termOr 10 = .ok (.aload_n 0, 1) := by decide +kernel
theorem dX1_termOr_11 : decode cX1_termOr 11 = .ok (.getfield 9, 3) := by decide +kernel
theorem dX1_termOr_14 : decode cX1_termOr 14 = .ok (.iload_n 1, 1) := by decide +kernel
theorem dX1_termOr_15 : decode cX1_termOr 15 = .ok (.iaload, 1) := by decide +kernel
theorem dX1_termOr_16 : decode cX1_termOr 16 = .ok (.ifCond .lt 7, 3) := by decide +kernel
theorem dX1_termOr_19 : decode cX1_termOr 19 = .ok (.iconst 1, 1) := by decide +kernel
theorem dX1_termOr_20 : decode cX1_termOr 20 = .ok (.goto 4, 3) := by decide +kernel
theorem dX1_termOr_23 : decode cX1_termOr 23 = .ok (.iconst 0, 1) := by decide +kernel
theorem dX1_termOr_24 : decode cX1_termOr 24 = .ok (.istore_n 3, 1) := by decide +kernel
theorem dX1_termOr_25 : decode cX1_termOr 25 = .ok (.iload_n 3, 1) := by decide +kernel
theorem dX1_termOr_26 : decode cX1_termOr 26 = .ok (.ifCond .eq 12, 3) := by decide +kernel
theorem dX1_termOr_29 : decode cX1_termOr 29 = .ok (.aload_n 0, 1) := by decide +kernel
theorem dX1_termOr_30 : decode cX1_termOr 30 = .ok (.getfield 9, 3) := by decide +kernel
theorem dX1_termOr_33 : decode cX1_termOr 33 = .ok (.iload_n 1, 1) := by decide +kernel
theorem dX1_termOr_34 : decode cX1_termOr 34 = .ok (.iaload, 1) := by decide +kernel
theorem dX1_termOr_35 : decode cX1_termOr 35 = .ok (.goto 4, 3) := by decide +kernel
theorem dX1_termOr_38 : decode cX1_termOr 38 = .ok (.iload_n 2, 1) := by decide +kernel
theorem dX1_termOr_39 : decode cX1_termOr 39 = .ok (.ireturn, 1) := by decide +kernel
set_option maxRecDepth 20000 in
theorem ggX1_parseClause_X1_termSaid : GoodIn wsX1_parseClause wsX1_termSaid := goodIn_r _ [5, 6, 7, 8, 9, 10, 11, 12, 13, 14, 15, 16, 17, 18, 19, 20, 21, 22, 23, 24, 25, 26, 27, 28, 29, 30, 31, 32, 33, 34, 35, 36, 37, 38, 39, 40, 41, 42, 43, 44, 45, 46, 47, 48, 49, 50, 51, 52, 53, 54, 55, 56, 57, 58, 59, 60, 61, 62, 63, 91, 92, 93, 94] (by decide +kernel) (by decide +kernel)
set_option maxRecDepth 20000 in
theorem gX1_parseClause_X1_termSaid : GoodIn wsX1_parseClause (va_wsS RX1 39 yX1_termSaid wsX1_termSaid) := goodIn_app (goodIn_of _ (by decide +kernel)) ggX1_parseClause_X1_termSaid
set_option maxRecDepth 20000 in
theorem ggX1_parseClause_X5_advance : GoodIn wsX1_parseClause wsX5_advance := goodIn_r _ [67, 11, 13, 14, 12, 68, 69, 9, 70, 71, 72, 73, 74, 75, 76, 77, 91, 92, 93, 94] (by decide +kernel) (by decide +kernel)
set_option maxRecDepth 20000 in
theorem gX1_parseClause_X5_advance : GoodIn wsX1_parseClause (wsV RX1 27 RX5 yX5_advance wsX5_advance) := goodIn_app (goodIn_of _ (by decide +kernel)) ggX1_parseClause_X5_advance
set_option maxRecDepth 20000 in
theorem ggX1_parseClause_X5_number : GoodIn wsX1_parseClause wsX5_number := goodIn_r _ [81, 14, 12, 11, 13, 74, 75, 76, 9, 77, 71, 72, 73, 91, 92, 93, 94] (by decide +kernel) (by decide +kernel)
set_option maxRecDepth 20000 in
theorem gX1_parseClause_X5_number : GoodIn wsX1_parseClause (wsV RX1 43 RX5 yX5_number wsX5_number) := goodIn_app (goodIn_of _ (by decide +kernel)) ggX1_parseClause_X5_number
set_option maxRecDepth 20000 in
theorem ggX1_parseClause_X6_isPlace : GoodIn wsX1_parseClause wsX6_isPlace := goodIn_r _ [84, 85, 86, 83, 87] (by decide +kernel) (by decide +kernel)
set_option maxRecDepth 20000 in
theorem gX1_parseClause_X6_isPlace_n46 : GoodIn wsX1_parseClause (wsX6_isPlace) := ggX1_parseClause_X6_isPlace
set_option maxRecDepth 20000 in
theorem ggX1_parseClause_X5_says : GoodIn wsX1_parseClause wsX5_says := goodIn_r _ [10, 11, 12, 13, 14, 15, 16, 17, 18, 19, 20, 21, 22, 23, 24, 25, 26, 27, 28, 29, 30, 31, 32, 33, 34, 35, 36, 37, 38, 39, 40, 41, 42, 43, 44, 45, 46, 47, 48, 49, 50, 51, 52, 53, 54, 55, 56, 57, 58, 59, 60, 61, 62, 63, 91, 92, 93, 94] (by decide +kernel) (by decide +kernel)
set_option maxRecDepth 20000 in
theorem gX1_parseClause_X5_says : GoodIn wsX1_parseClause (wsV RX1 52 RX5 yX5_says wsX5_says) := goodIn_app (goodIn_of _ (by decide +kernel)) ggX1_parseClause_X5_says
theorem dX1_parseClause_0 : decode cX1_parseClause 0 = .ok (.aload_n 1, 1) := by decide +kernel
theorem dX1_parseClause_1 : decode cX1_parseClause 1 = .ok (.invokestatic 39, 3) := by decide +kernel
theorem dX1_parseClause_4 : decode cX1_parseClause 4 = .ok (.istore_n 2, 1) := by decide +kernel
theorem dX1_parseClause_5 : decode cX1_parseClause 5 = .ok (.iload_n 2, 1) := by decide +kernel
theorem dX1_parseClause_6 : decode cX1_parseClause 6 = .ok (.iconst 4, 1) := by decide +kernel
theorem dX1_parseClause_7 : decode cX1_parseClause 7 = .ok (.if_icmp .eq 9, 3) := by decide +kernel
theorem dX1_parseClause_10 : decode cX1_parseClause 10 = .ok (.iload_n 2, 1) := by decide +kernel
theorem dX1_parseClause_11 : decode cX1_parseClause 11 = .ok (.bipush 10, 2) := by decide +kernel
theorem dX1_parseClause_13 : decode cX1_parseClause 13 = .ok (.if_icmp .ne 29, 3) := by decide +kernel
theorem dX1_parseClause_16 : decode cX1_parseClause 16 = .ok (.aload_n 1, 1) := by decide +kernel
theorem dX1_parseClause_17 : decode cX1_parseClause 17 = .ok (.invokevirtual 27, 3) := by decide +kernel
theorem dX1_parseClause_20 : decode cX1_parseClause 20 = .ok (.pop, 1) := by decide +kernel
theorem dX1_parseClause_21 : decode cX1_parseClause 21 = .ok (.aload_n 1, 1) := by decide +kernel
theorem dX1_parseClause_22 : decode cX1_parseClause 22 = .ok (.invokevirtual 43, 3) := by decide +kernel
theorem dX1_parseClause_25 : decode cX1_parseClause 25 = .ok (.istore_n 3, 1) := by decide +kernel
theorem dX1_parseClause_26 : decode cX1_parseClause 26 = .ok (.iload_n 3, 1) := by decide +kernel
theorem dX1_parseClause_27 : decode cX1_parseClause 27 = .ok (.invokestatic 46, 3) := by decide +kernel
theorem dX1_parseClause_30 : decode cX1_parseClause 30 = .ok (.ifCond .eq 9, 3) := by decide +kernel
theorem dX1_parseClause_33 : decode cX1_parseClause 33 = .ok (.iload_n 2, 1) := by decide +kernel
theorem dX1_parseClause_34 : decode cX1_parseClause 34 = .ok (.iload_n 3, 1) := by decide +kernel
theorem dX1_parseClause_35 : decode cX1_parseClause 35 = .ok (.iadd, 1) := by decide +kernel
theorem dX1_parseClause_36 : decode cX1_parseClause 36 = .ok (.goto 5, 3) := by decide +kernel
theorem dX1_parseClause_39 : decode cX1_parseClause 39 = .ok (.bipush (-3), 2) := by decide +kernel
theorem dX1_parseClause_41 : decode cX1_parseClause 41 = .ok (.istore_n 2, 1) := by decide +kernel
theorem dX1_parseClause_42 : decode cX1_parseClause 42 = .ok (.iload_n 2, 1) := by decide +kernel
theorem dX1_parseClause_43 : decode cX1_parseClause 43 = .ok (.ifCond .lt 12, 3) := by decide +kernel
theorem dX1_parseClause_46 : decode cX1_parseClause 46 = .ok (.aload_n 0, 1) := by decide +kernel
theorem dX1_parseClause_47 : decode cX1_parseClause 47 = .ok (.getfield 9, 3) := by decide +kernel
theorem dX1_parseClause_50 : decode cX1_parseClause 50 = .ok (.iload_n 2, 1) := by decide +kernel
theorem dX1_parseClause_51 : decode cX1_parseClause 51 = .ok (.iaload, 1) := by decide +kernel
theorem dX1_parseClause_52 : decode cX1_parseClause 52 = .ok (.ifCond .lt 5, 3) := by decide +kernel
theorem dX1_parseClause_55 : decode cX1_parseClause 55 = .ok (.iconst 0, 1) := by decide +kernel
theorem dX1_parseClause_56 : decode cX1_parseClause 56 = .ok (.ireturn, 1) := by decide +kernel
theorem dX1_parseClause_57 : decode cX1_parseClause 57 = .ok (.aload_n 1, 1) := by decide +kernel
theorem dX1_parseClause_58 : decode cX1_parseClause 58 = .ok (.invokevirtual 27, 3) := by decide +kernel
theorem dX1_parseClause_61 : decode cX1_parseClause 61 = .ok (.pop, 1) := by decide +kernel
theorem dX1_parseClause_62 : decode cX1_parseClause 62 = .ok (.aload_n 0, 1) := by decide +kernel
theorem dX1_parseClause_63 : decode cX1_parseClause 63 = .ok (.getfield 9, 3) := by decide +kernel
theorem dX1_parseClause_66 : decode cX1_parseClause 66 = .ok (.iload_n 2, 1) := by decide +kernel
theorem dX1_parseClause_67 : decode cX1_parseClause 67 = .ok (.aload_n 1, 1) := by decide +kernel
theorem dX1_parseClause_68 : decode cX1_parseClause 68 = .ok (.invokevirtual 43, 3) := by decide +kernel
theorem dX1_parseClause_71 : decode cX1_parseClause 71 = .ok (.iastore, 1) := by decide +kernel
theorem dX1_parseClause_72 : decode cX1_parseClause 72 = .ok (.aload_n 0, 1) := by decide +kernel
theorem dX1_parseClause_73 : decode cX1_parseClause 73 = .ok (.getfield 9, 3) := by decide +kernel
theorem dX1_parseClause_76 : decode cX1_parseClause 76 = .ok (.iload_n 2, 1) := by decide +kernel
theorem dX1_parseClause_77 : decode cX1_parseClause 77 = .ok (.iaload, 1) := by decide +kernel
theorem dX1_parseClause_78 : decode cX1_parseClause 78 = .ok (.ifCond .ge 5, 3) := by decide +kernel
theorem dX1_parseClause_81 : decode cX1_parseClause 81 = .ok (.iconst 0, 1) := by decide +kernel
theorem dX1_parseClause_82 : decode cX1_parseClause 82 = .ok (.ireturn, 1) := by decide +kernel
theorem dX1_parseClause_83 : decode cX1_parseClause 83 = .ok (.aload_n 1, 1) := by decide +kernel
theorem dX1_parseClause_84 : decode cX1_parseClause 84 = .ok (.invokevirtual 27, 3) := by decide +kernel
theorem dX1_parseClause_87 : decode cX1_parseClause 87 = .ok (.pop, 1) := by decide +kernel
theorem dX1_parseClause_88 : decode cX1_parseClause 88 = .ok (.aload_n 1, 1) := by decide +kernel
theorem dX1_parseClause_89 : decode cX1_parseClause 89 = .ok (.ldc 50, 2) := by decide +kernel
theorem dX1_parseClause_91 : decode cX1_parseClause 91 = .ok (.invokevirtual 52, 3) := by decide +kernel
theorem dX1_parseClause_94 : decode cX1_parseClause 94 = .ok (.ireturn, 1) := by decide +kernel
set_option maxRecDepth 20000 in
theorem ggX1_termSaid_X5_says : GoodIn wsX1_termSaid wsX5_says := goodIn_r _ [5, 6, 7, 8, 9, 10, 11, 12, 13, 14, 15, 16, 17, 18, 19, 20, 21, 22, 23, 24, 25, 26, 27, 28, 29, 30, 31, 32, 33, 34, 35, 36, 37, 38, 39, 40, 41, 42, 43, 44, 45, 46, 47, 48, 49, 50, 51, 52, 53, 54, 55, 56, 57, 58, 59, 60, 61, 62] (by decide +kernel) (by decide +kernel)
set_option maxRecDepth 20000 in
theorem gX1_termSaid_X5_says : GoodIn wsX1_termSaid (wsV RX1 52 RX5 yX5_says wsX5_says) := goodIn_app (goodIn_of _ (by decide +kernel)) ggX1_termSaid_X5_says
theorem dX1_termSaid_0 : decode cX1_termSaid 0 = .ok (.aload_n 0, 1) := by decide +kernel
theorem dX1_termSaid_1 : decode cX1_termSaid 1 = .ok (.ldc 56, 2) := by decide +kernel
theorem dX1_termSaid_3 : decode cX1_termSaid 3 = .ok (.invokevirtual 52, 3) := by decide +kernel
theorem dX1_termSaid_6 : decode cX1_termSaid 6 = .ok (.ifCond .eq 5, 3) := by decide +kernel
theorem dX1_termSaid_9 : decode cX1_termSaid 9 = .ok (.iconst 0, 1) := by decide +kernel
theorem dX1_termSaid_10 : decode cX1_termSaid 10 = .ok (.ireturn, 1) := by decide +kernel
theorem dX1_termSaid_11 : decode cX1_termSaid 11 = .ok (.aload_n 0, 1) := by decide +kernel
theorem dX1_termSaid_12 : decode cX1_termSaid 12 = .ok (.ldc 58, 2) := by decide +kernel
theorem dX1_termSaid_14 : decode cX1_termSaid 14 = .ok (.invokevirtual 52, 3) := by decide +kernel
theorem dX1_termSaid_17 : decode cX1_termSaid 17 = .ok (.ifCond .eq 5, 3) := by decide +kernel
theorem dX1_termSaid_20 : decode cX1_termSaid 20 = .ok (.iconst 1, 1) := by decide +kernel
theorem dX1_termSaid_21 : decode cX1_termSaid 21 = .ok (.ireturn, 1) := by decide +kernel
theorem dX1_termSaid_22 : decode cX1_termSaid 22 = .ok (.aload_n 0, 1) := by decide +kernel
theorem dX1_termSaid_23 : decode cX1_termSaid 23 = .ok (.ldc 60, 2) := by decide +kernel
theorem dX1_termSaid_25 : decode cX1_termSaid 25 = .ok (.invokevirtual 52, 3) := by decide +kernel
theorem dX1_termSaid_28 : decode cX1_termSaid 28 = .ok (.ifCond .eq 5, 3) := by decide +kernel
theorem dX1_termSaid_31 : decode cX1_termSaid 31 = .ok (.iconst 2, 1) := by decide +kernel
theorem dX1_termSaid_32 : decode cX1_termSaid 32 = .ok (.ireturn, 1) := by decide +kernel
theorem dX1_termSaid_33 : decode cX1_termSaid 33 = .ok (.aload_n 0, 1) := by decide +kernel
theorem dX1_termSaid_34 : decode cX1_termSaid 34 = .ok (.ldc 62, 2) := by decide +kernel
theorem dX1_termSaid_36 : decode cX1_termSaid 36 = .ok (.invokevirtual 52, 3) := by decide +kernel
theorem dX1_termSaid_39 : decode cX1_termSaid 39 = .ok (.ifCond .eq 5, 3) := by decide +kernel
theorem dX1_termSaid_42 : decode cX1_termSaid 42 = .ok (.iconst 3, 1) := by decide +kernel
theorem dX1_termSaid_43 : decode cX1_termSaid 43 = .ok (.ireturn, 1) := by decide +kernel
theorem dX1_termSaid_44 : decode cX1_termSaid 44 = .ok (.aload_n 0, 1) := by decide +kernel
theorem dX1_termSaid_45 : decode cX1_termSaid 45 = .ok (.ldc 64, 2) := by decide +kernel
theorem dX1_termSaid_47 : decode cX1_termSaid 47 = .ok (.invokevirtual 52, 3) := by decide +kernel
theorem dX1_termSaid_50 : decode cX1_termSaid 50 = .ok (.ifCond .eq 5, 3) := by decide +kernel
theorem dX1_termSaid_53 : decode cX1_termSaid 53 = .ok (.iconst 4, 1) := by decide +kernel
theorem dX1_termSaid_54 : decode cX1_termSaid 54 = .ok (.ireturn, 1) := by decide +kernel
theorem dX1_termSaid_55 : decode cX1_termSaid 55 = .ok (.aload_n 0, 1) := by decide +kernel
theorem dX1_termSaid_56 : decode cX1_termSaid 56 = .ok (.ldc 66, 2) := by decide +kernel
theorem dX1_termSaid_58 : decode cX1_termSaid 58 = .ok (.invokevirtual 52, 3) := by decide +kernel
theorem dX1_termSaid_61 : decode cX1_termSaid 61 = .ok (.ifCond .eq 8, 3) := by decide +kernel
theorem dX1_termSaid_64 : decode cX1_termSaid 64 = .ok (.bipush 10, 2) := by decide +kernel
theorem dX1_termSaid_66 : decode cX1_termSaid 66 = .ok (.goto 5, 3) := by decide +kernel
theorem dX1_termSaid_69 : decode cX1_termSaid 69 = .ok (.bipush (-3), 2) := by decide +kernel
theorem dX1_termSaid_71 : decode cX1_termSaid 71 = .ok (.ireturn, 1) := by decide +kernel
theorem dX2_init_0 : decode cX2_init 0 = .ok (.aload_n 0, 1) := by decide +kernel
theorem dX2_init_1 : decode cX2_init 1 = .ok (.invokespecial 3, 3) := by decide +kernel
theorem dX2_init_4 : decode cX2_init 4 = .ok (.aload_n 0, 1) := by decide +kernel
theorem dX2_init_5 : decode cX2_init 5 = .ok (.bipush 49, 2) := by decide +kernel
theorem dX2_init_7 : decode cX2_init 7 = .ok (.newarray .int, 2) := by decide +kernel
theorem dX2_init_9 : decode cX2_init 9 = .ok (.putfield 9, 3) := by decide +kernel
theorem dX2_init_12 : decode cX2_init 12 = .ok (.aload_n 0, 1) := by decide +kernel
theorem dX2_init_13 : decode cX2_init 13 = .ok (.sipush 1024, 3) := by decide +kernel
theorem dX2_init_16 : decode cX2_init 16 = .ok (.newarray .int, 2) := by decide +kernel
theorem dX2_init_18 : decode cX2_init 18 = .ok (.putfield 15, 3) := by decide +kernel
theorem dX2_init_21 : decode cX2_init 21 = .ok (.aload_n 0, 1) := by decide +kernel
theorem dX2_init_22 : decode cX2_init 22 = .ok (.bipush 7, 2) := by decide +kernel
theorem dX2_init_24 : decode cX2_init 24 = .ok (.newarray .int, 2) := by decide +kernel
theorem dX2_init_26 : decode cX2_init 26 = .ok (.putfield 18, 3) := by decide +kernel
theorem dX2_init_29 : decode cX2_init 29 = .ok (.return_, 1) := by decide +kernel
theorem dX2_begin_0 : decode cX2_begin 0 = .ok (.aload_n 0, 1) := by decide +kernel
theorem dX2_begin_1 : decode cX2_begin 1 = .ok (.iconst 0, 1) := by decide +kernel
theorem dX2_begin_2 : decode cX2_begin 2 = .ok (.iload_n 1, 1) := by decide +kernel
theorem dX2_begin_3 : decode cX2_begin 3 = .ok (.bipush 7, 2) := by decide +kernel
theorem dX2_begin_5 : decode cX2_begin 5 = .ok (.invokestatic 21, 3) := by decide +kernel
theorem dX2_begin_8 : decode cX2_begin 8 = .ok (.invokestatic 27, 3) := by decide +kernel
theorem dX2_begin_11 : decode cX2_begin 11 = .ok (.putfield 30, 3) := by decide +kernel
theorem dX2_begin_14 : decode cX2_begin 14 = .ok (.aload_n 0, 1) := by decide +kernel
theorem dX2_begin_15 : decode cX2_begin 15 = .ok (.iconst 0, 1) := by decide +kernel
theorem dX2_begin_16 : decode cX2_begin 16 = .ok (.iload_n 2, 1) := by decide +kernel
theorem dX2_begin_17 : decode cX2_begin 17 = .ok (.bipush 7, 2) := by decide +kernel
theorem dX2_begin_19 : decode cX2_begin 19 = .ok (.invokestatic 21, 3) := by decide +kernel
theorem dX2_begin_22 : decode cX2_begin 22 = .ok (.invokestatic 27, 3) := by decide +kernel
theorem dX2_begin_25 : decode cX2_begin 25 = .ok (.putfield 34, 3) := by decide +kernel
theorem dX2_begin_28 : decode cX2_begin 28 = .ok (.iconst 0, 1) := by decide +kernel
theorem dX2_begin_29 : decode cX2_begin 29 = .ok (.istore_n 3, 1) := by decide +kernel
theorem dX2_begin_30 : decode cX2_begin 30 = .ok (.iload_n 3, 1) := by decide +kernel
theorem dX2_begin_31 : decode cX2_begin 31 = .ok (.aload_n 0, 1) := by decide +kernel
theorem dX2_begin_32 : decode cX2_begin 32 = .ok (.getfield 9, 3) := by decide +kernel
theorem dX2_begin_35 : decode cX2_begin 35 = .ok (.arraylength, 1) := by decide +kernel
theorem dX2_begin_36 : decode cX2_begin 36 = .ok (.if_icmp .ge 17, 3) := by decide +kernel
theorem dX2_begin_39 : decode cX2_begin 39 = .ok (.aload_n 0, 1) := by decide +kernel
theorem dX2_begin_40 : decode cX2_begin 40 = .ok (.getfield 9, 3) := by decide +kernel
theorem dX2_begin_43 : decode cX2_begin 43 = .ok (.iload_n 3, 1) := by decide +kernel
theorem dX2_begin_44 : decode cX2_begin 44 = .ok (.bipush (-3), 2) := by decide +kernel
theorem dX2_begin_46 : decode cX2_begin 46 = .ok (.iastore, 1) := by decide +kernel
theorem dX2_begin_47 : decode cX2_begin 47 = .ok (.iinc 3 1, 3) := by decide +kernel
theorem dX2_begin_50 : decode cX2_begin 50 = .ok (.goto (-20), 3) := by decide +kernel
theorem dX2_begin_53 : decode cX2_begin 53 = .ok (.return_, 1) := by decide +kernel
set_option maxRecDepth 20000 in
theorem ggX2_allow_X6_isWithin : GoodIn wsX2_allow wsX6_isWithin := goodIn_r _ [6] (by decide +kernel) (by decide +kernel)
set_option maxRecDepth 20000 in
theorem gX2_allow_X6_isWithin_n37 : GoodIn wsX2_allow (wsX6_isWithin) := ggX2_allow_X6_isWithin
theorem dX2_allow_0 : decode cX2_allow 0 = .ok (.iload_n 1, 1) := by decide +kernel
theorem dX2_allow_1 : decode cX2_allow 1 = .ok (.iconst 0, 1) := by decide +kernel
theorem dX2_allow_2 : decode cX2_allow 2 = .ok (.aload_n 0, 1) := by decide +kernel
theorem dX2_allow_3 : decode cX2_allow 3 = .ok (.getfield 30, 3) := by decide +kernel
theorem dX2_allow_6 : decode cX2_allow 6 = .ok (.iconst 1, 1) := by decide +kernel
theorem dX2_allow_7 : decode cX2_allow 7 = .ok (.isub, 1) := by decide +kernel
theorem dX2_allow_8 : decode cX2_allow 8 = .ok (.invokestatic 37, 3) := by decide +kernel
theorem dX2_allow_11 : decode cX2_allow 11 = .ok (.ifCond .eq 33, 3) := by decide +kernel
theorem dX2_allow_14 : decode cX2_allow 14 = .ok (.iload_n 2, 1) := by decide +kernel
theorem dX2_allow_15 : decode cX2_allow 15 = .ok (.iconst 0, 1) := by decide +kernel
theorem dX2_allow_16 : decode cX2_allow 16 = .ok (.aload_n 0, 1) := by decide +kernel
theorem dX2_allow_17 : decode cX2_allow 17 = .ok (.getfield 34, 3) := by decide +kernel
theorem dX2_allow_20 : decode cX2_allow 20 = .ok (.iconst 1, 1) := by decide +kernel
theorem dX2_allow_21 : decode cX2_allow 21 = .ok (.isub, 1) := by decide +kernel
theorem dX2_allow_22 : decode cX2_allow 22 = .ok (.invokestatic 37, 3) := by decide +kernel
theorem dX2_allow_25 : decode cX2_allow 25 = .ok (.ifCond .eq 19, 3) := by decide +kernel
theorem dX2_allow_28 : decode cX2_allow 28 = .ok (.aload_n 0, 1) := by decide +kernel
theorem dX2_allow_29 : decode cX2_allow 29 = .ok (.getfield 9, 3) := by decide +kernel
theorem dX2_allow_32 : decode cX2_allow 32 = .ok (.iload_n 1, 1) := by decide +kernel
theorem dX2_allow_33 : decode cX2_allow 33 = .ok (.bipush 7, 2) := by decide +kernel
theorem dX2_allow_35 : decode cX2_allow 35 = .ok (.imul, 1) := by decide +kernel
theorem dX2_allow_36 : decode cX2_allow 36 = .ok (.iload_n 2, 1) := by decide +kernel
theorem dX2_allow_37 : decode cX2_allow 37 = .ok (.iadd, 1) := by decide +kernel
theorem dX2_allow_38 : decode cX2_allow 38 = .ok (.sipush 10000, 3) := by decide +kernel
theorem dX2_allow_41 : decode cX2_allow 41 = .ok (.iload_n 3, 1) := by decide +kernel
theorem dX2_allow_42 : decode cX2_allow 42 = .ok (.isub, 1) := by decide +kernel
theorem dX2_allow_43 : decode cX2_allow 43 = .ok (.iastore, 1) := by decide +kernel
theorem dX2_allow_44 : decode cX2_allow 44 = .ok (.return_, 1) := by decide +kernel
set_option maxRecDepth 20000 in
theorem ggX2_wantOf_X6_isWithin : GoodIn wsX2_wantOf wsX6_isWithin := goodIn_r _ [5] (by decide +kernel) (by decide +kernel)
set_option maxRecDepth 20000 in
theorem gX2_wantOf_X6_isWithin_n37 : GoodIn wsX2_wantOf (wsX6_isWithin) := ggX2_wantOf_X6_isWithin
theorem dX2_wantOf_0 : decode cX2_wantOf 0 = .ok (.iload_n 1, 1) := by decide +kernel
theorem dX2_wantOf_1 : decode cX2_wantOf 1 = .ok (.iconst 0, 1) := by decide +kernel
theorem dX2_wantOf_2 : decode cX2_wantOf 2 = .ok (.aload_n 0, 1) := by decide +kernel
theorem dX2_wantOf_3 : decode cX2_wantOf 3 = .ok (.getfield 30, 3) := by decide +kernel
theorem dX2_wantOf_6 : decode cX2_wantOf 6 = .ok (.iconst 1, 1) := by decide +kernel
theorem dX2_wantOf_7 : decode cX2_wantOf 7 = .ok (.isub, 1) := by decide +kernel
theorem dX2_wantOf_8 : decode cX2_wantOf 8 = .ok (.invokestatic 37, 3) := by decide +kernel
theorem dX2_wantOf_11 : decode cX2_wantOf 11 = .ok (.ifCond .eq 12, 3) := by decide +kernel
theorem dX2_wantOf_14 : decode cX2_wantOf 14 = .ok (.aload_n 0, 1) := by decide +kernel
theorem dX2_wantOf_15 : decode cX2_wantOf 15 = .ok (.getfield 18, 3) := by decide +kernel
theorem dX2_wantOf_18 : decode cX2_wantOf 18 = .ok (.iload_n 1, 1) := by decide +kernel
theorem dX2_wantOf_19 : decode cX2_wantOf 19 = .ok (.iaload, 1) := by decide +kernel
theorem dX2_wantOf_20 : decode cX2_wantOf 20 = .ok (.goto 5, 3) := by decide +kernel
theorem dX2_wantOf_23 : decode cX2_wantOf 23 = .ok (.bipush (-3), 2) := by decide +kernel
theorem dX2_wantOf_25 : decode cX2_wantOf 25 = .ok (.ireturn, 1) := by decide +kernel
set_option maxRecDepth 20000 in
theorem ggX2_solve_X2_bestFrom : GoodIn wsX2_solve wsX2_bestFrom := goodIn_r _ [12, 2, 1, 13, 14, 15, 16, 17, 18, 19, 11, 20, 7, 21, 22, 23, 24, 29, 30, 31, 32, 33, 34, 35] (by decide +kernel) (by decide +kernel)
set_option maxRecDepth 20000 in
theorem gX2_solve_X2_bestFrom : GoodIn wsX2_solve (wsV RX2 41 RX2 yX2_bestFrom wsX2_bestFrom) := goodIn_app (goodIn_of _ (by decide +kernel)) ggX2_solve_X2_bestFrom
set_option maxRecDepth 20000 in
theorem ggX2_solve_X2_leastBestWant : GoodIn wsX2_solve wsX2_leastBestWant := goodIn_r _ [28, 1, 2, 17, 18, 19, 11, 20, 7, 21, 22, 23, 24, 29, 30, 31, 32, 33, 34, 35] (by decide +kernel) (by decide +kernel)
set_option maxRecDepth 20000 in
theorem gX2_solve_X2_leastBestWant : GoodIn wsX2_solve (wsV RX2 50 RX2 yX2_leastBestWant wsX2_leastBestWant) := goodIn_app (goodIn_of _ (by decide +kernel)) ggX2_solve_X2_leastBestWant
theorem dX2_solve_0 : decode cX2_solve 0 = .ok (.iconst 0, 1) := by decide +kernel
theorem dX2_solve_1 : decode cX2_solve 1 = .ok (.istore_n 1, 1) := by decide +kernel
theorem dX2_solve_2 : decode cX2_solve 2 = .ok (.iload_n 1, 1) := by decide +kernel
theorem dX2_solve_3 : decode cX2_solve 3 = .ok (.iconst 1, 1) := by decide +kernel
theorem dX2_solve_4 : decode cX2_solve 4 = .ok (.aload_n 0, 1) := by decide +kernel
theorem dX2_solve_5 : decode cX2_solve 5 = .ok (.getfield 34, 3) := by decide +kernel
theorem dX2_solve_8 : decode cX2_solve 8 = .ok (.ishl, 1) := by decide +kernel
theorem dX2_solve_9 : decode cX2_solve 9 = .ok (.if_icmp .ge 25, 3) := by decide +kernel
theorem dX2_solve_12 : decode cX2_solve 12 = .ok (.aload_n 0, 1) := by decide +kernel
theorem dX2_solve_13 : decode cX2_solve 13 = .ok (.getfield 15, 3) := by decide +kernel
theorem dX2_solve_16 : decode cX2_solve 16 = .ok (.aload_n 0, 1) := by decide +kernel
theorem dX2_solve_17 : decode cX2_solve 17 = .ok (.getfield 30, 3) := by decide +kernel
theorem dX2_solve_20 : decode cX2_solve 20 = .ok (.sipush 128, 3) := by decide +kernel
theorem dX2_solve_23 : decode cX2_solve 23 = .ok (.imul, 1) := by decide +kernel
theorem dX2_solve_24 : decode cX2_solve 24 = .ok (.iload_n 1, 1) := by decide +kernel
theorem dX2_solve_25 : decode cX2_solve 25 = .ok (.iadd, 1) := by decide +kernel
theorem dX2_solve_26 : decode cX2_solve 26 = .ok (.iconst 0, 1) := by decide +kernel
theorem dX2_solve_27 : decode cX2_solve 27 = .ok (.iastore, 1) := by decide +kernel
theorem dX2_solve_28 : decode cX2_solve 28 = .ok (.iinc 1 1, 3) := by decide +kernel
theorem dX2_solve_31 : decode cX2_solve 31 = .ok (.goto (-29), 3) := by decide +kernel
theorem dX2_solve_34 : decode cX2_solve 34 = .ok (.aload_n 0, 1) := by decide +kernel
theorem dX2_solve_35 : decode cX2_solve 35 = .ok (.getfield 30, 3) := by decide +kernel
theorem dX2_solve_38 : decode cX2_solve 38 = .ok (.iconst 1, 1) := by decide +kernel
theorem dX2_solve_39 : decode cX2_solve 39 = .ok (.isub, 1) := by decide +kernel
theorem dX2_solve_40 : decode cX2_solve 40 = .ok (.istore_n 1, 1) := by decide +kernel
theorem dX2_solve_41 : decode cX2_solve 41 = .ok (.iload_n 1, 1) := by decide +kernel
theorem dX2_solve_42 : decode cX2_solve 42 = .ok (.ifCond .lt 45, 3) := by decide +kernel
theorem dX2_solve_45 : decode cX2_solve 45 = .ok (.iconst 0, 1) := by decide +kernel
theorem dX2_solve_46 : decode cX2_solve 46 = .ok (.istore_n 2, 1) := by decide +kernel
theorem dX2_solve_47 : decode cX2_solve 47 = .ok (.iload_n 2, 1) := by decide +kernel
theorem dX2_solve_48 : decode cX2_solve 48 = .ok (.iconst 1, 1) := by decide +kernel
theorem dX2_solve_49 : decode cX2_solve 49 = .ok (.aload_n 0, 1) := by decide +kernel
theorem dX2_solve_50 : decode cX2_solve 50 = .ok (.getfield 34, 3) := by decide +kernel
theorem dX2_solve_53 : decode cX2_solve 53 = .ok (.ishl, 1) := by decide +kernel
theorem dX2_solve_54 : decode cX2_solve 54 = .ok (.if_icmp .ge 27, 3) := by decide +kernel
theorem dX2_solve_57 : decode cX2_solve 57 = .ok (.aload_n 0, 1) := by decide +kernel
theorem dX2_solve_58 : decode cX2_solve 58 = .ok (.getfield 15, 3) := by decide +kernel
theorem dX2_solve_61 : decode cX2_solve 61 = .ok (.iload_n 1, 1) := by decide +kernel
theorem dX2_solve_62 : decode cX2_solve 62 = .ok (.sipush 128, 3) := by decide +kernel
theorem dX2_solve_65 : decode cX2_solve 65 = .ok (.imul, 1) := by decide +kernel
theorem dX2_solve_66 : decode cX2_solve 66 = .ok (.iload_n 2, 1) := by decide +kernel
theorem dX2_solve_67 : decode cX2_solve 67 = .ok (.iadd, 1) := by decide +kernel
theorem dX2_solve_68 : decode cX2_solve 68 = .ok (.aload_n 0, 1) := by decide +kernel
theorem dX2_solve_69 : decode cX2_solve 69 = .ok (.iload_n 1, 1) := by decide +kernel
theorem dX2_solve_70 : decode cX2_solve 70 = .ok (.iload_n 2, 1) := by decide +kernel
theorem dX2_solve_71 : decode cX2_solve 71 = .ok (.invokevirtual 41, 3) := by decide +kernel
theorem dX2_solve_74 : decode cX2_solve 74 = .ok (.iastore, 1) := by decide +kernel
theorem dX2_solve_75 : decode cX2_solve 75 = .ok (.iinc 2 1, 3) := by decide +kernel
theorem dX2_solve_78 : decode cX2_solve 78 = .ok (.goto (-31), 3) := by decide +kernel
theorem dX2_solve_81 : decode cX2_solve 81 = .ok (.iinc 1 (-1), 3) := by decide +kernel
theorem dX2_solve_84 : decode cX2_solve 84 = .ok (.goto (-43), 3) := by decide +kernel
theorem dX2_solve_87 : decode cX2_solve 87 = .ok (.aload_n 0, 1) := by decide +kernel
theorem dX2_solve_88 : decode cX2_solve 88 = .ok (.iconst 0, 1) := by decide +kernel
theorem dX2_solve_89 : decode cX2_solve 89 = .ok (.putfield 44, 3) := by decide +kernel
theorem dX2_solve_92 : decode cX2_solve 92 = .ok (.aload_n 0, 1) := by decide +kernel
theorem dX2_solve_93 : decode cX2_solve 93 = .ok (.iconst 0, 1) := by decide +kernel
theorem dX2_solve_94 : decode cX2_solve 94 = .ok (.putfield 47, 3) := by decide +kernel
theorem dX2_solve_97 : decode cX2_solve 97 = .ok (.iconst 0, 1) := by decide +kernel
theorem dX2_solve_98 : decode cX2_solve 98 = .ok (.istore_n 1, 1) := by decide +kernel
theorem dX2_solve_99 : decode cX2_solve 99 = .ok (.iconst 0, 1) := by decide +kernel
theorem dX2_solve_100 : decode cX2_solve 100 = .ok (.istore_n 2, 1) := by decide +kernel
theorem dX2_solve_101 : decode cX2_solve 101 = .ok (.iload_n 2, 1) := by decide +kernel
theorem dX2_solve_102 : decode cX2_solve 102 = .ok (.aload_n 0, 1) := by decide +kernel
theorem dX2_solve_103 : decode cX2_solve 103 = .ok (.getfield 30, 3) := by decide +kernel
theorem dX2_solve_106 : decode cX2_solve 106 = .ok (.if_icmp .ge 80, 3) := by decide +kernel
theorem dX2_solve_109 : decode cX2_solve 109 = .ok (.aload_n 0, 1) := by decide +kernel
theorem dX2_solve_110 : decode cX2_solve 110 = .ok (.getfield 18, 3) := by decide +kernel
theorem dX2_solve_113 : decode cX2_solve 113 = .ok (.iload_n 2, 1) := by decide +kernel
theorem dX2_solve_114 : decode cX2_solve 114 = .ok (.aload_n 0, 1) := by decide +kernel
theorem dX2_solve_115 : decode cX2_solve 115 = .ok (.iload_n 2, 1) := by decide +kernel
theorem dX2_solve_116 : decode cX2_solve 116 = .ok (.iload_n 1, 1) := by decide +kernel
theorem dX2_solve_117 : decode cX2_solve 117 = .ok (.invokevirtual 50, 3) := by decide +kernel
theorem dX2_solve_120 : decode cX2_solve 120 = .ok (.iastore, 1) := by decide +kernel
theorem dX2_solve_121 : decode cX2_solve 121 = .ok (.aload_n 0, 1) := by decide +kernel
theorem dX2_solve_122 : decode cX2_solve 122 = .ok (.getfield 18, 3) := by decide +kernel
theorem dX2_solve_125 : decode cX2_solve 125 = .ok (.iload_n 2, 1) := by decide +kernel
theorem dX2_solve_126 : decode cX2_solve 126 = .ok (.iaload, 1) := by decide +kernel
theorem dX2_solve_127 : decode cX2_solve 127 = .ok (.ifCond .lt 53, 3) := by decide +kernel
theorem dX2_solve_130 : decode cX2_solve 130 = .ok (.aload_n 0, 1) := by decide +kernel
theorem dX2_solve_131 : decode cX2_solve 131 = .ok (.dup, 1) := by decide +kernel
theorem dX2_solve_132 : decode cX2_solve 132 = .ok (.getfield 44, 3) := by decide +kernel
theorem dX2_solve_135 : decode cX2_solve 135 = .ok (.iconst 1, 1) := by decide +kernel
theorem dX2_solve_136 : decode cX2_solve 136 = .ok (.iadd, 1) := by decide +kernel
theorem dX2_solve_137 : decode cX2_solve 137 = .ok (.putfield 44, 3) := by decide +kernel
theorem dX2_solve_140 : decode cX2_solve 140 = .ok (.aload_n 0, 1) := by decide +kernel
theorem dX2_solve_141 : decode cX2_solve 141 = .ok (.dup, 1) := by decide +kernel
theorem dX2_solve_142 : decode cX2_solve 142 = .ok (.getfield 47, 3) := by decide +kernel
theorem dX2_solve_145 : decode cX2_solve 145 = .ok (.sipush 10000, 3) := by decide +kernel
theorem dX2_solve_148 : decode cX2_solve 148 = .ok (.aload_n 0, 1) := by decide +kernel
theorem dX2_solve_149 : decode cX2_solve 149 = .ok (.getfield 9, 3) := by decide +kernel
theorem dX2_solve_152 : decode cX2_solve 152 = .ok (.iload_n 2, 1) := by decide +kernel
theorem dX2_solve_153 : decode cX2_solve 153 = .ok (.bipush 7, 2) := by decide +kernel
theorem dX2_solve_155 : decode cX2_solve 155 = .ok (.imul, 1) := by decide +kernel
theorem dX2_solve_156 : decode cX2_solve 156 = .ok (.aload_n 0, 1) := by decide +kernel
theorem dX2_solve_157 : decode cX2_solve 157 = .ok (.getfield 18, 3) := by decide +kernel
theorem dX2_solve_160 : decode cX2_solve 160 = .ok (.iload_n 2, 1) := by decide +kernel
theorem dX2_solve_161 : decode cX2_solve 161 = .ok (.iaload, 1) := by decide +kernel
theorem dX2_solve_162 : decode cX2_solve 162 = .ok (.iadd, 1) := by decide +kernel
theorem dX2_solve_163 : decode cX2_solve 163 = .ok (.iaload, 1) := by decide +kernel
theorem dX2_solve_164 : decode cX2_solve 164 = .ok (.isub, 1) := by decide +kernel
theorem dX2_solve_165 : decode cX2_solve 165 = .ok (.iadd, 1) := by decide +kernel
theorem dX2_solve_166 : decode cX2_solve 166 = .ok (.putfield 47, 3) := by decide +kernel
theorem dX2_solve_169 : decode cX2_solve 169 = .ok (.iload_n 1, 1) := by decide +kernel
theorem dX2_solve_170 : decode cX2_solve 170 = .ok (.iconst 1, 1) := by decide +kernel
theorem dX2_solve_171 : decode cX2_solve 171 = .ok (.aload_n 0, 1) := by decide +kernel
theorem dX2_solve_172 : decode cX2_solve 172 = .ok (.getfield 18, 3) := by decide +kernel
theorem dX2_solve_175 : decode cX2_solve 175 = .ok (.iload_n 2, 1) := by decide +kernel
theorem dX2_solve_176 : decode cX2_solve 176 = .ok (.iaload, 1) := by decide +kernel
theorem dX2_solve_177 : decode cX2_solve 177 = .ok (.ishl, 1) := by decide +kernel
theorem dX2_solve_178 : decode cX2_solve 178 = .ok (.ior, 1) := by decide +kernel
theorem dX2_solve_179 : decode cX2_solve 179 = .ok (.istore_n 1, 1) := by decide +kernel
theorem dX2_solve_180 : decode cX2_solve 180 = .ok (.iinc 2 1, 3) := by decide +kernel
theorem dX2_solve_183 : decode cX2_solve 183 = .ok (.goto (-82), 3) := by decide +kernel
theorem dX2_solve_186 : decode cX2_solve 186 = .ok (.return_, 1) := by decide +kernel
set_option maxRecDepth 20000 in
theorem ggX2_bestFrom_X2_isOpen : GoodIn wsX2_bestFrom wsX2_isOpen := goodIn_r _ [11, 12, 17, 18, 19, 20, 21, 22, 23] (by decide +kernel) (by decide +kernel)
set_option maxRecDepth 20000 in
theorem gX2_bestFrom_X2_isOpen : GoodIn wsX2_bestFrom (wsV RX2 53 RX2 yX2_isOpen wsX2_isOpen) := goodIn_app (goodIn_of _ (by decide +kernel)) ggX2_bestFrom_X2_isOpen
set_option maxRecDepth 20000 in
theorem ggX2_bestFrom_X2_scoreWith : GoodIn wsX2_bestFrom wsX2_scoreWith := goodIn_r _ [16, 12, 1, 17, 18, 19, 20, 21, 22, 23] (by decide +kernel) (by decide +kernel)
set_option maxRecDepth 20000 in
theorem gX2_bestFrom_X2_scoreWith : GoodIn wsX2_bestFrom (wsV RX2 56 RX2 yX2_scoreWith wsX2_scoreWith) := goodIn_app (goodIn_of _ (by decide +kernel)) ggX2_bestFrom_X2_scoreWith
theorem dX2_bestFrom_0 : decode cX2_bestFrom 0 = .ok (.aload_n 0, 1) := by decide +kernel
theorem dX2_bestFrom_1 : decode cX2_bestFrom 1 = .ok (.getfield 15, 3) := by decide +kernel
theorem dX2_bestFrom_4 : decode cX2_bestFrom 4 = .ok (.iload_n 1, 1) := by decide +kernel
theorem dX2_bestFrom_5 : decode cX2_bestFrom 5 = .ok (.iconst 1, 1) := by decide +kernel
theorem dX2_bestFrom_6 : decode cX2_bestFrom 6 = .ok (.iadd, 1) := by decide +kernel
theorem dX2_bestFrom_7 : decode cX2_bestFrom 7 = .ok (.sipush 128, 3) := by decide +kernel
theorem dX2_bestFrom_10 : decode cX2_bestFrom 10 = .ok (.imul, 1) := by decide +kernel
theorem dX2_bestFrom_11 : decode cX2_bestFrom 11 = .ok (.iload_n 2, 1) := by decide +kernel
theorem dX2_bestFrom_12 : decode cX2_bestFrom 12 = .ok (.iadd, 1) := by decide +kernel
theorem dX2_bestFrom_13 : decode cX2_bestFrom 13 = .ok (.iaload, 1) := by decide +kernel
theorem dX2_bestFrom_14 : decode cX2_bestFrom 14 = .ok (.istore_n 3, 1) := by decide +kernel
theorem dX2_bestFrom_15 : decode cX2_bestFrom 15 = .ok (.iconst 0, 1) := by decide +kernel
theorem dX2_bestFrom_16 : decode cX2_bestFrom 16 = .ok (.istore 4, 2) := by decide +kernel
theorem dX2_bestFrom_18 : decode cX2_bestFrom 18 = .ok (.iload 4, 2) := by decide +kernel
theorem dX2_bestFrom_20 : decode cX2_bestFrom 20 = .ok (.aload_n 0, 1) := by decide +kernel
theorem dX2_bestFrom_21 : decode cX2_bestFrom 21 = .ok (.getfield 34, 3) := by decide +kernel
theorem dX2_bestFrom_24 : decode cX2_bestFrom 24 = .ok (.if_icmp .ge 33, 3) := by decide +kernel
theorem dX2_bestFrom_27 : decode cX2_bestFrom 27 = .ok (.aload_n 0, 1) := by decide +kernel
theorem dX2_bestFrom_28 : decode cX2_bestFrom 28 = .ok (.iload_n 1, 1) := by decide +kernel
theorem dX2_bestFrom_29 : decode cX2_bestFrom 29 = .ok (.iload 4, 2) := by decide +kernel
theorem dX2_bestFrom_31 : decode cX2_bestFrom 31 = .ok (.iload_n 2, 1) := by decide +kernel
theorem dX2_bestFrom_32 : decode cX2_bestFrom 32 = .ok (.invokevirtual 53, 3) := by decide +kernel
theorem dX2_bestFrom_35 : decode cX2_bestFrom 35 = .ok (.ifCond .eq 16, 3) := by decide +kernel
theorem dX2_bestFrom_38 : decode cX2_bestFrom 38 = .ok (.iload_n 3, 1) := by decide +kernel
theorem dX2_bestFrom_39 : decode cX2_bestFrom 39 = .ok (.aload_n 0, 1) := by decide +kernel
theorem dX2_bestFrom_40 : decode cX2_bestFrom 40 = .ok (.iload_n 1, 1) := by decide +kernel
theorem dX2_bestFrom_41 : decode cX2_bestFrom 41 = .ok (.iload 4, 2) := by decide +kernel
theorem dX2_bestFrom_43 : decode cX2_bestFrom 43 = .ok (.iload_n 2, 1) := by decide +kernel
theorem dX2_bestFrom_44 : decode cX2_bestFrom 44 = .ok (.invokevirtual 56, 3) := by decide +kernel
theorem dX2_bestFrom_47 : decode cX2_bestFrom 47 = .ok (.invokestatic 27, 3) := by decide +kernel
theorem dX2_bestFrom_50 : decode cX2_bestFrom 50 = .ok (.istore_n 3, 1) := by decide +kernel
theorem dX2_bestFrom_51 : decode cX2_bestFrom 51 = .ok (.iinc 4 1, 3) := by decide +kernel
theorem dX2_bestFrom_54 : decode cX2_bestFrom 54 = .ok (.goto (-36), 3) := by decide +kernel
theorem dX2_bestFrom_57 : decode cX2_bestFrom 57 = .ok (.iload_n 3, 1) := by decide +kernel
theorem dX2_bestFrom_58 : decode cX2_bestFrom 58 = .ok (.ireturn, 1) := by decide +kernel
set_option maxRecDepth 20000 in
theorem ggX2_leastBestWant_X2_isOpen : GoodIn wsX2_leastBestWant wsX2_isOpen := goodIn_r _ [7, 8, 13, 14, 15, 16, 17, 18, 19] (by decide +kernel) (by decide +kernel)
set_option maxRecDepth 20000 in
theorem gX2_leastBestWant_X2_isOpen : GoodIn wsX2_leastBestWant (wsV RX2 53 RX2 yX2_isOpen wsX2_isOpen) := goodIn_app (goodIn_of _ (by decide +kernel)) ggX2_leastBestWant_X2_isOpen
set_option maxRecDepth 20000 in
theorem ggX2_leastBestWant_X2_scoreWith : GoodIn wsX2_leastBestWant wsX2_scoreWith := goodIn_r _ [12, 8, 2, 13, 14, 15, 16, 17, 18, 19] (by decide +kernel) (by decide +kernel)
set_option maxRecDepth 20000 in
theorem gX2_leastBestWant_X2_scoreWith : GoodIn wsX2_leastBestWant (wsV RX2 56 RX2 yX2_scoreWith wsX2_scoreWith) := goodIn_app (goodIn_of _ (by decide +kernel)) ggX2_leastBestWant_X2_scoreWith
theorem dX2_leastBestWant_0 : decode cX2_leastBestWant 0 = .ok (.iconst 0, 1) := by decide +kernel
theorem dX2_leastBestWant_1 : decode cX2_leastBestWant 1 = .ok (.istore_n 3, 1) := by decide +kernel
theorem dX2_leastBestWant_2 : decode cX2_leastBestWant 2 = .ok (.iload_n 3, 1) := by decide +kernel
theorem dX2_leastBestWant_3 : decode cX2_leastBestWant 3 = .ok (.aload_n 0, 1) := by decide +kernel
theorem dX2_leastBestWant_4 : decode cX2_leastBestWant 4 = .ok (.getfield 34, 3) := by decide +kernel
theorem dX2_leastBestWant_7 : decode cX2_leastBestWant 7 = .ok (.if_icmp .ge 43, 3) := by decide +kernel
theorem dX2_leastBestWant_10 : decode cX2_leastBestWant 10 = .ok (.aload_n 0, 1) := by decide +kernel
theorem dX2_leastBestWant_11 : decode cX2_leastBestWant 11 = .ok (.iload_n 1, 1) := by decide +kernel
theorem dX2_leastBestWant_12 : decode cX2_leastBestWant 12 = .ok (.iload_n 3, 1) := by decide +kernel
theorem dX2_leastBestWant_13 : decode cX2_leastBestWant 13 = .ok (.iload_n 2, 1) := by decide +kernel
theorem dX2_leastBestWant_14 : decode cX2_leastBestWant 14 = .ok (.invokevirtual 53, 3) := by decide +kernel
theorem dX2_leastBestWant_17 : decode cX2_leastBestWant 17 = .ok (.ifCond .eq 27, 3) := by decide +kernel
theorem dX2_leastBestWant_20 : decode cX2_leastBestWant 20 = .ok (.aload_n 0, 1) := by decide +kernel
theorem dX2_leastBestWant_21 : decode cX2_leastBestWant 21 = .ok (.iload_n 1, 1) := by decide +kernel
theorem dX2_leastBestWant_22 : decode cX2_leastBestWant 22 = .ok (.iload_n 3, 1) := by decide +kernel
theorem dX2_leastBestWant_23 : decode cX2_leastBestWant 23 = .ok (.iload_n 2, 1) := by decide +kernel
theorem dX2_leastBestWant_24 : decode cX2_leastBestWant 24 = .ok (.invokevirtual 56, 3) := by decide +kernel
theorem dX2_leastBestWant_27 : decode cX2_leastBestWant 27 = .ok (.aload_n 0, 1) := by decide +kernel
theorem dX2_leastBestWant_28 : decode cX2_leastBestWant 28 = .ok (.getfield 15, 3) := by decide +kernel
theorem dX2_leastBestWant_31 : decode cX2_leastBestWant 31 = .ok (.iload_n 1, 1) := by decide +kernel
theorem dX2_leastBestWant_32 : decode cX2_leastBestWant 32 = .ok (.sipush 128, 3) := by decide +kernel
theorem dX2_leastBestWant_35 : decode cX2_leastBestWant 35 = .ok (.imul, 1) := by decide +kernel
theorem dX2_leastBestWant_36 : decode cX2_leastBestWant 36 = .ok (.iload_n 2, 1) := by decide +kernel
theorem dX2_leastBestWant_37 : decode cX2_leastBestWant 37 = .ok (.iadd, 1) := by decide +kernel
theorem dX2_leastBestWant_38 : decode cX2_leastBestWant 38 = .ok (.iaload, 1) := by decide +kernel
theorem dX2_leastBestWant_39 : decode cX2_leastBestWant 39 = .ok (.if_icmp .ne 5, 3) := by decide +kernel
theorem dX2_leastBestWant_42 : decode cX2_leastBestWant 42 = .ok (.iload_n 3, 1) := by decide +kernel
theorem dX2_leastBestWant_43 : decode cX2_leastBestWant 43 = .ok (.ireturn, 1) := by decide +kernel
theorem dX2_leastBestWant_44 : decode cX2_leastBestWant 44 = .ok (.iinc 3 1, 3) := by decide +kernel
theorem dX2_leastBestWant_47 : decode cX2_leastBestWant 47 = .ok (.goto (-45), 3) := by decide +kernel
theorem dX2_leastBestWant_50 : decode cX2_leastBestWant 50 = .ok (.bipush (-3), 2) := by decide +kernel
theorem dX2_leastBestWant_52 : decode cX2_leastBestWant 52 = .ok (.ireturn, 1) := by decide +kernel
theorem dX2_isOpen_0 : decode cX2_isOpen 0 = .ok (.iload_n 3, 1) := by decide +kernel
theorem dX2_isOpen_1 : decode cX2_isOpen 1 = .ok (.iconst 1, 1) := by decide +kernel
theorem dX2_isOpen_2 : decode cX2_isOpen 2 = .ok (.iload_n 2, 1) := by decide +kernel
theorem dX2_isOpen_3 : decode cX2_isOpen 3 = .ok (.ishl, 1) := by decide +kernel
theorem dX2_isOpen_4 : decode cX2_isOpen 4 = .ok (.iand, 1) := by decide +kernel
theorem dX2_isOpen_5 : decode cX2_isOpen 5 = .ok (.ifCond .ne 21, 3) := by decide +kernel
theorem dX2_isOpen_8 : decode cX2_isOpen 8 = .ok (.aload_n 0, 1) := by decide +kernel
theorem dX2_isOpen_9 : decode cX2_isOpen 9 = .ok (.getfield 9, 3) := by decide +kernel
theorem dX2_isOpen_12 : decode cX2_isOpen 12 = .ok (.iload_n 1, 1) := by decide +kernel
theorem dX2_isOpen_13 : decode cX2_isOpen 13 = .ok (.bipush 7, 2) := by decide +kernel
theorem dX2_isOpen_15 : decode cX2_isOpen 15 = .ok (.imul, 1) := by decide +kernel
theorem dX2_isOpen_16 : decode cX2_isOpen 16 = .ok (.iload_n 2, 1) := by decide +kernel
theorem dX2_isOpen_17 : decode cX2_isOpen 17 = .ok (.iadd, 1) := by decide +kernel
theorem dX2_isOpen_18 : decode cX2_isOpen 18 = .ok (.iaload, 1) := by decide +kernel
theorem dX2_isOpen_19 : decode cX2_isOpen 19 = .ok (.ifCond .lt 7, 3) := by decide +kernel
theorem dX2_isOpen_22 : decode cX2_isOpen 22 = .ok (.iconst 1, 1) := by decide +kernel
theorem dX2_isOpen_23 : decode cX2_isOpen 23 = .ok (.goto 4, 3) := by decide +kernel
theorem dX2_isOpen_26 : decode cX2_isOpen 26 = .ok (.iconst 0, 1) := by decide +kernel
theorem dX2_isOpen_27 : decode cX2_isOpen 27 = .ok (.ireturn, 1) := by decide +kernel
theorem dX2_scoreWith_0 : decode cX2_scoreWith 0 = .ok (.aload_n 0, 1) := by decide +kernel
theorem dX2_scoreWith_1 : decode cX2_scoreWith 1 = .ok (.getfield 9, 3) := by decide +kernel
theorem dX2_scoreWith_4 : decode cX2_scoreWith 4 = .ok (.iload_n 1, 1) := by decide +kernel
theorem dX2_scoreWith_5 : decode cX2_scoreWith 5 = .ok (.bipush 7, 2) := by decide +kernel
theorem dX2_scoreWith_7 : decode cX2_scoreWith 7 = .ok (.imul, 1) := by decide +kernel
theorem dX2_scoreWith_8 : decode cX2_scoreWith 8 = .ok (.iload_n 2, 1) := by decide +kernel
theorem dX2_scoreWith_9 : decode cX2_scoreWith 9 = .ok (.iadd, 1) := by decide +kernel
theorem dX2_scoreWith_10 : decode cX2_scoreWith 10 = .ok (.iaload, 1) := by decide +kernel
theorem dX2_scoreWith_11 : decode cX2_scoreWith 11 = .ok (.aload_n 0, 1) := by decide +kernel
theorem dX2_scoreWith_12 : decode cX2_scoreWith 12 = .ok (.getfield 15, 3) := by decide +kernel
theorem dX2_scoreWith_15 : decode cX2_scoreWith 15 = .ok (.iload_n 1, 1) := by decide +kernel
theorem dX2_scoreWith_16 : decode cX2_scoreWith 16 = .ok (.iconst 1, 1) := by decide +kernel
theorem dX2_scoreWith_17 : decode cX2_scoreWith 17 = .ok (.iadd, 1) := by decide +kernel
theorem dX2_scoreWith_18 : decode cX2_scoreWith 18 = .ok (.sipush 128, 3) := by decide +kernel
theorem dX2_scoreWith_21 : decode cX2_scoreWith 21 = .ok (.imul, 1) := by decide +kernel
theorem dX2_scoreWith_22 : decode cX2_scoreWith 22 = .ok (.iload_n 3, 1) := by decide +kernel
theorem dX2_scoreWith_23 : decode cX2_scoreWith 23 = .ok (.iconst 1, 1) := by decide +kernel
theorem dX2_scoreWith_24 : decode cX2_scoreWith 24 = .ok (.iload_n 2, 1) := by decide +kernel
theorem dX2_scoreWith_25 : decode cX2_scoreWith 25 = .ok (.ishl, 1) := by decide +kernel
theorem dX2_scoreWith_26 : decode cX2_scoreWith 26 = .ok (.ior, 1) := by decide +kernel
theorem dX2_scoreWith_27 : decode cX2_scoreWith 27 = .ok (.iadd, 1) := by decide +kernel
theorem dX2_scoreWith_28 : decode cX2_scoreWith 28 = .ok (.iaload, 1) := by decide +kernel
theorem dX2_scoreWith_29 : decode cX2_scoreWith 29 = .ok (.iadd, 1) := by decide +kernel
theorem dX2_scoreWith_30 : decode cX2_scoreWith 30 = .ok (.ireturn, 1) := by decide +kernel
theorem dX3_init_0 : decode cX3_init 0 = .ok (.aload_n 0, 1) := by decide +kernel
theorem dX3_init_1 : decode cX3_init 1 = .ok (.invokespecial 5, 3) := by decide +kernel
theorem dX3_init_4 : decode cX3_init 4 = .ok (.aload_n 0, 1) := by decide +kernel
theorem dX3_init_5 : decode cX3_init 5 = .ok (.sipush 148, 3) := by decide +kernel
theorem dX3_init_8 : decode cX3_init 8 = .ok (.newarray .int, 2) := by decide +kernel
theorem dX3_init_10 : decode cX3_init 10 = .ok (.putfield 11, 3) := by decide +kernel
theorem dX3_init_13 : decode cX3_init 13 = .ok (.aload_n 0, 1) := by decide +kernel
theorem dX3_init_14 : decode cX3_init 14 = .ok (.sipush 148, 3) := by decide +kernel
theorem dX3_init_17 : decode cX3_init 17 = .ok (.newarray .int, 2) := by decide +kernel
theorem dX3_init_19 : decode cX3_init 19 = .ok (.putfield 15, 3) := by decide +kernel
theorem dX3_init_22 : decode cX3_init 22 = .ok (.aload_n 0, 1) := by decide +kernel
theorem dX3_init_23 : decode cX3_init 23 = .ok (.sipush 148, 3) := by decide +kernel
theorem dX3_init_26 : decode cX3_init 26 = .ok (.newarray .int, 2) := by decide +kernel
theorem dX3_init_28 : decode cX3_init 28 = .ok (.putfield 18, 3) := by decide +kernel
theorem dX3_init_31 : decode cX3_init 31 = .ok (.aload_n 0, 1) := by decide +kernel
theorem dX3_init_32 : decode cX3_init 32 = .ok (.sipush 148, 3) := by decide +kernel
theorem dX3_init_35 : decode cX3_init 35 = .ok (.newarray .int, 2) := by decide +kernel
theorem dX3_init_37 : decode cX3_init 37 = .ok (.putfield 21, 3) := by decide +kernel
theorem dX3_init_40 : decode cX3_init 40 = .ok (.aload_n 0, 1) := by decide +kernel
theorem dX3_init_41 : decode cX3_init 41 = .ok (.bipush 30, 2) := by decide +kernel
theorem dX3_init_43 : decode cX3_init 43 = .ok (.newarray .int, 2) := by decide +kernel
theorem dX3_init_45 : decode cX3_init 45 = .ok (.putfield 24, 3) := by decide +kernel
theorem dX3_init_48 : decode cX3_init 48 = .ok (.aload_n 0, 1) := by decide +kernel
theorem dX3_init_49 : decode cX3_init 49 = .ok (.bipush 30, 2) := by decide +kernel
theorem dX3_init_51 : decode cX3_init 51 = .ok (.newarray .int, 2) := by decide +kernel
theorem dX3_init_53 : decode cX3_init 53 = .ok (.putfield 27, 3) := by decide +kernel
theorem dX3_init_56 : decode cX3_init 56 = .ok (.aload_n 0, 1) := by decide +kernel
theorem dX3_init_57 : decode cX3_init 57 = .ok (.bipush 30, 2) := by decide +kernel
theorem dX3_init_59 : decode cX3_init 59 = .ok (.newarray .int, 2) := by decide +kernel
theorem dX3_init_61 : decode cX3_init 61 = .ok (.putfield 30, 3) := by decide +kernel
theorem dX3_init_64 : decode cX3_init 64 = .ok (.aload_n 0, 1) := by decide +kernel
theorem dX3_init_65 : decode cX3_init 65 = .ok (.bipush 30, 2) := by decide +kernel
theorem dX3_init_67 : decode cX3_init 67 = .ok (.newarray .int, 2) := by decide +kernel
theorem dX3_init_69 : decode cX3_init 69 = .ok (.putfield 33, 3) := by decide +kernel
theorem dX3_init_72 : decode cX3_init 72 = .ok (.return_, 1) := by decide +kernel
set_option maxRecDepth 20000 in
theorem ggX3_gainAt_X3_isKnot : GoodIn wsX3_gainAt wsX3_isKnot := goodIn_r _ [5, 6, 7, 8] (by decide +kernel) (by decide +kernel)
set_option maxRecDepth 20000 in
theorem gX3_gainAt_X3_isKnot : GoodIn wsX3_gainAt (va_wsS RX3 36 yX3_isKnot wsX3_isKnot) := goodIn_app (goodIn_of _ (by decide +kernel)) ggX3_gainAt_X3_isKnot
theorem dX3_gainAt_0 : decode cX3_gainAt 0 = .ok (.iload_n 1, 1) := by decide +kernel
theorem dX3_gainAt_1 : decode cX3_gainAt 1 = .ok (.invokestatic 36, 3) := by decide +kernel
theorem dX3_gainAt_4 : decode cX3_gainAt 4 = .ok (.ifCond .eq 12, 3) := by decide +kernel
theorem dX3_gainAt_7 : decode cX3_gainAt 7 = .ok (.aload_n 0, 1) := by decide +kernel
theorem dX3_gainAt_8 : decode cX3_gainAt 8 = .ok (.getfield 30, 3) := by decide +kernel
theorem dX3_gainAt_11 : decode cX3_gainAt 11 = .ok (.iload_n 1, 1) := by decide +kernel
theorem dX3_gainAt_12 : decode cX3_gainAt 12 = .ok (.iaload, 1) := by decide +kernel
theorem dX3_gainAt_13 : decode cX3_gainAt 13 = .ok (.goto 4, 3) := by decide +kernel
theorem dX3_gainAt_16 : decode cX3_gainAt 16 = .ok (.iconst 0, 1) := by decide +kernel
theorem dX3_gainAt_17 : decode cX3_gainAt 17 = .ok (.ireturn, 1) := by decide +kernel
set_option maxRecDepth 20000 in
theorem ggX3_isKnot_X6_isWithin : GoodIn wsX3_isKnot wsX6_isWithin := goodIn_r _ [3] (by decide +kernel) (by decide +kernel)
set_option maxRecDepth 20000 in
theorem gX3_isKnot_X6_isWithin_n40 : GoodIn wsX3_isKnot (wsX6_isWithin) := ggX3_isKnot_X6_isWithin
theorem dX3_isKnot_0 : decode cX3_isKnot 0 = .ok (.iload_n 0, 1) := by decide +kernel
theorem dX3_isKnot_1 : decode cX3_isKnot 1 = .ok (.iconst 0, 1) := by decide +kernel
theorem dX3_isKnot_2 : decode cX3_isKnot 2 = .ok (.bipush 29, 2) := by decide +kernel
theorem dX3_isKnot_4 : decode cX3_isKnot 4 = .ok (.invokestatic 40, 3) := by decide +kernel
theorem dX3_isKnot_7 : decode cX3_isKnot 7 = .ok (.ireturn, 1) := by decide +kernel
set_option maxRecDepth 20000 in
theorem ggX3_solve_X3_layKnots : GoodIn wsX3_solve wsX3_layKnots := goodIn_r _ [6, 7, 8, 9, 10, 11, 12, 13, 14, 15, 16, 17, 18, 19, 20, 21, 22, 23, 24, 25, 26, 27, 28, 79, 80, 81, 82, 83, 84, 85, 86, 87, 88, 89, 90, 91, 92, 93, 94, 95, 96, 97, 98, 99, 100, 101, 102, 103, 104, 105, 106] (by decide +kernel) (by decide +kernel)
set_option maxRecDepth 20000 in
theorem gX3_solve_X3_layKnots : GoodIn wsX3_solve (wsV RX3 44 RX3 yX3_layKnots wsX3_layKnots) := goodIn_app (goodIn_of _ (by decide +kernel)) ggX3_solve_X3_layKnots
set_option maxRecDepth 20000 in
theorem ggX3_solve_X3_layArcs : GoodIn wsX3_solve wsX3_layArcs := goodIn_r _ [32, 33, 34, 35, 36, 20, 37, 28, 17, 18, 19, 21, 22, 23, 24, 25, 26, 27, 38, 39, 40, 41, 42, 43, 5, 44, 45, 46, 47, 48, 49, 50, 51, 52, 53, 54, 55, 56, 57, 92, 93, 94, 95, 96, 97, 98, 99, 100, 101, 102, 103, 104, 105, 106] (by decide +kernel) (by decide +kernel)
set_option maxRecDepth 20000 in
theorem gX3_solve_X3_layArcs : GoodIn wsX3_solve (wsV RX3 54 RX3 yX3_layArcs wsX3_layArcs) := goodIn_app (goodIn_of _ (by decide +kernel)) ggX3_solve_X3_layArcs
set_option maxRecDepth 20000 in
theorem ggX3_solve_X3_reckonGains : GoodIn wsX3_solve wsX3_reckonGains := goodIn_r _ [61, 62, 16, 8, 63, 33, 57, 55, 56, 54, 92, 93, 94, 95, 96, 97, 98, 99, 100, 101, 102] (by decide +kernel) (by decide +kernel)
set_option maxRecDepth 20000 in
theorem gX3_solve_X3_reckonGains : GoodIn wsX3_solve (wsV RX3 58 RX3 yX3_reckonGains wsX3_reckonGains) := goodIn_app (goodIn_of _ (by decide +kernel)) ggX3_solve_X3_reckonGains
set_option maxRecDepth 20000 in
theorem ggX3_solve_X3_knotToSend : GoodIn wsX3_solve wsX3_knotToSend := goodIn_r _ [67, 11, 62, 92, 93, 94, 95, 96, 97, 98, 99, 100, 101, 102] (by decide +kernel) (by decide +kernel)
set_option maxRecDepth 20000 in
theorem gX3_solve_X3_knotToSend : GoodIn wsX3_solve (wsV RX3 61 RX3 yX3_knotToSend wsX3_knotToSend) := goodIn_app (goodIn_of _ (by decide +kernel)) ggX3_solve_X3_knotToSend
set_option maxRecDepth 20000 in
theorem ggX3_solve_X3_sendFrom : GoodIn wsX3_solve wsX3_sendFrom := goodIn_r _ [71, 63, 57, 55, 16, 11, 9, 62, 72, 73, 74, 5, 75, 76, 77, 14, 78, 92, 93, 94, 95, 96, 97, 98, 99, 100, 101, 102] (by decide +kernel) (by decide +kernel)
set_option maxRecDepth 20000 in
theorem gX3_solve_X3_sendFrom : GoodIn wsX3_solve (wsV RX3 65 RX3 yX3_sendFrom wsX3_sendFrom) := goodIn_app (goodIn_of _ (by decide +kernel)) ggX3_solve_X3_sendFrom
theorem dX3_solve_0 : decode cX3_solve 0 = .ok (.aload_n 0, 1) := by decide +kernel
theorem dX3_solve_1 : decode cX3_solve 1 = .ok (.aload_n 1, 1) := by decide +kernel
theorem dX3_solve_2 : decode cX3_solve 2 = .ok (.invokevirtual 44, 3) := by decide +kernel
theorem dX3_solve_5 : decode cX3_solve 5 = .ok (.aload_n 0, 1) := by decide +kernel
theorem dX3_solve_6 : decode cX3_solve 6 = .ok (.aload_n 1, 1) := by decide +kernel
theorem dX3_solve_7 : decode cX3_solve 7 = .ok (.getfield 48, 3) := by decide +kernel
theorem dX3_solve_10 : decode cX3_solve 10 = .ok (.invokevirtual 54, 3) := by decide +kernel
theorem dX3_solve_13 : decode cX3_solve 13 = .ok (.aload_n 0, 1) := by decide +kernel
theorem dX3_solve_14 : decode cX3_solve 14 = .ok (.invokevirtual 58, 3) := by decide +kernel
theorem dX3_solve_17 : decode cX3_solve 17 = .ok (.iconst 0, 1) := by decide +kernel
theorem dX3_solve_18 : decode cX3_solve 18 = .ok (.istore_n 2, 1) := by decide +kernel
theorem dX3_solve_19 : decode cX3_solve 19 = .ok (.iload_n 2, 1) := by decide +kernel
theorem dX3_solve_20 : decode cX3_solve 20 = .ok (.sipush 271, 3) := by decide +kernel
theorem dX3_solve_23 : decode cX3_solve 23 = .ok (.if_icmp .ge 30, 3) := by decide +kernel
theorem dX3_solve_26 : decode cX3_solve 26 = .ok (.aload_n 0, 1) := by decide +kernel
theorem dX3_solve_27 : decode cX3_solve 27 = .ok (.invokevirtual 61, 3) := by decide +kernel
theorem dX3_solve_30 : decode cX3_solve 30 = .ok (.istore_n 3, 1) := by decide +kernel
theorem dX3_solve_31 : decode cX3_solve 31 = .ok (.iload_n 3, 1) := by decide +kernel
theorem dX3_solve_32 : decode cX3_solve 32 = .ok (.ifCond .ge 6, 3) := by decide +kernel
theorem dX3_solve_35 : decode cX3_solve 35 = .ok (.goto 18, 3) := by decide +kernel
theorem dX3_solve_38 : decode cX3_solve 38 = .ok (.aload_n 0, 1) := by decide +kernel
theorem dX3_solve_39 : decode cX3_solve 39 = .ok (.iload_n 3, 1) := by decide +kernel
theorem dX3_solve_40 : decode cX3_solve 40 = .ok (.invokevirtual 65, 3) := by decide +kernel
theorem dX3_solve_43 : decode cX3_solve 43 = .ok (.aload_n 0, 1) := by decide +kernel
theorem dX3_solve_44 : decode cX3_solve 44 = .ok (.invokevirtual 58, 3) := by decide +kernel
theorem dX3_solve_47 : decode cX3_solve 47 = .ok (.iinc 2 1, 3) := by decide +kernel
theorem dX3_solve_50 : decode cX3_solve 50 = .ok (.goto (-31), 3) := by decide +kernel
theorem dX3_solve_53 : decode cX3_solve 53 = .ok (.return_, 1) := by decide +kernel
set_option maxRecDepth 20000 in
theorem ggX3_layKnots_X4_cell : GoodIn wsX3_layKnots wsX4_cell := goodIn_r _ [15, 16, 17, 18, 19, 20, 14, 21, 22, 47, 48, 49, 50] (by decide +kernel) (by decide +kernel)
set_option maxRecDepth 20000 in
theorem gX3_layKnots_X4_cell : GoodIn wsX3_layKnots (wsV RX3 80 RX4 yX4_cell wsX4_cell) := goodIn_app (goodIn_of _ (by decide +kernel)) ggX3_layKnots_X4_cell
theorem dX3_layKnots_0 : decode cX3_layKnots 0 = .ok (.aload_n 0, 1) := by decide +kernel
theorem dX3_layKnots_1 : decode cX3_layKnots 1 = .ok (.aload_n 1, 1) := by decide +kernel
theorem dX3_layKnots_2 : decode cX3_layKnots 2 = .ok (.getfield 69, 3) := by decide +kernel
theorem dX3_layKnots_5 : decode cX3_layKnots 5 = .ok (.putfield 73, 3) := by decide +kernel
theorem dX3_layKnots_8 : decode cX3_layKnots 8 = .ok (.aload_n 0, 1) := by decide +kernel
theorem dX3_layKnots_9 : decode cX3_layKnots 9 = .ok (.iconst 0, 1) := by decide +kernel
theorem dX3_layKnots_10 : decode cX3_layKnots 10 = .ok (.putfield 74, 3) := by decide +kernel
theorem dX3_layKnots_13 : decode cX3_layKnots 13 = .ok (.iconst 0, 1) := by decide +kernel
theorem dX3_layKnots_14 : decode cX3_layKnots 14 = .ok (.istore_n 2, 1) := by decide +kernel
theorem dX3_layKnots_15 : decode cX3_layKnots 15 = .ok (.iload_n 2, 1) := by decide +kernel
theorem dX3_layKnots_16 : decode cX3_layKnots 16 = .ok (.bipush 30, 2) := by decide +kernel
theorem dX3_layKnots_18 : decode cX3_layKnots 18 = .ok (.if_icmp .ge 78, 3) := by decide +kernel
theorem dX3_layKnots_21 : decode cX3_layKnots 21 = .ok (.aload_n 1, 1) := by decide +kernel
theorem dX3_layKnots_22 : decode cX3_layKnots 22 = .ok (.getfield 77, 3) := by decide +kernel
theorem dX3_layKnots_25 : decode cX3_layKnots 25 = .ok (.iload_n 2, 1) := by decide +kernel
theorem dX3_layKnots_26 : decode cX3_layKnots 26 = .ok (.iconst 0, 1) := by decide +kernel
theorem dX3_layKnots_27 : decode cX3_layKnots 27 = .ok (.invokevirtual 80, 3) := by decide +kernel
theorem dX3_layKnots_30 : decode cX3_layKnots 30 = .ok (.istore_n 3, 1) := by decide +kernel
theorem dX3_layKnots_31 : decode cX3_layKnots 31 = .ok (.aload_n 1, 1) := by decide +kernel
theorem dX3_layKnots_32 : decode cX3_layKnots 32 = .ok (.getfield 77, 3) := by decide +kernel
theorem dX3_layKnots_35 : decode cX3_layKnots 35 = .ok (.iload_n 2, 1) := by decide +kernel
theorem dX3_layKnots_36 : decode cX3_layKnots 36 = .ok (.iconst 1, 1) := by decide +kernel
theorem dX3_layKnots_37 : decode cX3_layKnots 37 = .ok (.invokevirtual 80, 3) := by decide +kernel
theorem dX3_layKnots_40 : decode cX3_layKnots 40 = .ok (.istore 4, 2) := by decide +kernel
theorem dX3_layKnots_42 : decode cX3_layKnots 42 = .ok (.aload_n 0, 1) := by decide +kernel
theorem dX3_layKnots_43 : decode cX3_layKnots 43 = .ok (.getfield 24, 3) := by decide +kernel
theorem dX3_layKnots_46 : decode cX3_layKnots 46 = .ok (.iload_n 2, 1) := by decide +kernel
theorem dX3_layKnots_47 : decode cX3_layKnots 47 = .ok (.iconst 0, 1) := by decide +kernel
theorem dX3_layKnots_48 : decode cX3_layKnots 48 = .ok (.iload_n 3, 1) := by decide +kernel
theorem dX3_layKnots_49 : decode cX3_layKnots 49 = .ok (.iload 4, 2) := by decide +kernel
theorem dX3_layKnots_51 : decode cX3_layKnots 51 = .ok (.isub, 1) := by decide +kernel
theorem dX3_layKnots_52 : decode cX3_layKnots 52 = .ok (.invokestatic 86, 3) := by decide +kernel
theorem dX3_layKnots_55 : decode cX3_layKnots 55 = .ok (.iastore, 1) := by decide +kernel
theorem dX3_layKnots_56 : decode cX3_layKnots 56 = .ok (.aload_n 0, 1) := by decide +kernel
theorem dX3_layKnots_57 : decode cX3_layKnots 57 = .ok (.getfield 27, 3) := by decide +kernel
theorem dX3_layKnots_60 : decode cX3_layKnots 60 = .ok (.iload_n 2, 1) := by decide +kernel
theorem dX3_layKnots_61 : decode cX3_layKnots 61 = .ok (.iconst 0, 1) := by decide +kernel
theorem dX3_layKnots_62 : decode cX3_layKnots 62 = .ok (.iload 4, 2) := by decide +kernel
theorem dX3_layKnots_64 : decode cX3_layKnots 64 = .ok (.iload_n 3, 1) := by decide +kernel
theorem dX3_layKnots_65 : decode cX3_layKnots 65 = .ok (.isub, 1) := by decide +kernel
theorem dX3_layKnots_66 : decode cX3_layKnots 66 = .ok (.invokestatic 86, 3) := by decide +kernel
theorem dX3_layKnots_69 : decode cX3_layKnots 69 = .ok (.iastore, 1) := by decide +kernel
theorem dX3_layKnots_70 : decode cX3_layKnots 70 = .ok (.aload_n 0, 1) := by decide +kernel
theorem dX3_layKnots_71 : decode cX3_layKnots 71 = .ok (.dup, 1) := by decide +kernel
theorem dX3_layKnots_72 : decode cX3_layKnots 72 = .ok (.getfield 74, 3) := by decide +kernel
theorem dX3_layKnots_75 : decode cX3_layKnots 75 = .ok (.aload_n 0, 1) := by decide +kernel
theorem dX3_layKnots_76 : decode cX3_layKnots 76 = .ok (.getfield 73, 3) := by decide +kernel
theorem dX3_layKnots_79 : decode cX3_layKnots 79 = .ok (.aload_n 0, 1) := by decide +kernel
theorem dX3_layKnots_80 : decode cX3_layKnots 80 = .ok (.getfield 27, 3) := by decide +kernel
theorem dX3_layKnots_83 : decode cX3_layKnots 83 = .ok (.iload_n 2, 1) := by decide +kernel
theorem dX3_layKnots_84 : decode cX3_layKnots 84 = .ok (.iaload, 1) := by decide +kernel
theorem dX3_layKnots_85 : decode cX3_layKnots 85 = .ok (.imul, 1) := by decide +kernel
theorem dX3_layKnots_86 : decode cX3_layKnots 86 = .ok (.iadd, 1) := by decide +kernel
theorem dX3_layKnots_87 : decode cX3_layKnots 87 = .ok (.putfield 74, 3) := by decide +kernel
theorem dX3_layKnots_90 : decode cX3_layKnots 90 = .ok (.iinc 2 1, 3) := by decide +kernel
theorem dX3_layKnots_93 : decode cX3_layKnots 93 = .ok (.goto (-78), 3) := by decide +kernel
theorem dX3_layKnots_96 : decode cX3_layKnots 96 = .ok (.return_, 1) := by decide +kernel
set_option maxRecDepth 20000 in
theorem ggX3_layArcs_X4_size : GoodIn wsX3_layArcs wsX4_size := goodIn_r _ [6, 7, 50, 51, 52, 53] (by decide +kernel) (by decide +kernel)
set_option maxRecDepth 20000 in
theorem gX3_layArcs_X4_size : GoodIn wsX3_layArcs (wsV RX3 94 RX4 yX4_size wsX4_size) := goodIn_app (goodIn_of _ (by decide +kernel)) ggX3_layArcs_X4_size
set_option maxRecDepth 20000 in
theorem ggX3_layArcs_X4_cell : GoodIn wsX3_layArcs wsX4_cell := goodIn_r _ [11, 12, 13, 14, 15, 16, 5, 17, 7, 50, 51, 52, 53] (by decide +kernel) (by decide +kernel)
set_option maxRecDepth 20000 in
theorem gX3_layArcs_X4_cell : GoodIn wsX3_layArcs (wsV RX3 80 RX4 yX4_cell wsX4_cell) := goodIn_app (goodIn_of _ (by decide +kernel)) ggX3_layArcs_X4_cell
set_option maxRecDepth 20000 in
theorem ggX3_layArcs_X6_knotOf : GoodIn wsX3_layArcs wsX6_knotOf := goodIn_r _ [20] (by decide +kernel) (by decide +kernel)
set_option maxRecDepth 20000 in
theorem gX3_layArcs_X6_knotOf_n97 : GoodIn wsX3_layArcs (wsX6_knotOf) := ggX3_layArcs_X6_knotOf
set_option maxRecDepth 20000 in
theorem ggX3_layArcs_X3_layArc : GoodIn wsX3_layArcs wsX3_layArc := goodIn_r _ [25, 1, 26, 27, 24, 28, 29, 19, 30, 31, 32, 33, 34, 35, 36, 37, 38, 39, 40, 41, 42, 43, 44, 45, 46, 47, 48, 49] (by decide +kernel) (by decide +kernel)
set_option maxRecDepth 20000 in
theorem gX3_layArcs_X3_layArc : GoodIn wsX3_layArcs (wsV RX3 100 RX3 yX3_layArc wsX3_layArc) := goodIn_app (goodIn_of _ (by decide +kernel)) ggX3_layArcs_X3_layArc
theorem dX3_layArcs_0 : decode cX3_layArcs 0 = .ok (.aload_n 0, 1) := by decide +kernel
theorem dX3_layArcs_1 : decode cX3_layArcs 1 = .ok (.iconst 0, 1) := by decide +kernel
theorem dX3_layArcs_2 : decode cX3_layArcs 2 = .ok (.putfield 91, 3) := by decide +kernel
theorem dX3_layArcs_5 : decode cX3_layArcs 5 = .ok (.iconst 4, 1) := by decide +kernel
theorem dX3_layArcs_6 : decode cX3_layArcs 6 = .ok (.istore_n 2, 1) := by decide +kernel
theorem dX3_layArcs_7 : decode cX3_layArcs 7 = .ok (.iload_n 2, 1) := by decide +kernel
theorem dX3_layArcs_8 : decode cX3_layArcs 8 = .ok (.ifCond .lt 119, 3) := by decide +kernel
theorem dX3_layArcs_11 : decode cX3_layArcs 11 = .ok (.iconst 0, 1) := by decide +kernel
theorem dX3_layArcs_12 : decode cX3_layArcs 12 = .ok (.istore_n 3, 1) := by decide +kernel
theorem dX3_layArcs_13 : decode cX3_layArcs 13 = .ok (.iload_n 3, 1) := by decide +kernel
theorem dX3_layArcs_14 : decode cX3_layArcs 14 = .ok (.aload_n 1, 1) := by decide +kernel
theorem dX3_layArcs_15 : decode cX3_layArcs 15 = .ok (.invokevirtual 94, 3) := by decide +kernel
theorem dX3_layArcs_18 : decode cX3_layArcs 18 = .ok (.if_icmp .ge 62, 3) := by decide +kernel
theorem dX3_layArcs_21 : decode cX3_layArcs 21 = .ok (.iload_n 2, 1) := by decide +kernel
theorem dX3_layArcs_22 : decode cX3_layArcs 22 = .ok (.aload_n 1, 1) := by decide +kernel
theorem dX3_layArcs_23 : decode cX3_layArcs 23 = .ok (.iload_n 3, 1) := by decide +kernel
theorem dX3_layArcs_24 : decode cX3_layArcs 24 = .ok (.iconst 2, 1) := by decide +kernel
theorem dX3_layArcs_25 : decode cX3_layArcs 25 = .ok (.invokevirtual 80, 3) := by decide +kernel
theorem dX3_layArcs_28 : decode cX3_layArcs 28 = .ok (.iadd, 1) := by decide +kernel
theorem dX3_layArcs_29 : decode cX3_layArcs 29 = .ok (.istore 4, 2) := by decide +kernel
theorem dX3_layArcs_31 : decode cX3_layArcs 31 = .ok (.iload 4, 2) := by decide +kernel
theorem dX3_layArcs_33 : decode cX3_layArcs 33 = .ok (.iconst 5, 1) := by decide +kernel
theorem dX3_layArcs_34 : decode cX3_layArcs 34 = .ok (.if_icmp .ge 40, 3) := by decide +kernel
theorem dX3_layArcs_37 : decode cX3_layArcs 37 = .ok (.aload_n 0, 1) := by decide +kernel
theorem dX3_layArcs_38 : decode cX3_layArcs 38 = .ok (.aload_n 1, 1) := by decide +kernel
theorem dX3_layArcs_39 : decode cX3_layArcs 39 = .ok (.iload_n 3, 1) := by decide +kernel
theorem dX3_layArcs_40 : decode cX3_layArcs 40 = .ok (.iconst 0, 1) := by decide +kernel
theorem dX3_layArcs_41 : decode cX3_layArcs 41 = .ok (.invokevirtual 80, 3) := by decide +kernel
theorem dX3_layArcs_44 : decode cX3_layArcs 44 = .ok (.iload_n 2, 1) := by decide +kernel
theorem dX3_layArcs_45 : decode cX3_layArcs 45 = .ok (.invokestatic 97, 3) := by decide +kernel
theorem dX3_layArcs_48 : decode cX3_layArcs 48 = .ok (.aload_n 1, 1) := by decide +kernel
theorem dX3_layArcs_49 : decode cX3_layArcs 49 = .ok (.iload_n 3, 1) := by decide +kernel
theorem dX3_layArcs_50 : decode cX3_layArcs 50 = .ok (.iconst 1, 1) := by decide +kernel
theorem dX3_layArcs_51 : decode cX3_layArcs 51 = .ok (.invokevirtual 80, 3) := by decide +kernel
theorem dX3_layArcs_54 : decode cX3_layArcs 54 = .ok (.iload 4, 2) := by decide +kernel
theorem dX3_layArcs_56 : decode cX3_layArcs 56 = .ok (.invokestatic 97, 3) := by decide +kernel
theorem dX3_layArcs_59 : decode cX3_layArcs 59 = .ok (.aload_n 1, 1) := by decide +kernel
theorem dX3_layArcs_60 : decode cX3_layArcs 60 = .ok (.iload_n 3, 1) := by decide +kernel
theorem dX3_layArcs_61 : decode cX3_layArcs 61 = .ok (.iconst 3, 1) := by decide +kernel
theorem dX3_layArcs_62 : decode cX3_layArcs 62 = .ok (.invokevirtual 80, 3) := by decide +kernel
theorem dX3_layArcs_65 : decode cX3_layArcs 65 = .ok (.aload_n 1, 1) := by decide +kernel
theorem dX3_layArcs_66 : decode cX3_layArcs 66 = .ok (.iload_n 3, 1) := by decide +kernel
theorem dX3_layArcs_67 : decode cX3_layArcs 67 = .ok (.iconst 4, 1) := by decide +kernel
theorem dX3_layArcs_68 : decode cX3_layArcs 68 = .ok (.invokevirtual 80, 3) := by decide +kernel
theorem dX3_layArcs_71 : decode cX3_layArcs 71 = .ok (.invokevirtual 100, 3) := by decide +kernel
theorem dX3_layArcs_74 : decode cX3_layArcs 74 = .ok (.iinc 3 1, 3) := by decide +kernel
theorem dX3_layArcs_77 : decode cX3_layArcs 77 = .ok (.goto (-64), 3) := by decide +kernel
theorem dX3_layArcs_80 : decode cX3_layArcs 80 = .ok (.iconst 0, 1) := by decide +kernel
theorem dX3_layArcs_81 : decode cX3_layArcs 81 = .ok (.istore_n 3, 1) := by decide +kernel
theorem dX3_layArcs_82 : decode cX3_layArcs 82 = .ok (.iload_n 3, 1) := by decide +kernel
theorem dX3_layArcs_83 : decode cX3_layArcs 83 = .ok (.bipush 6, 2) := by decide +kernel
theorem dX3_layArcs_85 : decode cX3_layArcs 85 = .ok (.if_icmp .ge 36, 3) := by decide +kernel
theorem dX3_layArcs_88 : decode cX3_layArcs 88 = .ok (.iload_n 2, 1) := by decide +kernel
theorem dX3_layArcs_89 : decode cX3_layArcs 89 = .ok (.iconst 1, 1) := by decide +kernel
theorem dX3_layArcs_90 : decode cX3_layArcs 90 = .ok (.iadd, 1) := by decide +kernel
theorem dX3_layArcs_91 : decode cX3_layArcs 91 = .ok (.iconst 5, 1) := by decide +kernel
theorem dX3_layArcs_92 : decode cX3_layArcs 92 = .ok (.if_icmp .ge 29, 3) := by decide +kernel
theorem dX3_layArcs_95 : decode cX3_layArcs 95 = .ok (.aload_n 0, 1) := by decide +kernel
theorem dX3_layArcs_96 : decode cX3_layArcs 96 = .ok (.iload_n 3, 1) := by decide +kernel
theorem dX3_layArcs_97 : decode cX3_layArcs 97 = .ok (.iload_n 2, 1) := by decide +kernel
theorem dX3_layArcs_98 : decode cX3_layArcs 98 = .ok (.invokestatic 97, 3) := by decide +kernel
theorem dX3_layArcs_101 : decode cX3_layArcs 101 = .ok (.iload_n 3, 1) := by decide +kernel
theorem dX3_layArcs_102 : decode cX3_layArcs 102 = .ok (.iload_n 2, 1) := by decide +kernel
theorem dX3_layArcs_103 : decode cX3_layArcs 103 = .ok (.iconst 1, 1) := by decide +kernel
theorem dX3_layArcs_104 : decode cX3_layArcs 104 = .ok (.iadd, 1) := by decide +kernel
theorem dX3_layArcs_105 : decode cX3_layArcs 105 = .ok (.invokestatic 97, 3) := by decide +kernel
theorem dX3_layArcs_108 : decode cX3_layArcs 108 = .ok (.iconst 0, 1) := by decide +kernel
theorem dX3_layArcs_109 : decode cX3_layArcs 109 = .ok (.sipush 1000, 3) := by decide +kernel
theorem dX3_layArcs_112 : decode cX3_layArcs 112 = .ok (.invokevirtual 100, 3) := by decide +kernel
theorem dX3_layArcs_115 : decode cX3_layArcs 115 = .ok (.iinc 3 1, 3) := by decide +kernel
theorem dX3_layArcs_118 : decode cX3_layArcs 118 = .ok (.goto (-36), 3) := by decide +kernel
theorem dX3_layArcs_121 : decode cX3_layArcs 121 = .ok (.iinc 2 (-1), 3) := by decide +kernel
theorem dX3_layArcs_124 : decode cX3_layArcs 124 = .ok (.goto (-117), 3) := by decide +kernel
theorem dX3_layArcs_127 : decode cX3_layArcs 127 = .ok (.return_, 1) := by decide +kernel
set_option maxRecDepth 20000 in
theorem ggX3_layArc_X3_isKnot : GoodIn wsX3_layArc wsX3_isKnot := goodIn_r _ [5, 6, 7, 8] (by decide +kernel) (by decide +kernel)
set_option maxRecDepth 20000 in
theorem gX3_layArc_X3_isKnot : GoodIn wsX3_layArc (va_wsS RX3 36 yX3_isKnot wsX3_isKnot) := goodIn_app (goodIn_of _ (by decide +kernel)) ggX3_layArc_X3_isKnot
set_option maxRecDepth 20000 in
theorem ggX3_layArc_X3_putArc : GoodIn wsX3_layArc wsX3_putArc := goodIn_r _ [12, 13, 14, 15, 16, 17, 18, 19, 20, 21, 22, 23, 24, 25, 26, 27] (by decide +kernel) (by decide +kernel)
set_option maxRecDepth 20000 in
theorem gX3_layArc_X3_putArc : GoodIn wsX3_layArc (wsV RX3 104 RX3 yX3_putArc wsX3_putArc) := goodIn_app (goodIn_of _ (by decide +kernel)) ggX3_layArc_X3_putArc
theorem dX3_layArc_0 : decode cX3_layArc 0 = .ok (.aload_n 0, 1) := by decide +kernel
theorem dX3_layArc_1 : decode cX3_layArc 1 = .ok (.getfield 91, 3) := by decide +kernel
theorem dX3_layArc_4 : decode cX3_layArc 4 = .ok (.iconst 1, 1) := by decide +kernel
theorem dX3_layArc_5 : decode cX3_layArc 5 = .ok (.iadd, 1) := by decide +kernel
theorem dX3_layArc_6 : decode cX3_layArc 6 = .ok (.sipush 148, 3) := by decide +kernel
theorem dX3_layArc_9 : decode cX3_layArc 9 = .ok (.if_icmp .ge 55, 3) := by decide +kernel
theorem dX3_layArc_12 : decode cX3_layArc 12 = .ok (.iload_n 1, 1) := by decide +kernel
theorem dX3_layArc_13 : decode cX3_layArc 13 = .ok (.invokestatic 36, 3) := by decide +kernel
theorem dX3_layArc_16 : decode cX3_layArc 16 = .ok (.ifCond .eq 48, 3) := by decide +kernel
theorem dX3_layArc_19 : decode cX3_layArc 19 = .ok (.iload_n 2, 1) := by decide +kernel
theorem dX3_layArc_20 : decode cX3_layArc 20 = .ok (.invokestatic 36, 3) := by decide +kernel
theorem dX3_layArc_23 : decode cX3_layArc 23 = .ok (.ifCond .eq 41, 3) := by decide +kernel
theorem dX3_layArc_26 : decode cX3_layArc 26 = .ok (.aload_n 0, 1) := by decide +kernel
theorem dX3_layArc_27 : decode cX3_layArc 27 = .ok (.aload_n 0, 1) := by decide +kernel
theorem dX3_layArc_28 : decode cX3_layArc 28 = .ok (.getfield 91, 3) := by decide +kernel
theorem dX3_layArc_31 : decode cX3_layArc 31 = .ok (.iload_n 1, 1) := by decide +kernel
theorem dX3_layArc_32 : decode cX3_layArc 32 = .ok (.iload_n 2, 1) := by decide +kernel
theorem dX3_layArc_33 : decode cX3_layArc 33 = .ok (.iload_n 3, 1) := by decide +kernel
theorem dX3_layArc_34 : decode cX3_layArc 34 = .ok (.iload 4, 2) := by decide +kernel
theorem dX3_layArc_36 : decode cX3_layArc 36 = .ok (.invokevirtual 104, 3) := by decide +kernel
theorem dX3_layArc_39 : decode cX3_layArc 39 = .ok (.aload_n 0, 1) := by decide +kernel
theorem dX3_layArc_40 : decode cX3_layArc 40 = .ok (.aload_n 0, 1) := by decide +kernel
theorem dX3_layArc_41 : decode cX3_layArc 41 = .ok (.getfield 91, 3) := by decide +kernel
theorem dX3_layArc_44 : decode cX3_layArc 44 = .ok (.iconst 1, 1) := by decide +kernel
theorem dX3_layArc_45 : decode cX3_layArc 45 = .ok (.iadd, 1) := by decide +kernel
theorem dX3_layArc_46 : decode cX3_layArc 46 = .ok (.iload_n 2, 1) := by decide +kernel
theorem dX3_layArc_47 : decode cX3_layArc 47 = .ok (.iload_n 1, 1) := by decide +kernel
theorem dX3_layArc_48 : decode cX3_layArc 48 = .ok (.iload_n 3, 1) := by decide +kernel
theorem dX3_layArc_49 : decode cX3_layArc 49 = .ok (.ineg, 1) := by decide +kernel
theorem dX3_layArc_50 : decode cX3_layArc 50 = .ok (.iconst 0, 1) := by decide +kernel
theorem dX3_layArc_51 : decode cX3_layArc 51 = .ok (.invokevirtual 104, 3) := by decide +kernel
theorem dX3_layArc_54 : decode cX3_layArc 54 = .ok (.aload_n 0, 1) := by decide +kernel
theorem dX3_layArc_55 : decode cX3_layArc 55 = .ok (.dup, 1) := by decide +kernel
theorem dX3_layArc_56 : decode cX3_layArc 56 = .ok (.getfield 91, 3) := by decide +kernel
theorem dX3_layArc_59 : decode cX3_layArc 59 = .ok (.iconst 2, 1) := by decide +kernel
theorem dX3_layArc_60 : decode cX3_layArc 60 = .ok (.iadd, 1) := by decide +kernel
theorem dX3_layArc_61 : decode cX3_layArc 61 = .ok (.putfield 91, 3) := by decide +kernel
theorem dX3_layArc_64 : decode cX3_layArc 64 = .ok (.return_, 1) := by decide +kernel
theorem dX3_putArc_0 : decode cX3_putArc 0 = .ok (.aload_n 0, 1) := by decide +kernel
theorem dX3_putArc_1 : decode cX3_putArc 1 = .ok (.getfield 11, 3) := by decide +kernel
theorem dX3_putArc_4 : decode cX3_putArc 4 = .ok (.iload_n 1, 1) := by decide +kernel
theorem dX3_putArc_5 : decode cX3_putArc 5 = .ok (.iload_n 2, 1) := by decide +kernel
theorem dX3_putArc_6 : decode cX3_putArc 6 = .ok (.iastore, 1) := by decide +kernel
theorem dX3_putArc_7 : decode cX3_putArc 7 = .ok (.aload_n 0, 1) := by decide +kernel
theorem dX3_putArc_8 : decode cX3_putArc 8 = .ok (.getfield 15, 3) := by decide +kernel
theorem dX3_putArc_11 : decode cX3_putArc 11 = .ok (.iload_n 1, 1) := by decide +kernel
theorem dX3_putArc_12 : decode cX3_putArc 12 = .ok (.iload_n 3, 1) := by decide +kernel
theorem dX3_putArc_13 : decode cX3_putArc 13 = .ok (.iastore, 1) := by decide +kernel
theorem dX3_putArc_14 : decode cX3_putArc 14 = .ok (.aload_n 0, 1) := by decide +kernel
theorem dX3_putArc_15 : decode cX3_putArc 15 = .ok (.getfield 18, 3) := by decide +kernel
theorem dX3_putArc_18 : decode cX3_putArc 18 = .ok (.iload_n 1, 1) := by decide +kernel
theorem dX3_putArc_19 : decode cX3_putArc 19 = .ok (.iload 4, 2) := by decide +kernel
theorem dX3_putArc_21 : decode cX3_putArc 21 = .ok (.iastore, 1) := by decide +kernel
theorem dX3_putArc_22 : decode cX3_putArc 22 = .ok (.aload_n 0, 1) := by decide +kernel
theorem dX3_putArc_23 : decode cX3_putArc 23 = .ok (.getfield 21, 3) := by decide +kernel
theorem dX3_putArc_26 : decode cX3_putArc 26 = .ok (.iload_n 1, 1) := by decide +kernel
theorem dX3_putArc_27 : decode cX3_putArc 27 = .ok (.iload 5, 2) := by decide +kernel
theorem dX3_putArc_29 : decode cX3_putArc 29 = .ok (.iastore, 1) := by decide +kernel
theorem dX3_putArc_30 : decode cX3_putArc 30 = .ok (.return_, 1) := by decide +kernel
theorem dX3_reckonGains_0 : decode cX3_reckonGains 0 = .ok (.iconst 0, 1) := by decide +kernel
theorem dX3_reckonGains_1 : decode cX3_reckonGains 1 = .ok (.istore_n 1, 1) := by decide +kernel
theorem dX3_reckonGains_2 : decode cX3_reckonGains 2 = .ok (.iload_n 1, 1) := by decide +kernel
theorem dX3_reckonGains_3 : decode cX3_reckonGains 3 = .ok (.bipush 30, 2) := by decide +kernel
theorem dX3_reckonGains_5 : decode cX3_reckonGains 5 = .ok (.if_icmp .ge 40, 3) := by decide +kernel
theorem dX3_reckonGains_8 : decode cX3_reckonGains 8 = .ok (.aload_n 0, 1) := by decide +kernel
theorem dX3_reckonGains_9 : decode cX3_reckonGains 9 = .ok (.getfield 30, 3) := by decide +kernel
theorem dX3_reckonGains_12 : decode cX3_reckonGains 12 = .ok (.iload_n 1, 1) := by decide +kernel
theorem dX3_reckonGains_13 : decode cX3_reckonGains 13 = .ok (.aload_n 0, 1) := by decide +kernel
theorem dX3_reckonGains_14 : decode cX3_reckonGains 14 = .ok (.getfield 27, 3) := by decide +kernel
theorem dX3_reckonGains_17 : decode cX3_reckonGains 17 = .ok (.iload_n 1, 1) := by decide +kernel
theorem dX3_reckonGains_18 : decode cX3_reckonGains 18 = .ok (.iaload, 1) := by decide +kernel
theorem dX3_reckonGains_19 : decode cX3_reckonGains 19 = .ok (.ifCond .le 10, 3) := by decide +kernel
theorem dX3_reckonGains_22 : decode cX3_reckonGains 22 = .ok (.aload_n 0, 1) := by decide +kernel
theorem dX3_reckonGains_23 : decode cX3_reckonGains 23 = .ok (.getfield 73, 3) := by decide +kernel
theorem dX3_reckonGains_26 : decode cX3_reckonGains 26 = .ok (.goto 4, 3) := by decide +kernel
theorem dX3_reckonGains_29 : decode cX3_reckonGains 29 = .ok (.iconst 0, 1) := by decide +kernel
theorem dX3_reckonGains_30 : decode cX3_reckonGains 30 = .ok (.iastore, 1) := by decide +kernel
theorem dX3_reckonGains_31 : decode cX3_reckonGains 31 = .ok (.aload_n 0, 1) := by decide +kernel
theorem dX3_reckonGains_32 : decode cX3_reckonGains 32 = .ok (.getfield 33, 3) := by decide +kernel
theorem dX3_reckonGains_35 : decode cX3_reckonGains 35 = .ok (.iload_n 1, 1) := by decide +kernel
theorem dX3_reckonGains_36 : decode cX3_reckonGains 36 = .ok (.bipush (-3), 2) := by decide +kernel
theorem dX3_reckonGains_38 : decode cX3_reckonGains 38 = .ok (.iastore, 1) := by decide +kernel
theorem dX3_reckonGains_39 : decode cX3_reckonGains 39 = .ok (.iinc 1 1, 3) := by decide +kernel
theorem dX3_reckonGains_42 : decode cX3_reckonGains 42 = .ok (.goto (-40), 3) := by decide +kernel
theorem dX3_reckonGains_45 : decode cX3_reckonGains 45 = .ok (.iconst 1, 1) := by decide +kernel
theorem dX3_reckonGains_46 : decode cX3_reckonGains 46 = .ok (.istore_n 1, 1) := by decide +kernel
theorem dX3_reckonGains_47 : decode cX3_reckonGains 47 = .ok (.iconst 0, 1) := by decide +kernel
theorem dX3_reckonGains_48 : decode cX3_reckonGains 48 = .ok (.istore_n 2, 1) := by decide +kernel
theorem dX3_reckonGains_49 : decode cX3_reckonGains 49 = .ok (.iload_n 2, 1) := by decide +kernel
theorem dX3_reckonGains_50 : decode cX3_reckonGains 50 = .ok (.bipush 30, 2) := by decide +kernel
theorem dX3_reckonGains_52 : decode cX3_reckonGains 52 = .ok (.if_icmp .gt 115, 3) := by decide +kernel
theorem dX3_reckonGains_55 : decode cX3_reckonGains 55 = .ok (.iload_n 1, 1) := by decide +kernel
theorem dX3_reckonGains_56 : decode cX3_reckonGains 56 = .ok (.ifCond .eq 111, 3) := by decide +kernel
theorem dX3_reckonGains_59 : decode cX3_reckonGains 59 = .ok (.iconst 0, 1) := by decide +kernel
theorem dX3_reckonGains_60 : decode cX3_reckonGains 60 = .ok (.istore_n 1, 1) := by decide +kernel
theorem dX3_reckonGains_61 : decode cX3_reckonGains 61 = .ok (.iconst 0, 1) := by decide +kernel
theorem dX3_reckonGains_62 : decode cX3_reckonGains 62 = .ok (.istore_n 3, 1) := by decide +kernel
theorem dX3_reckonGains_63 : decode cX3_reckonGains 63 = .ok (.iload_n 3, 1) := by decide +kernel
theorem dX3_reckonGains_64 : decode cX3_reckonGains 64 = .ok (.aload_n 0, 1) := by decide +kernel
theorem dX3_reckonGains_65 : decode cX3_reckonGains 65 = .ok (.getfield 91, 3) := by decide +kernel
theorem dX3_reckonGains_68 : decode cX3_reckonGains 68 = .ok (.if_icmp .ge 93, 3) := by decide +kernel
theorem dX3_reckonGains_71 : decode cX3_reckonGains 71 = .ok (.aload_n 0, 1) := by decide +kernel
theorem dX3_reckonGains_72 : decode cX3_reckonGains 72 = .ok (.getfield 21, 3) := by decide +kernel
theorem dX3_reckonGains_75 : decode cX3_reckonGains 75 = .ok (.iload_n 3, 1) := by decide +kernel
theorem dX3_reckonGains_76 : decode cX3_reckonGains 76 = .ok (.iaload, 1) := by decide +kernel
theorem dX3_reckonGains_77 : decode cX3_reckonGains 77 = .ok (.ifCond .le 78, 3) := by decide +kernel
theorem dX3_reckonGains_80 : decode cX3_reckonGains 80 = .ok (.aload_n 0, 1) := by decide +kernel
theorem dX3_reckonGains_81 : decode cX3_reckonGains 81 = .ok (.getfield 30, 3) := by decide +kernel
theorem dX3_reckonGains_84 : decode cX3_reckonGains 84 = .ok (.aload_n 0, 1) := by decide +kernel
theorem dX3_reckonGains_85 : decode cX3_reckonGains 85 = .ok (.getfield 15, 3) := by decide +kernel
theorem dX3_reckonGains_88 : decode cX3_reckonGains 88 = .ok (.iload_n 3, 1) := by decide +kernel
theorem dX3_reckonGains_89 : decode cX3_reckonGains 89 = .ok (.iaload, 1) := by decide +kernel
theorem dX3_reckonGains_90 : decode cX3_reckonGains 90 = .ok (.iaload, 1) := by decide +kernel
theorem dX3_reckonGains_91 : decode cX3_reckonGains 91 = .ok (.aload_n 0, 1) := by decide +kernel
theorem dX3_reckonGains_92 : decode cX3_reckonGains 92 = .ok (.getfield 18, 3) := by decide +kernel
theorem dX3_reckonGains_95 : decode cX3_reckonGains 95 = .ok (.iload_n 3, 1) := by decide +kernel
theorem dX3_reckonGains_96 : decode cX3_reckonGains 96 = .ok (.iaload, 1) := by decide +kernel
theorem dX3_reckonGains_97 : decode cX3_reckonGains 97 = .ok (.isub, 1) := by decide +kernel
theorem dX3_reckonGains_98 : decode cX3_reckonGains 98 = .ok (.aload_n 0, 1) := by decide +kernel
theorem dX3_reckonGains_99 : decode cX3_reckonGains 99 = .ok (.getfield 30, 3) := by decide +kernel
theorem dX3_reckonGains_102 : decode cX3_reckonGains 102 = .ok (.aload_n 0, 1) := by decide +kernel
theorem dX3_reckonGains_103 : decode cX3_reckonGains 103 = .ok (.getfield 11, 3) := by decide +kernel
theorem dX3_reckonGains_106 : decode cX3_reckonGains 106 = .ok (.iload_n 3, 1) := by decide +kernel
theorem dX3_reckonGains_107 : decode cX3_reckonGains 107 = .ok (.iaload, 1) := by decide +kernel
theorem dX3_reckonGains_108 : decode cX3_reckonGains 108 = .ok (.iaload, 1) := by decide +kernel
theorem dX3_reckonGains_109 : decode cX3_reckonGains 109 = .ok (.if_icmp .le 46, 3) := by decide +kernel
theorem dX3_reckonGains_112 : decode cX3_reckonGains 112 = .ok (.aload_n 0, 1) := by decide +kernel
theorem dX3_reckonGains_113 : decode cX3_reckonGains 113 = .ok (.getfield 30, 3) := by decide +kernel
theorem dX3_reckonGains_116 : decode cX3_reckonGains 116 = .ok (.aload_n 0, 1) := by decide +kernel
theorem dX3_reckonGains_117 : decode cX3_reckonGains 117 = .ok (.getfield 11, 3) := by decide +kernel
theorem dX3_reckonGains_120 : decode cX3_reckonGains 120 = .ok (.iload_n 3, 1) := by decide +kernel
theorem dX3_reckonGains_121 : decode cX3_reckonGains 121 = .ok (.iaload, 1) := by decide +kernel
theorem dX3_reckonGains_122 : decode cX3_reckonGains 122 = .ok (.aload_n 0, 1) := by decide +kernel
theorem dX3_reckonGains_123 : decode cX3_reckonGains 123 = .ok (.getfield 30, 3) := by decide +kernel
theorem dX3_reckonGains_126 : decode cX3_reckonGains 126 = .ok (.aload_n 0, 1) := by decide +kernel
theorem dX3_reckonGains_127 : decode cX3_reckonGains 127 = .ok (.getfield 15, 3) := by decide +kernel
theorem dX3_reckonGains_130 : decode cX3_reckonGains 130 = .ok (.iload_n 3, 1) := by decide +kernel
theorem dX3_reckonGains_131 : decode cX3_reckonGains 131 = .ok (.iaload, 1) := by decide +kernel
theorem dX3_reckonGains_132 : decode cX3_reckonGains 132 = .ok (.iaload, 1) := by decide +kernel
theorem dX3_reckonGains_133 : decode cX3_reckonGains 133 = .ok (.aload_n 0, 1) := by decide +kernel
theorem dX3_reckonGains_134 : decode cX3_reckonGains 134 = .ok (.getfield 18, 3) := by decide +kernel
theorem dX3_reckonGains_137 : decode cX3_reckonGains 137 = .ok (.iload_n 3, 1) := by decide +kernel
theorem dX3_reckonGains_138 : decode cX3_reckonGains 138 = .ok (.iaload, 1) := by decide +kernel
theorem dX3_reckonGains_139 : decode cX3_reckonGains 139 = .ok (.isub, 1) := by decide +kernel
theorem dX3_reckonGains_140 : decode cX3_reckonGains 140 = .ok (.iastore, 1) := by decide +kernel
theorem dX3_reckonGains_141 : decode cX3_reckonGains 141 = .ok (.aload_n 0, 1) := by decide +kernel
theorem dX3_reckonGains_142 : decode cX3_reckonGains 142 = .ok (.getfield 33, 3) := by decide +kernel
theorem dX3_reckonGains_145 : decode cX3_reckonGains 145 = .ok (.aload_n 0, 1) := by decide +kernel
theorem dX3_reckonGains_146 : decode cX3_reckonGains 146 = .ok (.getfield 11, 3) := by decide +kernel
theorem dX3_reckonGains_149 : decode cX3_reckonGains 149 = .ok (.iload_n 3, 1) := by decide +kernel
theorem dX3_reckonGains_150 : decode cX3_reckonGains 150 = .ok (.iaload, 1) := by decide +kernel
theorem dX3_reckonGains_151 : decode cX3_reckonGains 151 = .ok (.iload_n 3, 1) := by decide +kernel
theorem dX3_reckonGains_152 : decode cX3_reckonGains 152 = .ok (.iastore, 1) := by decide +kernel
theorem dX3_reckonGains_153 : decode cX3_reckonGains 153 = .ok (.iconst 1, 1) := by decide +kernel
theorem dX3_reckonGains_154 : decode cX3_reckonGains 154 = .ok (.istore_n 1, 1) := by decide +kernel
theorem dX3_reckonGains_155 : decode cX3_reckonGains 155 = .ok (.iinc 3 1, 3) := by decide +kernel
theorem dX3_reckonGains_158 : decode cX3_reckonGains 158 = .ok (.goto (-95), 3) := by decide +kernel
theorem dX3_reckonGains_161 : decode cX3_reckonGains 161 = .ok (.iinc 2 1, 3) := by decide +kernel
theorem dX3_reckonGains_164 : decode cX3_reckonGains 164 = .ok (.goto (-115), 3) := by decide +kernel
theorem dX3_reckonGains_167 : decode cX3_reckonGains 167 = .ok (.return_, 1) := by decide +kernel
theorem dX3_knotToSend_0 : decode cX3_knotToSend 0 = .ok (.iconst 0, 1) := by decide +kernel
theorem dX3_knotToSend_1 : decode cX3_knotToSend 1 = .ok (.istore_n 1, 1) := by decide +kernel
theorem dX3_knotToSend_2 : decode cX3_knotToSend 2 = .ok (.iload_n 1, 1) := by decide +kernel
theorem dX3_knotToSend_3 : decode cX3_knotToSend 3 = .ok (.bipush 30, 2) := by decide +kernel
theorem dX3_knotToSend_5 : decode cX3_knotToSend 5 = .ok (.if_icmp .ge 29, 3) := by decide +kernel
theorem dX3_knotToSend_8 : decode cX3_knotToSend 8 = .ok (.aload_n 0, 1) := by decide +kernel
theorem dX3_knotToSend_9 : decode cX3_knotToSend 9 = .ok (.getfield 24, 3) := by decide +kernel
theorem dX3_knotToSend_12 : decode cX3_knotToSend 12 = .ok (.iload_n 1, 1) := by decide +kernel
theorem dX3_knotToSend_13 : decode cX3_knotToSend 13 = .ok (.iaload, 1) := by decide +kernel
theorem dX3_knotToSend_14 : decode cX3_knotToSend 14 = .ok (.ifCond .le 14, 3) := by decide +kernel
theorem dX3_knotToSend_17 : decode cX3_knotToSend 17 = .ok (.aload_n 0, 1) := by decide +kernel
theorem dX3_knotToSend_18 : decode cX3_knotToSend 18 = .ok (.getfield 30, 3) := by decide +kernel
theorem dX3_knotToSend_21 : decode cX3_knotToSend 21 = .ok (.iload_n 1, 1) := by decide +kernel
theorem dX3_knotToSend_22 : decode cX3_knotToSend 22 = .ok (.iaload, 1) := by decide +kernel
theorem dX3_knotToSend_23 : decode cX3_knotToSend 23 = .ok (.ifCond .le 5, 3) := by decide +kernel
theorem dX3_knotToSend_26 : decode cX3_knotToSend 26 = .ok (.iload_n 1, 1) := by decide +kernel
theorem dX3_knotToSend_27 : decode cX3_knotToSend 27 = .ok (.ireturn, 1) := by decide +kernel
theorem dX3_knotToSend_28 : decode cX3_knotToSend 28 = .ok (.iinc 1 1, 3) := by decide +kernel
theorem dX3_knotToSend_31 : decode cX3_knotToSend 31 = .ok (.goto (-29), 3) := by decide +kernel
theorem dX3_knotToSend_34 : decode cX3_knotToSend 34 = .ok (.bipush (-3), 2) := by decide +kernel
theorem dX3_knotToSend_36 : decode cX3_knotToSend 36 = .ok (.ireturn, 1) := by decide +kernel
set_option maxRecDepth 20000 in
theorem ggX3_sendFrom_X3_boxesThatGo : GoodIn wsX3_sendFrom wsX3_boxesThatGo := goodIn_r _ [12, 5, 1, 2, 13, 14, 15, 16, 3, 4, 17, 18, 19, 20, 21, 22, 23, 24, 25, 26, 27] (by decide +kernel) (by decide +kernel)
set_option maxRecDepth 20000 in
theorem gX3_sendFrom_X3_boxesThatGo : GoodIn wsX3_sendFrom (wsV RX3 108 RX3 yX3_boxesThatGo wsX3_boxesThatGo) := goodIn_app (goodIn_of _ (by decide +kernel)) ggX3_sendFrom_X3_boxesThatGo
theorem dX3_sendFrom_0 : decode cX3_sendFrom 0 = .ok (.aload_n 0, 1) := by decide +kernel
theorem dX3_sendFrom_1 : decode cX3_sendFrom 1 = .ok (.iload_n 1, 1) := by decide +kernel
theorem dX3_sendFrom_2 : decode cX3_sendFrom 2 = .ok (.invokevirtual 108, 3) := by decide +kernel
theorem dX3_sendFrom_5 : decode cX3_sendFrom 5 = .ok (.istore_n 2, 1) := by decide +kernel
theorem dX3_sendFrom_6 : decode cX3_sendFrom 6 = .ok (.iload_n 1, 1) := by decide +kernel
theorem dX3_sendFrom_7 : decode cX3_sendFrom 7 = .ok (.istore_n 3, 1) := by decide +kernel
theorem dX3_sendFrom_8 : decode cX3_sendFrom 8 = .ok (.iconst 0, 1) := by decide +kernel
theorem dX3_sendFrom_9 : decode cX3_sendFrom 9 = .ok (.istore 4, 2) := by decide +kernel
theorem dX3_sendFrom_11 : decode cX3_sendFrom 11 = .ok (.iload 4, 2) := by decide +kernel
theorem dX3_sendFrom_13 : decode cX3_sendFrom 13 = .ok (.bipush 30, 2) := by decide +kernel
theorem dX3_sendFrom_15 : decode cX3_sendFrom 15 = .ok (.if_icmp .ge 58, 3) := by decide +kernel
theorem dX3_sendFrom_18 : decode cX3_sendFrom 18 = .ok (.aload_n 0, 1) := by decide +kernel
theorem dX3_sendFrom_19 : decode cX3_sendFrom 19 = .ok (.getfield 33, 3) := by decide +kernel
theorem dX3_sendFrom_22 : decode cX3_sendFrom 22 = .ok (.iload_n 3, 1) := by decide +kernel
theorem dX3_sendFrom_23 : decode cX3_sendFrom 23 = .ok (.iaload, 1) := by decide +kernel
theorem dX3_sendFrom_24 : decode cX3_sendFrom 24 = .ok (.ifCond .lt 49, 3) := by decide +kernel
theorem dX3_sendFrom_27 : decode cX3_sendFrom 27 = .ok (.aload_n 0, 1) := by decide +kernel
theorem dX3_sendFrom_28 : decode cX3_sendFrom 28 = .ok (.getfield 33, 3) := by decide +kernel
theorem dX3_sendFrom_31 : decode cX3_sendFrom 31 = .ok (.iload_n 3, 1) := by decide +kernel
theorem dX3_sendFrom_32 : decode cX3_sendFrom 32 = .ok (.iaload, 1) := by decide +kernel
theorem dX3_sendFrom_33 : decode cX3_sendFrom 33 = .ok (.istore 5, 2) := by decide +kernel
theorem dX3_sendFrom_35 : decode cX3_sendFrom 35 = .ok (.aload_n 0, 1) := by decide +kernel
theorem dX3_sendFrom_36 : decode cX3_sendFrom 36 = .ok (.getfield 21, 3) := by decide +kernel
theorem dX3_sendFrom_39 : decode cX3_sendFrom 39 = .ok (.iload 5, 2) := by decide +kernel
theorem dX3_sendFrom_41 : decode cX3_sendFrom 41 = .ok (.dup2, 1) := by decide +kernel
theorem dX3_sendFrom_42 : decode cX3_sendFrom 42 = .ok (.iaload, 1) := by decide +kernel
theorem dX3_sendFrom_43 : decode cX3_sendFrom 43 = .ok (.iload_n 2, 1) := by decide +kernel
theorem dX3_sendFrom_44 : decode cX3_sendFrom 44 = .ok (.isub, 1) := by decide +kernel
theorem dX3_sendFrom_45 : decode cX3_sendFrom 45 = .ok (.iastore, 1) := by decide +kernel
theorem dX3_sendFrom_46 : decode cX3_sendFrom 46 = .ok (.aload_n 0, 1) := by decide +kernel
theorem dX3_sendFrom_47 : decode cX3_sendFrom 47 = .ok (.getfield 21, 3) := by decide +kernel
theorem dX3_sendFrom_50 : decode cX3_sendFrom 50 = .ok (.iload 5, 2) := by decide +kernel
theorem dX3_sendFrom_52 : decode cX3_sendFrom 52 = .ok (.iconst 1, 1) := by decide +kernel
theorem dX3_sendFrom_53 : decode cX3_sendFrom 53 = .ok (.ixor, 1) := by decide +kernel
theorem dX3_sendFrom_54 : decode cX3_sendFrom 54 = .ok (.dup2, 1) := by decide +kernel
theorem dX3_sendFrom_55 : decode cX3_sendFrom 55 = .ok (.iaload, 1) := by decide +kernel
theorem dX3_sendFrom_56 : decode cX3_sendFrom 56 = .ok (.iload_n 2, 1) := by decide +kernel
theorem dX3_sendFrom_57 : decode cX3_sendFrom 57 = .ok (.iadd, 1) := by decide +kernel
theorem dX3_sendFrom_58 : decode cX3_sendFrom 58 = .ok (.iastore, 1) := by decide +kernel
theorem dX3_sendFrom_59 : decode cX3_sendFrom 59 = .ok (.aload_n 0, 1) := by decide +kernel
theorem dX3_sendFrom_60 : decode cX3_sendFrom 60 = .ok (.getfield 15, 3) := by decide +kernel
theorem dX3_sendFrom_63 : decode cX3_sendFrom 63 = .ok (.iload 5, 2) := by decide +kernel
theorem dX3_sendFrom_65 : decode cX3_sendFrom 65 = .ok (.iaload, 1) := by decide +kernel
theorem dX3_sendFrom_66 : decode cX3_sendFrom 66 = .ok (.istore_n 3, 1) := by decide +kernel
theorem dX3_sendFrom_67 : decode cX3_sendFrom 67 = .ok (.iinc 4 1, 3) := by decide +kernel
theorem dX3_sendFrom_70 : decode cX3_sendFrom 70 = .ok (.goto (-59), 3) := by decide +kernel
theorem dX3_sendFrom_73 : decode cX3_sendFrom 73 = .ok (.aload_n 0, 1) := by decide +kernel
theorem dX3_sendFrom_74 : decode cX3_sendFrom 74 = .ok (.getfield 27, 3) := by decide +kernel
theorem dX3_sendFrom_77 : decode cX3_sendFrom 77 = .ok (.iload_n 3, 1) := by decide +kernel
theorem dX3_sendFrom_78 : decode cX3_sendFrom 78 = .ok (.iaload, 1) := by decide +kernel
theorem dX3_sendFrom_79 : decode cX3_sendFrom 79 = .ok (.ifCond .le 13, 3) := by decide +kernel
theorem dX3_sendFrom_82 : decode cX3_sendFrom 82 = .ok (.aload_n 0, 1) := by decide +kernel
theorem dX3_sendFrom_83 : decode cX3_sendFrom 83 = .ok (.getfield 27, 3) := by decide +kernel
theorem dX3_sendFrom_86 : decode cX3_sendFrom 86 = .ok (.iload_n 3, 1) := by decide +kernel
theorem dX3_sendFrom_87 : decode cX3_sendFrom 87 = .ok (.dup2, 1) := by decide +kernel
theorem dX3_sendFrom_88 : decode cX3_sendFrom 88 = .ok (.iaload, 1) := by decide +kernel
theorem dX3_sendFrom_89 : decode cX3_sendFrom 89 = .ok (.iload_n 2, 1) := by decide +kernel
theorem dX3_sendFrom_90 : decode cX3_sendFrom 90 = .ok (.isub, 1) := by decide +kernel
theorem dX3_sendFrom_91 : decode cX3_sendFrom 91 = .ok (.iastore, 1) := by decide +kernel
theorem dX3_sendFrom_92 : decode cX3_sendFrom 92 = .ok (.aload_n 0, 1) := by decide +kernel
theorem dX3_sendFrom_93 : decode cX3_sendFrom 93 = .ok (.getfield 24, 3) := by decide +kernel
theorem dX3_sendFrom_96 : decode cX3_sendFrom 96 = .ok (.iload_n 1, 1) := by decide +kernel
theorem dX3_sendFrom_97 : decode cX3_sendFrom 97 = .ok (.dup2, 1) := by decide +kernel
theorem dX3_sendFrom_98 : decode cX3_sendFrom 98 = .ok (.iaload, 1) := by decide +kernel
theorem dX3_sendFrom_99 : decode cX3_sendFrom 99 = .ok (.iload_n 2, 1) := by decide +kernel
theorem dX3_sendFrom_100 : decode cX3_sendFrom 100 = .ok (.isub, 1) := by decide +kernel
theorem dX3_sendFrom_101 : decode cX3_sendFrom 101 = .ok (.iastore, 1) := by decide +kernel
theorem dX3_sendFrom_102 : decode cX3_sendFrom 102 = .ok (.aload_n 0, 1) := by decide +kernel
theorem dX3_sendFrom_103 : decode cX3_sendFrom 103 = .ok (.dup, 1) := by decide +kernel
theorem dX3_sendFrom_104 : decode cX3_sendFrom 104 = .ok (.getfield 74, 3) := by decide +kernel
theorem dX3_sendFrom_107 : decode cX3_sendFrom 107 = .ok (.iload_n 2, 1) := by decide +kernel
theorem dX3_sendFrom_108 : decode cX3_sendFrom 108 = .ok (.aload_n 0, 1) := by decide +kernel
theorem dX3_sendFrom_109 : decode cX3_sendFrom 109 = .ok (.getfield 30, 3) := by decide +kernel
theorem dX3_sendFrom_112 : decode cX3_sendFrom 112 = .ok (.iload_n 1, 1) := by decide +kernel
theorem dX3_sendFrom_113 : decode cX3_sendFrom 113 = .ok (.iaload, 1) := by decide +kernel
theorem dX3_sendFrom_114 : decode cX3_sendFrom 114 = .ok (.imul, 1) := by decide +kernel
theorem dX3_sendFrom_115 : decode cX3_sendFrom 115 = .ok (.isub, 1) := by decide +kernel
theorem dX3_sendFrom_116 : decode cX3_sendFrom 116 = .ok (.putfield 74, 3) := by decide +kernel
theorem dX3_sendFrom_119 : decode cX3_sendFrom 119 = .ok (.return_, 1) := by decide +kernel
theorem dX3_boxesThatGo_0 : decode cX3_boxesThatGo 0 = .ok (.aload_n 0, 1) := by decide +kernel
theorem dX3_boxesThatGo_1 : decode cX3_boxesThatGo 1 = .ok (.getfield 24, 3) := by decide +kernel
theorem dX3_boxesThatGo_4 : decode cX3_boxesThatGo 4 = .ok (.iload_n 1, 1) := by decide +kernel
theorem dX3_boxesThatGo_5 : decode cX3_boxesThatGo 5 = .ok (.iaload, 1) := by decide +kernel
theorem dX3_boxesThatGo_6 : decode cX3_boxesThatGo 6 = .ok (.istore_n 2, 1) := by decide +kernel
theorem dX3_boxesThatGo_7 : decode cX3_boxesThatGo 7 = .ok (.iload_n 1, 1) := by decide +kernel
theorem dX3_boxesThatGo_8 : decode cX3_boxesThatGo 8 = .ok (.istore_n 3, 1) := by decide +kernel
theorem dX3_boxesThatGo_9 : decode cX3_boxesThatGo 9 = .ok (.iconst 0, 1) := by decide +kernel
theorem dX3_boxesThatGo_10 : decode cX3_boxesThatGo 10 = .ok (.istore 4, 2) := by decide +kernel
theorem dX3_boxesThatGo_12 : decode cX3_boxesThatGo 12 = .ok (.iload 4, 2) := by decide +kernel
theorem dX3_boxesThatGo_14 : decode cX3_boxesThatGo 14 = .ok (.bipush 30, 2) := by decide +kernel
theorem dX3_boxesThatGo_16 : decode cX3_boxesThatGo 16 = .ok (.if_icmp .ge 46, 3) := by decide +kernel
theorem dX3_boxesThatGo_19 : decode cX3_boxesThatGo 19 = .ok (.aload_n 0, 1) := by decide +kernel
theorem dX3_boxesThatGo_20 : decode cX3_boxesThatGo 20 = .ok (.getfield 33, 3) := by decide +kernel
theorem dX3_boxesThatGo_23 : decode cX3_boxesThatGo 23 = .ok (.iload_n 3, 1) := by decide +kernel
theorem dX3_boxesThatGo_24 : decode cX3_boxesThatGo 24 = .ok (.iaload, 1) := by decide +kernel
theorem dX3_boxesThatGo_25 : decode cX3_boxesThatGo 25 = .ok (.ifCond .lt 37, 3) := by decide +kernel
theorem dX3_boxesThatGo_28 : decode cX3_boxesThatGo 28 = .ok (.iload_n 2, 1) := by decide +kernel
theorem dX3_boxesThatGo_29 : decode cX3_boxesThatGo 29 = .ok (.aload_n 0, 1) := by decide +kernel
theorem dX3_boxesThatGo_30 : decode cX3_boxesThatGo 30 = .ok (.getfield 21, 3) := by decide +kernel
theorem dX3_boxesThatGo_33 : decode cX3_boxesThatGo 33 = .ok (.aload_n 0, 1) := by decide +kernel
theorem dX3_boxesThatGo_34 : decode cX3_boxesThatGo 34 = .ok (.getfield 33, 3) := by decide +kernel
theorem dX3_boxesThatGo_37 : decode cX3_boxesThatGo 37 = .ok (.iload_n 3, 1) := by decide +kernel
theorem dX3_boxesThatGo_38 : decode cX3_boxesThatGo 38 = .ok (.iaload, 1) := by decide +kernel
theorem dX3_boxesThatGo_39 : decode cX3_boxesThatGo 39 = .ok (.iaload, 1) := by decide +kernel
theorem dX3_boxesThatGo_40 : decode cX3_boxesThatGo 40 = .ok (.invokestatic 112, 3) := by decide +kernel
theorem dX3_boxesThatGo_43 : decode cX3_boxesThatGo 43 = .ok (.istore_n 2, 1) := by decide +kernel
theorem dX3_boxesThatGo_44 : decode cX3_boxesThatGo 44 = .ok (.aload_n 0, 1) := by decide +kernel
theorem dX3_boxesThatGo_45 : decode cX3_boxesThatGo 45 = .ok (.getfield 15, 3) := by decide +kernel
theorem dX3_boxesThatGo_48 : decode cX3_boxesThatGo 48 = .ok (.aload_n 0, 1) := by decide +kernel
theorem dX3_boxesThatGo_49 : decode cX3_boxesThatGo 49 = .ok (.getfield 33, 3) := by decide +kernel
theorem dX3_boxesThatGo_52 : decode cX3_boxesThatGo 52 = .ok (.iload_n 3, 1) := by decide +kernel
theorem dX3_boxesThatGo_53 : decode cX3_boxesThatGo 53 = .ok (.iaload, 1) := by decide +kernel
theorem dX3_boxesThatGo_54 : decode cX3_boxesThatGo 54 = .ok (.iaload, 1) := by decide +kernel
theorem dX3_boxesThatGo_55 : decode cX3_boxesThatGo 55 = .ok (.istore_n 3, 1) := by decide +kernel
theorem dX3_boxesThatGo_56 : decode cX3_boxesThatGo 56 = .ok (.iinc 4 1, 3) := by decide +kernel
theorem dX3_boxesThatGo_59 : decode cX3_boxesThatGo 59 = .ok (.goto (-47), 3) := by decide +kernel
theorem dX3_boxesThatGo_62 : decode cX3_boxesThatGo 62 = .ok (.aload_n 0, 1) := by decide +kernel
theorem dX3_boxesThatGo_63 : decode cX3_boxesThatGo 63 = .ok (.getfield 27, 3) := by decide +kernel
theorem dX3_boxesThatGo_66 : decode cX3_boxesThatGo 66 = .ok (.iload_n 3, 1) := by decide +kernel
theorem dX3_boxesThatGo_67 : decode cX3_boxesThatGo 67 = .ok (.iaload, 1) := by decide +kernel
theorem dX3_boxesThatGo_68 : decode cX3_boxesThatGo 68 = .ok (.ifCond .le 16, 3) := by decide +kernel
theorem dX3_boxesThatGo_71 : decode cX3_boxesThatGo 71 = .ok (.iload_n 2, 1) := by decide +kernel
theorem dX3_boxesThatGo_72 : decode cX3_boxesThatGo 72 = .ok (.aload_n 0, 1) := by decide +kernel
theorem dX3_boxesThatGo_73 : decode cX3_boxesThatGo 73 = .ok (.getfield 27, 3) := by decide +kernel
theorem dX3_boxesThatGo_76 : decode cX3_boxesThatGo 76 = .ok (.iload_n 3, 1) := by decide +kernel
theorem dX3_boxesThatGo_77 : decode cX3_boxesThatGo 77 = .ok (.iaload, 1) := by decide +kernel
theorem dX3_boxesThatGo_78 : decode cX3_boxesThatGo 78 = .ok (.invokestatic 112, 3) := by decide +kernel
theorem dX3_boxesThatGo_81 : decode cX3_boxesThatGo 81 = .ok (.goto 4, 3) := by decide +kernel
theorem dX3_boxesThatGo_84 : decode cX3_boxesThatGo 84 = .ok (.iload_n 2, 1) := by decide +kernel
theorem dX3_boxesThatGo_85 : decode cX3_boxesThatGo 85 = .ok (.ireturn, 1) := by decide +kernel
theorem dX4_init_0 : decode cX4_init 0 = .ok (.aload_n 0, 1) := by decide +kernel
theorem dX4_init_1 : decode cX4_init 1 = .ok (.invokespecial 3, 3) := by decide +kernel
theorem dX4_init_4 : decode cX4_init 4 = .ok (.aload_n 0, 1) := by decide +kernel
theorem dX4_init_5 : decode cX4_init 5 = .ok (.iconst 0, 1) := by decide +kernel
theorem dX4_init_6 : decode cX4_init 6 = .ok (.iload_n 1, 1) := by decide +kernel
theorem dX4_init_7 : decode cX4_init 7 = .ok (.invokestatic 9, 3) := by decide +kernel
theorem dX4_init_10 : decode cX4_init 10 = .ok (.putfield 15, 3) := by decide +kernel
theorem dX4_init_13 : decode cX4_init 13 = .ok (.aload_n 0, 1) := by decide +kernel
theorem dX4_init_14 : decode cX4_init 14 = .ok (.iconst 0, 1) := by decide +kernel
theorem dX4_init_15 : decode cX4_init 15 = .ok (.iload_n 2, 1) := by decide +kernel
theorem dX4_init_16 : decode cX4_init 16 = .ok (.invokestatic 9, 3) := by decide +kernel
theorem dX4_init_19 : decode cX4_init 19 = .ok (.putfield 21, 3) := by decide +kernel
theorem dX4_init_22 : decode cX4_init 22 = .ok (.aload_n 0, 1) := by decide +kernel
theorem dX4_init_23 : decode cX4_init 23 = .ok (.aload_n 0, 1) := by decide +kernel
theorem dX4_init_24 : decode cX4_init 24 = .ok (.getfield 15, 3) := by decide +kernel
theorem dX4_init_27 : decode cX4_init 27 = .ok (.aload_n 0, 1) := by decide +kernel
theorem dX4_init_28 : decode cX4_init 28 = .ok (.getfield 21, 3) := by decide +kernel
theorem dX4_init_31 : decode cX4_init 31 = .ok (.imul, 1) := by decide +kernel
theorem dX4_init_32 : decode cX4_init 32 = .ok (.newarray .int, 2) := by decide +kernel
theorem dX4_init_34 : decode cX4_init 34 = .ok (.putfield 24, 3) := by decide +kernel
theorem dX4_init_37 : decode cX4_init 37 = .ok (.aload_n 0, 1) := by decide +kernel
theorem dX4_init_38 : decode cX4_init 38 = .ok (.iconst 0, 1) := by decide +kernel
theorem dX4_init_39 : decode cX4_init 39 = .ok (.putfield 28, 3) := by decide +kernel
theorem dX4_init_42 : decode cX4_init 42 = .ok (.return_, 1) := by decide +kernel
theorem dX4_has_0 : decode cX4_has 0 = .ok (.iload_n 1, 1) := by decide +kernel
theorem dX4_has_1 : decode cX4_has 1 = .ok (.ifCond .lt 15, 3) := by decide +kernel
theorem dX4_has_4 : decode cX4_has 4 = .ok (.iload_n 1, 1) := by decide +kernel
theorem dX4_has_5 : decode cX4_has 5 = .ok (.aload_n 0, 1) := by decide +kernel
theorem dX4_has_6 : decode cX4_has 6 = .ok (.getfield 28, 3) := by decide +kernel
theorem dX4_has_9 : decode cX4_has 9 = .ok (.if_icmp .ge 7, 3) := by decide +kernel
theorem dX4_has_12 : decode cX4_has 12 = .ok (.iconst 1, 1) := by decide +kernel
theorem dX4_has_13 : decode cX4_has 13 = .ok (.goto 4, 3) := by decide +kernel
theorem dX4_has_16 : decode cX4_has 16 = .ok (.iconst 0, 1) := by decide +kernel
theorem dX4_has_17 : decode cX4_has 17 = .ok (.ireturn, 1) := by decide +kernel
theorem dX4_isFull_0 : decode cX4_isFull 0 = .ok (.aload_n 0, 1) := by decide +kernel
theorem dX4_isFull_1 : decode cX4_isFull 1 = .ok (.getfield 28, 3) := by decide +kernel
theorem dX4_isFull_4 : decode cX4_isFull 4 = .ok (.aload_n 0, 1) := by decide +kernel
theorem dX4_isFull_5 : decode cX4_isFull 5 = .ok (.getfield 15, 3) := by decide +kernel
theorem dX4_isFull_8 : decode cX4_isFull 8 = .ok (.if_icmp .lt 7, 3) := by decide +kernel
theorem dX4_isFull_11 : decode cX4_isFull 11 = .ok (.iconst 1, 1) := by decide +kernel
theorem dX4_isFull_12 : decode cX4_isFull 12 = .ok (.goto 4, 3) := by decide +kernel
theorem dX4_isFull_15 : decode cX4_isFull 15 = .ok (.iconst 0, 1) := by decide +kernel
theorem dX4_isFull_16 : decode cX4_isFull 16 = .ok (.ireturn, 1) := by decide +kernel
theorem dX4_size_0 : decode cX4_size 0 = .ok (.aload_n 0, 1) := by decide +kernel
theorem dX4_size_1 : decode cX4_size 1 = .ok (.getfield 28, 3) := by decide +kernel
theorem dX4_size_4 : decode cX4_size 4 = .ok (.ireturn, 1) := by decide +kernel
set_option maxRecDepth 20000 in
theorem ggX4_cell_X4_holds : GoodIn wsX4_cell wsX4_holds := goodIn_r _ [7, 8, 2, 9, 10, 11, 12] (by decide +kernel) (by decide +kernel)
set_option maxRecDepth 20000 in
theorem gX4_cell_X4_holds : GoodIn wsX4_cell (wsV RX4 31 RX4 yX4_holds wsX4_holds) := goodIn_app (goodIn_of _ (by decide +kernel)) ggX4_cell_X4_holds
theorem dX4_cell_0 : decode cX4_cell 0 = .ok (.aload_n 0, 1) := by decide +kernel
theorem dX4_cell_1 : decode cX4_cell 1 = .ok (.iload_n 1, 1) := by decide +kernel
theorem dX4_cell_2 : decode cX4_cell 2 = .ok (.iload_n 2, 1) := by decide +kernel
theorem dX4_cell_3 : decode cX4_cell 3 = .ok (.invokevirtual 31, 3) := by decide +kernel
theorem dX4_cell_6 : decode cX4_cell 6 = .ok (.ifCond .eq 19, 3) := by decide +kernel
theorem dX4_cell_9 : decode cX4_cell 9 = .ok (.aload_n 0, 1) := by decide +kernel
theorem dX4_cell_10 : decode cX4_cell 10 = .ok (.getfield 24, 3) := by decide +kernel
theorem dX4_cell_13 : decode cX4_cell 13 = .ok (.iload_n 1, 1) := by decide +kernel
theorem dX4_cell_14 : decode cX4_cell 14 = .ok (.aload_n 0, 1) := by decide +kernel
theorem dX4_cell_15 : decode cX4_cell 15 = .ok (.getfield 21, 3) := by decide +kernel
theorem dX4_cell_18 : decode cX4_cell 18 = .ok (.imul, 1) := by decide +kernel
theorem dX4_cell_19 : decode cX4_cell 19 = .ok (.iload_n 2, 1) := by decide +kernel
theorem dX4_cell_20 : decode cX4_cell 20 = .ok (.iadd, 1) := by decide +kernel
theorem dX4_cell_21 : decode cX4_cell 21 = .ok (.iaload, 1) := by decide +kernel
theorem dX4_cell_22 : decode cX4_cell 22 = .ok (.goto 5, 3) := by decide +kernel
theorem dX4_cell_25 : decode cX4_cell 25 = .ok (.bipush (-3), 2) := by decide +kernel
theorem dX4_cell_27 : decode cX4_cell 27 = .ok (.ireturn, 1) := by decide +kernel
set_option maxRecDepth 20000 in
theorem ggX4_put_X4_holds : GoodIn wsX4_put wsX4_holds := goodIn_r _ [7, 8, 2, 9, 10, 11, 12] (by decide +kernel) (by decide +kernel)
set_option maxRecDepth 20000 in
theorem gX4_put_X4_holds : GoodIn wsX4_put (wsV RX4 31 RX4 yX4_holds wsX4_holds) := goodIn_app (goodIn_of _ (by decide +kernel)) ggX4_put_X4_holds
theorem dX4_put_0 : decode cX4_put 0 = .ok (.aload_n 0, 1) := by decide +kernel
theorem dX4_put_1 : decode cX4_put 1 = .ok (.iload_n 1, 1) := by decide +kernel
theorem dX4_put_2 : decode cX4_put 2 = .ok (.iload_n 2, 1) := by decide +kernel
theorem dX4_put_3 : decode cX4_put 3 = .ok (.invokevirtual 31, 3) := by decide +kernel
theorem dX4_put_6 : decode cX4_put 6 = .ok (.ifCond .eq 17, 3) := by decide +kernel
theorem dX4_put_9 : decode cX4_put 9 = .ok (.aload_n 0, 1) := by decide +kernel
theorem dX4_put_10 : decode cX4_put 10 = .ok (.getfield 24, 3) := by decide +kernel
theorem dX4_put_13 : decode cX4_put 13 = .ok (.iload_n 1, 1) := by decide +kernel
theorem dX4_put_14 : decode cX4_put 14 = .ok (.aload_n 0, 1) := by decide +kernel
theorem dX4_put_15 : decode cX4_put 15 = .ok (.getfield 21, 3) := by decide +kernel
theorem dX4_put_18 : decode cX4_put 18 = .ok (.imul, 1) := by decide +kernel
theorem dX4_put_19 : decode cX4_put 19 = .ok (.iload_n 2, 1) := by decide +kernel
theorem dX4_put_20 : decode cX4_put 20 = .ok (.iadd, 1) := by decide +kernel
theorem dX4_put_21 : decode cX4_put 21 = .ok (.iload_n 3, 1) := by decide +kernel
theorem dX4_put_22 : decode cX4_put 22 = .ok (.iastore, 1) := by decide +kernel
theorem dX4_put_23 : decode cX4_put 23 = .ok (.return_, 1) := by decide +kernel
set_option maxRecDepth 20000 in
theorem ggX4_grow_X4_isFull : GoodIn wsX4_grow wsX4_isFull := goodIn_r _ [6, 1, 7, 8, 9, 10, 11] (by decide +kernel) (by decide +kernel)
set_option maxRecDepth 20000 in
theorem gX4_grow_X4_isFull : GoodIn wsX4_grow (wsV RX4 35 RX4 yX4_isFull wsX4_isFull) := goodIn_app (goodIn_of _ (by decide +kernel)) ggX4_grow_X4_isFull
theorem dX4_grow_0 : decode cX4_grow 0 = .ok (.aload_n 0, 1) := by decide +kernel
theorem dX4_grow_1 : decode cX4_grow 1 = .ok (.invokevirtual 35, 3) := by decide +kernel
theorem dX4_grow_4 : decode cX4_grow 4 = .ok (.ifCond .eq 6, 3) := by decide +kernel
theorem dX4_grow_7 : decode cX4_grow 7 = .ok (.bipush (-3), 2) := by decide +kernel
theorem dX4_grow_9 : decode cX4_grow 9 = .ok (.ireturn, 1) := by decide +kernel
theorem dX4_grow_10 : decode cX4_grow 10 = .ok (.aload_n 0, 1) := by decide +kernel
theorem dX4_grow_11 : decode cX4_grow 11 = .ok (.dup, 1) := by decide +kernel
theorem dX4_grow_12 : decode cX4_grow 12 = .ok (.getfield 28, 3) := by decide +kernel
theorem dX4_grow_15 : decode cX4_grow 15 = .ok (.iconst 1, 1) := by decide +kernel
theorem dX4_grow_16 : decode cX4_grow 16 = .ok (.iadd, 1) := by decide +kernel
theorem dX4_grow_17 : decode cX4_grow 17 = .ok (.putfield 28, 3) := by decide +kernel
theorem dX4_grow_20 : decode cX4_grow 20 = .ok (.aload_n 0, 1) := by decide +kernel
theorem dX4_grow_21 : decode cX4_grow 21 = .ok (.getfield 28, 3) := by decide +kernel
theorem dX4_grow_24 : decode cX4_grow 24 = .ok (.iconst 1, 1) := by decide +kernel
theorem dX4_grow_25 : decode cX4_grow 25 = .ok (.isub, 1) := by decide +kernel
theorem dX4_grow_26 : decode cX4_grow 26 = .ok (.ireturn, 1) := by decide +kernel
theorem dX4_growToMost_0 : decode cX4_growToMost 0 = .ok (.aload_n 0, 1) := by decide +kernel
theorem dX4_growToMost_1 : decode cX4_growToMost 1 = .ok (.aload_n 0, 1) := by decide +kernel
theorem dX4_growToMost_2 : decode cX4_growToMost 2 = .ok (.getfield 15, 3) := by decide +kernel
theorem dX4_growToMost_5 : decode cX4_growToMost 5 = .ok (.putfield 28, 3) := by decide +kernel
theorem dX4_growToMost_8 : decode cX4_growToMost 8 = .ok (.return_, 1) := by decide +kernel
theorem dX4_empty_0 : decode cX4_empty 0 = .ok (.aload_n 0, 1) := by decide +kernel
theorem dX4_empty_1 : decode cX4_empty 1 = .ok (.iconst 0, 1) := by decide +kernel
theorem dX4_empty_2 : decode cX4_empty 2 = .ok (.putfield 28, 3) := by decide +kernel
theorem dX4_empty_5 : decode cX4_empty 5 = .ok (.return_, 1) := by decide +kernel
theorem dX4_become_0 : decode cX4_become 0 = .ok (.aload_n 0, 1) := by decide +kernel
theorem dX4_become_1 : decode cX4_become 1 = .ok (.aload_n 1, 1) := by decide +kernel
theorem dX4_become_2 : decode cX4_become 2 = .ok (.getfield 28, 3) := by decide +kernel
theorem dX4_become_5 : decode cX4_become 5 = .ok (.aload_n 0, 1) := by decide +kernel
theorem dX4_become_6 : decode cX4_become 6 = .ok (.getfield 15, 3) := by decide +kernel
theorem dX4_become_9 : decode cX4_become 9 = .ok (.invokestatic 39, 3) := by decide +kernel
theorem dX4_become_12 : decode cX4_become 12 = .ok (.putfield 28, 3) := by decide +kernel
theorem dX4_become_15 : decode cX4_become 15 = .ok (.aload_n 1, 1) := by decide +kernel
theorem dX4_become_16 : decode cX4_become 16 = .ok (.getfield 24, 3) := by decide +kernel
theorem dX4_become_19 : decode cX4_become 19 = .ok (.iconst 0, 1) := by decide +kernel
theorem dX4_become_20 : decode cX4_become 20 = .ok (.aload_n 0, 1) := by decide +kernel
theorem dX4_become_21 : decode cX4_become 21 = .ok (.getfield 24, 3) := by decide +kernel
theorem dX4_become_24 : decode cX4_become 24 = .ok (.iconst 0, 1) := by decide +kernel
theorem dX4_become_25 : decode cX4_become 25 = .ok (.aload_n 0, 1) := by decide +kernel
theorem dX4_become_26 : decode cX4_become 26 = .ok (.getfield 24, 3) := by decide +kernel
theorem dX4_become_29 : decode cX4_become 29 = .ok (.arraylength, 1) := by decide +kernel
theorem dX4_become_30 : decode cX4_become 30 = .ok (.aload_n 1, 1) := by decide +kernel
theorem dX4_become_31 : decode cX4_become 31 = .ok (.getfield 24, 3) := by decide +kernel
theorem dX4_become_34 : decode cX4_become 34 = .ok (.arraylength, 1) := by decide +kernel
theorem dX4_become_35 : decode cX4_become 35 = .ok (.invokestatic 39, 3) := by decide +kernel
theorem dX4_become_38 : decode cX4_become 38 = .ok (.invokestatic 42, 3) := by decide +kernel
theorem dX4_become_41 : decode cX4_become 41 = .ok (.return_, 1) := by decide +kernel
theorem dX4_holds_0 : decode cX4_holds 0 = .ok (.iload_n 1, 1) := by decide +kernel
theorem dX4_holds_1 : decode cX4_holds 1 = .ok (.ifCond .lt 27, 3) := by decide +kernel
theorem dX4_holds_4 : decode cX4_holds 4 = .ok (.iload_n 1, 1) := by decide +kernel
theorem dX4_holds_5 : decode cX4_holds 5 = .ok (.aload_n 0, 1) := by decide +kernel
theorem dX4_holds_6 : decode cX4_holds 6 = .ok (.getfield 28, 3) := by decide +kernel
theorem dX4_holds_9 : decode cX4_holds 9 = .ok (.if_icmp .ge 19, 3) := by decide +kernel
theorem dX4_holds_12 : decode cX4_holds 12 = .ok (.iload_n 2, 1) := by decide +kernel
theorem dX4_holds_13 : decode cX4_holds 13 = .ok (.ifCond .lt 15, 3) := by decide +kernel
theorem dX4_holds_16 : decode cX4_holds 16 = .ok (.iload_n 2, 1) := by decide +kernel
theorem dX4_holds_17 : decode cX4_holds 17 = .ok (.aload_n 0, 1) := by decide +kernel
theorem dX4_holds_18 : decode cX4_holds 18 = .ok (.getfield 21, 3) := by decide +kernel
theorem dX4_holds_21 : decode cX4_holds 21 = .ok (.if_icmp .ge 7, 3) := by decide +kernel
theorem dX4_holds_24 : decode cX4_holds 24 = .ok (.iconst 1, 1) := by decide +kernel
theorem dX4_holds_25 : decode cX4_holds 25 = .ok (.goto 4, 3) := by decide +kernel
theorem dX4_holds_28 : decode cX4_holds 28 = .ok (.iconst 0, 1) := by decide +kernel
theorem dX4_holds_29 : decode cX4_holds 29 = .ok (.ireturn, 1) := by decide +kernel
theorem dX5_init_0 : decode cX5_init 0 = .ok (.aload_n 0, 1) := by decide +kernel
theorem dX5_init_1 : decode cX5_init 1 = .ok (.invokespecial 3, 3) := by decide +kernel
theorem dX5_init_4 : decode cX5_init 4 = .ok (.aload_n 0, 1) := by decide +kernel
theorem dX5_init_5 : decode cX5_init 5 = .ok (.bipush 120, 2) := by decide +kernel
theorem dX5_init_7 : decode cX5_init 7 = .ok (.newarray .int, 2) := by decide +kernel
theorem dX5_init_9 : decode cX5_init 9 = .ok (.putfield 9, 3) := by decide +kernel
theorem dX5_init_12 : decode cX5_init 12 = .ok (.return_, 1) := by decide +kernel
theorem dX5_size_0 : decode cX5_size 0 = .ok (.aload_n 0, 1) := by decide +kernel
theorem dX5_size_1 : decode cX5_size 1 = .ok (.getfield 15, 3) := by decide +kernel
theorem dX5_size_4 : decode cX5_size 4 = .ok (.ireturn, 1) := by decide +kernel
theorem dX5_takeByte_0 : decode cX5_takeByte 0 = .ok (.aload_n 0, 1) := by decide +kernel
theorem dX5_takeByte_1 : decode cX5_takeByte 1 = .ok (.getfield 15, 3) := by decide +kernel
theorem dX5_takeByte_4 : decode cX5_takeByte 4 = .ok (.bipush 120, 2) := by decide +kernel
theorem dX5_takeByte_6 : decode cX5_takeByte 6 = .ok (.if_icmp .ge 23, 3) := by decide +kernel
theorem dX5_takeByte_9 : decode cX5_takeByte 9 = .ok (.aload_n 0, 1) := by decide +kernel
theorem dX5_takeByte_10 : decode cX5_takeByte 10 = .ok (.getfield 9, 3) := by decide +kernel
theorem dX5_takeByte_13 : decode cX5_takeByte 13 = .ok (.aload_n 0, 1) := by decide +kernel
theorem dX5_takeByte_14 : decode cX5_takeByte 14 = .ok (.getfield 15, 3) := by decide +kernel
theorem dX5_takeByte_17 : decode cX5_takeByte 17 = .ok (.iload_n 1, 1) := by decide +kernel
theorem dX5_takeByte_18 : decode cX5_takeByte 18 = .ok (.iastore, 1) := by decide +kernel
theorem dX5_takeByte_19 : decode cX5_takeByte 19 = .ok (.aload_n 0, 1) := by decide +kernel
theorem dX5_takeByte_20 : decode cX5_takeByte 20 = .ok (.dup, 1) := by decide +kernel
theorem dX5_takeByte_21 : decode cX5_takeByte 21 = .ok (.getfield 15, 3) := by decide +kernel
theorem dX5_takeByte_24 : decode cX5_takeByte 24 = .ok (.iconst 1, 1) := by decide +kernel
theorem dX5_takeByte_25 : decode cX5_takeByte 25 = .ok (.iadd, 1) := by decide +kernel
theorem dX5_takeByte_26 : decode cX5_takeByte 26 = .ok (.putfield 15, 3) := by decide +kernel
theorem dX5_takeByte_29 : decode cX5_takeByte 29 = .ok (.return_, 1) := by decide +kernel
theorem dX5_empty_0 : decode cX5_empty 0 = .ok (.aload_n 0, 1) := by decide +kernel
theorem dX5_empty_1 : decode cX5_empty 1 = .ok (.iconst 0, 1) := by decide +kernel
theorem dX5_empty_2 : decode cX5_empty 2 = .ok (.putfield 15, 3) := by decide +kernel
theorem dX5_empty_5 : decode cX5_empty 5 = .ok (.return_, 1) := by decide +kernel
theorem dX5_rewind_0 : decode cX5_rewind 0 = .ok (.aload_n 0, 1) := by decide +kernel
theorem dX5_rewind_1 : decode cX5_rewind 1 = .ok (.iconst 0, 1) := by decide +kernel
theorem dX5_rewind_2 : decode cX5_rewind 2 = .ok (.putfield 19, 3) := by decide +kernel
theorem dX5_rewind_5 : decode cX5_rewind 5 = .ok (.aload_n 0, 1) := by decide +kernel
theorem dX5_rewind_6 : decode cX5_rewind 6 = .ok (.iconst 0, 1) := by decide +kernel
theorem dX5_rewind_7 : decode cX5_rewind 7 = .ok (.putfield 22, 3) := by decide +kernel
theorem dX5_rewind_10 : decode cX5_rewind 10 = .ok (.return_, 1) := by decide +kernel
theorem dX5_place_0 : decode cX5_place 0 = .ok (.aload_n 0, 1) := by decide +kernel
theorem dX5_place_1 : decode cX5_place 1 = .ok (.getfield 19, 3) := by decide +kernel
theorem dX5_place_4 : decode cX5_place 4 = .ok (.ireturn, 1) := by decide +kernel
theorem dX5_isAtEnd_0 : decode cX5_isAtEnd 0 = .ok (.aload_n 0, 1) := by decide +kernel
theorem dX5_isAtEnd_1 : decode cX5_isAtEnd 1 = .ok (.getfield 19, 3) := by decide +kernel
theorem dX5_isAtEnd_4 : decode cX5_isAtEnd 4 = .ok (.aload_n 0, 1) := by decide +kernel
theorem dX5_isAtEnd_5 : decode cX5_isAtEnd 5 = .ok (.getfield 15, 3) := by decide +kernel
theorem dX5_isAtEnd_8 : decode cX5_isAtEnd 8 = .ok (.if_icmp .lt 7, 3) := by decide +kernel
theorem dX5_isAtEnd_11 : decode cX5_isAtEnd 11 = .ok (.iconst 1, 1) := by decide +kernel
theorem dX5_isAtEnd_12 : decode cX5_isAtEnd 12 = .ok (.goto 4, 3) := by decide +kernel
theorem dX5_isAtEnd_15 : decode cX5_isAtEnd 15 = .ok (.iconst 0, 1) := by decide +kernel
theorem dX5_isAtEnd_16 : decode cX5_isAtEnd 16 = .ok (.ireturn, 1) := by decide +kernel
set_option maxRecDepth 20000 in
theorem ggX5_advance_X5_isLetter : GoodIn wsX5_advance wsX5_isLetter := goodIn_r _ [8] (by decide +kernel) (by decide +kernel)
set_option maxRecDepth 20000 in
theorem gX5_advance_X5_isLetter : GoodIn wsX5_advance (va_wsS RX5 25 yX5_isLetter wsX5_isLetter) := goodIn_app (goodIn_of _ (by decide +kernel)) ggX5_advance_X5_isLetter
set_option maxRecDepth 20000 in
theorem ggX5_advance_X5_isDigit : GoodIn wsX5_advance wsX5_isDigit := goodIn_r _ [11] (by decide +kernel) (by decide +kernel)
set_option maxRecDepth 20000 in
theorem gX5_advance_X5_isDigit : GoodIn wsX5_advance (va_wsS RX5 29 yX5_isDigit wsX5_isDigit) := goodIn_app (goodIn_of _ (by decide +kernel)) ggX5_advance_X5_isDigit
set_option maxRecDepth 20000 in
theorem ggX5_advance_X5_isAtEnd : GoodIn wsX5_advance wsX5_isAtEnd := goodIn_r _ [15, 4, 2, 16, 17, 18, 19] (by decide +kernel) (by decide +kernel)
set_option maxRecDepth 20000 in
theorem gX5_advance_X5_isAtEnd : GoodIn wsX5_advance (wsV RX5 32 RX5 yX5_isAtEnd wsX5_isAtEnd) := goodIn_app (goodIn_of _ (by decide +kernel)) ggX5_advance_X5_isAtEnd
theorem dX5_advance_0 : decode cX5_advance 0 = .ok (.aload_n 0, 1) := by decide +kernel
theorem dX5_advance_1 : decode cX5_advance 1 = .ok (.getfield 22, 3) := by decide +kernel
theorem dX5_advance_4 : decode cX5_advance 4 = .ok (.aload_n 0, 1) := by decide +kernel
theorem dX5_advance_5 : decode cX5_advance 5 = .ok (.getfield 15, 3) := by decide +kernel
theorem dX5_advance_8 : decode cX5_advance 8 = .ok (.if_icmp .ge 30, 3) := by decide +kernel
theorem dX5_advance_11 : decode cX5_advance 11 = .ok (.aload_n 0, 1) := by decide +kernel
theorem dX5_advance_12 : decode cX5_advance 12 = .ok (.getfield 9, 3) := by decide +kernel
theorem dX5_advance_15 : decode cX5_advance 15 = .ok (.aload_n 0, 1) := by decide +kernel
theorem dX5_advance_16 : decode cX5_advance 16 = .ok (.getfield 22, 3) := by decide +kernel
theorem dX5_advance_19 : decode cX5_advance 19 = .ok (.iaload, 1) := by decide +kernel
theorem dX5_advance_20 : decode cX5_advance 20 = .ok (.bipush 32, 2) := by decide +kernel
theorem dX5_advance_22 : decode cX5_advance 22 = .ok (.if_icmp .ne 16, 3) := by decide +kernel
theorem dX5_advance_25 : decode cX5_advance 25 = .ok (.aload_n 0, 1) := by decide +kernel
theorem dX5_advance_26 : decode cX5_advance 26 = .ok (.dup, 1) := by decide +kernel
theorem dX5_advance_27 : decode cX5_advance 27 = .ok (.getfield 22, 3) := by decide +kernel
theorem dX5_advance_30 : decode cX5_advance 30 = .ok (.iconst 1, 1) := by decide +kernel
theorem dX5_advance_31 : decode cX5_advance 31 = .ok (.iadd, 1) := by decide +kernel
theorem dX5_advance_32 : decode cX5_advance 32 = .ok (.putfield 22, 3) := by decide +kernel
theorem dX5_advance_35 : decode cX5_advance 35 = .ok (.goto (-35), 3) := by decide +kernel
theorem dX5_advance_38 : decode cX5_advance 38 = .ok (.aload_n 0, 1) := by decide +kernel
theorem dX5_advance_39 : decode cX5_advance 39 = .ok (.aload_n 0, 1) := by decide +kernel
theorem dX5_advance_40 : decode cX5_advance 40 = .ok (.getfield 22, 3) := by decide +kernel
theorem dX5_advance_43 : decode cX5_advance 43 = .ok (.putfield 19, 3) := by decide +kernel
theorem dX5_advance_46 : decode cX5_advance 46 = .ok (.aload_n 0, 1) := by decide +kernel
theorem dX5_advance_47 : decode cX5_advance 47 = .ok (.getfield 19, 3) := by decide +kernel
theorem dX5_advance_50 : decode cX5_advance 50 = .ok (.aload_n 0, 1) := by decide +kernel
theorem dX5_advance_51 : decode cX5_advance 51 = .ok (.getfield 15, 3) := by decide +kernel
theorem dX5_advance_54 : decode cX5_advance 54 = .ok (.if_icmp .ge 57, 3) := by decide +kernel
theorem dX5_advance_57 : decode cX5_advance 57 = .ok (.aload_n 0, 1) := by decide +kernel
theorem dX5_advance_58 : decode cX5_advance 58 = .ok (.getfield 9, 3) := by decide +kernel
theorem dX5_advance_61 : decode cX5_advance 61 = .ok (.aload_n 0, 1) := by decide +kernel
theorem dX5_advance_62 : decode cX5_advance 62 = .ok (.getfield 19, 3) := by decide +kernel
theorem dX5_advance_65 : decode cX5_advance 65 = .ok (.iaload, 1) := by decide +kernel
theorem dX5_advance_66 : decode cX5_advance 66 = .ok (.invokestatic 25, 3) := by decide +kernel
theorem dX5_advance_69 : decode cX5_advance 69 = .ok (.ifCond .eq 42, 3) := by decide +kernel
theorem dX5_advance_72 : decode cX5_advance 72 = .ok (.aload_n 0, 1) := by decide +kernel
theorem dX5_advance_73 : decode cX5_advance 73 = .ok (.getfield 22, 3) := by decide +kernel
theorem dX5_advance_76 : decode cX5_advance 76 = .ok (.aload_n 0, 1) := by decide +kernel
theorem dX5_advance_77 : decode cX5_advance 77 = .ok (.getfield 15, 3) := by decide +kernel
theorem dX5_advance_80 : decode cX5_advance 80 = .ok (.if_icmp .ge 117, 3) := by decide +kernel
theorem dX5_advance_83 : decode cX5_advance 83 = .ok (.aload_n 0, 1) := by decide +kernel
theorem dX5_advance_84 : decode cX5_advance 84 = .ok (.getfield 9, 3) := by decide +kernel
theorem dX5_advance_87 : decode cX5_advance 87 = .ok (.aload_n 0, 1) := by decide +kernel
theorem dX5_advance_88 : decode cX5_advance 88 = .ok (.getfield 22, 3) := by decide +kernel
theorem dX5_advance_91 : decode cX5_advance 91 = .ok (.iaload, 1) := by decide +kernel
theorem dX5_advance_92 : decode cX5_advance 92 = .ok (.invokestatic 25, 3) := by decide +kernel
theorem dX5_advance_95 : decode cX5_advance 95 = .ok (.ifCond .eq 102, 3) := by decide +kernel
theorem dX5_advance_98 : decode cX5_advance 98 = .ok (.aload_n 0, 1) := by decide +kernel
theorem dX5_advance_99 : decode cX5_advance 99 = .ok (.dup, 1) := by decide +kernel
theorem dX5_advance_100 : decode cX5_advance 100 = .ok (.getfield 22, 3) := by decide +kernel
theorem dX5_advance_103 : decode cX5_advance 103 = .ok (.iconst 1, 1) := by decide +kernel
theorem dX5_advance_104 : decode cX5_advance 104 = .ok (.iadd, 1) := by decide +kernel
theorem dX5_advance_105 : decode cX5_advance 105 = .ok (.putfield 22, 3) := by decide +kernel
theorem dX5_advance_108 : decode cX5_advance 108 = .ok (.goto (-36), 3) := by decide +kernel
theorem dX5_advance_111 : decode cX5_advance 111 = .ok (.aload_n 0, 1) := by decide +kernel
theorem dX5_advance_112 : decode cX5_advance 112 = .ok (.getfield 19, 3) := by decide +kernel
theorem dX5_advance_115 : decode cX5_advance 115 = .ok (.aload_n 0, 1) := by decide +kernel
theorem dX5_advance_116 : decode cX5_advance 116 = .ok (.getfield 15, 3) := by decide +kernel
theorem dX5_advance_119 : decode cX5_advance 119 = .ok (.if_icmp .ge 57, 3) := by decide +kernel
theorem dX5_advance_122 : decode cX5_advance 122 = .ok (.aload_n 0, 1) := by decide +kernel
theorem dX5_advance_123 : decode cX5_advance 123 = .ok (.getfield 9, 3) := by decide +kernel
theorem dX5_advance_126 : decode cX5_advance 126 = .ok (.aload_n 0, 1) := by decide +kernel
theorem dX5_advance_127 : decode cX5_advance 127 = .ok (.getfield 19, 3) := by decide +kernel
theorem dX5_advance_130 : decode cX5_advance 130 = .ok (.iaload, 1) := by decide +kernel
theorem dX5_advance_131 : decode cX5_advance 131 = .ok (.invokestatic 29, 3) := by decide +kernel
theorem dX5_advance_134 : decode cX5_advance 134 = .ok (.ifCond .eq 42, 3) := by decide +kernel
theorem dX5_advance_137 : decode cX5_advance 137 = .ok (.aload_n 0, 1) := by decide +kernel
theorem dX5_advance_138 : decode cX5_advance 138 = .ok (.getfield 22, 3) := by decide +kernel
theorem dX5_advance_141 : decode cX5_advance 141 = .ok (.aload_n 0, 1) := by decide +kernel
theorem dX5_advance_142 : decode cX5_advance 142 = .ok (.getfield 15, 3) := by decide +kernel
theorem dX5_advance_145 : decode cX5_advance 145 = .ok (.if_icmp .ge 52, 3) := by decide +kernel
theorem dX5_advance_148 : decode cX5_advance 148 = .ok (.aload_n 0, 1) := by decide +kernel
theorem dX5_advance_149 : decode cX5_advance 149 = .ok (.getfield 9, 3) := by decide +kernel
theorem dX5_advance_152 : decode cX5_advance 152 = .ok (.aload_n 0, 1) := by decide +kernel
theorem dX5_advance_153 : decode cX5_advance 153 = .ok (.getfield 22, 3) := by decide +kernel
theorem dX5_advance_156 : decode cX5_advance 156 = .ok (.iaload, 1) := by decide +kernel
theorem dX5_advance_157 : decode cX5_advance 157 = .ok (.invokestatic 29, 3) := by decide +kernel
theorem dX5_advance_160 : decode cX5_advance 160 = .ok (.ifCond .eq 37, 3) := by decide +kernel
theorem dX5_advance_163 : decode cX5_advance 163 = .ok (.aload_n 0, 1) := by decide +kernel
theorem dX5_advance_164 : decode cX5_advance 164 = .ok (.dup, 1) := by decide +kernel
theorem dX5_advance_165 : decode cX5_advance 165 = .ok (.getfield 22, 3) := by decide +kernel
theorem dX5_advance_168 : decode cX5_advance 168 = .ok (.iconst 1, 1) := by decide +kernel
theorem dX5_advance_169 : decode cX5_advance 169 = .ok (.iadd, 1) := by decide +kernel
theorem dX5_advance_170 : decode cX5_advance 170 = .ok (.putfield 22, 3) := by decide +kernel
theorem dX5_advance_173 : decode cX5_advance 173 = .ok (.goto (-36), 3) := by decide +kernel
theorem dX5_advance_176 : decode cX5_advance 176 = .ok (.aload_n 0, 1) := by decide +kernel
theorem dX5_advance_177 : decode cX5_advance 177 = .ok (.getfield 19, 3) := by decide +kernel
theorem dX5_advance_180 : decode cX5_advance 180 = .ok (.aload_n 0, 1) := by decide +kernel
theorem dX5_advance_181 : decode cX5_advance 181 = .ok (.getfield 15, 3) := by decide +kernel
theorem dX5_advance_184 : decode cX5_advance 184 = .ok (.if_icmp .ge 13, 3) := by decide +kernel
theorem dX5_advance_187 : decode cX5_advance 187 = .ok (.aload_n 0, 1) := by decide +kernel
theorem dX5_advance_188 : decode cX5_advance 188 = .ok (.dup, 1) := by decide +kernel
theorem dX5_advance_189 : decode cX5_advance 189 = .ok (.getfield 22, 3) := by decide +kernel
theorem dX5_advance_192 : decode cX5_advance 192 = .ok (.iconst 1, 1) := by decide +kernel
theorem dX5_advance_193 : decode cX5_advance 193 = .ok (.iadd, 1) := by decide +kernel
theorem dX5_advance_194 : decode cX5_advance 194 = .ok (.putfield 22, 3) := by decide +kernel
theorem dX5_advance_197 : decode cX5_advance 197 = .ok (.aload_n 0, 1) := by decide +kernel
theorem dX5_advance_198 : decode cX5_advance 198 = .ok (.invokevirtual 32, 3) := by decide +kernel
theorem dX5_advance_201 : decode cX5_advance 201 = .ok (.ifCond .ne 7, 3) := by decide +kernel
theorem dX5_advance_204 : decode cX5_advance 204 = .ok (.iconst 1, 1) := by decide +kernel
theorem dX5_advance_205 : decode cX5_advance 205 = .ok (.goto 4, 3) := by decide +kernel
theorem dX5_advance_208 : decode cX5_advance 208 = .ok (.iconst 0, 1) := by decide +kernel
theorem dX5_advance_209 : decode cX5_advance 209 = .ok (.ireturn, 1) := by decide +kernel
set_option maxRecDepth 20000 in
theorem ggX5_says_J0_length_8abf5 : GoodIn wsX5_says wsJ0_length_8abf5 := goodIn_r _ [9, 10, 11, 12, 13, 8, 14, 15, 16] (by decide +kernel) (by decide +kernel)
set_option maxRecDepth 20000 in
theorem gX5_says_J0_length_8abf5 : GoodIn wsX5_says (wsV RX5 36 RJ0 yJ0_length_8abf5 wsJ0_length_8abf5) := goodIn_app (goodIn_of _ (by decide +kernel)) ggX5_says_J0_length_8abf5
set_option maxRecDepth 20000 in
theorem ggX5_says_J0_charAt_5068e : GoodIn wsX5_says wsJ0_charAt_5068e := goodIn_r _ [20, 10, 21, 22, 23, 8, 24, 15, 16, 25, 26, 27, 28, 29, 30, 31, 32, 33, 34, 35, 36, 37, 38, 39, 40, 41, 42, 43, 44, 45, 46, 47, 48, 49, 50, 51, 52, 53] (by decide +kernel) (by decide +kernel)
set_option maxRecDepth 20000 in
theorem gX5_says_J0_charAt_5068e : GoodIn wsX5_says (wsV RX5 42 RJ0 yJ0_charAt_5068e wsJ0_charAt_5068e) := goodIn_app (goodIn_of _ (by decide +kernel)) ggX5_says_J0_charAt_5068e
theorem dX5_says_0 : decode cX5_says 0 = .ok (.aload_n 0, 1) := by decide +kernel
theorem dX5_says_1 : decode cX5_says 1 = .ok (.getfield 22, 3) := by decide +kernel
theorem dX5_says_4 : decode cX5_says 4 = .ok (.aload_n 0, 1) := by decide +kernel
theorem dX5_says_5 : decode cX5_says 5 = .ok (.getfield 19, 3) := by decide +kernel
theorem dX5_says_8 : decode cX5_says 8 = .ok (.isub, 1) := by decide +kernel
theorem dX5_says_9 : decode cX5_says 9 = .ok (.aload_n 1, 1) := by decide +kernel
theorem dX5_says_10 : decode cX5_says 10 = .ok (.invokevirtual 36, 3) := by decide +kernel
theorem dX5_says_13 : decode cX5_says 13 = .ok (.if_icmp .eq 5, 3) := by decide +kernel
theorem dX5_says_16 : decode cX5_says 16 = .ok (.iconst 0, 1) := by decide +kernel
theorem dX5_says_17 : decode cX5_says 17 = .ok (.ireturn, 1) := by decide +kernel
theorem dX5_says_18 : decode cX5_says 18 = .ok (.iconst 0, 1) := by decide +kernel
theorem dX5_says_19 : decode cX5_says 19 = .ok (.istore_n 2, 1) := by decide +kernel
theorem dX5_says_20 : decode cX5_says 20 = .ok (.iload_n 2, 1) := by decide +kernel
theorem dX5_says_21 : decode cX5_says 21 = .ok (.aload_n 1, 1) := by decide +kernel
theorem dX5_says_22 : decode cX5_says 22 = .ok (.invokevirtual 36, 3) := by decide +kernel
theorem dX5_says_25 : decode cX5_says 25 = .ok (.if_icmp .ge 43, 3) := by decide +kernel
theorem dX5_says_28 : decode cX5_says 28 = .ok (.aload_n 0, 1) := by decide +kernel
theorem dX5_says_29 : decode cX5_says 29 = .ok (.getfield 19, 3) := by decide +kernel
theorem dX5_says_32 : decode cX5_says 32 = .ok (.iload_n 2, 1) := by decide +kernel
theorem dX5_says_33 : decode cX5_says 33 = .ok (.iadd, 1) := by decide +kernel
theorem dX5_says_34 : decode cX5_says 34 = .ok (.aload_n 0, 1) := by decide +kernel
theorem dX5_says_35 : decode cX5_says 35 = .ok (.getfield 15, 3) := by decide +kernel
theorem dX5_says_38 : decode cX5_says 38 = .ok (.if_icmp .ge 30, 3) := by decide +kernel
theorem dX5_says_41 : decode cX5_says 41 = .ok (.aload_n 0, 1) := by decide +kernel
theorem dX5_says_42 : decode cX5_says 42 = .ok (.getfield 9, 3) := by decide +kernel
theorem dX5_says_45 : decode cX5_says 45 = .ok (.aload_n 0, 1) := by decide +kernel
theorem dX5_says_46 : decode cX5_says 46 = .ok (.getfield 19, 3) := by decide +kernel
theorem dX5_says_49 : decode cX5_says 49 = .ok (.iload_n 2, 1) := by decide +kernel
theorem dX5_says_50 : decode cX5_says 50 = .ok (.iadd, 1) := by decide +kernel
theorem dX5_says_51 : decode cX5_says 51 = .ok (.iaload, 1) := by decide +kernel
theorem dX5_says_52 : decode cX5_says 52 = .ok (.aload_n 1, 1) := by decide +kernel
theorem dX5_says_53 : decode cX5_says 53 = .ok (.iload_n 2, 1) := by decide +kernel
theorem dX5_says_54 : decode cX5_says 54 = .ok (.invokevirtual 42, 3) := by decide +kernel
theorem dX5_says_57 : decode cX5_says 57 = .ok (.if_icmp .eq 5, 3) := by decide +kernel
theorem dX5_says_60 : decode cX5_says 60 = .ok (.iconst 0, 1) := by decide +kernel
theorem dX5_says_61 : decode cX5_says 61 = .ok (.ireturn, 1) := by decide +kernel
theorem dX5_says_62 : decode cX5_says 62 = .ok (.iinc 2 1, 3) := by decide +kernel
theorem dX5_says_65 : decode cX5_says 65 = .ok (.goto (-45), 3) := by decide +kernel
theorem dX5_says_68 : decode cX5_says 68 = .ok (.iconst 1, 1) := by decide +kernel
theorem dX5_says_69 : decode cX5_says 69 = .ok (.ireturn, 1) := by decide +kernel
set_option maxRecDepth 20000 in
theorem ggX5_number_X5_isAtEnd : GoodIn wsX5_number wsX5_isAtEnd := goodIn_r _ [9, 2, 4, 13, 14, 15, 16] (by decide +kernel) (by decide +kernel)
set_option maxRecDepth 20000 in
theorem gX5_number_X5_isAtEnd : GoodIn wsX5_number (wsV RX5 32 RX5 yX5_isAtEnd wsX5_isAtEnd) := goodIn_app (goodIn_of _ (by decide +kernel)) ggX5_number_X5_isAtEnd
set_option maxRecDepth 20000 in
theorem ggX5_number_X5_isDigit : GoodIn wsX5_number wsX5_isDigit := goodIn_r _ [12] (by decide +kernel) (by decide +kernel)
set_option maxRecDepth 20000 in
theorem gX5_number_X5_isDigit : GoodIn wsX5_number (va_wsS RX5 29 yX5_isDigit wsX5_isDigit) := goodIn_app (goodIn_of _ (by decide +kernel)) ggX5_number_X5_isDigit
theorem dX5_number_0 : decode cX5_number 0 = .ok (.aload_n 0, 1) := by decide +kernel
theorem dX5_number_1 : decode cX5_number 1 = .ok (.invokevirtual 32, 3) := by decide +kernel
theorem dX5_number_4 : decode cX5_number 4 = .ok (.ifCond .ne 31, 3) := by decide +kernel
theorem dX5_number_7 : decode cX5_number 7 = .ok (.aload_n 0, 1) := by decide +kernel
theorem dX5_number_8 : decode cX5_number 8 = .ok (.getfield 9, 3) := by decide +kernel
theorem dX5_number_11 : decode cX5_number 11 = .ok (.aload_n 0, 1) := by decide +kernel
theorem dX5_number_12 : decode cX5_number 12 = .ok (.getfield 19, 3) := by decide +kernel
theorem dX5_number_15 : decode cX5_number 15 = .ok (.iaload, 1) := by decide +kernel
theorem dX5_number_16 : decode cX5_number 16 = .ok (.invokestatic 29, 3) := by decide +kernel
theorem dX5_number_19 : decode cX5_number 19 = .ok (.ifCond .eq 16, 3) := by decide +kernel
theorem dX5_number_22 : decode cX5_number 22 = .ok (.aload_n 0, 1) := by decide +kernel
theorem dX5_number_23 : decode cX5_number 23 = .ok (.getfield 22, 3) := by decide +kernel
theorem dX5_number_26 : decode cX5_number 26 = .ok (.aload_n 0, 1) := by decide +kernel
theorem dX5_number_27 : decode cX5_number 27 = .ok (.getfield 19, 3) := by decide +kernel
theorem dX5_number_30 : decode cX5_number 30 = .ok (.isub, 1) := by decide +kernel
theorem dX5_number_31 : decode cX5_number 31 = .ok (.iconst 3, 1) := by decide +kernel
theorem dX5_number_32 : decode cX5_number 32 = .ok (.if_icmp .le 6, 3) := by decide +kernel
theorem dX5_number_35 : decode cX5_number 35 = .ok (.bipush (-3), 2) := by decide +kernel
theorem dX5_number_37 : decode cX5_number 37 = .ok (.ireturn, 1) := by decide +kernel
theorem dX5_number_38 : decode cX5_number 38 = .ok (.iconst 0, 1) := by decide +kernel
theorem dX5_number_39 : decode cX5_number 39 = .ok (.istore_n 1, 1) := by decide +kernel
theorem dX5_number_40 : decode cX5_number 40 = .ok (.aload_n 0, 1) := by decide +kernel
theorem dX5_number_41 : decode cX5_number 41 = .ok (.getfield 19, 3) := by decide +kernel
theorem dX5_number_44 : decode cX5_number 44 = .ok (.istore_n 2, 1) := by decide +kernel
theorem dX5_number_45 : decode cX5_number 45 = .ok (.iload_n 2, 1) := by decide +kernel
theorem dX5_number_46 : decode cX5_number 46 = .ok (.aload_n 0, 1) := by decide +kernel
theorem dX5_number_47 : decode cX5_number 47 = .ok (.getfield 22, 3) := by decide +kernel
theorem dX5_number_50 : decode cX5_number 50 = .ok (.if_icmp .ge 32, 3) := by decide +kernel
theorem dX5_number_53 : decode cX5_number 53 = .ok (.iload_n 2, 1) := by decide +kernel
theorem dX5_number_54 : decode cX5_number 54 = .ok (.aload_n 0, 1) := by decide +kernel
theorem dX5_number_55 : decode cX5_number 55 = .ok (.getfield 15, 3) := by decide +kernel
theorem dX5_number_58 : decode cX5_number 58 = .ok (.if_icmp .ge 24, 3) := by decide +kernel
theorem dX5_number_61 : decode cX5_number 61 = .ok (.iload_n 1, 1) := by decide +kernel
theorem dX5_number_62 : decode cX5_number 62 = .ok (.bipush 10, 2) := by decide +kernel
theorem dX5_number_64 : decode cX5_number 64 = .ok (.imul, 1) := by decide +kernel
theorem dX5_number_65 : decode cX5_number 65 = .ok (.aload_n 0, 1) := by decide +kernel
theorem dX5_number_66 : decode cX5_number 66 = .ok (.getfield 9, 3) := by decide +kernel
theorem dX5_number_69 : decode cX5_number 69 = .ok (.iload_n 2, 1) := by decide +kernel
theorem dX5_number_70 : decode cX5_number 70 = .ok (.iaload, 1) := by decide +kernel
theorem dX5_number_71 : decode cX5_number 71 = .ok (.bipush 48, 2) := by decide +kernel
theorem dX5_number_73 : decode cX5_number 73 = .ok (.isub, 1) := by decide +kernel
theorem dX5_number_74 : decode cX5_number 74 = .ok (.iadd, 1) := by decide +kernel
theorem dX5_number_75 : decode cX5_number 75 = .ok (.istore_n 1, 1) := by decide +kernel
theorem dX5_number_76 : decode cX5_number 76 = .ok (.iinc 2 1, 3) := by decide +kernel
theorem dX5_number_79 : decode cX5_number 79 = .ok (.goto (-34), 3) := by decide +kernel
theorem dX5_number_82 : decode cX5_number 82 = .ok (.iload_n 1, 1) := by decide +kernel
theorem dX5_number_83 : decode cX5_number 83 = .ok (.ireturn, 1) := by decide +kernel
theorem dX5_isLetter_0 : decode cX5_isLetter 0 = .ok (.iload_n 0, 1) := by decide +kernel
theorem dX5_isLetter_1 : decode cX5_isLetter 1 = .ok (.bipush 97, 2) := by decide +kernel
theorem dX5_isLetter_3 : decode cX5_isLetter 3 = .ok (.if_icmp .lt 13, 3) := by decide +kernel
theorem dX5_isLetter_6 : decode cX5_isLetter 6 = .ok (.iload_n 0, 1) := by decide +kernel
theorem dX5_isLetter_7 : decode cX5_isLetter 7 = .ok (.bipush 122, 2) := by decide +kernel
theorem dX5_isLetter_9 : decode cX5_isLetter 9 = .ok (.if_icmp .gt 7, 3) := by decide +kernel
theorem dX5_isLetter_12 : decode cX5_isLetter 12 = .ok (.iconst 1, 1) := by decide +kernel
theorem dX5_isLetter_13 : decode cX5_isLetter 13 = .ok (.goto 4, 3) := by decide +kernel
theorem dX5_isLetter_16 : decode cX5_isLetter 16 = .ok (.iconst 0, 1) := by decide +kernel
theorem dX5_isLetter_17 : decode cX5_isLetter 17 = .ok (.ireturn, 1) := by decide +kernel
theorem dX5_isDigit_0 : decode cX5_isDigit 0 = .ok (.iload_n 0, 1) := by decide +kernel
theorem dX5_isDigit_1 : decode cX5_isDigit 1 = .ok (.bipush 48, 2) := by decide +kernel
theorem dX5_isDigit_3 : decode cX5_isDigit 3 = .ok (.if_icmp .lt 13, 3) := by decide +kernel
theorem dX5_isDigit_6 : decode cX5_isDigit 6 = .ok (.iload_n 0, 1) := by decide +kernel
theorem dX5_isDigit_7 : decode cX5_isDigit 7 = .ok (.bipush 57, 2) := by decide +kernel
theorem dX5_isDigit_9 : decode cX5_isDigit 9 = .ok (.if_icmp .gt 7, 3) := by decide +kernel
theorem dX5_isDigit_12 : decode cX5_isDigit 12 = .ok (.iconst 1, 1) := by decide +kernel
theorem dX5_isDigit_13 : decode cX5_isDigit 13 = .ok (.goto 4, 3) := by decide +kernel
theorem dX5_isDigit_16 : decode cX5_isDigit 16 = .ok (.iconst 0, 1) := by decide +kernel
theorem dX5_isDigit_17 : decode cX5_isDigit 17 = .ok (.ireturn, 1) := by decide +kernel
set_option maxRecDepth 20000 in
theorem ggX6_init_X0_init : GoodIn wsX6_init wsX0_init := goodIn_r _ [29, 30, 2, 3, 31, 32, 33, 34, 35, 36, 37, 38, 39, 40, 41, 42, 43, 44, 45, 46, 47, 48, 49, 50, 51, 52, 53, 54, 55, 56, 57, 58, 59, 60, 61, 62, 63, 135, 136, 137, 138, 89, 90, 91, 92, 93, 94, 95, 96, 97, 98, 99, 100, 101] (by decide +kernel) (by decide +kernel)
set_option maxRecDepth 20000 in
theorem gX6_init_X0_init : GoodIn wsX6_init (wsX0_init) := ggX6_init_X0_init
set_option maxRecDepth 20000 in
theorem ggX6_init_X5_init : GoodIn wsX6_init wsX5_init := goodIn_r _ [65, 66, 2, 3, 57, 67, 110, 111, 112, 113] (by decide +kernel) (by decide +kernel)
set_option maxRecDepth 20000 in
theorem gX6_init_X5_init_n21 : GoodIn wsX6_init (wsX5_init) := ggX6_init_X5_init
set_option maxRecDepth 20000 in
theorem ggX6_init_X1_init : GoodIn wsX6_init wsX1_init := goodIn_r _ [69, 70, 2, 3, 57, 71, 114, 115, 116] (by decide +kernel) (by decide +kernel)
set_option maxRecDepth 20000 in
theorem gX6_init_X1_init_n28 : GoodIn wsX6_init (wsX1_init) := ggX6_init_X1_init
set_option maxRecDepth 20000 in
theorem ggX6_init_X3_init : GoodIn wsX6_init wsX3_init := goodIn_r _ [73, 74, 2, 3, 57, 75, 76, 77, 78, 79, 80, 81, 82, 117, 118, 119, 120, 121, 122, 123, 124, 125, 126, 127] (by decide +kernel) (by decide +kernel)
set_option maxRecDepth 20000 in
theorem gX6_init_X3_init_n35 : GoodIn wsX6_init (wsX3_init) := ggX6_init_X3_init
set_option maxRecDepth 20000 in
theorem ggX6_init_X2_init : GoodIn wsX6_init wsX2_init := goodIn_r _ [84, 85, 2, 3, 57, 86, 87, 88, 128, 129, 130, 131, 132, 133, 134] (by decide +kernel) (by decide +kernel)
set_option maxRecDepth 20000 in
theorem gX6_init_X2_init_n42 : GoodIn wsX6_init (wsX2_init) := ggX6_init_X2_init
theorem dX6_init_0 : decode cX6_init 0 = .ok (.aload_n 0, 1) := by decide +kernel
theorem dX6_init_1 : decode cX6_init 1 = .ok (.invokespecial 3, 3) := by decide +kernel
theorem dX6_init_4 : decode cX6_init 4 = .ok (.aload_n 0, 1) := by decide +kernel
theorem dX6_init_5 : decode cX6_init 5 = .ok (.new 9, 3) := by decide +kernel
theorem dX6_init_8 : decode cX6_init 8 = .ok (.dup, 1) := by decide +kernel
theorem dX6_init_9 : decode cX6_init 9 = .ok (.invokespecial 11, 3) := by decide +kernel
theorem dX6_init_12 : decode cX6_init 12 = .ok (.putfield 12, 3) := by decide +kernel
theorem dX6_init_15 : decode cX6_init 15 = .ok (.aload_n 0, 1) := by decide +kernel
theorem dX6_init_16 : decode cX6_init 16 = .ok (.new 9, 3) := by decide +kernel
theorem dX6_init_19 : decode cX6_init 19 = .ok (.dup, 1) := by decide +kernel
theorem dX6_init_20 : decode cX6_init 20 = .ok (.invokespecial 11, 3) := by decide +kernel
theorem dX6_init_23 : decode cX6_init 23 = .ok (.putfield 16, 3) := by decide +kernel
theorem dX6_init_26 : decode cX6_init 26 = .ok (.aload_n 0, 1) := by decide +kernel
theorem dX6_init_27 : decode cX6_init 27 = .ok (.new 19, 3) := by decide +kernel
theorem dX6_init_30 : decode cX6_init 30 = .ok (.dup, 1) := by decide +kernel
theorem dX6_init_31 : decode cX6_init 31 = .ok (.invokespecial 21, 3) := by decide +kernel
theorem dX6_init_34 : decode cX6_init 34 = .ok (.putfield 22, 3) := by decide +kernel
theorem dX6_init_37 : decode cX6_init 37 = .ok (.aload_n 0, 1) := by decide +kernel
theorem dX6_init_38 : decode cX6_init 38 = .ok (.new 26, 3) := by decide +kernel
theorem dX6_init_41 : decode cX6_init 41 = .ok (.dup, 1) := by decide +kernel
theorem dX6_init_42 : decode cX6_init 42 = .ok (.invokespecial 28, 3) := by decide +kernel
theorem dX6_init_45 : decode cX6_init 45 = .ok (.putfield 29, 3) := by decide +kernel
theorem dX6_init_48 : decode cX6_init 48 = .ok (.aload_n 0, 1) := by decide +kernel
theorem dX6_init_49 : decode cX6_init 49 = .ok (.new 33, 3) := by decide +kernel
theorem dX6_init_52 : decode cX6_init 52 = .ok (.dup, 1) := by decide +kernel
theorem dX6_init_53 : decode cX6_init 53 = .ok (.invokespecial 35, 3) := by decide +kernel
theorem dX6_init_56 : decode cX6_init 56 = .ok (.putfield 36, 3) := by decide +kernel
theorem dX6_init_59 : decode cX6_init 59 = .ok (.aload_n 0, 1) := by decide +kernel
theorem dX6_init_60 : decode cX6_init 60 = .ok (.new 40, 3) := by decide +kernel
theorem dX6_init_63 : decode cX6_init 63 = .ok (.dup, 1) := by decide +kernel
theorem dX6_init_64 : decode cX6_init 64 = .ok (.invokespecial 42, 3) := by decide +kernel
theorem dX6_init_67 : decode cX6_init 67 = .ok (.putfield 43, 3) := by decide +kernel
theorem dX6_init_70 : decode cX6_init 70 = .ok (.aload_n 0, 1) := by decide +kernel
theorem dX6_init_71 : decode cX6_init 71 = .ok (.iconst 0, 1) := by decide +kernel
theorem dX6_init_72 : decode cX6_init 72 = .ok (.putfield 47, 3) := by decide +kernel
theorem dX6_init_75 : decode cX6_init 75 = .ok (.aload_n 0, 1) := by decide +kernel
theorem dX6_init_76 : decode cX6_init 76 = .ok (.iconst 0, 1) := by decide +kernel
theorem dX6_init_77 : decode cX6_init 77 = .ok (.putfield 51, 3) := by decide +kernel
theorem dX6_init_80 : decode cX6_init 80 = .ok (.return_, 1) := by decide +kernel
set_option maxRecDepth 20000 in
theorem ggX6_days_X6_isWithin : GoodIn wsX6_days wsX6_isWithin := goodIn_r _ [6] (by decide +kernel) (by decide +kernel)
set_option maxRecDepth 20000 in
theorem gX6_days_X6_isWithin : GoodIn wsX6_days (va_wsS RX6 54 yX6_isWithin wsX6_isWithin) := goodIn_app (goodIn_of _ (by decide +kernel)) ggX6_days_X6_isWithin
theorem dX6_days_0 : decode cX6_days 0 = .ok (.iload_n 1, 1) := by decide +kernel
theorem dX6_days_1 : decode cX6_days 1 = .ok (.iconst 1, 1) := by decide +kernel
theorem dX6_days_2 : decode cX6_days 2 = .ok (.bipush 30, 2) := by decide +kernel
theorem dX6_days_4 : decode cX6_days 4 = .ok (.invokestatic 54, 3) := by decide +kernel
theorem dX6_days_7 : decode cX6_days 7 = .ok (.ifCond .ne 5, 3) := by decide +kernel
