theorem dX6_isJoined_0 : decode cX6_isJoined 0 = .ok (.iload_n 1, 1) := by decide +kernel
theorem dX6_isJoined_1 : decode cX6_isJoined 1 = .ok (.iload_n 2, 1) := by decide +kernel
theorem dX6_isJoined_2 : decode cX6_isJoined 2 = .ok (.if_icmp .ne 7, 3) := by decide +kernel
theorem dX6_isJoined_5 : decode cX6_isJoined 5 = .ok (.iconst 1, 1) := by decide +kernel
theorem dX6_isJoined_6 : decode cX6_isJoined 6 = .ok (.goto 4, 3) := by decide +kernel
theorem dX6_isJoined_9 : decode cX6_isJoined 9 = .ok (.iconst 0, 1) := by decide +kernel
theorem dX6_isJoined_10 : decode cX6_isJoined 10 = .ok (.istore_n 3, 1) := by decide +kernel
theorem dX6_isJoined_11 : decode cX6_isJoined 11 = .ok (.iconst 0, 1) := by decide +kernel
theorem dX6_isJoined_12 : decode cX6_isJoined 12 = .ok (.istore 4, 2) := by decide +kernel
theorem dX6_isJoined_14 : decode cX6_isJoined 14 = .ok (.iload 4, 2) := by decide +kernel
theorem dX6_isJoined_16 : decode cX6_isJoined 16 = .ok (.aload_n 0, 1) := by decide +kernel
theorem dX6_isJoined_17 : decode cX6_isJoined 17 = .ok (.getfield 12, 3) := by decide +kernel
theorem dX6_isJoined_20 : decode cX6_isJoined 20 = .ok (.getfield 176, 3) := by decide +kernel
theorem dX6_isJoined_23 : decode cX6_isJoined 23 = .ok (.invokevirtual 117, 3) := by decide +kernel
theorem dX6_isJoined_26 : decode cX6_isJoined 26 = .ok (.if_icmp .ge 73, 3) := by decide +kernel
theorem dX6_isJoined_29 : decode cX6_isJoined 29 = .ok (.iload_n 3, 1) := by decide +kernel
theorem dX6_isJoined_30 : decode cX6_isJoined 30 = .ok (.ifCond .ne 69, 3) := by decide +kernel
theorem dX6_isJoined_33 : decode cX6_isJoined 33 = .ok (.aload_n 0, 1) := by decide +kernel
theorem dX6_isJoined_34 : decode cX6_isJoined 34 = .ok (.getfield 12, 3) := by decide +kernel
theorem dX6_isJoined_37 : decode cX6_isJoined 37 = .ok (.getfield 176, 3) := by decide +kernel
theorem dX6_isJoined_40 : decode cX6_isJoined 40 = .ok (.iload 4, 2) := by decide +kernel
theorem dX6_isJoined_42 : decode cX6_isJoined 42 = .ok (.iconst 0, 1) := by decide +kernel
theorem dX6_isJoined_43 : decode cX6_isJoined 43 = .ok (.invokevirtual 113, 3) := by decide +kernel
theorem dX6_isJoined_46 : decode cX6_isJoined 46 = .ok (.istore 5, 2) := by decide +kernel
theorem dX6_isJoined_48 : decode cX6_isJoined 48 = .ok (.aload_n 0, 1) := by decide +kernel
theorem dX6_isJoined_49 : decode cX6_isJoined 49 = .ok (.getfield 12, 3) := by decide +kernel
theorem dX6_isJoined_52 : decode cX6_isJoined 52 = .ok (.getfield 176, 3) := by decide +kernel
theorem dX6_isJoined_55 : decode cX6_isJoined 55 = .ok (.iload 4, 2) := by decide +kernel
theorem dX6_isJoined_57 : decode cX6_isJoined 57 = .ok (.iconst 1, 1) := by decide +kernel
theorem dX6_isJoined_58 : decode cX6_isJoined 58 = .ok (.invokevirtual 113, 3) := by decide +kernel
theorem dX6_isJoined_61 : decode cX6_isJoined 61 = .ok (.istore 6, 2) := by decide +kernel
theorem dX6_isJoined_63 : decode cX6_isJoined 63 = .ok (.iload 5, 2) := by decide +kernel
theorem dX6_isJoined_65 : decode cX6_isJoined 65 = .ok (.iload_n 1, 1) := by decide +kernel
theorem dX6_isJoined_66 : decode cX6_isJoined 66 = .ok (.if_icmp .ne 9, 3) := by decide +kernel
theorem dX6_isJoined_69 : decode cX6_isJoined 69 = .ok (.iload 6, 2) := by decide +kernel
theorem dX6_isJoined_71 : decode cX6_isJoined 71 = .ok (.iload_n 2, 1) := by decide +kernel
theorem dX6_isJoined_72 : decode cX6_isJoined 72 = .ok (.if_icmp .eq 15, 3) := by decide +kernel
theorem dX6_isJoined_75 : decode cX6_isJoined 75 = .ok (.iload 5, 2) := by decide +kernel
theorem dX6_isJoined_77 : decode cX6_isJoined 77 = .ok (.iload_n 2, 1) := by decide +kernel
theorem dX6_isJoined_78 : decode cX6_isJoined 78 = .ok (.if_icmp .ne 13, 3) := by decide +kernel
theorem dX6_isJoined_81 : decode cX6_isJoined 81 = .ok (.iload 6, 2) := by decide +kernel
theorem dX6_isJoined_83 : decode cX6_isJoined 83 = .ok (.iload_n 1, 1) := by decide +kernel
theorem dX6_isJoined_84 : decode cX6_isJoined 84 = .ok (.if_icmp .ne 7, 3) := by decide +kernel
theorem dX6_isJoined_87 : decode cX6_isJoined 87 = .ok (.iconst 1, 1) := by decide +kernel
theorem dX6_isJoined_88 : decode cX6_isJoined 88 = .ok (.goto 4, 3) := by decide +kernel
theorem dX6_isJoined_91 : decode cX6_isJoined 91 = .ok (.iconst 0, 1) := by decide +kernel
theorem dX6_isJoined_92 : decode cX6_isJoined 92 = .ok (.istore_n 3, 1) := by decide +kernel
theorem dX6_isJoined_93 : decode cX6_isJoined 93 = .ok (.iinc 4 1, 3) := by decide +kernel
theorem dX6_isJoined_96 : decode cX6_isJoined 96 = .ok (.goto (-82), 3) := by decide +kernel
theorem dX6_isJoined_99 : decode cX6_isJoined 99 = .ok (.iload_n 3, 1) := by decide +kernel
theorem dX6_isJoined_100 : decode cX6_isJoined 100 = .ok (.ireturn, 1) := by decide +kernel
set_option maxRecDepth 20000 in
theorem ggX6_makeMatch_X4_size : GoodIn wsX6_makeMatch wsX4_size := goodIn_r _ [9, 10, 113, 114, 115, 116] (by decide +kernel) (by decide +kernel)
set_option maxRecDepth 20000 in
theorem gX6_makeMatch_X4_size : GoodIn wsX6_makeMatch (wsV RX6 117 RX4 yX4_size wsX4_size) := goodIn_app (goodIn_of _ (by decide +kernel)) ggX6_makeMatch_X4_size
set_option maxRecDepth 20000 in
theorem ggX6_makeMatch_X2_begin : GoodIn wsX6_makeMatch wsX2_begin := goodIn_r _ [15, 16, 17, 18, 19, 20, 21, 22, 23, 24, 25, 117, 118, 119, 120, 121, 122, 123] (by decide +kernel) (by decide +kernel)
set_option maxRecDepth 20000 in
theorem gX6_makeMatch_X2_begin : GoodIn wsX6_makeMatch (wsV RX6 231 RX2 yX2_begin wsX2_begin) := goodIn_app (goodIn_of _ (by decide +kernel)) ggX6_makeMatch_X2_begin
set_option maxRecDepth 20000 in
theorem ggX6_makeMatch_X6_isSuited : GoodIn wsX6_makeMatch wsX6_isSuited := goodIn_r _ [30, 2, 3, 4, 31, 32, 33, 8, 34, 35, 36, 37, 38, 39, 40, 10, 41, 42, 43, 29, 44, 45, 46, 47, 48, 49, 50, 51, 52, 53, 54, 5, 6, 7, 9, 92, 93, 94, 95, 96, 97, 98, 99, 100, 101, 102, 103, 104, 105, 106, 107, 108, 109, 110, 111, 112, 113, 114, 115, 116] (by decide +kernel) (by decide +kernel)
set_option maxRecDepth 20000 in
theorem gX6_makeMatch_X6_isSuited : GoodIn wsX6_makeMatch (wsV RX6 207 RX6 yX6_isSuited wsX6_isSuited) := goodIn_app (goodIn_of _ (by decide +kernel)) ggX6_makeMatch_X6_isSuited
set_option maxRecDepth 20000 in
theorem ggX6_makeMatch_X6_gapBetween : GoodIn wsX6_makeMatch wsX6_gapBetween := goodIn_r _ [58, 2, 3, 4, 59, 60, 18, 61, 31, 32, 33, 8, 34, 35, 36, 37, 38, 39, 40, 10, 92, 93, 94, 95, 96, 97, 98, 99, 100, 101, 102, 103, 104, 105, 106, 107, 108, 109, 110, 111, 112, 113, 114, 115, 116] (by decide +kernel) (by decide +kernel)
set_option maxRecDepth 20000 in
theorem gX6_makeMatch_X6_gapBetween : GoodIn wsX6_makeMatch (wsV RX6 235 RX6 yX6_gapBetween wsX6_gapBetween) := goodIn_app (goodIn_of _ (by decide +kernel)) ggX6_makeMatch_X6_gapBetween
set_option maxRecDepth 20000 in
theorem ggX6_makeMatch_X2_allow : GoodIn wsX6_makeMatch wsX2_allow := goodIn_r _ [65, 23, 24, 25, 66, 29, 67, 117, 118, 119, 120, 121, 122, 123] (by decide +kernel) (by decide +kernel)
set_option maxRecDepth 20000 in
theorem gX6_makeMatch_X2_allow : GoodIn wsX6_makeMatch (wsV RX6 238 RX2 yX2_allow wsX2_allow) := goodIn_app (goodIn_of _ (by decide +kernel)) ggX6_makeMatch_X2_allow
set_option maxRecDepth 20000 in
theorem ggX6_makeMatch_X2_solve : GoodIn wsX6_makeMatch wsX2_solve := goodIn_r _ [71, 24, 72, 23, 73, 74, 75, 25, 76, 77, 78, 14, 79, 20, 21, 18, 22, 80, 81, 82, 83, 84, 85, 86, 87, 88, 89, 90, 91, 117, 118, 119, 120, 121, 122, 123] (by decide +kernel) (by decide +kernel)
set_option maxRecDepth 20000 in
theorem gX6_makeMatch_X2_solve : GoodIn wsX6_makeMatch (wsV RX6 241 RX2 yX2_solve wsX2_solve) := goodIn_app (goodIn_of _ (by decide +kernel)) ggX6_makeMatch_X2_solve
theorem dX6_makeMatch_0 : decode cX6_makeMatch 0 = .ok (.aload_n 0, 1) := by decide +kernel
theorem dX6_makeMatch_1 : decode cX6_makeMatch 1 = .ok (.getfield 43, 3) := by decide +kernel
theorem dX6_makeMatch_4 : decode cX6_makeMatch 4 = .ok (.aload_n 0, 1) := by decide +kernel
theorem dX6_makeMatch_5 : decode cX6_makeMatch 5 = .ok (.getfield 12, 3) := by decide +kernel
theorem dX6_makeMatch_8 : decode cX6_makeMatch 8 = .ok (.getfield 198, 3) := by decide +kernel
theorem dX6_makeMatch_11 : decode cX6_makeMatch 11 = .ok (.invokevirtual 117, 3) := by decide +kernel
theorem dX6_makeMatch_14 : decode cX6_makeMatch 14 = .ok (.aload_n 0, 1) := by decide +kernel
theorem dX6_makeMatch_15 : decode cX6_makeMatch 15 = .ok (.getfield 12, 3) := by decide +kernel
theorem dX6_makeMatch_18 : decode cX6_makeMatch 18 = .ok (.getfield 195, 3) := by decide +kernel
theorem dX6_makeMatch_21 : decode cX6_makeMatch 21 = .ok (.invokevirtual 117, 3) := by decide +kernel
theorem dX6_makeMatch_24 : decode cX6_makeMatch 24 = .ok (.invokevirtual 231, 3) := by decide +kernel
theorem dX6_makeMatch_27 : decode cX6_makeMatch 27 = .ok (.iconst 0, 1) := by decide +kernel
theorem dX6_makeMatch_28 : decode cX6_makeMatch 28 = .ok (.istore_n 1, 1) := by decide +kernel
theorem dX6_makeMatch_29 : decode cX6_makeMatch 29 = .ok (.iload_n 1, 1) := by decide +kernel
theorem dX6_makeMatch_30 : decode cX6_makeMatch 30 = .ok (.aload_n 0, 1) := by decide +kernel
theorem dX6_makeMatch_31 : decode cX6_makeMatch 31 = .ok (.getfield 12, 3) := by decide +kernel
theorem dX6_makeMatch_34 : decode cX6_makeMatch 34 = .ok (.getfield 198, 3) := by decide +kernel
theorem dX6_makeMatch_37 : decode cX6_makeMatch 37 = .ok (.invokevirtual 117, 3) := by decide +kernel
theorem dX6_makeMatch_40 : decode cX6_makeMatch 40 = .ok (.if_icmp .ge 55, 3) := by decide +kernel
theorem dX6_makeMatch_43 : decode cX6_makeMatch 43 = .ok (.iconst 0, 1) := by decide +kernel
theorem dX6_makeMatch_44 : decode cX6_makeMatch 44 = .ok (.istore_n 2, 1) := by decide +kernel
theorem dX6_makeMatch_45 : decode cX6_makeMatch 45 = .ok (.iload_n 2, 1) := by decide +kernel
theorem dX6_makeMatch_46 : decode cX6_makeMatch 46 = .ok (.aload_n 0, 1) := by decide +kernel
theorem dX6_makeMatch_47 : decode cX6_makeMatch 47 = .ok (.getfield 12, 3) := by decide +kernel
theorem dX6_makeMatch_50 : decode cX6_makeMatch 50 = .ok (.getfield 195, 3) := by decide +kernel
theorem dX6_makeMatch_53 : decode cX6_makeMatch 53 = .ok (.invokevirtual 117, 3) := by decide +kernel
theorem dX6_makeMatch_56 : decode cX6_makeMatch 56 = .ok (.if_icmp .ge 33, 3) := by decide +kernel
theorem dX6_makeMatch_59 : decode cX6_makeMatch 59 = .ok (.aload_n 0, 1) := by decide +kernel
theorem dX6_makeMatch_60 : decode cX6_makeMatch 60 = .ok (.iload_n 1, 1) := by decide +kernel
theorem dX6_makeMatch_61 : decode cX6_makeMatch 61 = .ok (.iload_n 2, 1) := by decide +kernel
theorem dX6_makeMatch_62 : decode cX6_makeMatch 62 = .ok (.invokevirtual 207, 3) := by decide +kernel
theorem dX6_makeMatch_65 : decode cX6_makeMatch 65 = .ok (.ifCond .eq 18, 3) := by decide +kernel
theorem dX6_makeMatch_68 : decode cX6_makeMatch 68 = .ok (.aload_n 0, 1) := by decide +kernel
theorem dX6_makeMatch_69 : decode cX6_makeMatch 69 = .ok (.getfield 43, 3) := by decide +kernel
theorem dX6_makeMatch_72 : decode cX6_makeMatch 72 = .ok (.iload_n 1, 1) := by decide +kernel
theorem dX6_makeMatch_73 : decode cX6_makeMatch 73 = .ok (.iload_n 2, 1) := by decide +kernel
theorem dX6_makeMatch_74 : decode cX6_makeMatch 74 = .ok (.aload_n 0, 1) := by decide +kernel
theorem dX6_makeMatch_75 : decode cX6_makeMatch 75 = .ok (.iload_n 1, 1) := by decide +kernel
theorem dX6_makeMatch_76 : decode cX6_makeMatch 76 = .ok (.iload_n 2, 1) := by decide +kernel
theorem dX6_makeMatch_77 : decode cX6_makeMatch 77 = .ok (.invokevirtual 235, 3) := by decide +kernel
theorem dX6_makeMatch_80 : decode cX6_makeMatch 80 = .ok (.invokevirtual 238, 3) := by decide +kernel
theorem dX6_makeMatch_83 : decode cX6_makeMatch 83 = .ok (.iinc 2 1, 3) := by decide +kernel
theorem dX6_makeMatch_86 : decode cX6_makeMatch 86 = .ok (.goto (-41), 3) := by decide +kernel
theorem dX6_makeMatch_89 : decode cX6_makeMatch 89 = .ok (.iinc 1 1, 3) := by decide +kernel
theorem dX6_makeMatch_92 : decode cX6_makeMatch 92 = .ok (.goto (-63), 3) := by decide +kernel
theorem dX6_makeMatch_95 : decode cX6_makeMatch 95 = .ok (.aload_n 0, 1) := by decide +kernel
theorem dX6_makeMatch_96 : decode cX6_makeMatch 96 = .ok (.getfield 43, 3) := by decide +kernel
theorem dX6_makeMatch_99 : decode cX6_makeMatch 99 = .ok (.invokevirtual 241, 3) := by decide +kernel
theorem dX6_makeMatch_102 : decode cX6_makeMatch 102 = .ok (.return_, 1) := by decide +kernel
set_option maxRecDepth 20000 in
theorem ggX6_gapBetween_X4_cell : GoodIn wsX6_gapBetween wsX4_cell := goodIn_r _ [12, 13, 14, 15, 16, 17, 11, 18, 19, 41, 42, 43, 44] (by decide +kernel) (by decide +kernel)
set_option maxRecDepth 20000 in
theorem gX6_gapBetween_X4_cell : GoodIn wsX6_gapBetween (wsV RX6 113 RX4 yX4_cell wsX4_cell) := goodIn_app (goodIn_of _ (by decide +kernel)) ggX6_gapBetween_X4_cell
theorem dX6_gapBetween_0 : decode cX6_gapBetween 0 = .ok (.aload_n 0, 1) := by decide +kernel
theorem dX6_gapBetween_1 : decode cX6_gapBetween 1 = .ok (.getfield 12, 3) := by decide +kernel
theorem dX6_gapBetween_4 : decode cX6_gapBetween 4 = .ok (.getfield 198, 3) := by decide +kernel
theorem dX6_gapBetween_7 : decode cX6_gapBetween 7 = .ok (.iload_n 1, 1) := by decide +kernel
theorem dX6_gapBetween_8 : decode cX6_gapBetween 8 = .ok (.iconst 3, 1) := by decide +kernel
theorem dX6_gapBetween_9 : decode cX6_gapBetween 9 = .ok (.invokevirtual 113, 3) := by decide +kernel
theorem dX6_gapBetween_12 : decode cX6_gapBetween 12 = .ok (.aload_n 0, 1) := by decide +kernel
theorem dX6_gapBetween_13 : decode cX6_gapBetween 13 = .ok (.getfield 12, 3) := by decide +kernel
theorem dX6_gapBetween_16 : decode cX6_gapBetween 16 = .ok (.getfield 195, 3) := by decide +kernel
theorem dX6_gapBetween_19 : decode cX6_gapBetween 19 = .ok (.iload_n 2, 1) := by decide +kernel
theorem dX6_gapBetween_20 : decode cX6_gapBetween 20 = .ok (.iconst 3, 1) := by decide +kernel
theorem dX6_gapBetween_21 : decode cX6_gapBetween 21 = .ok (.invokevirtual 113, 3) := by decide +kernel
theorem dX6_gapBetween_24 : decode cX6_gapBetween 24 = .ok (.isub, 1) := by decide +kernel
theorem dX6_gapBetween_25 : decode cX6_gapBetween 25 = .ok (.invokestatic 243, 3) := by decide +kernel
theorem dX6_gapBetween_28 : decode cX6_gapBetween 28 = .ok (.ireturn, 1) := by decide +kernel
set_option maxRecDepth 20000 in
theorem ggX6_feed_X6_isWithin : GoodIn wsX6_feed wsX6_isWithin := goodIn_r _ [5] (by decide +kernel) (by decide +kernel)
set_option maxRecDepth 20000 in
theorem gX6_feed_X6_isWithin : GoodIn wsX6_feed (va_wsS RX6 54 yX6_isWithin wsX6_isWithin) := goodIn_app (goodIn_of _ (by decide +kernel)) ggX6_feed_X6_isWithin
set_option maxRecDepth 20000 in
theorem ggX6_feed_X5_size : GoodIn wsX6_feed wsX5_size := goodIn_r _ [10, 11, 25, 26, 27, 28] (by decide +kernel) (by decide +kernel)
set_option maxRecDepth 20000 in
theorem gX6_feed_X5_size : GoodIn wsX6_feed (wsV RX6 248 RX5 yX5_size wsX5_size) := goodIn_app (goodIn_of _ (by decide +kernel)) ggX6_feed_X5_size
set_option maxRecDepth 20000 in
theorem ggX6_feed_X5_takeByte : GoodIn wsX6_feed wsX5_takeByte := goodIn_r _ [15, 11, 16, 25, 26, 27, 28] (by decide +kernel) (by decide +kernel)
set_option maxRecDepth 20000 in
theorem gX6_feed_X5_takeByte : GoodIn wsX6_feed (wsV RX6 249 RX5 yX5_takeByte wsX5_takeByte) := goodIn_app (goodIn_of _ (by decide +kernel)) ggX6_feed_X5_takeByte
theorem dX6_feed_0 : decode cX6_feed 0 = .ok (.iload_n 3, 1) := by decide +kernel
theorem dX6_feed_1 : decode cX6_feed 1 = .ok (.iconst 1, 1) := by decide +kernel
theorem dX6_feed_2 : decode cX6_feed 2 = .ok (.bipush 8, 2) := by decide +kernel
theorem dX6_feed_4 : decode cX6_feed 4 = .ok (.invokestatic 54, 3) := by decide +kernel
theorem dX6_feed_7 : decode cX6_feed 7 = .ok (.ifCond .ne 5, 3) := by decide +kernel
theorem dX6_feed_10 : decode cX6_feed 10 = .ok (.iconst (-1), 1) := by decide +kernel
theorem dX6_feed_11 : decode cX6_feed 11 = .ok (.ireturn, 1) := by decide +kernel
theorem dX6_feed_12 : decode cX6_feed 12 = .ok (.aload_n 0, 1) := by decide +kernel
theorem dX6_feed_13 : decode cX6_feed 13 = .ok (.getfield 22, 3) := by decide +kernel
theorem dX6_feed_16 : decode cX6_feed 16 = .ok (.invokevirtual 248, 3) := by decide +kernel
theorem dX6_feed_19 : decode cX6_feed 19 = .ok (.iload_n 3, 1) := by decide +kernel
theorem dX6_feed_20 : decode cX6_feed 20 = .ok (.iadd, 1) := by decide +kernel
theorem dX6_feed_21 : decode cX6_feed 21 = .ok (.bipush 120, 2) := by decide +kernel
theorem dX6_feed_23 : decode cX6_feed 23 = .ok (.if_icmp .le 6, 3) := by decide +kernel
theorem dX6_feed_26 : decode cX6_feed 26 = .ok (.bipush (-2), 2) := by decide +kernel
theorem dX6_feed_28 : decode cX6_feed 28 = .ok (.ireturn, 1) := by decide +kernel
theorem dX6_feed_29 : decode cX6_feed 29 = .ok (.iconst 0, 1) := by decide +kernel
theorem dX6_feed_30 : decode cX6_feed 30 = .ok (.istore 4, 2) := by decide +kernel
theorem dX6_feed_32 : decode cX6_feed 32 = .ok (.iload 4, 2) := by decide +kernel
theorem dX6_feed_34 : decode cX6_feed 34 = .ok (.iload_n 3, 1) := by decide +kernel
theorem dX6_feed_35 : decode cX6_feed 35 = .ok (.if_icmp .ge 28, 3) := by decide +kernel
theorem dX6_feed_38 : decode cX6_feed 38 = .ok (.aload_n 0, 1) := by decide +kernel
theorem dX6_feed_39 : decode cX6_feed 39 = .ok (.getfield 22, 3) := by decide +kernel
theorem dX6_feed_42 : decode cX6_feed 42 = .ok (.lload_n 1, 1) := by decide +kernel
theorem dX6_feed_43 : decode cX6_feed 43 = .ok (.bipush 8, 2) := by decide +kernel
theorem dX6_feed_45 : decode cX6_feed 45 = .ok (.iload 4, 2) := by decide +kernel
theorem dX6_feed_47 : decode cX6_feed 47 = .ok (.imul, 1) := by decide +kernel
theorem dX6_feed_48 : decode cX6_feed 48 = .ok (.lushr, 1) := by decide +kernel
theorem dX6_feed_49 : decode cX6_feed 49 = .ok (.l2i, 1) := by decide +kernel
theorem dX6_feed_50 : decode cX6_feed 50 = .ok (.sipush 255, 3) := by decide +kernel
theorem dX6_feed_53 : decode cX6_feed 53 = .ok (.iand, 1) := by decide +kernel
theorem dX6_feed_54 : decode cX6_feed 54 = .ok (.invokevirtual 249, 3) := by decide +kernel
theorem dX6_feed_57 : decode cX6_feed 57 = .ok (.iinc 4 1, 3) := by decide +kernel
theorem dX6_feed_60 : decode cX6_feed 60 = .ok (.goto (-28), 3) := by decide +kernel
theorem dX6_feed_63 : decode cX6_feed 63 = .ok (.aload_n 0, 1) := by decide +kernel
theorem dX6_feed_64 : decode cX6_feed 64 = .ok (.getfield 22, 3) := by decide +kernel
theorem dX6_feed_67 : decode cX6_feed 67 = .ok (.invokevirtual 248, 3) := by decide +kernel
theorem dX6_feed_70 : decode cX6_feed 70 = .ok (.ireturn, 1) := by decide +kernel
set_option maxRecDepth 20000 in
theorem ggX6_read_X6_isLease : GoodIn wsX6_read wsX6_isLease := goodIn_r _ [10, 11, 12, 9, 13] (by decide +kernel) (by decide +kernel)
set_option maxRecDepth 20000 in
theorem gX6_read_X6_isLease : GoodIn wsX6_read (va_wsS RX6 72 yX6_isLease wsX6_isLease) := goodIn_app (goodIn_of _ (by decide +kernel)) ggX6_read_X6_isLease
set_option maxRecDepth 20000 in
theorem ggX6_read_X5_empty : GoodIn wsX6_read wsX5_empty := goodIn_r _ [18, 19, 159, 160, 161, 162] (by decide +kernel) (by decide +kernel)
set_option maxRecDepth 20000 in
theorem gX6_read_X5_empty : GoodIn wsX6_read (wsV RX6 253 RX5 yX5_empty wsX5_empty) := goodIn_app (goodIn_of _ (by decide +kernel)) ggX6_read_X5_empty
set_option maxRecDepth 20000 in
theorem ggX6_read_X1_parse : GoodIn wsX6_read wsX1_parse := goodIn_r _ [24, 25, 26, 27, 28, 29, 30, 17, 31, 32, 33, 34, 35, 36, 37, 19, 38, 39, 40, 41, 42, 43, 44, 45, 46, 47, 48, 49, 50, 51, 23, 52, 53, 54, 55, 56, 57, 58, 59, 60, 61, 62, 63, 64, 65, 66, 67, 68, 69, 70, 71, 72, 73, 74, 75, 76, 77, 78, 79, 80, 81, 82, 83, 84, 85, 86, 87, 88, 89, 90, 91, 92, 93, 94, 95, 96, 97, 98, 99, 100, 101, 102, 103, 104, 105, 106, 107, 108, 109, 110, 111, 112, 113, 9, 114, 11, 12, 13, 115, 116, 117, 118, 143, 144, 145, 159, 160, 161, 162] (by decide +kernel) (by decide +kernel)
set_option maxRecDepth 20000 in
theorem gX6_read_X1_parse : GoodIn wsX6_read (wsV RX6 254 RX1 yX1_parse wsX1_parse) := goodIn_app (goodIn_of _ (by decide +kernel)) ggX6_read_X1_parse
set_option maxRecDepth 20000 in
theorem ggX6_read_X1_termOr : GoodIn wsX6_read wsX1_termOr := goodIn_r _ [122, 25, 143, 144, 145] (by decide +kernel) (by decide +kernel)
set_option maxRecDepth 20000 in
theorem gX6_read_X1_termOr : GoodIn wsX6_read (wsV RX6 264 RX1 yX1_termOr wsX1_termOr) := goodIn_app (goodIn_of _ (by decide +kernel)) ggX6_read_X1_termOr
set_option maxRecDepth 20000 in
theorem ggX6_read_X4_put : GoodIn wsX6_read wsX4_put := goodIn_r _ [127, 128, 129, 130, 131, 132, 126, 133, 134, 163, 164, 165, 166] (by decide +kernel) (by decide +kernel)
set_option maxRecDepth 20000 in
theorem gX6_read_X4_put : GoodIn wsX6_read (wsV RX6 96 RX4 yX4_put wsX4_put) := goodIn_app (goodIn_of _ (by decide +kernel)) ggX6_read_X4_put
theorem dX6_read_0 : decode cX6_read 0 = .ok (.iload_n 1, 1) := by decide +kernel
theorem dX6_read_1 : decode cX6_read 1 = .ok (.invokestatic 72, 3) := by decide +kernel
theorem dX6_read_4 : decode cX6_read 4 = .ok (.ifCond .ne 12, 3) := by decide +kernel
theorem dX6_read_7 : decode cX6_read 7 = .ok (.aload_n 0, 1) := by decide +kernel
theorem dX6_read_8 : decode cX6_read 8 = .ok (.getfield 22, 3) := by decide +kernel
theorem dX6_read_11 : decode cX6_read 11 = .ok (.invokevirtual 253, 3) := by decide +kernel
theorem dX6_read_14 : decode cX6_read 14 = .ok (.iconst (-1), 1) := by decide +kernel
theorem dX6_read_15 : decode cX6_read 15 = .ok (.ireturn, 1) := by decide +kernel
theorem dX6_read_16 : decode cX6_read 16 = .ok (.aload_n 0, 1) := by decide +kernel
theorem dX6_read_17 : decode cX6_read 17 = .ok (.getfield 29, 3) := by decide +kernel
theorem dX6_read_20 : decode cX6_read 20 = .ok (.aload_n 0, 1) := by decide +kernel
theorem dX6_read_21 : decode cX6_read 21 = .ok (.getfield 22, 3) := by decide +kernel
theorem dX6_read_24 : decode cX6_read 24 = .ok (.invokevirtual 254, 3) := by decide +kernel
theorem dX6_read_27 : decode cX6_read 27 = .ok (.istore_n 2, 1) := by decide +kernel
theorem dX6_read_28 : decode cX6_read 28 = .ok (.aload_n 0, 1) := by decide +kernel
theorem dX6_read_29 : decode cX6_read 29 = .ok (.getfield 22, 3) := by decide +kernel
theorem dX6_read_32 : decode cX6_read 32 = .ok (.invokevirtual 253, 3) := by decide +kernel
theorem dX6_read_35 : decode cX6_read 35 = .ok (.iload_n 2, 1) := by decide +kernel
theorem dX6_read_36 : decode cX6_read 36 = .ok (.ifCond .ne 14, 3) := by decide +kernel
theorem dX6_read_39 : decode cX6_read 39 = .ok (.bipush (-100), 2) := by decide +kernel
theorem dX6_read_41 : decode cX6_read 41 = .ok (.aload_n 0, 1) := by decide +kernel
theorem dX6_read_42 : decode cX6_read 42 = .ok (.getfield 29, 3) := by decide +kernel
theorem dX6_read_45 : decode cX6_read 45 = .ok (.getfield 258, 3) := by decide +kernel
theorem dX6_read_48 : decode cX6_read 48 = .ok (.isub, 1) := by decide +kernel
theorem dX6_read_49 : decode cX6_read 49 = .ok (.ireturn, 1) := by decide +kernel
theorem dX6_read_50 : decode cX6_read 50 = .ok (.iconst 0, 1) := by decide +kernel
theorem dX6_read_51 : decode cX6_read 51 = .ok (.istore_n 3, 1) := by decide +kernel
theorem dX6_read_52 : decode cX6_read 52 = .ok (.iload_n 3, 1) := by decide +kernel
theorem dX6_read_53 : decode cX6_read 53 = .ok (.bipush 16, 2) := by decide +kernel
theorem dX6_read_55 : decode cX6_read 55 = .ok (.if_icmp .ge 42, 3) := by decide +kernel
theorem dX6_read_58 : decode cX6_read 58 = .ok (.aload_n 0, 1) := by decide +kernel
theorem dX6_read_59 : decode cX6_read 59 = .ok (.getfield 12, 3) := by decide +kernel
theorem dX6_read_62 : decode cX6_read 62 = .ok (.getfield 261, 3) := by decide +kernel
theorem dX6_read_65 : decode cX6_read 65 = .ok (.iload_n 1, 1) := by decide +kernel
theorem dX6_read_66 : decode cX6_read 66 = .ok (.iload_n 3, 1) := by decide +kernel
theorem dX6_read_67 : decode cX6_read 67 = .ok (.aload_n 0, 1) := by decide +kernel
theorem dX6_read_68 : decode cX6_read 68 = .ok (.getfield 29, 3) := by decide +kernel
theorem dX6_read_71 : decode cX6_read 71 = .ok (.iload_n 3, 1) := by decide +kernel
theorem dX6_read_72 : decode cX6_read 72 = .ok (.iload_n 3, 1) := by decide +kernel
theorem dX6_read_73 : decode cX6_read 73 = .ok (.bipush 10, 2) := by decide +kernel
theorem dX6_read_75 : decode cX6_read 75 = .ok (.if_icmp .lt 9, 3) := by decide +kernel
theorem dX6_read_78 : decode cX6_read 78 = .ok (.sipush 999, 3) := by decide +kernel
theorem dX6_read_81 : decode cX6_read 81 = .ok (.goto 4, 3) := by decide +kernel
theorem dX6_read_84 : decode cX6_read 84 = .ok (.iconst 0, 1) := by decide +kernel
theorem dX6_read_85 : decode cX6_read 85 = .ok (.invokevirtual 264, 3) := by decide +kernel
theorem dX6_read_88 : decode cX6_read 88 = .ok (.invokevirtual 96, 3) := by decide +kernel
theorem dX6_read_91 : decode cX6_read 91 = .ok (.iinc 3 1, 3) := by decide +kernel
theorem dX6_read_94 : decode cX6_read 94 = .ok (.goto (-42), 3) := by decide +kernel
theorem dX6_read_97 : decode cX6_read 97 = .ok (.aload_n 0, 1) := by decide +kernel
theorem dX6_read_98 : decode cX6_read 98 = .ok (.getfield 12, 3) := by decide +kernel
theorem dX6_read_101 : decode cX6_read 101 = .ok (.getfield 261, 3) := by decide +kernel
theorem dX6_read_104 : decode cX6_read 104 = .ok (.iload_n 1, 1) := by decide +kernel
theorem dX6_read_105 : decode cX6_read 105 = .ok (.bipush 16, 2) := by decide +kernel
theorem dX6_read_107 : decode cX6_read 107 = .ok (.iconst 1, 1) := by decide +kernel
theorem dX6_read_108 : decode cX6_read 108 = .ok (.invokevirtual 96, 3) := by decide +kernel
theorem dX6_read_111 : decode cX6_read 111 = .ok (.aload_n 0, 1) := by decide +kernel
theorem dX6_read_112 : decode cX6_read 112 = .ok (.getfield 29, 3) := by decide +kernel
theorem dX6_read_115 : decode cX6_read 115 = .ok (.getfield 267, 3) := by decide +kernel
theorem dX6_read_118 : decode cX6_read 118 = .ok (.ireturn, 1) := by decide +kernel
set_option maxRecDepth 20000 in
theorem ggX6_lease_X6_askedTerm : GoodIn wsX6_lease wsX6_askedTerm := goodIn_r _ [6, 7, 8, 5, 9] (by decide +kernel) (by decide +kernel)
set_option maxRecDepth 20000 in
theorem gX6_lease_X6_askedTerm : GoodIn wsX6_lease (va_wsS RX6 270 yX6_askedTerm wsX6_askedTerm) := goodIn_app (goodIn_of _ (by decide +kernel)) ggX6_lease_X6_askedTerm
set_option maxRecDepth 20000 in
theorem ggX6_lease_X6_isLease : GoodIn wsX6_lease wsX6_isLease := goodIn_r _ [12, 7, 8, 5, 9] (by decide +kernel) (by decide +kernel)
set_option maxRecDepth 20000 in
theorem gX6_lease_X6_isLease : GoodIn wsX6_lease (va_wsS RX6 72 yX6_isLease wsX6_isLease) := goodIn_app (goodIn_of _ (by decide +kernel)) ggX6_lease_X6_isLease
set_option maxRecDepth 20000 in
theorem ggX6_lease_X6_wasRead : GoodIn wsX6_lease wsX6_wasRead := goodIn_r _ [16, 1, 2, 17, 18, 19, 20, 21, 22, 23, 24, 25, 26, 27, 28, 29, 30, 31, 32, 33, 34, 35, 36, 37, 38, 39, 40, 41, 42, 43, 44, 45, 46, 47, 48, 49, 50, 51, 52, 53] (by decide +kernel) (by decide +kernel)
set_option maxRecDepth 20000 in
theorem gX6_lease_X6_wasRead : GoodIn wsX6_lease (wsV RX6 79 RX6 yX6_wasRead wsX6_wasRead) := goodIn_app (goodIn_of _ (by decide +kernel)) ggX6_lease_X6_wasRead
set_option maxRecDepth 20000 in
theorem ggX6_lease_X4_cell : GoodIn wsX6_lease wsX4_cell := goodIn_r _ [21, 22, 23, 24, 25, 26, 20, 27, 28, 50, 51, 52, 53] (by decide +kernel) (by decide +kernel)
set_option maxRecDepth 20000 in
theorem gX6_lease_X4_cell : GoodIn wsX6_lease (wsV RX6 113 RX4 yX4_cell wsX4_cell) := goodIn_app (goodIn_of _ (by decide +kernel)) ggX6_lease_X4_cell
theorem dX6_lease_0 : decode cX6_lease 0 = .ok (.iload_n 2, 1) := by decide +kernel
theorem dX6_lease_1 : decode cX6_lease 1 = .ok (.invokestatic 270, 3) := by decide +kernel
theorem dX6_lease_4 : decode cX6_lease 4 = .ok (.istore_n 3, 1) := by decide +kernel
theorem dX6_lease_5 : decode cX6_lease 5 = .ok (.iload_n 1, 1) := by decide +kernel
theorem dX6_lease_6 : decode cX6_lease 6 = .ok (.invokestatic 72, 3) := by decide +kernel
theorem dX6_lease_9 : decode cX6_lease 9 = .ok (.ifCond .eq 7, 3) := by decide +kernel
theorem dX6_lease_12 : decode cX6_lease 12 = .ok (.iload_n 3, 1) := by decide +kernel
theorem dX6_lease_13 : decode cX6_lease 13 = .ok (.ifCond .ge 5, 3) := by decide +kernel
theorem dX6_lease_16 : decode cX6_lease 16 = .ok (.iconst (-1), 1) := by decide +kernel
theorem dX6_lease_17 : decode cX6_lease 17 = .ok (.ireturn, 1) := by decide +kernel
theorem dX6_lease_18 : decode cX6_lease 18 = .ok (.aload_n 0, 1) := by decide +kernel
theorem dX6_lease_19 : decode cX6_lease 19 = .ok (.iload_n 1, 1) := by decide +kernel
theorem dX6_lease_20 : decode cX6_lease 20 = .ok (.invokevirtual 79, 3) := by decide +kernel
theorem dX6_lease_23 : decode cX6_lease 23 = .ok (.ifCond .eq 18, 3) := by decide +kernel
theorem dX6_lease_26 : decode cX6_lease 26 = .ok (.aload_n 0, 1) := by decide +kernel
theorem dX6_lease_27 : decode cX6_lease 27 = .ok (.getfield 12, 3) := by decide +kernel
theorem dX6_lease_30 : decode cX6_lease 30 = .ok (.getfield 261, 3) := by decide +kernel
theorem dX6_lease_33 : decode cX6_lease 33 = .ok (.iload_n 1, 1) := by decide +kernel
theorem dX6_lease_34 : decode cX6_lease 34 = .ok (.iload_n 3, 1) := by decide +kernel
theorem dX6_lease_35 : decode cX6_lease 35 = .ok (.invokevirtual 113, 3) := by decide +kernel
theorem dX6_lease_38 : decode cX6_lease 38 = .ok (.goto 5, 3) := by decide +kernel
theorem dX6_lease_41 : decode cX6_lease 41 = .ok (.bipush (-3), 2) := by decide +kernel
theorem dX6_lease_43 : decode cX6_lease 43 = .ok (.ireturn, 1) := by decide +kernel
set_option maxRecDepth 20000 in
theorem ggX6_giveBack_X4_has : GoodIn wsX6_giveBack wsX4_has := goodIn_r _ [9, 10, 98, 99, 100, 101] (by decide +kernel) (by decide +kernel)
set_option maxRecDepth 20000 in
theorem gX6_giveBack_X4_has : GoodIn wsX6_giveBack (wsV RX6 110 RX4 yX4_has wsX4_has) := goodIn_app (goodIn_of _ (by decide +kernel)) ggX6_giveBack_X4_has
set_option maxRecDepth 20000 in
theorem ggX6_giveBack_X6_isWithin : GoodIn wsX6_giveBack wsX6_isWithin := goodIn_r _ [14] (by decide +kernel) (by decide +kernel)
set_option maxRecDepth 20000 in
theorem gX6_giveBack_X6_isWithin : GoodIn wsX6_giveBack (va_wsS RX6 54 yX6_isWithin wsX6_isWithin) := goodIn_app (goodIn_of _ (by decide +kernel)) ggX6_giveBack_X6_isWithin
set_option maxRecDepth 20000 in
theorem ggX6_giveBack_X6_standing : GoodIn wsX6_giveBack wsX6_standing := goodIn_r _ [18, 1, 19, 20, 21, 22, 13, 23, 24, 25, 26, 8, 27, 10, 28, 29, 30, 31, 32, 33, 34, 35, 36, 37, 38, 39, 40, 41, 42, 43, 44, 45, 77, 78, 79, 80, 81, 82, 83, 84, 85, 86, 87, 88, 89, 90, 91, 92, 93, 94, 95, 96, 97, 98, 99, 100, 101] (by decide +kernel) (by decide +kernel)
set_option maxRecDepth 20000 in
theorem gX6_giveBack_X6_standing : GoodIn wsX6_giveBack (wsV RX6 138 RX6 yX6_standing wsX6_standing) := goodIn_app (goodIn_of _ (by decide +kernel)) ggX6_giveBack_X6_standing
set_option maxRecDepth 20000 in
theorem ggX6_giveBack_X6_isUnderLease : GoodIn wsX6_giveBack wsX6_isUnderLease := goodIn_r _ [49, 1, 2, 28, 29, 30, 8, 31, 32, 33, 34, 35, 36, 37, 10, 50, 51, 52, 13, 53, 77, 78, 79, 80, 81, 82, 83, 84, 85, 86, 87, 88, 89, 90, 91, 92, 93, 94, 95, 96, 97, 98, 99, 100, 101] (by decide +kernel) (by decide +kernel)
set_option maxRecDepth 20000 in
theorem gX6_giveBack_X6_isUnderLease : GoodIn wsX6_giveBack (wsV RX6 273 RX6 yX6_isUnderLease wsX6_isUnderLease) := goodIn_app (goodIn_of _ (by decide +kernel)) ggX6_giveBack_X6_isUnderLease
set_option maxRecDepth 20000 in
theorem ggX6_giveBack_X6_isPlace : GoodIn wsX6_giveBack wsX6_isPlace := goodIn_r _ [56, 11, 12, 13, 14] (by decide +kernel) (by decide +kernel)
set_option maxRecDepth 20000 in
theorem gX6_giveBack_X6_isPlace : GoodIn wsX6_giveBack (va_wsS RX6 126 yX6_isPlace wsX6_isPlace) := goodIn_app (goodIn_of _ (by decide +kernel)) ggX6_giveBack_X6_isPlace
set_option maxRecDepth 20000 in
theorem ggX6_giveBack_X4_cell : GoodIn wsX6_giveBack wsX4_cell := goodIn_r _ [31, 32, 33, 34, 35, 36, 8, 37, 10, 98, 99, 100, 101] (by decide +kernel) (by decide +kernel)
set_option maxRecDepth 20000 in
theorem gX6_giveBack_X4_cell : GoodIn wsX6_giveBack (wsV RX6 113 RX4 yX4_cell wsX4_cell) := goodIn_app (goodIn_of _ (by decide +kernel)) ggX6_giveBack_X4_cell
set_option maxRecDepth 20000 in
theorem ggX6_giveBack_X6_givenBackThisWeek : GoodIn wsX6_giveBack wsX6_givenBackThisWeek := goodIn_r _ [60, 1, 2, 3, 24, 25, 26, 8, 27, 10, 28, 29, 30, 31, 32, 33, 34, 35, 36, 37, 77, 78, 79, 80, 81, 82, 83, 84, 85, 86, 87, 88, 89, 90, 91, 92, 93, 94, 95, 96, 97, 98, 99, 100, 101] (by decide +kernel) (by decide +kernel)
set_option maxRecDepth 20000 in
theorem gX6_giveBack_X6_givenBackThisWeek : GoodIn wsX6_giveBack (wsV RX6 276 RX6 yX6_givenBackThisWeek wsX6_givenBackThisWeek) := goodIn_app (goodIn_of _ (by decide +kernel)) ggX6_giveBack_X6_givenBackThisWeek
set_option maxRecDepth 20000 in
theorem ggX6_giveBack_X6_dayBill : GoodIn wsX6_giveBack wsX6_dayBill := goodIn_r _ [64, 1, 2, 3, 4, 65, 66, 67, 68, 28, 29, 30, 8, 31, 32, 33, 34, 35, 36, 37, 10, 77, 78, 79, 80, 81, 82, 83, 84, 85, 86, 87, 88, 89, 90, 91, 92, 93, 94, 95, 96, 97, 98, 99, 100, 101] (by decide +kernel) (by decide +kernel)
set_option maxRecDepth 20000 in
theorem gX6_giveBack_X6_dayBill : GoodIn wsX6_giveBack (wsV RX6 279 RX6 yX6_dayBill wsX6_dayBill) := goodIn_app (goodIn_of _ (by decide +kernel)) ggX6_giveBack_X6_dayBill
set_option maxRecDepth 20000 in
theorem ggX6_giveBack_X4_put : GoodIn wsX6_giveBack wsX4_put := goodIn_r _ [72, 32, 33, 34, 35, 36, 8, 37, 10, 98, 99, 100, 101] (by decide +kernel) (by decide +kernel)
set_option maxRecDepth 20000 in
theorem gX6_giveBack_X4_put : GoodIn wsX6_giveBack (wsV RX6 96 RX4 yX4_put wsX4_put) := goodIn_app (goodIn_of _ (by decide +kernel)) ggX6_giveBack_X4_put
set_option maxRecDepth 20000 in
theorem ggX6_giveBack_X6_endLease : GoodIn wsX6_giveBack wsX6_endLease := goodIn_r _ [76, 1, 2, 69, 70, 71, 8, 72, 32, 33, 34, 35, 36, 37, 10, 77, 78, 79, 80, 81, 82, 83, 84, 85, 86, 87, 88, 89, 90, 91, 92, 93, 94, 95, 96, 97, 98, 99, 100, 101] (by decide +kernel) (by decide +kernel)
set_option maxRecDepth 20000 in
theorem gX6_giveBack_X6_endLease : GoodIn wsX6_giveBack (wsV RX6 282 RX6 yX6_endLease wsX6_endLease) := goodIn_app (goodIn_of _ (by decide +kernel)) ggX6_giveBack_X6_endLease
theorem dX6_giveBack_0 : decode cX6_giveBack 0 = .ok (.aload_n 0, 1) := by decide +kernel
theorem dX6_giveBack_1 : decode cX6_giveBack 1 = .ok (.getfield 12, 3) := by decide +kernel
theorem dX6_giveBack_4 : decode cX6_giveBack 4 = .ok (.getfield 82, 3) := by decide +kernel
theorem dX6_giveBack_7 : decode cX6_giveBack 7 = .ok (.iload_n 1, 1) := by decide +kernel
theorem dX6_giveBack_8 : decode cX6_giveBack 8 = .ok (.invokevirtual 110, 3) := by decide +kernel
theorem dX6_giveBack_11 : decode cX6_giveBack 11 = .ok (.ifCond .eq 13, 3) := by decide +kernel
theorem dX6_giveBack_14 : decode cX6_giveBack 14 = .ok (.iload_n 2, 1) := by decide +kernel
theorem dX6_giveBack_15 : decode cX6_giveBack 15 = .ok (.iconst 0, 1) := by decide +kernel
theorem dX6_giveBack_16 : decode cX6_giveBack 16 = .ok (.bipush 9, 2) := by decide +kernel
theorem dX6_giveBack_18 : decode cX6_giveBack 18 = .ok (.invokestatic 54, 3) := by decide +kernel
theorem dX6_giveBack_21 : decode cX6_giveBack 21 = .ok (.ifCond .ne 5, 3) := by decide +kernel
theorem dX6_giveBack_24 : decode cX6_giveBack 24 = .ok (.iconst (-1), 1) := by decide +kernel
theorem dX6_giveBack_25 : decode cX6_giveBack 25 = .ok (.ireturn, 1) := by decide +kernel
theorem dX6_giveBack_26 : decode cX6_giveBack 26 = .ok (.aload_n 0, 1) := by decide +kernel
theorem dX6_giveBack_27 : decode cX6_giveBack 27 = .ok (.iload_n 1, 1) := by decide +kernel
theorem dX6_giveBack_28 : decode cX6_giveBack 28 = .ok (.aload_n 0, 1) := by decide +kernel
theorem dX6_giveBack_29 : decode cX6_giveBack 29 = .ok (.getfield 12, 3) := by decide +kernel
theorem dX6_giveBack_32 : decode cX6_giveBack 32 = .ok (.getfield 58, 3) := by decide +kernel
theorem dX6_giveBack_35 : decode cX6_giveBack 35 = .ok (.aload_n 0, 1) := by decide +kernel
theorem dX6_giveBack_36 : decode cX6_giveBack 36 = .ok (.getfield 12, 3) := by decide +kernel
theorem dX6_giveBack_39 : decode cX6_giveBack 39 = .ok (.getfield 58, 3) := by decide +kernel
theorem dX6_giveBack_42 : decode cX6_giveBack 42 = .ok (.invokevirtual 138, 3) := by decide +kernel
theorem dX6_giveBack_45 : decode cX6_giveBack 45 = .ok (.istore_n 3, 1) := by decide +kernel
theorem dX6_giveBack_46 : decode cX6_giveBack 46 = .ok (.aload_n 0, 1) := by decide +kernel
theorem dX6_giveBack_47 : decode cX6_giveBack 47 = .ok (.iload_n 1, 1) := by decide +kernel
theorem dX6_giveBack_48 : decode cX6_giveBack 48 = .ok (.invokevirtual 273, 3) := by decide +kernel
theorem dX6_giveBack_51 : decode cX6_giveBack 51 = .ok (.ifCond .eq 10, 3) := by decide +kernel
theorem dX6_giveBack_54 : decode cX6_giveBack 54 = .ok (.iload_n 3, 1) := by decide +kernel
theorem dX6_giveBack_55 : decode cX6_giveBack 55 = .ok (.invokestatic 126, 3) := by decide +kernel
theorem dX6_giveBack_58 : decode cX6_giveBack 58 = .ok (.ifCond .ne 6, 3) := by decide +kernel
theorem dX6_giveBack_61 : decode cX6_giveBack 61 = .ok (.bipush (-4), 2) := by decide +kernel
theorem dX6_giveBack_63 : decode cX6_giveBack 63 = .ok (.ireturn, 1) := by decide +kernel
theorem dX6_giveBack_64 : decode cX6_giveBack 64 = .ok (.aload_n 0, 1) := by decide +kernel
theorem dX6_giveBack_65 : decode cX6_giveBack 65 = .ok (.getfield 12, 3) := by decide +kernel
theorem dX6_giveBack_68 : decode cX6_giveBack 68 = .ok (.getfield 82, 3) := by decide +kernel
theorem dX6_giveBack_71 : decode cX6_giveBack 71 = .ok (.iload_n 1, 1) := by decide +kernel
theorem dX6_giveBack_72 : decode cX6_giveBack 72 = .ok (.iconst 3, 1) := by decide +kernel
theorem dX6_giveBack_73 : decode cX6_giveBack 73 = .ok (.invokevirtual 113, 3) := by decide +kernel
theorem dX6_giveBack_76 : decode cX6_giveBack 76 = .ok (.istore 4, 2) := by decide +kernel
theorem dX6_giveBack_78 : decode cX6_giveBack 78 = .ok (.aload_n 0, 1) := by decide +kernel
theorem dX6_giveBack_79 : decode cX6_giveBack 79 = .ok (.iload 4, 2) := by decide +kernel
theorem dX6_giveBack_81 : decode cX6_giveBack 81 = .ok (.iload_n 3, 1) := by decide +kernel
theorem dX6_giveBack_82 : decode cX6_giveBack 82 = .ok (.invokevirtual 276, 3) := by decide +kernel
theorem dX6_giveBack_85 : decode cX6_giveBack 85 = .ok (.aload_n 0, 1) := by decide +kernel
theorem dX6_giveBack_86 : decode cX6_giveBack 86 = .ok (.getfield 12, 3) := by decide +kernel
theorem dX6_giveBack_89 : decode cX6_giveBack 89 = .ok (.getfield 261, 3) := by decide +kernel
theorem dX6_giveBack_92 : decode cX6_giveBack 92 = .ok (.iload 4, 2) := by decide +kernel
theorem dX6_giveBack_94 : decode cX6_giveBack 94 = .ok (.bipush 10, 2) := by decide +kernel
theorem dX6_giveBack_96 : decode cX6_giveBack 96 = .ok (.iload_n 3, 1) := by decide +kernel
theorem dX6_giveBack_97 : decode cX6_giveBack 97 = .ok (.iadd, 1) := by decide +kernel
theorem dX6_giveBack_98 : decode cX6_giveBack 98 = .ok (.invokevirtual 113, 3) := by decide +kernel
theorem dX6_giveBack_101 : decode cX6_giveBack 101 = .ok (.if_icmp .lt 6, 3) := by decide +kernel
theorem dX6_giveBack_104 : decode cX6_giveBack 104 = .ok (.bipush (-2), 2) := by decide +kernel
theorem dX6_giveBack_106 : decode cX6_giveBack 106 = .ok (.ireturn, 1) := by decide +kernel
theorem dX6_giveBack_107 : decode cX6_giveBack 107 = .ok (.aload_n 0, 1) := by decide +kernel
theorem dX6_giveBack_108 : decode cX6_giveBack 108 = .ok (.iload_n 1, 1) := by decide +kernel
theorem dX6_giveBack_109 : decode cX6_giveBack 109 = .ok (.invokevirtual 279, 3) := by decide +kernel
theorem dX6_giveBack_112 : decode cX6_giveBack 112 = .ok (.aload_n 0, 1) := by decide +kernel
theorem dX6_giveBack_113 : decode cX6_giveBack 113 = .ok (.getfield 12, 3) := by decide +kernel
theorem dX6_giveBack_116 : decode cX6_giveBack 116 = .ok (.getfield 261, 3) := by decide +kernel
theorem dX6_giveBack_119 : decode cX6_giveBack 119 = .ok (.iload 4, 2) := by decide +kernel
theorem dX6_giveBack_121 : decode cX6_giveBack 121 = .ok (.iconst 4, 1) := by decide +kernel
theorem dX6_giveBack_122 : decode cX6_giveBack 122 = .ok (.iload_n 3, 1) := by decide +kernel
theorem dX6_giveBack_123 : decode cX6_giveBack 123 = .ok (.iadd, 1) := by decide +kernel
theorem dX6_giveBack_124 : decode cX6_giveBack 124 = .ok (.invokevirtual 113, 3) := by decide +kernel
theorem dX6_giveBack_127 : decode cX6_giveBack 127 = .ok (.iadd, 1) := by decide +kernel
theorem dX6_giveBack_128 : decode cX6_giveBack 128 = .ok (.aload_n 0, 1) := by decide +kernel
theorem dX6_giveBack_129 : decode cX6_giveBack 129 = .ok (.getfield 12, 3) := by decide +kernel
theorem dX6_giveBack_132 : decode cX6_giveBack 132 = .ok (.getfield 261, 3) := by decide +kernel
theorem dX6_giveBack_135 : decode cX6_giveBack 135 = .ok (.iload 4, 2) := by decide +kernel
theorem dX6_giveBack_137 : decode cX6_giveBack 137 = .ok (.iconst 2, 1) := by decide +kernel
theorem dX6_giveBack_138 : decode cX6_giveBack 138 = .ok (.invokevirtual 113, 3) := by decide +kernel
theorem dX6_giveBack_141 : decode cX6_giveBack 141 = .ok (.iload_n 2, 1) := by decide +kernel
theorem dX6_giveBack_142 : decode cX6_giveBack 142 = .ok (.imul, 1) := by decide +kernel
theorem dX6_giveBack_143 : decode cX6_giveBack 143 = .ok (.iadd, 1) := by decide +kernel
theorem dX6_giveBack_144 : decode cX6_giveBack 144 = .ok (.istore 5, 2) := by decide +kernel
theorem dX6_giveBack_146 : decode cX6_giveBack 146 = .ok (.aload_n 0, 1) := by decide +kernel
theorem dX6_giveBack_147 : decode cX6_giveBack 147 = .ok (.getfield 12, 3) := by decide +kernel
theorem dX6_giveBack_150 : decode cX6_giveBack 150 = .ok (.getfield 82, 3) := by decide +kernel
theorem dX6_giveBack_153 : decode cX6_giveBack 153 = .ok (.iload_n 1, 1) := by decide +kernel
theorem dX6_giveBack_154 : decode cX6_giveBack 154 = .ok (.bipush 7, 2) := by decide +kernel
theorem dX6_giveBack_156 : decode cX6_giveBack 156 = .ok (.aload_n 0, 1) := by decide +kernel
theorem dX6_giveBack_157 : decode cX6_giveBack 157 = .ok (.getfield 12, 3) := by decide +kernel
theorem dX6_giveBack_160 : decode cX6_giveBack 160 = .ok (.getfield 58, 3) := by decide +kernel
theorem dX6_giveBack_163 : decode cX6_giveBack 163 = .ok (.invokevirtual 96, 3) := by decide +kernel
theorem dX6_giveBack_166 : decode cX6_giveBack 166 = .ok (.aload_n 0, 1) := by decide +kernel
theorem dX6_giveBack_167 : decode cX6_giveBack 167 = .ok (.getfield 12, 3) := by decide +kernel
theorem dX6_giveBack_170 : decode cX6_giveBack 170 = .ok (.getfield 82, 3) := by decide +kernel
theorem dX6_giveBack_173 : decode cX6_giveBack 173 = .ok (.iload_n 1, 1) := by decide +kernel
theorem dX6_giveBack_174 : decode cX6_giveBack 174 = .ok (.bipush 8, 2) := by decide +kernel
theorem dX6_giveBack_176 : decode cX6_giveBack 176 = .ok (.iload_n 3, 1) := by decide +kernel
theorem dX6_giveBack_177 : decode cX6_giveBack 177 = .ok (.invokevirtual 96, 3) := by decide +kernel
theorem dX6_giveBack_180 : decode cX6_giveBack 180 = .ok (.aload_n 0, 1) := by decide +kernel
theorem dX6_giveBack_181 : decode cX6_giveBack 181 = .ok (.iload_n 1, 1) := by decide +kernel
theorem dX6_giveBack_182 : decode cX6_giveBack 182 = .ok (.iconst 1, 1) := by decide +kernel
theorem dX6_giveBack_183 : decode cX6_giveBack 183 = .ok (.iload 5, 2) := by decide +kernel
theorem dX6_giveBack_185 : decode cX6_giveBack 185 = .ok (.invokevirtual 282, 3) := by decide +kernel
theorem dX6_giveBack_188 : decode cX6_giveBack 188 = .ok (.ireturn, 1) := by decide +kernel
set_option maxRecDepth 20000 in
theorem ggX6_writeOff_X4_has : GoodIn wsX6_writeOff wsX4_has := goodIn_r _ [9, 10, 92, 93, 94, 95] (by decide +kernel) (by decide +kernel)
set_option maxRecDepth 20000 in
theorem gX6_writeOff_X4_has : GoodIn wsX6_writeOff (wsV RX6 110 RX4 yX4_has wsX4_has) := goodIn_app (goodIn_of _ (by decide +kernel)) ggX6_writeOff_X4_has
set_option maxRecDepth 20000 in
theorem ggX6_writeOff_X6_standing : GoodIn wsX6_writeOff wsX6_standing := goodIn_r _ [15, 1, 16, 17, 18, 19, 14, 20, 21, 22, 23, 8, 24, 10, 25, 26, 27, 28, 29, 30, 31, 32, 33, 34, 35, 36, 37, 38, 39, 40, 41, 42, 71, 72, 73, 74, 75, 76, 77, 78, 79, 80, 81, 82, 83, 84, 85, 86, 87, 88, 89, 90, 91, 92, 93, 94, 95] (by decide +kernel) (by decide +kernel)
set_option maxRecDepth 20000 in
theorem gX6_writeOff_X6_standing : GoodIn wsX6_writeOff (wsV RX6 138 RX6 yX6_standing wsX6_standing) := goodIn_app (goodIn_of _ (by decide +kernel)) ggX6_writeOff_X6_standing
set_option maxRecDepth 20000 in
theorem ggX6_writeOff_X6_isUnderLease : GoodIn wsX6_writeOff wsX6_isUnderLease := goodIn_r _ [46, 1, 2, 25, 26, 27, 8, 28, 29, 30, 31, 32, 33, 34, 10, 47, 48, 49, 14, 50, 71, 72, 73, 74, 75, 76, 77, 78, 79, 80, 81, 82, 83, 84, 85, 86, 87, 88, 89, 90, 91, 92, 93, 94, 95] (by decide +kernel) (by decide +kernel)
set_option maxRecDepth 20000 in
theorem gX6_writeOff_X6_isUnderLease : GoodIn wsX6_writeOff (wsV RX6 273 RX6 yX6_isUnderLease wsX6_isUnderLease) := goodIn_app (goodIn_of _ (by decide +kernel)) ggX6_writeOff_X6_isUnderLease
set_option maxRecDepth 20000 in
theorem ggX6_writeOff_X6_isLateToday : GoodIn wsX6_writeOff wsX6_isLateToday := goodIn_r _ [54, 1, 3, 16, 17, 18, 19, 14, 20, 21, 22, 23, 8, 24, 10, 25, 26, 27, 28, 29, 30, 31, 32, 33, 34, 35, 36, 37, 38, 39, 40, 41, 42, 71, 72, 73, 74, 75, 76, 77, 78, 79, 80, 81, 82, 83, 84, 85, 86, 87, 88, 89, 90, 91, 92, 93, 94, 95] (by decide +kernel) (by decide +kernel)
set_option maxRecDepth 20000 in
theorem gX6_writeOff_X6_isLateToday : GoodIn wsX6_writeOff (wsV RX6 161 RX6 yX6_isLateToday wsX6_isLateToday) := goodIn_app (goodIn_of _ (by decide +kernel)) ggX6_writeOff_X6_isLateToday
set_option maxRecDepth 20000 in
theorem ggX6_writeOff_X4_cell : GoodIn wsX6_writeOff wsX4_cell := goodIn_r _ [28, 29, 30, 31, 32, 33, 8, 34, 10, 92, 93, 94, 95] (by decide +kernel) (by decide +kernel)
set_option maxRecDepth 20000 in
theorem gX6_writeOff_X4_cell : GoodIn wsX6_writeOff (wsV RX6 113 RX4 yX4_cell wsX4_cell) := goodIn_app (goodIn_of _ (by decide +kernel)) ggX6_writeOff_X4_cell
set_option maxRecDepth 20000 in
theorem ggX6_writeOff_X6_dayBill : GoodIn wsX6_writeOff wsX6_dayBill := goodIn_r _ [58, 1, 2, 3, 4, 59, 60, 61, 62, 25, 26, 27, 8, 28, 29, 30, 31, 32, 33, 34, 10, 71, 72, 73, 74, 75, 76, 77, 78, 79, 80, 81, 82, 83, 84, 85, 86, 87, 88, 89, 90, 91, 92, 93, 94, 95] (by decide +kernel) (by decide +kernel)
set_option maxRecDepth 20000 in
theorem gX6_writeOff_X6_dayBill : GoodIn wsX6_writeOff (wsV RX6 279 RX6 yX6_dayBill wsX6_dayBill) := goodIn_app (goodIn_of _ (by decide +kernel)) ggX6_writeOff_X6_dayBill
set_option maxRecDepth 20000 in
theorem ggX6_writeOff_X6_endLease : GoodIn wsX6_writeOff wsX6_endLease := goodIn_r _ [66, 1, 2, 67, 68, 69, 8, 70, 29, 30, 31, 32, 33, 34, 10, 71, 72, 73, 74, 75, 76, 77, 78, 79, 80, 81, 82, 83, 84, 85, 86, 87, 88, 89, 90, 91, 92, 93, 94, 95] (by decide +kernel) (by decide +kernel)
set_option maxRecDepth 20000 in
theorem gX6_writeOff_X6_endLease : GoodIn wsX6_writeOff (wsV RX6 282 RX6 yX6_endLease wsX6_endLease) := goodIn_app (goodIn_of _ (by decide +kernel)) ggX6_writeOff_X6_endLease
theorem dX6_writeOff_0 : decode cX6_writeOff 0 = .ok (.aload_n 0, 1) := by decide +kernel
theorem dX6_writeOff_1 : decode cX6_writeOff 1 = .ok (.getfield 12, 3) := by decide +kernel
theorem dX6_writeOff_4 : decode cX6_writeOff 4 = .ok (.getfield 82, 3) := by decide +kernel
theorem dX6_writeOff_7 : decode cX6_writeOff 7 = .ok (.iload_n 1, 1) := by decide +kernel
theorem dX6_writeOff_8 : decode cX6_writeOff 8 = .ok (.invokevirtual 110, 3) := by decide +kernel
theorem dX6_writeOff_11 : decode cX6_writeOff 11 = .ok (.ifCond .ne 5, 3) := by decide +kernel
theorem dX6_writeOff_14 : decode cX6_writeOff 14 = .ok (.iconst (-1), 1) := by decide +kernel
theorem dX6_writeOff_15 : decode cX6_writeOff 15 = .ok (.ireturn, 1) := by decide +kernel
theorem dX6_writeOff_16 : decode cX6_writeOff 16 = .ok (.aload_n 0, 1) := by decide +kernel
theorem dX6_writeOff_17 : decode cX6_writeOff 17 = .ok (.iload_n 1, 1) := by decide +kernel
theorem dX6_writeOff_18 : decode cX6_writeOff 18 = .ok (.aload_n 0, 1) := by decide +kernel
theorem dX6_writeOff_19 : decode cX6_writeOff 19 = .ok (.getfield 12, 3) := by decide +kernel
theorem dX6_writeOff_22 : decode cX6_writeOff 22 = .ok (.getfield 58, 3) := by decide +kernel
theorem dX6_writeOff_25 : decode cX6_writeOff 25 = .ok (.aload_n 0, 1) := by decide +kernel
theorem dX6_writeOff_26 : decode cX6_writeOff 26 = .ok (.getfield 12, 3) := by decide +kernel
theorem dX6_writeOff_29 : decode cX6_writeOff 29 = .ok (.getfield 58, 3) := by decide +kernel
theorem dX6_writeOff_32 : decode cX6_writeOff 32 = .ok (.invokevirtual 138, 3) := by decide +kernel
theorem dX6_writeOff_35 : decode cX6_writeOff 35 = .ok (.bipush 20, 2) := by decide +kernel
theorem dX6_writeOff_37 : decode cX6_writeOff 37 = .ok (.if_icmp .ne 7, 3) := by decide +kernel
theorem dX6_writeOff_40 : decode cX6_writeOff 40 = .ok (.iconst 1, 1) := by decide +kernel
theorem dX6_writeOff_41 : decode cX6_writeOff 41 = .ok (.goto 4, 3) := by decide +kernel
theorem dX6_writeOff_44 : decode cX6_writeOff 44 = .ok (.iconst 0, 1) := by decide +kernel
theorem dX6_writeOff_45 : decode cX6_writeOff 45 = .ok (.istore_n 2, 1) := by decide +kernel
theorem dX6_writeOff_46 : decode cX6_writeOff 46 = .ok (.aload_n 0, 1) := by decide +kernel
theorem dX6_writeOff_47 : decode cX6_writeOff 47 = .ok (.iload_n 1, 1) := by decide +kernel
theorem dX6_writeOff_48 : decode cX6_writeOff 48 = .ok (.invokevirtual 273, 3) := by decide +kernel
theorem dX6_writeOff_51 : decode cX6_writeOff 51 = .ok (.ifCond .eq 15, 3) := by decide +kernel
theorem dX6_writeOff_54 : decode cX6_writeOff 54 = .ok (.iload_n 2, 1) := by decide +kernel
theorem dX6_writeOff_55 : decode cX6_writeOff 55 = .ok (.ifCond .ne 14, 3) := by decide +kernel
theorem dX6_writeOff_58 : decode cX6_writeOff 58 = .ok (.aload_n 0, 1) := by decide +kernel
theorem dX6_writeOff_59 : decode cX6_writeOff 59 = .ok (.iload_n 1, 1) := by decide +kernel
theorem dX6_writeOff_60 : decode cX6_writeOff 60 = .ok (.invokevirtual 161, 3) := by decide +kernel
theorem dX6_writeOff_63 : decode cX6_writeOff 63 = .ok (.ifCond .ne 6, 3) := by decide +kernel
theorem dX6_writeOff_66 : decode cX6_writeOff 66 = .ok (.bipush (-4), 2) := by decide +kernel
theorem dX6_writeOff_68 : decode cX6_writeOff 68 = .ok (.ireturn, 1) := by decide +kernel
theorem dX6_writeOff_69 : decode cX6_writeOff 69 = .ok (.aload_n 0, 1) := by decide +kernel
theorem dX6_writeOff_70 : decode cX6_writeOff 70 = .ok (.getfield 12, 3) := by decide +kernel
theorem dX6_writeOff_73 : decode cX6_writeOff 73 = .ok (.getfield 261, 3) := by decide +kernel
theorem dX6_writeOff_76 : decode cX6_writeOff 76 = .ok (.aload_n 0, 1) := by decide +kernel
theorem dX6_writeOff_77 : decode cX6_writeOff 77 = .ok (.getfield 12, 3) := by decide +kernel
theorem dX6_writeOff_80 : decode cX6_writeOff 80 = .ok (.getfield 82, 3) := by decide +kernel
theorem dX6_writeOff_83 : decode cX6_writeOff 83 = .ok (.iload_n 1, 1) := by decide +kernel
theorem dX6_writeOff_84 : decode cX6_writeOff 84 = .ok (.iconst 3, 1) := by decide +kernel
theorem dX6_writeOff_85 : decode cX6_writeOff 85 = .ok (.invokevirtual 113, 3) := by decide +kernel
theorem dX6_writeOff_88 : decode cX6_writeOff 88 = .ok (.iconst 3, 1) := by decide +kernel
theorem dX6_writeOff_89 : decode cX6_writeOff 89 = .ok (.invokevirtual 113, 3) := by decide +kernel
theorem dX6_writeOff_92 : decode cX6_writeOff 92 = .ok (.istore_n 3, 1) := by decide +kernel
theorem dX6_writeOff_93 : decode cX6_writeOff 93 = .ok (.aload_n 0, 1) := by decide +kernel
theorem dX6_writeOff_94 : decode cX6_writeOff 94 = .ok (.iload_n 1, 1) := by decide +kernel
theorem dX6_writeOff_95 : decode cX6_writeOff 95 = .ok (.iconst 2, 1) := by decide +kernel
theorem dX6_writeOff_96 : decode cX6_writeOff 96 = .ok (.aload_n 0, 1) := by decide +kernel
theorem dX6_writeOff_97 : decode cX6_writeOff 97 = .ok (.iload_n 1, 1) := by decide +kernel
theorem dX6_writeOff_98 : decode cX6_writeOff 98 = .ok (.invokevirtual 279, 3) := by decide +kernel
theorem dX6_writeOff_101 : decode cX6_writeOff 101 = .ok (.iload_n 3, 1) := by decide +kernel
theorem dX6_writeOff_102 : decode cX6_writeOff 102 = .ok (.iadd, 1) := by decide +kernel
theorem dX6_writeOff_103 : decode cX6_writeOff 103 = .ok (.invokevirtual 282, 3) := by decide +kernel
theorem dX6_writeOff_106 : decode cX6_writeOff 106 = .ok (.ireturn, 1) := by decide +kernel
set_option maxRecDepth 20000 in
theorem ggX6_wasRead_X4_cell : GoodIn wsX6_wasRead wsX4_cell := goodIn_r _ [7, 8, 9, 10, 11, 12, 6, 13, 14, 36, 37, 38, 39] (by decide +kernel) (by decide +kernel)
set_option maxRecDepth 20000 in
theorem gX6_wasRead_X4_cell : GoodIn wsX6_wasRead (wsV RX6 113 RX4 yX4_cell wsX4_cell) := goodIn_app (goodIn_of _ (by decide +kernel)) ggX6_wasRead_X4_cell
theorem dX6_wasRead_0 : decode cX6_wasRead 0 = .ok (.aload_n 0, 1) := by decide +kernel
theorem dX6_wasRead_1 : decode cX6_wasRead 1 = .ok (.getfield 12, 3) := by decide +kernel
theorem dX6_wasRead_4 : decode cX6_wasRead 4 = .ok (.getfield 261, 3) := by decide +kernel
theorem dX6_wasRead_7 : decode cX6_wasRead 7 = .ok (.iload_n 1, 1) := by decide +kernel
theorem dX6_wasRead_8 : decode cX6_wasRead 8 = .ok (.bipush 16, 2) := by decide +kernel
theorem dX6_wasRead_10 : decode cX6_wasRead 10 = .ok (.invokevirtual 113, 3) := by decide +kernel
theorem dX6_wasRead_13 : decode cX6_wasRead 13 = .ok (.iconst 1, 1) := by decide +kernel
theorem dX6_wasRead_14 : decode cX6_wasRead 14 = .ok (.if_icmp .ne 7, 3) := by decide +kernel
theorem dX6_wasRead_17 : decode cX6_wasRead 17 = .ok (.iconst 1, 1) := by decide +kernel
theorem dX6_wasRead_18 : decode cX6_wasRead 18 = .ok (.goto 4, 3) := by decide +kernel
theorem dX6_wasRead_21 : decode cX6_wasRead 21 = .ok (.iconst 0, 1) := by decide +kernel
theorem dX6_wasRead_22 : decode cX6_wasRead 22 = .ok (.ireturn, 1) := by decide +kernel
set_option maxRecDepth 20000 in
theorem ggX6_askedTerm_X6_isWithin : GoodIn wsX6_askedTerm wsX6_isWithin := goodIn_r _ [4] (by decide +kernel) (by decide +kernel)
set_option maxRecDepth 20000 in
theorem gX6_askedTerm_X6_isWithin : GoodIn wsX6_askedTerm (va_wsS RX6 54 yX6_isWithin wsX6_isWithin) := goodIn_app (goodIn_of _ (by decide +kernel)) ggX6_askedTerm_X6_isWithin
theorem dX6_askedTerm_0 : decode cX6_askedTerm 0 = .ok (.iload_n 0, 1) := by decide +kernel
theorem dX6_askedTerm_1 : decode cX6_askedTerm 1 = .ok (.iconst 0, 1) := by decide +kernel
theorem dX6_askedTerm_2 : decode cX6_askedTerm 2 = .ok (.iconst 3, 1) := by decide +kernel
theorem dX6_askedTerm_3 : decode cX6_askedTerm 3 = .ok (.invokestatic 54, 3) := by decide +kernel
theorem dX6_askedTerm_6 : decode cX6_askedTerm 6 = .ok (.ifCond .eq 5, 3) := by decide +kernel
theorem dX6_askedTerm_9 : decode cX6_askedTerm 9 = .ok (.iload_n 0, 1) := by decide +kernel
theorem dX6_askedTerm_10 : decode cX6_askedTerm 10 = .ok (.ireturn, 1) := by decide +kernel
theorem dX6_askedTerm_11 : decode cX6_askedTerm 11 = .ok (.iload_n 0, 1) := by decide +kernel
theorem dX6_askedTerm_12 : decode cX6_askedTerm 12 = .ok (.bipush 10, 2) := by decide +kernel
theorem dX6_askedTerm_14 : decode cX6_askedTerm 14 = .ok (.bipush 15, 2) := by decide +kernel
theorem dX6_askedTerm_16 : decode cX6_askedTerm 16 = .ok (.invokestatic 54, 3) := by decide +kernel
theorem dX6_askedTerm_19 : decode cX6_askedTerm 19 = .ok (.ifCond .eq 10, 3) := by decide +kernel
theorem dX6_askedTerm_22 : decode cX6_askedTerm 22 = .ok (.iconst 4, 1) := by decide +kernel
theorem dX6_askedTerm_23 : decode cX6_askedTerm 23 = .ok (.iload_n 0, 1) := by decide +kernel
theorem dX6_askedTerm_24 : decode cX6_askedTerm 24 = .ok (.bipush 10, 2) := by decide +kernel
theorem dX6_askedTerm_26 : decode cX6_askedTerm 26 = .ok (.isub, 1) := by decide +kernel
theorem dX6_askedTerm_27 : decode cX6_askedTerm 27 = .ok (.iadd, 1) := by decide +kernel
theorem dX6_askedTerm_28 : decode cX6_askedTerm 28 = .ok (.ireturn, 1) := by decide +kernel
theorem dX6_askedTerm_29 : decode cX6_askedTerm 29 = .ok (.iload_n 0, 1) := by decide +kernel
theorem dX6_askedTerm_30 : decode cX6_askedTerm 30 = .ok (.bipush 20, 2) := by decide +kernel
theorem dX6_askedTerm_32 : decode cX6_askedTerm 32 = .ok (.bipush 25, 2) := by decide +kernel
theorem dX6_askedTerm_34 : decode cX6_askedTerm 34 = .ok (.invokestatic 54, 3) := by decide +kernel
theorem dX6_askedTerm_37 : decode cX6_askedTerm 37 = .ok (.ifCond .eq 13, 3) := by decide +kernel
theorem dX6_askedTerm_40 : decode cX6_askedTerm 40 = .ok (.bipush 10, 2) := by decide +kernel
theorem dX6_askedTerm_42 : decode cX6_askedTerm 42 = .ok (.iload_n 0, 1) := by decide +kernel
theorem dX6_askedTerm_43 : decode cX6_askedTerm 43 = .ok (.bipush 20, 2) := by decide +kernel
theorem dX6_askedTerm_45 : decode cX6_askedTerm 45 = .ok (.isub, 1) := by decide +kernel
theorem dX6_askedTerm_46 : decode cX6_askedTerm 46 = .ok (.iadd, 1) := by decide +kernel
theorem dX6_askedTerm_47 : decode cX6_askedTerm 47 = .ok (.goto 5, 3) := by decide +kernel
theorem dX6_askedTerm_50 : decode cX6_askedTerm 50 = .ok (.bipush (-3), 2) := by decide +kernel
theorem dX6_askedTerm_52 : decode cX6_askedTerm 52 = .ok (.ireturn, 1) := by decide +kernel
set_option maxRecDepth 20000 in
theorem ggX6_isUnderLease_X4_cell : GoodIn wsX6_isUnderLease wsX4_cell := goodIn_r _ [7, 8, 9, 10, 11, 12, 6, 13, 14, 41, 42, 43, 44] (by decide +kernel) (by decide +kernel)
set_option maxRecDepth 20000 in
theorem gX6_isUnderLease_X4_cell : GoodIn wsX6_isUnderLease (wsV RX6 113 RX4 yX4_cell wsX4_cell) := goodIn_app (goodIn_of _ (by decide +kernel)) ggX6_isUnderLease_X4_cell
set_option maxRecDepth 20000 in
theorem ggX6_isUnderLease_X6_isWithLine : GoodIn wsX6_isUnderLease wsX6_isWithLine := goodIn_r _ [19, 1, 2, 3, 4, 5, 6, 7, 8, 9, 10, 11, 12, 13, 14, 20, 21, 22, 23, 24, 25, 26, 27, 28, 29, 30, 31, 32, 33, 34, 35, 36, 37, 38, 39, 40, 41, 42, 43, 44] (by decide +kernel) (by decide +kernel)
set_option maxRecDepth 20000 in
theorem gX6_isUnderLease_X6_isWithLine : GoodIn wsX6_isUnderLease (wsV RX6 129 RX6 yX6_isWithLine wsX6_isWithLine) := goodIn_app (goodIn_of _ (by decide +kernel)) ggX6_isUnderLease_X6_isWithLine
theorem dX6_isUnderLease_0 : decode cX6_isUnderLease 0 = .ok (.aload_n 0, 1) := by decide +kernel
theorem dX6_isUnderLease_1 : decode cX6_isUnderLease 1 = .ok (.getfield 12, 3) := by decide +kernel
theorem dX6_isUnderLease_4 : decode cX6_isUnderLease 4 = .ok (.getfield 82, 3) := by decide +kernel
theorem dX6_isUnderLease_7 : decode cX6_isUnderLease 7 = .ok (.iload_n 1, 1) := by decide +kernel
theorem dX6_isUnderLease_8 : decode cX6_isUnderLease 8 = .ok (.iconst 3, 1) := by decide +kernel
theorem dX6_isUnderLease_9 : decode cX6_isUnderLease 9 = .ok (.invokevirtual 113, 3) := by decide +kernel
theorem dX6_isUnderLease_12 : decode cX6_isUnderLease 12 = .ok (.ifCond .lt 15, 3) := by decide +kernel
theorem dX6_isUnderLease_15 : decode cX6_isUnderLease 15 = .ok (.aload_n 0, 1) := by decide +kernel
theorem dX6_isUnderLease_16 : decode cX6_isUnderLease 16 = .ok (.iload_n 1, 1) := by decide +kernel
theorem dX6_isUnderLease_17 : decode cX6_isUnderLease 17 = .ok (.invokevirtual 129, 3) := by decide +kernel
theorem dX6_isUnderLease_20 : decode cX6_isUnderLease 20 = .ok (.ifCond .eq 7, 3) := by decide +kernel
theorem dX6_isUnderLease_23 : decode cX6_isUnderLease 23 = .ok (.iconst 1, 1) := by decide +kernel
theorem dX6_isUnderLease_24 : decode cX6_isUnderLease 24 = .ok (.goto 4, 3) := by decide +kernel
theorem dX6_isUnderLease_27 : decode cX6_isUnderLease 27 = .ok (.iconst 0, 1) := by decide +kernel
theorem dX6_isUnderLease_28 : decode cX6_isUnderLease 28 = .ok (.ireturn, 1) := by decide +kernel
set_option maxRecDepth 20000 in
theorem ggX6_givenBackThisWeek_X4_size : GoodIn wsX6_givenBackThisWeek wsX4_size := goodIn_r _ [8, 9, 41, 42, 43, 44] (by decide +kernel) (by decide +kernel)
set_option maxRecDepth 20000 in
theorem gX6_givenBackThisWeek_X4_size : GoodIn wsX6_givenBackThisWeek (wsV RX6 117 RX4 yX4_size wsX4_size) := goodIn_app (goodIn_of _ (by decide +kernel)) ggX6_givenBackThisWeek_X4_size
set_option maxRecDepth 20000 in
theorem ggX6_givenBackThisWeek_X4_cell : GoodIn wsX6_givenBackThisWeek wsX4_cell := goodIn_r _ [13, 14, 15, 16, 17, 18, 7, 19, 9, 41, 42, 43, 44] (by decide +kernel) (by decide +kernel)
set_option maxRecDepth 20000 in
theorem gX6_givenBackThisWeek_X4_cell : GoodIn wsX6_givenBackThisWeek (wsV RX6 113 RX4 yX4_cell wsX4_cell) := goodIn_app (goodIn_of _ (by decide +kernel)) ggX6_givenBackThisWeek_X4_cell
theorem dX6_givenBackThisWeek_0 : decode cX6_givenBackThisWeek 0 = .ok (.iconst 0, 1) := by decide +kernel
theorem dX6_givenBackThisWeek_1 : decode cX6_givenBackThisWeek 1 = .ok (.istore_n 3, 1) := by decide +kernel
theorem dX6_givenBackThisWeek_2 : decode cX6_givenBackThisWeek 2 = .ok (.iconst 0, 1) := by decide +kernel
theorem dX6_givenBackThisWeek_3 : decode cX6_givenBackThisWeek 3 = .ok (.istore 4, 2) := by decide +kernel
theorem dX6_givenBackThisWeek_5 : decode cX6_givenBackThisWeek 5 = .ok (.iload 4, 2) := by decide +kernel
theorem dX6_givenBackThisWeek_7 : decode cX6_givenBackThisWeek 7 = .ok (.aload_n 0, 1) := by decide +kernel
theorem dX6_givenBackThisWeek_8 : decode cX6_givenBackThisWeek 8 = .ok (.getfield 12, 3) := by decide +kernel
theorem dX6_givenBackThisWeek_11 : decode cX6_givenBackThisWeek 11 = .ok (.getfield 82, 3) := by decide +kernel
theorem dX6_givenBackThisWeek_14 : decode cX6_givenBackThisWeek 14 = .ok (.invokevirtual 117, 3) := by decide +kernel
theorem dX6_givenBackThisWeek_17 : decode cX6_givenBackThisWeek 17 = .ok (.if_icmp .ge 94, 3) := by decide +kernel
theorem dX6_givenBackThisWeek_20 : decode cX6_givenBackThisWeek 20 = .ok (.aload_n 0, 1) := by decide +kernel
theorem dX6_givenBackThisWeek_21 : decode cX6_givenBackThisWeek 21 = .ok (.getfield 12, 3) := by decide +kernel
theorem dX6_givenBackThisWeek_24 : decode cX6_givenBackThisWeek 24 = .ok (.getfield 82, 3) := by decide +kernel
theorem dX6_givenBackThisWeek_27 : decode cX6_givenBackThisWeek 27 = .ok (.iload 4, 2) := by decide +kernel
theorem dX6_givenBackThisWeek_29 : decode cX6_givenBackThisWeek 29 = .ok (.iconst 5, 1) := by decide +kernel
theorem dX6_givenBackThisWeek_30 : decode cX6_givenBackThisWeek 30 = .ok (.invokevirtual 113, 3) := by decide +kernel
theorem dX6_givenBackThisWeek_33 : decode cX6_givenBackThisWeek 33 = .ok (.iconst 1, 1) := by decide +kernel
theorem dX6_givenBackThisWeek_34 : decode cX6_givenBackThisWeek 34 = .ok (.if_icmp .ne 71, 3) := by decide +kernel
theorem dX6_givenBackThisWeek_37 : decode cX6_givenBackThisWeek 37 = .ok (.aload_n 0, 1) := by decide +kernel
theorem dX6_givenBackThisWeek_38 : decode cX6_givenBackThisWeek 38 = .ok (.getfield 12, 3) := by decide +kernel
theorem dX6_givenBackThisWeek_41 : decode cX6_givenBackThisWeek 41 = .ok (.getfield 82, 3) := by decide +kernel
theorem dX6_givenBackThisWeek_44 : decode cX6_givenBackThisWeek 44 = .ok (.iload 4, 2) := by decide +kernel
theorem dX6_givenBackThisWeek_46 : decode cX6_givenBackThisWeek 46 = .ok (.iconst 3, 1) := by decide +kernel
theorem dX6_givenBackThisWeek_47 : decode cX6_givenBackThisWeek 47 = .ok (.invokevirtual 113, 3) := by decide +kernel
theorem dX6_givenBackThisWeek_50 : decode cX6_givenBackThisWeek 50 = .ok (.iload_n 1, 1) := by decide +kernel
theorem dX6_givenBackThisWeek_51 : decode cX6_givenBackThisWeek 51 = .ok (.if_icmp .ne 54, 3) := by decide +kernel
theorem dX6_givenBackThisWeek_54 : decode cX6_givenBackThisWeek 54 = .ok (.aload_n 0, 1) := by decide +kernel
theorem dX6_givenBackThisWeek_55 : decode cX6_givenBackThisWeek 55 = .ok (.getfield 12, 3) := by decide +kernel
theorem dX6_givenBackThisWeek_58 : decode cX6_givenBackThisWeek 58 = .ok (.getfield 82, 3) := by decide +kernel
theorem dX6_givenBackThisWeek_61 : decode cX6_givenBackThisWeek 61 = .ok (.iload 4, 2) := by decide +kernel
theorem dX6_givenBackThisWeek_63 : decode cX6_givenBackThisWeek 63 = .ok (.bipush 8, 2) := by decide +kernel
theorem dX6_givenBackThisWeek_65 : decode cX6_givenBackThisWeek 65 = .ok (.invokevirtual 113, 3) := by decide +kernel
theorem dX6_givenBackThisWeek_68 : decode cX6_givenBackThisWeek 68 = .ok (.iload_n 2, 1) := by decide +kernel
theorem dX6_givenBackThisWeek_69 : decode cX6_givenBackThisWeek 69 = .ok (.if_icmp .ne 36, 3) := by decide +kernel
theorem dX6_givenBackThisWeek_72 : decode cX6_givenBackThisWeek 72 = .ok (.aload_n 0, 1) := by decide +kernel
theorem dX6_givenBackThisWeek_73 : decode cX6_givenBackThisWeek 73 = .ok (.getfield 12, 3) := by decide +kernel
theorem dX6_givenBackThisWeek_76 : decode cX6_givenBackThisWeek 76 = .ok (.getfield 82, 3) := by decide +kernel
theorem dX6_givenBackThisWeek_79 : decode cX6_givenBackThisWeek 79 = .ok (.iload 4, 2) := by decide +kernel
theorem dX6_givenBackThisWeek_81 : decode cX6_givenBackThisWeek 81 = .ok (.bipush 7, 2) := by decide +kernel
theorem dX6_givenBackThisWeek_83 : decode cX6_givenBackThisWeek 83 = .ok (.invokevirtual 113, 3) := by decide +kernel
theorem dX6_givenBackThisWeek_86 : decode cX6_givenBackThisWeek 86 = .ok (.bipush 7, 2) := by decide +kernel
theorem dX6_givenBackThisWeek_88 : decode cX6_givenBackThisWeek 88 = .ok (.idiv, 1) := by decide +kernel
theorem dX6_givenBackThisWeek_89 : decode cX6_givenBackThisWeek 89 = .ok (.aload_n 0, 1) := by decide +kernel
theorem dX6_givenBackThisWeek_90 : decode cX6_givenBackThisWeek 90 = .ok (.getfield 12, 3) := by decide +kernel
theorem dX6_givenBackThisWeek_93 : decode cX6_givenBackThisWeek 93 = .ok (.getfield 58, 3) := by decide +kernel
theorem dX6_givenBackThisWeek_96 : decode cX6_givenBackThisWeek 96 = .ok (.bipush 7, 2) := by decide +kernel
theorem dX6_givenBackThisWeek_98 : decode cX6_givenBackThisWeek 98 = .ok (.idiv, 1) := by decide +kernel
theorem dX6_givenBackThisWeek_99 : decode cX6_givenBackThisWeek 99 = .ok (.if_icmp .ne 6, 3) := by decide +kernel
theorem dX6_givenBackThisWeek_102 : decode cX6_givenBackThisWeek 102 = .ok (.iinc 3 1, 3) := by decide +kernel
theorem dX6_givenBackThisWeek_105 : decode cX6_givenBackThisWeek 105 = .ok (.iinc 4 1, 3) := by decide +kernel
theorem dX6_givenBackThisWeek_108 : decode cX6_givenBackThisWeek 108 = .ok (.goto (-103), 3) := by decide +kernel
theorem dX6_givenBackThisWeek_111 : decode cX6_givenBackThisWeek 111 = .ok (.iload_n 3, 1) := by decide +kernel
theorem dX6_givenBackThisWeek_112 : decode cX6_givenBackThisWeek 112 = .ok (.ireturn, 1) := by decide +kernel
set_option maxRecDepth 20000 in
theorem ggX6_dayBill_X4_cell : GoodIn wsX6_dayBill wsX4_cell := goodIn_r _ [13, 14, 15, 16, 17, 18, 12, 19, 20, 42, 43, 44, 45] (by decide +kernel) (by decide +kernel)
set_option maxRecDepth 20000 in
theorem gX6_dayBill_X4_cell : GoodIn wsX6_dayBill (wsV RX6 113 RX4 yX4_cell wsX4_cell) := goodIn_app (goodIn_of _ (by decide +kernel)) ggX6_dayBill_X4_cell
theorem dX6_dayBill_0 : decode cX6_dayBill 0 = .ok (.aload_n 0, 1) := by decide +kernel
theorem dX6_dayBill_1 : decode cX6_dayBill 1 = .ok (.getfield 12, 3) := by decide +kernel
theorem dX6_dayBill_4 : decode cX6_dayBill 4 = .ok (.getfield 82, 3) := by decide +kernel
theorem dX6_dayBill_7 : decode cX6_dayBill 7 = .ok (.iload_n 1, 1) := by decide +kernel
theorem dX6_dayBill_8 : decode cX6_dayBill 8 = .ok (.iconst 3, 1) := by decide +kernel
theorem dX6_dayBill_9 : decode cX6_dayBill 9 = .ok (.invokevirtual 113, 3) := by decide +kernel
theorem dX6_dayBill_12 : decode cX6_dayBill 12 = .ok (.istore_n 2, 1) := by decide +kernel
theorem dX6_dayBill_13 : decode cX6_dayBill 13 = .ok (.aload_n 0, 1) := by decide +kernel
theorem dX6_dayBill_14 : decode cX6_dayBill 14 = .ok (.getfield 12, 3) := by decide +kernel
theorem dX6_dayBill_17 : decode cX6_dayBill 17 = .ok (.getfield 58, 3) := by decide +kernel
theorem dX6_dayBill_20 : decode cX6_dayBill 20 = .ok (.aload_n 0, 1) := by decide +kernel
theorem dX6_dayBill_21 : decode cX6_dayBill 21 = .ok (.getfield 12, 3) := by decide +kernel
theorem dX6_dayBill_24 : decode cX6_dayBill 24 = .ok (.getfield 82, 3) := by decide +kernel
theorem dX6_dayBill_27 : decode cX6_dayBill 27 = .ok (.iload_n 1, 1) := by decide +kernel
theorem dX6_dayBill_28 : decode cX6_dayBill 28 = .ok (.iconst 4, 1) := by decide +kernel
theorem dX6_dayBill_29 : decode cX6_dayBill 29 = .ok (.invokevirtual 113, 3) := by decide +kernel
theorem dX6_dayBill_32 : decode cX6_dayBill 32 = .ok (.isub, 1) := by decide +kernel
theorem dX6_dayBill_33 : decode cX6_dayBill 33 = .ok (.iconst 1, 1) := by decide +kernel
theorem dX6_dayBill_34 : decode cX6_dayBill 34 = .ok (.iadd, 1) := by decide +kernel
theorem dX6_dayBill_35 : decode cX6_dayBill 35 = .ok (.istore_n 3, 1) := by decide +kernel
theorem dX6_dayBill_36 : decode cX6_dayBill 36 = .ok (.iconst 0, 1) := by decide +kernel
theorem dX6_dayBill_37 : decode cX6_dayBill 37 = .ok (.iload_n 3, 1) := by decide +kernel
theorem dX6_dayBill_38 : decode cX6_dayBill 38 = .ok (.aload_n 0, 1) := by decide +kernel
theorem dX6_dayBill_39 : decode cX6_dayBill 39 = .ok (.getfield 12, 3) := by decide +kernel
theorem dX6_dayBill_42 : decode cX6_dayBill 42 = .ok (.getfield 261, 3) := by decide +kernel
theorem dX6_dayBill_45 : decode cX6_dayBill 45 = .ok (.iload_n 2, 1) := by decide +kernel
theorem dX6_dayBill_46 : decode cX6_dayBill 46 = .ok (.iconst 0, 1) := by decide +kernel
theorem dX6_dayBill_47 : decode cX6_dayBill 47 = .ok (.invokevirtual 113, 3) := by decide +kernel
theorem dX6_dayBill_50 : decode cX6_dayBill 50 = .ok (.isub, 1) := by decide +kernel
theorem dX6_dayBill_51 : decode cX6_dayBill 51 = .ok (.invokestatic 285, 3) := by decide +kernel
theorem dX6_dayBill_54 : decode cX6_dayBill 54 = .ok (.istore 4, 2) := by decide +kernel
theorem dX6_dayBill_56 : decode cX6_dayBill 56 = .ok (.iload 4, 2) := by decide +kernel
theorem dX6_dayBill_58 : decode cX6_dayBill 58 = .ok (.aload_n 0, 1) := by decide +kernel
theorem dX6_dayBill_59 : decode cX6_dayBill 59 = .ok (.getfield 12, 3) := by decide +kernel
theorem dX6_dayBill_62 : decode cX6_dayBill 62 = .ok (.getfield 261, 3) := by decide +kernel
theorem dX6_dayBill_65 : decode cX6_dayBill 65 = .ok (.iload_n 2, 1) := by decide +kernel
theorem dX6_dayBill_66 : decode cX6_dayBill 66 = .ok (.iconst 1, 1) := by decide +kernel
theorem dX6_dayBill_67 : decode cX6_dayBill 67 = .ok (.invokevirtual 113, 3) := by decide +kernel
theorem dX6_dayBill_70 : decode cX6_dayBill 70 = .ok (.imul, 1) := by decide +kernel
theorem dX6_dayBill_71 : decode cX6_dayBill 71 = .ok (.ireturn, 1) := by decide +kernel
set_option maxRecDepth 20000 in
theorem ggX6_endLease_X4_put : GoodIn wsX6_endLease wsX4_put := goodIn_r _ [7, 8, 9, 10, 11, 12, 6, 13, 14, 36, 37, 38, 39] (by decide +kernel) (by decide +kernel)
set_option maxRecDepth 20000 in
theorem gX6_endLease_X4_put : GoodIn wsX6_endLease (wsV RX6 96 RX4 yX4_put wsX4_put) := goodIn_app (goodIn_of _ (by decide +kernel)) ggX6_endLease_X4_put
theorem dX6_endLease_0 : decode cX6_endLease 0 = .ok (.aload_n 0, 1) := by decide +kernel
theorem dX6_endLease_1 : decode cX6_endLease 1 = .ok (.getfield 12, 3) := by decide +kernel
theorem dX6_endLease_4 : decode cX6_endLease 4 = .ok (.getfield 82, 3) := by decide +kernel
theorem dX6_endLease_7 : decode cX6_endLease 7 = .ok (.iload_n 1, 1) := by decide +kernel
theorem dX6_endLease_8 : decode cX6_endLease 8 = .ok (.iconst 5, 1) := by decide +kernel
theorem dX6_endLease_9 : decode cX6_endLease 9 = .ok (.iload_n 2, 1) := by decide +kernel
theorem dX6_endLease_10 : decode cX6_endLease 10 = .ok (.invokevirtual 96, 3) := by decide +kernel
theorem dX6_endLease_13 : decode cX6_endLease 13 = .ok (.aload_n 0, 1) := by decide +kernel
theorem dX6_endLease_14 : decode cX6_endLease 14 = .ok (.getfield 12, 3) := by decide +kernel
theorem dX6_endLease_17 : decode cX6_endLease 17 = .ok (.getfield 82, 3) := by decide +kernel
theorem dX6_endLease_20 : decode cX6_endLease 20 = .ok (.iload_n 1, 1) := by decide +kernel
theorem dX6_endLease_21 : decode cX6_endLease 21 = .ok (.bipush 6, 2) := by decide +kernel
theorem dX6_endLease_23 : decode cX6_endLease 23 = .ok (.iload_n 3, 1) := by decide +kernel
theorem dX6_endLease_24 : decode cX6_endLease 24 = .ok (.invokevirtual 96, 3) := by decide +kernel
theorem dX6_endLease_27 : decode cX6_endLease 27 = .ok (.iload_n 3, 1) := by decide +kernel
theorem dX6_endLease_28 : decode cX6_endLease 28 = .ok (.ireturn, 1) := by decide +kernel
set_option maxRecDepth 20000 in
theorem ggX6_rate_X6_isWithin : GoodIn wsX6_rate wsX6_isWithin := goodIn_r _ [7] (by decide +kernel) (by decide +kernel)
set_option maxRecDepth 20000 in
theorem gX6_rate_X6_isWithin : GoodIn wsX6_rate (va_wsS RX6 54 yX6_isWithin wsX6_isWithin) := goodIn_app (goodIn_of _ (by decide +kernel)) ggX6_rate_X6_isWithin
theorem dX6_rate_0 : decode cX6_rate 0 = .ok (.iload_n 1, 1) := by decide +kernel
theorem dX6_rate_1 : decode cX6_rate 1 = .ok (.ifCond .ne 31, 3) := by decide +kernel
theorem dX6_rate_4 : decode cX6_rate 4 = .ok (.iload_n 2, 1) := by decide +kernel
theorem dX6_rate_5 : decode cX6_rate 5 = .ok (.iconst 0, 1) := by decide +kernel
theorem dX6_rate_6 : decode cX6_rate 6 = .ok (.bipush 50, 2) := by decide +kernel
theorem dX6_rate_8 : decode cX6_rate 8 = .ok (.invokestatic 54, 3) := by decide +kernel
theorem dX6_rate_11 : decode cX6_rate 11 = .ok (.ifCond .eq 21, 3) := by decide +kernel
theorem dX6_rate_14 : decode cX6_rate 14 = .ok (.aload_n 0, 1) := by decide +kernel
theorem dX6_rate_15 : decode cX6_rate 15 = .ok (.getfield 12, 3) := by decide +kernel
theorem dX6_rate_18 : decode cX6_rate 18 = .ok (.getfield 288, 3) := by decide +kernel
theorem dX6_rate_21 : decode cX6_rate 21 = .ok (.istore_n 3, 1) := by decide +kernel
theorem dX6_rate_22 : decode cX6_rate 22 = .ok (.aload_n 0, 1) := by decide +kernel
theorem dX6_rate_23 : decode cX6_rate 23 = .ok (.getfield 12, 3) := by decide +kernel
theorem dX6_rate_26 : decode cX6_rate 26 = .ok (.iload_n 2, 1) := by decide +kernel
theorem dX6_rate_27 : decode cX6_rate 27 = .ok (.putfield 288, 3) := by decide +kernel
theorem dX6_rate_30 : decode cX6_rate 30 = .ok (.iload_n 3, 1) := by decide +kernel
theorem dX6_rate_31 : decode cX6_rate 31 = .ok (.ireturn, 1) := by decide +kernel
theorem dX6_rate_32 : decode cX6_rate 32 = .ok (.iload_n 1, 1) := by decide +kernel
theorem dX6_rate_33 : decode cX6_rate 33 = .ok (.iconst 1, 1) := by decide +kernel
theorem dX6_rate_34 : decode cX6_rate 34 = .ok (.if_icmp .ne 31, 3) := by decide +kernel
theorem dX6_rate_37 : decode cX6_rate 37 = .ok (.iload_n 2, 1) := by decide +kernel
theorem dX6_rate_38 : decode cX6_rate 38 = .ok (.iconst 0, 1) := by decide +kernel
theorem dX6_rate_39 : decode cX6_rate 39 = .ok (.bipush 10, 2) := by decide +kernel
theorem dX6_rate_41 : decode cX6_rate 41 = .ok (.invokestatic 54, 3) := by decide +kernel
theorem dX6_rate_44 : decode cX6_rate 44 = .ok (.ifCond .eq 21, 3) := by decide +kernel
theorem dX6_rate_47 : decode cX6_rate 47 = .ok (.aload_n 0, 1) := by decide +kernel
theorem dX6_rate_48 : decode cX6_rate 48 = .ok (.getfield 12, 3) := by decide +kernel
theorem dX6_rate_51 : decode cX6_rate 51 = .ok (.getfield 291, 3) := by decide +kernel
theorem dX6_rate_54 : decode cX6_rate 54 = .ok (.istore_n 3, 1) := by decide +kernel
theorem dX6_rate_55 : decode cX6_rate 55 = .ok (.aload_n 0, 1) := by decide +kernel
theorem dX6_rate_56 : decode cX6_rate 56 = .ok (.getfield 12, 3) := by decide +kernel
theorem dX6_rate_59 : decode cX6_rate 59 = .ok (.iload_n 2, 1) := by decide +kernel
theorem dX6_rate_60 : decode cX6_rate 60 = .ok (.putfield 291, 3) := by decide +kernel
theorem dX6_rate_63 : decode cX6_rate 63 = .ok (.iload_n 3, 1) := by decide +kernel
theorem dX6_rate_64 : decode cX6_rate 64 = .ok (.ireturn, 1) := by decide +kernel
theorem dX6_rate_65 : decode cX6_rate 65 = .ok (.iconst (-1), 1) := by decide +kernel
theorem dX6_rate_66 : decode cX6_rate 66 = .ok (.ireturn, 1) := by decide +kernel
set_option maxRecDepth 20000 in
theorem ggX6_use_X4_has : GoodIn wsX6_use wsX4_has := goodIn_r _ [9, 10, 67, 68, 69, 70] (by decide +kernel) (by decide +kernel)
set_option maxRecDepth 20000 in
theorem gX6_use_X4_has : GoodIn wsX6_use (wsV RX6 110 RX4 yX4_has wsX4_has) := goodIn_app (goodIn_of _ (by decide +kernel)) ggX6_use_X4_has
set_option maxRecDepth 20000 in
theorem ggX6_use_X6_isLine : GoodIn wsX6_use wsX6_isLine := goodIn_r _ [14, 15, 16, 13, 17] (by decide +kernel) (by decide +kernel)
set_option maxRecDepth 20000 in
theorem gX6_use_X6_isLine : GoodIn wsX6_use (va_wsS RX6 69 yX6_isLine wsX6_isLine) := goodIn_app (goodIn_of _ (by decide +kernel)) ggX6_use_X6_isLine
set_option maxRecDepth 20000 in
theorem ggX6_use_X6_isPastDay : GoodIn wsX6_use wsX6_isPastDay := goodIn_r _ [21, 1, 4, 15, 16, 13, 17, 46, 47, 48, 49, 50, 51, 52, 53, 54, 55, 56, 57, 58, 59, 60, 61, 62, 63, 64, 65, 66] (by decide +kernel) (by decide +kernel)
set_option maxRecDepth 20000 in
theorem gX6_use_X6_isPastDay : GoodIn wsX6_use (wsV RX6 123 RX6 yX6_isPastDay wsX6_isPastDay) := goodIn_app (goodIn_of _ (by decide +kernel)) ggX6_use_X6_isPastDay
set_option maxRecDepth 20000 in
theorem ggX6_use_X4_cell : GoodIn wsX6_use wsX4_cell := goodIn_r _ [25, 26, 27, 28, 29, 30, 8, 31, 10, 67, 68, 69, 70] (by decide +kernel) (by decide +kernel)
set_option maxRecDepth 20000 in
theorem gX6_use_X4_cell : GoodIn wsX6_use (wsV RX6 113 RX4 yX4_cell wsX4_cell) := goodIn_app (goodIn_of _ (by decide +kernel)) ggX6_use_X4_cell
set_option maxRecDepth 20000 in
theorem ggX6_use_X4_isFull : GoodIn wsX6_use wsX4_isFull := goodIn_r _ [35, 10, 36, 67, 68, 69, 70] (by decide +kernel) (by decide +kernel)
set_option maxRecDepth 20000 in
theorem gX6_use_X4_isFull : GoodIn wsX6_use (wsV RX6 86 RX4 yX4_isFull wsX4_isFull) := goodIn_app (goodIn_of _ (by decide +kernel)) ggX6_use_X4_isFull
set_option maxRecDepth 20000 in
theorem ggX6_use_X4_grow : GoodIn wsX6_use wsX4_grow := goodIn_r _ [40, 10, 41, 33, 34, 8, 35, 36, 67, 68, 69, 70] (by decide +kernel) (by decide +kernel)
set_option maxRecDepth 20000 in
theorem gX6_use_X4_grow : GoodIn wsX6_use (wsV RX6 92 RX4 yX4_grow wsX4_grow) := goodIn_app (goodIn_of _ (by decide +kernel)) ggX6_use_X4_grow
set_option maxRecDepth 20000 in
theorem ggX6_use_X4_put : GoodIn wsX6_use wsX4_put := goodIn_r _ [45, 26, 27, 28, 29, 30, 8, 31, 10, 67, 68, 69, 70] (by decide +kernel) (by decide +kernel)
set_option maxRecDepth 20000 in
theorem gX6_use_X4_put : GoodIn wsX6_use (wsV RX6 96 RX4 yX4_put wsX4_put) := goodIn_app (goodIn_of _ (by decide +kernel)) ggX6_use_X4_put
theorem dX6_use_0 : decode cX6_use 0 = .ok (.aload_n 0, 1) := by decide +kernel
theorem dX6_use_1 : decode cX6_use 1 = .ok (.getfield 12, 3) := by decide +kernel
theorem dX6_use_4 : decode cX6_use 4 = .ok (.getfield 82, 3) := by decide +kernel
theorem dX6_use_7 : decode cX6_use 7 = .ok (.iload_n 1, 1) := by decide +kernel
theorem dX6_use_8 : decode cX6_use 8 = .ok (.invokevirtual 110, 3) := by decide +kernel
theorem dX6_use_11 : decode cX6_use 11 = .ok (.ifCond .eq 33, 3) := by decide +kernel
theorem dX6_use_14 : decode cX6_use 14 = .ok (.iload_n 2, 1) := by decide +kernel
theorem dX6_use_15 : decode cX6_use 15 = .ok (.invokestatic 69, 3) := by decide +kernel
theorem dX6_use_18 : decode cX6_use 18 = .ok (.ifCond .eq 26, 3) := by decide +kernel
theorem dX6_use_21 : decode cX6_use 21 = .ok (.aload_n 0, 1) := by decide +kernel
theorem dX6_use_22 : decode cX6_use 22 = .ok (.iload_n 3, 1) := by decide +kernel
theorem dX6_use_23 : decode cX6_use 23 = .ok (.invokevirtual 123, 3) := by decide +kernel
theorem dX6_use_26 : decode cX6_use 26 = .ok (.ifCond .eq 18, 3) := by decide +kernel
theorem dX6_use_29 : decode cX6_use 29 = .ok (.aload_n 0, 1) := by decide +kernel
theorem dX6_use_30 : decode cX6_use 30 = .ok (.iload 4, 2) := by decide +kernel
theorem dX6_use_32 : decode cX6_use 32 = .ok (.invokevirtual 123, 3) := by decide +kernel
theorem dX6_use_35 : decode cX6_use 35 = .ok (.ifCond .eq 9, 3) := by decide +kernel
theorem dX6_use_38 : decode cX6_use 38 = .ok (.iload 4, 2) := by decide +kernel
theorem dX6_use_40 : decode cX6_use 40 = .ok (.iload_n 3, 1) := by decide +kernel
theorem dX6_use_41 : decode cX6_use 41 = .ok (.if_icmp .ge 5, 3) := by decide +kernel
theorem dX6_use_44 : decode cX6_use 44 = .ok (.iconst (-1), 1) := by decide +kernel
theorem dX6_use_45 : decode cX6_use 45 = .ok (.ireturn, 1) := by decide +kernel
theorem dX6_use_46 : decode cX6_use 46 = .ok (.aload_n 0, 1) := by decide +kernel
theorem dX6_use_47 : decode cX6_use 47 = .ok (.getfield 12, 3) := by decide +kernel
theorem dX6_use_50 : decode cX6_use 50 = .ok (.getfield 82, 3) := by decide +kernel
theorem dX6_use_53 : decode cX6_use 53 = .ok (.iload_n 1, 1) := by decide +kernel
theorem dX6_use_54 : decode cX6_use 54 = .ok (.iconst 2, 1) := by decide +kernel
theorem dX6_use_55 : decode cX6_use 55 = .ok (.invokevirtual 113, 3) := by decide +kernel
theorem dX6_use_58 : decode cX6_use 58 = .ok (.iload_n 2, 1) := by decide +kernel
theorem dX6_use_59 : decode cX6_use 59 = .ok (.if_icmp .ne 6, 3) := by decide +kernel
theorem dX6_use_62 : decode cX6_use 62 = .ok (.bipush (-4), 2) := by decide +kernel
theorem dX6_use_64 : decode cX6_use 64 = .ok (.ireturn, 1) := by decide +kernel
theorem dX6_use_65 : decode cX6_use 65 = .ok (.aload_n 0, 1) := by decide +kernel
theorem dX6_use_66 : decode cX6_use 66 = .ok (.getfield 12, 3) := by decide +kernel
theorem dX6_use_69 : decode cX6_use 69 = .ok (.getfield 294, 3) := by decide +kernel
theorem dX6_use_72 : decode cX6_use 72 = .ok (.invokevirtual 86, 3) := by decide +kernel
theorem dX6_use_75 : decode cX6_use 75 = .ok (.ifCond .eq 6, 3) := by decide +kernel
theorem dX6_use_78 : decode cX6_use 78 = .ok (.bipush (-2), 2) := by decide +kernel
theorem dX6_use_80 : decode cX6_use 80 = .ok (.ireturn, 1) := by decide +kernel
theorem dX6_use_81 : decode cX6_use 81 = .ok (.aload_n 0, 1) := by decide +kernel
theorem dX6_use_82 : decode cX6_use 82 = .ok (.getfield 12, 3) := by decide +kernel
theorem dX6_use_85 : decode cX6_use 85 = .ok (.getfield 294, 3) := by decide +kernel
theorem dX6_use_88 : decode cX6_use 88 = .ok (.invokevirtual 92, 3) := by decide +kernel
theorem dX6_use_91 : decode cX6_use 91 = .ok (.istore 5, 2) := by decide +kernel
theorem dX6_use_93 : decode cX6_use 93 = .ok (.aload_n 0, 1) := by decide +kernel
theorem dX6_use_94 : decode cX6_use 94 = .ok (.getfield 12, 3) := by decide +kernel
theorem dX6_use_97 : decode cX6_use 97 = .ok (.getfield 294, 3) := by decide +kernel
theorem dX6_use_100 : decode cX6_use 100 = .ok (.iload 5, 2) := by decide +kernel
theorem dX6_use_102 : decode cX6_use 102 = .ok (.iconst 0, 1) := by decide +kernel
theorem dX6_use_103 : decode cX6_use 103 = .ok (.iload_n 1, 1) := by decide +kernel
theorem dX6_use_104 : decode cX6_use 104 = .ok (.invokevirtual 96, 3) := by decide +kernel
theorem dX6_use_107 : decode cX6_use 107 = .ok (.aload_n 0, 1) := by decide +kernel
theorem dX6_use_108 : decode cX6_use 108 = .ok (.getfield 12, 3) := by decide +kernel
theorem dX6_use_111 : decode cX6_use 111 = .ok (.getfield 294, 3) := by decide +kernel
theorem dX6_use_114 : decode cX6_use 114 = .ok (.iload 5, 2) := by decide +kernel
theorem dX6_use_116 : decode cX6_use 116 = .ok (.iconst 1, 1) := by decide +kernel
theorem dX6_use_117 : decode cX6_use 117 = .ok (.iload_n 2, 1) := by decide +kernel
theorem dX6_use_118 : decode cX6_use 118 = .ok (.invokevirtual 96, 3) := by decide +kernel
theorem dX6_use_121 : decode cX6_use 121 = .ok (.aload_n 0, 1) := by decide +kernel
theorem dX6_use_122 : decode cX6_use 122 = .ok (.getfield 12, 3) := by decide +kernel
theorem dX6_use_125 : decode cX6_use 125 = .ok (.getfield 294, 3) := by decide +kernel
theorem dX6_use_128 : decode cX6_use 128 = .ok (.iload 5, 2) := by decide +kernel
theorem dX6_use_130 : decode cX6_use 130 = .ok (.iconst 2, 1) := by decide +kernel
theorem dX6_use_131 : decode cX6_use 131 = .ok (.iload_n 3, 1) := by decide +kernel
theorem dX6_use_132 : decode cX6_use 132 = .ok (.invokevirtual 96, 3) := by decide +kernel
theorem dX6_use_135 : decode cX6_use 135 = .ok (.aload_n 0, 1) := by decide +kernel
theorem dX6_use_136 : decode cX6_use 136 = .ok (.getfield 12, 3) := by decide +kernel
theorem dX6_use_139 : decode cX6_use 139 = .ok (.getfield 294, 3) := by decide +kernel
theorem dX6_use_142 : decode cX6_use 142 = .ok (.iload 5, 2) := by decide +kernel
theorem dX6_use_144 : decode cX6_use 144 = .ok (.iconst 3, 1) := by decide +kernel
theorem dX6_use_145 : decode cX6_use 145 = .ok (.iload 4, 2) := by decide +kernel
theorem dX6_use_147 : decode cX6_use 147 = .ok (.invokevirtual 96, 3) := by decide +kernel
theorem dX6_use_150 : decode cX6_use 150 = .ok (.aload_n 0, 1) := by decide +kernel
theorem dX6_use_151 : decode cX6_use 151 = .ok (.getfield 12, 3) := by decide +kernel
theorem dX6_use_154 : decode cX6_use 154 = .ok (.getfield 294, 3) := by decide +kernel
theorem dX6_use_157 : decode cX6_use 157 = .ok (.iload 5, 2) := by decide +kernel
theorem dX6_use_159 : decode cX6_use 159 = .ok (.iconst 4, 1) := by decide +kernel
theorem dX6_use_160 : decode cX6_use 160 = .ok (.aload_n 0, 1) := by decide +kernel
theorem dX6_use_161 : decode cX6_use 161 = .ok (.getfield 12, 3) := by decide +kernel
theorem dX6_use_164 : decode cX6_use 164 = .ok (.getfield 58, 3) := by decide +kernel
theorem dX6_use_167 : decode cX6_use 167 = .ok (.invokevirtual 96, 3) := by decide +kernel
theorem dX6_use_170 : decode cX6_use 170 = .ok (.aload_n 0, 1) := by decide +kernel
theorem dX6_use_171 : decode cX6_use 171 = .ok (.getfield 12, 3) := by decide +kernel
theorem dX6_use_174 : decode cX6_use 174 = .ok (.getfield 294, 3) := by decide +kernel
theorem dX6_use_177 : decode cX6_use 177 = .ok (.iload 5, 2) := by decide +kernel
theorem dX6_use_179 : decode cX6_use 179 = .ok (.iconst 5, 1) := by decide +kernel
theorem dX6_use_180 : decode cX6_use 180 = .ok (.sipush 201, 3) := by decide +kernel
theorem dX6_use_183 : decode cX6_use 183 = .ok (.invokevirtual 96, 3) := by decide +kernel
theorem dX6_use_186 : decode cX6_use 186 = .ok (.iload 5, 2) := by decide +kernel
theorem dX6_use_188 : decode cX6_use 188 = .ok (.ireturn, 1) := by decide +kernel
set_option maxRecDepth 20000 in
theorem ggX6_strike_X4_has : GoodIn wsX6_strike wsX4_has := goodIn_r _ [8, 9, 56, 57, 58, 59] (by decide +kernel) (by decide +kernel)
set_option maxRecDepth 20000 in
theorem gX6_strike_X4_has : GoodIn wsX6_strike (wsV RX6 110 RX4 yX4_has wsX4_has) := goodIn_app (goodIn_of _ (by decide +kernel)) ggX6_strike_X4_has
set_option maxRecDepth 20000 in
theorem ggX6_strike_X4_cell : GoodIn wsX6_strike wsX4_cell := goodIn_r _ [13, 14, 15, 16, 17, 18, 7, 19, 9, 56, 57, 58, 59] (by decide +kernel) (by decide +kernel)
set_option maxRecDepth 20000 in
theorem gX6_strike_X4_cell : GoodIn wsX6_strike (wsV RX6 113 RX4 yX4_cell wsX4_cell) := goodIn_app (goodIn_of _ (by decide +kernel)) ggX6_strike_X4_cell
set_option maxRecDepth 20000 in
theorem ggX6_strike_X4_put : GoodIn wsX6_strike wsX4_put := goodIn_r _ [23, 14, 15, 16, 17, 18, 7, 19, 9, 56, 57, 58, 59] (by decide +kernel) (by decide +kernel)
set_option maxRecDepth 20000 in
theorem gX6_strike_X4_put : GoodIn wsX6_strike (wsV RX6 96 RX4 yX4_put wsX4_put) := goodIn_app (goodIn_of _ (by decide +kernel)) ggX6_strike_X4_put
set_option maxRecDepth 20000 in
theorem ggX6_strike_X6_useWorth : GoodIn wsX6_strike wsX6_useWorth := goodIn_r _ [28, 1, 2, 29, 30, 31, 32, 33, 34, 10, 11, 12, 7, 13, 14, 15, 16, 17, 18, 19, 9, 35, 36, 37, 38, 39, 40, 41, 42, 43, 44, 45, 46, 47, 48, 49, 50, 51, 52, 53, 54, 55, 56, 57, 58, 59] (by decide +kernel) (by decide +kernel)
set_option maxRecDepth 20000 in
theorem gX6_strike_X6_useWorth : GoodIn wsX6_strike (wsV RX6 297 RX6 yX6_useWorth wsX6_useWorth) := goodIn_app (goodIn_of _ (by decide +kernel)) ggX6_strike_X6_useWorth
theorem dX6_strike_0 : decode cX6_strike 0 = .ok (.aload_n 0, 1) := by decide +kernel
theorem dX6_strike_1 : decode cX6_strike 1 = .ok (.getfield 12, 3) := by decide +kernel
theorem dX6_strike_4 : decode cX6_strike 4 = .ok (.getfield 294, 3) := by decide +kernel
theorem dX6_strike_7 : decode cX6_strike 7 = .ok (.iload_n 1, 1) := by decide +kernel
theorem dX6_strike_8 : decode cX6_strike 8 = .ok (.invokevirtual 110, 3) := by decide +kernel
theorem dX6_strike_11 : decode cX6_strike 11 = .ok (.ifCond .ne 5, 3) := by decide +kernel
theorem dX6_strike_14 : decode cX6_strike 14 = .ok (.iconst (-1), 1) := by decide +kernel
theorem dX6_strike_15 : decode cX6_strike 15 = .ok (.ireturn, 1) := by decide +kernel
theorem dX6_strike_16 : decode cX6_strike 16 = .ok (.aload_n 0, 1) := by decide +kernel
theorem dX6_strike_17 : decode cX6_strike 17 = .ok (.getfield 12, 3) := by decide +kernel
theorem dX6_strike_20 : decode cX6_strike 20 = .ok (.getfield 294, 3) := by decide +kernel
theorem dX6_strike_23 : decode cX6_strike 23 = .ok (.iload_n 1, 1) := by decide +kernel
theorem dX6_strike_24 : decode cX6_strike 24 = .ok (.iconst 5, 1) := by decide +kernel
theorem dX6_strike_25 : decode cX6_strike 25 = .ok (.invokevirtual 113, 3) := by decide +kernel
theorem dX6_strike_28 : decode cX6_strike 28 = .ok (.sipush 201, 3) := by decide +kernel
theorem dX6_strike_31 : decode cX6_strike 31 = .ok (.if_icmp .eq 6, 3) := by decide +kernel
theorem dX6_strike_34 : decode cX6_strike 34 = .ok (.bipush (-4), 2) := by decide +kernel
theorem dX6_strike_36 : decode cX6_strike 36 = .ok (.ireturn, 1) := by decide +kernel
theorem dX6_strike_37 : decode cX6_strike 37 = .ok (.aload_n 0, 1) := by decide +kernel
theorem dX6_strike_38 : decode cX6_strike 38 = .ok (.getfield 12, 3) := by decide +kernel
theorem dX6_strike_41 : decode cX6_strike 41 = .ok (.getfield 294, 3) := by decide +kernel
theorem dX6_strike_44 : decode cX6_strike 44 = .ok (.iload_n 1, 1) := by decide +kernel
theorem dX6_strike_45 : decode cX6_strike 45 = .ok (.iconst 5, 1) := by decide +kernel
theorem dX6_strike_46 : decode cX6_strike 46 = .ok (.aload_n 0, 1) := by decide +kernel
theorem dX6_strike_47 : decode cX6_strike 47 = .ok (.getfield 12, 3) := by decide +kernel
theorem dX6_strike_50 : decode cX6_strike 50 = .ok (.getfield 58, 3) := by decide +kernel
theorem dX6_strike_53 : decode cX6_strike 53 = .ok (.invokevirtual 96, 3) := by decide +kernel
theorem dX6_strike_56 : decode cX6_strike 56 = .ok (.aload_n 0, 1) := by decide +kernel
theorem dX6_strike_57 : decode cX6_strike 57 = .ok (.iload_n 1, 1) := by decide +kernel
theorem dX6_strike_58 : decode cX6_strike 58 = .ok (.invokevirtual 297, 3) := by decide +kernel
theorem dX6_strike_61 : decode cX6_strike 61 = .ok (.ireturn, 1) := by decide +kernel
set_option maxRecDepth 20000 in
theorem ggX6_net_X6_isLine : GoodIn wsX6_net wsX6_isLine := goodIn_r _ [5, 6, 7, 4, 8] (by decide +kernel) (by decide +kernel)
set_option maxRecDepth 20000 in
theorem gX6_net_X6_isLine : GoodIn wsX6_net (va_wsS RX6 69 yX6_isLine wsX6_isLine) := goodIn_app (goodIn_of _ (by decide +kernel)) ggX6_net_X6_isLine
set_option maxRecDepth 20000 in
theorem ggX6_net_X6_isPastDay : GoodIn wsX6_net wsX6_isPastDay := goodIn_r _ [12, 13, 14, 6, 7, 4, 8, 51, 52, 53, 54, 55, 56, 57, 58, 59, 60, 61, 62, 63, 64, 65, 66, 67, 68, 69, 70, 71] (by decide +kernel) (by decide +kernel)
set_option maxRecDepth 20000 in
theorem gX6_net_X6_isPastDay : GoodIn wsX6_net (wsV RX6 123 RX6 yX6_isPastDay wsX6_isPastDay) := goodIn_app (goodIn_of _ (by decide +kernel)) ggX6_net_X6_isPastDay
set_option maxRecDepth 20000 in
theorem ggX6_net_X6_debt : GoodIn wsX6_net wsX6_debt := goodIn_r _ [18, 13, 19, 20, 21, 22, 23, 24, 25, 26, 27, 28, 29, 30, 31, 32, 33, 34, 35, 36, 37, 38, 39, 4, 40, 41, 42, 43, 44, 45, 46, 47, 48, 49, 50, 51, 52, 53, 54, 55, 56, 57, 58, 59, 60, 61, 62, 63, 64, 65, 66, 67, 68, 69, 70, 71, 72, 73, 74, 75] (by decide +kernel) (by decide +kernel)
set_option maxRecDepth 20000 in
theorem gX6_net_X6_debt : GoodIn wsX6_net (wsV RX6 301 RX6 yX6_debt wsX6_debt) := goodIn_app (goodIn_of _ (by decide +kernel)) ggX6_net_X6_debt
theorem dX6_net_0 : decode cX6_net 0 = .ok (.iload_n 1, 1) := by decide +kernel
theorem dX6_net_1 : decode cX6_net 1 = .ok (.invokestatic 69, 3) := by decide +kernel
theorem dX6_net_4 : decode cX6_net 4 = .ok (.ifCond .eq 11, 3) := by decide +kernel
theorem dX6_net_7 : decode cX6_net 7 = .ok (.aload_n 0, 1) := by decide +kernel
theorem dX6_net_8 : decode cX6_net 8 = .ok (.iload_n 2, 1) := by decide +kernel
theorem dX6_net_9 : decode cX6_net 9 = .ok (.invokevirtual 123, 3) := by decide +kernel
theorem dX6_net_12 : decode cX6_net 12 = .ok (.ifCond .ne 5, 3) := by decide +kernel
theorem dX6_net_15 : decode cX6_net 15 = .ok (.iconst (-1), 1) := by decide +kernel
theorem dX6_net_16 : decode cX6_net 16 = .ok (.ireturn, 1) := by decide +kernel
theorem dX6_net_17 : decode cX6_net 17 = .ok (.ldc_w 300, 3) := by decide +kernel
theorem dX6_net_20 : decode cX6_net 20 = .ok (.istore_n 3, 1) := by decide +kernel
theorem dX6_net_21 : decode cX6_net 21 = .ok (.iconst 0, 1) := by decide +kernel
theorem dX6_net_22 : decode cX6_net 22 = .ok (.istore 4, 2) := by decide +kernel
theorem dX6_net_24 : decode cX6_net 24 = .ok (.iload 4, 2) := by decide +kernel
theorem dX6_net_26 : decode cX6_net 26 = .ok (.iconst 4, 1) := by decide +kernel
theorem dX6_net_27 : decode cX6_net 27 = .ok (.if_icmp .ge 29, 3) := by decide +kernel
theorem dX6_net_30 : decode cX6_net 30 = .ok (.iload_n 3, 1) := by decide +kernel
theorem dX6_net_31 : decode cX6_net 31 = .ok (.aload_n 0, 1) := by decide +kernel
theorem dX6_net_32 : decode cX6_net 32 = .ok (.iload 4, 2) := by decide +kernel
theorem dX6_net_34 : decode cX6_net 34 = .ok (.iload_n 1, 1) := by decide +kernel
theorem dX6_net_35 : decode cX6_net 35 = .ok (.iload_n 2, 1) := by decide +kernel
theorem dX6_net_36 : decode cX6_net 36 = .ok (.invokevirtual 301, 3) := by decide +kernel
theorem dX6_net_39 : decode cX6_net 39 = .ok (.aload_n 0, 1) := by decide +kernel
theorem dX6_net_40 : decode cX6_net 40 = .ok (.iload_n 1, 1) := by decide +kernel
theorem dX6_net_41 : decode cX6_net 41 = .ok (.iload 4, 2) := by decide +kernel
theorem dX6_net_43 : decode cX6_net 43 = .ok (.iload_n 2, 1) := by decide +kernel
theorem dX6_net_44 : decode cX6_net 44 = .ok (.invokevirtual 301, 3) := by decide +kernel
theorem dX6_net_47 : decode cX6_net 47 = .ok (.isub, 1) := by decide +kernel
theorem dX6_net_48 : decode cX6_net 48 = .ok (.iadd, 1) := by decide +kernel
theorem dX6_net_49 : decode cX6_net 49 = .ok (.istore_n 3, 1) := by decide +kernel
theorem dX6_net_50 : decode cX6_net 50 = .ok (.iinc 4 1, 3) := by decide +kernel
theorem dX6_net_53 : decode cX6_net 53 = .ok (.goto (-29), 3) := by decide +kernel
theorem dX6_net_56 : decode cX6_net 56 = .ok (.iload_n 3, 1) := by decide +kernel
theorem dX6_net_57 : decode cX6_net 57 = .ok (.ireturn, 1) := by decide +kernel
set_option maxRecDepth 20000 in
theorem ggX6_owes_X6_isLine : GoodIn wsX6_owes wsX6_isLine := goodIn_r _ [4, 5, 6, 3, 7] (by decide +kernel) (by decide +kernel)
set_option maxRecDepth 20000 in
theorem gX6_owes_X6_isLine : GoodIn wsX6_owes (va_wsS RX6 69 yX6_isLine wsX6_isLine) := goodIn_app (goodIn_of _ (by decide +kernel)) ggX6_owes_X6_isLine
set_option maxRecDepth 20000 in
theorem ggX6_owes_X6_isPastDay : GoodIn wsX6_owes wsX6_isPastDay := goodIn_r _ [11, 12, 13, 5, 6, 3, 7, 50, 51, 52, 53, 54, 55, 56, 57, 58, 59, 60, 61, 62, 63, 64, 65, 66, 67, 68, 69, 70] (by decide +kernel) (by decide +kernel)
set_option maxRecDepth 20000 in
theorem gX6_owes_X6_isPastDay : GoodIn wsX6_owes (wsV RX6 123 RX6 yX6_isPastDay wsX6_isPastDay) := goodIn_app (goodIn_of _ (by decide +kernel)) ggX6_owes_X6_isPastDay
set_option maxRecDepth 20000 in
theorem ggX6_owes_X6_debt : GoodIn wsX6_owes wsX6_debt := goodIn_r _ [17, 12, 18, 19, 20, 21, 22, 23, 24, 25, 26, 27, 28, 29, 30, 31, 32, 33, 34, 35, 36, 37, 38, 3, 39, 40, 41, 42, 43, 44, 45, 46, 47, 48, 49, 50, 51, 52, 53, 54, 55, 56, 57, 58, 59, 60, 61, 62, 63, 64, 65, 66, 67, 68, 69, 70, 71, 72, 73, 74] (by decide +kernel) (by decide +kernel)
set_option maxRecDepth 20000 in
theorem gX6_owes_X6_debt : GoodIn wsX6_owes (wsV RX6 301 RX6 yX6_debt wsX6_debt) := goodIn_app (goodIn_of _ (by decide +kernel)) ggX6_owes_X6_debt
theorem dX6_owes_0 : decode cX6_owes 0 = .ok (.iload_n 1, 1) := by decide +kernel
theorem dX6_owes_1 : decode cX6_owes 1 = .ok (.invokestatic 69, 3) := by decide +kernel
theorem dX6_owes_4 : decode cX6_owes 4 = .ok (.ifCond .eq 18, 3) := by decide +kernel
theorem dX6_owes_7 : decode cX6_owes 7 = .ok (.iload_n 2, 1) := by decide +kernel
theorem dX6_owes_8 : decode cX6_owes 8 = .ok (.invokestatic 69, 3) := by decide +kernel
theorem dX6_owes_11 : decode cX6_owes 11 = .ok (.ifCond .eq 11, 3) := by decide +kernel
theorem dX6_owes_14 : decode cX6_owes 14 = .ok (.aload_n 0, 1) := by decide +kernel
theorem dX6_owes_15 : decode cX6_owes 15 = .ok (.iload_n 3, 1) := by decide +kernel
theorem dX6_owes_16 : decode cX6_owes 16 = .ok (.invokevirtual 123, 3) := by decide +kernel
theorem dX6_owes_19 : decode cX6_owes 19 = .ok (.ifCond .ne 5, 3) := by decide +kernel
theorem dX6_owes_22 : decode cX6_owes 22 = .ok (.iconst (-1), 1) := by decide +kernel
theorem dX6_owes_23 : decode cX6_owes 23 = .ok (.ireturn, 1) := by decide +kernel
theorem dX6_owes_24 : decode cX6_owes 24 = .ok (.aload_n 0, 1) := by decide +kernel
theorem dX6_owes_25 : decode cX6_owes 25 = .ok (.iload_n 1, 1) := by decide +kernel
theorem dX6_owes_26 : decode cX6_owes 26 = .ok (.iload_n 2, 1) := by decide +kernel
theorem dX6_owes_27 : decode cX6_owes 27 = .ok (.iload_n 3, 1) := by decide +kernel
theorem dX6_owes_28 : decode cX6_owes 28 = .ok (.invokevirtual 301, 3) := by decide +kernel
theorem dX6_owes_31 : decode cX6_owes 31 = .ok (.ireturn, 1) := by decide +kernel
set_option maxRecDepth 20000 in
theorem ggX6_many_X4_size : GoodIn wsX6_many wsX4_size := goodIn_r _ [14, 15, 75, 76, 77, 78] (by decide +kernel) (by decide +kernel)
set_option maxRecDepth 20000 in
theorem gX6_many_X4_size : GoodIn wsX6_many (wsV RX6 117 RX4 yX4_size wsX4_size) := goodIn_app (goodIn_of _ (by decide +kernel)) ggX6_many_X4_size
set_option maxRecDepth 20000 in
theorem ggX6_many_X6_leasesRead : GoodIn wsX6_many wsX6_leasesRead := goodIn_r _ [20, 21, 22, 23, 19, 24, 1, 25, 26, 27, 28, 13, 29, 30, 31, 32, 33, 34, 35, 15, 54, 55, 56, 57, 58, 59, 60, 61, 62, 63, 64, 65, 66, 67, 68, 69, 70, 71, 72, 73, 74, 75, 76, 77, 78] (by decide +kernel) (by decide +kernel)
set_option maxRecDepth 20000 in
theorem gX6_many_X6_leasesRead : GoodIn wsX6_many (wsV RX6 304 RX6 yX6_leasesRead wsX6_leasesRead) := goodIn_app (goodIn_of _ (by decide +kernel)) ggX6_many_X6_leasesRead
set_option maxRecDepth 20000 in
theorem ggX6_many_X5_size : GoodIn wsX6_many wsX5_size := goodIn_r _ [40, 41, 79, 80, 81, 82] (by decide +kernel) (by decide +kernel)
set_option maxRecDepth 20000 in
theorem gX6_many_X5_size : GoodIn wsX6_many (wsV RX6 248 RX5 yX5_size wsX5_size) := goodIn_app (goodIn_of _ (by decide +kernel)) ggX6_many_X5_size
set_option maxRecDepth 20000 in
theorem ggX6_many_X6_boxesOfFate : GoodIn wsX6_many wsX6_boxesOfFate := goodIn_r _ [45, 1, 2, 10, 11, 12, 13, 14, 15, 26, 27, 28, 29, 30, 31, 32, 33, 34, 35, 54, 55, 56, 57, 58, 59, 60, 61, 62, 63, 64, 65, 66, 67, 68, 69, 70, 71, 72, 73, 74, 75, 76, 77, 78] (by decide +kernel) (by decide +kernel)
set_option maxRecDepth 20000 in
theorem gX6_many_X6_boxesOfFate : GoodIn wsX6_many (wsV RX6 307 RX6 yX6_boxesOfFate wsX6_boxesOfFate) := goodIn_app (goodIn_of _ (by decide +kernel)) ggX6_many_X6_boxesOfFate
set_option maxRecDepth 20000 in
theorem ggX6_many_X6_allBills : GoodIn wsX6_many wsX6_allBills := goodIn_r _ [49, 1, 2, 50, 51, 52, 53, 10, 11, 12, 13, 14, 15, 26, 27, 28, 29, 30, 31, 32, 33, 34, 35, 54, 55, 56, 57, 58, 59, 60, 61, 62, 63, 64, 65, 66, 67, 68, 69, 70, 71, 72, 73, 74, 75, 76, 77, 78] (by decide +kernel) (by decide +kernel)
set_option maxRecDepth 20000 in
theorem gX6_many_X6_allBills : GoodIn wsX6_many (wsV RX6 310 RX6 yX6_allBills wsX6_allBills) := goodIn_app (goodIn_of _ (by decide +kernel)) ggX6_many_X6_allBills
theorem dX6_many_0 : decode cX6_many 0 = .ok (.iload_n 1, 1) := by decide +kernel
theorem dX6_many_1 : decode cX6_many 1 = .ok (.tableswitch 167 0 11 #[63, 74, 85, 96, 107, 118, 123, 134, 142, 150, 156, 162], 63) := by decide +kernel
theorem dX6_many_64 : decode cX6_many 64 = .ok (.aload_n 0, 1) := by decide +kernel
theorem dX6_many_65 : decode cX6_many 65 = .ok (.getfield 12, 3) := by decide +kernel
theorem dX6_many_68 : decode cX6_many 68 = .ok (.getfield 82, 3) := by decide +kernel
theorem dX6_many_71 : decode cX6_many 71 = .ok (.invokevirtual 117, 3) := by decide +kernel
theorem dX6_many_74 : decode cX6_many 74 = .ok (.ireturn, 1) := by decide +kernel
theorem dX6_many_75 : decode cX6_many 75 = .ok (.aload_n 0, 1) := by decide +kernel
theorem dX6_many_76 : decode cX6_many 76 = .ok (.getfield 12, 3) := by decide +kernel
theorem dX6_many_79 : decode cX6_many 79 = .ok (.getfield 132, 3) := by decide +kernel
theorem dX6_many_82 : decode cX6_many 82 = .ok (.invokevirtual 117, 3) := by decide +kernel
theorem dX6_many_85 : decode cX6_many 85 = .ok (.ireturn, 1) := by decide +kernel
theorem dX6_many_86 : decode cX6_many 86 = .ok (.aload_n 0, 1) := by decide +kernel
theorem dX6_many_87 : decode cX6_many 87 = .ok (.getfield 12, 3) := by decide +kernel
theorem dX6_many_90 : decode cX6_many 90 = .ok (.getfield 176, 3) := by decide +kernel
theorem dX6_many_93 : decode cX6_many 93 = .ok (.invokevirtual 117, 3) := by decide +kernel
theorem dX6_many_96 : decode cX6_many 96 = .ok (.ireturn, 1) := by decide +kernel
theorem dX6_many_97 : decode cX6_many 97 = .ok (.aload_n 0, 1) := by decide +kernel
theorem dX6_many_98 : decode cX6_many 98 = .ok (.getfield 12, 3) := by decide +kernel
theorem dX6_many_101 : decode cX6_many 101 = .ok (.getfield 198, 3) := by decide +kernel
theorem dX6_many_104 : decode cX6_many 104 = .ok (.invokevirtual 117, 3) := by decide +kernel
theorem dX6_many_107 : decode cX6_many 107 = .ok (.ireturn, 1) := by decide +kernel
theorem dX6_many_108 : decode cX6_many 108 = .ok (.aload_n 0, 1) := by decide +kernel
theorem dX6_many_109 : decode cX6_many 109 = .ok (.getfield 12, 3) := by decide +kernel
theorem dX6_many_112 : decode cX6_many 112 = .ok (.getfield 195, 3) := by decide +kernel
theorem dX6_many_115 : decode cX6_many 115 = .ok (.invokevirtual 117, 3) := by decide +kernel
theorem dX6_many_118 : decode cX6_many 118 = .ok (.ireturn, 1) := by decide +kernel
theorem dX6_many_119 : decode cX6_many 119 = .ok (.aload_n 0, 1) := by decide +kernel
theorem dX6_many_120 : decode cX6_many 120 = .ok (.invokevirtual 304, 3) := by decide +kernel
theorem dX6_many_123 : decode cX6_many 123 = .ok (.ireturn, 1) := by decide +kernel
theorem dX6_many_124 : decode cX6_many 124 = .ok (.aload_n 0, 1) := by decide +kernel
theorem dX6_many_125 : decode cX6_many 125 = .ok (.getfield 12, 3) := by decide +kernel
theorem dX6_many_128 : decode cX6_many 128 = .ok (.getfield 294, 3) := by decide +kernel
theorem dX6_many_131 : decode cX6_many 131 = .ok (.invokevirtual 117, 3) := by decide +kernel
theorem dX6_many_134 : decode cX6_many 134 = .ok (.ireturn, 1) := by decide +kernel
theorem dX6_many_135 : decode cX6_many 135 = .ok (.aload_n 0, 1) := by decide +kernel
theorem dX6_many_136 : decode cX6_many 136 = .ok (.getfield 22, 3) := by decide +kernel
theorem dX6_many_139 : decode cX6_many 139 = .ok (.invokevirtual 248, 3) := by decide +kernel
theorem dX6_many_142 : decode cX6_many 142 = .ok (.ireturn, 1) := by decide +kernel
theorem dX6_many_143 : decode cX6_many 143 = .ok (.aload_n 0, 1) := by decide +kernel
theorem dX6_many_144 : decode cX6_many 144 = .ok (.getfield 12, 3) := by decide +kernel
theorem dX6_many_147 : decode cX6_many 147 = .ok (.getfield 58, 3) := by decide +kernel
theorem dX6_many_150 : decode cX6_many 150 = .ok (.ireturn, 1) := by decide +kernel
theorem dX6_many_151 : decode cX6_many 151 = .ok (.aload_n 0, 1) := by decide +kernel
theorem dX6_many_152 : decode cX6_many 152 = .ok (.iconst 1, 1) := by decide +kernel
theorem dX6_many_153 : decode cX6_many 153 = .ok (.invokevirtual 307, 3) := by decide +kernel
theorem dX6_many_156 : decode cX6_many 156 = .ok (.ireturn, 1) := by decide +kernel
theorem dX6_many_157 : decode cX6_many 157 = .ok (.aload_n 0, 1) := by decide +kernel
theorem dX6_many_158 : decode cX6_many 158 = .ok (.iconst 2, 1) := by decide +kernel
theorem dX6_many_159 : decode cX6_many 159 = .ok (.invokevirtual 307, 3) := by decide +kernel
theorem dX6_many_162 : decode cX6_many 162 = .ok (.ireturn, 1) := by decide +kernel
theorem dX6_many_163 : decode cX6_many 163 = .ok (.aload_n 0, 1) := by decide +kernel
theorem dX6_many_164 : decode cX6_many 164 = .ok (.invokevirtual 310, 3) := by decide +kernel
theorem dX6_many_167 : decode cX6_many 167 = .ok (.ireturn, 1) := by decide +kernel
theorem dX6_many_168 : decode cX6_many 168 = .ok (.iconst (-1), 1) := by decide +kernel
theorem dX6_many_169 : decode cX6_many 169 = .ok (.ireturn, 1) := by decide +kernel
set_option maxRecDepth 20000 in
theorem ggX6_useWorth_X4_cell : GoodIn wsX6_useWorth wsX4_cell := goodIn_r _ [13, 14, 15, 16, 17, 18, 12, 19, 20, 42, 43, 44, 45] (by decide +kernel) (by decide +kernel)
set_option maxRecDepth 20000 in
theorem gX6_useWorth_X4_cell : GoodIn wsX6_useWorth (wsV RX6 113 RX4 yX4_cell wsX4_cell) := goodIn_app (goodIn_of _ (by decide +kernel)) ggX6_useWorth_X4_cell
theorem dX6_useWorth_0 : decode cX6_useWorth 0 = .ok (.aload_n 0, 1) := by decide +kernel
theorem dX6_useWorth_1 : decode cX6_useWorth 1 = .ok (.getfield 12, 3) := by decide +kernel
theorem dX6_useWorth_4 : decode cX6_useWorth 4 = .ok (.getfield 294, 3) := by decide +kernel
theorem dX6_useWorth_7 : decode cX6_useWorth 7 = .ok (.iload_n 1, 1) := by decide +kernel
theorem dX6_useWorth_8 : decode cX6_useWorth 8 = .ok (.iconst 3, 1) := by decide +kernel
theorem dX6_useWorth_9 : decode cX6_useWorth 9 = .ok (.invokevirtual 113, 3) := by decide +kernel
theorem dX6_useWorth_12 : decode cX6_useWorth 12 = .ok (.aload_n 0, 1) := by decide +kernel
theorem dX6_useWorth_13 : decode cX6_useWorth 13 = .ok (.getfield 12, 3) := by decide +kernel
theorem dX6_useWorth_16 : decode cX6_useWorth 16 = .ok (.getfield 294, 3) := by decide +kernel
theorem dX6_useWorth_19 : decode cX6_useWorth 19 = .ok (.iload_n 1, 1) := by decide +kernel
theorem dX6_useWorth_20 : decode cX6_useWorth 20 = .ok (.iconst 2, 1) := by decide +kernel
theorem dX6_useWorth_21 : decode cX6_useWorth 21 = .ok (.invokevirtual 113, 3) := by decide +kernel
theorem dX6_useWorth_24 : decode cX6_useWorth 24 = .ok (.isub, 1) := by decide +kernel
theorem dX6_useWorth_25 : decode cX6_useWorth 25 = .ok (.iconst 1, 1) := by decide +kernel
theorem dX6_useWorth_26 : decode cX6_useWorth 26 = .ok (.iadd, 1) := by decide +kernel
theorem dX6_useWorth_27 : decode cX6_useWorth 27 = .ok (.istore_n 2, 1) := by decide +kernel
theorem dX6_useWorth_28 : decode cX6_useWorth 28 = .ok (.iconst 0, 1) := by decide +kernel
theorem dX6_useWorth_29 : decode cX6_useWorth 29 = .ok (.iload_n 2, 1) := by decide +kernel
theorem dX6_useWorth_30 : decode cX6_useWorth 30 = .ok (.aload_n 0, 1) := by decide +kernel
theorem dX6_useWorth_31 : decode cX6_useWorth 31 = .ok (.getfield 12, 3) := by decide +kernel
theorem dX6_useWorth_34 : decode cX6_useWorth 34 = .ok (.getfield 291, 3) := by decide +kernel
theorem dX6_useWorth_37 : decode cX6_useWorth 37 = .ok (.isub, 1) := by decide +kernel
theorem dX6_useWorth_38 : decode cX6_useWorth 38 = .ok (.invokestatic 285, 3) := by decide +kernel
theorem dX6_useWorth_41 : decode cX6_useWorth 41 = .ok (.aload_n 0, 1) := by decide +kernel
theorem dX6_useWorth_42 : decode cX6_useWorth 42 = .ok (.getfield 12, 3) := by decide +kernel
theorem dX6_useWorth_45 : decode cX6_useWorth 45 = .ok (.getfield 288, 3) := by decide +kernel
theorem dX6_useWorth_48 : decode cX6_useWorth 48 = .ok (.imul, 1) := by decide +kernel
theorem dX6_useWorth_49 : decode cX6_useWorth 49 = .ok (.ireturn, 1) := by decide +kernel
set_option maxRecDepth 20000 in
theorem ggX6_isUseKnown_X4_cell : GoodIn wsX6_isUseKnown wsX4_cell := goodIn_r _ [7, 8, 9, 10, 11, 12, 6, 13, 14, 36, 37, 38, 39] (by decide +kernel) (by decide +kernel)
set_option maxRecDepth 20000 in
theorem gX6_isUseKnown_X4_cell : GoodIn wsX6_isUseKnown (wsV RX6 113 RX4 yX4_cell wsX4_cell) := goodIn_app (goodIn_of _ (by decide +kernel)) ggX6_isUseKnown_X4_cell
theorem dX6_isUseKnown_0 : decode cX6_isUseKnown 0 = .ok (.aload_n 0, 1) := by decide +kernel
theorem dX6_isUseKnown_1 : decode cX6_isUseKnown 1 = .ok (.getfield 12, 3) := by decide +kernel
theorem dX6_isUseKnown_4 : decode cX6_isUseKnown 4 = .ok (.getfield 294, 3) := by decide +kernel
theorem dX6_isUseKnown_7 : decode cX6_isUseKnown 7 = .ok (.iload_n 1, 1) := by decide +kernel
theorem dX6_isUseKnown_8 : decode cX6_isUseKnown 8 = .ok (.iconst 4, 1) := by decide +kernel
theorem dX6_isUseKnown_9 : decode cX6_isUseKnown 9 = .ok (.invokevirtual 113, 3) := by decide +kernel
theorem dX6_isUseKnown_12 : decode cX6_isUseKnown 12 = .ok (.iload_n 2, 1) := by decide +kernel
theorem dX6_isUseKnown_13 : decode cX6_isUseKnown 13 = .ok (.if_icmp .gt 23, 3) := by decide +kernel
theorem dX6_isUseKnown_16 : decode cX6_isUseKnown 16 = .ok (.aload_n 0, 1) := by decide +kernel
theorem dX6_isUseKnown_17 : decode cX6_isUseKnown 17 = .ok (.getfield 12, 3) := by decide +kernel
theorem dX6_isUseKnown_20 : decode cX6_isUseKnown 20 = .ok (.getfield 294, 3) := by decide +kernel
theorem dX6_isUseKnown_23 : decode cX6_isUseKnown 23 = .ok (.iload_n 1, 1) := by decide +kernel
theorem dX6_isUseKnown_24 : decode cX6_isUseKnown 24 = .ok (.iconst 5, 1) := by decide +kernel
theorem dX6_isUseKnown_25 : decode cX6_isUseKnown 25 = .ok (.invokevirtual 113, 3) := by decide +kernel
theorem dX6_isUseKnown_28 : decode cX6_isUseKnown 28 = .ok (.iload_n 2, 1) := by decide +kernel
theorem dX6_isUseKnown_29 : decode cX6_isUseKnown 29 = .ok (.if_icmp .le 7, 3) := by decide +kernel
theorem dX6_isUseKnown_32 : decode cX6_isUseKnown 32 = .ok (.iconst 1, 1) := by decide +kernel
theorem dX6_isUseKnown_33 : decode cX6_isUseKnown 33 = .ok (.goto 4, 3) := by decide +kernel
theorem dX6_isUseKnown_36 : decode cX6_isUseKnown 36 = .ok (.iconst 0, 1) := by decide +kernel
theorem dX6_isUseKnown_37 : decode cX6_isUseKnown 37 = .ok (.ireturn, 1) := by decide +kernel
set_option maxRecDepth 20000 in
theorem ggX6_debt_X4_size : GoodIn wsX6_debt wsX4_size := goodIn_r _ [8, 9, 56, 57, 58, 59] (by decide +kernel) (by decide +kernel)
set_option maxRecDepth 20000 in
theorem gX6_debt_X4_size : GoodIn wsX6_debt (wsV RX6 117 RX4 yX4_size wsX4_size) := goodIn_app (goodIn_of _ (by decide +kernel)) ggX6_debt_X4_size
set_option maxRecDepth 20000 in
theorem ggX6_debt_X4_cell : GoodIn wsX6_debt wsX4_cell := goodIn_r _ [13, 14, 15, 16, 17, 18, 7, 19, 9, 56, 57, 58, 59] (by decide +kernel) (by decide +kernel)
set_option maxRecDepth 20000 in
theorem gX6_debt_X4_cell : GoodIn wsX6_debt (wsV RX6 113 RX4 yX4_cell wsX4_cell) := goodIn_app (goodIn_of _ (by decide +kernel)) ggX6_debt_X4_cell
set_option maxRecDepth 20000 in
theorem ggX6_debt_X6_isUseKnown : GoodIn wsX6_debt wsX6_isUseKnown := goodIn_r _ [24, 1, 2, 10, 11, 12, 7, 13, 14, 15, 16, 17, 18, 19, 9, 35, 36, 37, 38, 39, 40, 41, 42, 43, 44, 45, 46, 47, 48, 49, 50, 51, 52, 53, 54, 55, 56, 57, 58, 59] (by decide +kernel) (by decide +kernel)
set_option maxRecDepth 20000 in
theorem gX6_debt_X6_isUseKnown : GoodIn wsX6_debt (wsV RX6 313 RX6 yX6_isUseKnown wsX6_isUseKnown) := goodIn_app (goodIn_of _ (by decide +kernel)) ggX6_debt_X6_isUseKnown
set_option maxRecDepth 20000 in
theorem ggX6_debt_X6_useWorth : GoodIn wsX6_debt wsX6_useWorth := goodIn_r _ [28, 1, 2, 29, 30, 31, 32, 33, 34, 10, 11, 12, 7, 13, 14, 15, 16, 17, 18, 19, 9, 35, 36, 37, 38, 39, 40, 41, 42, 43, 44, 45, 46, 47, 48, 49, 50, 51, 52, 53, 54, 55, 56, 57, 58, 59] (by decide +kernel) (by decide +kernel)
set_option maxRecDepth 20000 in
theorem gX6_debt_X6_useWorth : GoodIn wsX6_debt (wsV RX6 297 RX6 yX6_useWorth wsX6_useWorth) := goodIn_app (goodIn_of _ (by decide +kernel)) ggX6_debt_X6_useWorth
theorem dX6_debt_0 : decode cX6_debt 0 = .ok (.iconst 0, 1) := by decide +kernel
theorem dX6_debt_1 : decode cX6_debt 1 = .ok (.istore 4, 2) := by decide +kernel
theorem dX6_debt_3 : decode cX6_debt 3 = .ok (.iconst 0, 1) := by decide +kernel
theorem dX6_debt_4 : decode cX6_debt 4 = .ok (.istore 5, 2) := by decide +kernel
theorem dX6_debt_6 : decode cX6_debt 6 = .ok (.iload 5, 2) := by decide +kernel
theorem dX6_debt_8 : decode cX6_debt 8 = .ok (.aload_n 0, 1) := by decide +kernel
theorem dX6_debt_9 : decode cX6_debt 9 = .ok (.getfield 12, 3) := by decide +kernel
theorem dX6_debt_12 : decode cX6_debt 12 = .ok (.getfield 294, 3) := by decide +kernel
theorem dX6_debt_15 : decode cX6_debt 15 = .ok (.invokevirtual 117, 3) := by decide +kernel
theorem dX6_debt_18 : decode cX6_debt 18 = .ok (.if_icmp .ge 79, 3) := by decide +kernel
theorem dX6_debt_21 : decode cX6_debt 21 = .ok (.aload_n 0, 1) := by decide +kernel
theorem dX6_debt_22 : decode cX6_debt 22 = .ok (.getfield 12, 3) := by decide +kernel
theorem dX6_debt_25 : decode cX6_debt 25 = .ok (.getfield 82, 3) := by decide +kernel
theorem dX6_debt_28 : decode cX6_debt 28 = .ok (.aload_n 0, 1) := by decide +kernel
theorem dX6_debt_29 : decode cX6_debt 29 = .ok (.getfield 12, 3) := by decide +kernel
theorem dX6_debt_32 : decode cX6_debt 32 = .ok (.getfield 294, 3) := by decide +kernel
theorem dX6_debt_35 : decode cX6_debt 35 = .ok (.iload 5, 2) := by decide +kernel
theorem dX6_debt_37 : decode cX6_debt 37 = .ok (.iconst 0, 1) := by decide +kernel
theorem dX6_debt_38 : decode cX6_debt 38 = .ok (.invokevirtual 113, 3) := by decide +kernel
theorem dX6_debt_41 : decode cX6_debt 41 = .ok (.iconst 2, 1) := by decide +kernel
theorem dX6_debt_42 : decode cX6_debt 42 = .ok (.invokevirtual 113, 3) := by decide +kernel
theorem dX6_debt_45 : decode cX6_debt 45 = .ok (.istore 6, 2) := by decide +kernel
theorem dX6_debt_47 : decode cX6_debt 47 = .ok (.aload_n 0, 1) := by decide +kernel
theorem dX6_debt_48 : decode cX6_debt 48 = .ok (.getfield 12, 3) := by decide +kernel
theorem dX6_debt_51 : decode cX6_debt 51 = .ok (.getfield 294, 3) := by decide +kernel
theorem dX6_debt_54 : decode cX6_debt 54 = .ok (.iload 5, 2) := by decide +kernel
theorem dX6_debt_56 : decode cX6_debt 56 = .ok (.iconst 1, 1) := by decide +kernel
theorem dX6_debt_57 : decode cX6_debt 57 = .ok (.invokevirtual 113, 3) := by decide +kernel
theorem dX6_debt_60 : decode cX6_debt 60 = .ok (.iload_n 1, 1) := by decide +kernel
theorem dX6_debt_61 : decode cX6_debt 61 = .ok (.if_icmp .ne 30, 3) := by decide +kernel
theorem dX6_debt_64 : decode cX6_debt 64 = .ok (.iload 6, 2) := by decide +kernel
theorem dX6_debt_66 : decode cX6_debt 66 = .ok (.iload_n 2, 1) := by decide +kernel
theorem dX6_debt_67 : decode cX6_debt 67 = .ok (.if_icmp .ne 24, 3) := by decide +kernel
theorem dX6_debt_70 : decode cX6_debt 70 = .ok (.aload_n 0, 1) := by decide +kernel
theorem dX6_debt_71 : decode cX6_debt 71 = .ok (.iload 5, 2) := by decide +kernel
theorem dX6_debt_73 : decode cX6_debt 73 = .ok (.iload_n 3, 1) := by decide +kernel
theorem dX6_debt_74 : decode cX6_debt 74 = .ok (.invokevirtual 313, 3) := by decide +kernel
theorem dX6_debt_77 : decode cX6_debt 77 = .ok (.ifCond .eq 14, 3) := by decide +kernel
theorem dX6_debt_80 : decode cX6_debt 80 = .ok (.iload 4, 2) := by decide +kernel
theorem dX6_debt_82 : decode cX6_debt 82 = .ok (.aload_n 0, 1) := by decide +kernel
theorem dX6_debt_83 : decode cX6_debt 83 = .ok (.iload 5, 2) := by decide +kernel
theorem dX6_debt_85 : decode cX6_debt 85 = .ok (.invokevirtual 297, 3) := by decide +kernel
theorem dX6_debt_88 : decode cX6_debt 88 = .ok (.iadd, 1) := by decide +kernel
theorem dX6_debt_89 : decode cX6_debt 89 = .ok (.istore 4, 2) := by decide +kernel
theorem dX6_debt_91 : decode cX6_debt 91 = .ok (.iinc 5 1, 3) := by decide +kernel
theorem dX6_debt_94 : decode cX6_debt 94 = .ok (.goto (-88), 3) := by decide +kernel
theorem dX6_debt_97 : decode cX6_debt 97 = .ok (.iload 4, 2) := by decide +kernel
theorem dX6_debt_99 : decode cX6_debt 99 = .ok (.ireturn, 1) := by decide +kernel
set_option maxRecDepth 20000 in
theorem ggX6_leasesRead_X6_wasRead : GoodIn wsX6_leasesRead wsX6_wasRead := goodIn_r _ [5, 6, 7, 8, 9, 10, 11, 12, 13, 14, 15, 16, 17, 18, 19, 20, 21, 22, 23, 24, 25, 26, 27, 28, 29, 30, 31, 32, 33, 34, 35, 36, 37, 38, 39, 40, 41, 42, 43, 44] (by decide +kernel) (by decide +kernel)
set_option maxRecDepth 20000 in
theorem gX6_leasesRead_X6_wasRead : GoodIn wsX6_leasesRead (wsV RX6 79 RX6 yX6_wasRead wsX6_wasRead) := goodIn_app (goodIn_of _ (by decide +kernel)) ggX6_leasesRead_X6_wasRead
theorem dX6_leasesRead_0 : decode cX6_leasesRead 0 = .ok (.iconst 0, 1) := by decide +kernel
theorem dX6_leasesRead_1 : decode cX6_leasesRead 1 = .ok (.istore_n 1, 1) := by decide +kernel
theorem dX6_leasesRead_2 : decode cX6_leasesRead 2 = .ok (.iconst 0, 1) := by decide +kernel
theorem dX6_leasesRead_3 : decode cX6_leasesRead 3 = .ok (.istore_n 2, 1) := by decide +kernel
theorem dX6_leasesRead_4 : decode cX6_leasesRead 4 = .ok (.iload_n 2, 1) := by decide +kernel
theorem dX6_leasesRead_5 : decode cX6_leasesRead 5 = .ok (.iconst 3, 1) := by decide +kernel
theorem dX6_leasesRead_6 : decode cX6_leasesRead 6 = .ok (.if_icmp .ge 20, 3) := by decide +kernel
theorem dX6_leasesRead_9 : decode cX6_leasesRead 9 = .ok (.aload_n 0, 1) := by decide +kernel
theorem dX6_leasesRead_10 : decode cX6_leasesRead 10 = .ok (.iload_n 2, 1) := by decide +kernel
theorem dX6_leasesRead_11 : decode cX6_leasesRead 11 = .ok (.invokevirtual 79, 3) := by decide +kernel
theorem dX6_leasesRead_14 : decode cX6_leasesRead 14 = .ok (.ifCond .eq 6, 3) := by decide +kernel
theorem dX6_leasesRead_17 : decode cX6_leasesRead 17 = .ok (.iinc 1 1, 3) := by decide +kernel
theorem dX6_leasesRead_20 : decode cX6_leasesRead 20 = .ok (.iinc 2 1, 3) := by decide +kernel
theorem dX6_leasesRead_23 : decode cX6_leasesRead 23 = .ok (.goto (-19), 3) := by decide +kernel
theorem dX6_leasesRead_26 : decode cX6_leasesRead 26 = .ok (.iload_n 1, 1) := by decide +kernel
theorem dX6_leasesRead_27 : decode cX6_leasesRead 27 = .ok (.ireturn, 1) := by decide +kernel
set_option maxRecDepth 20000 in
theorem ggX6_boxesOfFate_X4_size : GoodIn wsX6_boxesOfFate wsX4_size := goodIn_r _ [7, 8, 40, 41, 42, 43] (by decide +kernel) (by decide +kernel)
set_option maxRecDepth 20000 in
theorem gX6_boxesOfFate_X4_size : GoodIn wsX6_boxesOfFate (wsV RX6 117 RX4 yX4_size wsX4_size) := goodIn_app (goodIn_of _ (by decide +kernel)) ggX6_boxesOfFate_X4_size
set_option maxRecDepth 20000 in
theorem ggX6_boxesOfFate_X4_cell : GoodIn wsX6_boxesOfFate wsX4_cell := goodIn_r _ [12, 13, 14, 15, 16, 17, 6, 18, 8, 40, 41, 42, 43] (by decide +kernel) (by decide +kernel)
set_option maxRecDepth 20000 in
theorem gX6_boxesOfFate_X4_cell : GoodIn wsX6_boxesOfFate (wsV RX6 113 RX4 yX4_cell wsX4_cell) := goodIn_app (goodIn_of _ (by decide +kernel)) ggX6_boxesOfFate_X4_cell
theorem dX6_boxesOfFate_0 : decode cX6_boxesOfFate 0 = .ok (.iconst 0, 1) := by decide +kernel
theorem dX6_boxesOfFate_1 : decode cX6_boxesOfFate 1 = .ok (.istore_n 2, 1) := by decide +kernel
theorem dX6_boxesOfFate_2 : decode cX6_boxesOfFate 2 = .ok (.iconst 0, 1) := by decide +kernel
theorem dX6_boxesOfFate_3 : decode cX6_boxesOfFate 3 = .ok (.istore_n 3, 1) := by decide +kernel
theorem dX6_boxesOfFate_4 : decode cX6_boxesOfFate 4 = .ok (.iload_n 3, 1) := by decide +kernel
theorem dX6_boxesOfFate_5 : decode cX6_boxesOfFate 5 = .ok (.aload_n 0, 1) := by decide +kernel
theorem dX6_boxesOfFate_6 : decode cX6_boxesOfFate 6 = .ok (.getfield 12, 3) := by decide +kernel
theorem dX6_boxesOfFate_9 : decode cX6_boxesOfFate 9 = .ok (.getfield 82, 3) := by decide +kernel
theorem dX6_boxesOfFate_12 : decode cX6_boxesOfFate 12 = .ok (.invokevirtual 117, 3) := by decide +kernel
theorem dX6_boxesOfFate_15 : decode cX6_boxesOfFate 15 = .ok (.if_icmp .ge 28, 3) := by decide +kernel
theorem dX6_boxesOfFate_18 : decode cX6_boxesOfFate 18 = .ok (.aload_n 0, 1) := by decide +kernel
theorem dX6_boxesOfFate_19 : decode cX6_boxesOfFate 19 = .ok (.getfield 12, 3) := by decide +kernel
theorem dX6_boxesOfFate_22 : decode cX6_boxesOfFate 22 = .ok (.getfield 82, 3) := by decide +kernel
theorem dX6_boxesOfFate_25 : decode cX6_boxesOfFate 25 = .ok (.iload_n 3, 1) := by decide +kernel
theorem dX6_boxesOfFate_26 : decode cX6_boxesOfFate 26 = .ok (.iconst 5, 1) := by decide +kernel
theorem dX6_boxesOfFate_27 : decode cX6_boxesOfFate 27 = .ok (.invokevirtual 113, 3) := by decide +kernel
theorem dX6_boxesOfFate_30 : decode cX6_boxesOfFate 30 = .ok (.iload_n 1, 1) := by decide +kernel
theorem dX6_boxesOfFate_31 : decode cX6_boxesOfFate 31 = .ok (.if_icmp .ne 6, 3) := by decide +kernel
theorem dX6_boxesOfFate_34 : decode cX6_boxesOfFate 34 = .ok (.iinc 2 1, 3) := by decide +kernel
theorem dX6_boxesOfFate_37 : decode cX6_boxesOfFate 37 = .ok (.iinc 3 1, 3) := by decide +kernel
theorem dX6_boxesOfFate_40 : decode cX6_boxesOfFate 40 = .ok (.goto (-36), 3) := by decide +kernel
theorem dX6_boxesOfFate_43 : decode cX6_boxesOfFate 43 = .ok (.iload_n 2, 1) := by decide +kernel
theorem dX6_boxesOfFate_44 : decode cX6_boxesOfFate 44 = .ok (.ireturn, 1) := by decide +kernel
set_option maxRecDepth 20000 in
theorem ggX6_allBills_X4_size : GoodIn wsX6_allBills wsX4_size := goodIn_r _ [11, 12, 44, 45, 46, 47] (by decide +kernel) (by decide +kernel)
set_option maxRecDepth 20000 in
theorem gX6_allBills_X4_size : GoodIn wsX6_allBills (wsV RX6 117 RX4 yX4_size wsX4_size) := goodIn_app (goodIn_of _ (by decide +kernel)) ggX6_allBills_X4_size
set_option maxRecDepth 20000 in
theorem ggX6_allBills_X4_cell : GoodIn wsX6_allBills wsX4_cell := goodIn_r _ [16, 17, 18, 19, 20, 21, 10, 22, 12, 44, 45, 46, 47] (by decide +kernel) (by decide +kernel)
set_option maxRecDepth 20000 in
theorem gX6_allBills_X4_cell : GoodIn wsX6_allBills (wsV RX6 113 RX4 yX4_cell wsX4_cell) := goodIn_app (goodIn_of _ (by decide +kernel)) ggX6_allBills_X4_cell
theorem dX6_allBills_0 : decode cX6_allBills 0 = .ok (.iconst 0, 1) := by decide +kernel
theorem dX6_allBills_1 : decode cX6_allBills 1 = .ok (.istore_n 1, 1) := by decide +kernel
theorem dX6_allBills_2 : decode cX6_allBills 2 = .ok (.iconst 0, 1) := by decide +kernel
theorem dX6_allBills_3 : decode cX6_allBills 3 = .ok (.istore_n 2, 1) := by decide +kernel
theorem dX6_allBills_4 : decode cX6_allBills 4 = .ok (.iload_n 2, 1) := by decide +kernel
theorem dX6_allBills_5 : decode cX6_allBills 5 = .ok (.aload_n 0, 1) := by decide +kernel
theorem dX6_allBills_6 : decode cX6_allBills 6 = .ok (.getfield 12, 3) := by decide +kernel
theorem dX6_allBills_9 : decode cX6_allBills 9 = .ok (.getfield 82, 3) := by decide +kernel
theorem dX6_allBills_12 : decode cX6_allBills 12 = .ok (.invokevirtual 117, 3) := by decide +kernel
theorem dX6_allBills_15 : decode cX6_allBills 15 = .ok (.if_icmp .ge 29, 3) := by decide +kernel
theorem dX6_allBills_18 : decode cX6_allBills 18 = .ok (.iload_n 1, 1) := by decide +kernel
theorem dX6_allBills_19 : decode cX6_allBills 19 = .ok (.iconst 0, 1) := by decide +kernel
theorem dX6_allBills_20 : decode cX6_allBills 20 = .ok (.aload_n 0, 1) := by decide +kernel
theorem dX6_allBills_21 : decode cX6_allBills 21 = .ok (.getfield 12, 3) := by decide +kernel
theorem dX6_allBills_24 : decode cX6_allBills 24 = .ok (.getfield 82, 3) := by decide +kernel
theorem dX6_allBills_27 : decode cX6_allBills 27 = .ok (.iload_n 2, 1) := by decide +kernel
theorem dX6_allBills_28 : decode cX6_allBills 28 = .ok (.bipush 6, 2) := by decide +kernel
theorem dX6_allBills_30 : decode cX6_allBills 30 = .ok (.invokevirtual 113, 3) := by decide +kernel
theorem dX6_allBills_33 : decode cX6_allBills 33 = .ok (.invokestatic 285, 3) := by decide +kernel
theorem dX6_allBills_36 : decode cX6_allBills 36 = .ok (.iadd, 1) := by decide +kernel
theorem dX6_allBills_37 : decode cX6_allBills 37 = .ok (.istore_n 1, 1) := by decide +kernel
theorem dX6_allBills_38 : decode cX6_allBills 38 = .ok (.iinc 2 1, 3) := by decide +kernel
theorem dX6_allBills_41 : decode cX6_allBills 41 = .ok (.goto (-37), 3) := by decide +kernel
theorem dX6_allBills_44 : decode cX6_allBills 44 = .ok (.iload_n 1, 1) := by decide +kernel
theorem dX6_allBills_45 : decode cX6_allBills 45 = .ok (.ireturn, 1) := by decide +kernel
set_option maxRecDepth 20000 in
theorem ggX6_keep_X0_become : GoodIn wsX6_keep wsX0_become := goodIn_r _ [8, 9, 10, 11, 12, 13, 14, 15, 16, 17, 18, 19, 20, 21, 22, 23, 24, 25, 26, 27, 28, 29, 30, 31, 32, 33, 34, 35, 36, 37, 46, 47, 48, 49, 50, 51, 52, 53, 54, 55, 56, 57, 58, 59, 60, 61, 62] (by decide +kernel) (by decide +kernel)
set_option maxRecDepth 20000 in
theorem gX6_keep_X0_become : GoodIn wsX6_keep (wsV RX6 316 RX0 yX0_become wsX0_become) := goodIn_app (goodIn_of _ (by decide +kernel)) ggX6_keep_X0_become
theorem dX6_keep_0 : decode cX6_keep 0 = .ok (.aload_n 0, 1) := by decide +kernel
theorem dX6_keep_1 : decode cX6_keep 1 = .ok (.getfield 16, 3) := by decide +kernel
theorem dX6_keep_4 : decode cX6_keep 4 = .ok (.aload_n 0, 1) := by decide +kernel
theorem dX6_keep_5 : decode cX6_keep 5 = .ok (.getfield 12, 3) := by decide +kernel
theorem dX6_keep_8 : decode cX6_keep 8 = .ok (.invokevirtual 316, 3) := by decide +kernel
theorem dX6_keep_11 : decode cX6_keep 11 = .ok (.aload_n 0, 1) := by decide +kernel
theorem dX6_keep_12 : decode cX6_keep 12 = .ok (.iconst 1, 1) := by decide +kernel
theorem dX6_keep_13 : decode cX6_keep 13 = .ok (.putfield 47, 3) := by decide +kernel
theorem dX6_keep_16 : decode cX6_keep 16 = .ok (.iconst 1, 1) := by decide +kernel
theorem dX6_keep_17 : decode cX6_keep 17 = .ok (.ireturn, 1) := by decide +kernel
set_option maxRecDepth 20000 in
theorem ggX6_back_X0_become : GoodIn wsX6_back wsX0_become := goodIn_r _ [9, 10, 11, 12, 13, 14, 15, 16, 17, 18, 19, 20, 21, 22, 23, 24, 25, 26, 27, 28, 29, 30, 31, 32, 33, 34, 35, 36, 37, 38, 47, 48, 49, 50, 51, 52, 53, 54, 55, 56, 57, 58, 59, 60, 61, 62, 63] (by decide +kernel) (by decide +kernel)
set_option maxRecDepth 20000 in
theorem gX6_back_X0_become : GoodIn wsX6_back (wsV RX6 316 RX0 yX0_become wsX0_become) := goodIn_app (goodIn_of _ (by decide +kernel)) ggX6_back_X0_become
theorem dX6_back_0 : decode cX6_back 0 = .ok (.aload_n 0, 1) := by decide +kernel
theorem dX6_back_1 : decode cX6_back 1 = .ok (.getfield 47, 3) := by decide +kernel
theorem dX6_back_4 : decode cX6_back 4 = .ok (.ifCond .ne 6, 3) := by decide +kernel
theorem dX6_back_7 : decode cX6_back 7 = .ok (.bipush (-3), 2) := by decide +kernel
theorem dX6_back_9 : decode cX6_back 9 = .ok (.ireturn, 1) := by decide +kernel
theorem dX6_back_10 : decode cX6_back 10 = .ok (.aload_n 0, 1) := by decide +kernel
theorem dX6_back_11 : decode cX6_back 11 = .ok (.getfield 12, 3) := by decide +kernel
theorem dX6_back_14 : decode cX6_back 14 = .ok (.aload_n 0, 1) := by decide +kernel
theorem dX6_back_15 : decode cX6_back 15 = .ok (.getfield 16, 3) := by decide +kernel
theorem dX6_back_18 : decode cX6_back 18 = .ok (.invokevirtual 316, 3) := by decide +kernel
theorem dX6_back_21 : decode cX6_back 21 = .ok (.aload_n 0, 1) := by decide +kernel
theorem dX6_back_22 : decode cX6_back 22 = .ok (.iconst 0, 1) := by decide +kernel
theorem dX6_back_23 : decode cX6_back 23 = .ok (.putfield 51, 3) := by decide +kernel
theorem dX6_back_26 : decode cX6_back 26 = .ok (.iconst 1, 1) := by decide +kernel
theorem dX6_back_27 : decode cX6_back 27 = .ok (.ireturn, 1) := by decide +kernel
theorem dX7_init_0 : decode cX7_init 0 = .ok (.aload_n 0, 1) := by decide +kernel
theorem dX7_init_1 : decode cX7_init 1 = .ok (.invokespecial 1, 3) := by decide +kernel
theorem dX7_init_4 : decode cX7_init 4 = .ok (.aload_n 0, 1) := by decide +kernel
theorem dX7_init_5 : decode cX7_init 5 = .ok (.bipush 10, 2) := by decide +kernel
theorem dX7_init_7 : decode cX7_init 7 = .ok (.newarray .int, 2) := by decide +kernel
theorem dX7_init_9 : decode cX7_init 9 = .ok (.dup, 1) := by decide +kernel
theorem dX7_init_10 : decode cX7_init 10 = .ok (.iconst 0, 1) := by decide +kernel
theorem dX7_init_11 : decode cX7_init 11 = .ok (.iconst 0, 1) := by decide +kernel
theorem dX7_init_12 : decode cX7_init 12 = .ok (.iastore, 1) := by decide +kernel
theorem dX7_init_13 : decode cX7_init 13 = .ok (.dup, 1) := by decide +kernel
theorem dX7_init_14 : decode cX7_init 14 = .ok (.iconst 1, 1) := by decide +kernel
theorem dX7_init_15 : decode cX7_init 15 = .ok (.iconst 0, 1) := by decide +kernel
theorem dX7_init_16 : decode cX7_init 16 = .ok (.iastore, 1) := by decide +kernel
theorem dX7_init_17 : decode cX7_init 17 = .ok (.dup, 1) := by decide +kernel
theorem dX7_init_18 : decode cX7_init 18 = .ok (.iconst 2, 1) := by decide +kernel
theorem dX7_init_19 : decode cX7_init 19 = .ok (.iconst 0, 1) := by decide +kernel
theorem dX7_init_20 : decode cX7_init 20 = .ok (.iastore, 1) := by decide +kernel
theorem dX7_init_21 : decode cX7_init 21 = .ok (.dup, 1) := by decide +kernel
theorem dX7_init_22 : decode cX7_init 22 = .ok (.iconst 3, 1) := by decide +kernel
theorem dX7_init_23 : decode cX7_init 23 = .ok (.iconst 0, 1) := by decide +kernel
theorem dX7_init_24 : decode cX7_init 24 = .ok (.iastore, 1) := by decide +kernel
theorem dX7_init_25 : decode cX7_init 25 = .ok (.dup, 1) := by decide +kernel
theorem dX7_init_26 : decode cX7_init 26 = .ok (.iconst 4, 1) := by decide +kernel
theorem dX7_init_27 : decode cX7_init 27 = .ok (.iconst 0, 1) := by decide +kernel
theorem dX7_init_28 : decode cX7_init 28 = .ok (.iastore, 1) := by decide +kernel
theorem dX7_init_29 : decode cX7_init 29 = .ok (.dup, 1) := by decide +kernel
theorem dX7_init_30 : decode cX7_init 30 = .ok (.iconst 5, 1) := by decide +kernel
theorem dX7_init_31 : decode cX7_init 31 = .ok (.iconst 0, 1) := by decide +kernel
theorem dX7_init_32 : decode cX7_init 32 = .ok (.iastore, 1) := by decide +kernel
theorem dX7_init_33 : decode cX7_init 33 = .ok (.dup, 1) := by decide +kernel
theorem dX7_init_34 : decode cX7_init 34 = .ok (.bipush 6, 2) := by decide +kernel
theorem dX7_init_36 : decode cX7_init 36 = .ok (.iconst 0, 1) := by decide +kernel
theorem dX7_init_37 : decode cX7_init 37 = .ok (.iastore, 1) := by decide +kernel
theorem dX7_init_38 : decode cX7_init 38 = .ok (.dup, 1) := by decide +kernel
theorem dX7_init_39 : decode cX7_init 39 = .ok (.bipush 7, 2) := by decide +kernel
theorem dX7_init_41 : decode cX7_init 41 = .ok (.iconst 5, 1) := by decide +kernel
theorem dX7_init_42 : decode cX7_init 42 = .ok (.iastore, 1) := by decide +kernel
theorem dX7_init_43 : decode cX7_init 43 = .ok (.dup, 1) := by decide +kernel
theorem dX7_init_44 : decode cX7_init 44 = .ok (.bipush 8, 2) := by decide +kernel
theorem dX7_init_46 : decode cX7_init 46 = .ok (.iconst 2, 1) := by decide +kernel
theorem dX7_init_47 : decode cX7_init 47 = .ok (.iastore, 1) := by decide +kernel
theorem dX7_init_48 : decode cX7_init 48 = .ok (.dup, 1) := by decide +kernel
theorem dX7_init_49 : decode cX7_init 49 = .ok (.bipush 9, 2) := by decide +kernel
theorem dX7_init_51 : decode cX7_init 51 = .ok (.bipush 100, 2) := by decide +kernel
theorem dX7_init_53 : decode cX7_init 53 = .ok (.iastore, 1) := by decide +kernel
theorem dX7_init_54 : decode cX7_init 54 = .ok (.putfield 7, 3) := by decide +kernel
theorem dX7_init_57 : decode cX7_init 57 = .ok (.aload_n 0, 1) := by decide +kernel
theorem dX7_init_58 : decode cX7_init 58 = .ok (.sipush 216, 3) := by decide +kernel
theorem dX7_init_61 : decode cX7_init 61 = .ok (.newarray .int, 2) := by decide +kernel
theorem dX7_init_63 : decode cX7_init 63 = .ok (.putfield 13, 3) := by decide +kernel
theorem dX7_init_66 : decode cX7_init 66 = .ok (.aload_n 0, 1) := by decide +kernel
theorem dX7_init_67 : decode cX7_init 67 = .ok (.sipush 300, 3) := by decide +kernel
theorem dX7_init_70 : decode cX7_init 70 = .ok (.newarray .int, 2) := by decide +kernel
theorem dX7_init_72 : decode cX7_init 72 = .ok (.putfield 16, 3) := by decide +kernel
theorem dX7_init_75 : decode cX7_init 75 = .ok (.aload_n 0, 1) := by decide +kernel
theorem dX7_init_76 : decode cX7_init 76 = .ok (.bipush 60, 2) := by decide +kernel
theorem dX7_init_78 : decode cX7_init 78 = .ok (.newarray .int, 2) := by decide +kernel
theorem dX7_init_80 : decode cX7_init 80 = .ok (.putfield 19, 3) := by decide +kernel
theorem dX7_init_83 : decode cX7_init 83 = .ok (.aload_n 0, 1) := by decide +kernel
theorem dX7_init_84 : decode cX7_init 84 = .ok (.bipush 50, 2) := by decide +kernel
theorem dX7_init_86 : decode cX7_init 86 = .ok (.newarray .int, 2) := by decide +kernel
theorem dX7_init_88 : decode cX7_init 88 = .ok (.putfield 22, 3) := by decide +kernel
theorem dX7_init_91 : decode cX7_init 91 = .ok (.aload_n 0, 1) := by decide +kernel
theorem dX7_init_92 : decode cX7_init 92 = .ok (.bipush 70, 2) := by decide +kernel
theorem dX7_init_94 : decode cX7_init 94 = .ok (.newarray .int, 2) := by decide +kernel
theorem dX7_init_96 : decode cX7_init 96 = .ok (.putfield 25, 3) := by decide +kernel
theorem dX7_init_99 : decode cX7_init 99 = .ok (.aload_n 0, 1) := by decide +kernel
theorem dX7_init_100 : decode cX7_init 100 = .ok (.bipush 16, 2) := by decide +kernel
theorem dX7_init_102 : decode cX7_init 102 = .ok (.newarray .int, 2) := by decide +kernel
theorem dX7_init_104 : decode cX7_init 104 = .ok (.putfield 28, 3) := by decide +kernel
theorem dX7_init_107 : decode cX7_init 107 = .ok (.aload_n 0, 1) := by decide +kernel
theorem dX7_init_108 : decode cX7_init 108 = .ok (.bipush 68, 2) := by decide +kernel
theorem dX7_init_110 : decode cX7_init 110 = .ok (.newarray .int, 2) := by decide +kernel
theorem dX7_init_112 : decode cX7_init 112 = .ok (.putfield 31, 3) := by decide +kernel
theorem dX7_init_115 : decode cX7_init 115 = .ok (.aload_n 0, 1) := by decide +kernel
theorem dX7_init_116 : decode cX7_init 116 = .ok (.sipush 240, 3) := by decide +kernel
theorem dX7_init_119 : decode cX7_init 119 = .ok (.newarray .int, 2) := by decide +kernel
theorem dX7_init_121 : decode cX7_init 121 = .ok (.putfield 34, 3) := by decide +kernel
theorem dX7_init_124 : decode cX7_init 124 = .ok (.aload_n 0, 1) := by decide +kernel
theorem dX7_init_125 : decode cX7_init 125 = .ok (.sipush 300, 3) := by decide +kernel
theorem dX7_init_128 : decode cX7_init 128 = .ok (.newarray .int, 2) := by decide +kernel
theorem dX7_init_130 : decode cX7_init 130 = .ok (.putfield 37, 3) := by decide +kernel
theorem dX7_init_133 : decode cX7_init 133 = .ok (.aload_n 0, 1) := by decide +kernel
theorem dX7_init_134 : decode cX7_init 134 = .ok (.sipush 300, 3) := by decide +kernel
theorem dX7_init_137 : decode cX7_init 137 = .ok (.newarray .int, 2) := by decide +kernel
theorem dX7_init_139 : decode cX7_init 139 = .ok (.putfield 40, 3) := by decide +kernel
theorem dX7_init_142 : decode cX7_init 142 = .ok (.aload_n 0, 1) := by decide +kernel
theorem dX7_init_143 : decode cX7_init 143 = .ok (.sipush 300, 3) := by decide +kernel
theorem dX7_init_146 : decode cX7_init 146 = .ok (.newarray .int, 2) := by decide +kernel
theorem dX7_init_148 : decode cX7_init 148 = .ok (.putfield 43, 3) := by decide +kernel
theorem dX7_init_151 : decode cX7_init 151 = .ok (.aload_n 0, 1) := by decide +kernel
theorem dX7_init_152 : decode cX7_init 152 = .ok (.sipush 300, 3) := by decide +kernel
theorem dX7_init_155 : decode cX7_init 155 = .ok (.newarray .int, 2) := by decide +kernel
theorem dX7_init_157 : decode cX7_init 157 = .ok (.putfield 46, 3) := by decide +kernel
theorem dX7_init_160 : decode cX7_init 160 = .ok (.aload_n 0, 1) := by decide +kernel
theorem dX7_init_161 : decode cX7_init 161 = .ok (.bipush 32, 2) := by decide +kernel
theorem dX7_init_163 : decode cX7_init 163 = .ok (.newarray .int, 2) := by decide +kernel
theorem dX7_init_165 : decode cX7_init 165 = .ok (.putfield 49, 3) := by decide +kernel
theorem dX7_init_168 : decode cX7_init 168 = .ok (.aload_n 0, 1) := by decide +kernel
theorem dX7_init_169 : decode cX7_init 169 = .ok (.bipush 32, 2) := by decide +kernel
theorem dX7_init_171 : decode cX7_init 171 = .ok (.newarray .int, 2) := by decide +kernel
theorem dX7_init_173 : decode cX7_init 173 = .ok (.putfield 52, 3) := by decide +kernel
theorem dX7_init_176 : decode cX7_init 176 = .ok (.aload_n 0, 1) := by decide +kernel
theorem dX7_init_177 : decode cX7_init 177 = .ok (.sipush 1024, 3) := by decide +kernel
theorem dX7_init_180 : decode cX7_init 180 = .ok (.newarray .int, 2) := by decide +kernel
theorem dX7_init_182 : decode cX7_init 182 = .ok (.putfield 55, 3) := by decide +kernel
theorem dX7_init_185 : decode cX7_init 185 = .ok (.aload_n 0, 1) := by decide +kernel
theorem dX7_init_186 : decode cX7_init 186 = .ok (.bipush 120, 2) := by decide +kernel
theorem dX7_init_188 : decode cX7_init 188 = .ok (.newarray .int, 2) := by decide +kernel
theorem dX7_init_190 : decode cX7_init 190 = .ok (.putfield 58, 3) := by decide +kernel
theorem dX7_init_193 : decode cX7_init 193 = .ok (.aload_n 0, 1) := by decide +kernel
theorem dX7_init_194 : decode cX7_init 194 = .ok (.sipush 1030, 3) := by decide +kernel
theorem dX7_init_197 : decode cX7_init 197 = .ok (.newarray .int, 2) := by decide +kernel
theorem dX7_init_199 : decode cX7_init 199 = .ok (.putfield 61, 3) := by decide +kernel
theorem dX7_init_202 : decode cX7_init 202 = .ok (.return_, 1) := by decide +kernel
theorem dX7_in_0 : decode cX7_in 0 = .ok (.iload_n 0, 1) := by decide +kernel
theorem dX7_in_1 : decode cX7_in 1 = .ok (.iload_n 1, 1) := by decide +kernel
theorem dX7_in_2 : decode cX7_in 2 = .ok (.if_icmp .lt 12, 3) := by decide +kernel
theorem dX7_in_5 : decode cX7_in 5 = .ok (.iload_n 0, 1) := by decide +kernel
theorem dX7_in_6 : decode cX7_in 6 = .ok (.iload_n 2, 1) := by decide +kernel
theorem dX7_in_7 : decode cX7_in 7 = .ok (.if_icmp .gt 7, 3) := by decide +kernel
theorem dX7_in_10 : decode cX7_in 10 = .ok (.iconst 1, 1) := by decide +kernel
theorem dX7_in_11 : decode cX7_in 11 = .ok (.goto 4, 3) := by decide +kernel
theorem dX7_in_14 : decode cX7_in 14 = .ok (.iconst 0, 1) := by decide +kernel
theorem dX7_in_15 : decode cX7_in 15 = .ok (.ireturn, 1) := by decide +kernel
set_option maxRecDepth 20000 in
theorem ggX7_isBox_X7_in : GoodIn wsX7_isBox wsX7_in := goodIn_r _ [5] (by decide +kernel) (by decide +kernel)
set_option maxRecDepth 20000 in
theorem gX7_isBox_X7_in : GoodIn wsX7_isBox (va_wsS RX7 64 yX7_in wsX7_in) := goodIn_app (goodIn_of _ (by decide +kernel)) ggX7_isBox_X7_in
theorem dX7_isBox_0 : decode cX7_isBox 0 = .ok (.iload_n 1, 1) := by decide +kernel
theorem dX7_isBox_1 : decode cX7_isBox 1 = .ok (.iconst 0, 1) := by decide +kernel
theorem dX7_isBox_2 : decode cX7_isBox 2 = .ok (.aload_n 0, 1) := by decide +kernel
theorem dX7_isBox_3 : decode cX7_isBox 3 = .ok (.getfield 7, 3) := by decide +kernel
theorem dX7_isBox_6 : decode cX7_isBox 6 = .ok (.iconst 1, 1) := by decide +kernel
theorem dX7_isBox_7 : decode cX7_isBox 7 = .ok (.iaload, 1) := by decide +kernel
theorem dX7_isBox_8 : decode cX7_isBox 8 = .ok (.iconst 1, 1) := by decide +kernel
theorem dX7_isBox_9 : decode cX7_isBox 9 = .ok (.isub, 1) := by decide +kernel
theorem dX7_isBox_10 : decode cX7_isBox 10 = .ok (.invokestatic 64, 3) := by decide +kernel
theorem dX7_isBox_13 : decode cX7_isBox 13 = .ok (.ireturn, 1) := by decide +kernel
set_option maxRecDepth 20000 in
theorem ggX7_isPast_X7_in : GoodIn wsX7_isPast wsX7_in := goodIn_r _ [5] (by decide +kernel) (by decide +kernel)
set_option maxRecDepth 20000 in
theorem gX7_isPast_X7_in : GoodIn wsX7_isPast (va_wsS RX7 64 yX7_in wsX7_in) := goodIn_app (goodIn_of _ (by decide +kernel)) ggX7_isPast_X7_in
theorem dX7_isPast_0 : decode cX7_isPast 0 = .ok (.iload_n 1, 1) := by decide +kernel
theorem dX7_isPast_1 : decode cX7_isPast 1 = .ok (.iconst 0, 1) := by decide +kernel
theorem dX7_isPast_2 : decode cX7_isPast 2 = .ok (.aload_n 0, 1) := by decide +kernel
theorem dX7_isPast_3 : decode cX7_isPast 3 = .ok (.getfield 7, 3) := by decide +kernel
theorem dX7_isPast_6 : decode cX7_isPast 6 = .ok (.iconst 0, 1) := by decide +kernel
theorem dX7_isPast_7 : decode cX7_isPast 7 = .ok (.iaload, 1) := by decide +kernel
theorem dX7_isPast_8 : decode cX7_isPast 8 = .ok (.invokestatic 64, 3) := by decide +kernel
theorem dX7_isPast_11 : decode cX7_isPast 11 = .ok (.ireturn, 1) := by decide +kernel
set_option maxRecDepth 20000 in
theorem ggX7_isDay_X7_in : GoodIn wsX7_isDay wsX7_in := goodIn_r _ [4] (by decide +kernel) (by decide +kernel)
set_option maxRecDepth 20000 in
theorem gX7_isDay_X7_in : GoodIn wsX7_isDay (va_wsS RX7 64 yX7_in wsX7_in) := goodIn_app (goodIn_of _ (by decide +kernel)) ggX7_isDay_X7_in
theorem dX7_isDay_0 : decode cX7_isDay 0 = .ok (.iload_n 0, 1) := by decide +kernel
theorem dX7_isDay_1 : decode cX7_isDay 1 = .ok (.iconst 0, 1) := by decide +kernel
theorem dX7_isDay_2 : decode cX7_isDay 2 = .ok (.sipush 200, 3) := by decide +kernel
theorem dX7_isDay_5 : decode cX7_isDay 5 = .ok (.invokestatic 64, 3) := by decide +kernel
theorem dX7_isDay_8 : decode cX7_isDay 8 = .ok (.ireturn, 1) := by decide +kernel
set_option maxRecDepth 20000 in
theorem ggX7_isPlace_X7_in : GoodIn wsX7_isPlace wsX7_in := goodIn_r _ [4] (by decide +kernel) (by decide +kernel)
set_option maxRecDepth 20000 in
theorem gX7_isPlace_X7_in : GoodIn wsX7_isPlace (va_wsS RX7 64 yX7_in wsX7_in) := goodIn_app (goodIn_of _ (by decide +kernel)) ggX7_isPlace_X7_in
theorem dX7_isPlace_0 : decode cX7_isPlace 0 = .ok (.iload_n 0, 1) := by decide +kernel
theorem dX7_isPlace_1 : decode cX7_isPlace 1 = .ok (.iconst 0, 1) := by decide +kernel
theorem dX7_isPlace_2 : decode cX7_isPlace 2 = .ok (.iconst 5, 1) := by decide +kernel
theorem dX7_isPlace_3 : decode cX7_isPlace 3 = .ok (.invokestatic 64, 3) := by decide +kernel
theorem dX7_isPlace_6 : decode cX7_isPlace 6 = .ok (.ireturn, 1) := by decide +kernel
set_option maxRecDepth 20000 in
theorem ggX7_isLine_X7_in : GoodIn wsX7_isLine wsX7_in := goodIn_r _ [4] (by decide +kernel) (by decide +kernel)
set_option maxRecDepth 20000 in
theorem gX7_isLine_X7_in : GoodIn wsX7_isLine (va_wsS RX7 64 yX7_in wsX7_in) := goodIn_app (goodIn_of _ (by decide +kernel)) ggX7_isLine_X7_in
theorem dX7_isLine_0 : decode cX7_isLine 0 = .ok (.iload_n 0, 1) := by decide +kernel
theorem dX7_isLine_1 : decode cX7_isLine 1 = .ok (.iconst 0, 1) := by decide +kernel
theorem dX7_isLine_2 : decode cX7_isLine 2 = .ok (.iconst 3, 1) := by decide +kernel
theorem dX7_isLine_3 : decode cX7_isLine 3 = .ok (.invokestatic 64, 3) := by decide +kernel
theorem dX7_isLine_6 : decode cX7_isLine 6 = .ok (.ireturn, 1) := by decide +kernel
set_option maxRecDepth 20000 in
theorem ggX7_days_X7_in : GoodIn wsX7_days wsX7_in := goodIn_r _ [5] (by decide +kernel) (by decide +kernel)
set_option maxRecDepth 20000 in
theorem gX7_days_X7_in : GoodIn wsX7_days (va_wsS RX7 64 yX7_in wsX7_in) := goodIn_app (goodIn_of _ (by decide +kernel)) ggX7_days_X7_in
theorem dX7_days_0 : decode cX7_days 0 = .ok (.iload_n 1, 1) := by decide +kernel
theorem dX7_days_1 : decode cX7_days 1 = .ok (.iconst 1, 1) := by decide +kernel
theorem dX7_days_2 : decode cX7_days 2 = .ok (.bipush 30, 2) := by decide +kernel
theorem dX7_days_4 : decode cX7_days 4 = .ok (.invokestatic 64, 3) := by decide +kernel
theorem dX7_days_7 : decode cX7_days 7 = .ok (.ifCond .ne 5, 3) := by decide +kernel
theorem dX7_days_10 : decode cX7_days 10 = .ok (.iconst (-1), 1) := by decide +kernel
theorem dX7_days_11 : decode cX7_days 11 = .ok (.ireturn, 1) := by decide +kernel
theorem dX7_days_12 : decode cX7_days 12 = .ok (.aload_n 0, 1) := by decide +kernel
theorem dX7_days_13 : decode cX7_days 13 = .ok (.getfield 7, 3) := by decide +kernel
theorem dX7_days_16 : decode cX7_days 16 = .ok (.iconst 0, 1) := by decide +kernel
theorem dX7_days_17 : decode cX7_days 17 = .ok (.iaload, 1) := by decide +kernel
theorem dX7_days_18 : decode cX7_days 18 = .ok (.iload_n 1, 1) := by decide +kernel
theorem dX7_days_19 : decode cX7_days 19 = .ok (.iadd, 1) := by decide +kernel
theorem dX7_days_20 : decode cX7_days 20 = .ok (.sipush 200, 3) := by decide +kernel
theorem dX7_days_23 : decode cX7_days 23 = .ok (.if_icmp .le 6, 3) := by decide +kernel
theorem dX7_days_26 : decode cX7_days 26 = .ok (.bipush (-4), 2) := by decide +kernel
theorem dX7_days_28 : decode cX7_days 28 = .ok (.ireturn, 1) := by decide +kernel
theorem dX7_days_29 : decode cX7_days 29 = .ok (.aload_n 0, 1) := by decide +kernel
theorem dX7_days_30 : decode cX7_days 30 = .ok (.getfield 7, 3) := by decide +kernel
theorem dX7_days_33 : decode cX7_days 33 = .ok (.iconst 0, 1) := by decide +kernel
theorem dX7_days_34 : decode cX7_days 34 = .ok (.dup2, 1) := by decide +kernel
theorem dX7_days_35 : decode cX7_days 35 = .ok (.iaload, 1) := by decide +kernel
theorem dX7_days_36 : decode cX7_days 36 = .ok (.iload_n 1, 1) := by decide +kernel
theorem dX7_days_37 : decode cX7_days 37 = .ok (.iadd, 1) := by decide +kernel
theorem dX7_days_38 : decode cX7_days 38 = .ok (.iastore, 1) := by decide +kernel
theorem dX7_days_39 : decode cX7_days 39 = .ok (.aload_n 0, 1) := by decide +kernel
theorem dX7_days_40 : decode cX7_days 40 = .ok (.getfield 7, 3) := by decide +kernel
theorem dX7_days_43 : decode cX7_days 43 = .ok (.iconst 0, 1) := by decide +kernel
theorem dX7_days_44 : decode cX7_days 44 = .ok (.iaload, 1) := by decide +kernel
theorem dX7_days_45 : decode cX7_days 45 = .ok (.ireturn, 1) := by decide +kernel
theorem dX7_get_0 : decode cX7_get 0 = .ok (.aload_n 0, 1) := by decide +kernel
theorem dX7_get_1 : decode cX7_get 1 = .ok (.getfield 13, 3) := by decide +kernel
theorem dX7_get_4 : decode cX7_get 4 = .ok (.bipush 9, 2) := by decide +kernel
theorem dX7_get_6 : decode cX7_get 6 = .ok (.iload_n 1, 1) := by decide +kernel
theorem dX7_get_7 : decode cX7_get 7 = .ok (.imul, 1) := by decide +kernel
theorem dX7_get_8 : decode cX7_get 8 = .ok (.iload_n 2, 1) := by decide +kernel
theorem dX7_get_9 : decode cX7_get 9 = .ok (.iadd, 1) := by decide +kernel
theorem dX7_get_10 : decode cX7_get 10 = .ok (.iaload, 1) := by decide +kernel
theorem dX7_get_11 : decode cX7_get 11 = .ok (.ireturn, 1) := by decide +kernel
set_option maxRecDepth 20000 in
theorem ggX7_boxOf_X7_get : GoodIn wsX7_boxOf wsX7_get := goodIn_r _ [6, 7, 8, 9, 10, 11, 12, 13, 14, 15, 16, 17, 18, 19, 20, 21, 22, 23, 24, 25, 26, 27, 28, 29, 30, 31, 32, 33, 34, 35] (by decide +kernel) (by decide +kernel)
set_option maxRecDepth 20000 in
theorem gX7_boxOf_X7_get : GoodIn wsX7_boxOf (wsV RX7 68 RX7 yX7_get wsX7_get) := goodIn_app (goodIn_of _ (by decide +kernel)) ggX7_boxOf_X7_get
theorem dX7_boxOf_0 : decode cX7_boxOf 0 = .ok (.iconst 0, 1) := by decide +kernel
theorem dX7_boxOf_1 : decode cX7_boxOf 1 = .ok (.istore_n 2, 1) := by decide +kernel
theorem dX7_boxOf_2 : decode cX7_boxOf 2 = .ok (.iload_n 2, 1) := by decide +kernel
theorem dX7_boxOf_3 : decode cX7_boxOf 3 = .ok (.aload_n 0, 1) := by decide +kernel
theorem dX7_boxOf_4 : decode cX7_boxOf 4 = .ok (.getfield 7, 3) := by decide +kernel
theorem dX7_boxOf_7 : decode cX7_boxOf 7 = .ok (.iconst 1, 1) := by decide +kernel
theorem dX7_boxOf_8 : decode cX7_boxOf 8 = .ok (.iaload, 1) := by decide +kernel
theorem dX7_boxOf_9 : decode cX7_boxOf 9 = .ok (.if_icmp .ge 21, 3) := by decide +kernel
theorem dX7_boxOf_12 : decode cX7_boxOf 12 = .ok (.aload_n 0, 1) := by decide +kernel
theorem dX7_boxOf_13 : decode cX7_boxOf 13 = .ok (.iload_n 2, 1) := by decide +kernel
theorem dX7_boxOf_14 : decode cX7_boxOf 14 = .ok (.iconst 0, 1) := by decide +kernel
theorem dX7_boxOf_15 : decode cX7_boxOf 15 = .ok (.invokevirtual 68, 3) := by decide +kernel
theorem dX7_boxOf_18 : decode cX7_boxOf 18 = .ok (.iload_n 1, 1) := by decide +kernel
theorem dX7_boxOf_19 : decode cX7_boxOf 19 = .ok (.if_icmp .ne 5, 3) := by decide +kernel
theorem dX7_boxOf_22 : decode cX7_boxOf 22 = .ok (.iload_n 2, 1) := by decide +kernel
theorem dX7_boxOf_23 : decode cX7_boxOf 23 = .ok (.ireturn, 1) := by decide +kernel
theorem dX7_boxOf_24 : decode cX7_boxOf 24 = .ok (.iinc 2 1, 3) := by decide +kernel
theorem dX7_boxOf_27 : decode cX7_boxOf 27 = .ok (.goto (-25), 3) := by decide +kernel
theorem dX7_boxOf_30 : decode cX7_boxOf 30 = .ok (.iconst (-1), 1) := by decide +kernel
theorem dX7_boxOf_31 : decode cX7_boxOf 31 = .ok (.ireturn, 1) := by decide +kernel
set_option maxRecDepth 20000 in
theorem ggX7_box_X7_in : GoodIn wsX7_box wsX7_in := goodIn_r _ [7] (by decide +kernel) (by decide +kernel)
set_option maxRecDepth 20000 in
theorem gX7_box_X7_in : GoodIn wsX7_box (va_wsS RX7 64 yX7_in wsX7_in) := goodIn_app (goodIn_of _ (by decide +kernel)) ggX7_box_X7_in
set_option maxRecDepth 20000 in
theorem ggX7_box_X7_isLine : GoodIn wsX7_box wsX7_isLine := goodIn_r _ [10, 4, 5, 6, 7] (by decide +kernel) (by decide +kernel)
set_option maxRecDepth 20000 in
theorem gX7_box_X7_isLine : GoodIn wsX7_box (va_wsS RX7 72 yX7_isLine wsX7_isLine) := goodIn_app (goodIn_of _ (by decide +kernel)) ggX7_box_X7_isLine
set_option maxRecDepth 20000 in
theorem ggX7_box_X7_boxOf : GoodIn wsX7_box wsX7_boxOf := goodIn_r _ [14, 2, 15, 16, 17, 6, 18, 3, 19, 20, 21, 22, 23, 24, 25, 26, 27, 28, 29, 30, 31, 32, 33, 34, 35, 36, 37, 38, 39, 40, 41, 42, 43, 44, 45, 46] (by decide +kernel) (by decide +kernel)
set_option maxRecDepth 20000 in
theorem gX7_box_X7_boxOf : GoodIn wsX7_box (wsV RX7 76 RX7 yX7_boxOf wsX7_boxOf) := goodIn_app (goodIn_of _ (by decide +kernel)) ggX7_box_X7_boxOf
theorem dX7_box_0 : decode cX7_box 0 = .ok (.iload_n 1, 1) := by decide +kernel
theorem dX7_box_1 : decode cX7_box 1 = .ok (.iconst 0, 1) := by decide +kernel
theorem dX7_box_2 : decode cX7_box 2 = .ok (.sipush 9999, 3) := by decide +kernel
theorem dX7_box_5 : decode cX7_box 5 = .ok (.invokestatic 64, 3) := by decide +kernel
theorem dX7_box_8 : decode cX7_box 8 = .ok (.ifCond .eq 29, 3) := by decide +kernel
theorem dX7_box_11 : decode cX7_box 11 = .ok (.iload_n 2, 1) := by decide +kernel
theorem dX7_box_12 : decode cX7_box 12 = .ok (.iconst 0, 1) := by decide +kernel
theorem dX7_box_13 : decode cX7_box 13 = .ok (.iconst 2, 1) := by decide +kernel
theorem dX7_box_14 : decode cX7_box 14 = .ok (.invokestatic 64, 3) := by decide +kernel
theorem dX7_box_17 : decode cX7_box 17 = .ok (.ifCond .eq 20, 3) := by decide +kernel
theorem dX7_box_20 : decode cX7_box 20 = .ok (.iload_n 3, 1) := by decide +kernel
theorem dX7_box_21 : decode cX7_box 21 = .ok (.invokestatic 72, 3) := by decide +kernel
theorem dX7_box_24 : decode cX7_box 24 = .ok (.ifCond .eq 13, 3) := by decide +kernel
theorem dX7_box_27 : decode cX7_box 27 = .ok (.iload 4, 2) := by decide +kernel
theorem dX7_box_29 : decode cX7_box 29 = .ok (.iconst (-1), 1) := by decide +kernel
theorem dX7_box_30 : decode cX7_box 30 = .ok (.iconst 2, 1) := by decide +kernel
theorem dX7_box_31 : decode cX7_box 31 = .ok (.invokestatic 64, 3) := by decide +kernel
theorem dX7_box_34 : decode cX7_box 34 = .ok (.ifCond .ne 5, 3) := by decide +kernel
theorem dX7_box_37 : decode cX7_box 37 = .ok (.iconst (-1), 1) := by decide +kernel
theorem dX7_box_38 : decode cX7_box 38 = .ok (.ireturn, 1) := by decide +kernel
theorem dX7_box_39 : decode cX7_box 39 = .ok (.aload_n 0, 1) := by decide +kernel
theorem dX7_box_40 : decode cX7_box 40 = .ok (.iload_n 1, 1) := by decide +kernel
theorem dX7_box_41 : decode cX7_box 41 = .ok (.invokevirtual 76, 3) := by decide +kernel
theorem dX7_box_44 : decode cX7_box 44 = .ok (.ifCond .ge 24, 3) := by decide +kernel
theorem dX7_box_47 : decode cX7_box 47 = .ok (.iload 4, 2) := by decide +kernel
theorem dX7_box_49 : decode cX7_box 49 = .ok (.ifCond .lt 22, 3) := by decide +kernel
theorem dX7_box_52 : decode cX7_box 52 = .ok (.aload_n 0, 1) := by decide +kernel
theorem dX7_box_53 : decode cX7_box 53 = .ok (.getfield 31, 3) := by decide +kernel
theorem dX7_box_56 : decode cX7_box 56 = .ok (.bipush 17, 2) := by decide +kernel
theorem dX7_box_58 : decode cX7_box 58 = .ok (.iload 4, 2) := by decide +kernel
theorem dX7_box_60 : decode cX7_box 60 = .ok (.imul, 1) := by decide +kernel
theorem dX7_box_61 : decode cX7_box 61 = .ok (.bipush 16, 2) := by decide +kernel
theorem dX7_box_63 : decode cX7_box 63 = .ok (.iadd, 1) := by decide +kernel
theorem dX7_box_64 : decode cX7_box 64 = .ok (.iaload, 1) := by decide +kernel
theorem dX7_box_65 : decode cX7_box 65 = .ok (.ifCond .ne 6, 3) := by decide +kernel
theorem dX7_box_68 : decode cX7_box 68 = .ok (.bipush (-4), 2) := by decide +kernel
theorem dX7_box_70 : decode cX7_box 70 = .ok (.ireturn, 1) := by decide +kernel
theorem dX7_box_71 : decode cX7_box 71 = .ok (.aload_n 0, 1) := by decide +kernel
theorem dX7_box_72 : decode cX7_box 72 = .ok (.getfield 7, 3) := by decide +kernel
theorem dX7_box_75 : decode cX7_box 75 = .ok (.iconst 1, 1) := by decide +kernel
theorem dX7_box_76 : decode cX7_box 76 = .ok (.iaload, 1) := by decide +kernel
theorem dX7_box_77 : decode cX7_box 77 = .ok (.bipush 24, 2) := by decide +kernel
theorem dX7_box_79 : decode cX7_box 79 = .ok (.if_icmp .ne 6, 3) := by decide +kernel
theorem dX7_box_82 : decode cX7_box 82 = .ok (.bipush (-2), 2) := by decide +kernel
theorem dX7_box_84 : decode cX7_box 84 = .ok (.ireturn, 1) := by decide +kernel
theorem dX7_box_85 : decode cX7_box 85 = .ok (.bipush 9, 2) := by decide +kernel
theorem dX7_box_87 : decode cX7_box 87 = .ok (.aload_n 0, 1) := by decide +kernel
theorem dX7_box_88 : decode cX7_box 88 = .ok (.getfield 7, 3) := by decide +kernel
theorem dX7_box_91 : decode cX7_box 91 = .ok (.iconst 1, 1) := by decide +kernel
theorem dX7_box_92 : decode cX7_box 92 = .ok (.iaload, 1) := by decide +kernel
theorem dX7_box_93 : decode cX7_box 93 = .ok (.imul, 1) := by decide +kernel
theorem dX7_box_94 : decode cX7_box 94 = .ok (.istore 5, 2) := by decide +kernel
theorem dX7_box_96 : decode cX7_box 96 = .ok (.aload_n 0, 1) := by decide +kernel
theorem dX7_box_97 : decode cX7_box 97 = .ok (.getfield 13, 3) := by decide +kernel
theorem dX7_box_100 : decode cX7_box 100 = .ok (.iload 5, 2) := by decide +kernel
theorem dX7_box_102 : decode cX7_box 102 = .ok (.iload_n 1, 1) := by decide +kernel
theorem dX7_box_103 : decode cX7_box 103 = .ok (.iastore, 1) := by decide +kernel
theorem dX7_box_104 : decode cX7_box 104 = .ok (.aload_n 0, 1) := by decide +kernel
theorem dX7_box_105 : decode cX7_box 105 = .ok (.getfield 13, 3) := by decide +kernel
theorem dX7_box_108 : decode cX7_box 108 = .ok (.iload 5, 2) := by decide +kernel
theorem dX7_box_110 : decode cX7_box 110 = .ok (.iconst 1, 1) := by decide +kernel
theorem dX7_box_111 : decode cX7_box 111 = .ok (.iadd, 1) := by decide +kernel
theorem dX7_box_112 : decode cX7_box 112 = .ok (.iload_n 2, 1) := by decide +kernel
theorem dX7_box_113 : decode cX7_box 113 = .ok (.iastore, 1) := by decide +kernel
theorem dX7_box_114 : decode cX7_box 114 = .ok (.aload_n 0, 1) := by decide +kernel
theorem dX7_box_115 : decode cX7_box 115 = .ok (.getfield 13, 3) := by decide +kernel
theorem dX7_box_118 : decode cX7_box 118 = .ok (.iload 5, 2) := by decide +kernel
theorem dX7_box_120 : decode cX7_box 120 = .ok (.iconst 2, 1) := by decide +kernel
theorem dX7_box_121 : decode cX7_box 121 = .ok (.iadd, 1) := by decide +kernel
theorem dX7_box_122 : decode cX7_box 122 = .ok (.iload_n 3, 1) := by decide +kernel
theorem dX7_box_123 : decode cX7_box 123 = .ok (.iastore, 1) := by decide +kernel
theorem dX7_box_124 : decode cX7_box 124 = .ok (.aload_n 0, 1) := by decide +kernel
theorem dX7_box_125 : decode cX7_box 125 = .ok (.getfield 13, 3) := by decide +kernel
theorem dX7_box_128 : decode cX7_box 128 = .ok (.iload 5, 2) := by decide +kernel
theorem dX7_box_130 : decode cX7_box 130 = .ok (.iconst 3, 1) := by decide +kernel
theorem dX7_box_131 : decode cX7_box 131 = .ok (.iadd, 1) := by decide +kernel
theorem dX7_box_132 : decode cX7_box 132 = .ok (.iload 4, 2) := by decide +kernel
theorem dX7_box_134 : decode cX7_box 134 = .ok (.iastore, 1) := by decide +kernel
theorem dX7_box_135 : decode cX7_box 135 = .ok (.aload_n 0, 1) := by decide +kernel
theorem dX7_box_136 : decode cX7_box 136 = .ok (.getfield 13, 3) := by decide +kernel
theorem dX7_box_139 : decode cX7_box 139 = .ok (.iload 5, 2) := by decide +kernel
theorem dX7_box_141 : decode cX7_box 141 = .ok (.iconst 4, 1) := by decide +kernel
theorem dX7_box_142 : decode cX7_box 142 = .ok (.iadd, 1) := by decide +kernel
theorem dX7_box_143 : decode cX7_box 143 = .ok (.aload_n 0, 1) := by decide +kernel
theorem dX7_box_144 : decode cX7_box 144 = .ok (.getfield 7, 3) := by decide +kernel
theorem dX7_box_147 : decode cX7_box 147 = .ok (.iconst 0, 1) := by decide +kernel
theorem dX7_box_148 : decode cX7_box 148 = .ok (.iaload, 1) := by decide +kernel
theorem dX7_box_149 : decode cX7_box 149 = .ok (.iastore, 1) := by decide +kernel
theorem dX7_box_150 : decode cX7_box 150 = .ok (.aload_n 0, 1) := by decide +kernel
theorem dX7_box_151 : decode cX7_box 151 = .ok (.getfield 13, 3) := by decide +kernel
theorem dX7_box_154 : decode cX7_box 154 = .ok (.iload 5, 2) := by decide +kernel
theorem dX7_box_156 : decode cX7_box 156 = .ok (.iconst 5, 1) := by decide +kernel
theorem dX7_box_157 : decode cX7_box 157 = .ok (.iadd, 1) := by decide +kernel
theorem dX7_box_158 : decode cX7_box 158 = .ok (.iconst 0, 1) := by decide +kernel
theorem dX7_box_159 : decode cX7_box 159 = .ok (.iastore, 1) := by decide +kernel
theorem dX7_box_160 : decode cX7_box 160 = .ok (.aload_n 0, 1) := by decide +kernel
theorem dX7_box_161 : decode cX7_box 161 = .ok (.getfield 13, 3) := by decide +kernel
theorem dX7_box_164 : decode cX7_box 164 = .ok (.iload 5, 2) := by decide +kernel
theorem dX7_box_166 : decode cX7_box 166 = .ok (.bipush 6, 2) := by decide +kernel
theorem dX7_box_168 : decode cX7_box 168 = .ok (.iadd, 1) := by decide +kernel
theorem dX7_box_169 : decode cX7_box 169 = .ok (.iconst (-1), 1) := by decide +kernel
theorem dX7_box_170 : decode cX7_box 170 = .ok (.iastore, 1) := by decide +kernel
theorem dX7_box_171 : decode cX7_box 171 = .ok (.aload_n 0, 1) := by decide +kernel
theorem dX7_box_172 : decode cX7_box 172 = .ok (.getfield 13, 3) := by decide +kernel
theorem dX7_box_175 : decode cX7_box 175 = .ok (.iload 5, 2) := by decide +kernel
theorem dX7_box_177 : decode cX7_box 177 = .ok (.bipush 7, 2) := by decide +kernel
theorem dX7_box_179 : decode cX7_box 179 = .ok (.iadd, 1) := by decide +kernel
theorem dX7_box_180 : decode cX7_box 180 = .ok (.iconst (-1), 1) := by decide +kernel
theorem dX7_box_181 : decode cX7_box 181 = .ok (.iastore, 1) := by decide +kernel
theorem dX7_box_182 : decode cX7_box 182 = .ok (.aload_n 0, 1) := by decide +kernel
theorem dX7_box_183 : decode cX7_box 183 = .ok (.getfield 13, 3) := by decide +kernel
theorem dX7_box_186 : decode cX7_box 186 = .ok (.iload 5, 2) := by decide +kernel
theorem dX7_box_188 : decode cX7_box 188 = .ok (.bipush 8, 2) := by decide +kernel
theorem dX7_box_190 : decode cX7_box 190 = .ok (.iadd, 1) := by decide +kernel
theorem dX7_box_191 : decode cX7_box 191 = .ok (.iconst (-1), 1) := by decide +kernel
theorem dX7_box_192 : decode cX7_box 192 = .ok (.iastore, 1) := by decide +kernel
theorem dX7_box_193 : decode cX7_box 193 = .ok (.aload_n 0, 1) := by decide +kernel
theorem dX7_box_194 : decode cX7_box 194 = .ok (.getfield 7, 3) := by decide +kernel
theorem dX7_box_197 : decode cX7_box 197 = .ok (.iconst 1, 1) := by decide +kernel
theorem dX7_box_198 : decode cX7_box 198 = .ok (.dup2, 1) := by decide +kernel
theorem dX7_box_199 : decode cX7_box 199 = .ok (.iaload, 1) := by decide +kernel
theorem dX7_box_200 : decode cX7_box 200 = .ok (.iconst 1, 1) := by decide +kernel
theorem dX7_box_201 : decode cX7_box 201 = .ok (.iadd, 1) := by decide +kernel
theorem dX7_box_202 : decode cX7_box 202 = .ok (.iastore, 1) := by decide +kernel
theorem dX7_box_203 : decode cX7_box 203 = .ok (.aload_n 0, 1) := by decide +kernel
theorem dX7_box_204 : decode cX7_box 204 = .ok (.getfield 7, 3) := by decide +kernel
theorem dX7_box_207 : decode cX7_box 207 = .ok (.iconst 1, 1) := by decide +kernel
theorem dX7_box_208 : decode cX7_box 208 = .ok (.iaload, 1) := by decide +kernel
theorem dX7_box_209 : decode cX7_box 209 = .ok (.iconst 1, 1) := by decide +kernel
theorem dX7_box_210 : decode cX7_box 210 = .ok (.isub, 1) := by decide +kernel
theorem dX7_box_211 : decode cX7_box 211 = .ok (.ireturn, 1) := by decide +kernel
theorem dX7_checkOf_0 : decode cX7_checkOf 0 = .ok (.iload_n 0, 1) := by decide +kernel
theorem dX7_checkOf_1 : decode cX7_checkOf 1 = .ok (.sipush 1000, 3) := by decide +kernel
theorem dX7_checkOf_4 : decode cX7_checkOf 4 = .ok (.idiv, 1) := by decide +kernel
theorem dX7_checkOf_5 : decode cX7_checkOf 5 = .ok (.iconst 2, 1) := by decide +kernel
theorem dX7_checkOf_6 : decode cX7_checkOf 6 = .ok (.iload_n 0, 1) := by decide +kernel
theorem dX7_checkOf_7 : decode cX7_checkOf 7 = .ok (.bipush 100, 2) := by decide +kernel
theorem dX7_checkOf_9 : decode cX7_checkOf 9 = .ok (.idiv, 1) := by decide +kernel
theorem dX7_checkOf_10 : decode cX7_checkOf 10 = .ok (.bipush 10, 2) := by decide +kernel
theorem dX7_checkOf_12 : decode cX7_checkOf 12 = .ok (.irem, 1) := by decide +kernel
theorem dX7_checkOf_13 : decode cX7_checkOf 13 = .ok (.imul, 1) := by decide +kernel
theorem dX7_checkOf_14 : decode cX7_checkOf 14 = .ok (.iadd, 1) := by decide +kernel
theorem dX7_checkOf_15 : decode cX7_checkOf 15 = .ok (.iconst 4, 1) := by decide +kernel
theorem dX7_checkOf_16 : decode cX7_checkOf 16 = .ok (.iload_n 0, 1) := by decide +kernel
theorem dX7_checkOf_17 : decode cX7_checkOf 17 = .ok (.bipush 10, 2) := by decide +kernel
theorem dX7_checkOf_19 : decode cX7_checkOf 19 = .ok (.idiv, 1) := by decide +kernel
theorem dX7_checkOf_20 : decode cX7_checkOf 20 = .ok (.bipush 10, 2) := by decide +kernel
theorem dX7_checkOf_22 : decode cX7_checkOf 22 = .ok (.irem, 1) := by decide +kernel
theorem dX7_checkOf_23 : decode cX7_checkOf 23 = .ok (.imul, 1) := by decide +kernel
theorem dX7_checkOf_24 : decode cX7_checkOf 24 = .ok (.iadd, 1) := by decide +kernel
theorem dX7_checkOf_25 : decode cX7_checkOf 25 = .ok (.bipush 8, 2) := by decide +kernel
theorem dX7_checkOf_27 : decode cX7_checkOf 27 = .ok (.iload_n 0, 1) := by decide +kernel
theorem dX7_checkOf_28 : decode cX7_checkOf 28 = .ok (.bipush 10, 2) := by decide +kernel
theorem dX7_checkOf_30 : decode cX7_checkOf 30 = .ok (.irem, 1) := by decide +kernel
theorem dX7_checkOf_31 : decode cX7_checkOf 31 = .ok (.imul, 1) := by decide +kernel
theorem dX7_checkOf_32 : decode cX7_checkOf 32 = .ok (.iadd, 1) := by decide +kernel
theorem dX7_checkOf_33 : decode cX7_checkOf 33 = .ok (.istore_n 1, 1) := by decide +kernel
theorem dX7_checkOf_34 : decode cX7_checkOf 34 = .ok (.iload_n 1, 1) := by decide +kernel
theorem dX7_checkOf_35 : decode cX7_checkOf 35 = .ok (.bipush 11, 2) := by decide +kernel
theorem dX7_checkOf_37 : decode cX7_checkOf 37 = .ok (.irem, 1) := by decide +kernel
theorem dX7_checkOf_38 : decode cX7_checkOf 38 = .ok (.bipush 10, 2) := by decide +kernel
theorem dX7_checkOf_40 : decode cX7_checkOf 40 = .ok (.irem, 1) := by decide +kernel
theorem dX7_checkOf_41 : decode cX7_checkOf 41 = .ok (.ireturn, 1) := by decide +kernel
set_option maxRecDepth 20000 in
theorem ggX7_check_X7_in : GoodIn wsX7_check wsX7_in := goodIn_r _ [4] (by decide +kernel) (by decide +kernel)
set_option maxRecDepth 20000 in
theorem gX7_check_X7_in : GoodIn wsX7_check (va_wsS RX7 64 yX7_in wsX7_in) := goodIn_app (goodIn_of _ (by decide +kernel)) ggX7_check_X7_in
set_option maxRecDepth 20000 in
theorem ggX7_check_X7_checkOf : GoodIn wsX7_check wsX7_checkOf := goodIn_r _ [7] (by decide +kernel) (by decide +kernel)
set_option maxRecDepth 20000 in
theorem gX7_check_X7_checkOf : GoodIn wsX7_check (va_wsS RX7 80 yX7_checkOf wsX7_checkOf) := goodIn_app (goodIn_of _ (by decide +kernel)) ggX7_check_X7_checkOf
theorem dX7_check_0 : decode cX7_check 0 = .ok (.iload_n 1, 1) := by decide +kernel
theorem dX7_check_1 : decode cX7_check 1 = .ok (.iconst 0, 1) := by decide +kernel
theorem dX7_check_2 : decode cX7_check 2 = .ok (.sipush 9999, 3) := by decide +kernel
theorem dX7_check_5 : decode cX7_check 5 = .ok (.invokestatic 64, 3) := by decide +kernel
theorem dX7_check_8 : decode cX7_check 8 = .ok (.ifCond .eq 10, 3) := by decide +kernel
theorem dX7_check_11 : decode cX7_check 11 = .ok (.iload_n 1, 1) := by decide +kernel
theorem dX7_check_12 : decode cX7_check 12 = .ok (.invokestatic 80, 3) := by decide +kernel
theorem dX7_check_15 : decode cX7_check 15 = .ok (.goto 4, 3) := by decide +kernel
theorem dX7_check_18 : decode cX7_check 18 = .ok (.iconst (-1), 1) := by decide +kernel
theorem dX7_check_19 : decode cX7_check 19 = .ok (.ireturn, 1) := by decide +kernel
set_option maxRecDepth 20000 in
theorem ggX7_find_X7_in : GoodIn wsX7_find wsX7_in := goodIn_r _ [6] (by decide +kernel) (by decide +kernel)
set_option maxRecDepth 20000 in
theorem gX7_find_X7_in : GoodIn wsX7_find (va_wsS RX7 64 yX7_in wsX7_in) := goodIn_app (goodIn_of _ (by decide +kernel)) ggX7_find_X7_in
set_option maxRecDepth 20000 in
theorem ggX7_find_X7_checkOf : GoodIn wsX7_find wsX7_checkOf := goodIn_r _ [9] (by decide +kernel) (by decide +kernel)
set_option maxRecDepth 20000 in
theorem gX7_find_X7_checkOf : GoodIn wsX7_find (va_wsS RX7 80 yX7_checkOf wsX7_checkOf) := goodIn_app (goodIn_of _ (by decide +kernel)) ggX7_find_X7_checkOf
set_option maxRecDepth 20000 in
theorem ggX7_find_X7_boxOf : GoodIn wsX7_find wsX7_boxOf := goodIn_r _ [13, 2, 14, 15, 16, 5, 17, 18, 19, 20, 21, 22, 23, 24, 25, 26, 27, 28, 29, 30, 31, 32, 33, 34, 35, 36, 37, 38, 39, 40, 41, 42, 43, 44, 45, 46] (by decide +kernel) (by decide +kernel)
set_option maxRecDepth 20000 in
theorem gX7_find_X7_boxOf : GoodIn wsX7_find (wsV RX7 76 RX7 yX7_boxOf wsX7_boxOf) := goodIn_app (goodIn_of _ (by decide +kernel)) ggX7_find_X7_boxOf
set_option maxRecDepth 20000 in
theorem ggX7_find_X7_get : GoodIn wsX7_find wsX7_get := goodIn_r _ [17, 18, 19, 20, 21, 22, 23, 24, 25, 26, 27, 28, 29, 30, 31, 32, 33, 34, 35, 36, 37, 38, 39, 40, 41, 42, 43, 44, 45, 46] (by decide +kernel) (by decide +kernel)
set_option maxRecDepth 20000 in
theorem gX7_find_X7_get : GoodIn wsX7_find (wsV RX7 68 RX7 yX7_get wsX7_get) := goodIn_app (goodIn_of _ (by decide +kernel)) ggX7_find_X7_get
theorem dX7_find_0 : decode cX7_find 0 = .ok (.iload_n 1, 1) := by decide +kernel
theorem dX7_find_1 : decode cX7_find 1 = .ok (.iconst 0, 1) := by decide +kernel
theorem dX7_find_2 : decode cX7_find 2 = .ok (.ldc 83, 2) := by decide +kernel
theorem dX7_find_4 : decode cX7_find 4 = .ok (.invokestatic 64, 3) := by decide +kernel
theorem dX7_find_7 : decode cX7_find 7 = .ok (.ifCond .ne 5, 3) := by decide +kernel
theorem dX7_find_10 : decode cX7_find 10 = .ok (.iconst (-1), 1) := by decide +kernel
theorem dX7_find_11 : decode cX7_find 11 = .ok (.ireturn, 1) := by decide +kernel
theorem dX7_find_12 : decode cX7_find 12 = .ok (.iload_n 1, 1) := by decide +kernel
theorem dX7_find_13 : decode cX7_find 13 = .ok (.bipush 10, 2) := by decide +kernel
theorem dX7_find_15 : decode cX7_find 15 = .ok (.idiv, 1) := by decide +kernel
theorem dX7_find_16 : decode cX7_find 16 = .ok (.invokestatic 80, 3) := by decide +kernel
theorem dX7_find_19 : decode cX7_find 19 = .ok (.iload_n 1, 1) := by decide +kernel
theorem dX7_find_20 : decode cX7_find 20 = .ok (.bipush 10, 2) := by decide +kernel
theorem dX7_find_22 : decode cX7_find 22 = .ok (.irem, 1) := by decide +kernel
theorem dX7_find_23 : decode cX7_find 23 = .ok (.if_icmp .ne 23, 3) := by decide +kernel
theorem dX7_find_26 : decode cX7_find 26 = .ok (.aload_n 0, 1) := by decide +kernel
theorem dX7_find_27 : decode cX7_find 27 = .ok (.iload_n 1, 1) := by decide +kernel
theorem dX7_find_28 : decode cX7_find 28 = .ok (.bipush 10, 2) := by decide +kernel
