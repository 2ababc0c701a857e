theorem dX8_currentDepth_51 : decode cX8_currentDepth 51 = .ok (.iaload, 1) := by decide +kernel
theorem dX8_currentDepth_52 : decode cX8_currentDepth 52 = .ok (.istore 4, 2) := by decide +kernel
theorem dX8_currentDepth_54 : decode cX8_currentDepth 54 = .ok (.iconst 1, 1) := by decide +kernel
theorem dX8_currentDepth_55 : decode cX8_currentDepth 55 = .ok (.istore 5, 2) := by decide +kernel
theorem dX8_currentDepth_57 : decode cX8_currentDepth 57 = .ok (.iload 5, 2) := by decide +kernel
theorem dX8_currentDepth_59 : decode cX8_currentDepth 59 = .ok (.aload_n 0, 1) := by decide +kernel
theorem dX8_currentDepth_60 : decode cX8_currentDepth 60 = .ok (.getfield 17, 3) := by decide +kernel
theorem dX8_currentDepth_63 : decode cX8_currentDepth 63 = .ok (.iload 4, 2) := by decide +kernel
theorem dX8_currentDepth_65 : decode cX8_currentDepth 65 = .ok (.iaload, 1) := by decide +kernel
theorem dX8_currentDepth_66 : decode cX8_currentDepth 66 = .ok (.if_icmp .gt 45, 3) := by decide +kernel
theorem dX8_currentDepth_69 : decode cX8_currentDepth 69 = .ok (.iload 5, 2) := by decide +kernel
theorem dX8_currentDepth_71 : decode cX8_currentDepth 71 = .ok (.aload_n 0, 1) := by decide +kernel
theorem dX8_currentDepth_72 : decode cX8_currentDepth 72 = .ok (.getfield 170, 3) := by decide +kernel
theorem dX8_currentDepth_75 : decode cX8_currentDepth 75 = .ok (.if_icmp .gt 36, 3) := by decide +kernel
theorem dX8_currentDepth_78 : decode cX8_currentDepth 78 = .ok (.iload 5, 2) := by decide +kernel
theorem dX8_currentDepth_80 : decode cX8_currentDepth 80 = .ok (.iload_n 2, 1) := by decide +kernel
theorem dX8_currentDepth_81 : decode cX8_currentDepth 81 = .ok (.if_icmp .le 24, 3) := by decide +kernel
theorem dX8_currentDepth_84 : decode cX8_currentDepth 84 = .ok (.aload_n 0, 1) := by decide +kernel
theorem dX8_currentDepth_85 : decode cX8_currentDepth 85 = .ok (.iload 4, 2) := by decide +kernel
theorem dX8_currentDepth_87 : decode cX8_currentDepth 87 = .ok (.aload_n 0, 1) := by decide +kernel
theorem dX8_currentDepth_88 : decode cX8_currentDepth 88 = .ok (.getfield 170, 3) := by decide +kernel
theorem dX8_currentDepth_91 : decode cX8_currentDepth 91 = .ok (.iload 5, 2) := by decide +kernel
theorem dX8_currentDepth_93 : decode cX8_currentDepth 93 = .ok (.isub, 1) := by decide +kernel
theorem dX8_currentDepth_94 : decode cX8_currentDepth 94 = .ok (.iload 5, 2) := by decide +kernel
theorem dX8_currentDepth_96 : decode cX8_currentDepth 96 = .ok (.invokevirtual 188, 3) := by decide +kernel
theorem dX8_currentDepth_99 : decode cX8_currentDepth 99 = .ok (.ifCond .eq 6, 3) := by decide +kernel
theorem dX8_currentDepth_102 : decode cX8_currentDepth 102 = .ok (.iload 5, 2) := by decide +kernel
theorem dX8_currentDepth_104 : decode cX8_currentDepth 104 = .ok (.istore_n 2, 1) := by decide +kernel
theorem dX8_currentDepth_105 : decode cX8_currentDepth 105 = .ok (.iinc 5 1, 3) := by decide +kernel
theorem dX8_currentDepth_108 : decode cX8_currentDepth 108 = .ok (.goto (-51), 3) := by decide +kernel
theorem dX8_currentDepth_111 : decode cX8_currentDepth 111 = .ok (.iinc 3 1, 3) := by decide +kernel
theorem dX8_currentDepth_114 : decode cX8_currentDepth 114 = .ok (.goto (-84), 3) := by decide +kernel
theorem dX8_currentDepth_117 : decode cX8_currentDepth 117 = .ok (.iload_n 2, 1) := by decide +kernel
theorem dX8_currentDepth_118 : decode cX8_currentDepth 118 = .ok (.ireturn, 1) := by decide +kernel
set_option maxRecDepth 20000 in
theorem ggX8_isInStream_X8_byteOf : GoodIn wsX8_isInStream wsX8_byteOf := goodIn_r _ [7, 8, 23, 24, 25, 26, 27, 28, 29, 30, 31, 32, 33, 34, 35, 36, 37, 38, 39, 40, 41, 42, 43, 44, 45, 46, 47, 48, 49, 50, 51, 52, 53, 54, 55, 56, 57, 58, 59, 60, 61, 62, 63, 64] (by decide +kernel) (by decide +kernel)
set_option maxRecDepth 20000 in
theorem gX8_isInStream_X8_byteOf : GoodIn wsX8_isInStream (wsV RX8 125 RX8 yX8_byteOf wsX8_byteOf) := goodIn_app (goodIn_of _ (by decide +kernel)) ggX8_isInStream_X8_byteOf
set_option maxRecDepth 20000 in
theorem ggX8_isInStream_X8_like : GoodIn wsX8_isInStream wsX8_like := goodIn_r _ [12, 13, 14, 15, 6, 16, 17, 18, 19, 20, 21, 22, 23, 24, 25, 26, 27, 28, 29, 30, 31, 32, 33, 34, 35, 36, 37, 38, 39, 40, 41, 42, 43, 44, 45, 46, 47, 48, 49, 50, 51, 52, 53, 54, 55, 56, 57, 58, 59, 60, 61, 62, 63, 64] (by decide +kernel) (by decide +kernel)
set_option maxRecDepth 20000 in
theorem gX8_isInStream_X8_like : GoodIn wsX8_isInStream (wsV RX8 129 RX8 yX8_like wsX8_like) := goodIn_app (goodIn_of _ (by decide +kernel)) ggX8_isInStream_X8_like
theorem dX8_isInStream_0 : decode cX8_isInStream 0 = .ok (.iload_n 2, 1) := by decide +kernel
theorem dX8_isInStream_1 : decode cX8_isInStream 1 = .ok (.ifCond .lt 13, 3) := by decide +kernel
theorem dX8_isInStream_4 : decode cX8_isInStream 4 = .ok (.iload_n 2, 1) := by decide +kernel
theorem dX8_isInStream_5 : decode cX8_isInStream 5 = .ok (.iload_n 3, 1) := by decide +kernel
theorem dX8_isInStream_6 : decode cX8_isInStream 6 = .ok (.iadd, 1) := by decide +kernel
theorem dX8_isInStream_7 : decode cX8_isInStream 7 = .ok (.aload_n 0, 1) := by decide +kernel
theorem dX8_isInStream_8 : decode cX8_isInStream 8 = .ok (.getfield 170, 3) := by decide +kernel
theorem dX8_isInStream_11 : decode cX8_isInStream 11 = .ok (.if_icmp .le 5, 3) := by decide +kernel
theorem dX8_isInStream_14 : decode cX8_isInStream 14 = .ok (.iconst 0, 1) := by decide +kernel
theorem dX8_isInStream_15 : decode cX8_isInStream 15 = .ok (.ireturn, 1) := by decide +kernel
theorem dX8_isInStream_16 : decode cX8_isInStream 16 = .ok (.iconst 0, 1) := by decide +kernel
theorem dX8_isInStream_17 : decode cX8_isInStream 17 = .ok (.istore 4, 2) := by decide +kernel
theorem dX8_isInStream_19 : decode cX8_isInStream 19 = .ok (.iload 4, 2) := by decide +kernel
theorem dX8_isInStream_21 : decode cX8_isInStream 21 = .ok (.iload_n 3, 1) := by decide +kernel
theorem dX8_isInStream_22 : decode cX8_isInStream 22 = .ok (.if_icmp .ge 34, 3) := by decide +kernel
theorem dX8_isInStream_25 : decode cX8_isInStream 25 = .ok (.aload_n 0, 1) := by decide +kernel
theorem dX8_isInStream_26 : decode cX8_isInStream 26 = .ok (.aload_n 0, 1) := by decide +kernel
theorem dX8_isInStream_27 : decode cX8_isInStream 27 = .ok (.iload_n 1, 1) := by decide +kernel
theorem dX8_isInStream_28 : decode cX8_isInStream 28 = .ok (.iload 4, 2) := by decide +kernel
theorem dX8_isInStream_30 : decode cX8_isInStream 30 = .ok (.invokevirtual 125, 3) := by decide +kernel
theorem dX8_isInStream_33 : decode cX8_isInStream 33 = .ok (.aload_n 0, 1) := by decide +kernel
theorem dX8_isInStream_34 : decode cX8_isInStream 34 = .ok (.getfield 42, 3) := by decide +kernel
theorem dX8_isInStream_37 : decode cX8_isInStream 37 = .ok (.iload_n 2, 1) := by decide +kernel
theorem dX8_isInStream_38 : decode cX8_isInStream 38 = .ok (.iload 4, 2) := by decide +kernel
theorem dX8_isInStream_40 : decode cX8_isInStream 40 = .ok (.iadd, 1) := by decide +kernel
theorem dX8_isInStream_41 : decode cX8_isInStream 41 = .ok (.iaload, 1) := by decide +kernel
theorem dX8_isInStream_42 : decode cX8_isInStream 42 = .ok (.invokevirtual 129, 3) := by decide +kernel
theorem dX8_isInStream_45 : decode cX8_isInStream 45 = .ok (.ifCond .ne 5, 3) := by decide +kernel
theorem dX8_isInStream_48 : decode cX8_isInStream 48 = .ok (.iconst 0, 1) := by decide +kernel
theorem dX8_isInStream_49 : decode cX8_isInStream 49 = .ok (.ireturn, 1) := by decide +kernel
theorem dX8_isInStream_50 : decode cX8_isInStream 50 = .ok (.iinc 4 1, 3) := by decide +kernel
theorem dX8_isInStream_53 : decode cX8_isInStream 53 = .ok (.goto (-34), 3) := by decide +kernel
theorem dX8_isInStream_56 : decode cX8_isInStream 56 = .ok (.iconst 1, 1) := by decide +kernel
theorem dX8_isInStream_57 : decode cX8_isInStream 57 = .ok (.ireturn, 1) := by decide +kernel
theorem dX8_levelFound_0 : decode cX8_levelFound 0 = .ok (.iconst 0, 1) := by decide +kernel
theorem dX8_levelFound_1 : decode cX8_levelFound 1 = .ok (.istore_n 2, 1) := by decide +kernel
theorem dX8_levelFound_2 : decode cX8_levelFound 2 = .ok (.iload_n 2, 1) := by decide +kernel
theorem dX8_levelFound_3 : decode cX8_levelFound 3 = .ok (.bipush 7, 2) := by decide +kernel
theorem dX8_levelFound_5 : decode cX8_levelFound 5 = .ok (.if_icmp .ge 45, 3) := by decide +kernel
theorem dX8_levelFound_8 : decode cX8_levelFound 8 = .ok (.iconst 0, 1) := by decide +kernel
theorem dX8_levelFound_9 : decode cX8_levelFound 9 = .ok (.istore_n 3, 1) := by decide +kernel
theorem dX8_levelFound_10 : decode cX8_levelFound 10 = .ok (.iload_n 3, 1) := by decide +kernel
theorem dX8_levelFound_11 : decode cX8_levelFound 11 = .ok (.aload_n 0, 1) := by decide +kernel
theorem dX8_levelFound_12 : decode cX8_levelFound 12 = .ok (.getfield 30, 3) := by decide +kernel
theorem dX8_levelFound_15 : decode cX8_levelFound 15 = .ok (.iload_n 2, 1) := by decide +kernel
theorem dX8_levelFound_16 : decode cX8_levelFound 16 = .ok (.iaload, 1) := by decide +kernel
theorem dX8_levelFound_17 : decode cX8_levelFound 17 = .ok (.if_icmp .ge 27, 3) := by decide +kernel
theorem dX8_levelFound_20 : decode cX8_levelFound 20 = .ok (.aload_n 0, 1) := by decide +kernel
theorem dX8_levelFound_21 : decode cX8_levelFound 21 = .ok (.getfield 33, 3) := by decide +kernel
theorem dX8_levelFound_24 : decode cX8_levelFound 24 = .ok (.sipush 128, 3) := by decide +kernel
theorem dX8_levelFound_27 : decode cX8_levelFound 27 = .ok (.iload_n 2, 1) := by decide +kernel
theorem dX8_levelFound_28 : decode cX8_levelFound 28 = .ok (.imul, 1) := by decide +kernel
theorem dX8_levelFound_29 : decode cX8_levelFound 29 = .ok (.iload_n 3, 1) := by decide +kernel
theorem dX8_levelFound_30 : decode cX8_levelFound 30 = .ok (.iadd, 1) := by decide +kernel
theorem dX8_levelFound_31 : decode cX8_levelFound 31 = .ok (.iaload, 1) := by decide +kernel
theorem dX8_levelFound_32 : decode cX8_levelFound 32 = .ok (.iload_n 1, 1) := by decide +kernel
theorem dX8_levelFound_33 : decode cX8_levelFound 33 = .ok (.if_icmp .ne 5, 3) := by decide +kernel
theorem dX8_levelFound_36 : decode cX8_levelFound 36 = .ok (.iload_n 2, 1) := by decide +kernel
theorem dX8_levelFound_37 : decode cX8_levelFound 37 = .ok (.ireturn, 1) := by decide +kernel
theorem dX8_levelFound_38 : decode cX8_levelFound 38 = .ok (.iinc 3 1, 3) := by decide +kernel
theorem dX8_levelFound_41 : decode cX8_levelFound 41 = .ok (.goto (-31), 3) := by decide +kernel
theorem dX8_levelFound_44 : decode cX8_levelFound 44 = .ok (.iinc 2 1, 3) := by decide +kernel
theorem dX8_levelFound_47 : decode cX8_levelFound 47 = .ok (.goto (-45), 3) := by decide +kernel
theorem dX8_levelFound_50 : decode cX8_levelFound 50 = .ok (.iconst (-1), 1) := by decide +kernel
theorem dX8_levelFound_51 : decode cX8_levelFound 51 = .ok (.ireturn, 1) := by decide +kernel
set_option maxRecDepth 20000 in
theorem ggX8_levelOf_X8_isGiven : GoodIn wsX8_levelOf wsX8_isGiven := goodIn_r _ [6, 7, 8, 9, 5, 10, 17, 18, 19, 20, 21, 22, 23, 24, 25, 26, 27, 28, 29, 30, 31, 32, 33, 34, 35, 36, 37, 38, 39, 40, 41, 42, 43, 44, 45, 46, 47, 48, 49, 50, 51, 52, 53, 54, 55, 56, 57, 58] (by decide +kernel) (by decide +kernel)
set_option maxRecDepth 20000 in
theorem gX8_levelOf_X8_isGiven : GoodIn wsX8_levelOf (wsV RX8 109 RX8 yX8_isGiven wsX8_isGiven) := goodIn_app (goodIn_of _ (by decide +kernel)) ggX8_levelOf_X8_isGiven
set_option maxRecDepth 20000 in
theorem ggX8_levelOf_X8_levelFound : GoodIn wsX8_levelOf wsX8_levelFound := goodIn_r _ [14, 15, 16, 17, 18, 19, 20, 21, 22, 23, 24, 25, 26, 27, 28, 29, 30, 31, 32, 33, 34, 35, 36, 37, 38, 39, 40, 41, 42, 43, 44, 45, 46, 47, 48, 49, 50, 51, 52, 53, 54, 55, 56, 57, 58] (by decide +kernel) (by decide +kernel)
set_option maxRecDepth 20000 in
theorem gX8_levelOf_X8_levelFound : GoodIn wsX8_levelOf (wsV RX8 191 RX8 yX8_levelFound wsX8_levelFound) := goodIn_app (goodIn_of _ (by decide +kernel)) ggX8_levelOf_X8_levelFound
theorem dX8_levelOf_0 : decode cX8_levelOf 0 = .ok (.aload_n 0, 1) := by decide +kernel
theorem dX8_levelOf_1 : decode cX8_levelOf 1 = .ok (.iconst 0, 1) := by decide +kernel
theorem dX8_levelOf_2 : decode cX8_levelOf 2 = .ok (.putfield 1, 3) := by decide +kernel
theorem dX8_levelOf_5 : decode cX8_levelOf 5 = .ok (.aload_n 0, 1) := by decide +kernel
theorem dX8_levelOf_6 : decode cX8_levelOf 6 = .ok (.iload_n 1, 1) := by decide +kernel
theorem dX8_levelOf_7 : decode cX8_levelOf 7 = .ok (.invokevirtual 109, 3) := by decide +kernel
theorem dX8_levelOf_10 : decode cX8_levelOf 10 = .ok (.ifCond .eq 11, 3) := by decide +kernel
theorem dX8_levelOf_13 : decode cX8_levelOf 13 = .ok (.aload_n 0, 1) := by decide +kernel
theorem dX8_levelOf_14 : decode cX8_levelOf 14 = .ok (.iload_n 1, 1) := by decide +kernel
theorem dX8_levelOf_15 : decode cX8_levelOf 15 = .ok (.invokevirtual 191, 3) := by decide +kernel
theorem dX8_levelOf_18 : decode cX8_levelOf 18 = .ok (.goto 5, 3) := by decide +kernel
theorem dX8_levelOf_21 : decode cX8_levelOf 21 = .ok (.bipush (-2), 2) := by decide +kernel
theorem dX8_levelOf_23 : decode cX8_levelOf 23 = .ok (.ireturn, 1) := by decide +kernel
set_option maxRecDepth 20000 in
theorem ggX8_begins_X8_byteOf : GoodIn wsX8_begins wsX8_byteOf := goodIn_r _ [6, 7, 22, 23, 24, 25, 26, 27, 28, 29, 30, 31, 32, 33, 34, 35, 36, 37, 38, 39, 40, 41, 42, 43, 44, 45, 46, 47, 48, 49, 50, 51, 52, 53, 54, 55, 56, 57, 58, 59, 60, 61, 62, 63] (by decide +kernel) (by decide +kernel)
set_option maxRecDepth 20000 in
theorem gX8_begins_X8_byteOf : GoodIn wsX8_begins (wsV RX8 125 RX8 yX8_byteOf wsX8_byteOf) := goodIn_app (goodIn_of _ (by decide +kernel)) ggX8_begins_X8_byteOf
set_option maxRecDepth 20000 in
theorem ggX8_begins_X8_like : GoodIn wsX8_begins wsX8_like := goodIn_r _ [11, 12, 13, 14, 5, 15, 16, 17, 18, 19, 20, 21, 22, 23, 24, 25, 26, 27, 28, 29, 30, 31, 32, 33, 34, 35, 36, 37, 38, 39, 40, 41, 42, 43, 44, 45, 46, 47, 48, 49, 50, 51, 52, 53, 54, 55, 56, 57, 58, 59, 60, 61, 62, 63] (by decide +kernel) (by decide +kernel)
set_option maxRecDepth 20000 in
theorem gX8_begins_X8_like : GoodIn wsX8_begins (wsV RX8 129 RX8 yX8_like wsX8_like) := goodIn_app (goodIn_of _ (by decide +kernel)) ggX8_begins_X8_like
theorem dX8_begins_0 : decode cX8_begins 0 = .ok (.aload_n 0, 1) := by decide +kernel
theorem dX8_begins_1 : decode cX8_begins 1 = .ok (.getfield 17, 3) := by decide +kernel
theorem dX8_begins_4 : decode cX8_begins 4 = .ok (.iload 4, 2) := by decide +kernel
theorem dX8_begins_6 : decode cX8_begins 6 = .ok (.iaload, 1) := by decide +kernel
theorem dX8_begins_7 : decode cX8_begins 7 = .ok (.iload_n 3, 1) := by decide +kernel
theorem dX8_begins_8 : decode cX8_begins 8 = .ok (.iload_n 2, 1) := by decide +kernel
theorem dX8_begins_9 : decode cX8_begins 9 = .ok (.isub, 1) := by decide +kernel
theorem dX8_begins_10 : decode cX8_begins 10 = .ok (.if_icmp .ge 5, 3) := by decide +kernel
theorem dX8_begins_13 : decode cX8_begins 13 = .ok (.iconst 0, 1) := by decide +kernel
theorem dX8_begins_14 : decode cX8_begins 14 = .ok (.ireturn, 1) := by decide +kernel
theorem dX8_begins_15 : decode cX8_begins 15 = .ok (.iload_n 2, 1) := by decide +kernel
theorem dX8_begins_16 : decode cX8_begins 16 = .ok (.istore 5, 2) := by decide +kernel
theorem dX8_begins_18 : decode cX8_begins 18 = .ok (.iload 5, 2) := by decide +kernel
theorem dX8_begins_20 : decode cX8_begins 20 = .ok (.iload_n 3, 1) := by decide +kernel
theorem dX8_begins_21 : decode cX8_begins 21 = .ok (.if_icmp .ge 35, 3) := by decide +kernel
theorem dX8_begins_24 : decode cX8_begins 24 = .ok (.aload_n 0, 1) := by decide +kernel
theorem dX8_begins_25 : decode cX8_begins 25 = .ok (.aload_n 0, 1) := by decide +kernel
theorem dX8_begins_26 : decode cX8_begins 26 = .ok (.iload_n 1, 1) := by decide +kernel
theorem dX8_begins_27 : decode cX8_begins 27 = .ok (.iload 5, 2) := by decide +kernel
theorem dX8_begins_29 : decode cX8_begins 29 = .ok (.invokevirtual 125, 3) := by decide +kernel
theorem dX8_begins_32 : decode cX8_begins 32 = .ok (.aload_n 0, 1) := by decide +kernel
theorem dX8_begins_33 : decode cX8_begins 33 = .ok (.iload 4, 2) := by decide +kernel
theorem dX8_begins_35 : decode cX8_begins 35 = .ok (.iload 5, 2) := by decide +kernel
theorem dX8_begins_37 : decode cX8_begins 37 = .ok (.iload_n 2, 1) := by decide +kernel
theorem dX8_begins_38 : decode cX8_begins 38 = .ok (.isub, 1) := by decide +kernel
theorem dX8_begins_39 : decode cX8_begins 39 = .ok (.invokevirtual 125, 3) := by decide +kernel
theorem dX8_begins_42 : decode cX8_begins 42 = .ok (.invokevirtual 129, 3) := by decide +kernel
theorem dX8_begins_45 : decode cX8_begins 45 = .ok (.ifCond .ne 5, 3) := by decide +kernel
theorem dX8_begins_48 : decode cX8_begins 48 = .ok (.iconst 0, 1) := by decide +kernel
theorem dX8_begins_49 : decode cX8_begins 49 = .ok (.ireturn, 1) := by decide +kernel
theorem dX8_begins_50 : decode cX8_begins 50 = .ok (.iinc 5 1, 3) := by decide +kernel
theorem dX8_begins_53 : decode cX8_begins 53 = .ok (.goto (-35), 3) := by decide +kernel
theorem dX8_begins_56 : decode cX8_begins 56 = .ok (.iconst 1, 1) := by decide +kernel
theorem dX8_begins_57 : decode cX8_begins 57 = .ok (.ireturn, 1) := by decide +kernel
set_option maxRecDepth 20000 in
theorem ggX8_failureLength_X8_isGiven : GoodIn wsX8_failureLength wsX8_isGiven := goodIn_r _ [9, 10, 11, 12, 8, 13, 38, 39, 40, 41, 42, 43, 44, 45, 46, 47, 48, 49, 50, 51, 52, 53, 54, 55, 56, 57, 58, 59, 60, 61, 62, 63, 64, 65, 66, 67, 68, 69, 70, 71, 72, 73, 74, 75, 76, 77, 78, 79] (by decide +kernel) (by decide +kernel)
set_option maxRecDepth 20000 in
theorem gX8_failureLength_X8_isGiven : GoodIn wsX8_failureLength (wsV RX8 109 RX8 yX8_isGiven wsX8_isGiven) := goodIn_app (goodIn_of _ (by decide +kernel)) ggX8_failureLength_X8_isGiven
set_option maxRecDepth 20000 in
theorem ggX8_failureLength_X8_isIn : GoodIn wsX8_failureLength wsX8_isIn := goodIn_r _ [13] (by decide +kernel) (by decide +kernel)
set_option maxRecDepth 20000 in
theorem gX8_failureLength_X8_isIn : GoodIn wsX8_failureLength (va_wsS RX8 105 yX8_isIn wsX8_isIn) := goodIn_app (goodIn_of _ (by decide +kernel)) ggX8_failureLength_X8_isIn
set_option maxRecDepth 20000 in
theorem ggX8_failureLength_X8_levelFound : GoodIn wsX8_failureLength wsX8_levelFound := goodIn_r _ [17, 3, 4, 38, 39, 40, 41, 42, 43, 44, 45, 46, 47, 48, 49, 50, 51, 52, 53, 54, 55, 56, 57, 58, 59, 60, 61, 62, 63, 64, 65, 66, 67, 68, 69, 70, 71, 72, 73, 74, 75, 76, 77, 78, 79] (by decide +kernel) (by decide +kernel)
set_option maxRecDepth 20000 in
theorem gX8_failureLength_X8_levelFound : GoodIn wsX8_failureLength (wsV RX8 191 RX8 yX8_levelFound wsX8_levelFound) := goodIn_app (goodIn_of _ (by decide +kernel)) ggX8_failureLength_X8_levelFound
set_option maxRecDepth 20000 in
theorem ggX8_failureLength_X8_begins : GoodIn wsX8_failureLength wsX8_begins := goodIn_r _ [21, 2, 22, 23, 24, 8, 25, 26, 27, 28, 29, 30, 31, 32, 33, 34, 35, 36, 37, 11, 12, 13, 38, 39, 40, 41, 42, 43, 44, 45, 46, 47, 48, 49, 50, 51, 52, 53, 54, 55, 56, 57, 58, 59, 60, 61, 62, 63, 64, 65, 66, 67, 68, 69, 70, 71, 72, 73, 74, 75, 76, 77, 78, 79] (by decide +kernel) (by decide +kernel)
set_option maxRecDepth 20000 in
theorem gX8_failureLength_X8_begins : GoodIn wsX8_failureLength (wsV RX8 194 RX8 yX8_begins wsX8_begins) := goodIn_app (goodIn_of _ (by decide +kernel)) ggX8_failureLength_X8_begins
theorem dX8_failureLength_0 : decode cX8_failureLength 0 = .ok (.aload_n 0, 1) := by decide +kernel
theorem dX8_failureLength_1 : decode cX8_failureLength 1 = .ok (.iconst 0, 1) := by decide +kernel
theorem dX8_failureLength_2 : decode cX8_failureLength 2 = .ok (.putfield 1, 3) := by decide +kernel
theorem dX8_failureLength_5 : decode cX8_failureLength 5 = .ok (.aload_n 0, 1) := by decide +kernel
theorem dX8_failureLength_6 : decode cX8_failureLength 6 = .ok (.iload_n 1, 1) := by decide +kernel
theorem dX8_failureLength_7 : decode cX8_failureLength 7 = .ok (.invokevirtual 109, 3) := by decide +kernel
theorem dX8_failureLength_10 : decode cX8_failureLength 10 = .ok (.ifCond .ne 6, 3) := by decide +kernel
theorem dX8_failureLength_13 : decode cX8_failureLength 13 = .ok (.bipush (-2), 2) := by decide +kernel
theorem dX8_failureLength_15 : decode cX8_failureLength 15 = .ok (.ireturn, 1) := by decide +kernel
theorem dX8_failureLength_16 : decode cX8_failureLength 16 = .ok (.iload_n 2, 1) := by decide +kernel
theorem dX8_failureLength_17 : decode cX8_failureLength 17 = .ok (.i2l, 1) := by decide +kernel
theorem dX8_failureLength_18 : decode cX8_failureLength 18 = .ok (.lconst 1, 1) := by decide +kernel
theorem dX8_failureLength_19 : decode cX8_failureLength 19 = .ok (.aload_n 0, 1) := by decide +kernel
theorem dX8_failureLength_20 : decode cX8_failureLength 20 = .ok (.getfield 17, 3) := by decide +kernel
theorem dX8_failureLength_23 : decode cX8_failureLength 23 = .ok (.iload_n 1, 1) := by decide +kernel
theorem dX8_failureLength_24 : decode cX8_failureLength 24 = .ok (.iaload, 1) := by decide +kernel
theorem dX8_failureLength_25 : decode cX8_failureLength 25 = .ok (.i2l, 1) := by decide +kernel
theorem dX8_failureLength_26 : decode cX8_failureLength 26 = .ok (.invokestatic 105, 3) := by decide +kernel
theorem dX8_failureLength_29 : decode cX8_failureLength 29 = .ok (.ifCond .ne 6, 3) := by decide +kernel
theorem dX8_failureLength_32 : decode cX8_failureLength 32 = .ok (.bipush (-3), 2) := by decide +kernel
theorem dX8_failureLength_34 : decode cX8_failureLength 34 = .ok (.ireturn, 1) := by decide +kernel
theorem dX8_failureLength_35 : decode cX8_failureLength 35 = .ok (.aload_n 0, 1) := by decide +kernel
theorem dX8_failureLength_36 : decode cX8_failureLength 36 = .ok (.iload_n 1, 1) := by decide +kernel
theorem dX8_failureLength_37 : decode cX8_failureLength 37 = .ok (.invokevirtual 191, 3) := by decide +kernel
theorem dX8_failureLength_40 : decode cX8_failureLength 40 = .ok (.istore_n 3, 1) := by decide +kernel
theorem dX8_failureLength_41 : decode cX8_failureLength 41 = .ok (.iload_n 3, 1) := by decide +kernel
theorem dX8_failureLength_42 : decode cX8_failureLength 42 = .ok (.iconst (-1), 1) := by decide +kernel
theorem dX8_failureLength_43 : decode cX8_failureLength 43 = .ok (.if_icmp .ne 5, 3) := by decide +kernel
theorem dX8_failureLength_46 : decode cX8_failureLength 46 = .ok (.iconst (-1), 1) := by decide +kernel
theorem dX8_failureLength_47 : decode cX8_failureLength 47 = .ok (.ireturn, 1) := by decide +kernel
theorem dX8_failureLength_48 : decode cX8_failureLength 48 = .ok (.iload_n 2, 1) := by decide +kernel
theorem dX8_failureLength_49 : decode cX8_failureLength 49 = .ok (.iconst 1, 1) := by decide +kernel
theorem dX8_failureLength_50 : decode cX8_failureLength 50 = .ok (.isub, 1) := by decide +kernel
theorem dX8_failureLength_51 : decode cX8_failureLength 51 = .ok (.istore 4, 2) := by decide +kernel
theorem dX8_failureLength_53 : decode cX8_failureLength 53 = .ok (.iload 4, 2) := by decide +kernel
theorem dX8_failureLength_55 : decode cX8_failureLength 55 = .ok (.ifCond .le 58, 3) := by decide +kernel
theorem dX8_failureLength_58 : decode cX8_failureLength 58 = .ok (.iconst 0, 1) := by decide +kernel
theorem dX8_failureLength_59 : decode cX8_failureLength 59 = .ok (.istore 5, 2) := by decide +kernel
theorem dX8_failureLength_61 : decode cX8_failureLength 61 = .ok (.iload 5, 2) := by decide +kernel
theorem dX8_failureLength_63 : decode cX8_failureLength 63 = .ok (.aload_n 0, 1) := by decide +kernel
theorem dX8_failureLength_64 : decode cX8_failureLength 64 = .ok (.getfield 30, 3) := by decide +kernel
theorem dX8_failureLength_67 : decode cX8_failureLength 67 = .ok (.iload_n 3, 1) := by decide +kernel
theorem dX8_failureLength_68 : decode cX8_failureLength 68 = .ok (.iaload, 1) := by decide +kernel
theorem dX8_failureLength_69 : decode cX8_failureLength 69 = .ok (.if_icmp .ge 38, 3) := by decide +kernel
theorem dX8_failureLength_72 : decode cX8_failureLength 72 = .ok (.aload_n 0, 1) := by decide +kernel
theorem dX8_failureLength_73 : decode cX8_failureLength 73 = .ok (.iload_n 1, 1) := by decide +kernel
theorem dX8_failureLength_74 : decode cX8_failureLength 74 = .ok (.iload_n 2, 1) := by decide +kernel
theorem dX8_failureLength_75 : decode cX8_failureLength 75 = .ok (.iload 4, 2) := by decide +kernel
theorem dX8_failureLength_77 : decode cX8_failureLength 77 = .ok (.isub, 1) := by decide +kernel
theorem dX8_failureLength_78 : decode cX8_failureLength 78 = .ok (.iload_n 2, 1) := by decide +kernel
theorem dX8_failureLength_79 : decode cX8_failureLength 79 = .ok (.aload_n 0, 1) := by decide +kernel
theorem dX8_failureLength_80 : decode cX8_failureLength 80 = .ok (.getfield 33, 3) := by decide +kernel
theorem dX8_failureLength_83 : decode cX8_failureLength 83 = .ok (.sipush 128, 3) := by decide +kernel
theorem dX8_failureLength_86 : decode cX8_failureLength 86 = .ok (.iload_n 3, 1) := by decide +kernel
theorem dX8_failureLength_87 : decode cX8_failureLength 87 = .ok (.imul, 1) := by decide +kernel
theorem dX8_failureLength_88 : decode cX8_failureLength 88 = .ok (.iload 5, 2) := by decide +kernel
theorem dX8_failureLength_90 : decode cX8_failureLength 90 = .ok (.iadd, 1) := by decide +kernel
theorem dX8_failureLength_91 : decode cX8_failureLength 91 = .ok (.iaload, 1) := by decide +kernel
theorem dX8_failureLength_92 : decode cX8_failureLength 92 = .ok (.invokevirtual 194, 3) := by decide +kernel
theorem dX8_failureLength_95 : decode cX8_failureLength 95 = .ok (.ifCond .eq 6, 3) := by decide +kernel
theorem dX8_failureLength_98 : decode cX8_failureLength 98 = .ok (.iload 4, 2) := by decide +kernel
theorem dX8_failureLength_100 : decode cX8_failureLength 100 = .ok (.ireturn, 1) := by decide +kernel
theorem dX8_failureLength_101 : decode cX8_failureLength 101 = .ok (.iinc 5 1, 3) := by decide +kernel
theorem dX8_failureLength_104 : decode cX8_failureLength 104 = .ok (.goto (-43), 3) := by decide +kernel
theorem dX8_failureLength_107 : decode cX8_failureLength 107 = .ok (.iinc 4 (-1), 3) := by decide +kernel
theorem dX8_failureLength_110 : decode cX8_failureLength 110 = .ok (.goto (-57), 3) := by decide +kernel
theorem dX8_failureLength_113 : decode cX8_failureLength 113 = .ok (.iconst 0, 1) := by decide +kernel
theorem dX8_failureLength_114 : decode cX8_failureLength 114 = .ok (.ireturn, 1) := by decide +kernel
theorem dX8_buildWork_0 : decode cX8_buildWork 0 = .ok (.aload_n 0, 1) := by decide +kernel
theorem dX8_buildWork_1 : decode cX8_buildWork 1 = .ok (.iconst 0, 1) := by decide +kernel
theorem dX8_buildWork_2 : decode cX8_buildWork 2 = .ok (.putfield 1, 3) := by decide +kernel
theorem dX8_buildWork_5 : decode cX8_buildWork 5 = .ok (.aload_n 0, 1) := by decide +kernel
theorem dX8_buildWork_6 : decode cX8_buildWork 6 = .ok (.getfield 173, 3) := by decide +kernel
theorem dX8_buildWork_9 : decode cX8_buildWork 9 = .ok (.ireturn, 1) := by decide +kernel
set_option maxRecDepth 20000 in
theorem ggX8_plannedWork_X8_isIn : GoodIn wsX8_plannedWork wsX8_isIn := goodIn_r _ [8] (by decide +kernel) (by decide +kernel)
set_option maxRecDepth 20000 in
theorem gX8_plannedWork_X8_isIn : GoodIn wsX8_plannedWork (va_wsS RX8 105 yX8_isIn wsX8_isIn) := goodIn_app (goodIn_of _ (by decide +kernel)) ggX8_plannedWork_X8_isIn
theorem dX8_plannedWork_0 : decode cX8_plannedWork 0 = .ok (.aload_n 0, 1) := by decide +kernel
theorem dX8_plannedWork_1 : decode cX8_plannedWork 1 = .ok (.iconst 0, 1) := by decide +kernel
theorem dX8_plannedWork_2 : decode cX8_plannedWork 2 = .ok (.putfield 1, 3) := by decide +kernel
theorem dX8_plannedWork_5 : decode cX8_plannedWork 5 = .ok (.iload_n 1, 1) := by decide +kernel
theorem dX8_plannedWork_6 : decode cX8_plannedWork 6 = .ok (.i2l, 1) := by decide +kernel
theorem dX8_plannedWork_7 : decode cX8_plannedWork 7 = .ok (.lconst 0, 1) := by decide +kernel
theorem dX8_plannedWork_8 : decode cX8_plannedWork 8 = .ok (.ldc2_w 198, 3) := by decide +kernel
theorem dX8_plannedWork_11 : decode cX8_plannedWork 11 = .ok (.invokestatic 105, 3) := by decide +kernel
theorem dX8_plannedWork_14 : decode cX8_plannedWork 14 = .ok (.ifCond .ne 6, 3) := by decide +kernel
theorem dX8_plannedWork_17 : decode cX8_plannedWork 17 = .ok (.bipush (-3), 2) := by decide +kernel
theorem dX8_plannedWork_19 : decode cX8_plannedWork 19 = .ok (.ireturn, 1) := by decide +kernel
theorem dX8_plannedWork_20 : decode cX8_plannedWork 20 = .ok (.iconst 0, 1) := by decide +kernel
theorem dX8_plannedWork_21 : decode cX8_plannedWork 21 = .ok (.istore_n 2, 1) := by decide +kernel
theorem dX8_plannedWork_22 : decode cX8_plannedWork 22 = .ok (.iload_n 2, 1) := by decide +kernel
theorem dX8_plannedWork_23 : decode cX8_plannedWork 23 = .ok (.bipush 7, 2) := by decide +kernel
theorem dX8_plannedWork_25 : decode cX8_plannedWork 25 = .ok (.if_icmp .ge 21, 3) := by decide +kernel
theorem dX8_plannedWork_28 : decode cX8_plannedWork 28 = .ok (.aload_n 0, 1) := by decide +kernel
theorem dX8_plannedWork_29 : decode cX8_plannedWork 29 = .ok (.getfield 39, 3) := by decide +kernel
theorem dX8_plannedWork_32 : decode cX8_plannedWork 32 = .ok (.iload_n 2, 1) := by decide +kernel
theorem dX8_plannedWork_33 : decode cX8_plannedWork 33 = .ok (.aload_n 0, 1) := by decide +kernel
theorem dX8_plannedWork_34 : decode cX8_plannedWork 34 = .ok (.getfield 30, 3) := by decide +kernel
theorem dX8_plannedWork_37 : decode cX8_plannedWork 37 = .ok (.iload_n 2, 1) := by decide +kernel
theorem dX8_plannedWork_38 : decode cX8_plannedWork 38 = .ok (.iaload, 1) := by decide +kernel
theorem dX8_plannedWork_39 : decode cX8_plannedWork 39 = .ok (.iastore, 1) := by decide +kernel
theorem dX8_plannedWork_40 : decode cX8_plannedWork 40 = .ok (.iinc 2 1, 3) := by decide +kernel
theorem dX8_plannedWork_43 : decode cX8_plannedWork 43 = .ok (.goto (-21), 3) := by decide +kernel
theorem dX8_plannedWork_46 : decode cX8_plannedWork 46 = .ok (.iconst 0, 1) := by decide +kernel
theorem dX8_plannedWork_47 : decode cX8_plannedWork 47 = .ok (.istore_n 2, 1) := by decide +kernel
theorem dX8_plannedWork_48 : decode cX8_plannedWork 48 = .ok (.iconst 0, 1) := by decide +kernel
theorem dX8_plannedWork_49 : decode cX8_plannedWork 49 = .ok (.istore_n 3, 1) := by decide +kernel
theorem dX8_plannedWork_50 : decode cX8_plannedWork 50 = .ok (.iload_n 3, 1) := by decide +kernel
theorem dX8_plannedWork_51 : decode cX8_plannedWork 51 = .ok (.iload_n 1, 1) := by decide +kernel
theorem dX8_plannedWork_52 : decode cX8_plannedWork 52 = .ok (.if_icmp .ge 65, 3) := by decide +kernel
theorem dX8_plannedWork_55 : decode cX8_plannedWork 55 = .ok (.iconst 1, 1) := by decide +kernel
theorem dX8_plannedWork_56 : decode cX8_plannedWork 56 = .ok (.istore 4, 2) := by decide +kernel
theorem dX8_plannedWork_58 : decode cX8_plannedWork 58 = .ok (.iconst 0, 1) := by decide +kernel
theorem dX8_plannedWork_59 : decode cX8_plannedWork 59 = .ok (.istore 5, 2) := by decide +kernel
theorem dX8_plannedWork_61 : decode cX8_plannedWork 61 = .ok (.aload_n 0, 1) := by decide +kernel
theorem dX8_plannedWork_62 : decode cX8_plannedWork 62 = .ok (.getfield 39, 3) := by decide +kernel
theorem dX8_plannedWork_65 : decode cX8_plannedWork 65 = .ok (.iload 5, 2) := by decide +kernel
theorem dX8_plannedWork_67 : decode cX8_plannedWork 67 = .ok (.iaload, 1) := by decide +kernel
theorem dX8_plannedWork_68 : decode cX8_plannedWork 68 = .ok (.ifCond .le 29, 3) := by decide +kernel
theorem dX8_plannedWork_71 : decode cX8_plannedWork 71 = .ok (.iload 4, 2) := by decide +kernel
theorem dX8_plannedWork_73 : decode cX8_plannedWork 73 = .ok (.aload_n 0, 1) := by decide +kernel
theorem dX8_plannedWork_74 : decode cX8_plannedWork 74 = .ok (.getfield 39, 3) := by decide +kernel
theorem dX8_plannedWork_77 : decode cX8_plannedWork 77 = .ok (.iload 5, 2) := by decide +kernel
theorem dX8_plannedWork_79 : decode cX8_plannedWork 79 = .ok (.iaload, 1) := by decide +kernel
theorem dX8_plannedWork_80 : decode cX8_plannedWork 80 = .ok (.iadd, 1) := by decide +kernel
theorem dX8_plannedWork_81 : decode cX8_plannedWork 81 = .ok (.istore 4, 2) := by decide +kernel
theorem dX8_plannedWork_83 : decode cX8_plannedWork 83 = .ok (.aload_n 0, 1) := by decide +kernel
theorem dX8_plannedWork_84 : decode cX8_plannedWork 84 = .ok (.getfield 39, 3) := by decide +kernel
theorem dX8_plannedWork_87 : decode cX8_plannedWork 87 = .ok (.iload 5, 2) := by decide +kernel
theorem dX8_plannedWork_89 : decode cX8_plannedWork 89 = .ok (.iconst 0, 1) := by decide +kernel
theorem dX8_plannedWork_90 : decode cX8_plannedWork 90 = .ok (.iastore, 1) := by decide +kernel
theorem dX8_plannedWork_91 : decode cX8_plannedWork 91 = .ok (.iinc 5 1, 3) := by decide +kernel
theorem dX8_plannedWork_94 : decode cX8_plannedWork 94 = .ok (.goto (-33), 3) := by decide +kernel
theorem dX8_plannedWork_97 : decode cX8_plannedWork 97 = .ok (.aload_n 0, 1) := by decide +kernel
theorem dX8_plannedWork_98 : decode cX8_plannedWork 98 = .ok (.getfield 39, 3) := by decide +kernel
theorem dX8_plannedWork_101 : decode cX8_plannedWork 101 = .ok (.iload 5, 2) := by decide +kernel
theorem dX8_plannedWork_103 : decode cX8_plannedWork 103 = .ok (.iload 4, 2) := by decide +kernel
theorem dX8_plannedWork_105 : decode cX8_plannedWork 105 = .ok (.iastore, 1) := by decide +kernel
theorem dX8_plannedWork_106 : decode cX8_plannedWork 106 = .ok (.iload_n 2, 1) := by decide +kernel
theorem dX8_plannedWork_107 : decode cX8_plannedWork 107 = .ok (.iload 4, 2) := by decide +kernel
theorem dX8_plannedWork_109 : decode cX8_plannedWork 109 = .ok (.iadd, 1) := by decide +kernel
theorem dX8_plannedWork_110 : decode cX8_plannedWork 110 = .ok (.istore_n 2, 1) := by decide +kernel
theorem dX8_plannedWork_111 : decode cX8_plannedWork 111 = .ok (.iinc 3 1, 3) := by decide +kernel
theorem dX8_plannedWork_114 : decode cX8_plannedWork 114 = .ok (.goto (-64), 3) := by decide +kernel
theorem dX8_plannedWork_117 : decode cX8_plannedWork 117 = .ok (.iload_n 2, 1) := by decide +kernel
theorem dX8_plannedWork_118 : decode cX8_plannedWork 118 = .ok (.ireturn, 1) := by decide +kernel
theorem dX8_rebuildCount_0 : decode cX8_rebuildCount 0 = .ok (.aload_n 0, 1) := by decide +kernel
theorem dX8_rebuildCount_1 : decode cX8_rebuildCount 1 = .ok (.iconst 0, 1) := by decide +kernel
theorem dX8_rebuildCount_2 : decode cX8_rebuildCount 2 = .ok (.putfield 1, 3) := by decide +kernel
theorem dX8_rebuildCount_5 : decode cX8_rebuildCount 5 = .ok (.aload_n 0, 1) := by decide +kernel
theorem dX8_rebuildCount_6 : decode cX8_rebuildCount 6 = .ok (.getfield 176, 3) := by decide +kernel
theorem dX8_rebuildCount_9 : decode cX8_rebuildCount 9 = .ok (.ireturn, 1) := by decide +kernel
set_option maxRecDepth 20000 in
theorem ggX8_reports_X8_isInStream : GoodIn wsX8_reports wsX8_isInStream := goodIn_r _ [11, 12, 13, 14, 15, 16, 10, 17, 18, 19, 20, 21, 22, 23, 24, 25, 26, 27, 28, 29, 30, 31, 32, 33, 34, 35, 36, 37, 38, 39, 40, 41, 42, 43, 44, 45, 46, 47, 48, 49, 50, 51, 52, 53, 54, 55, 56, 57, 58, 59, 60, 61, 62, 63, 64, 65, 66, 67, 68, 69, 70, 71, 72, 73, 74] (by decide +kernel) (by decide +kernel)
set_option maxRecDepth 20000 in
theorem gX8_reports_X8_isInStream : GoodIn wsX8_reports (wsV RX8 188 RX8 yX8_isInStream wsX8_isInStream) := goodIn_app (goodIn_of _ (by decide +kernel)) ggX8_reports_X8_isInStream
theorem dX8_reports_0 : decode cX8_reports 0 = .ok (.bipush 16, 2) := by decide +kernel
theorem dX8_reports_2 : decode cX8_reports 2 = .ok (.istore_n 2, 1) := by decide +kernel
theorem dX8_reports_3 : decode cX8_reports 3 = .ok (.iload_n 2, 1) := by decide +kernel
theorem dX8_reports_4 : decode cX8_reports 4 = .ok (.ifCond .le 101, 3) := by decide +kernel
theorem dX8_reports_7 : decode cX8_reports 7 = .ok (.iconst 0, 1) := by decide +kernel
theorem dX8_reports_8 : decode cX8_reports 8 = .ok (.istore_n 3, 1) := by decide +kernel
theorem dX8_reports_9 : decode cX8_reports 9 = .ok (.iload_n 3, 1) := by decide +kernel
theorem dX8_reports_10 : decode cX8_reports 10 = .ok (.aload_n 0, 1) := by decide +kernel
theorem dX8_reports_11 : decode cX8_reports 11 = .ok (.getfield 102, 3) := by decide +kernel
theorem dX8_reports_14 : decode cX8_reports 14 = .ok (.if_icmp .ge 85, 3) := by decide +kernel
theorem dX8_reports_17 : decode cX8_reports 17 = .ok (.aload_n 0, 1) := by decide +kernel
theorem dX8_reports_18 : decode cX8_reports 18 = .ok (.getfield 26, 3) := by decide +kernel
theorem dX8_reports_21 : decode cX8_reports 21 = .ok (.iload_n 3, 1) := by decide +kernel
theorem dX8_reports_22 : decode cX8_reports 22 = .ok (.baload, 1) := by decide +kernel
theorem dX8_reports_23 : decode cX8_reports 23 = .ok (.ifCond .eq 70, 3) := by decide +kernel
theorem dX8_reports_26 : decode cX8_reports 26 = .ok (.aload_n 0, 1) := by decide +kernel
theorem dX8_reports_27 : decode cX8_reports 27 = .ok (.getfield 17, 3) := by decide +kernel
theorem dX8_reports_30 : decode cX8_reports 30 = .ok (.iload_n 3, 1) := by decide +kernel
theorem dX8_reports_31 : decode cX8_reports 31 = .ok (.iaload, 1) := by decide +kernel
theorem dX8_reports_32 : decode cX8_reports 32 = .ok (.iload_n 2, 1) := by decide +kernel
theorem dX8_reports_33 : decode cX8_reports 33 = .ok (.if_icmp .ne 60, 3) := by decide +kernel
theorem dX8_reports_36 : decode cX8_reports 36 = .ok (.aload_n 0, 1) := by decide +kernel
theorem dX8_reports_37 : decode cX8_reports 37 = .ok (.iload_n 3, 1) := by decide +kernel
theorem dX8_reports_38 : decode cX8_reports 38 = .ok (.iload_n 1, 1) := by decide +kernel
theorem dX8_reports_39 : decode cX8_reports 39 = .ok (.iload_n 2, 1) := by decide +kernel
theorem dX8_reports_40 : decode cX8_reports 40 = .ok (.isub, 1) := by decide +kernel
theorem dX8_reports_41 : decode cX8_reports 41 = .ok (.iconst 1, 1) := by decide +kernel
theorem dX8_reports_42 : decode cX8_reports 42 = .ok (.iadd, 1) := by decide +kernel
theorem dX8_reports_43 : decode cX8_reports 43 = .ok (.iload_n 2, 1) := by decide +kernel
theorem dX8_reports_44 : decode cX8_reports 44 = .ok (.invokevirtual 188, 3) := by decide +kernel
theorem dX8_reports_47 : decode cX8_reports 47 = .ok (.ifCond .ne 6, 3) := by decide +kernel
theorem dX8_reports_50 : decode cX8_reports 50 = .ok (.goto 43, 3) := by decide +kernel
theorem dX8_reports_53 : decode cX8_reports 53 = .ok (.aload_n 0, 1) := by decide +kernel
theorem dX8_reports_54 : decode cX8_reports 54 = .ok (.getfield 200, 3) := by decide +kernel
theorem dX8_reports_57 : decode cX8_reports 57 = .ok (.sipush 300, 3) := by decide +kernel
theorem dX8_reports_60 : decode cX8_reports 60 = .ok (.if_icmp .ge 23, 3) := by decide +kernel
theorem dX8_reports_63 : decode cX8_reports 63 = .ok (.aload_n 0, 1) := by decide +kernel
theorem dX8_reports_64 : decode cX8_reports 64 = .ok (.getfield 45, 3) := by decide +kernel
theorem dX8_reports_67 : decode cX8_reports 67 = .ok (.aload_n 0, 1) := by decide +kernel
theorem dX8_reports_68 : decode cX8_reports 68 = .ok (.getfield 200, 3) := by decide +kernel
theorem dX8_reports_71 : decode cX8_reports 71 = .ok (.iload_n 1, 1) := by decide +kernel
theorem dX8_reports_72 : decode cX8_reports 72 = .ok (.iastore, 1) := by decide +kernel
theorem dX8_reports_73 : decode cX8_reports 73 = .ok (.aload_n 0, 1) := by decide +kernel
theorem dX8_reports_74 : decode cX8_reports 74 = .ok (.getfield 48, 3) := by decide +kernel
theorem dX8_reports_77 : decode cX8_reports 77 = .ok (.aload_n 0, 1) := by decide +kernel
theorem dX8_reports_78 : decode cX8_reports 78 = .ok (.getfield 200, 3) := by decide +kernel
theorem dX8_reports_81 : decode cX8_reports 81 = .ok (.iload_n 3, 1) := by decide +kernel
theorem dX8_reports_82 : decode cX8_reports 82 = .ok (.iastore, 1) := by decide +kernel
theorem dX8_reports_83 : decode cX8_reports 83 = .ok (.aload_n 0, 1) := by decide +kernel
theorem dX8_reports_84 : decode cX8_reports 84 = .ok (.dup, 1) := by decide +kernel
theorem dX8_reports_85 : decode cX8_reports 85 = .ok (.getfield 200, 3) := by decide +kernel
theorem dX8_reports_88 : decode cX8_reports 88 = .ok (.iconst 1, 1) := by decide +kernel
theorem dX8_reports_89 : decode cX8_reports 89 = .ok (.iadd, 1) := by decide +kernel
theorem dX8_reports_90 : decode cX8_reports 90 = .ok (.putfield 200, 3) := by decide +kernel
theorem dX8_reports_93 : decode cX8_reports 93 = .ok (.iinc 3 1, 3) := by decide +kernel
theorem dX8_reports_96 : decode cX8_reports 96 = .ok (.goto (-87), 3) := by decide +kernel
theorem dX8_reports_99 : decode cX8_reports 99 = .ok (.iinc 2 (-1), 3) := by decide +kernel
theorem dX8_reports_102 : decode cX8_reports 102 = .ok (.goto (-99), 3) := by decide +kernel
theorem dX8_reports_105 : decode cX8_reports 105 = .ok (.return_, 1) := by decide +kernel
set_option maxRecDepth 20000 in
theorem ggX8_scan_X8_isIn : GoodIn wsX8_scan wsX8_isIn := goodIn_r _ [10] (by decide +kernel) (by decide +kernel)
set_option maxRecDepth 20000 in
theorem gX8_scan_X8_isIn : GoodIn wsX8_scan (va_wsS RX8 105 yX8_isIn wsX8_isIn) := goodIn_app (goodIn_of _ (by decide +kernel)) ggX8_scan_X8_isIn
set_option maxRecDepth 20000 in
theorem ggX8_scan_X8_reports : GoodIn wsX8_scan wsX8_reports := goodIn_r _ [14, 15, 16, 17, 4, 18, 19, 20, 21, 22, 9, 23, 3, 5, 24, 25, 26, 27, 28, 29, 30, 31, 32, 33, 34, 35, 36, 37, 38, 39, 7, 8, 10, 40, 41, 42, 43, 44, 45, 46, 47, 48, 49, 50, 51, 52, 53, 54, 55, 56, 57, 58, 59, 60, 61, 62, 63, 64, 65, 66, 67, 68, 69, 70, 71, 72, 73, 74, 75, 76, 77, 78, 79, 80, 81] (by decide +kernel) (by decide +kernel)
set_option maxRecDepth 20000 in
theorem gX8_scan_X8_reports : GoodIn wsX8_scan (wsV RX8 203 RX8 yX8_reports wsX8_reports) := goodIn_app (goodIn_of _ (by decide +kernel)) ggX8_scan_X8_reports
theorem dX8_scan_0 : decode cX8_scan 0 = .ok (.aload_n 0, 1) := by decide +kernel
theorem dX8_scan_1 : decode cX8_scan 1 = .ok (.iconst 0, 1) := by decide +kernel
theorem dX8_scan_2 : decode cX8_scan 2 = .ok (.putfield 1, 3) := by decide +kernel
theorem dX8_scan_5 : decode cX8_scan 5 = .ok (.iload_n 1, 1) := by decide +kernel
theorem dX8_scan_6 : decode cX8_scan 6 = .ok (.i2l, 1) := by decide +kernel
theorem dX8_scan_7 : decode cX8_scan 7 = .ok (.lconst 0, 1) := by decide +kernel
theorem dX8_scan_8 : decode cX8_scan 8 = .ok (.aload_n 0, 1) := by decide +kernel
theorem dX8_scan_9 : decode cX8_scan 9 = .ok (.getfield 99, 3) := by decide +kernel
theorem dX8_scan_12 : decode cX8_scan 12 = .ok (.i2l, 1) := by decide +kernel
theorem dX8_scan_13 : decode cX8_scan 13 = .ok (.invokestatic 105, 3) := by decide +kernel
theorem dX8_scan_16 : decode cX8_scan 16 = .ok (.ifCond .ne 6, 3) := by decide +kernel
theorem dX8_scan_19 : decode cX8_scan 19 = .ok (.bipush (-3), 2) := by decide +kernel
theorem dX8_scan_21 : decode cX8_scan 21 = .ok (.ireturn, 1) := by decide +kernel
theorem dX8_scan_22 : decode cX8_scan 22 = .ok (.aload_n 0, 1) := by decide +kernel
theorem dX8_scan_23 : decode cX8_scan 23 = .ok (.iconst 0, 1) := by decide +kernel
theorem dX8_scan_24 : decode cX8_scan 24 = .ok (.putfield 99, 3) := by decide +kernel
theorem dX8_scan_27 : decode cX8_scan 27 = .ok (.aload_n 0, 1) := by decide +kernel
theorem dX8_scan_28 : decode cX8_scan 28 = .ok (.getfield 170, 3) := by decide +kernel
theorem dX8_scan_31 : decode cX8_scan 31 = .ok (.iload_n 1, 1) := by decide +kernel
theorem dX8_scan_32 : decode cX8_scan 32 = .ok (.iadd, 1) := by decide +kernel
theorem dX8_scan_33 : decode cX8_scan 33 = .ok (.sipush 600, 3) := by decide +kernel
theorem dX8_scan_36 : decode cX8_scan 36 = .ok (.if_icmp .le 6, 3) := by decide +kernel
theorem dX8_scan_39 : decode cX8_scan 39 = .ok (.bipush (-6), 2) := by decide +kernel
theorem dX8_scan_41 : decode cX8_scan 41 = .ok (.ireturn, 1) := by decide +kernel
theorem dX8_scan_42 : decode cX8_scan 42 = .ok (.aload_n 0, 1) := by decide +kernel
theorem dX8_scan_43 : decode cX8_scan 43 = .ok (.getfield 200, 3) := by decide +kernel
theorem dX8_scan_46 : decode cX8_scan 46 = .ok (.istore_n 2, 1) := by decide +kernel
theorem dX8_scan_47 : decode cX8_scan 47 = .ok (.iconst 0, 1) := by decide +kernel
theorem dX8_scan_48 : decode cX8_scan 48 = .ok (.istore_n 3, 1) := by decide +kernel
theorem dX8_scan_49 : decode cX8_scan 49 = .ok (.iload_n 3, 1) := by decide +kernel
theorem dX8_scan_50 : decode cX8_scan 50 = .ok (.iload_n 1, 1) := by decide +kernel
theorem dX8_scan_51 : decode cX8_scan 51 = .ok (.if_icmp .ge 44, 3) := by decide +kernel
theorem dX8_scan_54 : decode cX8_scan 54 = .ok (.aload_n 0, 1) := by decide +kernel
theorem dX8_scan_55 : decode cX8_scan 55 = .ok (.getfield 42, 3) := by decide +kernel
theorem dX8_scan_58 : decode cX8_scan 58 = .ok (.aload_n 0, 1) := by decide +kernel
theorem dX8_scan_59 : decode cX8_scan 59 = .ok (.getfield 170, 3) := by decide +kernel
theorem dX8_scan_62 : decode cX8_scan 62 = .ok (.aload_n 0, 1) := by decide +kernel
theorem dX8_scan_63 : decode cX8_scan 63 = .ok (.getfield 13, 3) := by decide +kernel
theorem dX8_scan_66 : decode cX8_scan 66 = .ok (.iload_n 3, 1) := by decide +kernel
theorem dX8_scan_67 : decode cX8_scan 67 = .ok (.iaload, 1) := by decide +kernel
theorem dX8_scan_68 : decode cX8_scan 68 = .ok (.iastore, 1) := by decide +kernel
theorem dX8_scan_69 : decode cX8_scan 69 = .ok (.aload_n 0, 1) := by decide +kernel
theorem dX8_scan_70 : decode cX8_scan 70 = .ok (.dup, 1) := by decide +kernel
theorem dX8_scan_71 : decode cX8_scan 71 = .ok (.getfield 170, 3) := by decide +kernel
theorem dX8_scan_74 : decode cX8_scan 74 = .ok (.iconst 1, 1) := by decide +kernel
theorem dX8_scan_75 : decode cX8_scan 75 = .ok (.iadd, 1) := by decide +kernel
theorem dX8_scan_76 : decode cX8_scan 76 = .ok (.putfield 170, 3) := by decide +kernel
theorem dX8_scan_79 : decode cX8_scan 79 = .ok (.aload_n 0, 1) := by decide +kernel
theorem dX8_scan_80 : decode cX8_scan 80 = .ok (.aload_n 0, 1) := by decide +kernel
theorem dX8_scan_81 : decode cX8_scan 81 = .ok (.getfield 170, 3) := by decide +kernel
theorem dX8_scan_84 : decode cX8_scan 84 = .ok (.iconst 1, 1) := by decide +kernel
theorem dX8_scan_85 : decode cX8_scan 85 = .ok (.isub, 1) := by decide +kernel
theorem dX8_scan_86 : decode cX8_scan 86 = .ok (.invokevirtual 203, 3) := by decide +kernel
theorem dX8_scan_89 : decode cX8_scan 89 = .ok (.iinc 3 1, 3) := by decide +kernel
theorem dX8_scan_92 : decode cX8_scan 92 = .ok (.goto (-43), 3) := by decide +kernel
theorem dX8_scan_95 : decode cX8_scan 95 = .ok (.aload_n 0, 1) := by decide +kernel
theorem dX8_scan_96 : decode cX8_scan 96 = .ok (.getfield 200, 3) := by decide +kernel
theorem dX8_scan_99 : decode cX8_scan 99 = .ok (.iload_n 2, 1) := by decide +kernel
theorem dX8_scan_100 : decode cX8_scan 100 = .ok (.isub, 1) := by decide +kernel
theorem dX8_scan_101 : decode cX8_scan 101 = .ok (.ireturn, 1) := by decide +kernel
theorem dX8_resetStream_0 : decode cX8_resetStream 0 = .ok (.aload_n 0, 1) := by decide +kernel
theorem dX8_resetStream_1 : decode cX8_resetStream 1 = .ok (.iconst 0, 1) := by decide +kernel
theorem dX8_resetStream_2 : decode cX8_resetStream 2 = .ok (.putfield 1, 3) := by decide +kernel
theorem dX8_resetStream_5 : decode cX8_resetStream 5 = .ok (.aload_n 0, 1) := by decide +kernel
theorem dX8_resetStream_6 : decode cX8_resetStream 6 = .ok (.getfield 170, 3) := by decide +kernel
theorem dX8_resetStream_9 : decode cX8_resetStream 9 = .ok (.istore_n 1, 1) := by decide +kernel
theorem dX8_resetStream_10 : decode cX8_resetStream 10 = .ok (.aload_n 0, 1) := by decide +kernel
theorem dX8_resetStream_11 : decode cX8_resetStream 11 = .ok (.iconst 0, 1) := by decide +kernel
theorem dX8_resetStream_12 : decode cX8_resetStream 12 = .ok (.putfield 170, 3) := by decide +kernel
theorem dX8_resetStream_15 : decode cX8_resetStream 15 = .ok (.aload_n 0, 1) := by decide +kernel
theorem dX8_resetStream_16 : decode cX8_resetStream 16 = .ok (.iconst 0, 1) := by decide +kernel
theorem dX8_resetStream_17 : decode cX8_resetStream 17 = .ok (.putfield 200, 3) := by decide +kernel
theorem dX8_resetStream_20 : decode cX8_resetStream 20 = .ok (.iload_n 1, 1) := by decide +kernel
theorem dX8_resetStream_21 : decode cX8_resetStream 21 = .ok (.ireturn, 1) := by decide +kernel
theorem dX8_streamLength_0 : decode cX8_streamLength 0 = .ok (.aload_n 0, 1) := by decide +kernel
theorem dX8_streamLength_1 : decode cX8_streamLength 1 = .ok (.iconst 0, 1) := by decide +kernel
theorem dX8_streamLength_2 : decode cX8_streamLength 2 = .ok (.putfield 1, 3) := by decide +kernel
theorem dX8_streamLength_5 : decode cX8_streamLength 5 = .ok (.aload_n 0, 1) := by decide +kernel
theorem dX8_streamLength_6 : decode cX8_streamLength 6 = .ok (.getfield 170, 3) := by decide +kernel
theorem dX8_streamLength_9 : decode cX8_streamLength 9 = .ok (.ireturn, 1) := by decide +kernel
theorem dX8_streamByte_0 : decode cX8_streamByte 0 = .ok (.aload_n 0, 1) := by decide +kernel
theorem dX8_streamByte_1 : decode cX8_streamByte 1 = .ok (.iconst 0, 1) := by decide +kernel
theorem dX8_streamByte_2 : decode cX8_streamByte 2 = .ok (.putfield 1, 3) := by decide +kernel
theorem dX8_streamByte_5 : decode cX8_streamByte 5 = .ok (.iload_n 1, 1) := by decide +kernel
theorem dX8_streamByte_6 : decode cX8_streamByte 6 = .ok (.ifCond .ge 6, 3) := by decide +kernel
theorem dX8_streamByte_9 : decode cX8_streamByte 9 = .ok (.bipush (-3), 2) := by decide +kernel
theorem dX8_streamByte_11 : decode cX8_streamByte 11 = .ok (.ireturn, 1) := by decide +kernel
theorem dX8_streamByte_12 : decode cX8_streamByte 12 = .ok (.iload_n 1, 1) := by decide +kernel
theorem dX8_streamByte_13 : decode cX8_streamByte 13 = .ok (.aload_n 0, 1) := by decide +kernel
theorem dX8_streamByte_14 : decode cX8_streamByte 14 = .ok (.getfield 170, 3) := by decide +kernel
theorem dX8_streamByte_17 : decode cX8_streamByte 17 = .ok (.if_icmp .ge 12, 3) := by decide +kernel
theorem dX8_streamByte_20 : decode cX8_streamByte 20 = .ok (.aload_n 0, 1) := by decide +kernel
theorem dX8_streamByte_21 : decode cX8_streamByte 21 = .ok (.getfield 42, 3) := by decide +kernel
theorem dX8_streamByte_24 : decode cX8_streamByte 24 = .ok (.iload_n 1, 1) := by decide +kernel
theorem dX8_streamByte_25 : decode cX8_streamByte 25 = .ok (.iaload, 1) := by decide +kernel
theorem dX8_streamByte_26 : decode cX8_streamByte 26 = .ok (.goto 4, 3) := by decide +kernel
theorem dX8_streamByte_29 : decode cX8_streamByte 29 = .ok (.iconst (-1), 1) := by decide +kernel
theorem dX8_streamByte_30 : decode cX8_streamByte 30 = .ok (.ireturn, 1) := by decide +kernel
theorem dX8_reportCount_0 : decode cX8_reportCount 0 = .ok (.aload_n 0, 1) := by decide +kernel
theorem dX8_reportCount_1 : decode cX8_reportCount 1 = .ok (.iconst 0, 1) := by decide +kernel
theorem dX8_reportCount_2 : decode cX8_reportCount 2 = .ok (.putfield 1, 3) := by decide +kernel
theorem dX8_reportCount_5 : decode cX8_reportCount 5 = .ok (.aload_n 0, 1) := by decide +kernel
theorem dX8_reportCount_6 : decode cX8_reportCount 6 = .ok (.getfield 200, 3) := by decide +kernel
theorem dX8_reportCount_9 : decode cX8_reportCount 9 = .ok (.ireturn, 1) := by decide +kernel
theorem dX8_isStored_0 : decode cX8_isStored 0 = .ok (.iload_n 1, 1) := by decide +kernel
theorem dX8_isStored_1 : decode cX8_isStored 1 = .ok (.aload_n 0, 1) := by decide +kernel
theorem dX8_isStored_2 : decode cX8_isStored 2 = .ok (.getfield 200, 3) := by decide +kernel
theorem dX8_isStored_5 : decode cX8_isStored 5 = .ok (.if_icmp .ge 14, 3) := by decide +kernel
theorem dX8_isStored_8 : decode cX8_isStored 8 = .ok (.iload_n 1, 1) := by decide +kernel
theorem dX8_isStored_9 : decode cX8_isStored 9 = .ok (.sipush 300, 3) := by decide +kernel
theorem dX8_isStored_12 : decode cX8_isStored 12 = .ok (.if_icmp .ge 7, 3) := by decide +kernel
theorem dX8_isStored_15 : decode cX8_isStored 15 = .ok (.iconst 1, 1) := by decide +kernel
theorem dX8_isStored_16 : decode cX8_isStored 16 = .ok (.goto 4, 3) := by decide +kernel
theorem dX8_isStored_19 : decode cX8_isStored 19 = .ok (.iconst 0, 1) := by decide +kernel
theorem dX8_isStored_20 : decode cX8_isStored 20 = .ok (.ireturn, 1) := by decide +kernel
set_option maxRecDepth 20000 in
theorem ggX8_reportEnd_X8_isStored : GoodIn wsX8_reportEnd wsX8_isStored := goodIn_r _ [7, 8, 9, 10, 11, 12, 13, 14, 15, 16, 17, 18, 19, 20, 21, 22, 23, 24, 25, 26, 27, 28, 29, 30, 31, 32, 33, 34, 35, 36, 37, 38, 39, 40, 41, 42, 43, 44, 45, 46, 47, 48, 49, 50] (by decide +kernel) (by decide +kernel)
set_option maxRecDepth 20000 in
theorem gX8_reportEnd_X8_isStored : GoodIn wsX8_reportEnd (wsV RX8 206 RX8 yX8_isStored wsX8_isStored) := goodIn_app (goodIn_of _ (by decide +kernel)) ggX8_reportEnd_X8_isStored
theorem dX8_reportEnd_0 : decode cX8_reportEnd 0 = .ok (.aload_n 0, 1) := by decide +kernel
theorem dX8_reportEnd_1 : decode cX8_reportEnd 1 = .ok (.iconst 0, 1) := by decide +kernel
theorem dX8_reportEnd_2 : decode cX8_reportEnd 2 = .ok (.putfield 1, 3) := by decide +kernel
theorem dX8_reportEnd_5 : decode cX8_reportEnd 5 = .ok (.iload_n 1, 1) := by decide +kernel
theorem dX8_reportEnd_6 : decode cX8_reportEnd 6 = .ok (.ifCond .ge 6, 3) := by decide +kernel
theorem dX8_reportEnd_9 : decode cX8_reportEnd 9 = .ok (.bipush (-3), 2) := by decide +kernel
theorem dX8_reportEnd_11 : decode cX8_reportEnd 11 = .ok (.ireturn, 1) := by decide +kernel
theorem dX8_reportEnd_12 : decode cX8_reportEnd 12 = .ok (.aload_n 0, 1) := by decide +kernel
theorem dX8_reportEnd_13 : decode cX8_reportEnd 13 = .ok (.iload_n 1, 1) := by decide +kernel
theorem dX8_reportEnd_14 : decode cX8_reportEnd 14 = .ok (.invokevirtual 206, 3) := by decide +kernel
theorem dX8_reportEnd_17 : decode cX8_reportEnd 17 = .ok (.ifCond .eq 12, 3) := by decide +kernel
theorem dX8_reportEnd_20 : decode cX8_reportEnd 20 = .ok (.aload_n 0, 1) := by decide +kernel
theorem dX8_reportEnd_21 : decode cX8_reportEnd 21 = .ok (.getfield 45, 3) := by decide +kernel
theorem dX8_reportEnd_24 : decode cX8_reportEnd 24 = .ok (.iload_n 1, 1) := by decide +kernel
theorem dX8_reportEnd_25 : decode cX8_reportEnd 25 = .ok (.iaload, 1) := by decide +kernel
theorem dX8_reportEnd_26 : decode cX8_reportEnd 26 = .ok (.goto 4, 3) := by decide +kernel
theorem dX8_reportEnd_29 : decode cX8_reportEnd 29 = .ok (.iconst (-1), 1) := by decide +kernel
theorem dX8_reportEnd_30 : decode cX8_reportEnd 30 = .ok (.ireturn, 1) := by decide +kernel
set_option maxRecDepth 20000 in
theorem ggX8_reportKeyword_X8_isStored : GoodIn wsX8_reportKeyword wsX8_isStored := goodIn_r _ [7, 8, 9, 10, 11, 12, 13, 14, 15, 16, 17, 18, 19, 20, 21, 22, 23, 24, 25, 26, 27, 28, 29, 30, 31, 32, 33, 34, 35, 36, 37, 38, 39, 40, 41, 42, 43, 44, 45, 46, 47, 48, 49, 50] (by decide +kernel) (by decide +kernel)
set_option maxRecDepth 20000 in
theorem gX8_reportKeyword_X8_isStored : GoodIn wsX8_reportKeyword (wsV RX8 206 RX8 yX8_isStored wsX8_isStored) := goodIn_app (goodIn_of _ (by decide +kernel)) ggX8_reportKeyword_X8_isStored
theorem dX8_reportKeyword_0 : decode cX8_reportKeyword 0 = .ok (.aload_n 0, 1) := by decide +kernel
theorem dX8_reportKeyword_1 : decode cX8_reportKeyword 1 = .ok (.iconst 0, 1) := by decide +kernel
theorem dX8_reportKeyword_2 : decode cX8_reportKeyword 2 = .ok (.putfield 1, 3) := by decide +kernel
theorem dX8_reportKeyword_5 : decode cX8_reportKeyword 5 = .ok (.iload_n 1, 1) := by decide +kernel
theorem dX8_reportKeyword_6 : decode cX8_reportKeyword 6 = .ok (.ifCond .ge 6, 3) := by decide +kernel
theorem dX8_reportKeyword_9 : decode cX8_reportKeyword 9 = .ok (.bipush (-3), 2) := by decide +kernel
theorem dX8_reportKeyword_11 : decode cX8_reportKeyword 11 = .ok (.ireturn, 1) := by decide +kernel
theorem dX8_reportKeyword_12 : decode cX8_reportKeyword 12 = .ok (.aload_n 0, 1) := by decide +kernel
theorem dX8_reportKeyword_13 : decode cX8_reportKeyword 13 = .ok (.iload_n 1, 1) := by decide +kernel
theorem dX8_reportKeyword_14 : decode cX8_reportKeyword 14 = .ok (.invokevirtual 206, 3) := by decide +kernel
theorem dX8_reportKeyword_17 : decode cX8_reportKeyword 17 = .ok (.ifCond .eq 12, 3) := by decide +kernel
theorem dX8_reportKeyword_20 : decode cX8_reportKeyword 20 = .ok (.aload_n 0, 1) := by decide +kernel
theorem dX8_reportKeyword_21 : decode cX8_reportKeyword 21 = .ok (.getfield 48, 3) := by decide +kernel
theorem dX8_reportKeyword_24 : decode cX8_reportKeyword 24 = .ok (.iload_n 1, 1) := by decide +kernel
theorem dX8_reportKeyword_25 : decode cX8_reportKeyword 25 = .ok (.iaload, 1) := by decide +kernel
theorem dX8_reportKeyword_26 : decode cX8_reportKeyword 26 = .ok (.goto 4, 3) := by decide +kernel
theorem dX8_reportKeyword_29 : decode cX8_reportKeyword 29 = .ok (.iconst (-1), 1) := by decide +kernel
theorem dX8_reportKeyword_30 : decode cX8_reportKeyword 30 = .ok (.ireturn, 1) := by decide +kernel
set_option maxRecDepth 20000 in
theorem ggX8_laysMatches_X8_isInStream : GoodIn wsX8_laysMatches wsX8_isInStream := goodIn_r _ [11, 1, 12, 13, 14, 15, 10, 16, 17, 18, 19, 20, 21, 22, 23, 24, 25, 26, 27, 28, 29, 30, 31, 32, 33, 34, 35, 36, 37, 38, 39, 40, 41, 42, 43, 44, 45, 46, 47, 48, 49, 50, 51, 52, 53, 54, 55, 56, 57, 58, 59, 60, 61, 62, 63, 64, 65, 66, 67, 68, 69, 70, 71, 72, 73] (by decide +kernel) (by decide +kernel)
set_option maxRecDepth 20000 in
theorem gX8_laysMatches_X8_isInStream : GoodIn wsX8_laysMatches (wsV RX8 188 RX8 yX8_isInStream wsX8_isInStream) := goodIn_app (goodIn_of _ (by decide +kernel)) ggX8_laysMatches_X8_isInStream
theorem dX8_laysMatches_0 : decode cX8_laysMatches 0 = .ok (.iconst 0, 1) := by decide +kernel
theorem dX8_laysMatches_1 : decode cX8_laysMatches 1 = .ok (.istore_n 1, 1) := by decide +kernel
theorem dX8_laysMatches_2 : decode cX8_laysMatches 2 = .ok (.iload_n 1, 1) := by decide +kernel
theorem dX8_laysMatches_3 : decode cX8_laysMatches 3 = .ok (.aload_n 0, 1) := by decide +kernel
theorem dX8_laysMatches_4 : decode cX8_laysMatches 4 = .ok (.getfield 170, 3) := by decide +kernel
theorem dX8_laysMatches_7 : decode cX8_laysMatches 7 = .ok (.if_icmp .ge 93, 3) := by decide +kernel
theorem dX8_laysMatches_10 : decode cX8_laysMatches 10 = .ok (.aload_n 0, 1) := by decide +kernel
theorem dX8_laysMatches_11 : decode cX8_laysMatches 11 = .ok (.getfield 51, 3) := by decide +kernel
theorem dX8_laysMatches_14 : decode cX8_laysMatches 14 = .ok (.iload_n 1, 1) := by decide +kernel
theorem dX8_laysMatches_15 : decode cX8_laysMatches 15 = .ok (.iconst 0, 1) := by decide +kernel
theorem dX8_laysMatches_16 : decode cX8_laysMatches 16 = .ok (.iastore, 1) := by decide +kernel
theorem dX8_laysMatches_17 : decode cX8_laysMatches 17 = .ok (.iconst 0, 1) := by decide +kernel
theorem dX8_laysMatches_18 : decode cX8_laysMatches 18 = .ok (.istore_n 2, 1) := by decide +kernel
theorem dX8_laysMatches_19 : decode cX8_laysMatches 19 = .ok (.iload_n 2, 1) := by decide +kernel
theorem dX8_laysMatches_20 : decode cX8_laysMatches 20 = .ok (.aload_n 0, 1) := by decide +kernel
theorem dX8_laysMatches_21 : decode cX8_laysMatches 21 = .ok (.getfield 102, 3) := by decide +kernel
theorem dX8_laysMatches_24 : decode cX8_laysMatches 24 = .ok (.if_icmp .ge 70, 3) := by decide +kernel
theorem dX8_laysMatches_27 : decode cX8_laysMatches 27 = .ok (.aload_n 0, 1) := by decide +kernel
theorem dX8_laysMatches_28 : decode cX8_laysMatches 28 = .ok (.getfield 26, 3) := by decide +kernel
theorem dX8_laysMatches_31 : decode cX8_laysMatches 31 = .ok (.iload_n 2, 1) := by decide +kernel
theorem dX8_laysMatches_32 : decode cX8_laysMatches 32 = .ok (.baload, 1) := by decide +kernel
theorem dX8_laysMatches_33 : decode cX8_laysMatches 33 = .ok (.ifCond .eq 55, 3) := by decide +kernel
theorem dX8_laysMatches_36 : decode cX8_laysMatches 36 = .ok (.aload_n 0, 1) := by decide +kernel
theorem dX8_laysMatches_37 : decode cX8_laysMatches 37 = .ok (.iload_n 2, 1) := by decide +kernel
theorem dX8_laysMatches_38 : decode cX8_laysMatches 38 = .ok (.iload_n 1, 1) := by decide +kernel
theorem dX8_laysMatches_39 : decode cX8_laysMatches 39 = .ok (.aload_n 0, 1) := by decide +kernel
theorem dX8_laysMatches_40 : decode cX8_laysMatches 40 = .ok (.getfield 17, 3) := by decide +kernel
theorem dX8_laysMatches_43 : decode cX8_laysMatches 43 = .ok (.iload_n 2, 1) := by decide +kernel
theorem dX8_laysMatches_44 : decode cX8_laysMatches 44 = .ok (.iaload, 1) := by decide +kernel
theorem dX8_laysMatches_45 : decode cX8_laysMatches 45 = .ok (.invokevirtual 188, 3) := by decide +kernel
theorem dX8_laysMatches_48 : decode cX8_laysMatches 48 = .ok (.ifCond .ne 6, 3) := by decide +kernel
theorem dX8_laysMatches_51 : decode cX8_laysMatches 51 = .ok (.goto 37, 3) := by decide +kernel
theorem dX8_laysMatches_54 : decode cX8_laysMatches 54 = .ok (.aload_n 0, 1) := by decide +kernel
theorem dX8_laysMatches_55 : decode cX8_laysMatches 55 = .ok (.getfield 51, 3) := by decide +kernel
theorem dX8_laysMatches_58 : decode cX8_laysMatches 58 = .ok (.iload_n 1, 1) := by decide +kernel
theorem dX8_laysMatches_59 : decode cX8_laysMatches 59 = .ok (.dup2, 1) := by decide +kernel
theorem dX8_laysMatches_60 : decode cX8_laysMatches 60 = .ok (.iaload, 1) := by decide +kernel
theorem dX8_laysMatches_61 : decode cX8_laysMatches 61 = .ok (.iconst 1, 1) := by decide +kernel
theorem dX8_laysMatches_62 : decode cX8_laysMatches 62 = .ok (.aload_n 0, 1) := by decide +kernel
theorem dX8_laysMatches_63 : decode cX8_laysMatches 63 = .ok (.getfield 17, 3) := by decide +kernel
theorem dX8_laysMatches_66 : decode cX8_laysMatches 66 = .ok (.iload_n 2, 1) := by decide +kernel
theorem dX8_laysMatches_67 : decode cX8_laysMatches 67 = .ok (.iaload, 1) := by decide +kernel
theorem dX8_laysMatches_68 : decode cX8_laysMatches 68 = .ok (.ishl, 1) := by decide +kernel
theorem dX8_laysMatches_69 : decode cX8_laysMatches 69 = .ok (.ior, 1) := by decide +kernel
theorem dX8_laysMatches_70 : decode cX8_laysMatches 70 = .ok (.iastore, 1) := by decide +kernel
theorem dX8_laysMatches_71 : decode cX8_laysMatches 71 = .ok (.aload_n 0, 1) := by decide +kernel
theorem dX8_laysMatches_72 : decode cX8_laysMatches 72 = .ok (.getfield 54, 3) := by decide +kernel
theorem dX8_laysMatches_75 : decode cX8_laysMatches 75 = .ok (.bipush 17, 2) := by decide +kernel
theorem dX8_laysMatches_77 : decode cX8_laysMatches 77 = .ok (.iload_n 1, 1) := by decide +kernel
theorem dX8_laysMatches_78 : decode cX8_laysMatches 78 = .ok (.imul, 1) := by decide +kernel
theorem dX8_laysMatches_79 : decode cX8_laysMatches 79 = .ok (.aload_n 0, 1) := by decide +kernel
theorem dX8_laysMatches_80 : decode cX8_laysMatches 80 = .ok (.getfield 17, 3) := by decide +kernel
theorem dX8_laysMatches_83 : decode cX8_laysMatches 83 = .ok (.iload_n 2, 1) := by decide +kernel
theorem dX8_laysMatches_84 : decode cX8_laysMatches 84 = .ok (.iaload, 1) := by decide +kernel
theorem dX8_laysMatches_85 : decode cX8_laysMatches 85 = .ok (.iadd, 1) := by decide +kernel
theorem dX8_laysMatches_86 : decode cX8_laysMatches 86 = .ok (.iload_n 2, 1) := by decide +kernel
theorem dX8_laysMatches_87 : decode cX8_laysMatches 87 = .ok (.iastore, 1) := by decide +kernel
theorem dX8_laysMatches_88 : decode cX8_laysMatches 88 = .ok (.iinc 2 1, 3) := by decide +kernel
theorem dX8_laysMatches_91 : decode cX8_laysMatches 91 = .ok (.goto (-72), 3) := by decide +kernel
theorem dX8_laysMatches_94 : decode cX8_laysMatches 94 = .ok (.iinc 1 1, 3) := by decide +kernel
theorem dX8_laysMatches_97 : decode cX8_laysMatches 97 = .ok (.goto (-95), 3) := by decide +kernel
theorem dX8_laysMatches_100 : decode cX8_laysMatches 100 = .ok (.return_, 1) := by decide +kernel
theorem dX8_hasAt_0 : decode cX8_hasAt 0 = .ok (.aload_n 0, 1) := by decide +kernel
theorem dX8_hasAt_1 : decode cX8_hasAt 1 = .ok (.getfield 51, 3) := by decide +kernel
theorem dX8_hasAt_4 : decode cX8_hasAt 4 = .ok (.iload_n 1, 1) := by decide +kernel
theorem dX8_hasAt_5 : decode cX8_hasAt 5 = .ok (.iaload, 1) := by decide +kernel
theorem dX8_hasAt_6 : decode cX8_hasAt 6 = .ok (.iload_n 2, 1) := by decide +kernel
theorem dX8_hasAt_7 : decode cX8_hasAt 7 = .ok (.ishr, 1) := by decide +kernel
theorem dX8_hasAt_8 : decode cX8_hasAt 8 = .ok (.iconst 1, 1) := by decide +kernel
theorem dX8_hasAt_9 : decode cX8_hasAt 9 = .ok (.iand, 1) := by decide +kernel
theorem dX8_hasAt_10 : decode cX8_hasAt 10 = .ok (.iconst 1, 1) := by decide +kernel
theorem dX8_hasAt_11 : decode cX8_hasAt 11 = .ok (.if_icmp .ne 7, 3) := by decide +kernel
theorem dX8_hasAt_14 : decode cX8_hasAt 14 = .ok (.iconst 1, 1) := by decide +kernel
theorem dX8_hasAt_15 : decode cX8_hasAt 15 = .ok (.goto 4, 3) := by decide +kernel
theorem dX8_hasAt_18 : decode cX8_hasAt 18 = .ok (.iconst 0, 1) := by decide +kernel
theorem dX8_hasAt_19 : decode cX8_hasAt 19 = .ok (.ireturn, 1) := by decide +kernel
set_option maxRecDepth 20000 in
theorem ggX8_matchCount_X8_laysMatches : GoodIn wsX8_matchCount wsX8_laysMatches := goodIn_r _ [7, 2, 8, 9, 10, 11, 12, 13, 14, 15, 6, 16, 17, 18, 19, 20, 21, 22, 23, 24, 25, 26, 27, 28, 29, 30, 31, 32, 33, 34, 35, 36, 41, 42, 43, 44, 45, 46, 47, 48, 49, 50, 51, 52, 53, 54, 55, 56, 57, 58, 59, 60, 61, 62, 63, 64, 65, 66, 67, 68, 69, 70, 71, 72, 73, 74, 75, 76, 77, 78, 79, 80, 81, 82] (by decide +kernel) (by decide +kernel)
set_option maxRecDepth 20000 in
theorem gX8_matchCount_X8_laysMatches : GoodIn wsX8_matchCount (wsV RX8 209 RX8 yX8_laysMatches wsX8_laysMatches) := goodIn_app (goodIn_of _ (by decide +kernel)) ggX8_matchCount_X8_laysMatches
set_option maxRecDepth 20000 in
theorem ggX8_matchCount_X8_hasAt : GoodIn wsX8_matchCount wsX8_hasAt := goodIn_r _ [40, 8, 41, 42, 43, 44, 45, 46, 47, 48, 49, 50, 51, 52, 53, 54, 55, 56, 57, 58, 59, 60, 61, 62, 63, 64, 65, 66, 67, 68, 69, 70, 71, 72, 73, 74, 75, 76, 77, 78, 79, 80, 81, 82] (by decide +kernel) (by decide +kernel)
set_option maxRecDepth 20000 in
theorem gX8_matchCount_X8_hasAt : GoodIn wsX8_matchCount (wsV RX8 212 RX8 yX8_hasAt wsX8_hasAt) := goodIn_app (goodIn_of _ (by decide +kernel)) ggX8_matchCount_X8_hasAt
theorem dX8_matchCount_0 : decode cX8_matchCount 0 = .ok (.aload_n 0, 1) := by decide +kernel
theorem dX8_matchCount_1 : decode cX8_matchCount 1 = .ok (.iconst 0, 1) := by decide +kernel
theorem dX8_matchCount_2 : decode cX8_matchCount 2 = .ok (.putfield 1, 3) := by decide +kernel
theorem dX8_matchCount_5 : decode cX8_matchCount 5 = .ok (.aload_n 0, 1) := by decide +kernel
theorem dX8_matchCount_6 : decode cX8_matchCount 6 = .ok (.invokevirtual 209, 3) := by decide +kernel
theorem dX8_matchCount_9 : decode cX8_matchCount 9 = .ok (.iconst 0, 1) := by decide +kernel
theorem dX8_matchCount_10 : decode cX8_matchCount 10 = .ok (.istore_n 1, 1) := by decide +kernel
theorem dX8_matchCount_11 : decode cX8_matchCount 11 = .ok (.iconst 0, 1) := by decide +kernel
theorem dX8_matchCount_12 : decode cX8_matchCount 12 = .ok (.istore_n 2, 1) := by decide +kernel
theorem dX8_matchCount_13 : decode cX8_matchCount 13 = .ok (.iload_n 2, 1) := by decide +kernel
theorem dX8_matchCount_14 : decode cX8_matchCount 14 = .ok (.aload_n 0, 1) := by decide +kernel
theorem dX8_matchCount_15 : decode cX8_matchCount 15 = .ok (.getfield 170, 3) := by decide +kernel
theorem dX8_matchCount_18 : decode cX8_matchCount 18 = .ok (.if_icmp .ge 40, 3) := by decide +kernel
theorem dX8_matchCount_21 : decode cX8_matchCount 21 = .ok (.iconst 1, 1) := by decide +kernel
theorem dX8_matchCount_22 : decode cX8_matchCount 22 = .ok (.istore_n 3, 1) := by decide +kernel
theorem dX8_matchCount_23 : decode cX8_matchCount 23 = .ok (.iload_n 3, 1) := by decide +kernel
theorem dX8_matchCount_24 : decode cX8_matchCount 24 = .ok (.bipush 16, 2) := by decide +kernel
theorem dX8_matchCount_26 : decode cX8_matchCount 26 = .ok (.if_icmp .gt 26, 3) := by decide +kernel
theorem dX8_matchCount_29 : decode cX8_matchCount 29 = .ok (.iload_n 1, 1) := by decide +kernel
theorem dX8_matchCount_30 : decode cX8_matchCount 30 = .ok (.aload_n 0, 1) := by decide +kernel
theorem dX8_matchCount_31 : decode cX8_matchCount 31 = .ok (.iload_n 2, 1) := by decide +kernel
theorem dX8_matchCount_32 : decode cX8_matchCount 32 = .ok (.iload_n 3, 1) := by decide +kernel
theorem dX8_matchCount_33 : decode cX8_matchCount 33 = .ok (.invokevirtual 212, 3) := by decide +kernel
theorem dX8_matchCount_36 : decode cX8_matchCount 36 = .ok (.ifCond .eq 7, 3) := by decide +kernel
theorem dX8_matchCount_39 : decode cX8_matchCount 39 = .ok (.iconst 1, 1) := by decide +kernel
theorem dX8_matchCount_40 : decode cX8_matchCount 40 = .ok (.goto 4, 3) := by decide +kernel
theorem dX8_matchCount_43 : decode cX8_matchCount 43 = .ok (.iconst 0, 1) := by decide +kernel
theorem dX8_matchCount_44 : decode cX8_matchCount 44 = .ok (.iadd, 1) := by decide +kernel
theorem dX8_matchCount_45 : decode cX8_matchCount 45 = .ok (.istore_n 1, 1) := by decide +kernel
theorem dX8_matchCount_46 : decode cX8_matchCount 46 = .ok (.iinc 3 1, 3) := by decide +kernel
theorem dX8_matchCount_49 : decode cX8_matchCount 49 = .ok (.goto (-26), 3) := by decide +kernel
theorem dX8_matchCount_52 : decode cX8_matchCount 52 = .ok (.iinc 2 1, 3) := by decide +kernel
theorem dX8_matchCount_55 : decode cX8_matchCount 55 = .ok (.goto (-42), 3) := by decide +kernel
theorem dX8_matchCount_58 : decode cX8_matchCount 58 = .ok (.iload_n 1, 1) := by decide +kernel
theorem dX8_matchCount_59 : decode cX8_matchCount 59 = .ok (.ireturn, 1) := by decide +kernel
set_option maxRecDepth 20000 in
theorem ggX8_matchCountOf_X8_isLiveOne : GoodIn wsX8_matchCountOf wsX8_isLiveOne := goodIn_r _ [8, 9, 10, 11, 12, 7, 13, 14, 15, 16, 17, 39, 40, 41, 42, 43, 44, 45, 46, 47, 48, 49, 50, 51, 52, 53, 54, 55, 56, 57, 58, 59, 60, 61, 62, 63, 64, 65, 66, 67, 68, 69, 70, 71, 72, 73, 74, 75, 76, 77, 78, 79, 80] (by decide +kernel) (by decide +kernel)
set_option maxRecDepth 20000 in
theorem gX8_matchCountOf_X8_isLiveOne : GoodIn wsX8_matchCountOf (wsV RX8 161 RX8 yX8_isLiveOne wsX8_isLiveOne) := goodIn_app (goodIn_of _ (by decide +kernel)) ggX8_matchCountOf_X8_isLiveOne
set_option maxRecDepth 20000 in
theorem ggX8_matchCountOf_X8_isInStream : GoodIn wsX8_matchCountOf wsX8_isInStream := goodIn_r _ [21, 2, 22, 23, 24, 25, 7, 26, 27, 28, 29, 30, 31, 32, 33, 34, 35, 36, 37, 38, 15, 16, 17, 39, 40, 41, 42, 43, 44, 45, 46, 47, 48, 49, 50, 51, 52, 53, 54, 55, 56, 57, 58, 59, 60, 61, 62, 63, 64, 65, 66, 67, 68, 69, 70, 71, 72, 73, 74, 75, 76, 77, 78, 79, 80] (by decide +kernel) (by decide +kernel)
set_option maxRecDepth 20000 in
theorem gX8_matchCountOf_X8_isInStream : GoodIn wsX8_matchCountOf (wsV RX8 188 RX8 yX8_isInStream wsX8_isInStream) := goodIn_app (goodIn_of _ (by decide +kernel)) ggX8_matchCountOf_X8_isInStream
theorem dX8_matchCountOf_0 : decode cX8_matchCountOf 0 = .ok (.aload_n 0, 1) := by decide +kernel
theorem dX8_matchCountOf_1 : decode cX8_matchCountOf 1 = .ok (.iconst 0, 1) := by decide +kernel
theorem dX8_matchCountOf_2 : decode cX8_matchCountOf 2 = .ok (.putfield 1, 3) := by decide +kernel
theorem dX8_matchCountOf_5 : decode cX8_matchCountOf 5 = .ok (.aload_n 0, 1) := by decide +kernel
theorem dX8_matchCountOf_6 : decode cX8_matchCountOf 6 = .ok (.iload_n 1, 1) := by decide +kernel
theorem dX8_matchCountOf_7 : decode cX8_matchCountOf 7 = .ok (.invokevirtual 161, 3) := by decide +kernel
theorem dX8_matchCountOf_10 : decode cX8_matchCountOf 10 = .ok (.ifCond .ne 6, 3) := by decide +kernel
theorem dX8_matchCountOf_13 : decode cX8_matchCountOf 13 = .ok (.bipush (-2), 2) := by decide +kernel
theorem dX8_matchCountOf_15 : decode cX8_matchCountOf 15 = .ok (.ireturn, 1) := by decide +kernel
theorem dX8_matchCountOf_16 : decode cX8_matchCountOf 16 = .ok (.iconst 0, 1) := by decide +kernel
theorem dX8_matchCountOf_17 : decode cX8_matchCountOf 17 = .ok (.istore_n 2, 1) := by decide +kernel
theorem dX8_matchCountOf_18 : decode cX8_matchCountOf 18 = .ok (.iconst 0, 1) := by decide +kernel
theorem dX8_matchCountOf_19 : decode cX8_matchCountOf 19 = .ok (.istore_n 3, 1) := by decide +kernel
theorem dX8_matchCountOf_20 : decode cX8_matchCountOf 20 = .ok (.iload_n 3, 1) := by decide +kernel
theorem dX8_matchCountOf_21 : decode cX8_matchCountOf 21 = .ok (.aload_n 0, 1) := by decide +kernel
theorem dX8_matchCountOf_22 : decode cX8_matchCountOf 22 = .ok (.getfield 170, 3) := by decide +kernel
theorem dX8_matchCountOf_25 : decode cX8_matchCountOf 25 = .ok (.if_icmp .ge 32, 3) := by decide +kernel
theorem dX8_matchCountOf_28 : decode cX8_matchCountOf 28 = .ok (.iload_n 2, 1) := by decide +kernel
theorem dX8_matchCountOf_29 : decode cX8_matchCountOf 29 = .ok (.aload_n 0, 1) := by decide +kernel
theorem dX8_matchCountOf_30 : decode cX8_matchCountOf 30 = .ok (.iload_n 1, 1) := by decide +kernel
theorem dX8_matchCountOf_31 : decode cX8_matchCountOf 31 = .ok (.iload_n 3, 1) := by decide +kernel
theorem dX8_matchCountOf_32 : decode cX8_matchCountOf 32 = .ok (.aload_n 0, 1) := by decide +kernel
theorem dX8_matchCountOf_33 : decode cX8_matchCountOf 33 = .ok (.getfield 17, 3) := by decide +kernel
theorem dX8_matchCountOf_36 : decode cX8_matchCountOf 36 = .ok (.iload_n 1, 1) := by decide +kernel
theorem dX8_matchCountOf_37 : decode cX8_matchCountOf 37 = .ok (.iaload, 1) := by decide +kernel
theorem dX8_matchCountOf_38 : decode cX8_matchCountOf 38 = .ok (.invokevirtual 188, 3) := by decide +kernel
theorem dX8_matchCountOf_41 : decode cX8_matchCountOf 41 = .ok (.ifCond .eq 7, 3) := by decide +kernel
theorem dX8_matchCountOf_44 : decode cX8_matchCountOf 44 = .ok (.iconst 1, 1) := by decide +kernel
theorem dX8_matchCountOf_45 : decode cX8_matchCountOf 45 = .ok (.goto 4, 3) := by decide +kernel
theorem dX8_matchCountOf_48 : decode cX8_matchCountOf 48 = .ok (.iconst 0, 1) := by decide +kernel
theorem dX8_matchCountOf_49 : decode cX8_matchCountOf 49 = .ok (.iadd, 1) := by decide +kernel
theorem dX8_matchCountOf_50 : decode cX8_matchCountOf 50 = .ok (.istore_n 2, 1) := by decide +kernel
theorem dX8_matchCountOf_51 : decode cX8_matchCountOf 51 = .ok (.iinc 3 1, 3) := by decide +kernel
theorem dX8_matchCountOf_54 : decode cX8_matchCountOf 54 = .ok (.goto (-34), 3) := by decide +kernel
theorem dX8_matchCountOf_57 : decode cX8_matchCountOf 57 = .ok (.iload_n 2, 1) := by decide +kernel
theorem dX8_matchCountOf_58 : decode cX8_matchCountOf 58 = .ok (.ireturn, 1) := by decide +kernel
set_option maxRecDepth 20000 in
theorem ggX8_nextMatch_X8_isLiveOne : GoodIn wsX8_nextMatch wsX8_isLiveOne := goodIn_r _ [8, 9, 10, 11, 12, 7, 13, 14, 15, 16, 17, 39, 40, 41, 42, 43, 44, 45, 46, 47, 48, 49, 50, 51, 52, 53, 54, 55, 56, 57, 58, 59, 60, 61, 62, 63, 64, 65, 66, 67, 68, 69, 70, 71, 72, 73, 74, 75, 76, 77, 78, 79, 80] (by decide +kernel) (by decide +kernel)
set_option maxRecDepth 20000 in
theorem gX8_nextMatch_X8_isLiveOne : GoodIn wsX8_nextMatch (wsV RX8 161 RX8 yX8_isLiveOne wsX8_isLiveOne) := goodIn_app (goodIn_of _ (by decide +kernel)) ggX8_nextMatch_X8_isLiveOne
set_option maxRecDepth 20000 in
theorem ggX8_nextMatch_X8_isInStream : GoodIn wsX8_nextMatch wsX8_isInStream := goodIn_r _ [21, 2, 22, 23, 24, 25, 7, 26, 27, 28, 29, 30, 31, 32, 33, 34, 35, 36, 37, 38, 15, 16, 17, 39, 40, 41, 42, 43, 44, 45, 46, 47, 48, 49, 50, 51, 52, 53, 54, 55, 56, 57, 58, 59, 60, 61, 62, 63, 64, 65, 66, 67, 68, 69, 70, 71, 72, 73, 74, 75, 76, 77, 78, 79, 80] (by decide +kernel) (by decide +kernel)
set_option maxRecDepth 20000 in
theorem gX8_nextMatch_X8_isInStream : GoodIn wsX8_nextMatch (wsV RX8 188 RX8 yX8_isInStream wsX8_isInStream) := goodIn_app (goodIn_of _ (by decide +kernel)) ggX8_nextMatch_X8_isInStream
theorem dX8_nextMatch_0 : decode cX8_nextMatch 0 = .ok (.aload_n 0, 1) := by decide +kernel
theorem dX8_nextMatch_1 : decode cX8_nextMatch 1 = .ok (.iconst 0, 1) := by decide +kernel
theorem dX8_nextMatch_2 : decode cX8_nextMatch 2 = .ok (.putfield 1, 3) := by decide +kernel
theorem dX8_nextMatch_5 : decode cX8_nextMatch 5 = .ok (.aload_n 0, 1) := by decide +kernel
theorem dX8_nextMatch_6 : decode cX8_nextMatch 6 = .ok (.iload_n 1, 1) := by decide +kernel
theorem dX8_nextMatch_7 : decode cX8_nextMatch 7 = .ok (.invokevirtual 161, 3) := by decide +kernel
theorem dX8_nextMatch_10 : decode cX8_nextMatch 10 = .ok (.ifCond .ne 6, 3) := by decide +kernel
theorem dX8_nextMatch_13 : decode cX8_nextMatch 13 = .ok (.bipush (-2), 2) := by decide +kernel
theorem dX8_nextMatch_15 : decode cX8_nextMatch 15 = .ok (.ireturn, 1) := by decide +kernel
theorem dX8_nextMatch_16 : decode cX8_nextMatch 16 = .ok (.iload_n 2, 1) := by decide +kernel
theorem dX8_nextMatch_17 : decode cX8_nextMatch 17 = .ok (.ifCond .ge 6, 3) := by decide +kernel
theorem dX8_nextMatch_20 : decode cX8_nextMatch 20 = .ok (.bipush (-3), 2) := by decide +kernel
theorem dX8_nextMatch_22 : decode cX8_nextMatch 22 = .ok (.ireturn, 1) := by decide +kernel
theorem dX8_nextMatch_23 : decode cX8_nextMatch 23 = .ok (.iload_n 2, 1) := by decide +kernel
theorem dX8_nextMatch_24 : decode cX8_nextMatch 24 = .ok (.istore_n 3, 1) := by decide +kernel
theorem dX8_nextMatch_25 : decode cX8_nextMatch 25 = .ok (.iload_n 3, 1) := by decide +kernel
theorem dX8_nextMatch_26 : decode cX8_nextMatch 26 = .ok (.aload_n 0, 1) := by decide +kernel
theorem dX8_nextMatch_27 : decode cX8_nextMatch 27 = .ok (.getfield 170, 3) := by decide +kernel
theorem dX8_nextMatch_30 : decode cX8_nextMatch 30 = .ok (.if_icmp .ge 26, 3) := by decide +kernel
theorem dX8_nextMatch_33 : decode cX8_nextMatch 33 = .ok (.aload_n 0, 1) := by decide +kernel
theorem dX8_nextMatch_34 : decode cX8_nextMatch 34 = .ok (.iload_n 1, 1) := by decide +kernel
theorem dX8_nextMatch_35 : decode cX8_nextMatch 35 = .ok (.iload_n 3, 1) := by decide +kernel
theorem dX8_nextMatch_36 : decode cX8_nextMatch 36 = .ok (.aload_n 0, 1) := by decide +kernel
theorem dX8_nextMatch_37 : decode cX8_nextMatch 37 = .ok (.getfield 17, 3) := by decide +kernel
theorem dX8_nextMatch_40 : decode cX8_nextMatch 40 = .ok (.iload_n 1, 1) := by decide +kernel
theorem dX8_nextMatch_41 : decode cX8_nextMatch 41 = .ok (.iaload, 1) := by decide +kernel
theorem dX8_nextMatch_42 : decode cX8_nextMatch 42 = .ok (.invokevirtual 188, 3) := by decide +kernel
theorem dX8_nextMatch_45 : decode cX8_nextMatch 45 = .ok (.ifCond .eq 5, 3) := by decide +kernel
theorem dX8_nextMatch_48 : decode cX8_nextMatch 48 = .ok (.iload_n 3, 1) := by decide +kernel
theorem dX8_nextMatch_49 : decode cX8_nextMatch 49 = .ok (.ireturn, 1) := by decide +kernel
theorem dX8_nextMatch_50 : decode cX8_nextMatch 50 = .ok (.iinc 3 1, 3) := by decide +kernel
theorem dX8_nextMatch_53 : decode cX8_nextMatch 53 = .ok (.goto (-28), 3) := by decide +kernel
theorem dX8_nextMatch_56 : decode cX8_nextMatch 56 = .ok (.iconst (-1), 1) := by decide +kernel
theorem dX8_nextMatch_57 : decode cX8_nextMatch 57 = .ok (.ireturn, 1) := by decide +kernel
set_option maxRecDepth 20000 in
theorem ggX8_startsAt_X8_hasAt : GoodIn wsX8_startsAt wsX8_hasAt := goodIn_r _ [5, 6, 7, 8, 9, 10, 11, 12, 13, 14, 15, 16, 17, 18, 19, 20, 21, 22, 23, 24, 25, 26, 27, 28, 29, 30, 31, 32, 33, 34, 35, 36, 37, 38, 39, 40, 41, 42, 43, 44, 45, 46, 47, 48] (by decide +kernel) (by decide +kernel)
set_option maxRecDepth 20000 in
theorem gX8_startsAt_X8_hasAt : GoodIn wsX8_startsAt (wsV RX8 212 RX8 yX8_hasAt wsX8_hasAt) := goodIn_app (goodIn_of _ (by decide +kernel)) ggX8_startsAt_X8_hasAt
theorem dX8_startsAt_0 : decode cX8_startsAt 0 = .ok (.iconst 0, 1) := by decide +kernel
theorem dX8_startsAt_1 : decode cX8_startsAt 1 = .ok (.istore_n 2, 1) := by decide +kernel
theorem dX8_startsAt_2 : decode cX8_startsAt 2 = .ok (.iconst 1, 1) := by decide +kernel
theorem dX8_startsAt_3 : decode cX8_startsAt 3 = .ok (.istore_n 3, 1) := by decide +kernel
theorem dX8_startsAt_4 : decode cX8_startsAt 4 = .ok (.iload_n 3, 1) := by decide +kernel
theorem dX8_startsAt_5 : decode cX8_startsAt 5 = .ok (.bipush 16, 2) := by decide +kernel
theorem dX8_startsAt_7 : decode cX8_startsAt 7 = .ok (.if_icmp .gt 26, 3) := by decide +kernel
theorem dX8_startsAt_10 : decode cX8_startsAt 10 = .ok (.iload_n 2, 1) := by decide +kernel
theorem dX8_startsAt_11 : decode cX8_startsAt 11 = .ok (.aload_n 0, 1) := by decide +kernel
theorem dX8_startsAt_12 : decode cX8_startsAt 12 = .ok (.iload_n 1, 1) := by decide +kernel
theorem dX8_startsAt_13 : decode cX8_startsAt 13 = .ok (.iload_n 3, 1) := by decide +kernel
theorem dX8_startsAt_14 : decode cX8_startsAt 14 = .ok (.invokevirtual 212, 3) := by decide +kernel
theorem dX8_startsAt_17 : decode cX8_startsAt 17 = .ok (.ifCond .eq 7, 3) := by decide +kernel
theorem dX8_startsAt_20 : decode cX8_startsAt 20 = .ok (.iconst 1, 1) := by decide +kernel
theorem dX8_startsAt_21 : decode cX8_startsAt 21 = .ok (.goto 4, 3) := by decide +kernel
theorem dX8_startsAt_24 : decode cX8_startsAt 24 = .ok (.iconst 0, 1) := by decide +kernel
theorem dX8_startsAt_25 : decode cX8_startsAt 25 = .ok (.iadd, 1) := by decide +kernel
theorem dX8_startsAt_26 : decode cX8_startsAt 26 = .ok (.istore_n 2, 1) := by decide +kernel
theorem dX8_startsAt_27 : decode cX8_startsAt 27 = .ok (.iinc 3 1, 3) := by decide +kernel
theorem dX8_startsAt_30 : decode cX8_startsAt 30 = .ok (.goto (-26), 3) := by decide +kernel
theorem dX8_startsAt_33 : decode cX8_startsAt 33 = .ok (.iload_n 2, 1) := by decide +kernel
theorem dX8_startsAt_34 : decode cX8_startsAt 34 = .ok (.ireturn, 1) := by decide +kernel
set_option maxRecDepth 20000 in
theorem ggX8_overlappingPairs_X8_laysMatches : GoodIn wsX8_overlappingPairs wsX8_laysMatches := goodIn_r _ [7, 2, 8, 9, 10, 11, 12, 13, 14, 15, 6, 16, 17, 18, 19, 20, 21, 22, 23, 24, 25, 26, 27, 28, 29, 30, 31, 32, 33, 34, 35, 36, 45, 46, 47, 48, 49, 50, 51, 52, 53, 54, 55, 56, 57, 58, 59, 60, 61, 62, 63, 64, 65, 66, 67, 68, 69, 70, 71, 72, 73, 74, 75, 76, 77, 78, 79, 80, 81, 82, 83, 84, 85, 86] (by decide +kernel) (by decide +kernel)
set_option maxRecDepth 20000 in
theorem gX8_overlappingPairs_X8_laysMatches : GoodIn wsX8_overlappingPairs (wsV RX8 209 RX8 yX8_laysMatches wsX8_laysMatches) := goodIn_app (goodIn_of _ (by decide +kernel)) ggX8_overlappingPairs_X8_laysMatches
set_option maxRecDepth 20000 in
theorem ggX8_overlappingPairs_X8_startsAt : GoodIn wsX8_overlappingPairs wsX8_startsAt := goodIn_r _ [40, 41, 42, 43, 6, 44, 8, 45, 46, 47, 48, 49, 50, 51, 52, 53, 54, 55, 56, 57, 58, 59, 60, 61, 62, 63, 64, 65, 66, 67, 68, 69, 70, 71, 72, 73, 74, 75, 76, 77, 78, 79, 80, 81, 82, 83, 84, 85, 86] (by decide +kernel) (by decide +kernel)
set_option maxRecDepth 20000 in
theorem gX8_overlappingPairs_X8_startsAt : GoodIn wsX8_overlappingPairs (wsV RX8 215 RX8 yX8_startsAt wsX8_startsAt) := goodIn_app (goodIn_of _ (by decide +kernel)) ggX8_overlappingPairs_X8_startsAt
set_option maxRecDepth 20000 in
theorem ggX8_overlappingPairs_X8_hasAt : GoodIn wsX8_overlappingPairs wsX8_hasAt := goodIn_r _ [44, 8, 45, 46, 47, 48, 49, 50, 51, 52, 53, 54, 55, 56, 57, 58, 59, 60, 61, 62, 63, 64, 65, 66, 67, 68, 69, 70, 71, 72, 73, 74, 75, 76, 77, 78, 79, 80, 81, 82, 83, 84, 85, 86] (by decide +kernel) (by decide +kernel)
set_option maxRecDepth 20000 in
theorem gX8_overlappingPairs_X8_hasAt : GoodIn wsX8_overlappingPairs (wsV RX8 212 RX8 yX8_hasAt wsX8_hasAt) := goodIn_app (goodIn_of _ (by decide +kernel)) ggX8_overlappingPairs_X8_hasAt
theorem dX8_overlappingPairs_0 : decode cX8_overlappingPairs 0 = .ok (.aload_n 0, 1) := by decide +kernel
theorem dX8_overlappingPairs_1 : decode cX8_overlappingPairs 1 = .ok (.iconst 0, 1) := by decide +kernel
theorem dX8_overlappingPairs_2 : decode cX8_overlappingPairs 2 = .ok (.putfield 1, 3) := by decide +kernel
theorem dX8_overlappingPairs_5 : decode cX8_overlappingPairs 5 = .ok (.aload_n 0, 1) := by decide +kernel
theorem dX8_overlappingPairs_6 : decode cX8_overlappingPairs 6 = .ok (.invokevirtual 209, 3) := by decide +kernel
theorem dX8_overlappingPairs_9 : decode cX8_overlappingPairs 9 = .ok (.iconst 0, 1) := by decide +kernel
theorem dX8_overlappingPairs_10 : decode cX8_overlappingPairs 10 = .ok (.istore_n 1, 1) := by decide +kernel
theorem dX8_overlappingPairs_11 : decode cX8_overlappingPairs 11 = .ok (.iconst 0, 1) := by decide +kernel
theorem dX8_overlappingPairs_12 : decode cX8_overlappingPairs 12 = .ok (.istore_n 2, 1) := by decide +kernel
theorem dX8_overlappingPairs_13 : decode cX8_overlappingPairs 13 = .ok (.iload_n 2, 1) := by decide +kernel
theorem dX8_overlappingPairs_14 : decode cX8_overlappingPairs 14 = .ok (.aload_n 0, 1) := by decide +kernel
theorem dX8_overlappingPairs_15 : decode cX8_overlappingPairs 15 = .ok (.getfield 170, 3) := by decide +kernel
theorem dX8_overlappingPairs_18 : decode cX8_overlappingPairs 18 = .ok (.if_icmp .ge 83, 3) := by decide +kernel
theorem dX8_overlappingPairs_21 : decode cX8_overlappingPairs 21 = .ok (.aload_n 0, 1) := by decide +kernel
theorem dX8_overlappingPairs_22 : decode cX8_overlappingPairs 22 = .ok (.iload_n 2, 1) := by decide +kernel
theorem dX8_overlappingPairs_23 : decode cX8_overlappingPairs 23 = .ok (.invokevirtual 215, 3) := by decide +kernel
theorem dX8_overlappingPairs_26 : decode cX8_overlappingPairs 26 = .ok (.istore_n 3, 1) := by decide +kernel
theorem dX8_overlappingPairs_27 : decode cX8_overlappingPairs 27 = .ok (.iload_n 1, 1) := by decide +kernel
theorem dX8_overlappingPairs_28 : decode cX8_overlappingPairs 28 = .ok (.iload_n 3, 1) := by decide +kernel
theorem dX8_overlappingPairs_29 : decode cX8_overlappingPairs 29 = .ok (.iload_n 3, 1) := by decide +kernel
theorem dX8_overlappingPairs_30 : decode cX8_overlappingPairs 30 = .ok (.iconst 1, 1) := by decide +kernel
theorem dX8_overlappingPairs_31 : decode cX8_overlappingPairs 31 = .ok (.isub, 1) := by decide +kernel
theorem dX8_overlappingPairs_32 : decode cX8_overlappingPairs 32 = .ok (.imul, 1) := by decide +kernel
theorem dX8_overlappingPairs_33 : decode cX8_overlappingPairs 33 = .ok (.iconst 2, 1) := by decide +kernel
theorem dX8_overlappingPairs_34 : decode cX8_overlappingPairs 34 = .ok (.idiv, 1) := by decide +kernel
theorem dX8_overlappingPairs_35 : decode cX8_overlappingPairs 35 = .ok (.iadd, 1) := by decide +kernel
theorem dX8_overlappingPairs_36 : decode cX8_overlappingPairs 36 = .ok (.istore_n 1, 1) := by decide +kernel
theorem dX8_overlappingPairs_37 : decode cX8_overlappingPairs 37 = .ok (.iconst 1, 1) := by decide +kernel
theorem dX8_overlappingPairs_38 : decode cX8_overlappingPairs 38 = .ok (.istore 4, 2) := by decide +kernel
theorem dX8_overlappingPairs_40 : decode cX8_overlappingPairs 40 = .ok (.iload 4, 2) := by decide +kernel
theorem dX8_overlappingPairs_42 : decode cX8_overlappingPairs 42 = .ok (.bipush 16, 2) := by decide +kernel
theorem dX8_overlappingPairs_44 : decode cX8_overlappingPairs 44 = .ok (.if_icmp .gt 51, 3) := by decide +kernel
theorem dX8_overlappingPairs_47 : decode cX8_overlappingPairs 47 = .ok (.aload_n 0, 1) := by decide +kernel
theorem dX8_overlappingPairs_48 : decode cX8_overlappingPairs 48 = .ok (.iload_n 2, 1) := by decide +kernel
theorem dX8_overlappingPairs_49 : decode cX8_overlappingPairs 49 = .ok (.iload 4, 2) := by decide +kernel
theorem dX8_overlappingPairs_51 : decode cX8_overlappingPairs 51 = .ok (.invokevirtual 212, 3) := by decide +kernel
theorem dX8_overlappingPairs_54 : decode cX8_overlappingPairs 54 = .ok (.ifCond .ne 6, 3) := by decide +kernel
theorem dX8_overlappingPairs_57 : decode cX8_overlappingPairs 57 = .ok (.goto 32, 3) := by decide +kernel
theorem dX8_overlappingPairs_60 : decode cX8_overlappingPairs 60 = .ok (.iload_n 2, 1) := by decide +kernel
theorem dX8_overlappingPairs_61 : decode cX8_overlappingPairs 61 = .ok (.iconst 1, 1) := by decide +kernel
theorem dX8_overlappingPairs_62 : decode cX8_overlappingPairs 62 = .ok (.iadd, 1) := by decide +kernel
theorem dX8_overlappingPairs_63 : decode cX8_overlappingPairs 63 = .ok (.istore 5, 2) := by decide +kernel
theorem dX8_overlappingPairs_65 : decode cX8_overlappingPairs 65 = .ok (.iload 5, 2) := by decide +kernel
theorem dX8_overlappingPairs_67 : decode cX8_overlappingPairs 67 = .ok (.iload_n 2, 1) := by decide +kernel
theorem dX8_overlappingPairs_68 : decode cX8_overlappingPairs 68 = .ok (.iload 4, 2) := by decide +kernel
theorem dX8_overlappingPairs_70 : decode cX8_overlappingPairs 70 = .ok (.iadd, 1) := by decide +kernel
theorem dX8_overlappingPairs_71 : decode cX8_overlappingPairs 71 = .ok (.if_icmp .ge 18, 3) := by decide +kernel
theorem dX8_overlappingPairs_74 : decode cX8_overlappingPairs 74 = .ok (.iload_n 1, 1) := by decide +kernel
theorem dX8_overlappingPairs_75 : decode cX8_overlappingPairs 75 = .ok (.aload_n 0, 1) := by decide +kernel
theorem dX8_overlappingPairs_76 : decode cX8_overlappingPairs 76 = .ok (.iload 5, 2) := by decide +kernel
theorem dX8_overlappingPairs_78 : decode cX8_overlappingPairs 78 = .ok (.invokevirtual 215, 3) := by decide +kernel
theorem dX8_overlappingPairs_81 : decode cX8_overlappingPairs 81 = .ok (.iadd, 1) := by decide +kernel
theorem dX8_overlappingPairs_82 : decode cX8_overlappingPairs 82 = .ok (.istore_n 1, 1) := by decide +kernel
theorem dX8_overlappingPairs_83 : decode cX8_overlappingPairs 83 = .ok (.iinc 5 1, 3) := by decide +kernel
theorem dX8_overlappingPairs_86 : decode cX8_overlappingPairs 86 = .ok (.goto (-21), 3) := by decide +kernel
theorem dX8_overlappingPairs_89 : decode cX8_overlappingPairs 89 = .ok (.iinc 4 1, 3) := by decide +kernel
theorem dX8_overlappingPairs_92 : decode cX8_overlappingPairs 92 = .ok (.goto (-52), 3) := by decide +kernel
theorem dX8_overlappingPairs_95 : decode cX8_overlappingPairs 95 = .ok (.iinc 2 1, 3) := by decide +kernel
theorem dX8_overlappingPairs_98 : decode cX8_overlappingPairs 98 = .ok (.goto (-85), 3) := by decide +kernel
theorem dX8_overlappingPairs_101 : decode cX8_overlappingPairs 101 = .ok (.iload_n 1, 1) := by decide +kernel
theorem dX8_overlappingPairs_102 : decode cX8_overlappingPairs 102 = .ok (.ireturn, 1) := by decide +kernel
set_option maxRecDepth 20000 in
theorem ggX8_maximumDepth_X8_laysMatches : GoodIn wsX8_maximumDepth wsX8_laysMatches := goodIn_r _ [7, 2, 8, 9, 10, 11, 12, 13, 14, 15, 6, 16, 17, 18, 19, 20, 21, 22, 23, 24, 25, 26, 27, 28, 29, 30, 31, 32, 33, 34, 35, 36, 41, 42, 43, 44, 45, 46, 47, 48, 49, 50, 51, 52, 53, 54, 55, 56, 57, 58, 59, 60, 61, 62, 63, 64, 65, 66, 67, 68, 69, 70, 71, 72, 73, 74, 75, 76, 77, 78, 79, 80, 81, 82] (by decide +kernel) (by decide +kernel)
set_option maxRecDepth 20000 in
theorem gX8_maximumDepth_X8_laysMatches : GoodIn wsX8_maximumDepth (wsV RX8 209 RX8 yX8_laysMatches wsX8_laysMatches) := goodIn_app (goodIn_of _ (by decide +kernel)) ggX8_maximumDepth_X8_laysMatches
set_option maxRecDepth 20000 in
theorem ggX8_maximumDepth_X8_hasAt : GoodIn wsX8_maximumDepth wsX8_hasAt := goodIn_r _ [40, 8, 41, 42, 43, 44, 45, 46, 47, 48, 49, 50, 51, 52, 53, 54, 55, 56, 57, 58, 59, 60, 61, 62, 63, 64, 65, 66, 67, 68, 69, 70, 71, 72, 73, 74, 75, 76, 77, 78, 79, 80, 81, 82] (by decide +kernel) (by decide +kernel)
set_option maxRecDepth 20000 in
theorem gX8_maximumDepth_X8_hasAt : GoodIn wsX8_maximumDepth (wsV RX8 212 RX8 yX8_hasAt wsX8_hasAt) := goodIn_app (goodIn_of _ (by decide +kernel)) ggX8_maximumDepth_X8_hasAt
theorem dX8_maximumDepth_0 : decode cX8_maximumDepth 0 = .ok (.aload_n 0, 1) := by decide +kernel
theorem dX8_maximumDepth_1 : decode cX8_maximumDepth 1 = .ok (.iconst 0, 1) := by decide +kernel
theorem dX8_maximumDepth_2 : decode cX8_maximumDepth 2 = .ok (.putfield 1, 3) := by decide +kernel
theorem dX8_maximumDepth_5 : decode cX8_maximumDepth 5 = .ok (.aload_n 0, 1) := by decide +kernel
theorem dX8_maximumDepth_6 : decode cX8_maximumDepth 6 = .ok (.invokevirtual 209, 3) := by decide +kernel
theorem dX8_maximumDepth_9 : decode cX8_maximumDepth 9 = .ok (.iconst 0, 1) := by decide +kernel
theorem dX8_maximumDepth_10 : decode cX8_maximumDepth 10 = .ok (.istore_n 1, 1) := by decide +kernel
theorem dX8_maximumDepth_11 : decode cX8_maximumDepth 11 = .ok (.iconst 0, 1) := by decide +kernel
theorem dX8_maximumDepth_12 : decode cX8_maximumDepth 12 = .ok (.istore_n 2, 1) := by decide +kernel
theorem dX8_maximumDepth_13 : decode cX8_maximumDepth 13 = .ok (.iload_n 2, 1) := by decide +kernel
theorem dX8_maximumDepth_14 : decode cX8_maximumDepth 14 = .ok (.aload_n 0, 1) := by decide +kernel
theorem dX8_maximumDepth_15 : decode cX8_maximumDepth 15 = .ok (.getfield 170, 3) := by decide +kernel
theorem dX8_maximumDepth_18 : decode cX8_maximumDepth 18 = .ok (.if_icmp .ge 92, 3) := by decide +kernel
theorem dX8_maximumDepth_21 : decode cX8_maximumDepth 21 = .ok (.iconst 0, 1) := by decide +kernel
theorem dX8_maximumDepth_22 : decode cX8_maximumDepth 22 = .ok (.istore_n 3, 1) := by decide +kernel
theorem dX8_maximumDepth_23 : decode cX8_maximumDepth 23 = .ok (.iload_n 2, 1) := by decide +kernel
theorem dX8_maximumDepth_24 : decode cX8_maximumDepth 24 = .ok (.bipush 16, 2) := by decide +kernel
theorem dX8_maximumDepth_26 : decode cX8_maximumDepth 26 = .ok (.if_icmp .ge 7, 3) := by decide +kernel
theorem dX8_maximumDepth_29 : decode cX8_maximumDepth 29 = .ok (.iconst 0, 1) := by decide +kernel
theorem dX8_maximumDepth_30 : decode cX8_maximumDepth 30 = .ok (.goto 9, 3) := by decide +kernel
theorem dX8_maximumDepth_33 : decode cX8_maximumDepth 33 = .ok (.iload_n 2, 1) := by decide +kernel
theorem dX8_maximumDepth_34 : decode cX8_maximumDepth 34 = .ok (.bipush 16, 2) := by decide +kernel
theorem dX8_maximumDepth_36 : decode cX8_maximumDepth 36 = .ok (.isub, 1) := by decide +kernel
theorem dX8_maximumDepth_37 : decode cX8_maximumDepth 37 = .ok (.iconst 1, 1) := by decide +kernel
theorem dX8_maximumDepth_38 : decode cX8_maximumDepth 38 = .ok (.iadd, 1) := by decide +kernel
theorem dX8_maximumDepth_39 : decode cX8_maximumDepth 39 = .ok (.istore 4, 2) := by decide +kernel
theorem dX8_maximumDepth_41 : decode cX8_maximumDepth 41 = .ok (.iload 4, 2) := by decide +kernel
theorem dX8_maximumDepth_43 : decode cX8_maximumDepth 43 = .ok (.iload_n 2, 1) := by decide +kernel
theorem dX8_maximumDepth_44 : decode cX8_maximumDepth 44 = .ok (.if_icmp .gt 49, 3) := by decide +kernel
theorem dX8_maximumDepth_47 : decode cX8_maximumDepth 47 = .ok (.iload_n 2, 1) := by decide +kernel
theorem dX8_maximumDepth_48 : decode cX8_maximumDepth 48 = .ok (.iload 4, 2) := by decide +kernel
theorem dX8_maximumDepth_50 : decode cX8_maximumDepth 50 = .ok (.isub, 1) := by decide +kernel
theorem dX8_maximumDepth_51 : decode cX8_maximumDepth 51 = .ok (.iconst 1, 1) := by decide +kernel
theorem dX8_maximumDepth_52 : decode cX8_maximumDepth 52 = .ok (.iadd, 1) := by decide +kernel
theorem dX8_maximumDepth_53 : decode cX8_maximumDepth 53 = .ok (.istore 5, 2) := by decide +kernel
theorem dX8_maximumDepth_55 : decode cX8_maximumDepth 55 = .ok (.iload 5, 2) := by decide +kernel
theorem dX8_maximumDepth_57 : decode cX8_maximumDepth 57 = .ok (.bipush 16, 2) := by decide +kernel
theorem dX8_maximumDepth_59 : decode cX8_maximumDepth 59 = .ok (.if_icmp .gt 28, 3) := by decide +kernel
theorem dX8_maximumDepth_62 : decode cX8_maximumDepth 62 = .ok (.iload_n 3, 1) := by decide +kernel
theorem dX8_maximumDepth_63 : decode cX8_maximumDepth 63 = .ok (.aload_n 0, 1) := by decide +kernel
theorem dX8_maximumDepth_64 : decode cX8_maximumDepth 64 = .ok (.iload 4, 2) := by decide +kernel
theorem dX8_maximumDepth_66 : decode cX8_maximumDepth 66 = .ok (.iload 5, 2) := by decide +kernel
theorem dX8_maximumDepth_68 : decode cX8_maximumDepth 68 = .ok (.invokevirtual 212, 3) := by decide +kernel
theorem dX8_maximumDepth_71 : decode cX8_maximumDepth 71 = .ok (.ifCond .eq 7, 3) := by decide +kernel
theorem dX8_maximumDepth_74 : decode cX8_maximumDepth 74 = .ok (.iconst 1, 1) := by decide +kernel
theorem dX8_maximumDepth_75 : decode cX8_maximumDepth 75 = .ok (.goto 4, 3) := by decide +kernel
theorem dX8_maximumDepth_78 : decode cX8_maximumDepth 78 = .ok (.iconst 0, 1) := by decide +kernel
theorem dX8_maximumDepth_79 : decode cX8_maximumDepth 79 = .ok (.iadd, 1) := by decide +kernel
theorem dX8_maximumDepth_80 : decode cX8_maximumDepth 80 = .ok (.istore_n 3, 1) := by decide +kernel
theorem dX8_maximumDepth_81 : decode cX8_maximumDepth 81 = .ok (.iinc 5 1, 3) := by decide +kernel
theorem dX8_maximumDepth_84 : decode cX8_maximumDepth 84 = .ok (.goto (-29), 3) := by decide +kernel
theorem dX8_maximumDepth_87 : decode cX8_maximumDepth 87 = .ok (.iinc 4 1, 3) := by decide +kernel
theorem dX8_maximumDepth_90 : decode cX8_maximumDepth 90 = .ok (.goto (-49), 3) := by decide +kernel
theorem dX8_maximumDepth_93 : decode cX8_maximumDepth 93 = .ok (.iload_n 3, 1) := by decide +kernel
theorem dX8_maximumDepth_94 : decode cX8_maximumDepth 94 = .ok (.iload_n 1, 1) := by decide +kernel
theorem dX8_maximumDepth_95 : decode cX8_maximumDepth 95 = .ok (.if_icmp .le 7, 3) := by decide +kernel
theorem dX8_maximumDepth_98 : decode cX8_maximumDepth 98 = .ok (.iload_n 3, 1) := by decide +kernel
theorem dX8_maximumDepth_99 : decode cX8_maximumDepth 99 = .ok (.goto 4, 3) := by decide +kernel
theorem dX8_maximumDepth_102 : decode cX8_maximumDepth 102 = .ok (.iload_n 1, 1) := by decide +kernel
theorem dX8_maximumDepth_103 : decode cX8_maximumDepth 103 = .ok (.istore_n 1, 1) := by decide +kernel
theorem dX8_maximumDepth_104 : decode cX8_maximumDepth 104 = .ok (.iinc 2 1, 3) := by decide +kernel
theorem dX8_maximumDepth_107 : decode cX8_maximumDepth 107 = .ok (.goto (-94), 3) := by decide +kernel
theorem dX8_maximumDepth_110 : decode cX8_maximumDepth 110 = .ok (.iload_n 1, 1) := by decide +kernel
theorem dX8_maximumDepth_111 : decode cX8_maximumDepth 111 = .ok (.ireturn, 1) := by decide +kernel
set_option maxRecDepth 20000 in
theorem ggX8_isContained_X8_hasAt : GoodIn wsX8_isContained wsX8_hasAt := goodIn_r _ [5, 6, 7, 8, 9, 10, 11, 12, 13, 14, 15, 16, 17, 18, 19, 20, 21, 22, 23, 24, 25, 26, 27, 28, 29, 30, 31, 32, 33, 34, 35, 36, 37, 38, 39, 40, 41, 42, 43, 44, 45, 46, 47, 48] (by decide +kernel) (by decide +kernel)
set_option maxRecDepth 20000 in
theorem gX8_isContained_X8_hasAt : GoodIn wsX8_isContained (wsV RX8 212 RX8 yX8_hasAt wsX8_hasAt) := goodIn_app (goodIn_of _ (by decide +kernel)) ggX8_isContained_X8_hasAt
theorem dX8_isContained_0 : decode cX8_isContained 0 = .ok (.iload_n 1, 1) := by decide +kernel
theorem dX8_isContained_1 : decode cX8_isContained 1 = .ok (.bipush 16, 2) := by decide +kernel
theorem dX8_isContained_3 : decode cX8_isContained 3 = .ok (.if_icmp .ge 7, 3) := by decide +kernel
theorem dX8_isContained_6 : decode cX8_isContained 6 = .ok (.iconst 0, 1) := by decide +kernel
theorem dX8_isContained_7 : decode cX8_isContained 7 = .ok (.goto 9, 3) := by decide +kernel
theorem dX8_isContained_10 : decode cX8_isContained 10 = .ok (.iload_n 1, 1) := by decide +kernel
theorem dX8_isContained_11 : decode cX8_isContained 11 = .ok (.bipush 16, 2) := by decide +kernel
