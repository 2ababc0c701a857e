theorem dX8_init_210 : decode cX8_init 210 = .ok (.sipush 601, 3) := by decide +kernel
theorem dX8_init_213 : decode cX8_init 213 = .ok (.newarray .int, 2) := by decide +kernel
theorem dX8_init_215 : decode cX8_init 215 = .ok (.putfield 87, 3) := by decide +kernel
theorem dX8_init_218 : decode cX8_init 218 = .ok (.aload_n 0, 1) := by decide +kernel
theorem dX8_init_219 : decode cX8_init 219 = .ok (.sipush 601, 3) := by decide +kernel
theorem dX8_init_222 : decode cX8_init 222 = .ok (.newarray .int, 2) := by decide +kernel
theorem dX8_init_224 : decode cX8_init 224 = .ok (.putfield 90, 3) := by decide +kernel
theorem dX8_init_227 : decode cX8_init 227 = .ok (.aload_n 0, 1) := by decide +kernel
theorem dX8_init_228 : decode cX8_init 228 = .ok (.sipush 601, 3) := by decide +kernel
theorem dX8_init_231 : decode cX8_init 231 = .ok (.newarray .int, 2) := by decide +kernel
theorem dX8_init_233 : decode cX8_init 233 = .ok (.putfield 93, 3) := by decide +kernel
theorem dX8_init_236 : decode cX8_init 236 = .ok (.aload_n 0, 1) := by decide +kernel
theorem dX8_init_237 : decode cX8_init 237 = .ok (.sipush 600, 3) := by decide +kernel
theorem dX8_init_240 : decode cX8_init 240 = .ok (.newarray .int, 2) := by decide +kernel
theorem dX8_init_242 : decode cX8_init 242 = .ok (.putfield 96, 3) := by decide +kernel
theorem dX8_init_245 : decode cX8_init 245 = .ok (.return_, 1) := by decide +kernel
theorem dX8_appendBytes_0 : decode cX8_appendBytes 0 = .ok (.aload_n 0, 1) := by decide +kernel
theorem dX8_appendBytes_1 : decode cX8_appendBytes 1 = .ok (.iconst 0, 1) := by decide +kernel
theorem dX8_appendBytes_2 : decode cX8_appendBytes 2 = .ok (.putfield 1, 3) := by decide +kernel
theorem dX8_appendBytes_5 : decode cX8_appendBytes 5 = .ok (.aload_n 0, 1) := by decide +kernel
theorem dX8_appendBytes_6 : decode cX8_appendBytes 6 = .ok (.getfield 99, 3) := by decide +kernel
theorem dX8_appendBytes_9 : decode cX8_appendBytes 9 = .ok (.bipush 20, 2) := by decide +kernel
theorem dX8_appendBytes_11 : decode cX8_appendBytes 11 = .ok (.iadd, 1) := by decide +kernel
theorem dX8_appendBytes_12 : decode cX8_appendBytes 12 = .ok (.sipush 200, 3) := by decide +kernel
theorem dX8_appendBytes_15 : decode cX8_appendBytes 15 = .ok (.if_icmp .le 6, 3) := by decide +kernel
theorem dX8_appendBytes_18 : decode cX8_appendBytes 18 = .ok (.bipush (-6), 2) := by decide +kernel
theorem dX8_appendBytes_20 : decode cX8_appendBytes 20 = .ok (.ireturn, 1) := by decide +kernel
theorem dX8_appendBytes_21 : decode cX8_appendBytes 21 = .ok (.iconst 0, 1) := by decide +kernel
theorem dX8_appendBytes_22 : decode cX8_appendBytes 22 = .ok (.istore 6, 2) := by decide +kernel
theorem dX8_appendBytes_24 : decode cX8_appendBytes 24 = .ok (.iload 6, 2) := by decide +kernel
theorem dX8_appendBytes_26 : decode cX8_appendBytes 26 = .ok (.bipush 20, 2) := by decide +kernel
theorem dX8_appendBytes_28 : decode cX8_appendBytes 28 = .ok (.if_icmp .ge 93, 3) := by decide +kernel
theorem dX8_appendBytes_31 : decode cX8_appendBytes 31 = .ok (.iload 6, 2) := by decide +kernel
theorem dX8_appendBytes_33 : decode cX8_appendBytes 33 = .ok (.iconst 4, 1) := by decide +kernel
theorem dX8_appendBytes_34 : decode cX8_appendBytes 34 = .ok (.if_icmp .ge 7, 3) := by decide +kernel
theorem dX8_appendBytes_37 : decode cX8_appendBytes 37 = .ok (.iload_n 1, 1) := by decide +kernel
theorem dX8_appendBytes_38 : decode cX8_appendBytes 38 = .ok (.goto 39, 3) := by decide +kernel
theorem dX8_appendBytes_41 : decode cX8_appendBytes 41 = .ok (.iload 6, 2) := by decide +kernel
theorem dX8_appendBytes_43 : decode cX8_appendBytes 43 = .ok (.bipush 8, 2) := by decide +kernel
theorem dX8_appendBytes_45 : decode cX8_appendBytes 45 = .ok (.if_icmp .ge 7, 3) := by decide +kernel
theorem dX8_appendBytes_48 : decode cX8_appendBytes 48 = .ok (.iload_n 2, 1) := by decide +kernel
theorem dX8_appendBytes_49 : decode cX8_appendBytes 49 = .ok (.goto 28, 3) := by decide +kernel
theorem dX8_appendBytes_52 : decode cX8_appendBytes 52 = .ok (.iload 6, 2) := by decide +kernel
theorem dX8_appendBytes_54 : decode cX8_appendBytes 54 = .ok (.bipush 12, 2) := by decide +kernel
theorem dX8_appendBytes_56 : decode cX8_appendBytes 56 = .ok (.if_icmp .ge 7, 3) := by decide +kernel
theorem dX8_appendBytes_59 : decode cX8_appendBytes 59 = .ok (.iload_n 3, 1) := by decide +kernel
theorem dX8_appendBytes_60 : decode cX8_appendBytes 60 = .ok (.goto 17, 3) := by decide +kernel
theorem dX8_appendBytes_63 : decode cX8_appendBytes 63 = .ok (.iload 6, 2) := by decide +kernel
theorem dX8_appendBytes_65 : decode cX8_appendBytes 65 = .ok (.bipush 16, 2) := by decide +kernel
theorem dX8_appendBytes_67 : decode cX8_appendBytes 67 = .ok (.if_icmp .ge 8, 3) := by decide +kernel
theorem dX8_appendBytes_70 : decode cX8_appendBytes 70 = .ok (.iload 4, 2) := by decide +kernel
theorem dX8_appendBytes_72 : decode cX8_appendBytes 72 = .ok (.goto 5, 3) := by decide +kernel
theorem dX8_appendBytes_75 : decode cX8_appendBytes 75 = .ok (.iload 5, 2) := by decide +kernel
theorem dX8_appendBytes_77 : decode cX8_appendBytes 77 = .ok (.istore 7, 2) := by decide +kernel
theorem dX8_appendBytes_79 : decode cX8_appendBytes 79 = .ok (.aload_n 0, 1) := by decide +kernel
theorem dX8_appendBytes_80 : decode cX8_appendBytes 80 = .ok (.getfield 13, 3) := by decide +kernel
theorem dX8_appendBytes_83 : decode cX8_appendBytes 83 = .ok (.aload_n 0, 1) := by decide +kernel
theorem dX8_appendBytes_84 : decode cX8_appendBytes 84 = .ok (.getfield 99, 3) := by decide +kernel
theorem dX8_appendBytes_87 : decode cX8_appendBytes 87 = .ok (.iload 7, 2) := by decide +kernel
theorem dX8_appendBytes_89 : decode cX8_appendBytes 89 = .ok (.bipush 24, 2) := by decide +kernel
theorem dX8_appendBytes_91 : decode cX8_appendBytes 91 = .ok (.bipush 8, 2) := by decide +kernel
theorem dX8_appendBytes_93 : decode cX8_appendBytes 93 = .ok (.iload 6, 2) := by decide +kernel
theorem dX8_appendBytes_95 : decode cX8_appendBytes 95 = .ok (.iconst 4, 1) := by decide +kernel
theorem dX8_appendBytes_96 : decode cX8_appendBytes 96 = .ok (.irem, 1) := by decide +kernel
theorem dX8_appendBytes_97 : decode cX8_appendBytes 97 = .ok (.imul, 1) := by decide +kernel
theorem dX8_appendBytes_98 : decode cX8_appendBytes 98 = .ok (.isub, 1) := by decide +kernel
theorem dX8_appendBytes_99 : decode cX8_appendBytes 99 = .ok (.ishr, 1) := by decide +kernel
theorem dX8_appendBytes_100 : decode cX8_appendBytes 100 = .ok (.sipush 255, 3) := by decide +kernel
theorem dX8_appendBytes_103 : decode cX8_appendBytes 103 = .ok (.iand, 1) := by decide +kernel
theorem dX8_appendBytes_104 : decode cX8_appendBytes 104 = .ok (.iastore, 1) := by decide +kernel
theorem dX8_appendBytes_105 : decode cX8_appendBytes 105 = .ok (.aload_n 0, 1) := by decide +kernel
theorem dX8_appendBytes_106 : decode cX8_appendBytes 106 = .ok (.dup, 1) := by decide +kernel
theorem dX8_appendBytes_107 : decode cX8_appendBytes 107 = .ok (.getfield 99, 3) := by decide +kernel
theorem dX8_appendBytes_110 : decode cX8_appendBytes 110 = .ok (.iconst 1, 1) := by decide +kernel
theorem dX8_appendBytes_111 : decode cX8_appendBytes 111 = .ok (.iadd, 1) := by decide +kernel
theorem dX8_appendBytes_112 : decode cX8_appendBytes 112 = .ok (.putfield 99, 3) := by decide +kernel
theorem dX8_appendBytes_115 : decode cX8_appendBytes 115 = .ok (.iinc 6 1, 3) := by decide +kernel
theorem dX8_appendBytes_118 : decode cX8_appendBytes 118 = .ok (.goto (-94), 3) := by decide +kernel
theorem dX8_appendBytes_121 : decode cX8_appendBytes 121 = .ok (.aload_n 0, 1) := by decide +kernel
theorem dX8_appendBytes_122 : decode cX8_appendBytes 122 = .ok (.getfield 99, 3) := by decide +kernel
theorem dX8_appendBytes_125 : decode cX8_appendBytes 125 = .ok (.ireturn, 1) := by decide +kernel
theorem dX8_bufferLength_0 : decode cX8_bufferLength 0 = .ok (.aload_n 0, 1) := by decide +kernel
theorem dX8_bufferLength_1 : decode cX8_bufferLength 1 = .ok (.iconst 0, 1) := by decide +kernel
theorem dX8_bufferLength_2 : decode cX8_bufferLength 2 = .ok (.putfield 1, 3) := by decide +kernel
theorem dX8_bufferLength_5 : decode cX8_bufferLength 5 = .ok (.aload_n 0, 1) := by decide +kernel
theorem dX8_bufferLength_6 : decode cX8_bufferLength 6 = .ok (.getfield 99, 3) := by decide +kernel
theorem dX8_bufferLength_9 : decode cX8_bufferLength 9 = .ok (.ireturn, 1) := by decide +kernel
set_option maxRecDepth 20000 in
theorem ggX8_isGiven_X8_isIn : GoodIn wsX8_isGiven wsX8_isIn := goodIn_r _ [5] (by decide +kernel) (by decide +kernel)
set_option maxRecDepth 20000 in
theorem gX8_isGiven_X8_isIn : GoodIn wsX8_isGiven (va_wsS RX8 105 yX8_isIn wsX8_isIn) := goodIn_app (goodIn_of _ (by decide +kernel)) ggX8_isGiven_X8_isIn
theorem dX8_isGiven_0 : decode cX8_isGiven 0 = .ok (.iload_n 1, 1) := by decide +kernel
theorem dX8_isGiven_1 : decode cX8_isGiven 1 = .ok (.i2l, 1) := by decide +kernel
theorem dX8_isGiven_2 : decode cX8_isGiven 2 = .ok (.lconst 0, 1) := by decide +kernel
theorem dX8_isGiven_3 : decode cX8_isGiven 3 = .ok (.aload_n 0, 1) := by decide +kernel
theorem dX8_isGiven_4 : decode cX8_isGiven 4 = .ok (.getfield 102, 3) := by decide +kernel
theorem dX8_isGiven_7 : decode cX8_isGiven 7 = .ok (.iconst 1, 1) := by decide +kernel
theorem dX8_isGiven_8 : decode cX8_isGiven 8 = .ok (.isub, 1) := by decide +kernel
theorem dX8_isGiven_9 : decode cX8_isGiven 9 = .ok (.i2l, 1) := by decide +kernel
theorem dX8_isGiven_10 : decode cX8_isGiven 10 = .ok (.invokestatic 105, 3) := by decide +kernel
theorem dX8_isGiven_13 : decode cX8_isGiven 13 = .ok (.ireturn, 1) := by decide +kernel
set_option maxRecDepth 20000 in
theorem ggX8_isLiveOne_X8_isGiven : GoodIn wsX8_isLiveOne wsX8_isGiven := goodIn_r _ [6, 7, 8, 9, 5, 10, 11, 12, 13, 14, 15, 16, 17, 18, 19, 20, 21, 22, 23, 24, 25, 26, 27, 28, 29, 30, 31, 32, 33, 34, 35, 36, 37, 38, 39, 40, 41, 42, 43, 44, 45, 46, 47, 48, 49, 50, 51, 52] (by decide +kernel) (by decide +kernel)
set_option maxRecDepth 20000 in
theorem gX8_isLiveOne_X8_isGiven : GoodIn wsX8_isLiveOne (wsV RX8 109 RX8 yX8_isGiven wsX8_isGiven) := goodIn_app (goodIn_of _ (by decide +kernel)) ggX8_isLiveOne_X8_isGiven
theorem dX8_isLiveOne_0 : decode cX8_isLiveOne 0 = .ok (.aload_n 0, 1) := by decide +kernel
theorem dX8_isLiveOne_1 : decode cX8_isLiveOne 1 = .ok (.iload_n 1, 1) := by decide +kernel
theorem dX8_isLiveOne_2 : decode cX8_isLiveOne 2 = .ok (.invokevirtual 109, 3) := by decide +kernel
theorem dX8_isLiveOne_5 : decode cX8_isLiveOne 5 = .ok (.ifCond .eq 16, 3) := by decide +kernel
theorem dX8_isLiveOne_8 : decode cX8_isLiveOne 8 = .ok (.aload_n 0, 1) := by decide +kernel
theorem dX8_isLiveOne_9 : decode cX8_isLiveOne 9 = .ok (.getfield 26, 3) := by decide +kernel
theorem dX8_isLiveOne_12 : decode cX8_isLiveOne 12 = .ok (.iload_n 1, 1) := by decide +kernel
theorem dX8_isLiveOne_13 : decode cX8_isLiveOne 13 = .ok (.baload, 1) := by decide +kernel
theorem dX8_isLiveOne_14 : decode cX8_isLiveOne 14 = .ok (.ifCond .eq 7, 3) := by decide +kernel
theorem dX8_isLiveOne_17 : decode cX8_isLiveOne 17 = .ok (.iconst 1, 1) := by decide +kernel
theorem dX8_isLiveOne_18 : decode cX8_isLiveOne 18 = .ok (.goto 4, 3) := by decide +kernel
theorem dX8_isLiveOne_21 : decode cX8_isLiveOne 21 = .ok (.iconst 0, 1) := by decide +kernel
theorem dX8_isLiveOne_22 : decode cX8_isLiveOne 22 = .ok (.ireturn, 1) := by decide +kernel
set_option maxRecDepth 20000 in
theorem ggX8_folded_X8_isIn : GoodIn wsX8_folded wsX8_isIn := goodIn_r _ [7] (by decide +kernel) (by decide +kernel)
set_option maxRecDepth 20000 in
theorem gX8_folded_X8_isIn : GoodIn wsX8_folded (va_wsS RX8 105 yX8_isIn wsX8_isIn) := goodIn_app (goodIn_of _ (by decide +kernel)) ggX8_folded_X8_isIn
theorem dX8_folded_0 : decode cX8_folded 0 = .ok (.aload_n 0, 1) := by decide +kernel
theorem dX8_folded_1 : decode cX8_folded 1 = .ok (.getfield 113, 3) := by decide +kernel
theorem dX8_folded_4 : decode cX8_folded 4 = .ok (.ifCond .eq 24, 3) := by decide +kernel
theorem dX8_folded_7 : decode cX8_folded 7 = .ok (.iload_n 1, 1) := by decide +kernel
theorem dX8_folded_8 : decode cX8_folded 8 = .ok (.i2l, 1) := by decide +kernel
theorem dX8_folded_9 : decode cX8_folded 9 = .ok (.ldc2_w 117, 3) := by decide +kernel
theorem dX8_folded_12 : decode cX8_folded 12 = .ok (.ldc2_w 119, 3) := by decide +kernel
theorem dX8_folded_15 : decode cX8_folded 15 = .ok (.invokestatic 105, 3) := by decide +kernel
theorem dX8_folded_18 : decode cX8_folded 18 = .ok (.ifCond .eq 10, 3) := by decide +kernel
theorem dX8_folded_21 : decode cX8_folded 21 = .ok (.iload_n 1, 1) := by decide +kernel
theorem dX8_folded_22 : decode cX8_folded 22 = .ok (.bipush 32, 2) := by decide +kernel
theorem dX8_folded_24 : decode cX8_folded 24 = .ok (.iadd, 1) := by decide +kernel
theorem dX8_folded_25 : decode cX8_folded 25 = .ok (.goto 4, 3) := by decide +kernel
theorem dX8_folded_28 : decode cX8_folded 28 = .ok (.iload_n 1, 1) := by decide +kernel
theorem dX8_folded_29 : decode cX8_folded 29 = .ok (.ireturn, 1) := by decide +kernel
set_option maxRecDepth 20000 in
theorem ggX8_like_X8_folded : GoodIn wsX8_like wsX8_folded := goodIn_r _ [5, 6, 7, 8, 9, 10, 4, 11, 12, 13, 14, 15, 16, 17, 18, 19, 20, 21, 22, 23, 24, 25, 26, 27, 28, 29, 30, 31, 32, 33, 34, 35, 36, 37, 38, 39, 40, 41, 42, 43, 44, 45, 46, 47, 48, 49, 50, 51, 52, 53] (by decide +kernel) (by decide +kernel)
set_option maxRecDepth 20000 in
theorem gX8_like_X8_folded : GoodIn wsX8_like (wsV RX8 121 RX8 yX8_folded wsX8_folded) := goodIn_app (goodIn_of _ (by decide +kernel)) ggX8_like_X8_folded
theorem dX8_like_0 : decode cX8_like 0 = .ok (.aload_n 0, 1) := by decide +kernel
theorem dX8_like_1 : decode cX8_like 1 = .ok (.iload_n 1, 1) := by decide +kernel
theorem dX8_like_2 : decode cX8_like 2 = .ok (.invokevirtual 121, 3) := by decide +kernel
theorem dX8_like_5 : decode cX8_like 5 = .ok (.aload_n 0, 1) := by decide +kernel
theorem dX8_like_6 : decode cX8_like 6 = .ok (.iload_n 2, 1) := by decide +kernel
theorem dX8_like_7 : decode cX8_like 7 = .ok (.invokevirtual 121, 3) := by decide +kernel
theorem dX8_like_10 : decode cX8_like 10 = .ok (.if_icmp .ne 7, 3) := by decide +kernel
theorem dX8_like_13 : decode cX8_like 13 = .ok (.iconst 1, 1) := by decide +kernel
theorem dX8_like_14 : decode cX8_like 14 = .ok (.goto 4, 3) := by decide +kernel
theorem dX8_like_17 : decode cX8_like 17 = .ok (.iconst 0, 1) := by decide +kernel
theorem dX8_like_18 : decode cX8_like 18 = .ok (.ireturn, 1) := by decide +kernel
theorem dX8_byteOf_0 : decode cX8_byteOf 0 = .ok (.aload_n 0, 1) := by decide +kernel
theorem dX8_byteOf_1 : decode cX8_byteOf 1 = .ok (.getfield 20, 3) := by decide +kernel
theorem dX8_byteOf_4 : decode cX8_byteOf 4 = .ok (.bipush 16, 2) := by decide +kernel
theorem dX8_byteOf_6 : decode cX8_byteOf 6 = .ok (.iload_n 1, 1) := by decide +kernel
theorem dX8_byteOf_7 : decode cX8_byteOf 7 = .ok (.imul, 1) := by decide +kernel
theorem dX8_byteOf_8 : decode cX8_byteOf 8 = .ok (.iload_n 2, 1) := by decide +kernel
theorem dX8_byteOf_9 : decode cX8_byteOf 9 = .ok (.iadd, 1) := by decide +kernel
theorem dX8_byteOf_10 : decode cX8_byteOf 10 = .ok (.iaload, 1) := by decide +kernel
theorem dX8_byteOf_11 : decode cX8_byteOf 11 = .ok (.ireturn, 1) := by decide +kernel
set_option maxRecDepth 20000 in
theorem ggX8_isBuffer_X8_byteOf : GoodIn wsX8_isBuffer wsX8_byteOf := goodIn_r _ [7, 8, 23, 24, 25, 26, 27, 28, 29, 30, 31, 32, 33, 34, 35, 36, 37, 38, 39, 40, 41, 42, 43, 44, 45, 46, 47, 48, 49, 50, 51, 52, 53, 54, 55, 56, 57, 58, 59, 60, 61, 62, 63, 64] (by decide +kernel) (by decide +kernel)
set_option maxRecDepth 20000 in
theorem gX8_isBuffer_X8_byteOf : GoodIn wsX8_isBuffer (wsV RX8 125 RX8 yX8_byteOf wsX8_byteOf) := goodIn_app (goodIn_of _ (by decide +kernel)) ggX8_isBuffer_X8_byteOf
set_option maxRecDepth 20000 in
theorem ggX8_isBuffer_X8_like : GoodIn wsX8_isBuffer wsX8_like := goodIn_r _ [12, 13, 14, 15, 6, 16, 17, 18, 19, 20, 21, 22, 23, 24, 25, 26, 27, 28, 29, 30, 31, 32, 33, 34, 35, 36, 37, 38, 39, 40, 41, 42, 43, 44, 45, 46, 47, 48, 49, 50, 51, 52, 53, 54, 55, 56, 57, 58, 59, 60, 61, 62, 63, 64] (by decide +kernel) (by decide +kernel)
set_option maxRecDepth 20000 in
theorem gX8_isBuffer_X8_like : GoodIn wsX8_isBuffer (wsV RX8 129 RX8 yX8_like wsX8_like) := goodIn_app (goodIn_of _ (by decide +kernel)) ggX8_isBuffer_X8_like
theorem dX8_isBuffer_0 : decode cX8_isBuffer 0 = .ok (.aload_n 0, 1) := by decide +kernel
theorem dX8_isBuffer_1 : decode cX8_isBuffer 1 = .ok (.getfield 17, 3) := by decide +kernel
theorem dX8_isBuffer_4 : decode cX8_isBuffer 4 = .ok (.iload_n 1, 1) := by decide +kernel
theorem dX8_isBuffer_5 : decode cX8_isBuffer 5 = .ok (.iaload, 1) := by decide +kernel
theorem dX8_isBuffer_6 : decode cX8_isBuffer 6 = .ok (.iload_n 2, 1) := by decide +kernel
theorem dX8_isBuffer_7 : decode cX8_isBuffer 7 = .ok (.if_icmp .eq 5, 3) := by decide +kernel
theorem dX8_isBuffer_10 : decode cX8_isBuffer 10 = .ok (.iconst 0, 1) := by decide +kernel
theorem dX8_isBuffer_11 : decode cX8_isBuffer 11 = .ok (.ireturn, 1) := by decide +kernel
theorem dX8_isBuffer_12 : decode cX8_isBuffer 12 = .ok (.iconst 0, 1) := by decide +kernel
theorem dX8_isBuffer_13 : decode cX8_isBuffer 13 = .ok (.istore_n 3, 1) := by decide +kernel
theorem dX8_isBuffer_14 : decode cX8_isBuffer 14 = .ok (.iload_n 3, 1) := by decide +kernel
theorem dX8_isBuffer_15 : decode cX8_isBuffer 15 = .ok (.iload_n 2, 1) := by decide +kernel
theorem dX8_isBuffer_16 : decode cX8_isBuffer 16 = .ok (.if_icmp .ge 30, 3) := by decide +kernel
theorem dX8_isBuffer_19 : decode cX8_isBuffer 19 = .ok (.aload_n 0, 1) := by decide +kernel
theorem dX8_isBuffer_20 : decode cX8_isBuffer 20 = .ok (.aload_n 0, 1) := by decide +kernel
theorem dX8_isBuffer_21 : decode cX8_isBuffer 21 = .ok (.iload_n 1, 1) := by decide +kernel
theorem dX8_isBuffer_22 : decode cX8_isBuffer 22 = .ok (.iload_n 3, 1) := by decide +kernel
theorem dX8_isBuffer_23 : decode cX8_isBuffer 23 = .ok (.invokevirtual 125, 3) := by decide +kernel
theorem dX8_isBuffer_26 : decode cX8_isBuffer 26 = .ok (.aload_n 0, 1) := by decide +kernel
theorem dX8_isBuffer_27 : decode cX8_isBuffer 27 = .ok (.getfield 13, 3) := by decide +kernel
theorem dX8_isBuffer_30 : decode cX8_isBuffer 30 = .ok (.iload_n 3, 1) := by decide +kernel
theorem dX8_isBuffer_31 : decode cX8_isBuffer 31 = .ok (.iaload, 1) := by decide +kernel
theorem dX8_isBuffer_32 : decode cX8_isBuffer 32 = .ok (.invokevirtual 129, 3) := by decide +kernel
theorem dX8_isBuffer_35 : decode cX8_isBuffer 35 = .ok (.ifCond .ne 5, 3) := by decide +kernel
theorem dX8_isBuffer_38 : decode cX8_isBuffer 38 = .ok (.iconst 0, 1) := by decide +kernel
theorem dX8_isBuffer_39 : decode cX8_isBuffer 39 = .ok (.ireturn, 1) := by decide +kernel
theorem dX8_isBuffer_40 : decode cX8_isBuffer 40 = .ok (.iinc 3 1, 3) := by decide +kernel
theorem dX8_isBuffer_43 : decode cX8_isBuffer 43 = .ok (.goto (-29), 3) := by decide +kernel
theorem dX8_isBuffer_46 : decode cX8_isBuffer 46 = .ok (.iconst 1, 1) := by decide +kernel
theorem dX8_isBuffer_47 : decode cX8_isBuffer 47 = .ok (.ireturn, 1) := by decide +kernel
set_option maxRecDepth 20000 in
theorem ggX8_found_X8_isBuffer : GoodIn wsX8_found wsX8_isBuffer := goodIn_r _ [7, 8, 9, 10, 11, 12, 6, 13, 14, 15, 16, 17, 18, 19, 20, 21, 22, 23, 24, 25, 26, 27, 28, 29, 30, 31, 32, 33, 34, 35, 36, 37, 38, 39, 40, 41, 42, 43, 44, 45, 46, 47, 48, 49, 50, 51, 52, 53, 54, 55, 56, 57, 58, 59, 60, 61, 62, 63, 64, 65, 66, 67, 68, 69, 70] (by decide +kernel) (by decide +kernel)
set_option maxRecDepth 20000 in
theorem gX8_found_X8_isBuffer : GoodIn wsX8_found (wsV RX8 133 RX8 yX8_isBuffer wsX8_isBuffer) := goodIn_app (goodIn_of _ (by decide +kernel)) ggX8_found_X8_isBuffer
theorem dX8_found_0 : decode cX8_found 0 = .ok (.iconst 0, 1) := by decide +kernel
theorem dX8_found_1 : decode cX8_found 1 = .ok (.istore_n 2, 1) := by decide +kernel
theorem dX8_found_2 : decode cX8_found 2 = .ok (.iload_n 2, 1) := by decide +kernel
theorem dX8_found_3 : decode cX8_found 3 = .ok (.aload_n 0, 1) := by decide +kernel
theorem dX8_found_4 : decode cX8_found 4 = .ok (.getfield 102, 3) := by decide +kernel
theorem dX8_found_7 : decode cX8_found 7 = .ok (.if_icmp .ge 29, 3) := by decide +kernel
theorem dX8_found_10 : decode cX8_found 10 = .ok (.aload_n 0, 1) := by decide +kernel
theorem dX8_found_11 : decode cX8_found 11 = .ok (.getfield 26, 3) := by decide +kernel
theorem dX8_found_14 : decode cX8_found 14 = .ok (.iload_n 2, 1) := by decide +kernel
theorem dX8_found_15 : decode cX8_found 15 = .ok (.baload, 1) := by decide +kernel
theorem dX8_found_16 : decode cX8_found 16 = .ok (.ifCond .eq 14, 3) := by decide +kernel
theorem dX8_found_19 : decode cX8_found 19 = .ok (.aload_n 0, 1) := by decide +kernel
theorem dX8_found_20 : decode cX8_found 20 = .ok (.iload_n 2, 1) := by decide +kernel
theorem dX8_found_21 : decode cX8_found 21 = .ok (.iload_n 1, 1) := by decide +kernel
theorem dX8_found_22 : decode cX8_found 22 = .ok (.invokevirtual 133, 3) := by decide +kernel
theorem dX8_found_25 : decode cX8_found 25 = .ok (.ifCond .eq 5, 3) := by decide +kernel
theorem dX8_found_28 : decode cX8_found 28 = .ok (.iload_n 2, 1) := by decide +kernel
theorem dX8_found_29 : decode cX8_found 29 = .ok (.ireturn, 1) := by decide +kernel
theorem dX8_found_30 : decode cX8_found 30 = .ok (.iinc 2 1, 3) := by decide +kernel
theorem dX8_found_33 : decode cX8_found 33 = .ok (.goto (-31), 3) := by decide +kernel
theorem dX8_found_36 : decode cX8_found 36 = .ok (.iconst (-1), 1) := by decide +kernel
theorem dX8_found_37 : decode cX8_found 37 = .ok (.ireturn, 1) := by decide +kernel
theorem dX8_lives_0 : decode cX8_lives 0 = .ok (.iconst 0, 1) := by decide +kernel
theorem dX8_lives_1 : decode cX8_lives 1 = .ok (.istore_n 1, 1) := by decide +kernel
theorem dX8_lives_2 : decode cX8_lives 2 = .ok (.iconst 0, 1) := by decide +kernel
theorem dX8_lives_3 : decode cX8_lives 3 = .ok (.istore_n 2, 1) := by decide +kernel
theorem dX8_lives_4 : decode cX8_lives 4 = .ok (.iload_n 2, 1) := by decide +kernel
theorem dX8_lives_5 : decode cX8_lives 5 = .ok (.aload_n 0, 1) := by decide +kernel
theorem dX8_lives_6 : decode cX8_lives 6 = .ok (.getfield 102, 3) := by decide +kernel
theorem dX8_lives_9 : decode cX8_lives 9 = .ok (.if_icmp .ge 26, 3) := by decide +kernel
theorem dX8_lives_12 : decode cX8_lives 12 = .ok (.iload_n 1, 1) := by decide +kernel
theorem dX8_lives_13 : decode cX8_lives 13 = .ok (.aload_n 0, 1) := by decide +kernel
theorem dX8_lives_14 : decode cX8_lives 14 = .ok (.getfield 26, 3) := by decide +kernel
theorem dX8_lives_17 : decode cX8_lives 17 = .ok (.iload_n 2, 1) := by decide +kernel
theorem dX8_lives_18 : decode cX8_lives 18 = .ok (.baload, 1) := by decide +kernel
theorem dX8_lives_19 : decode cX8_lives 19 = .ok (.ifCond .eq 7, 3) := by decide +kernel
theorem dX8_lives_22 : decode cX8_lives 22 = .ok (.iconst 1, 1) := by decide +kernel
theorem dX8_lives_23 : decode cX8_lives 23 = .ok (.goto 4, 3) := by decide +kernel
theorem dX8_lives_26 : decode cX8_lives 26 = .ok (.iconst 0, 1) := by decide +kernel
theorem dX8_lives_27 : decode cX8_lives 27 = .ok (.iadd, 1) := by decide +kernel
theorem dX8_lives_28 : decode cX8_lives 28 = .ok (.istore_n 1, 1) := by decide +kernel
theorem dX8_lives_29 : decode cX8_lives 29 = .ok (.iinc 2 1, 3) := by decide +kernel
theorem dX8_lives_32 : decode cX8_lives 32 = .ok (.goto (-28), 3) := by decide +kernel
theorem dX8_lives_35 : decode cX8_lives 35 = .ok (.iload_n 1, 1) := by decide +kernel
theorem dX8_lives_36 : decode cX8_lives 36 = .ok (.ireturn, 1) := by decide +kernel
set_option maxRecDepth 20000 in
theorem ggX8_isText_X8_isIn : GoodIn wsX8_isText wsX8_isIn := goodIn_r _ [8] (by decide +kernel) (by decide +kernel)
set_option maxRecDepth 20000 in
theorem gX8_isText_X8_isIn : GoodIn wsX8_isText (va_wsS RX8 105 yX8_isIn wsX8_isIn) := goodIn_app (goodIn_of _ (by decide +kernel)) ggX8_isText_X8_isIn
theorem dX8_isText_0 : decode cX8_isText 0 = .ok (.iload_n 1, 1) := by decide +kernel
theorem dX8_isText_1 : decode cX8_isText 1 = .ok (.i2l, 1) := by decide +kernel
theorem dX8_isText_2 : decode cX8_isText 2 = .ok (.lconst 1, 1) := by decide +kernel
theorem dX8_isText_3 : decode cX8_isText 3 = .ok (.ldc2_w 136, 3) := by decide +kernel
theorem dX8_isText_6 : decode cX8_isText 6 = .ok (.invokestatic 105, 3) := by decide +kernel
theorem dX8_isText_9 : decode cX8_isText 9 = .ok (.istore_n 2, 1) := by decide +kernel
theorem dX8_isText_10 : decode cX8_isText 10 = .ok (.iconst 0, 1) := by decide +kernel
theorem dX8_isText_11 : decode cX8_isText 11 = .ok (.istore_n 3, 1) := by decide +kernel
theorem dX8_isText_12 : decode cX8_isText 12 = .ok (.iload_n 3, 1) := by decide +kernel
theorem dX8_isText_13 : decode cX8_isText 13 = .ok (.iload_n 1, 1) := by decide +kernel
theorem dX8_isText_14 : decode cX8_isText 14 = .ok (.if_icmp .ge 30, 3) := by decide +kernel
theorem dX8_isText_17 : decode cX8_isText 17 = .ok (.iload_n 2, 1) := by decide +kernel
theorem dX8_isText_18 : decode cX8_isText 18 = .ok (.ifCond .eq 26, 3) := by decide +kernel
theorem dX8_isText_21 : decode cX8_isText 21 = .ok (.aload_n 0, 1) := by decide +kernel
theorem dX8_isText_22 : decode cX8_isText 22 = .ok (.getfield 13, 3) := by decide +kernel
theorem dX8_isText_25 : decode cX8_isText 25 = .ok (.iload_n 3, 1) := by decide +kernel
theorem dX8_isText_26 : decode cX8_isText 26 = .ok (.iaload, 1) := by decide +kernel
theorem dX8_isText_27 : decode cX8_isText 27 = .ok (.i2l, 1) := by decide +kernel
theorem dX8_isText_28 : decode cX8_isText 28 = .ok (.ldc2_w 138, 3) := by decide +kernel
theorem dX8_isText_31 : decode cX8_isText 31 = .ok (.ldc2_w 140, 3) := by decide +kernel
theorem dX8_isText_34 : decode cX8_isText 34 = .ok (.invokestatic 105, 3) := by decide +kernel
theorem dX8_isText_37 : decode cX8_isText 37 = .ok (.istore_n 2, 1) := by decide +kernel
theorem dX8_isText_38 : decode cX8_isText 38 = .ok (.iinc 3 1, 3) := by decide +kernel
theorem dX8_isText_41 : decode cX8_isText 41 = .ok (.goto (-29), 3) := by decide +kernel
theorem dX8_isText_44 : decode cX8_isText 44 = .ok (.iload_n 2, 1) := by decide +kernel
theorem dX8_isText_45 : decode cX8_isText 45 = .ok (.ireturn, 1) := by decide +kernel
set_option maxRecDepth 20000 in
theorem ggX8_addKeyword_X8_isIn : GoodIn wsX8_addKeyword wsX8_isIn := goodIn_r _ [14] (by decide +kernel) (by decide +kernel)
set_option maxRecDepth 20000 in
theorem gX8_addKeyword_X8_isIn : GoodIn wsX8_addKeyword (va_wsS RX8 105 yX8_isIn wsX8_isIn) := goodIn_app (goodIn_of _ (by decide +kernel)) ggX8_addKeyword_X8_isIn
set_option maxRecDepth 20000 in
theorem ggX8_addKeyword_X8_isText : GoodIn wsX8_addKeyword wsX8_isText := goodIn_r _ [18, 19, 9, 20, 21, 11, 12, 13, 14, 57, 58, 59, 60, 61, 62, 63, 64, 65, 66, 67, 68, 69, 70, 71, 72, 73, 74, 75, 76, 77, 78, 79, 80, 81, 82, 83, 84, 85, 86, 87, 88, 89, 90, 91, 92, 93, 94, 95, 96, 97, 98] (by decide +kernel) (by decide +kernel)
set_option maxRecDepth 20000 in
theorem gX8_addKeyword_X8_isText : GoodIn wsX8_addKeyword (wsV RX8 144 RX8 yX8_isText wsX8_isText) := goodIn_app (goodIn_of _ (by decide +kernel)) ggX8_addKeyword_X8_isText
set_option maxRecDepth 20000 in
theorem ggX8_addKeyword_X8_found : GoodIn wsX8_addKeyword wsX8_found := goodIn_r _ [25, 4, 7, 26, 27, 28, 13, 29, 5, 9, 30, 31, 32, 33, 8, 34, 35, 36, 37, 38, 39, 40, 41, 42, 43, 44, 11, 12, 14, 57, 58, 59, 60, 61, 62, 63, 64, 65, 66, 67, 68, 69, 70, 71, 72, 73, 74, 75, 76, 77, 78, 79, 80, 81, 82, 83, 84, 85, 86, 87, 88, 89, 90, 91, 92, 93, 94, 95, 96, 97, 98] (by decide +kernel) (by decide +kernel)
set_option maxRecDepth 20000 in
theorem gX8_addKeyword_X8_found : GoodIn wsX8_addKeyword (wsV RX8 147 RX8 yX8_found wsX8_found) := goodIn_app (goodIn_of _ (by decide +kernel)) ggX8_addKeyword_X8_found
set_option maxRecDepth 20000 in
theorem ggX8_addKeyword_X8_lives : GoodIn wsX8_addKeyword wsX8_lives := goodIn_r _ [48, 4, 7, 57, 58, 59, 60, 61, 62, 63, 64, 65, 66, 67, 68, 69, 70, 71, 72, 73, 74, 75, 76, 77, 78, 79, 80, 81, 82, 83, 84, 85, 86, 87, 88, 89, 90, 91, 92, 93, 94, 95, 96, 97, 98] (by decide +kernel) (by decide +kernel)
set_option maxRecDepth 20000 in
theorem gX8_addKeyword_X8_lives : GoodIn wsX8_addKeyword (wsV RX8 150 RX8 yX8_lives wsX8_lives) := goodIn_app (goodIn_of _ (by decide +kernel)) ggX8_addKeyword_X8_lives
set_option maxRecDepth 20000 in
theorem ggX8_addKeyword_X8_inserts : GoodIn wsX8_addKeyword wsX8_inserts := goodIn_r _ [52, 53, 54, 55, 56, 57, 58, 59, 60, 61, 62, 63, 64, 65, 66, 67, 68, 69, 70, 71, 72, 73, 74, 75, 76, 77, 78, 79, 80, 81, 82, 83, 84, 85, 86, 87, 88, 89, 90, 91, 92, 93, 94, 95, 96, 97, 98] (by decide +kernel) (by decide +kernel)
set_option maxRecDepth 20000 in
theorem gX8_addKeyword_X8_inserts : GoodIn wsX8_addKeyword (wsV RX8 157 RX8 yX8_inserts wsX8_inserts) := goodIn_app (goodIn_of _ (by decide +kernel)) ggX8_addKeyword_X8_inserts
theorem dX8_addKeyword_0 : decode cX8_addKeyword 0 = .ok (.aload_n 0, 1) := by decide +kernel
theorem dX8_addKeyword_1 : decode cX8_addKeyword 1 = .ok (.iconst 0, 1) := by decide +kernel
theorem dX8_addKeyword_2 : decode cX8_addKeyword 2 = .ok (.putfield 1, 3) := by decide +kernel
theorem dX8_addKeyword_5 : decode cX8_addKeyword 5 = .ok (.iload_n 1, 1) := by decide +kernel
theorem dX8_addKeyword_6 : decode cX8_addKeyword 6 = .ok (.i2l, 1) := by decide +kernel
theorem dX8_addKeyword_7 : decode cX8_addKeyword 7 = .ok (.lconst 0, 1) := by decide +kernel
theorem dX8_addKeyword_8 : decode cX8_addKeyword 8 = .ok (.aload_n 0, 1) := by decide +kernel
theorem dX8_addKeyword_9 : decode cX8_addKeyword 9 = .ok (.getfield 99, 3) := by decide +kernel
theorem dX8_addKeyword_12 : decode cX8_addKeyword 12 = .ok (.i2l, 1) := by decide +kernel
theorem dX8_addKeyword_13 : decode cX8_addKeyword 13 = .ok (.invokestatic 105, 3) := by decide +kernel
theorem dX8_addKeyword_16 : decode cX8_addKeyword 16 = .ok (.ifCond .eq 15, 3) := by decide +kernel
theorem dX8_addKeyword_19 : decode cX8_addKeyword 19 = .ok (.iload_n 2, 1) := by decide +kernel
theorem dX8_addKeyword_20 : decode cX8_addKeyword 20 = .ok (.i2l, 1) := by decide +kernel
theorem dX8_addKeyword_21 : decode cX8_addKeyword 21 = .ok (.lconst 1, 1) := by decide +kernel
theorem dX8_addKeyword_22 : decode cX8_addKeyword 22 = .ok (.ldc2_w 142, 3) := by decide +kernel
theorem dX8_addKeyword_25 : decode cX8_addKeyword 25 = .ok (.invokestatic 105, 3) := by decide +kernel
theorem dX8_addKeyword_28 : decode cX8_addKeyword 28 = .ok (.ifCond .ne 6, 3) := by decide +kernel
theorem dX8_addKeyword_31 : decode cX8_addKeyword 31 = .ok (.bipush (-3), 2) := by decide +kernel
theorem dX8_addKeyword_33 : decode cX8_addKeyword 33 = .ok (.ireturn, 1) := by decide +kernel
theorem dX8_addKeyword_34 : decode cX8_addKeyword 34 = .ok (.aload_n 0, 1) := by decide +kernel
theorem dX8_addKeyword_35 : decode cX8_addKeyword 35 = .ok (.iconst 0, 1) := by decide +kernel
theorem dX8_addKeyword_36 : decode cX8_addKeyword 36 = .ok (.putfield 99, 3) := by decide +kernel
theorem dX8_addKeyword_39 : decode cX8_addKeyword 39 = .ok (.aload_n 0, 1) := by decide +kernel
theorem dX8_addKeyword_40 : decode cX8_addKeyword 40 = .ok (.iload_n 1, 1) := by decide +kernel
theorem dX8_addKeyword_41 : decode cX8_addKeyword 41 = .ok (.invokevirtual 144, 3) := by decide +kernel
theorem dX8_addKeyword_44 : decode cX8_addKeyword 44 = .ok (.ifCond .ne 6, 3) := by decide +kernel
theorem dX8_addKeyword_47 : decode cX8_addKeyword 47 = .ok (.bipush (-4), 2) := by decide +kernel
theorem dX8_addKeyword_49 : decode cX8_addKeyword 49 = .ok (.ireturn, 1) := by decide +kernel
theorem dX8_addKeyword_50 : decode cX8_addKeyword 50 = .ok (.aload_n 0, 1) := by decide +kernel
theorem dX8_addKeyword_51 : decode cX8_addKeyword 51 = .ok (.iload_n 1, 1) := by decide +kernel
theorem dX8_addKeyword_52 : decode cX8_addKeyword 52 = .ok (.invokevirtual 147, 3) := by decide +kernel
theorem dX8_addKeyword_55 : decode cX8_addKeyword 55 = .ok (.iconst (-1), 1) := by decide +kernel
theorem dX8_addKeyword_56 : decode cX8_addKeyword 56 = .ok (.if_icmp .eq 6, 3) := by decide +kernel
theorem dX8_addKeyword_59 : decode cX8_addKeyword 59 = .ok (.bipush (-5), 2) := by decide +kernel
theorem dX8_addKeyword_61 : decode cX8_addKeyword 61 = .ok (.ireturn, 1) := by decide +kernel
theorem dX8_addKeyword_62 : decode cX8_addKeyword 62 = .ok (.aload_n 0, 1) := by decide +kernel
theorem dX8_addKeyword_63 : decode cX8_addKeyword 63 = .ok (.invokevirtual 150, 3) := by decide +kernel
theorem dX8_addKeyword_66 : decode cX8_addKeyword 66 = .ok (.bipush 40, 2) := by decide +kernel
theorem dX8_addKeyword_68 : decode cX8_addKeyword 68 = .ok (.if_icmp .eq 12, 3) := by decide +kernel
theorem dX8_addKeyword_71 : decode cX8_addKeyword 71 = .ok (.aload_n 0, 1) := by decide +kernel
theorem dX8_addKeyword_72 : decode cX8_addKeyword 72 = .ok (.getfield 102, 3) := by decide +kernel
theorem dX8_addKeyword_75 : decode cX8_addKeyword 75 = .ok (.bipush 120, 2) := by decide +kernel
theorem dX8_addKeyword_77 : decode cX8_addKeyword 77 = .ok (.if_icmp .ne 6, 3) := by decide +kernel
theorem dX8_addKeyword_80 : decode cX8_addKeyword 80 = .ok (.bipush (-6), 2) := by decide +kernel
theorem dX8_addKeyword_82 : decode cX8_addKeyword 82 = .ok (.ireturn, 1) := by decide +kernel
theorem dX8_addKeyword_83 : decode cX8_addKeyword 83 = .ok (.aload_n 0, 1) := by decide +kernel
theorem dX8_addKeyword_84 : decode cX8_addKeyword 84 = .ok (.getfield 17, 3) := by decide +kernel
theorem dX8_addKeyword_87 : decode cX8_addKeyword 87 = .ok (.aload_n 0, 1) := by decide +kernel
theorem dX8_addKeyword_88 : decode cX8_addKeyword 88 = .ok (.getfield 102, 3) := by decide +kernel
theorem dX8_addKeyword_91 : decode cX8_addKeyword 91 = .ok (.iload_n 1, 1) := by decide +kernel
theorem dX8_addKeyword_92 : decode cX8_addKeyword 92 = .ok (.iastore, 1) := by decide +kernel
theorem dX8_addKeyword_93 : decode cX8_addKeyword 93 = .ok (.aload_n 0, 1) := by decide +kernel
theorem dX8_addKeyword_94 : decode cX8_addKeyword 94 = .ok (.getfield 23, 3) := by decide +kernel
theorem dX8_addKeyword_97 : decode cX8_addKeyword 97 = .ok (.aload_n 0, 1) := by decide +kernel
theorem dX8_addKeyword_98 : decode cX8_addKeyword 98 = .ok (.getfield 102, 3) := by decide +kernel
theorem dX8_addKeyword_101 : decode cX8_addKeyword 101 = .ok (.iload_n 2, 1) := by decide +kernel
theorem dX8_addKeyword_102 : decode cX8_addKeyword 102 = .ok (.iastore, 1) := by decide +kernel
theorem dX8_addKeyword_103 : decode cX8_addKeyword 103 = .ok (.aload_n 0, 1) := by decide +kernel
theorem dX8_addKeyword_104 : decode cX8_addKeyword 104 = .ok (.getfield 26, 3) := by decide +kernel
theorem dX8_addKeyword_107 : decode cX8_addKeyword 107 = .ok (.aload_n 0, 1) := by decide +kernel
theorem dX8_addKeyword_108 : decode cX8_addKeyword 108 = .ok (.getfield 102, 3) := by decide +kernel
theorem dX8_addKeyword_111 : decode cX8_addKeyword 111 = .ok (.iconst 1, 1) := by decide +kernel
theorem dX8_addKeyword_112 : decode cX8_addKeyword 112 = .ok (.bastore, 1) := by decide +kernel
theorem dX8_addKeyword_113 : decode cX8_addKeyword 113 = .ok (.iconst 0, 1) := by decide +kernel
theorem dX8_addKeyword_114 : decode cX8_addKeyword 114 = .ok (.istore_n 3, 1) := by decide +kernel
theorem dX8_addKeyword_115 : decode cX8_addKeyword 115 = .ok (.iload_n 3, 1) := by decide +kernel
theorem dX8_addKeyword_116 : decode cX8_addKeyword 116 = .ok (.iload_n 1, 1) := by decide +kernel
theorem dX8_addKeyword_117 : decode cX8_addKeyword 117 = .ok (.if_icmp .ge 29, 3) := by decide +kernel
theorem dX8_addKeyword_120 : decode cX8_addKeyword 120 = .ok (.aload_n 0, 1) := by decide +kernel
theorem dX8_addKeyword_121 : decode cX8_addKeyword 121 = .ok (.getfield 20, 3) := by decide +kernel
theorem dX8_addKeyword_124 : decode cX8_addKeyword 124 = .ok (.bipush 16, 2) := by decide +kernel
theorem dX8_addKeyword_126 : decode cX8_addKeyword 126 = .ok (.aload_n 0, 1) := by decide +kernel
theorem dX8_addKeyword_127 : decode cX8_addKeyword 127 = .ok (.getfield 102, 3) := by decide +kernel
theorem dX8_addKeyword_130 : decode cX8_addKeyword 130 = .ok (.imul, 1) := by decide +kernel
theorem dX8_addKeyword_131 : decode cX8_addKeyword 131 = .ok (.iload_n 3, 1) := by decide +kernel
theorem dX8_addKeyword_132 : decode cX8_addKeyword 132 = .ok (.iadd, 1) := by decide +kernel
theorem dX8_addKeyword_133 : decode cX8_addKeyword 133 = .ok (.aload_n 0, 1) := by decide +kernel
theorem dX8_addKeyword_134 : decode cX8_addKeyword 134 = .ok (.getfield 13, 3) := by decide +kernel
theorem dX8_addKeyword_137 : decode cX8_addKeyword 137 = .ok (.iload_n 3, 1) := by decide +kernel
theorem dX8_addKeyword_138 : decode cX8_addKeyword 138 = .ok (.iaload, 1) := by decide +kernel
theorem dX8_addKeyword_139 : decode cX8_addKeyword 139 = .ok (.iastore, 1) := by decide +kernel
theorem dX8_addKeyword_140 : decode cX8_addKeyword 140 = .ok (.iinc 3 1, 3) := by decide +kernel
theorem dX8_addKeyword_143 : decode cX8_addKeyword 143 = .ok (.goto (-28), 3) := by decide +kernel
theorem dX8_addKeyword_146 : decode cX8_addKeyword 146 = .ok (.aload_n 0, 1) := by decide +kernel
theorem dX8_addKeyword_147 : decode cX8_addKeyword 147 = .ok (.dup, 1) := by decide +kernel
theorem dX8_addKeyword_148 : decode cX8_addKeyword 148 = .ok (.getfield 102, 3) := by decide +kernel
theorem dX8_addKeyword_151 : decode cX8_addKeyword 151 = .ok (.iconst 1, 1) := by decide +kernel
theorem dX8_addKeyword_152 : decode cX8_addKeyword 152 = .ok (.iadd, 1) := by decide +kernel
theorem dX8_addKeyword_153 : decode cX8_addKeyword 153 = .ok (.putfield 102, 3) := by decide +kernel
theorem dX8_addKeyword_156 : decode cX8_addKeyword 156 = .ok (.aload_n 0, 1) := by decide +kernel
theorem dX8_addKeyword_157 : decode cX8_addKeyword 157 = .ok (.iconst 0, 1) := by decide +kernel
theorem dX8_addKeyword_158 : decode cX8_addKeyword 158 = .ok (.putfield 154, 3) := by decide +kernel
theorem dX8_addKeyword_161 : decode cX8_addKeyword 161 = .ok (.aload_n 0, 1) := by decide +kernel
theorem dX8_addKeyword_162 : decode cX8_addKeyword 162 = .ok (.iconst 0, 1) := by decide +kernel
theorem dX8_addKeyword_163 : decode cX8_addKeyword 163 = .ok (.aload_n 0, 1) := by decide +kernel
theorem dX8_addKeyword_164 : decode cX8_addKeyword 164 = .ok (.getfield 102, 3) := by decide +kernel
theorem dX8_addKeyword_167 : decode cX8_addKeyword 167 = .ok (.iconst 1, 1) := by decide +kernel
theorem dX8_addKeyword_168 : decode cX8_addKeyword 168 = .ok (.isub, 1) := by decide +kernel
theorem dX8_addKeyword_169 : decode cX8_addKeyword 169 = .ok (.invokevirtual 157, 3) := by decide +kernel
theorem dX8_addKeyword_172 : decode cX8_addKeyword 172 = .ok (.aload_n 0, 1) := by decide +kernel
theorem dX8_addKeyword_173 : decode cX8_addKeyword 173 = .ok (.getfield 102, 3) := by decide +kernel
theorem dX8_addKeyword_176 : decode cX8_addKeyword 176 = .ok (.iconst 1, 1) := by decide +kernel
theorem dX8_addKeyword_177 : decode cX8_addKeyword 177 = .ok (.isub, 1) := by decide +kernel
theorem dX8_addKeyword_178 : decode cX8_addKeyword 178 = .ok (.ireturn, 1) := by decide +kernel
set_option maxRecDepth 20000 in
theorem ggX8_removeKeyword_X8_isLiveOne : GoodIn wsX8_removeKeyword wsX8_isLiveOne := goodIn_r _ [8, 2, 9, 10, 11, 7, 12, 13, 14, 15, 16, 38, 39, 40, 41, 42, 43, 44, 45, 46, 47, 48, 49, 50, 51, 52, 53, 54, 55, 56, 57, 58, 59, 60, 61, 62, 63, 64, 65, 66, 67, 68, 69, 70, 71, 72, 73, 74, 75, 76, 77, 78, 79] (by decide +kernel) (by decide +kernel)
set_option maxRecDepth 20000 in
theorem gX8_removeKeyword_X8_isLiveOne : GoodIn wsX8_removeKeyword (wsV RX8 161 RX8 yX8_isLiveOne wsX8_isLiveOne) := goodIn_app (goodIn_of _ (by decide +kernel)) ggX8_removeKeyword_X8_isLiveOne
set_option maxRecDepth 20000 in
theorem ggX8_removeKeyword_X8_inserts : GoodIn wsX8_removeKeyword wsX8_inserts := goodIn_r _ [20, 21, 22, 23, 24, 38, 39, 40, 41, 42, 43, 44, 45, 46, 47, 48, 49, 50, 51, 52, 53, 54, 55, 56, 57, 58, 59, 60, 61, 62, 63, 64, 65, 66, 67, 68, 69, 70, 71, 72, 73, 74, 75, 76, 77, 78, 79] (by decide +kernel) (by decide +kernel)
set_option maxRecDepth 20000 in
theorem gX8_removeKeyword_X8_inserts : GoodIn wsX8_removeKeyword (wsV RX8 157 RX8 yX8_inserts wsX8_inserts) := goodIn_app (goodIn_of _ (by decide +kernel)) ggX8_removeKeyword_X8_inserts
set_option maxRecDepth 20000 in
theorem ggX8_removeKeyword_X8_sizeOf : GoodIn wsX8_removeKeyword wsX8_sizeOf := goodIn_r _ [28, 22, 38, 39, 40, 41, 42, 43, 44, 45, 46, 47, 48, 49, 50, 51, 52, 53, 54, 55, 56, 57, 58, 59, 60, 61, 62, 63, 64, 65, 66, 67, 68, 69, 70, 71, 72, 73, 74, 75, 76, 77, 78, 79] (by decide +kernel) (by decide +kernel)
set_option maxRecDepth 20000 in
theorem gX8_removeKeyword_X8_sizeOf : GoodIn wsX8_removeKeyword (wsV RX8 164 RX8 yX8_sizeOf wsX8_sizeOf) := goodIn_app (goodIn_of _ (by decide +kernel)) ggX8_removeKeyword_X8_sizeOf
set_option maxRecDepth 20000 in
theorem ggX8_removeKeyword_X8_rebuilds : GoodIn wsX8_removeKeyword wsX8_rebuilds := goodIn_r _ [32, 22, 13, 2, 33, 17, 18, 19, 7, 20, 21, 23, 24, 38, 39, 40, 41, 42, 43, 44, 45, 46, 47, 48, 49, 50, 51, 52, 53, 54, 55, 56, 57, 58, 59, 60, 61, 62, 63, 64, 65, 66, 67, 68, 69, 70, 71, 72, 73, 74, 75, 76, 77, 78, 79] (by decide +kernel) (by decide +kernel)
set_option maxRecDepth 20000 in
theorem gX8_removeKeyword_X8_rebuilds : GoodIn wsX8_removeKeyword (wsV RX8 167 RX8 yX8_rebuilds wsX8_rebuilds) := goodIn_app (goodIn_of _ (by decide +kernel)) ggX8_removeKeyword_X8_rebuilds
set_option maxRecDepth 20000 in
theorem ggX8_removeKeyword_X8_lives : GoodIn wsX8_removeKeyword wsX8_lives := goodIn_r _ [37, 13, 2, 38, 39, 40, 41, 42, 43, 44, 45, 46, 47, 48, 49, 50, 51, 52, 53, 54, 55, 56, 57, 58, 59, 60, 61, 62, 63, 64, 65, 66, 67, 68, 69, 70, 71, 72, 73, 74, 75, 76, 77, 78, 79] (by decide +kernel) (by decide +kernel)
set_option maxRecDepth 20000 in
theorem gX8_removeKeyword_X8_lives : GoodIn wsX8_removeKeyword (wsV RX8 150 RX8 yX8_lives wsX8_lives) := goodIn_app (goodIn_of _ (by decide +kernel)) ggX8_removeKeyword_X8_lives
theorem dX8_removeKeyword_0 : decode cX8_removeKeyword 0 = .ok (.aload_n 0, 1) := by decide +kernel
theorem dX8_removeKeyword_1 : decode cX8_removeKeyword 1 = .ok (.iconst 0, 1) := by decide +kernel
theorem dX8_removeKeyword_2 : decode cX8_removeKeyword 2 = .ok (.putfield 1, 3) := by decide +kernel
theorem dX8_removeKeyword_5 : decode cX8_removeKeyword 5 = .ok (.aload_n 0, 1) := by decide +kernel
theorem dX8_removeKeyword_6 : decode cX8_removeKeyword 6 = .ok (.iload_n 1, 1) := by decide +kernel
theorem dX8_removeKeyword_7 : decode cX8_removeKeyword 7 = .ok (.invokevirtual 161, 3) := by decide +kernel
theorem dX8_removeKeyword_10 : decode cX8_removeKeyword 10 = .ok (.ifCond .ne 6, 3) := by decide +kernel
theorem dX8_removeKeyword_13 : decode cX8_removeKeyword 13 = .ok (.bipush (-2), 2) := by decide +kernel
theorem dX8_removeKeyword_15 : decode cX8_removeKeyword 15 = .ok (.ireturn, 1) := by decide +kernel
theorem dX8_removeKeyword_16 : decode cX8_removeKeyword 16 = .ok (.aload_n 0, 1) := by decide +kernel
theorem dX8_removeKeyword_17 : decode cX8_removeKeyword 17 = .ok (.getfield 26, 3) := by decide +kernel
theorem dX8_removeKeyword_20 : decode cX8_removeKeyword 20 = .ok (.iload_n 1, 1) := by decide +kernel
theorem dX8_removeKeyword_21 : decode cX8_removeKeyword 21 = .ok (.iconst 0, 1) := by decide +kernel
theorem dX8_removeKeyword_22 : decode cX8_removeKeyword 22 = .ok (.bastore, 1) := by decide +kernel
theorem dX8_removeKeyword_23 : decode cX8_removeKeyword 23 = .ok (.aload_n 0, 1) := by decide +kernel
theorem dX8_removeKeyword_24 : decode cX8_removeKeyword 24 = .ok (.iconst 0, 1) := by decide +kernel
theorem dX8_removeKeyword_25 : decode cX8_removeKeyword 25 = .ok (.putfield 154, 3) := by decide +kernel
theorem dX8_removeKeyword_28 : decode cX8_removeKeyword 28 = .ok (.aload_n 0, 1) := by decide +kernel
theorem dX8_removeKeyword_29 : decode cX8_removeKeyword 29 = .ok (.bipush 7, 2) := by decide +kernel
theorem dX8_removeKeyword_31 : decode cX8_removeKeyword 31 = .ok (.iload_n 1, 1) := by decide +kernel
theorem dX8_removeKeyword_32 : decode cX8_removeKeyword 32 = .ok (.invokevirtual 157, 3) := by decide +kernel
theorem dX8_removeKeyword_35 : decode cX8_removeKeyword 35 = .ok (.iconst 2, 1) := by decide +kernel
theorem dX8_removeKeyword_36 : decode cX8_removeKeyword 36 = .ok (.aload_n 0, 1) := by decide +kernel
theorem dX8_removeKeyword_37 : decode cX8_removeKeyword 37 = .ok (.bipush 7, 2) := by decide +kernel
theorem dX8_removeKeyword_39 : decode cX8_removeKeyword 39 = .ok (.invokevirtual 164, 3) := by decide +kernel
theorem dX8_removeKeyword_42 : decode cX8_removeKeyword 42 = .ok (.imul, 1) := by decide +kernel
theorem dX8_removeKeyword_43 : decode cX8_removeKeyword 43 = .ok (.aload_n 0, 1) := by decide +kernel
theorem dX8_removeKeyword_44 : decode cX8_removeKeyword 44 = .ok (.iconst 0, 1) := by decide +kernel
theorem dX8_removeKeyword_45 : decode cX8_removeKeyword 45 = .ok (.invokevirtual 164, 3) := by decide +kernel
theorem dX8_removeKeyword_48 : decode cX8_removeKeyword 48 = .ok (.if_icmp .lt 7, 3) := by decide +kernel
theorem dX8_removeKeyword_51 : decode cX8_removeKeyword 51 = .ok (.aload_n 0, 1) := by decide +kernel
theorem dX8_removeKeyword_52 : decode cX8_removeKeyword 52 = .ok (.invokevirtual 167, 3) := by decide +kernel
theorem dX8_removeKeyword_55 : decode cX8_removeKeyword 55 = .ok (.aload_n 0, 1) := by decide +kernel
theorem dX8_removeKeyword_56 : decode cX8_removeKeyword 56 = .ok (.invokevirtual 150, 3) := by decide +kernel
theorem dX8_removeKeyword_59 : decode cX8_removeKeyword 59 = .ok (.ireturn, 1) := by decide +kernel
set_option maxRecDepth 20000 in
theorem ggX8_findKeyword_X8_isIn : GoodIn wsX8_findKeyword wsX8_isIn := goodIn_r _ [6] (by decide +kernel) (by decide +kernel)
set_option maxRecDepth 20000 in
theorem gX8_findKeyword_X8_isIn : GoodIn wsX8_findKeyword (va_wsS RX8 105 yX8_isIn wsX8_isIn) := goodIn_app (goodIn_of _ (by decide +kernel)) ggX8_findKeyword_X8_isIn
set_option maxRecDepth 20000 in
theorem ggX8_findKeyword_X8_found : GoodIn wsX8_findKeyword wsX8_found := goodIn_r _ [10, 11, 12, 13, 14, 15, 5, 16, 17, 18, 19, 20, 21, 22, 23, 24, 25, 26, 27, 28, 29, 30, 31, 32, 33, 34, 3, 4, 6, 35, 36, 37, 38, 39, 40, 41, 42, 43, 44, 45, 46, 47, 48, 49, 50, 51, 52, 53, 54, 55, 56, 57, 58, 59, 60, 61, 62, 63, 64, 65, 66, 67, 68, 69, 70, 71, 72, 73, 74, 75, 76] (by decide +kernel) (by decide +kernel)
set_option maxRecDepth 20000 in
theorem gX8_findKeyword_X8_found : GoodIn wsX8_findKeyword (wsV RX8 147 RX8 yX8_found wsX8_found) := goodIn_app (goodIn_of _ (by decide +kernel)) ggX8_findKeyword_X8_found
theorem dX8_findKeyword_0 : decode cX8_findKeyword 0 = .ok (.aload_n 0, 1) := by decide +kernel
theorem dX8_findKeyword_1 : decode cX8_findKeyword 1 = .ok (.iconst 0, 1) := by decide +kernel
theorem dX8_findKeyword_2 : decode cX8_findKeyword 2 = .ok (.putfield 1, 3) := by decide +kernel
theorem dX8_findKeyword_5 : decode cX8_findKeyword 5 = .ok (.iload_n 1, 1) := by decide +kernel
theorem dX8_findKeyword_6 : decode cX8_findKeyword 6 = .ok (.i2l, 1) := by decide +kernel
theorem dX8_findKeyword_7 : decode cX8_findKeyword 7 = .ok (.lconst 0, 1) := by decide +kernel
theorem dX8_findKeyword_8 : decode cX8_findKeyword 8 = .ok (.aload_n 0, 1) := by decide +kernel
theorem dX8_findKeyword_9 : decode cX8_findKeyword 9 = .ok (.getfield 99, 3) := by decide +kernel
theorem dX8_findKeyword_12 : decode cX8_findKeyword 12 = .ok (.i2l, 1) := by decide +kernel
theorem dX8_findKeyword_13 : decode cX8_findKeyword 13 = .ok (.invokestatic 105, 3) := by decide +kernel
theorem dX8_findKeyword_16 : decode cX8_findKeyword 16 = .ok (.ifCond .ne 6, 3) := by decide +kernel
theorem dX8_findKeyword_19 : decode cX8_findKeyword 19 = .ok (.bipush (-3), 2) := by decide +kernel
theorem dX8_findKeyword_21 : decode cX8_findKeyword 21 = .ok (.ireturn, 1) := by decide +kernel
theorem dX8_findKeyword_22 : decode cX8_findKeyword 22 = .ok (.aload_n 0, 1) := by decide +kernel
theorem dX8_findKeyword_23 : decode cX8_findKeyword 23 = .ok (.iconst 0, 1) := by decide +kernel
theorem dX8_findKeyword_24 : decode cX8_findKeyword 24 = .ok (.putfield 99, 3) := by decide +kernel
theorem dX8_findKeyword_27 : decode cX8_findKeyword 27 = .ok (.aload_n 0, 1) := by decide +kernel
theorem dX8_findKeyword_28 : decode cX8_findKeyword 28 = .ok (.iload_n 1, 1) := by decide +kernel
theorem dX8_findKeyword_29 : decode cX8_findKeyword 29 = .ok (.invokevirtual 147, 3) := by decide +kernel
theorem dX8_findKeyword_32 : decode cX8_findKeyword 32 = .ok (.ireturn, 1) := by decide +kernel
set_option maxRecDepth 20000 in
theorem ggX8_keywordLength_X8_isGiven : GoodIn wsX8_keywordLength wsX8_isGiven := goodIn_r _ [7, 8, 9, 10, 6, 11, 12, 13, 14, 15, 16, 17, 18, 19, 20, 21, 22, 23, 24, 25, 26, 27, 28, 29, 30, 31, 32, 33, 34, 35, 36, 37, 38, 39, 40, 41, 42, 43, 44, 45, 46, 47, 48, 49, 50, 51, 52, 53] (by decide +kernel) (by decide +kernel)
set_option maxRecDepth 20000 in
theorem gX8_keywordLength_X8_isGiven : GoodIn wsX8_keywordLength (wsV RX8 109 RX8 yX8_isGiven wsX8_isGiven) := goodIn_app (goodIn_of _ (by decide +kernel)) ggX8_keywordLength_X8_isGiven
theorem dX8_keywordLength_0 : decode cX8_keywordLength 0 = .ok (.aload_n 0, 1) := by decide +kernel
theorem dX8_keywordLength_1 : decode cX8_keywordLength 1 = .ok (.iconst 0, 1) := by decide +kernel
theorem dX8_keywordLength_2 : decode cX8_keywordLength 2 = .ok (.putfield 1, 3) := by decide +kernel
theorem dX8_keywordLength_5 : decode cX8_keywordLength 5 = .ok (.aload_n 0, 1) := by decide +kernel
theorem dX8_keywordLength_6 : decode cX8_keywordLength 6 = .ok (.iload_n 1, 1) := by decide +kernel
theorem dX8_keywordLength_7 : decode cX8_keywordLength 7 = .ok (.invokevirtual 109, 3) := by decide +kernel
theorem dX8_keywordLength_10 : decode cX8_keywordLength 10 = .ok (.ifCond .eq 12, 3) := by decide +kernel
theorem dX8_keywordLength_13 : decode cX8_keywordLength 13 = .ok (.aload_n 0, 1) := by decide +kernel
theorem dX8_keywordLength_14 : decode cX8_keywordLength 14 = .ok (.getfield 17, 3) := by decide +kernel
theorem dX8_keywordLength_17 : decode cX8_keywordLength 17 = .ok (.iload_n 1, 1) := by decide +kernel
theorem dX8_keywordLength_18 : decode cX8_keywordLength 18 = .ok (.iaload, 1) := by decide +kernel
theorem dX8_keywordLength_19 : decode cX8_keywordLength 19 = .ok (.goto 5, 3) := by decide +kernel
theorem dX8_keywordLength_22 : decode cX8_keywordLength 22 = .ok (.bipush (-2), 2) := by decide +kernel
theorem dX8_keywordLength_24 : decode cX8_keywordLength 24 = .ok (.ireturn, 1) := by decide +kernel
set_option maxRecDepth 20000 in
theorem ggX8_keywordByte_X8_isGiven : GoodIn wsX8_keywordByte wsX8_isGiven := goodIn_r _ [7, 8, 9, 10, 6, 11, 17, 18, 19, 20, 21, 22, 23, 24, 25, 26, 27, 28, 29, 30, 31, 32, 33, 34, 35, 36, 37, 38, 39, 40, 41, 42, 43, 44, 45, 46, 47, 48, 49, 50, 51, 52, 53, 54, 55, 56, 57, 58] (by decide +kernel) (by decide +kernel)
set_option maxRecDepth 20000 in
theorem gX8_keywordByte_X8_isGiven : GoodIn wsX8_keywordByte (wsV RX8 109 RX8 yX8_isGiven wsX8_isGiven) := goodIn_app (goodIn_of _ (by decide +kernel)) ggX8_keywordByte_X8_isGiven
set_option maxRecDepth 20000 in
theorem ggX8_keywordByte_X8_byteOf : GoodIn wsX8_keywordByte wsX8_byteOf := goodIn_r _ [15, 16, 17, 18, 19, 20, 21, 22, 23, 24, 25, 26, 27, 28, 29, 30, 31, 32, 33, 34, 35, 36, 37, 38, 39, 40, 41, 42, 43, 44, 45, 46, 47, 48, 49, 50, 51, 52, 53, 54, 55, 56, 57, 58] (by decide +kernel) (by decide +kernel)
set_option maxRecDepth 20000 in
theorem gX8_keywordByte_X8_byteOf : GoodIn wsX8_keywordByte (wsV RX8 125 RX8 yX8_byteOf wsX8_byteOf) := goodIn_app (goodIn_of _ (by decide +kernel)) ggX8_keywordByte_X8_byteOf
theorem dX8_keywordByte_0 : decode cX8_keywordByte 0 = .ok (.aload_n 0, 1) := by decide +kernel
theorem dX8_keywordByte_1 : decode cX8_keywordByte 1 = .ok (.iconst 0, 1) := by decide +kernel
theorem dX8_keywordByte_2 : decode cX8_keywordByte 2 = .ok (.putfield 1, 3) := by decide +kernel
theorem dX8_keywordByte_5 : decode cX8_keywordByte 5 = .ok (.aload_n 0, 1) := by decide +kernel
theorem dX8_keywordByte_6 : decode cX8_keywordByte 6 = .ok (.iload_n 1, 1) := by decide +kernel
theorem dX8_keywordByte_7 : decode cX8_keywordByte 7 = .ok (.invokevirtual 109, 3) := by decide +kernel
theorem dX8_keywordByte_10 : decode cX8_keywordByte 10 = .ok (.ifCond .ne 6, 3) := by decide +kernel
theorem dX8_keywordByte_13 : decode cX8_keywordByte 13 = .ok (.bipush (-2), 2) := by decide +kernel
theorem dX8_keywordByte_15 : decode cX8_keywordByte 15 = .ok (.ireturn, 1) := by decide +kernel
theorem dX8_keywordByte_16 : decode cX8_keywordByte 16 = .ok (.iload_n 2, 1) := by decide +kernel
theorem dX8_keywordByte_17 : decode cX8_keywordByte 17 = .ok (.ifCond .ge 6, 3) := by decide +kernel
theorem dX8_keywordByte_20 : decode cX8_keywordByte 20 = .ok (.bipush (-3), 2) := by decide +kernel
theorem dX8_keywordByte_22 : decode cX8_keywordByte 22 = .ok (.ireturn, 1) := by decide +kernel
theorem dX8_keywordByte_23 : decode cX8_keywordByte 23 = .ok (.iload_n 2, 1) := by decide +kernel
theorem dX8_keywordByte_24 : decode cX8_keywordByte 24 = .ok (.aload_n 0, 1) := by decide +kernel
theorem dX8_keywordByte_25 : decode cX8_keywordByte 25 = .ok (.getfield 17, 3) := by decide +kernel
theorem dX8_keywordByte_28 : decode cX8_keywordByte 28 = .ok (.iload_n 1, 1) := by decide +kernel
theorem dX8_keywordByte_29 : decode cX8_keywordByte 29 = .ok (.iaload, 1) := by decide +kernel
theorem dX8_keywordByte_30 : decode cX8_keywordByte 30 = .ok (.if_icmp .ge 12, 3) := by decide +kernel
theorem dX8_keywordByte_33 : decode cX8_keywordByte 33 = .ok (.aload_n 0, 1) := by decide +kernel
theorem dX8_keywordByte_34 : decode cX8_keywordByte 34 = .ok (.iload_n 1, 1) := by decide +kernel
theorem dX8_keywordByte_35 : decode cX8_keywordByte 35 = .ok (.iload_n 2, 1) := by decide +kernel
theorem dX8_keywordByte_36 : decode cX8_keywordByte 36 = .ok (.invokevirtual 125, 3) := by decide +kernel
theorem dX8_keywordByte_39 : decode cX8_keywordByte 39 = .ok (.goto 4, 3) := by decide +kernel
theorem dX8_keywordByte_42 : decode cX8_keywordByte 42 = .ok (.iconst (-1), 1) := by decide +kernel
theorem dX8_keywordByte_43 : decode cX8_keywordByte 43 = .ok (.ireturn, 1) := by decide +kernel
set_option maxRecDepth 20000 in
theorem ggX8_keywordWeight_X8_isGiven : GoodIn wsX8_keywordWeight wsX8_isGiven := goodIn_r _ [7, 8, 9, 10, 6, 11, 12, 13, 14, 15, 16, 17, 18, 19, 20, 21, 22, 23, 24, 25, 26, 27, 28, 29, 30, 31, 32, 33, 34, 35, 36, 37, 38, 39, 40, 41, 42, 43, 44, 45, 46, 47, 48, 49, 50, 51, 52, 53] (by decide +kernel) (by decide +kernel)
set_option maxRecDepth 20000 in
theorem gX8_keywordWeight_X8_isGiven : GoodIn wsX8_keywordWeight (wsV RX8 109 RX8 yX8_isGiven wsX8_isGiven) := goodIn_app (goodIn_of _ (by decide +kernel)) ggX8_keywordWeight_X8_isGiven
theorem dX8_keywordWeight_0 : decode cX8_keywordWeight 0 = .ok (.aload_n 0, 1) := by decide +kernel
theorem dX8_keywordWeight_1 : decode cX8_keywordWeight 1 = .ok (.iconst 0, 1) := by decide +kernel
theorem dX8_keywordWeight_2 : decode cX8_keywordWeight 2 = .ok (.putfield 1, 3) := by decide +kernel
theorem dX8_keywordWeight_5 : decode cX8_keywordWeight 5 = .ok (.aload_n 0, 1) := by decide +kernel
theorem dX8_keywordWeight_6 : decode cX8_keywordWeight 6 = .ok (.iload_n 1, 1) := by decide +kernel
theorem dX8_keywordWeight_7 : decode cX8_keywordWeight 7 = .ok (.invokevirtual 109, 3) := by decide +kernel
theorem dX8_keywordWeight_10 : decode cX8_keywordWeight 10 = .ok (.ifCond .eq 12, 3) := by decide +kernel
theorem dX8_keywordWeight_13 : decode cX8_keywordWeight 13 = .ok (.aload_n 0, 1) := by decide +kernel
theorem dX8_keywordWeight_14 : decode cX8_keywordWeight 14 = .ok (.getfield 23, 3) := by decide +kernel
theorem dX8_keywordWeight_17 : decode cX8_keywordWeight 17 = .ok (.iload_n 1, 1) := by decide +kernel
theorem dX8_keywordWeight_18 : decode cX8_keywordWeight 18 = .ok (.iaload, 1) := by decide +kernel
theorem dX8_keywordWeight_19 : decode cX8_keywordWeight 19 = .ok (.goto 5, 3) := by decide +kernel
theorem dX8_keywordWeight_22 : decode cX8_keywordWeight 22 = .ok (.bipush (-2), 2) := by decide +kernel
theorem dX8_keywordWeight_24 : decode cX8_keywordWeight 24 = .ok (.ireturn, 1) := by decide +kernel
set_option maxRecDepth 20000 in
theorem ggX8_isLive_X8_isGiven : GoodIn wsX8_isLive wsX8_isGiven := goodIn_r _ [7, 8, 9, 10, 6, 11, 12, 13, 14, 15, 16, 17, 18, 19, 20, 21, 22, 23, 24, 25, 26, 27, 28, 29, 30, 31, 32, 33, 34, 35, 36, 37, 38, 39, 40, 41, 42, 43, 44, 45, 46, 47, 48, 49, 50, 51, 52, 53] (by decide +kernel) (by decide +kernel)
set_option maxRecDepth 20000 in
theorem gX8_isLive_X8_isGiven : GoodIn wsX8_isLive (wsV RX8 109 RX8 yX8_isGiven wsX8_isGiven) := goodIn_app (goodIn_of _ (by decide +kernel)) ggX8_isLive_X8_isGiven
theorem dX8_isLive_0 : decode cX8_isLive 0 = .ok (.aload_n 0, 1) := by decide +kernel
theorem dX8_isLive_1 : decode cX8_isLive 1 = .ok (.iconst 0, 1) := by decide +kernel
theorem dX8_isLive_2 : decode cX8_isLive 2 = .ok (.putfield 1, 3) := by decide +kernel
theorem dX8_isLive_5 : decode cX8_isLive 5 = .ok (.aload_n 0, 1) := by decide +kernel
theorem dX8_isLive_6 : decode cX8_isLive 6 = .ok (.iload_n 1, 1) := by decide +kernel
theorem dX8_isLive_7 : decode cX8_isLive 7 = .ok (.invokevirtual 109, 3) := by decide +kernel
theorem dX8_isLive_10 : decode cX8_isLive 10 = .ok (.ifCond .ne 8, 3) := by decide +kernel
theorem dX8_isLive_13 : decode cX8_isLive 13 = .ok (.bipush (-2), 2) := by decide +kernel
theorem dX8_isLive_15 : decode cX8_isLive 15 = .ok (.goto 17, 3) := by decide +kernel
theorem dX8_isLive_18 : decode cX8_isLive 18 = .ok (.aload_n 0, 1) := by decide +kernel
theorem dX8_isLive_19 : decode cX8_isLive 19 = .ok (.getfield 26, 3) := by decide +kernel
theorem dX8_isLive_22 : decode cX8_isLive 22 = .ok (.iload_n 1, 1) := by decide +kernel
theorem dX8_isLive_23 : decode cX8_isLive 23 = .ok (.baload, 1) := by decide +kernel
theorem dX8_isLive_24 : decode cX8_isLive 24 = .ok (.ifCond .eq 7, 3) := by decide +kernel
theorem dX8_isLive_27 : decode cX8_isLive 27 = .ok (.iconst 1, 1) := by decide +kernel
theorem dX8_isLive_28 : decode cX8_isLive 28 = .ok (.goto 4, 3) := by decide +kernel
theorem dX8_isLive_31 : decode cX8_isLive 31 = .ok (.iconst 0, 1) := by decide +kernel
theorem dX8_isLive_32 : decode cX8_isLive 32 = .ok (.ireturn, 1) := by decide +kernel
set_option maxRecDepth 20000 in
theorem ggX8_liveCount_X8_lives : GoodIn wsX8_liveCount wsX8_lives := goodIn_r _ [6, 7, 8, 9, 10, 11, 12, 13, 14, 15, 16, 17, 18, 19, 20, 21, 22, 23, 24, 25, 26, 27, 28, 29, 30, 31, 32, 33, 34, 35, 36, 37, 38, 39, 40, 41, 42, 43, 44, 45, 46, 47, 48, 49, 50] (by decide +kernel) (by decide +kernel)
set_option maxRecDepth 20000 in
theorem gX8_liveCount_X8_lives : GoodIn wsX8_liveCount (wsV RX8 150 RX8 yX8_lives wsX8_lives) := goodIn_app (goodIn_of _ (by decide +kernel)) ggX8_liveCount_X8_lives
theorem dX8_liveCount_0 : decode cX8_liveCount 0 = .ok (.aload_n 0, 1) := by decide +kernel
theorem dX8_liveCount_1 : decode cX8_liveCount 1 = .ok (.iconst 0, 1) := by decide +kernel
theorem dX8_liveCount_2 : decode cX8_liveCount 2 = .ok (.putfield 1, 3) := by decide +kernel
theorem dX8_liveCount_5 : decode cX8_liveCount 5 = .ok (.aload_n 0, 1) := by decide +kernel
theorem dX8_liveCount_6 : decode cX8_liveCount 6 = .ok (.invokevirtual 150, 3) := by decide +kernel
theorem dX8_liveCount_9 : decode cX8_liveCount 9 = .ok (.ireturn, 1) := by decide +kernel
set_option maxRecDepth 20000 in
theorem ggX8_setFolding_X8_lives : GoodIn wsX8_setFolding wsX8_lives := goodIn_r _ [8, 9, 10, 11, 12, 13, 14, 15, 16, 17, 18, 19, 20, 21, 22, 23, 24, 25, 26, 27, 28, 29, 30, 31, 32, 33, 34, 35, 36, 37, 38, 39, 40, 41, 42, 43, 44, 45, 46, 47, 48, 49, 50, 51, 52] (by decide +kernel) (by decide +kernel)
set_option maxRecDepth 20000 in
theorem gX8_setFolding_X8_lives : GoodIn wsX8_setFolding (wsV RX8 150 RX8 yX8_lives wsX8_lives) := goodIn_app (goodIn_of _ (by decide +kernel)) ggX8_setFolding_X8_lives
theorem dX8_setFolding_0 : decode cX8_setFolding 0 = .ok (.aload_n 0, 1) := by decide +kernel
theorem dX8_setFolding_1 : decode cX8_setFolding 1 = .ok (.iconst 0, 1) := by decide +kernel
theorem dX8_setFolding_2 : decode cX8_setFolding 2 = .ok (.putfield 1, 3) := by decide +kernel
theorem dX8_setFolding_5 : decode cX8_setFolding 5 = .ok (.aload_n 0, 1) := by decide +kernel
theorem dX8_setFolding_6 : decode cX8_setFolding 6 = .ok (.invokevirtual 150, 3) := by decide +kernel
theorem dX8_setFolding_9 : decode cX8_setFolding 9 = .ok (.ifCond .gt 10, 3) := by decide +kernel
theorem dX8_setFolding_12 : decode cX8_setFolding 12 = .ok (.aload_n 0, 1) := by decide +kernel
theorem dX8_setFolding_13 : decode cX8_setFolding 13 = .ok (.getfield 170, 3) := by decide +kernel
theorem dX8_setFolding_16 : decode cX8_setFolding 16 = .ok (.ifCond .le 6, 3) := by decide +kernel
theorem dX8_setFolding_19 : decode cX8_setFolding 19 = .ok (.bipush (-7), 2) := by decide +kernel
theorem dX8_setFolding_21 : decode cX8_setFolding 21 = .ok (.ireturn, 1) := by decide +kernel
theorem dX8_setFolding_22 : decode cX8_setFolding 22 = .ok (.aload_n 0, 1) := by decide +kernel
theorem dX8_setFolding_23 : decode cX8_setFolding 23 = .ok (.getfield 113, 3) := by decide +kernel
theorem dX8_setFolding_26 : decode cX8_setFolding 26 = .ok (.ifCond .eq 7, 3) := by decide +kernel
theorem dX8_setFolding_29 : decode cX8_setFolding 29 = .ok (.iconst 1, 1) := by decide +kernel
theorem dX8_setFolding_30 : decode cX8_setFolding 30 = .ok (.goto 4, 3) := by decide +kernel
theorem dX8_setFolding_33 : decode cX8_setFolding 33 = .ok (.iconst 0, 1) := by decide +kernel
theorem dX8_setFolding_34 : decode cX8_setFolding 34 = .ok (.istore_n 2, 1) := by decide +kernel
theorem dX8_setFolding_35 : decode cX8_setFolding 35 = .ok (.aload_n 0, 1) := by decide +kernel
theorem dX8_setFolding_36 : decode cX8_setFolding 36 = .ok (.iload_n 1, 1) := by decide +kernel
theorem dX8_setFolding_37 : decode cX8_setFolding 37 = .ok (.putfield 113, 3) := by decide +kernel
theorem dX8_setFolding_40 : decode cX8_setFolding 40 = .ok (.iload_n 2, 1) := by decide +kernel
theorem dX8_setFolding_41 : decode cX8_setFolding 41 = .ok (.ireturn, 1) := by decide +kernel
theorem dX8_sizeOf_0 : decode cX8_sizeOf 0 = .ok (.iconst 0, 1) := by decide +kernel
theorem dX8_sizeOf_1 : decode cX8_sizeOf 1 = .ok (.istore_n 2, 1) := by decide +kernel
theorem dX8_sizeOf_2 : decode cX8_sizeOf 2 = .ok (.iload_n 1, 1) := by decide +kernel
theorem dX8_sizeOf_3 : decode cX8_sizeOf 3 = .ok (.istore_n 3, 1) := by decide +kernel
theorem dX8_sizeOf_4 : decode cX8_sizeOf 4 = .ok (.iload_n 3, 1) := by decide +kernel
theorem dX8_sizeOf_5 : decode cX8_sizeOf 5 = .ok (.iload_n 1, 1) := by decide +kernel
theorem dX8_sizeOf_6 : decode cX8_sizeOf 6 = .ok (.bipush 7, 2) := by decide +kernel
theorem dX8_sizeOf_8 : decode cX8_sizeOf 8 = .ok (.iadd, 1) := by decide +kernel
theorem dX8_sizeOf_9 : decode cX8_sizeOf 9 = .ok (.if_icmp .ge 18, 3) := by decide +kernel
theorem dX8_sizeOf_12 : decode cX8_sizeOf 12 = .ok (.iload_n 2, 1) := by decide +kernel
theorem dX8_sizeOf_13 : decode cX8_sizeOf 13 = .ok (.aload_n 0, 1) := by decide +kernel
theorem dX8_sizeOf_14 : decode cX8_sizeOf 14 = .ok (.getfield 30, 3) := by decide +kernel
theorem dX8_sizeOf_17 : decode cX8_sizeOf 17 = .ok (.iload_n 3, 1) := by decide +kernel
theorem dX8_sizeOf_18 : decode cX8_sizeOf 18 = .ok (.iaload, 1) := by decide +kernel
theorem dX8_sizeOf_19 : decode cX8_sizeOf 19 = .ok (.iadd, 1) := by decide +kernel
theorem dX8_sizeOf_20 : decode cX8_sizeOf 20 = .ok (.istore_n 2, 1) := by decide +kernel
theorem dX8_sizeOf_21 : decode cX8_sizeOf 21 = .ok (.iinc 3 1, 3) := by decide +kernel
theorem dX8_sizeOf_24 : decode cX8_sizeOf 24 = .ok (.goto (-20), 3) := by decide +kernel
theorem dX8_sizeOf_27 : decode cX8_sizeOf 27 = .ok (.iload_n 2, 1) := by decide +kernel
theorem dX8_sizeOf_28 : decode cX8_sizeOf 28 = .ok (.ireturn, 1) := by decide +kernel
theorem dX8_inserts_0 : decode cX8_inserts 0 = .ok (.iconst 1, 1) := by decide +kernel
theorem dX8_inserts_1 : decode cX8_inserts 1 = .ok (.istore_n 3, 1) := by decide +kernel
theorem dX8_inserts_2 : decode cX8_inserts 2 = .ok (.aload_n 0, 1) := by decide +kernel
theorem dX8_inserts_3 : decode cX8_inserts 3 = .ok (.getfield 36, 3) := by decide +kernel
theorem dX8_inserts_6 : decode cX8_inserts 6 = .ok (.iconst 0, 1) := by decide +kernel
theorem dX8_inserts_7 : decode cX8_inserts 7 = .ok (.iload_n 2, 1) := by decide +kernel
theorem dX8_inserts_8 : decode cX8_inserts 8 = .ok (.iastore, 1) := by decide +kernel
theorem dX8_inserts_9 : decode cX8_inserts 9 = .ok (.iload_n 1, 1) := by decide +kernel
theorem dX8_inserts_10 : decode cX8_inserts 10 = .ok (.istore 4, 2) := by decide +kernel
theorem dX8_inserts_12 : decode cX8_inserts 12 = .ok (.aload_n 0, 1) := by decide +kernel
theorem dX8_inserts_13 : decode cX8_inserts 13 = .ok (.getfield 30, 3) := by decide +kernel
theorem dX8_inserts_16 : decode cX8_inserts 16 = .ok (.iload 4, 2) := by decide +kernel
theorem dX8_inserts_18 : decode cX8_inserts 18 = .ok (.iaload, 1) := by decide +kernel
theorem dX8_inserts_19 : decode cX8_inserts 19 = .ok (.ifCond .le 71, 3) := by decide +kernel
theorem dX8_inserts_22 : decode cX8_inserts 22 = .ok (.iconst 0, 1) := by decide +kernel
theorem dX8_inserts_23 : decode cX8_inserts 23 = .ok (.istore 5, 2) := by decide +kernel
theorem dX8_inserts_25 : decode cX8_inserts 25 = .ok (.iload 5, 2) := by decide +kernel
theorem dX8_inserts_27 : decode cX8_inserts 27 = .ok (.aload_n 0, 1) := by decide +kernel
theorem dX8_inserts_28 : decode cX8_inserts 28 = .ok (.getfield 30, 3) := by decide +kernel
theorem dX8_inserts_31 : decode cX8_inserts 31 = .ok (.iload 4, 2) := by decide +kernel
theorem dX8_inserts_33 : decode cX8_inserts 33 = .ok (.iaload, 1) := by decide +kernel
theorem dX8_inserts_34 : decode cX8_inserts 34 = .ok (.if_icmp .ge 32, 3) := by decide +kernel
theorem dX8_inserts_37 : decode cX8_inserts 37 = .ok (.aload_n 0, 1) := by decide +kernel
theorem dX8_inserts_38 : decode cX8_inserts 38 = .ok (.getfield 36, 3) := by decide +kernel
theorem dX8_inserts_41 : decode cX8_inserts 41 = .ok (.iload_n 3, 1) := by decide +kernel
theorem dX8_inserts_42 : decode cX8_inserts 42 = .ok (.iload 5, 2) := by decide +kernel
theorem dX8_inserts_44 : decode cX8_inserts 44 = .ok (.iadd, 1) := by decide +kernel
theorem dX8_inserts_45 : decode cX8_inserts 45 = .ok (.aload_n 0, 1) := by decide +kernel
theorem dX8_inserts_46 : decode cX8_inserts 46 = .ok (.getfield 33, 3) := by decide +kernel
theorem dX8_inserts_49 : decode cX8_inserts 49 = .ok (.sipush 128, 3) := by decide +kernel
theorem dX8_inserts_52 : decode cX8_inserts 52 = .ok (.iload 4, 2) := by decide +kernel
theorem dX8_inserts_54 : decode cX8_inserts 54 = .ok (.imul, 1) := by decide +kernel
theorem dX8_inserts_55 : decode cX8_inserts 55 = .ok (.iload 5, 2) := by decide +kernel
theorem dX8_inserts_57 : decode cX8_inserts 57 = .ok (.iadd, 1) := by decide +kernel
theorem dX8_inserts_58 : decode cX8_inserts 58 = .ok (.iaload, 1) := by decide +kernel
theorem dX8_inserts_59 : decode cX8_inserts 59 = .ok (.iastore, 1) := by decide +kernel
theorem dX8_inserts_60 : decode cX8_inserts 60 = .ok (.iinc 5 1, 3) := by decide +kernel
theorem dX8_inserts_63 : decode cX8_inserts 63 = .ok (.goto (-38), 3) := by decide +kernel
theorem dX8_inserts_66 : decode cX8_inserts 66 = .ok (.iload_n 3, 1) := by decide +kernel
theorem dX8_inserts_67 : decode cX8_inserts 67 = .ok (.aload_n 0, 1) := by decide +kernel
theorem dX8_inserts_68 : decode cX8_inserts 68 = .ok (.getfield 30, 3) := by decide +kernel
theorem dX8_inserts_71 : decode cX8_inserts 71 = .ok (.iload 4, 2) := by decide +kernel
theorem dX8_inserts_73 : decode cX8_inserts 73 = .ok (.iaload, 1) := by decide +kernel
theorem dX8_inserts_74 : decode cX8_inserts 74 = .ok (.iadd, 1) := by decide +kernel
theorem dX8_inserts_75 : decode cX8_inserts 75 = .ok (.istore_n 3, 1) := by decide +kernel
theorem dX8_inserts_76 : decode cX8_inserts 76 = .ok (.aload_n 0, 1) := by decide +kernel
theorem dX8_inserts_77 : decode cX8_inserts 77 = .ok (.getfield 30, 3) := by decide +kernel
theorem dX8_inserts_80 : decode cX8_inserts 80 = .ok (.iload 4, 2) := by decide +kernel
theorem dX8_inserts_82 : decode cX8_inserts 82 = .ok (.iconst 0, 1) := by decide +kernel
theorem dX8_inserts_83 : decode cX8_inserts 83 = .ok (.iastore, 1) := by decide +kernel
theorem dX8_inserts_84 : decode cX8_inserts 84 = .ok (.iinc 4 1, 3) := by decide +kernel
theorem dX8_inserts_87 : decode cX8_inserts 87 = .ok (.goto (-75), 3) := by decide +kernel
theorem dX8_inserts_90 : decode cX8_inserts 90 = .ok (.iconst 0, 1) := by decide +kernel
theorem dX8_inserts_91 : decode cX8_inserts 91 = .ok (.istore 5, 2) := by decide +kernel
theorem dX8_inserts_93 : decode cX8_inserts 93 = .ok (.iload 5, 2) := by decide +kernel
theorem dX8_inserts_95 : decode cX8_inserts 95 = .ok (.iload_n 3, 1) := by decide +kernel
theorem dX8_inserts_96 : decode cX8_inserts 96 = .ok (.if_icmp .ge 30, 3) := by decide +kernel
theorem dX8_inserts_99 : decode cX8_inserts 99 = .ok (.aload_n 0, 1) := by decide +kernel
theorem dX8_inserts_100 : decode cX8_inserts 100 = .ok (.getfield 33, 3) := by decide +kernel
theorem dX8_inserts_103 : decode cX8_inserts 103 = .ok (.sipush 128, 3) := by decide +kernel
theorem dX8_inserts_106 : decode cX8_inserts 106 = .ok (.iload 4, 2) := by decide +kernel
theorem dX8_inserts_108 : decode cX8_inserts 108 = .ok (.imul, 1) := by decide +kernel
theorem dX8_inserts_109 : decode cX8_inserts 109 = .ok (.iload 5, 2) := by decide +kernel
theorem dX8_inserts_111 : decode cX8_inserts 111 = .ok (.iadd, 1) := by decide +kernel
theorem dX8_inserts_112 : decode cX8_inserts 112 = .ok (.aload_n 0, 1) := by decide +kernel
theorem dX8_inserts_113 : decode cX8_inserts 113 = .ok (.getfield 36, 3) := by decide +kernel
theorem dX8_inserts_116 : decode cX8_inserts 116 = .ok (.iload 5, 2) := by decide +kernel
theorem dX8_inserts_118 : decode cX8_inserts 118 = .ok (.iaload, 1) := by decide +kernel
theorem dX8_inserts_119 : decode cX8_inserts 119 = .ok (.iastore, 1) := by decide +kernel
theorem dX8_inserts_120 : decode cX8_inserts 120 = .ok (.iinc 5 1, 3) := by decide +kernel
theorem dX8_inserts_123 : decode cX8_inserts 123 = .ok (.goto (-30), 3) := by decide +kernel
theorem dX8_inserts_126 : decode cX8_inserts 126 = .ok (.aload_n 0, 1) := by decide +kernel
theorem dX8_inserts_127 : decode cX8_inserts 127 = .ok (.getfield 30, 3) := by decide +kernel
theorem dX8_inserts_130 : decode cX8_inserts 130 = .ok (.iload 4, 2) := by decide +kernel
theorem dX8_inserts_132 : decode cX8_inserts 132 = .ok (.iload_n 3, 1) := by decide +kernel
theorem dX8_inserts_133 : decode cX8_inserts 133 = .ok (.iastore, 1) := by decide +kernel
theorem dX8_inserts_134 : decode cX8_inserts 134 = .ok (.aload_n 0, 1) := by decide +kernel
theorem dX8_inserts_135 : decode cX8_inserts 135 = .ok (.dup, 1) := by decide +kernel
theorem dX8_inserts_136 : decode cX8_inserts 136 = .ok (.getfield 173, 3) := by decide +kernel
theorem dX8_inserts_139 : decode cX8_inserts 139 = .ok (.iload_n 3, 1) := by decide +kernel
theorem dX8_inserts_140 : decode cX8_inserts 140 = .ok (.iadd, 1) := by decide +kernel
theorem dX8_inserts_141 : decode cX8_inserts 141 = .ok (.putfield 173, 3) := by decide +kernel
theorem dX8_inserts_144 : decode cX8_inserts 144 = .ok (.return_, 1) := by decide +kernel
set_option maxRecDepth 20000 in
theorem ggX8_rebuilds_X8_inserts : GoodIn wsX8_rebuilds wsX8_inserts := goodIn_r _ [9, 10, 1, 11, 12, 13, 14, 15, 16, 17, 18, 19, 20, 21, 22, 23, 24, 25, 26, 27, 28, 29, 30, 31, 32, 33, 34, 35, 36, 37, 38, 39, 40, 41, 42, 43, 44, 45, 46, 47, 48, 49, 50, 51, 52, 53, 54] (by decide +kernel) (by decide +kernel)
set_option maxRecDepth 20000 in
theorem gX8_rebuilds_X8_inserts : GoodIn wsX8_rebuilds (wsV RX8 157 RX8 yX8_inserts wsX8_inserts) := goodIn_app (goodIn_of _ (by decide +kernel)) ggX8_rebuilds_X8_inserts
theorem dX8_rebuilds_0 : decode cX8_rebuilds 0 = .ok (.iconst 0, 1) := by decide +kernel
theorem dX8_rebuilds_1 : decode cX8_rebuilds 1 = .ok (.istore_n 1, 1) := by decide +kernel
theorem dX8_rebuilds_2 : decode cX8_rebuilds 2 = .ok (.iload_n 1, 1) := by decide +kernel
theorem dX8_rebuilds_3 : decode cX8_rebuilds 3 = .ok (.bipush 14, 2) := by decide +kernel
theorem dX8_rebuilds_5 : decode cX8_rebuilds 5 = .ok (.if_icmp .ge 16, 3) := by decide +kernel
theorem dX8_rebuilds_8 : decode cX8_rebuilds 8 = .ok (.aload_n 0, 1) := by decide +kernel
theorem dX8_rebuilds_9 : decode cX8_rebuilds 9 = .ok (.getfield 30, 3) := by decide +kernel
theorem dX8_rebuilds_12 : decode cX8_rebuilds 12 = .ok (.iload_n 1, 1) := by decide +kernel
theorem dX8_rebuilds_13 : decode cX8_rebuilds 13 = .ok (.iconst 0, 1) := by decide +kernel
theorem dX8_rebuilds_14 : decode cX8_rebuilds 14 = .ok (.iastore, 1) := by decide +kernel
theorem dX8_rebuilds_15 : decode cX8_rebuilds 15 = .ok (.iinc 1 1, 3) := by decide +kernel
theorem dX8_rebuilds_18 : decode cX8_rebuilds 18 = .ok (.goto (-16), 3) := by decide +kernel
theorem dX8_rebuilds_21 : decode cX8_rebuilds 21 = .ok (.iconst 0, 1) := by decide +kernel
theorem dX8_rebuilds_22 : decode cX8_rebuilds 22 = .ok (.istore_n 1, 1) := by decide +kernel
theorem dX8_rebuilds_23 : decode cX8_rebuilds 23 = .ok (.iload_n 1, 1) := by decide +kernel
theorem dX8_rebuilds_24 : decode cX8_rebuilds 24 = .ok (.aload_n 0, 1) := by decide +kernel
theorem dX8_rebuilds_25 : decode cX8_rebuilds 25 = .ok (.getfield 102, 3) := by decide +kernel
theorem dX8_rebuilds_28 : decode cX8_rebuilds 28 = .ok (.if_icmp .ge 24, 3) := by decide +kernel
theorem dX8_rebuilds_31 : decode cX8_rebuilds 31 = .ok (.aload_n 0, 1) := by decide +kernel
theorem dX8_rebuilds_32 : decode cX8_rebuilds 32 = .ok (.getfield 26, 3) := by decide +kernel
theorem dX8_rebuilds_35 : decode cX8_rebuilds 35 = .ok (.iload_n 1, 1) := by decide +kernel
theorem dX8_rebuilds_36 : decode cX8_rebuilds 36 = .ok (.baload, 1) := by decide +kernel
theorem dX8_rebuilds_37 : decode cX8_rebuilds 37 = .ok (.ifCond .eq 9, 3) := by decide +kernel
theorem dX8_rebuilds_40 : decode cX8_rebuilds 40 = .ok (.aload_n 0, 1) := by decide +kernel
theorem dX8_rebuilds_41 : decode cX8_rebuilds 41 = .ok (.iconst 0, 1) := by decide +kernel
theorem dX8_rebuilds_42 : decode cX8_rebuilds 42 = .ok (.iload_n 1, 1) := by decide +kernel
theorem dX8_rebuilds_43 : decode cX8_rebuilds 43 = .ok (.invokevirtual 157, 3) := by decide +kernel
theorem dX8_rebuilds_46 : decode cX8_rebuilds 46 = .ok (.iinc 1 1, 3) := by decide +kernel
theorem dX8_rebuilds_49 : decode cX8_rebuilds 49 = .ok (.goto (-26), 3) := by decide +kernel
theorem dX8_rebuilds_52 : decode cX8_rebuilds 52 = .ok (.aload_n 0, 1) := by decide +kernel
theorem dX8_rebuilds_53 : decode cX8_rebuilds 53 = .ok (.dup, 1) := by decide +kernel
theorem dX8_rebuilds_54 : decode cX8_rebuilds 54 = .ok (.getfield 176, 3) := by decide +kernel
theorem dX8_rebuilds_57 : decode cX8_rebuilds 57 = .ok (.iconst 1, 1) := by decide +kernel
theorem dX8_rebuilds_58 : decode cX8_rebuilds 58 = .ok (.iadd, 1) := by decide +kernel
theorem dX8_rebuilds_59 : decode cX8_rebuilds 59 = .ok (.putfield 176, 3) := by decide +kernel
theorem dX8_rebuilds_62 : decode cX8_rebuilds 62 = .ok (.return_, 1) := by decide +kernel
set_option maxRecDepth 20000 in
theorem ggX8_isLevel_X8_isIn : GoodIn wsX8_isLevel wsX8_isIn := goodIn_r _ [5] (by decide +kernel) (by decide +kernel)
set_option maxRecDepth 20000 in
theorem gX8_isLevel_X8_isIn : GoodIn wsX8_isLevel (va_wsS RX8 105 yX8_isIn wsX8_isIn) := goodIn_app (goodIn_of _ (by decide +kernel)) ggX8_isLevel_X8_isIn
theorem dX8_isLevel_0 : decode cX8_isLevel 0 = .ok (.iload_n 0, 1) := by decide +kernel
theorem dX8_isLevel_1 : decode cX8_isLevel 1 = .ok (.i2l, 1) := by decide +kernel
theorem dX8_isLevel_2 : decode cX8_isLevel 2 = .ok (.lconst 0, 1) := by decide +kernel
theorem dX8_isLevel_3 : decode cX8_isLevel 3 = .ok (.ldc2_w 179, 3) := by decide +kernel
theorem dX8_isLevel_6 : decode cX8_isLevel 6 = .ok (.invokestatic 105, 3) := by decide +kernel
theorem dX8_isLevel_9 : decode cX8_isLevel 9 = .ok (.ireturn, 1) := by decide +kernel
set_option maxRecDepth 20000 in
theorem ggX8_mainSize_X8_isLevel : GoodIn wsX8_mainSize wsX8_isLevel := goodIn_r _ [6, 7, 8, 9, 5, 10] (by decide +kernel) (by decide +kernel)
set_option maxRecDepth 20000 in
theorem gX8_mainSize_X8_isLevel : GoodIn wsX8_mainSize (va_wsS RX8 181 yX8_isLevel wsX8_isLevel) := goodIn_app (goodIn_of _ (by decide +kernel)) ggX8_mainSize_X8_isLevel
theorem dX8_mainSize_0 : decode cX8_mainSize 0 = .ok (.aload_n 0, 1) := by decide +kernel
theorem dX8_mainSize_1 : decode cX8_mainSize 1 = .ok (.iconst 0, 1) := by decide +kernel
theorem dX8_mainSize_2 : decode cX8_mainSize 2 = .ok (.putfield 1, 3) := by decide +kernel
theorem dX8_mainSize_5 : decode cX8_mainSize 5 = .ok (.iload_n 1, 1) := by decide +kernel
theorem dX8_mainSize_6 : decode cX8_mainSize 6 = .ok (.invokestatic 181, 3) := by decide +kernel
theorem dX8_mainSize_9 : decode cX8_mainSize 9 = .ok (.ifCond .eq 12, 3) := by decide +kernel
theorem dX8_mainSize_12 : decode cX8_mainSize 12 = .ok (.aload_n 0, 1) := by decide +kernel
theorem dX8_mainSize_13 : decode cX8_mainSize 13 = .ok (.getfield 30, 3) := by decide +kernel
theorem dX8_mainSize_16 : decode cX8_mainSize 16 = .ok (.iload_n 1, 1) := by decide +kernel
theorem dX8_mainSize_17 : decode cX8_mainSize 17 = .ok (.iaload, 1) := by decide +kernel
theorem dX8_mainSize_18 : decode cX8_mainSize 18 = .ok (.goto 5, 3) := by decide +kernel
theorem dX8_mainSize_21 : decode cX8_mainSize 21 = .ok (.bipush (-3), 2) := by decide +kernel
theorem dX8_mainSize_23 : decode cX8_mainSize 23 = .ok (.ireturn, 1) := by decide +kernel
set_option maxRecDepth 20000 in
theorem ggX8_removalSize_X8_isLevel : GoodIn wsX8_removalSize wsX8_isLevel := goodIn_r _ [6, 7, 8, 9, 5, 10] (by decide +kernel) (by decide +kernel)
set_option maxRecDepth 20000 in
theorem gX8_removalSize_X8_isLevel : GoodIn wsX8_removalSize (va_wsS RX8 181 yX8_isLevel wsX8_isLevel) := goodIn_app (goodIn_of _ (by decide +kernel)) ggX8_removalSize_X8_isLevel
theorem dX8_removalSize_0 : decode cX8_removalSize 0 = .ok (.aload_n 0, 1) := by decide +kernel
theorem dX8_removalSize_1 : decode cX8_removalSize 1 = .ok (.iconst 0, 1) := by decide +kernel
theorem dX8_removalSize_2 : decode cX8_removalSize 2 = .ok (.putfield 1, 3) := by decide +kernel
theorem dX8_removalSize_5 : decode cX8_removalSize 5 = .ok (.iload_n 1, 1) := by decide +kernel
theorem dX8_removalSize_6 : decode cX8_removalSize 6 = .ok (.invokestatic 181, 3) := by decide +kernel
theorem dX8_removalSize_9 : decode cX8_removalSize 9 = .ok (.ifCond .eq 15, 3) := by decide +kernel
theorem dX8_removalSize_12 : decode cX8_removalSize 12 = .ok (.aload_n 0, 1) := by decide +kernel
theorem dX8_removalSize_13 : decode cX8_removalSize 13 = .ok (.getfield 30, 3) := by decide +kernel
theorem dX8_removalSize_16 : decode cX8_removalSize 16 = .ok (.bipush 7, 2) := by decide +kernel
theorem dX8_removalSize_18 : decode cX8_removalSize 18 = .ok (.iload_n 1, 1) := by decide +kernel
theorem dX8_removalSize_19 : decode cX8_removalSize 19 = .ok (.iadd, 1) := by decide +kernel
theorem dX8_removalSize_20 : decode cX8_removalSize 20 = .ok (.iaload, 1) := by decide +kernel
theorem dX8_removalSize_21 : decode cX8_removalSize 21 = .ok (.goto 5, 3) := by decide +kernel
theorem dX8_removalSize_24 : decode cX8_removalSize 24 = .ok (.bipush (-3), 2) := by decide +kernel
theorem dX8_removalSize_26 : decode cX8_removalSize 26 = .ok (.ireturn, 1) := by decide +kernel
set_option maxRecDepth 20000 in
theorem ggX8_areLike_X8_byteOf : GoodIn wsX8_areLike wsX8_byteOf := goodIn_r _ [6, 7, 22, 23, 24, 25, 26, 27, 28, 29, 30, 31, 32, 33, 34, 35, 36, 37, 38, 39, 40, 41, 42, 43, 44, 45, 46, 47, 48, 49, 50, 51, 52, 53, 54, 55, 56, 57, 58, 59, 60, 61, 62, 63] (by decide +kernel) (by decide +kernel)
set_option maxRecDepth 20000 in
theorem gX8_areLike_X8_byteOf : GoodIn wsX8_areLike (wsV RX8 125 RX8 yX8_byteOf wsX8_byteOf) := goodIn_app (goodIn_of _ (by decide +kernel)) ggX8_areLike_X8_byteOf
set_option maxRecDepth 20000 in
theorem ggX8_areLike_X8_like : GoodIn wsX8_areLike wsX8_like := goodIn_r _ [11, 12, 13, 14, 5, 15, 16, 17, 18, 19, 20, 21, 22, 23, 24, 25, 26, 27, 28, 29, 30, 31, 32, 33, 34, 35, 36, 37, 38, 39, 40, 41, 42, 43, 44, 45, 46, 47, 48, 49, 50, 51, 52, 53, 54, 55, 56, 57, 58, 59, 60, 61, 62, 63] (by decide +kernel) (by decide +kernel)
set_option maxRecDepth 20000 in
theorem gX8_areLike_X8_like : GoodIn wsX8_areLike (wsV RX8 129 RX8 yX8_like wsX8_like) := goodIn_app (goodIn_of _ (by decide +kernel)) ggX8_areLike_X8_like
theorem dX8_areLike_0 : decode cX8_areLike 0 = .ok (.aload_n 0, 1) := by decide +kernel
theorem dX8_areLike_1 : decode cX8_areLike 1 = .ok (.getfield 17, 3) := by decide +kernel
theorem dX8_areLike_4 : decode cX8_areLike 4 = .ok (.iload_n 1, 1) := by decide +kernel
theorem dX8_areLike_5 : decode cX8_areLike 5 = .ok (.iaload, 1) := by decide +kernel
theorem dX8_areLike_6 : decode cX8_areLike 6 = .ok (.iload_n 3, 1) := by decide +kernel
theorem dX8_areLike_7 : decode cX8_areLike 7 = .ok (.if_icmp .lt 13, 3) := by decide +kernel
theorem dX8_areLike_10 : decode cX8_areLike 10 = .ok (.aload_n 0, 1) := by decide +kernel
theorem dX8_areLike_11 : decode cX8_areLike 11 = .ok (.getfield 17, 3) := by decide +kernel
theorem dX8_areLike_14 : decode cX8_areLike 14 = .ok (.iload_n 2, 1) := by decide +kernel
theorem dX8_areLike_15 : decode cX8_areLike 15 = .ok (.iaload, 1) := by decide +kernel
theorem dX8_areLike_16 : decode cX8_areLike 16 = .ok (.iload_n 3, 1) := by decide +kernel
theorem dX8_areLike_17 : decode cX8_areLike 17 = .ok (.if_icmp .ge 5, 3) := by decide +kernel
theorem dX8_areLike_20 : decode cX8_areLike 20 = .ok (.iconst 0, 1) := by decide +kernel
theorem dX8_areLike_21 : decode cX8_areLike 21 = .ok (.ireturn, 1) := by decide +kernel
theorem dX8_areLike_22 : decode cX8_areLike 22 = .ok (.iconst 0, 1) := by decide +kernel
theorem dX8_areLike_23 : decode cX8_areLike 23 = .ok (.istore 4, 2) := by decide +kernel
theorem dX8_areLike_25 : decode cX8_areLike 25 = .ok (.iload 4, 2) := by decide +kernel
theorem dX8_areLike_27 : decode cX8_areLike 27 = .ok (.iload_n 3, 1) := by decide +kernel
theorem dX8_areLike_28 : decode cX8_areLike 28 = .ok (.if_icmp .ge 32, 3) := by decide +kernel
theorem dX8_areLike_31 : decode cX8_areLike 31 = .ok (.aload_n 0, 1) := by decide +kernel
theorem dX8_areLike_32 : decode cX8_areLike 32 = .ok (.aload_n 0, 1) := by decide +kernel
theorem dX8_areLike_33 : decode cX8_areLike 33 = .ok (.iload_n 1, 1) := by decide +kernel
theorem dX8_areLike_34 : decode cX8_areLike 34 = .ok (.iload 4, 2) := by decide +kernel
theorem dX8_areLike_36 : decode cX8_areLike 36 = .ok (.invokevirtual 125, 3) := by decide +kernel
theorem dX8_areLike_39 : decode cX8_areLike 39 = .ok (.aload_n 0, 1) := by decide +kernel
theorem dX8_areLike_40 : decode cX8_areLike 40 = .ok (.iload_n 2, 1) := by decide +kernel
theorem dX8_areLike_41 : decode cX8_areLike 41 = .ok (.iload 4, 2) := by decide +kernel
theorem dX8_areLike_43 : decode cX8_areLike 43 = .ok (.invokevirtual 125, 3) := by decide +kernel
theorem dX8_areLike_46 : decode cX8_areLike 46 = .ok (.invokevirtual 129, 3) := by decide +kernel
theorem dX8_areLike_49 : decode cX8_areLike 49 = .ok (.ifCond .ne 5, 3) := by decide +kernel
theorem dX8_areLike_52 : decode cX8_areLike 52 = .ok (.iconst 0, 1) := by decide +kernel
theorem dX8_areLike_53 : decode cX8_areLike 53 = .ok (.ireturn, 1) := by decide +kernel
theorem dX8_areLike_54 : decode cX8_areLike 54 = .ok (.iinc 4 1, 3) := by decide +kernel
theorem dX8_areLike_57 : decode cX8_areLike 57 = .ok (.goto (-32), 3) := by decide +kernel
theorem dX8_areLike_60 : decode cX8_areLike 60 = .ok (.iconst 1, 1) := by decide +kernel
theorem dX8_areLike_61 : decode cX8_areLike 61 = .ok (.ireturn, 1) := by decide +kernel
set_option maxRecDepth 20000 in
theorem ggX8_stateCount_X8_isLevel : GoodIn wsX8_stateCount wsX8_isLevel := goodIn_r _ [8, 9, 10, 11, 7, 12] (by decide +kernel) (by decide +kernel)
set_option maxRecDepth 20000 in
theorem gX8_stateCount_X8_isLevel : GoodIn wsX8_stateCount (va_wsS RX8 181 yX8_isLevel wsX8_isLevel) := goodIn_app (goodIn_of _ (by decide +kernel)) ggX8_stateCount_X8_isLevel
set_option maxRecDepth 20000 in
theorem ggX8_stateCount_X8_areLike : GoodIn wsX8_stateCount wsX8_areLike := goodIn_r _ [16, 4, 17, 18, 19, 7, 20, 21, 22, 23, 24, 25, 26, 27, 28, 29, 30, 31, 32, 10, 11, 12, 33, 34, 35, 36, 37, 38, 39, 40, 41, 42, 43, 44, 45, 46, 47, 48, 49, 50, 51, 52, 53, 54, 55, 56, 57, 58, 59, 60, 61, 62, 63, 64, 65, 66, 67, 68, 69, 70, 71, 72, 73, 74] (by decide +kernel) (by decide +kernel)
set_option maxRecDepth 20000 in
theorem gX8_stateCount_X8_areLike : GoodIn wsX8_stateCount (wsV RX8 184 RX8 yX8_areLike wsX8_areLike) := goodIn_app (goodIn_of _ (by decide +kernel)) ggX8_stateCount_X8_areLike
theorem dX8_stateCount_0 : decode cX8_stateCount 0 = .ok (.aload_n 0, 1) := by decide +kernel
theorem dX8_stateCount_1 : decode cX8_stateCount 1 = .ok (.iconst 0, 1) := by decide +kernel
theorem dX8_stateCount_2 : decode cX8_stateCount 2 = .ok (.putfield 1, 3) := by decide +kernel
theorem dX8_stateCount_5 : decode cX8_stateCount 5 = .ok (.iload_n 1, 1) := by decide +kernel
theorem dX8_stateCount_6 : decode cX8_stateCount 6 = .ok (.invokestatic 181, 3) := by decide +kernel
theorem dX8_stateCount_9 : decode cX8_stateCount 9 = .ok (.ifCond .ne 6, 3) := by decide +kernel
theorem dX8_stateCount_12 : decode cX8_stateCount 12 = .ok (.bipush (-3), 2) := by decide +kernel
theorem dX8_stateCount_14 : decode cX8_stateCount 14 = .ok (.ireturn, 1) := by decide +kernel
theorem dX8_stateCount_15 : decode cX8_stateCount 15 = .ok (.aload_n 0, 1) := by decide +kernel
theorem dX8_stateCount_16 : decode cX8_stateCount 16 = .ok (.getfield 30, 3) := by decide +kernel
theorem dX8_stateCount_19 : decode cX8_stateCount 19 = .ok (.iload_n 1, 1) := by decide +kernel
theorem dX8_stateCount_20 : decode cX8_stateCount 20 = .ok (.iaload, 1) := by decide +kernel
theorem dX8_stateCount_21 : decode cX8_stateCount 21 = .ok (.ifCond .ne 5, 3) := by decide +kernel
theorem dX8_stateCount_24 : decode cX8_stateCount 24 = .ok (.iconst (-1), 1) := by decide +kernel
theorem dX8_stateCount_25 : decode cX8_stateCount 25 = .ok (.ireturn, 1) := by decide +kernel
theorem dX8_stateCount_26 : decode cX8_stateCount 26 = .ok (.iconst 1, 1) := by decide +kernel
theorem dX8_stateCount_27 : decode cX8_stateCount 27 = .ok (.istore_n 2, 1) := by decide +kernel
theorem dX8_stateCount_28 : decode cX8_stateCount 28 = .ok (.iconst 0, 1) := by decide +kernel
theorem dX8_stateCount_29 : decode cX8_stateCount 29 = .ok (.istore_n 3, 1) := by decide +kernel
theorem dX8_stateCount_30 : decode cX8_stateCount 30 = .ok (.iload_n 3, 1) := by decide +kernel
theorem dX8_stateCount_31 : decode cX8_stateCount 31 = .ok (.aload_n 0, 1) := by decide +kernel
theorem dX8_stateCount_32 : decode cX8_stateCount 32 = .ok (.getfield 30, 3) := by decide +kernel
theorem dX8_stateCount_35 : decode cX8_stateCount 35 = .ok (.iload_n 1, 1) := by decide +kernel
theorem dX8_stateCount_36 : decode cX8_stateCount 36 = .ok (.iaload, 1) := by decide +kernel
theorem dX8_stateCount_37 : decode cX8_stateCount 37 = .ok (.if_icmp .ge 98, 3) := by decide +kernel
theorem dX8_stateCount_40 : decode cX8_stateCount 40 = .ok (.aload_n 0, 1) := by decide +kernel
theorem dX8_stateCount_41 : decode cX8_stateCount 41 = .ok (.getfield 33, 3) := by decide +kernel
theorem dX8_stateCount_44 : decode cX8_stateCount 44 = .ok (.sipush 128, 3) := by decide +kernel
theorem dX8_stateCount_47 : decode cX8_stateCount 47 = .ok (.iload_n 1, 1) := by decide +kernel
theorem dX8_stateCount_48 : decode cX8_stateCount 48 = .ok (.imul, 1) := by decide +kernel
theorem dX8_stateCount_49 : decode cX8_stateCount 49 = .ok (.iload_n 3, 1) := by decide +kernel
theorem dX8_stateCount_50 : decode cX8_stateCount 50 = .ok (.iadd, 1) := by decide +kernel
theorem dX8_stateCount_51 : decode cX8_stateCount 51 = .ok (.iaload, 1) := by decide +kernel
theorem dX8_stateCount_52 : decode cX8_stateCount 52 = .ok (.istore 4, 2) := by decide +kernel
theorem dX8_stateCount_54 : decode cX8_stateCount 54 = .ok (.iconst 0, 1) := by decide +kernel
theorem dX8_stateCount_55 : decode cX8_stateCount 55 = .ok (.istore 5, 2) := by decide +kernel
theorem dX8_stateCount_57 : decode cX8_stateCount 57 = .ok (.iconst 0, 1) := by decide +kernel
theorem dX8_stateCount_58 : decode cX8_stateCount 58 = .ok (.istore 6, 2) := by decide +kernel
theorem dX8_stateCount_60 : decode cX8_stateCount 60 = .ok (.iload 6, 2) := by decide +kernel
theorem dX8_stateCount_62 : decode cX8_stateCount 62 = .ok (.iload_n 3, 1) := by decide +kernel
theorem dX8_stateCount_63 : decode cX8_stateCount 63 = .ok (.if_icmp .ge 53, 3) := by decide +kernel
theorem dX8_stateCount_66 : decode cX8_stateCount 66 = .ok (.iload 5, 2) := by decide +kernel
theorem dX8_stateCount_68 : decode cX8_stateCount 68 = .ok (.aload_n 0, 1) := by decide +kernel
theorem dX8_stateCount_69 : decode cX8_stateCount 69 = .ok (.getfield 17, 3) := by decide +kernel
theorem dX8_stateCount_72 : decode cX8_stateCount 72 = .ok (.iload 4, 2) := by decide +kernel
theorem dX8_stateCount_74 : decode cX8_stateCount 74 = .ok (.iaload, 1) := by decide +kernel
theorem dX8_stateCount_75 : decode cX8_stateCount 75 = .ok (.if_icmp .ge 35, 3) := by decide +kernel
theorem dX8_stateCount_78 : decode cX8_stateCount 78 = .ok (.aload_n 0, 1) := by decide +kernel
theorem dX8_stateCount_79 : decode cX8_stateCount 79 = .ok (.iload 4, 2) := by decide +kernel
theorem dX8_stateCount_81 : decode cX8_stateCount 81 = .ok (.aload_n 0, 1) := by decide +kernel
theorem dX8_stateCount_82 : decode cX8_stateCount 82 = .ok (.getfield 33, 3) := by decide +kernel
theorem dX8_stateCount_85 : decode cX8_stateCount 85 = .ok (.sipush 128, 3) := by decide +kernel
theorem dX8_stateCount_88 : decode cX8_stateCount 88 = .ok (.iload_n 1, 1) := by decide +kernel
theorem dX8_stateCount_89 : decode cX8_stateCount 89 = .ok (.imul, 1) := by decide +kernel
theorem dX8_stateCount_90 : decode cX8_stateCount 90 = .ok (.iload 6, 2) := by decide +kernel
theorem dX8_stateCount_92 : decode cX8_stateCount 92 = .ok (.iadd, 1) := by decide +kernel
theorem dX8_stateCount_93 : decode cX8_stateCount 93 = .ok (.iaload, 1) := by decide +kernel
theorem dX8_stateCount_94 : decode cX8_stateCount 94 = .ok (.iload 5, 2) := by decide +kernel
theorem dX8_stateCount_96 : decode cX8_stateCount 96 = .ok (.iconst 1, 1) := by decide +kernel
theorem dX8_stateCount_97 : decode cX8_stateCount 97 = .ok (.iadd, 1) := by decide +kernel
theorem dX8_stateCount_98 : decode cX8_stateCount 98 = .ok (.invokevirtual 184, 3) := by decide +kernel
theorem dX8_stateCount_101 : decode cX8_stateCount 101 = .ok (.ifCond .eq 9, 3) := by decide +kernel
theorem dX8_stateCount_104 : decode cX8_stateCount 104 = .ok (.iinc 5 1, 3) := by decide +kernel
theorem dX8_stateCount_107 : decode cX8_stateCount 107 = .ok (.goto (-41), 3) := by decide +kernel
theorem dX8_stateCount_110 : decode cX8_stateCount 110 = .ok (.iinc 6 1, 3) := by decide +kernel
theorem dX8_stateCount_113 : decode cX8_stateCount 113 = .ok (.goto (-53), 3) := by decide +kernel
theorem dX8_stateCount_116 : decode cX8_stateCount 116 = .ok (.iload_n 2, 1) := by decide +kernel
theorem dX8_stateCount_117 : decode cX8_stateCount 117 = .ok (.aload_n 0, 1) := by decide +kernel
theorem dX8_stateCount_118 : decode cX8_stateCount 118 = .ok (.getfield 17, 3) := by decide +kernel
theorem dX8_stateCount_121 : decode cX8_stateCount 121 = .ok (.iload 4, 2) := by decide +kernel
theorem dX8_stateCount_123 : decode cX8_stateCount 123 = .ok (.iaload, 1) := by decide +kernel
theorem dX8_stateCount_124 : decode cX8_stateCount 124 = .ok (.iload 5, 2) := by decide +kernel
theorem dX8_stateCount_126 : decode cX8_stateCount 126 = .ok (.isub, 1) := by decide +kernel
theorem dX8_stateCount_127 : decode cX8_stateCount 127 = .ok (.iadd, 1) := by decide +kernel
theorem dX8_stateCount_128 : decode cX8_stateCount 128 = .ok (.istore_n 2, 1) := by decide +kernel
theorem dX8_stateCount_129 : decode cX8_stateCount 129 = .ok (.iinc 3 1, 3) := by decide +kernel
theorem dX8_stateCount_132 : decode cX8_stateCount 132 = .ok (.goto (-102), 3) := by decide +kernel
theorem dX8_stateCount_135 : decode cX8_stateCount 135 = .ok (.iload_n 2, 1) := by decide +kernel
theorem dX8_stateCount_136 : decode cX8_stateCount 136 = .ok (.ireturn, 1) := by decide +kernel
set_option maxRecDepth 20000 in
theorem ggX8_currentDepth_X8_isLevel : GoodIn wsX8_currentDepth wsX8_isLevel := goodIn_r _ [9, 10, 11, 12, 8, 13] (by decide +kernel) (by decide +kernel)
set_option maxRecDepth 20000 in
theorem gX8_currentDepth_X8_isLevel : GoodIn wsX8_currentDepth (va_wsS RX8 181 yX8_isLevel wsX8_isLevel) := goodIn_app (goodIn_of _ (by decide +kernel)) ggX8_currentDepth_X8_isLevel
set_option maxRecDepth 20000 in
theorem ggX8_currentDepth_X8_isInStream : GoodIn wsX8_currentDepth wsX8_isInStream := goodIn_r _ [17, 5, 18, 19, 20, 21, 8, 22, 23, 24, 25, 26, 27, 28, 29, 30, 31, 32, 33, 34, 11, 12, 13, 35, 36, 37, 38, 39, 40, 41, 42, 43, 44, 45, 46, 47, 48, 49, 50, 51, 52, 53, 54, 55, 56, 57, 58, 59, 60, 61, 62, 63, 64, 65, 66, 67, 68, 69, 70, 71, 72, 73, 74, 75, 76] (by decide +kernel) (by decide +kernel)
set_option maxRecDepth 20000 in
theorem gX8_currentDepth_X8_isInStream : GoodIn wsX8_currentDepth (wsV RX8 188 RX8 yX8_isInStream wsX8_isInStream) := goodIn_app (goodIn_of _ (by decide +kernel)) ggX8_currentDepth_X8_isInStream
theorem dX8_currentDepth_0 : decode cX8_currentDepth 0 = .ok (.aload_n 0, 1) := by decide +kernel
theorem dX8_currentDepth_1 : decode cX8_currentDepth 1 = .ok (.iconst 0, 1) := by decide +kernel
theorem dX8_currentDepth_2 : decode cX8_currentDepth 2 = .ok (.putfield 1, 3) := by decide +kernel
theorem dX8_currentDepth_5 : decode cX8_currentDepth 5 = .ok (.iload_n 1, 1) := by decide +kernel
theorem dX8_currentDepth_6 : decode cX8_currentDepth 6 = .ok (.invokestatic 181, 3) := by decide +kernel
theorem dX8_currentDepth_9 : decode cX8_currentDepth 9 = .ok (.ifCond .ne 6, 3) := by decide +kernel
theorem dX8_currentDepth_12 : decode cX8_currentDepth 12 = .ok (.bipush (-3), 2) := by decide +kernel
theorem dX8_currentDepth_14 : decode cX8_currentDepth 14 = .ok (.ireturn, 1) := by decide +kernel
theorem dX8_currentDepth_15 : decode cX8_currentDepth 15 = .ok (.aload_n 0, 1) := by decide +kernel
theorem dX8_currentDepth_16 : decode cX8_currentDepth 16 = .ok (.getfield 30, 3) := by decide +kernel
theorem dX8_currentDepth_19 : decode cX8_currentDepth 19 = .ok (.iload_n 1, 1) := by decide +kernel
theorem dX8_currentDepth_20 : decode cX8_currentDepth 20 = .ok (.iaload, 1) := by decide +kernel
theorem dX8_currentDepth_21 : decode cX8_currentDepth 21 = .ok (.ifCond .ne 5, 3) := by decide +kernel
theorem dX8_currentDepth_24 : decode cX8_currentDepth 24 = .ok (.iconst (-1), 1) := by decide +kernel
theorem dX8_currentDepth_25 : decode cX8_currentDepth 25 = .ok (.ireturn, 1) := by decide +kernel
theorem dX8_currentDepth_26 : decode cX8_currentDepth 26 = .ok (.iconst 0, 1) := by decide +kernel
theorem dX8_currentDepth_27 : decode cX8_currentDepth 27 = .ok (.istore_n 2, 1) := by decide +kernel
theorem dX8_currentDepth_28 : decode cX8_currentDepth 28 = .ok (.iconst 0, 1) := by decide +kernel
theorem dX8_currentDepth_29 : decode cX8_currentDepth 29 = .ok (.istore_n 3, 1) := by decide +kernel
theorem dX8_currentDepth_30 : decode cX8_currentDepth 30 = .ok (.iload_n 3, 1) := by decide +kernel
theorem dX8_currentDepth_31 : decode cX8_currentDepth 31 = .ok (.aload_n 0, 1) := by decide +kernel
theorem dX8_currentDepth_32 : decode cX8_currentDepth 32 = .ok (.getfield 30, 3) := by decide +kernel
theorem dX8_currentDepth_35 : decode cX8_currentDepth 35 = .ok (.iload_n 1, 1) := by decide +kernel
theorem dX8_currentDepth_36 : decode cX8_currentDepth 36 = .ok (.iaload, 1) := by decide +kernel
theorem dX8_currentDepth_37 : decode cX8_currentDepth 37 = .ok (.if_icmp .ge 80, 3) := by decide +kernel
theorem dX8_currentDepth_40 : decode cX8_currentDepth 40 = .ok (.aload_n 0, 1) := by decide +kernel
theorem dX8_currentDepth_41 : decode cX8_currentDepth 41 = .ok (.getfield 33, 3) := by decide +kernel
theorem dX8_currentDepth_44 : decode cX8_currentDepth 44 = .ok (.sipush 128, 3) := by decide +kernel
theorem dX8_currentDepth_47 : decode cX8_currentDepth 47 = .ok (.iload_n 1, 1) := by decide +kernel
theorem dX8_currentDepth_48 : decode cX8_currentDepth 48 = .ok (.imul, 1) := by decide +kernel
theorem dX8_currentDepth_49 : decode cX8_currentDepth 49 = .ok (.iload_n 3, 1) := by decide +kernel
theorem dX8_currentDepth_50 : decode cX8_currentDepth 50 = .ok (.iadd, 1) := by decide +kernel
