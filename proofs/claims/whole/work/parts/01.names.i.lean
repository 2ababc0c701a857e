theorem dX8_joinsBest_93 : decode cX8_joinsBest 93 = .ok (.getfield 57, 3) := by decide +kernel
theorem dX8_joinsBest_96 : decode cX8_joinsBest 96 = .ok (.iload_n 1, 1) := by decide +kernel
theorem dX8_joinsBest_97 : decode cX8_joinsBest 97 = .ok (.iaload, 1) := by decide +kernel
theorem dX8_joinsBest_98 : decode cX8_joinsBest 98 = .ok (.aload_n 0, 1) := by decide +kernel
theorem dX8_joinsBest_99 : decode cX8_joinsBest 99 = .ok (.getfield 57, 3) := by decide +kernel
theorem dX8_joinsBest_102 : decode cX8_joinsBest 102 = .ok (.iload_n 2, 1) := by decide +kernel
theorem dX8_joinsBest_103 : decode cX8_joinsBest 103 = .ok (.iaload, 1) := by decide +kernel
theorem dX8_joinsBest_104 : decode cX8_joinsBest 104 = .ok (.iload_n 3, 1) := by decide +kernel
theorem dX8_joinsBest_105 : decode cX8_joinsBest 105 = .ok (.invokevirtual 256, 3) := by decide +kernel
theorem dX8_joinsBest_108 : decode cX8_joinsBest 108 = .ok (.aload_n 0, 1) := by decide +kernel
theorem dX8_joinsBest_109 : decode cX8_joinsBest 109 = .ok (.dup, 1) := by decide +kernel
theorem dX8_joinsBest_110 : decode cX8_joinsBest 110 = .ok (.getfield 241, 3) := by decide +kernel
theorem dX8_joinsBest_113 : decode cX8_joinsBest 113 = .ok (.iconst 1, 1) := by decide +kernel
theorem dX8_joinsBest_114 : decode cX8_joinsBest 114 = .ok (.isub, 1) := by decide +kernel
theorem dX8_joinsBest_115 : decode cX8_joinsBest 115 = .ok (.putfield 241, 3) := by decide +kernel
theorem dX8_joinsBest_118 : decode cX8_joinsBest 118 = .ok (.iload_n 2, 1) := by decide +kernel
theorem dX8_joinsBest_119 : decode cX8_joinsBest 119 = .ok (.istore 4, 2) := by decide +kernel
theorem dX8_joinsBest_121 : decode cX8_joinsBest 121 = .ok (.iload 4, 2) := by decide +kernel
theorem dX8_joinsBest_123 : decode cX8_joinsBest 123 = .ok (.aload_n 0, 1) := by decide +kernel
theorem dX8_joinsBest_124 : decode cX8_joinsBest 124 = .ok (.getfield 241, 3) := by decide +kernel
theorem dX8_joinsBest_127 : decode cX8_joinsBest 127 = .ok (.if_icmp .ge 25, 3) := by decide +kernel
theorem dX8_joinsBest_130 : decode cX8_joinsBest 130 = .ok (.aload_n 0, 1) := by decide +kernel
theorem dX8_joinsBest_131 : decode cX8_joinsBest 131 = .ok (.getfield 57, 3) := by decide +kernel
theorem dX8_joinsBest_134 : decode cX8_joinsBest 134 = .ok (.iload 4, 2) := by decide +kernel
theorem dX8_joinsBest_136 : decode cX8_joinsBest 136 = .ok (.aload_n 0, 1) := by decide +kernel
theorem dX8_joinsBest_137 : decode cX8_joinsBest 137 = .ok (.getfield 57, 3) := by decide +kernel
theorem dX8_joinsBest_140 : decode cX8_joinsBest 140 = .ok (.iload 4, 2) := by decide +kernel
theorem dX8_joinsBest_142 : decode cX8_joinsBest 142 = .ok (.iconst 1, 1) := by decide +kernel
theorem dX8_joinsBest_143 : decode cX8_joinsBest 143 = .ok (.iadd, 1) := by decide +kernel
theorem dX8_joinsBest_144 : decode cX8_joinsBest 144 = .ok (.iaload, 1) := by decide +kernel
theorem dX8_joinsBest_145 : decode cX8_joinsBest 145 = .ok (.iastore, 1) := by decide +kernel
theorem dX8_joinsBest_146 : decode cX8_joinsBest 146 = .ok (.iinc 4 1, 3) := by decide +kernel
theorem dX8_joinsBest_149 : decode cX8_joinsBest 149 = .ok (.goto (-28), 3) := by decide +kernel
theorem dX8_joinsBest_152 : decode cX8_joinsBest 152 = .ok (.return_, 1) := by decide +kernel
set_option maxRecDepth 20000 in
theorem ggX8_laysWhole_X8_laysElements : GoodIn wsX8_laysWhole wsX8_laysElements := goodIn_r _ [13, 3, 14, 15, 4, 16, 5, 7, 17, 18, 19, 20, 21, 22, 12, 23, 24, 25, 26, 27, 28, 29, 30, 31, 32, 33, 34, 35, 36, 37, 38, 39, 40, 41, 42, 43, 44, 45, 46, 47, 48, 49, 50, 68, 69, 70, 71, 72, 73, 74, 75, 76, 77, 78, 79, 80, 81, 82, 83, 84, 85, 86, 87, 88, 89, 90, 91, 92, 93, 94, 95, 96, 97, 98, 99, 100, 101, 102, 103, 104, 105, 106, 107, 108, 109] (by decide +kernel) (by decide +kernel)
set_option maxRecDepth 20000 in
theorem gX8_laysWhole_X8_laysElements : GoodIn wsX8_laysWhole (wsV RX8 260 RX8 yX8_laysElements wsX8_laysElements) := goodIn_app (goodIn_of _ (by decide +kernel)) ggX8_laysWhole_X8_laysElements
set_option maxRecDepth 20000 in
theorem ggX8_laysWhole_X8_joinsBest : GoodIn wsX8_laysWhole wsX8_joinsBest := goodIn_r _ [54, 3, 4, 55, 56, 57, 12, 58, 16, 59, 60, 61, 62, 19, 18, 47, 48, 49, 50, 33, 34, 35, 36, 37, 38, 39, 40, 41, 42, 43, 44, 45, 46, 63, 64, 65, 66, 67, 7, 17, 8, 68, 69, 70, 71, 72, 73, 74, 75, 76, 77, 78, 79, 80, 81, 82, 83, 84, 85, 86, 87, 88, 89, 90, 91, 92, 93, 94, 95, 96, 97, 98, 99, 100, 101, 102, 103, 104, 105, 106, 107, 108, 109] (by decide +kernel) (by decide +kernel)
set_option maxRecDepth 20000 in
theorem gX8_laysWhole_X8_joinsBest : GoodIn wsX8_laysWhole (wsV RX8 266 RX8 yX8_joinsBest wsX8_joinsBest) := goodIn_app (goodIn_of _ (by decide +kernel)) ggX8_laysWhole_X8_joinsBest
set_option maxRecDepth 20000 in
theorem ggX8_laysWhole_X8_byteOf : GoodIn wsX8_laysWhole wsX8_byteOf := goodIn_r _ [31, 32, 68, 69, 70, 71, 72, 73, 74, 75, 76, 77, 78, 79, 80, 81, 82, 83, 84, 85, 86, 87, 88, 89, 90, 91, 92, 93, 94, 95, 96, 97, 98, 99, 100, 101, 102, 103, 104, 105, 106, 107, 108, 109] (by decide +kernel) (by decide +kernel)
set_option maxRecDepth 20000 in
theorem gX8_laysWhole_X8_byteOf : GoodIn wsX8_laysWhole (wsV RX8 125 RX8 yX8_byteOf wsX8_byteOf) := goodIn_app (goodIn_of _ (by decide +kernel)) ggX8_laysWhole_X8_byteOf
theorem dX8_laysWhole_0 : decode cX8_laysWhole 0 = .ok (.aload_n 0, 1) := by decide +kernel
theorem dX8_laysWhole_1 : decode cX8_laysWhole 1 = .ok (.getfield 154, 3) := by decide +kernel
theorem dX8_laysWhole_4 : decode cX8_laysWhole 4 = .ok (.ifCond .eq 4, 3) := by decide +kernel
theorem dX8_laysWhole_7 : decode cX8_laysWhole 7 = .ok (.return_, 1) := by decide +kernel
theorem dX8_laysWhole_8 : decode cX8_laysWhole 8 = .ok (.aload_n 0, 1) := by decide +kernel
theorem dX8_laysWhole_9 : decode cX8_laysWhole 9 = .ok (.iconst 1, 1) := by decide +kernel
theorem dX8_laysWhole_10 : decode cX8_laysWhole 10 = .ok (.putfield 154, 3) := by decide +kernel
theorem dX8_laysWhole_13 : decode cX8_laysWhole 13 = .ok (.aload_n 0, 1) := by decide +kernel
theorem dX8_laysWhole_14 : decode cX8_laysWhole 14 = .ok (.invokevirtual 260, 3) := by decide +kernel
theorem dX8_laysWhole_17 : decode cX8_laysWhole 17 = .ok (.aload_n 0, 1) := by decide +kernel
theorem dX8_laysWhole_18 : decode cX8_laysWhole 18 = .ok (.iconst 0, 1) := by decide +kernel
theorem dX8_laysWhole_19 : decode cX8_laysWhole 19 = .ok (.putfield 263, 3) := by decide +kernel
theorem dX8_laysWhole_22 : decode cX8_laysWhole 22 = .ok (.aload_n 0, 1) := by decide +kernel
theorem dX8_laysWhole_23 : decode cX8_laysWhole 23 = .ok (.getfield 241, 3) := by decide +kernel
theorem dX8_laysWhole_26 : decode cX8_laysWhole 26 = .ok (.iconst 1, 1) := by decide +kernel
theorem dX8_laysWhole_27 : decode cX8_laysWhole 27 = .ok (.if_icmp .le 10, 3) := by decide +kernel
theorem dX8_laysWhole_30 : decode cX8_laysWhole 30 = .ok (.aload_n 0, 1) := by decide +kernel
theorem dX8_laysWhole_31 : decode cX8_laysWhole 31 = .ok (.invokevirtual 266, 3) := by decide +kernel
theorem dX8_laysWhole_34 : decode cX8_laysWhole 34 = .ok (.goto (-12), 3) := by decide +kernel
theorem dX8_laysWhole_37 : decode cX8_laysWhole 37 = .ok (.aload_n 0, 1) := by decide +kernel
theorem dX8_laysWhole_38 : decode cX8_laysWhole 38 = .ok (.getfield 241, 3) := by decide +kernel
theorem dX8_laysWhole_41 : decode cX8_laysWhole 41 = .ok (.ifCond .ne 4, 3) := by decide +kernel
theorem dX8_laysWhole_44 : decode cX8_laysWhole 44 = .ok (.return_, 1) := by decide +kernel
theorem dX8_laysWhole_45 : decode cX8_laysWhole 45 = .ok (.iconst 0, 1) := by decide +kernel
theorem dX8_laysWhole_46 : decode cX8_laysWhole 46 = .ok (.istore_n 1, 1) := by decide +kernel
theorem dX8_laysWhole_47 : decode cX8_laysWhole 47 = .ok (.aload_n 0, 1) := by decide +kernel
theorem dX8_laysWhole_48 : decode cX8_laysWhole 48 = .ok (.getfield 57, 3) := by decide +kernel
theorem dX8_laysWhole_51 : decode cX8_laysWhole 51 = .ok (.iconst 0, 1) := by decide +kernel
theorem dX8_laysWhole_52 : decode cX8_laysWhole 52 = .ok (.iaload, 1) := by decide +kernel
theorem dX8_laysWhole_53 : decode cX8_laysWhole 53 = .ok (.istore_n 2, 1) := by decide +kernel
theorem dX8_laysWhole_54 : decode cX8_laysWhole 54 = .ok (.iload_n 2, 1) := by decide +kernel
theorem dX8_laysWhole_55 : decode cX8_laysWhole 55 = .ok (.iconst (-1), 1) := by decide +kernel
theorem dX8_laysWhole_56 : decode cX8_laysWhole 56 = .ok (.if_icmp .eq 107, 3) := by decide +kernel
theorem dX8_laysWhole_59 : decode cX8_laysWhole 59 = .ok (.iload_n 1, 1) := by decide +kernel
theorem dX8_laysWhole_60 : decode cX8_laysWhole 60 = .ok (.istore_n 3, 1) := by decide +kernel
theorem dX8_laysWhole_61 : decode cX8_laysWhole 61 = .ok (.iload_n 3, 1) := by decide +kernel
theorem dX8_laysWhole_62 : decode cX8_laysWhole 62 = .ok (.aload_n 0, 1) := by decide +kernel
theorem dX8_laysWhole_63 : decode cX8_laysWhole 63 = .ok (.getfield 17, 3) := by decide +kernel
theorem dX8_laysWhole_66 : decode cX8_laysWhole 66 = .ok (.iload_n 2, 1) := by decide +kernel
theorem dX8_laysWhole_67 : decode cX8_laysWhole 67 = .ok (.iaload, 1) := by decide +kernel
theorem dX8_laysWhole_68 : decode cX8_laysWhole 68 = .ok (.if_icmp .ge 34, 3) := by decide +kernel
theorem dX8_laysWhole_71 : decode cX8_laysWhole 71 = .ok (.aload_n 0, 1) := by decide +kernel
theorem dX8_laysWhole_72 : decode cX8_laysWhole 72 = .ok (.getfield 78, 3) := by decide +kernel
theorem dX8_laysWhole_75 : decode cX8_laysWhole 75 = .ok (.aload_n 0, 1) := by decide +kernel
theorem dX8_laysWhole_76 : decode cX8_laysWhole 76 = .ok (.getfield 263, 3) := by decide +kernel
theorem dX8_laysWhole_79 : decode cX8_laysWhole 79 = .ok (.aload_n 0, 1) := by decide +kernel
theorem dX8_laysWhole_80 : decode cX8_laysWhole 80 = .ok (.iload_n 2, 1) := by decide +kernel
theorem dX8_laysWhole_81 : decode cX8_laysWhole 81 = .ok (.iload_n 3, 1) := by decide +kernel
theorem dX8_laysWhole_82 : decode cX8_laysWhole 82 = .ok (.invokevirtual 125, 3) := by decide +kernel
theorem dX8_laysWhole_85 : decode cX8_laysWhole 85 = .ok (.iastore, 1) := by decide +kernel
theorem dX8_laysWhole_86 : decode cX8_laysWhole 86 = .ok (.aload_n 0, 1) := by decide +kernel
theorem dX8_laysWhole_87 : decode cX8_laysWhole 87 = .ok (.dup, 1) := by decide +kernel
theorem dX8_laysWhole_88 : decode cX8_laysWhole 88 = .ok (.getfield 263, 3) := by decide +kernel
theorem dX8_laysWhole_91 : decode cX8_laysWhole 91 = .ok (.iconst 1, 1) := by decide +kernel
theorem dX8_laysWhole_92 : decode cX8_laysWhole 92 = .ok (.iadd, 1) := by decide +kernel
theorem dX8_laysWhole_93 : decode cX8_laysWhole 93 = .ok (.putfield 263, 3) := by decide +kernel
theorem dX8_laysWhole_96 : decode cX8_laysWhole 96 = .ok (.iinc 3 1, 3) := by decide +kernel
theorem dX8_laysWhole_99 : decode cX8_laysWhole 99 = .ok (.goto (-38), 3) := by decide +kernel
theorem dX8_laysWhole_102 : decode cX8_laysWhole 102 = .ok (.iload_n 1, 1) := by decide +kernel
theorem dX8_laysWhole_103 : decode cX8_laysWhole 103 = .ok (.aload_n 0, 1) := by decide +kernel
theorem dX8_laysWhole_104 : decode cX8_laysWhole 104 = .ok (.getfield 17, 3) := by decide +kernel
theorem dX8_laysWhole_107 : decode cX8_laysWhole 107 = .ok (.iload_n 2, 1) := by decide +kernel
theorem dX8_laysWhole_108 : decode cX8_laysWhole 108 = .ok (.iaload, 1) := by decide +kernel
theorem dX8_laysWhole_109 : decode cX8_laysWhole 109 = .ok (.if_icmp .le 14, 3) := by decide +kernel
theorem dX8_laysWhole_112 : decode cX8_laysWhole 112 = .ok (.iload_n 1, 1) := by decide +kernel
theorem dX8_laysWhole_113 : decode cX8_laysWhole 113 = .ok (.aload_n 0, 1) := by decide +kernel
theorem dX8_laysWhole_114 : decode cX8_laysWhole 114 = .ok (.getfield 17, 3) := by decide +kernel
theorem dX8_laysWhole_117 : decode cX8_laysWhole 117 = .ok (.iload_n 2, 1) := by decide +kernel
theorem dX8_laysWhole_118 : decode cX8_laysWhole 118 = .ok (.iaload, 1) := by decide +kernel
theorem dX8_laysWhole_119 : decode cX8_laysWhole 119 = .ok (.isub, 1) := by decide +kernel
theorem dX8_laysWhole_120 : decode cX8_laysWhole 120 = .ok (.goto 4, 3) := by decide +kernel
theorem dX8_laysWhole_123 : decode cX8_laysWhole 123 = .ok (.iconst 0, 1) := by decide +kernel
theorem dX8_laysWhole_124 : decode cX8_laysWhole 124 = .ok (.istore_n 3, 1) := by decide +kernel
theorem dX8_laysWhole_125 : decode cX8_laysWhole 125 = .ok (.aload_n 0, 1) := by decide +kernel
theorem dX8_laysWhole_126 : decode cX8_laysWhole 126 = .ok (.getfield 69, 3) := by decide +kernel
theorem dX8_laysWhole_129 : decode cX8_laysWhole 129 = .ok (.iload_n 2, 1) := by decide +kernel
theorem dX8_laysWhole_130 : decode cX8_laysWhole 130 = .ok (.iaload, 1) := by decide +kernel
theorem dX8_laysWhole_131 : decode cX8_laysWhole 131 = .ok (.iconst (-1), 1) := by decide +kernel
theorem dX8_laysWhole_132 : decode cX8_laysWhole 132 = .ok (.if_icmp .ne 7, 3) := by decide +kernel
theorem dX8_laysWhole_135 : decode cX8_laysWhole 135 = .ok (.iconst 0, 1) := by decide +kernel
theorem dX8_laysWhole_136 : decode cX8_laysWhole 136 = .ok (.goto 16, 3) := by decide +kernel
theorem dX8_laysWhole_139 : decode cX8_laysWhole 139 = .ok (.aload_n 0, 1) := by decide +kernel
theorem dX8_laysWhole_140 : decode cX8_laysWhole 140 = .ok (.getfield 72, 3) := by decide +kernel
theorem dX8_laysWhole_143 : decode cX8_laysWhole 143 = .ok (.aload_n 0, 1) := by decide +kernel
theorem dX8_laysWhole_144 : decode cX8_laysWhole 144 = .ok (.getfield 69, 3) := by decide +kernel
theorem dX8_laysWhole_147 : decode cX8_laysWhole 147 = .ok (.iload_n 2, 1) := by decide +kernel
theorem dX8_laysWhole_148 : decode cX8_laysWhole 148 = .ok (.iaload, 1) := by decide +kernel
theorem dX8_laysWhole_149 : decode cX8_laysWhole 149 = .ok (.iaload, 1) := by decide +kernel
theorem dX8_laysWhole_150 : decode cX8_laysWhole 150 = .ok (.iload_n 3, 1) := by decide +kernel
theorem dX8_laysWhole_151 : decode cX8_laysWhole 151 = .ok (.iadd, 1) := by decide +kernel
theorem dX8_laysWhole_152 : decode cX8_laysWhole 152 = .ok (.istore_n 1, 1) := by decide +kernel
theorem dX8_laysWhole_153 : decode cX8_laysWhole 153 = .ok (.aload_n 0, 1) := by decide +kernel
theorem dX8_laysWhole_154 : decode cX8_laysWhole 154 = .ok (.getfield 69, 3) := by decide +kernel
theorem dX8_laysWhole_157 : decode cX8_laysWhole 157 = .ok (.iload_n 2, 1) := by decide +kernel
theorem dX8_laysWhole_158 : decode cX8_laysWhole 158 = .ok (.iaload, 1) := by decide +kernel
theorem dX8_laysWhole_159 : decode cX8_laysWhole 159 = .ok (.istore_n 2, 1) := by decide +kernel
theorem dX8_laysWhole_160 : decode cX8_laysWhole 160 = .ok (.goto (-106), 3) := by decide +kernel
theorem dX8_laysWhole_163 : decode cX8_laysWhole 163 = .ok (.return_, 1) := by decide +kernel
set_option maxRecDepth 20000 in
theorem ggX8_superstringLength_X8_laysWhole : GoodIn wsX8_superstringLength wsX8_laysWhole := goodIn_r _ [7, 8, 2, 9, 10, 11, 12, 13, 14, 15, 16, 17, 6, 18, 19, 20, 21, 22, 23, 24, 25, 26, 27, 28, 29, 30, 31, 32, 33, 34, 35, 36, 37, 38, 39, 40, 41, 42, 43, 44, 45, 46, 47, 48, 49, 50, 51, 52, 53, 54, 55, 56, 57, 58, 59, 60, 61, 62, 63, 64, 65, 66, 67, 68, 69, 70, 71, 72, 73, 74, 75, 76, 77, 78, 79, 80, 81, 82, 83, 84, 85, 86, 87, 88, 89, 90, 91, 92, 93, 94, 95, 96, 97, 98, 99, 100, 101, 102, 103, 104, 105, 106, 107, 108, 109, 110, 111, 112, 113, 114] (by decide +kernel) (by decide +kernel)
set_option maxRecDepth 20000 in
theorem gX8_superstringLength_X8_laysWhole : GoodIn wsX8_superstringLength (wsV RX8 269 RX8 yX8_laysWhole wsX8_laysWhole) := goodIn_app (goodIn_of _ (by decide +kernel)) ggX8_superstringLength_X8_laysWhole
theorem dX8_superstringLength_0 : decode cX8_superstringLength 0 = .ok (.aload_n 0, 1) := by decide +kernel
theorem dX8_superstringLength_1 : decode cX8_superstringLength 1 = .ok (.iconst 0, 1) := by decide +kernel
theorem dX8_superstringLength_2 : decode cX8_superstringLength 2 = .ok (.putfield 1, 3) := by decide +kernel
theorem dX8_superstringLength_5 : decode cX8_superstringLength 5 = .ok (.aload_n 0, 1) := by decide +kernel
theorem dX8_superstringLength_6 : decode cX8_superstringLength 6 = .ok (.invokevirtual 269, 3) := by decide +kernel
theorem dX8_superstringLength_9 : decode cX8_superstringLength 9 = .ok (.aload_n 0, 1) := by decide +kernel
theorem dX8_superstringLength_10 : decode cX8_superstringLength 10 = .ok (.getfield 263, 3) := by decide +kernel
theorem dX8_superstringLength_13 : decode cX8_superstringLength 13 = .ok (.ireturn, 1) := by decide +kernel
set_option maxRecDepth 20000 in
theorem ggX8_superstringByte_X8_laysWhole : GoodIn wsX8_superstringByte wsX8_laysWhole := goodIn_r _ [8, 9, 2, 10, 11, 12, 3, 13, 14, 15, 16, 17, 7, 18, 19, 20, 21, 22, 23, 24, 25, 26, 27, 28, 29, 30, 31, 32, 33, 34, 35, 36, 37, 38, 39, 40, 41, 42, 43, 44, 45, 46, 47, 48, 49, 50, 51, 52, 53, 54, 55, 56, 57, 58, 59, 60, 61, 62, 63, 64, 65, 66, 67, 68, 69, 70, 71, 72, 73, 74, 75, 76, 77, 78, 79, 80, 81, 82, 83, 84, 85, 86, 87, 88, 89, 90, 91, 92, 93, 94, 95, 96, 97, 98, 99, 100, 101, 102, 103, 104, 105, 106, 107, 108, 109, 110, 111, 112, 113, 114] (by decide +kernel) (by decide +kernel)
set_option maxRecDepth 20000 in
theorem gX8_superstringByte_X8_laysWhole : GoodIn wsX8_superstringByte (wsV RX8 269 RX8 yX8_laysWhole wsX8_laysWhole) := goodIn_app (goodIn_of _ (by decide +kernel)) ggX8_superstringByte_X8_laysWhole
theorem dX8_superstringByte_0 : decode cX8_superstringByte 0 = .ok (.aload_n 0, 1) := by decide +kernel
theorem dX8_superstringByte_1 : decode cX8_superstringByte 1 = .ok (.iconst 0, 1) := by decide +kernel
theorem dX8_superstringByte_2 : decode cX8_superstringByte 2 = .ok (.putfield 1, 3) := by decide +kernel
theorem dX8_superstringByte_5 : decode cX8_superstringByte 5 = .ok (.iload_n 1, 1) := by decide +kernel
theorem dX8_superstringByte_6 : decode cX8_superstringByte 6 = .ok (.ifCond .ge 6, 3) := by decide +kernel
theorem dX8_superstringByte_9 : decode cX8_superstringByte 9 = .ok (.bipush (-3), 2) := by decide +kernel
theorem dX8_superstringByte_11 : decode cX8_superstringByte 11 = .ok (.ireturn, 1) := by decide +kernel
theorem dX8_superstringByte_12 : decode cX8_superstringByte 12 = .ok (.aload_n 0, 1) := by decide +kernel
theorem dX8_superstringByte_13 : decode cX8_superstringByte 13 = .ok (.invokevirtual 269, 3) := by decide +kernel
theorem dX8_superstringByte_16 : decode cX8_superstringByte 16 = .ok (.iload_n 1, 1) := by decide +kernel
theorem dX8_superstringByte_17 : decode cX8_superstringByte 17 = .ok (.aload_n 0, 1) := by decide +kernel
theorem dX8_superstringByte_18 : decode cX8_superstringByte 18 = .ok (.getfield 263, 3) := by decide +kernel
theorem dX8_superstringByte_21 : decode cX8_superstringByte 21 = .ok (.if_icmp .ge 12, 3) := by decide +kernel
theorem dX8_superstringByte_24 : decode cX8_superstringByte 24 = .ok (.aload_n 0, 1) := by decide +kernel
theorem dX8_superstringByte_25 : decode cX8_superstringByte 25 = .ok (.getfield 78, 3) := by decide +kernel
theorem dX8_superstringByte_28 : decode cX8_superstringByte 28 = .ok (.iload_n 1, 1) := by decide +kernel
theorem dX8_superstringByte_29 : decode cX8_superstringByte 29 = .ok (.iaload, 1) := by decide +kernel
theorem dX8_superstringByte_30 : decode cX8_superstringByte 30 = .ok (.goto 4, 3) := by decide +kernel
theorem dX8_superstringByte_33 : decode cX8_superstringByte 33 = .ok (.iconst (-1), 1) := by decide +kernel
theorem dX8_superstringByte_34 : decode cX8_superstringByte 34 = .ok (.ireturn, 1) := by decide +kernel
set_option maxRecDepth 20000 in
theorem ggX8_isInWhole_X8_byteOf : GoodIn wsX8_isInWhole wsX8_byteOf := goodIn_r _ [7, 8, 23, 24, 25, 26, 27, 28, 29, 30, 31, 32, 33, 34, 35, 36, 37, 38, 39, 40, 41, 42, 43, 44, 45, 46, 47, 48, 49, 50, 51, 52, 53, 54, 55, 56, 57, 58, 59, 60, 61, 62, 63, 64] (by decide +kernel) (by decide +kernel)
set_option maxRecDepth 20000 in
theorem gX8_isInWhole_X8_byteOf : GoodIn wsX8_isInWhole (wsV RX8 125 RX8 yX8_byteOf wsX8_byteOf) := goodIn_app (goodIn_of _ (by decide +kernel)) ggX8_isInWhole_X8_byteOf
set_option maxRecDepth 20000 in
theorem ggX8_isInWhole_X8_like : GoodIn wsX8_isInWhole wsX8_like := goodIn_r _ [12, 13, 14, 15, 6, 16, 17, 18, 19, 20, 21, 22, 23, 24, 25, 26, 27, 28, 29, 30, 31, 32, 33, 34, 35, 36, 37, 38, 39, 40, 41, 42, 43, 44, 45, 46, 47, 48, 49, 50, 51, 52, 53, 54, 55, 56, 57, 58, 59, 60, 61, 62, 63, 64] (by decide +kernel) (by decide +kernel)
set_option maxRecDepth 20000 in
theorem gX8_isInWhole_X8_like : GoodIn wsX8_isInWhole (wsV RX8 129 RX8 yX8_like wsX8_like) := goodIn_app (goodIn_of _ (by decide +kernel)) ggX8_isInWhole_X8_like
theorem dX8_isInWhole_0 : decode cX8_isInWhole 0 = .ok (.iconst 0, 1) := by decide +kernel
theorem dX8_isInWhole_1 : decode cX8_isInWhole 1 = .ok (.istore_n 3, 1) := by decide +kernel
theorem dX8_isInWhole_2 : decode cX8_isInWhole 2 = .ok (.iload_n 3, 1) := by decide +kernel
theorem dX8_isInWhole_3 : decode cX8_isInWhole 3 = .ok (.aload_n 0, 1) := by decide +kernel
theorem dX8_isInWhole_4 : decode cX8_isInWhole 4 = .ok (.getfield 17, 3) := by decide +kernel
theorem dX8_isInWhole_7 : decode cX8_isInWhole 7 = .ok (.iload_n 1, 1) := by decide +kernel
theorem dX8_isInWhole_8 : decode cX8_isInWhole 8 = .ok (.iaload, 1) := by decide +kernel
theorem dX8_isInWhole_9 : decode cX8_isInWhole 9 = .ok (.if_icmp .ge 32, 3) := by decide +kernel
theorem dX8_isInWhole_12 : decode cX8_isInWhole 12 = .ok (.aload_n 0, 1) := by decide +kernel
theorem dX8_isInWhole_13 : decode cX8_isInWhole 13 = .ok (.aload_n 0, 1) := by decide +kernel
theorem dX8_isInWhole_14 : decode cX8_isInWhole 14 = .ok (.iload_n 1, 1) := by decide +kernel
theorem dX8_isInWhole_15 : decode cX8_isInWhole 15 = .ok (.iload_n 3, 1) := by decide +kernel
theorem dX8_isInWhole_16 : decode cX8_isInWhole 16 = .ok (.invokevirtual 125, 3) := by decide +kernel
theorem dX8_isInWhole_19 : decode cX8_isInWhole 19 = .ok (.aload_n 0, 1) := by decide +kernel
theorem dX8_isInWhole_20 : decode cX8_isInWhole 20 = .ok (.getfield 78, 3) := by decide +kernel
theorem dX8_isInWhole_23 : decode cX8_isInWhole 23 = .ok (.iload_n 2, 1) := by decide +kernel
theorem dX8_isInWhole_24 : decode cX8_isInWhole 24 = .ok (.iload_n 3, 1) := by decide +kernel
theorem dX8_isInWhole_25 : decode cX8_isInWhole 25 = .ok (.iadd, 1) := by decide +kernel
theorem dX8_isInWhole_26 : decode cX8_isInWhole 26 = .ok (.iaload, 1) := by decide +kernel
theorem dX8_isInWhole_27 : decode cX8_isInWhole 27 = .ok (.invokevirtual 129, 3) := by decide +kernel
theorem dX8_isInWhole_30 : decode cX8_isInWhole 30 = .ok (.ifCond .ne 5, 3) := by decide +kernel
theorem dX8_isInWhole_33 : decode cX8_isInWhole 33 = .ok (.iconst 0, 1) := by decide +kernel
theorem dX8_isInWhole_34 : decode cX8_isInWhole 34 = .ok (.ireturn, 1) := by decide +kernel
theorem dX8_isInWhole_35 : decode cX8_isInWhole 35 = .ok (.iinc 3 1, 3) := by decide +kernel
theorem dX8_isInWhole_38 : decode cX8_isInWhole 38 = .ok (.goto (-36), 3) := by decide +kernel
theorem dX8_isInWhole_41 : decode cX8_isInWhole 41 = .ok (.iconst 1, 1) := by decide +kernel
theorem dX8_isInWhole_42 : decode cX8_isInWhole 42 = .ok (.ireturn, 1) := by decide +kernel
set_option maxRecDepth 20000 in
theorem ggX8_superstringStart_X8_isLiveOne : GoodIn wsX8_superstringStart wsX8_isLiveOne := goodIn_r _ [6, 7, 8, 9, 10, 5, 11, 12, 13, 14, 15, 85, 86, 87, 88, 89, 90, 91, 92, 93, 94, 95, 96, 97, 98, 99, 100, 101, 102, 103, 104, 105, 106, 107, 108, 109, 110, 111, 112, 113, 114, 115, 116, 117, 118, 119, 120, 121, 122, 123, 124, 125, 126] (by decide +kernel) (by decide +kernel)
set_option maxRecDepth 20000 in
theorem gX8_superstringStart_X8_isLiveOne : GoodIn wsX8_superstringStart (wsV RX8 161 RX8 yX8_isLiveOne wsX8_isLiveOne) := goodIn_app (goodIn_of _ (by decide +kernel)) ggX8_superstringStart_X8_isLiveOne
set_option maxRecDepth 20000 in
theorem ggX8_superstringStart_X8_laysWhole : GoodIn wsX8_superstringStart wsX8_laysWhole := goodIn_r _ [19, 20, 21, 22, 23, 24, 25, 26, 27, 28, 29, 30, 5, 31, 12, 7, 32, 33, 34, 35, 36, 37, 38, 39, 40, 41, 42, 43, 44, 45, 46, 47, 48, 49, 50, 51, 52, 53, 54, 55, 56, 57, 58, 59, 13, 14, 15, 60, 61, 62, 63, 64, 65, 66, 67, 68, 69, 70, 71, 72, 73, 74, 75, 76, 77, 78, 79, 80, 85, 86, 87, 88, 89, 90, 91, 92, 93, 94, 95, 96, 97, 98, 99, 100, 101, 102, 103, 104, 105, 106, 107, 108, 109, 110, 111, 112, 113, 114, 115, 116, 117, 118, 119, 120, 121, 122, 123, 124, 125, 126] (by decide +kernel) (by decide +kernel)
set_option maxRecDepth 20000 in
theorem gX8_superstringStart_X8_laysWhole : GoodIn wsX8_superstringStart (wsV RX8 269 RX8 yX8_laysWhole wsX8_laysWhole) := goodIn_app (goodIn_of _ (by decide +kernel)) ggX8_superstringStart_X8_laysWhole
set_option maxRecDepth 20000 in
theorem ggX8_superstringStart_X8_isInWhole : GoodIn wsX8_superstringStart wsX8_isInWhole := goodIn_r _ [84, 24, 25, 44, 45, 46, 5, 47, 48, 49, 50, 51, 52, 53, 54, 55, 56, 57, 58, 59, 13, 14, 15, 85, 86, 87, 88, 89, 90, 91, 92, 93, 94, 95, 96, 97, 98, 99, 100, 101, 102, 103, 104, 105, 106, 107, 108, 109, 110, 111, 112, 113, 114, 115, 116, 117, 118, 119, 120, 121, 122, 123, 124, 125, 126] (by decide +kernel) (by decide +kernel)
set_option maxRecDepth 20000 in
theorem gX8_superstringStart_X8_isInWhole : GoodIn wsX8_superstringStart (wsV RX8 272 RX8 yX8_isInWhole wsX8_isInWhole) := goodIn_app (goodIn_of _ (by decide +kernel)) ggX8_superstringStart_X8_isInWhole
theorem dX8_superstringStart_0 : decode cX8_superstringStart 0 = .ok (.aload_n 0, 1) := by decide +kernel
theorem dX8_superstringStart_1 : decode cX8_superstringStart 1 = .ok (.iconst 0, 1) := by decide +kernel
theorem dX8_superstringStart_2 : decode cX8_superstringStart 2 = .ok (.putfield 1, 3) := by decide +kernel
theorem dX8_superstringStart_5 : decode cX8_superstringStart 5 = .ok (.aload_n 0, 1) := by decide +kernel
theorem dX8_superstringStart_6 : decode cX8_superstringStart 6 = .ok (.iload_n 1, 1) := by decide +kernel
theorem dX8_superstringStart_7 : decode cX8_superstringStart 7 = .ok (.invokevirtual 161, 3) := by decide +kernel
theorem dX8_superstringStart_10 : decode cX8_superstringStart 10 = .ok (.ifCond .ne 6, 3) := by decide +kernel
theorem dX8_superstringStart_13 : decode cX8_superstringStart 13 = .ok (.bipush (-2), 2) := by decide +kernel
theorem dX8_superstringStart_15 : decode cX8_superstringStart 15 = .ok (.ireturn, 1) := by decide +kernel
theorem dX8_superstringStart_16 : decode cX8_superstringStart 16 = .ok (.aload_n 0, 1) := by decide +kernel
theorem dX8_superstringStart_17 : decode cX8_superstringStart 17 = .ok (.invokevirtual 269, 3) := by decide +kernel
theorem dX8_superstringStart_20 : decode cX8_superstringStart 20 = .ok (.iconst 0, 1) := by decide +kernel
theorem dX8_superstringStart_21 : decode cX8_superstringStart 21 = .ok (.istore_n 2, 1) := by decide +kernel
theorem dX8_superstringStart_22 : decode cX8_superstringStart 22 = .ok (.aload_n 0, 1) := by decide +kernel
theorem dX8_superstringStart_23 : decode cX8_superstringStart 23 = .ok (.iload_n 1, 1) := by decide +kernel
theorem dX8_superstringStart_24 : decode cX8_superstringStart 24 = .ok (.iload_n 2, 1) := by decide +kernel
theorem dX8_superstringStart_25 : decode cX8_superstringStart 25 = .ok (.invokevirtual 272, 3) := by decide +kernel
theorem dX8_superstringStart_28 : decode cX8_superstringStart 28 = .ok (.ifCond .ne 9, 3) := by decide +kernel
theorem dX8_superstringStart_31 : decode cX8_superstringStart 31 = .ok (.iinc 2 1, 3) := by decide +kernel
theorem dX8_superstringStart_34 : decode cX8_superstringStart 34 = .ok (.goto (-12), 3) := by decide +kernel
theorem dX8_superstringStart_37 : decode cX8_superstringStart 37 = .ok (.iload_n 2, 1) := by decide +kernel
theorem dX8_superstringStart_38 : decode cX8_superstringStart 38 = .ok (.ireturn, 1) := by decide +kernel
theorem dX8_better_0 : decode cX8_better 0 = .ok (.iload_n 1, 1) := by decide +kernel
theorem dX8_better_1 : decode cX8_better 1 = .ok (.aload_n 0, 1) := by decide +kernel
theorem dX8_better_2 : decode cX8_better 2 = .ok (.getfield 17, 3) := by decide +kernel
theorem dX8_better_5 : decode cX8_better 5 = .ok (.iload_n 2, 1) := by decide +kernel
theorem dX8_better_6 : decode cX8_better 6 = .ok (.iaload, 1) := by decide +kernel
theorem dX8_better_7 : decode cX8_better 7 = .ok (.iadd, 1) := by decide +kernel
theorem dX8_better_8 : decode cX8_better 8 = .ok (.istore_n 3, 1) := by decide +kernel
theorem dX8_better_9 : decode cX8_better 9 = .ok (.aload_n 0, 1) := by decide +kernel
theorem dX8_better_10 : decode cX8_better 10 = .ok (.getfield 84, 3) := by decide +kernel
theorem dX8_better_13 : decode cX8_better 13 = .ok (.iload_n 3, 1) := by decide +kernel
theorem dX8_better_14 : decode cX8_better 14 = .ok (.iaload, 1) := by decide +kernel
theorem dX8_better_15 : decode cX8_better 15 = .ok (.aload_n 0, 1) := by decide +kernel
theorem dX8_better_16 : decode cX8_better 16 = .ok (.getfield 17, 3) := by decide +kernel
theorem dX8_better_19 : decode cX8_better 19 = .ok (.iload_n 2, 1) := by decide +kernel
theorem dX8_better_20 : decode cX8_better 20 = .ok (.iaload, 1) := by decide +kernel
theorem dX8_better_21 : decode cX8_better 21 = .ok (.iadd, 1) := by decide +kernel
theorem dX8_better_22 : decode cX8_better 22 = .ok (.aload_n 0, 1) := by decide +kernel
theorem dX8_better_23 : decode cX8_better 23 = .ok (.getfield 84, 3) := by decide +kernel
theorem dX8_better_26 : decode cX8_better 26 = .ok (.iload_n 1, 1) := by decide +kernel
theorem dX8_better_27 : decode cX8_better 27 = .ok (.iaload, 1) := by decide +kernel
theorem dX8_better_28 : decode cX8_better 28 = .ok (.isub, 1) := by decide +kernel
theorem dX8_better_29 : decode cX8_better 29 = .ok (.istore 4, 2) := by decide +kernel
theorem dX8_better_31 : decode cX8_better 31 = .ok (.iload 4, 2) := by decide +kernel
theorem dX8_better_33 : decode cX8_better 33 = .ok (.ifCond .ne 25, 3) := by decide +kernel
theorem dX8_better_36 : decode cX8_better 36 = .ok (.aload_n 0, 1) := by decide +kernel
theorem dX8_better_37 : decode cX8_better 37 = .ok (.getfield 87, 3) := by decide +kernel
theorem dX8_better_40 : decode cX8_better 40 = .ok (.iload_n 3, 1) := by decide +kernel
theorem dX8_better_41 : decode cX8_better 41 = .ok (.iaload, 1) := by decide +kernel
theorem dX8_better_42 : decode cX8_better 42 = .ok (.aload_n 0, 1) := by decide +kernel
theorem dX8_better_43 : decode cX8_better 43 = .ok (.getfield 23, 3) := by decide +kernel
theorem dX8_better_46 : decode cX8_better 46 = .ok (.iload_n 2, 1) := by decide +kernel
theorem dX8_better_47 : decode cX8_better 47 = .ok (.iaload, 1) := by decide +kernel
theorem dX8_better_48 : decode cX8_better 48 = .ok (.iadd, 1) := by decide +kernel
theorem dX8_better_49 : decode cX8_better 49 = .ok (.aload_n 0, 1) := by decide +kernel
theorem dX8_better_50 : decode cX8_better 50 = .ok (.getfield 87, 3) := by decide +kernel
theorem dX8_better_53 : decode cX8_better 53 = .ok (.iload_n 1, 1) := by decide +kernel
theorem dX8_better_54 : decode cX8_better 54 = .ok (.iaload, 1) := by decide +kernel
theorem dX8_better_55 : decode cX8_better 55 = .ok (.isub, 1) := by decide +kernel
theorem dX8_better_56 : decode cX8_better 56 = .ok (.istore 4, 2) := by decide +kernel
theorem dX8_better_58 : decode cX8_better 58 = .ok (.iload 4, 2) := by decide +kernel
theorem dX8_better_60 : decode cX8_better 60 = .ok (.ifCond .eq 8, 3) := by decide +kernel
theorem dX8_better_63 : decode cX8_better 63 = .ok (.iload 4, 2) := by decide +kernel
theorem dX8_better_65 : decode cX8_better 65 = .ok (.goto 18, 3) := by decide +kernel
theorem dX8_better_68 : decode cX8_better 68 = .ok (.aload_n 0, 1) := by decide +kernel
theorem dX8_better_69 : decode cX8_better 69 = .ok (.getfield 90, 3) := by decide +kernel
theorem dX8_better_72 : decode cX8_better 72 = .ok (.iload_n 1, 1) := by decide +kernel
theorem dX8_better_73 : decode cX8_better 73 = .ok (.iaload, 1) := by decide +kernel
theorem dX8_better_74 : decode cX8_better 74 = .ok (.aload_n 0, 1) := by decide +kernel
theorem dX8_better_75 : decode cX8_better 75 = .ok (.getfield 90, 3) := by decide +kernel
theorem dX8_better_78 : decode cX8_better 78 = .ok (.iload_n 3, 1) := by decide +kernel
theorem dX8_better_79 : decode cX8_better 79 = .ok (.iaload, 1) := by decide +kernel
theorem dX8_better_80 : decode cX8_better 80 = .ok (.isub, 1) := by decide +kernel
theorem dX8_better_81 : decode cX8_better 81 = .ok (.iconst 1, 1) := by decide +kernel
theorem dX8_better_82 : decode cX8_better 82 = .ok (.isub, 1) := by decide +kernel
theorem dX8_better_83 : decode cX8_better 83 = .ok (.ireturn, 1) := by decide +kernel
set_option maxRecDepth 20000 in
theorem ggX8_laysCover_X8_laysMatches : GoodIn wsX8_laysCover wsX8_laysMatches := goodIn_r _ [15, 2, 16, 6, 7, 8, 9, 17, 18, 19, 14, 20, 21, 22, 23, 24, 25, 26, 27, 28, 29, 30, 31, 32, 33, 34, 35, 36, 37, 38, 39, 40, 49, 50, 51, 52, 53, 54, 55, 56, 57, 58, 59, 60, 61, 62, 63, 64, 65, 66, 67, 68, 69, 70, 71, 72, 73, 74, 75, 76, 77, 78, 79, 80, 81, 82, 83, 84, 85, 86, 87, 88, 89, 90] (by decide +kernel) (by decide +kernel)
set_option maxRecDepth 20000 in
theorem gX8_laysCover_X8_laysMatches : GoodIn wsX8_laysCover (wsV RX8 209 RX8 yX8_laysMatches wsX8_laysMatches) := goodIn_app (goodIn_of _ (by decide +kernel)) ggX8_laysCover_X8_laysMatches
set_option maxRecDepth 20000 in
theorem ggX8_laysCover_X8_hasAt : GoodIn wsX8_laysCover wsX8_hasAt := goodIn_r _ [44, 16, 49, 50, 51, 52, 53, 54, 55, 56, 57, 58, 59, 60, 61, 62, 63, 64, 65, 66, 67, 68, 69, 70, 71, 72, 73, 74, 75, 76, 77, 78, 79, 80, 81, 82, 83, 84, 85, 86, 87, 88, 89, 90] (by decide +kernel) (by decide +kernel)
set_option maxRecDepth 20000 in
theorem gX8_laysCover_X8_hasAt : GoodIn wsX8_laysCover (wsV RX8 212 RX8 yX8_hasAt wsX8_hasAt) := goodIn_app (goodIn_of _ (by decide +kernel)) ggX8_laysCover_X8_hasAt
set_option maxRecDepth 20000 in
theorem ggX8_laysCover_X8_better : GoodIn wsX8_laysCover wsX8_better := goodIn_r _ [48, 8, 1, 3, 10, 4, 49, 50, 51, 52, 53, 54, 55, 56, 57, 58, 59, 60, 61, 62, 63, 64, 65, 66, 67, 68, 69, 70, 71, 72, 73, 74, 75, 76, 77, 78, 79, 80, 81, 82, 83, 84, 85, 86, 87, 88, 89, 90] (by decide +kernel) (by decide +kernel)
set_option maxRecDepth 20000 in
theorem gX8_laysCover_X8_better : GoodIn wsX8_laysCover (wsV RX8 275 RX8 yX8_better wsX8_better) := goodIn_app (goodIn_of _ (by decide +kernel)) ggX8_laysCover_X8_better
theorem dX8_laysCover_0 : decode cX8_laysCover 0 = .ok (.aload_n 0, 1) := by decide +kernel
theorem dX8_laysCover_1 : decode cX8_laysCover 1 = .ok (.invokevirtual 209, 3) := by decide +kernel
theorem dX8_laysCover_4 : decode cX8_laysCover 4 = .ok (.aload_n 0, 1) := by decide +kernel
theorem dX8_laysCover_5 : decode cX8_laysCover 5 = .ok (.getfield 84, 3) := by decide +kernel
theorem dX8_laysCover_8 : decode cX8_laysCover 8 = .ok (.aload_n 0, 1) := by decide +kernel
theorem dX8_laysCover_9 : decode cX8_laysCover 9 = .ok (.getfield 170, 3) := by decide +kernel
theorem dX8_laysCover_12 : decode cX8_laysCover 12 = .ok (.iconst 0, 1) := by decide +kernel
theorem dX8_laysCover_13 : decode cX8_laysCover 13 = .ok (.iastore, 1) := by decide +kernel
theorem dX8_laysCover_14 : decode cX8_laysCover 14 = .ok (.aload_n 0, 1) := by decide +kernel
theorem dX8_laysCover_15 : decode cX8_laysCover 15 = .ok (.getfield 87, 3) := by decide +kernel
theorem dX8_laysCover_18 : decode cX8_laysCover 18 = .ok (.aload_n 0, 1) := by decide +kernel
theorem dX8_laysCover_19 : decode cX8_laysCover 19 = .ok (.getfield 170, 3) := by decide +kernel
theorem dX8_laysCover_22 : decode cX8_laysCover 22 = .ok (.iconst 0, 1) := by decide +kernel
theorem dX8_laysCover_23 : decode cX8_laysCover 23 = .ok (.iastore, 1) := by decide +kernel
theorem dX8_laysCover_24 : decode cX8_laysCover 24 = .ok (.aload_n 0, 1) := by decide +kernel
theorem dX8_laysCover_25 : decode cX8_laysCover 25 = .ok (.getfield 90, 3) := by decide +kernel
theorem dX8_laysCover_28 : decode cX8_laysCover 28 = .ok (.aload_n 0, 1) := by decide +kernel
theorem dX8_laysCover_29 : decode cX8_laysCover 29 = .ok (.getfield 170, 3) := by decide +kernel
theorem dX8_laysCover_32 : decode cX8_laysCover 32 = .ok (.iconst 0, 1) := by decide +kernel
theorem dX8_laysCover_33 : decode cX8_laysCover 33 = .ok (.iastore, 1) := by decide +kernel
theorem dX8_laysCover_34 : decode cX8_laysCover 34 = .ok (.aload_n 0, 1) := by decide +kernel
theorem dX8_laysCover_35 : decode cX8_laysCover 35 = .ok (.getfield 170, 3) := by decide +kernel
theorem dX8_laysCover_38 : decode cX8_laysCover 38 = .ok (.iconst 1, 1) := by decide +kernel
theorem dX8_laysCover_39 : decode cX8_laysCover 39 = .ok (.isub, 1) := by decide +kernel
theorem dX8_laysCover_40 : decode cX8_laysCover 40 = .ok (.istore_n 1, 1) := by decide +kernel
theorem dX8_laysCover_41 : decode cX8_laysCover 41 = .ok (.iload_n 1, 1) := by decide +kernel
theorem dX8_laysCover_42 : decode cX8_laysCover 42 = .ok (.ifCond .lt 220, 3) := by decide +kernel
theorem dX8_laysCover_45 : decode cX8_laysCover 45 = .ok (.aload_n 0, 1) := by decide +kernel
theorem dX8_laysCover_46 : decode cX8_laysCover 46 = .ok (.getfield 84, 3) := by decide +kernel
theorem dX8_laysCover_49 : decode cX8_laysCover 49 = .ok (.iload_n 1, 1) := by decide +kernel
theorem dX8_laysCover_50 : decode cX8_laysCover 50 = .ok (.aload_n 0, 1) := by decide +kernel
theorem dX8_laysCover_51 : decode cX8_laysCover 51 = .ok (.getfield 84, 3) := by decide +kernel
theorem dX8_laysCover_54 : decode cX8_laysCover 54 = .ok (.iload_n 1, 1) := by decide +kernel
theorem dX8_laysCover_55 : decode cX8_laysCover 55 = .ok (.iconst 1, 1) := by decide +kernel
theorem dX8_laysCover_56 : decode cX8_laysCover 56 = .ok (.iadd, 1) := by decide +kernel
theorem dX8_laysCover_57 : decode cX8_laysCover 57 = .ok (.iaload, 1) := by decide +kernel
theorem dX8_laysCover_58 : decode cX8_laysCover 58 = .ok (.iastore, 1) := by decide +kernel
theorem dX8_laysCover_59 : decode cX8_laysCover 59 = .ok (.aload_n 0, 1) := by decide +kernel
theorem dX8_laysCover_60 : decode cX8_laysCover 60 = .ok (.getfield 87, 3) := by decide +kernel
theorem dX8_laysCover_63 : decode cX8_laysCover 63 = .ok (.iload_n 1, 1) := by decide +kernel
theorem dX8_laysCover_64 : decode cX8_laysCover 64 = .ok (.aload_n 0, 1) := by decide +kernel
theorem dX8_laysCover_65 : decode cX8_laysCover 65 = .ok (.getfield 87, 3) := by decide +kernel
theorem dX8_laysCover_68 : decode cX8_laysCover 68 = .ok (.iload_n 1, 1) := by decide +kernel
theorem dX8_laysCover_69 : decode cX8_laysCover 69 = .ok (.iconst 1, 1) := by decide +kernel
theorem dX8_laysCover_70 : decode cX8_laysCover 70 = .ok (.iadd, 1) := by decide +kernel
theorem dX8_laysCover_71 : decode cX8_laysCover 71 = .ok (.iaload, 1) := by decide +kernel
theorem dX8_laysCover_72 : decode cX8_laysCover 72 = .ok (.iastore, 1) := by decide +kernel
theorem dX8_laysCover_73 : decode cX8_laysCover 73 = .ok (.aload_n 0, 1) := by decide +kernel
theorem dX8_laysCover_74 : decode cX8_laysCover 74 = .ok (.getfield 90, 3) := by decide +kernel
theorem dX8_laysCover_77 : decode cX8_laysCover 77 = .ok (.iload_n 1, 1) := by decide +kernel
theorem dX8_laysCover_78 : decode cX8_laysCover 78 = .ok (.aload_n 0, 1) := by decide +kernel
theorem dX8_laysCover_79 : decode cX8_laysCover 79 = .ok (.getfield 90, 3) := by decide +kernel
theorem dX8_laysCover_82 : decode cX8_laysCover 82 = .ok (.iload_n 1, 1) := by decide +kernel
theorem dX8_laysCover_83 : decode cX8_laysCover 83 = .ok (.iconst 1, 1) := by decide +kernel
theorem dX8_laysCover_84 : decode cX8_laysCover 84 = .ok (.iadd, 1) := by decide +kernel
theorem dX8_laysCover_85 : decode cX8_laysCover 85 = .ok (.iaload, 1) := by decide +kernel
theorem dX8_laysCover_86 : decode cX8_laysCover 86 = .ok (.iastore, 1) := by decide +kernel
theorem dX8_laysCover_87 : decode cX8_laysCover 87 = .ok (.aload_n 0, 1) := by decide +kernel
theorem dX8_laysCover_88 : decode cX8_laysCover 88 = .ok (.getfield 93, 3) := by decide +kernel
theorem dX8_laysCover_91 : decode cX8_laysCover 91 = .ok (.iload_n 1, 1) := by decide +kernel
theorem dX8_laysCover_92 : decode cX8_laysCover 92 = .ok (.iconst (-1), 1) := by decide +kernel
theorem dX8_laysCover_93 : decode cX8_laysCover 93 = .ok (.iastore, 1) := by decide +kernel
theorem dX8_laysCover_94 : decode cX8_laysCover 94 = .ok (.iconst 0, 1) := by decide +kernel
theorem dX8_laysCover_95 : decode cX8_laysCover 95 = .ok (.istore_n 2, 1) := by decide +kernel
theorem dX8_laysCover_96 : decode cX8_laysCover 96 = .ok (.iload_n 2, 1) := by decide +kernel
theorem dX8_laysCover_97 : decode cX8_laysCover 97 = .ok (.aload_n 0, 1) := by decide +kernel
theorem dX8_laysCover_98 : decode cX8_laysCover 98 = .ok (.getfield 102, 3) := by decide +kernel
theorem dX8_laysCover_101 : decode cX8_laysCover 101 = .ok (.if_icmp .ge 155, 3) := by decide +kernel
theorem dX8_laysCover_104 : decode cX8_laysCover 104 = .ok (.aload_n 0, 1) := by decide +kernel
theorem dX8_laysCover_105 : decode cX8_laysCover 105 = .ok (.getfield 26, 3) := by decide +kernel
theorem dX8_laysCover_108 : decode cX8_laysCover 108 = .ok (.iload_n 2, 1) := by decide +kernel
theorem dX8_laysCover_109 : decode cX8_laysCover 109 = .ok (.baload, 1) := by decide +kernel
theorem dX8_laysCover_110 : decode cX8_laysCover 110 = .ok (.ifCond .eq 140, 3) := by decide +kernel
theorem dX8_laysCover_113 : decode cX8_laysCover 113 = .ok (.aload_n 0, 1) := by decide +kernel
theorem dX8_laysCover_114 : decode cX8_laysCover 114 = .ok (.iload_n 1, 1) := by decide +kernel
theorem dX8_laysCover_115 : decode cX8_laysCover 115 = .ok (.aload_n 0, 1) := by decide +kernel
theorem dX8_laysCover_116 : decode cX8_laysCover 116 = .ok (.getfield 17, 3) := by decide +kernel
theorem dX8_laysCover_119 : decode cX8_laysCover 119 = .ok (.iload_n 2, 1) := by decide +kernel
theorem dX8_laysCover_120 : decode cX8_laysCover 120 = .ok (.iaload, 1) := by decide +kernel
theorem dX8_laysCover_121 : decode cX8_laysCover 121 = .ok (.invokevirtual 212, 3) := by decide +kernel
theorem dX8_laysCover_124 : decode cX8_laysCover 124 = .ok (.ifCond .eq 126, 3) := by decide +kernel
theorem dX8_laysCover_127 : decode cX8_laysCover 127 = .ok (.aload_n 0, 1) := by decide +kernel
theorem dX8_laysCover_128 : decode cX8_laysCover 128 = .ok (.getfield 54, 3) := by decide +kernel
theorem dX8_laysCover_131 : decode cX8_laysCover 131 = .ok (.bipush 17, 2) := by decide +kernel
theorem dX8_laysCover_133 : decode cX8_laysCover 133 = .ok (.iload_n 1, 1) := by decide +kernel
theorem dX8_laysCover_134 : decode cX8_laysCover 134 = .ok (.imul, 1) := by decide +kernel
theorem dX8_laysCover_135 : decode cX8_laysCover 135 = .ok (.aload_n 0, 1) := by decide +kernel
theorem dX8_laysCover_136 : decode cX8_laysCover 136 = .ok (.getfield 17, 3) := by decide +kernel
theorem dX8_laysCover_139 : decode cX8_laysCover 139 = .ok (.iload_n 2, 1) := by decide +kernel
theorem dX8_laysCover_140 : decode cX8_laysCover 140 = .ok (.iaload, 1) := by decide +kernel
theorem dX8_laysCover_141 : decode cX8_laysCover 141 = .ok (.iadd, 1) := by decide +kernel
theorem dX8_laysCover_142 : decode cX8_laysCover 142 = .ok (.iaload, 1) := by decide +kernel
theorem dX8_laysCover_143 : decode cX8_laysCover 143 = .ok (.iload_n 2, 1) := by decide +kernel
theorem dX8_laysCover_144 : decode cX8_laysCover 144 = .ok (.if_icmp .eq 6, 3) := by decide +kernel
theorem dX8_laysCover_147 : decode cX8_laysCover 147 = .ok (.goto 103, 3) := by decide +kernel
theorem dX8_laysCover_150 : decode cX8_laysCover 150 = .ok (.aload_n 0, 1) := by decide +kernel
theorem dX8_laysCover_151 : decode cX8_laysCover 151 = .ok (.iload_n 1, 1) := by decide +kernel
theorem dX8_laysCover_152 : decode cX8_laysCover 152 = .ok (.iload_n 2, 1) := by decide +kernel
theorem dX8_laysCover_153 : decode cX8_laysCover 153 = .ok (.invokevirtual 275, 3) := by decide +kernel
theorem dX8_laysCover_156 : decode cX8_laysCover 156 = .ok (.istore_n 3, 1) := by decide +kernel
theorem dX8_laysCover_157 : decode cX8_laysCover 157 = .ok (.iload_n 3, 1) := by decide +kernel
theorem dX8_laysCover_158 : decode cX8_laysCover 158 = .ok (.ifCond .lt 92, 3) := by decide +kernel
theorem dX8_laysCover_161 : decode cX8_laysCover 161 = .ok (.iload_n 3, 1) := by decide +kernel
theorem dX8_laysCover_162 : decode cX8_laysCover 162 = .ok (.ifCond .ne 16, 3) := by decide +kernel
theorem dX8_laysCover_165 : decode cX8_laysCover 165 = .ok (.aload_n 0, 1) := by decide +kernel
theorem dX8_laysCover_166 : decode cX8_laysCover 166 = .ok (.getfield 93, 3) := by decide +kernel
theorem dX8_laysCover_169 : decode cX8_laysCover 169 = .ok (.iload_n 1, 1) := by decide +kernel
theorem dX8_laysCover_170 : decode cX8_laysCover 170 = .ok (.iaload, 1) := by decide +kernel
theorem dX8_laysCover_171 : decode cX8_laysCover 171 = .ok (.iconst (-1), 1) := by decide +kernel
theorem dX8_laysCover_172 : decode cX8_laysCover 172 = .ok (.if_icmp .eq 6, 3) := by decide +kernel
theorem dX8_laysCover_175 : decode cX8_laysCover 175 = .ok (.goto 75, 3) := by decide +kernel
theorem dX8_laysCover_178 : decode cX8_laysCover 178 = .ok (.aload_n 0, 1) := by decide +kernel
theorem dX8_laysCover_179 : decode cX8_laysCover 179 = .ok (.getfield 93, 3) := by decide +kernel
theorem dX8_laysCover_182 : decode cX8_laysCover 182 = .ok (.iload_n 1, 1) := by decide +kernel
theorem dX8_laysCover_183 : decode cX8_laysCover 183 = .ok (.iload_n 2, 1) := by decide +kernel
theorem dX8_laysCover_184 : decode cX8_laysCover 184 = .ok (.iastore, 1) := by decide +kernel
theorem dX8_laysCover_185 : decode cX8_laysCover 185 = .ok (.iload_n 1, 1) := by decide +kernel
theorem dX8_laysCover_186 : decode cX8_laysCover 186 = .ok (.aload_n 0, 1) := by decide +kernel
theorem dX8_laysCover_187 : decode cX8_laysCover 187 = .ok (.getfield 17, 3) := by decide +kernel
theorem dX8_laysCover_190 : decode cX8_laysCover 190 = .ok (.iload_n 2, 1) := by decide +kernel
theorem dX8_laysCover_191 : decode cX8_laysCover 191 = .ok (.iaload, 1) := by decide +kernel
theorem dX8_laysCover_192 : decode cX8_laysCover 192 = .ok (.iadd, 1) := by decide +kernel
theorem dX8_laysCover_193 : decode cX8_laysCover 193 = .ok (.istore 4, 2) := by decide +kernel
theorem dX8_laysCover_195 : decode cX8_laysCover 195 = .ok (.aload_n 0, 1) := by decide +kernel
theorem dX8_laysCover_196 : decode cX8_laysCover 196 = .ok (.getfield 84, 3) := by decide +kernel
theorem dX8_laysCover_199 : decode cX8_laysCover 199 = .ok (.iload_n 1, 1) := by decide +kernel
theorem dX8_laysCover_200 : decode cX8_laysCover 200 = .ok (.aload_n 0, 1) := by decide +kernel
theorem dX8_laysCover_201 : decode cX8_laysCover 201 = .ok (.getfield 84, 3) := by decide +kernel
theorem dX8_laysCover_204 : decode cX8_laysCover 204 = .ok (.iload 4, 2) := by decide +kernel
theorem dX8_laysCover_206 : decode cX8_laysCover 206 = .ok (.iaload, 1) := by decide +kernel
theorem dX8_laysCover_207 : decode cX8_laysCover 207 = .ok (.aload_n 0, 1) := by decide +kernel
theorem dX8_laysCover_208 : decode cX8_laysCover 208 = .ok (.getfield 17, 3) := by decide +kernel
theorem dX8_laysCover_211 : decode cX8_laysCover 211 = .ok (.iload_n 2, 1) := by decide +kernel
theorem dX8_laysCover_212 : decode cX8_laysCover 212 = .ok (.iaload, 1) := by decide +kernel
theorem dX8_laysCover_213 : decode cX8_laysCover 213 = .ok (.iadd, 1) := by decide +kernel
theorem dX8_laysCover_214 : decode cX8_laysCover 214 = .ok (.iastore, 1) := by decide +kernel
theorem dX8_laysCover_215 : decode cX8_laysCover 215 = .ok (.aload_n 0, 1) := by decide +kernel
theorem dX8_laysCover_216 : decode cX8_laysCover 216 = .ok (.getfield 87, 3) := by decide +kernel
theorem dX8_laysCover_219 : decode cX8_laysCover 219 = .ok (.iload_n 1, 1) := by decide +kernel
theorem dX8_laysCover_220 : decode cX8_laysCover 220 = .ok (.aload_n 0, 1) := by decide +kernel
theorem dX8_laysCover_221 : decode cX8_laysCover 221 = .ok (.getfield 87, 3) := by decide +kernel
theorem dX8_laysCover_224 : decode cX8_laysCover 224 = .ok (.iload 4, 2) := by decide +kernel
theorem dX8_laysCover_226 : decode cX8_laysCover 226 = .ok (.iaload, 1) := by decide +kernel
theorem dX8_laysCover_227 : decode cX8_laysCover 227 = .ok (.aload_n 0, 1) := by decide +kernel
theorem dX8_laysCover_228 : decode cX8_laysCover 228 = .ok (.getfield 23, 3) := by decide +kernel
theorem dX8_laysCover_231 : decode cX8_laysCover 231 = .ok (.iload_n 2, 1) := by decide +kernel
theorem dX8_laysCover_232 : decode cX8_laysCover 232 = .ok (.iaload, 1) := by decide +kernel
theorem dX8_laysCover_233 : decode cX8_laysCover 233 = .ok (.iadd, 1) := by decide +kernel
theorem dX8_laysCover_234 : decode cX8_laysCover 234 = .ok (.iastore, 1) := by decide +kernel
theorem dX8_laysCover_235 : decode cX8_laysCover 235 = .ok (.aload_n 0, 1) := by decide +kernel
theorem dX8_laysCover_236 : decode cX8_laysCover 236 = .ok (.getfield 90, 3) := by decide +kernel
theorem dX8_laysCover_239 : decode cX8_laysCover 239 = .ok (.iload_n 1, 1) := by decide +kernel
theorem dX8_laysCover_240 : decode cX8_laysCover 240 = .ok (.aload_n 0, 1) := by decide +kernel
theorem dX8_laysCover_241 : decode cX8_laysCover 241 = .ok (.getfield 90, 3) := by decide +kernel
theorem dX8_laysCover_244 : decode cX8_laysCover 244 = .ok (.iload 4, 2) := by decide +kernel
theorem dX8_laysCover_246 : decode cX8_laysCover 246 = .ok (.iaload, 1) := by decide +kernel
theorem dX8_laysCover_247 : decode cX8_laysCover 247 = .ok (.iconst 1, 1) := by decide +kernel
theorem dX8_laysCover_248 : decode cX8_laysCover 248 = .ok (.iadd, 1) := by decide +kernel
theorem dX8_laysCover_249 : decode cX8_laysCover 249 = .ok (.iastore, 1) := by decide +kernel
theorem dX8_laysCover_250 : decode cX8_laysCover 250 = .ok (.iinc 2 1, 3) := by decide +kernel
theorem dX8_laysCover_253 : decode cX8_laysCover 253 = .ok (.goto (-157), 3) := by decide +kernel
theorem dX8_laysCover_256 : decode cX8_laysCover 256 = .ok (.iinc 1 (-1), 3) := by decide +kernel
theorem dX8_laysCover_259 : decode cX8_laysCover 259 = .ok (.goto (-218), 3) := by decide +kernel
theorem dX8_laysCover_262 : decode cX8_laysCover 262 = .ok (.return_, 1) := by decide +kernel
set_option maxRecDepth 20000 in
theorem ggX8_coveredBytes_X8_laysCover : GoodIn wsX8_coveredBytes wsX8_laysCover := goodIn_r _ [7, 2, 8, 9, 10, 11, 12, 13, 14, 15, 16, 17, 18, 19, 6, 20, 21, 22, 23, 24, 25, 26, 27, 28, 29, 30, 31, 32, 33, 34, 35, 36, 37, 38, 39, 40, 41, 42, 43, 44, 45, 46, 47, 48, 49, 50, 51, 52, 53, 54, 55, 56, 57, 58, 59, 60, 61, 62, 63, 64, 65, 66, 67, 68, 69, 70, 71, 72, 73, 74, 75, 76, 77, 78, 79, 80, 81, 82, 83, 84, 85, 86, 87, 88, 89, 90, 91, 92, 93, 94, 95] (by decide +kernel) (by decide +kernel)
set_option maxRecDepth 20000 in
theorem gX8_coveredBytes_X8_laysCover : GoodIn wsX8_coveredBytes (wsV RX8 278 RX8 yX8_laysCover wsX8_laysCover) := goodIn_app (goodIn_of _ (by decide +kernel)) ggX8_coveredBytes_X8_laysCover
theorem dX8_coveredBytes_0 : decode cX8_coveredBytes 0 = .ok (.aload_n 0, 1) := by decide +kernel
theorem dX8_coveredBytes_1 : decode cX8_coveredBytes 1 = .ok (.iconst 0, 1) := by decide +kernel
theorem dX8_coveredBytes_2 : decode cX8_coveredBytes 2 = .ok (.putfield 1, 3) := by decide +kernel
theorem dX8_coveredBytes_5 : decode cX8_coveredBytes 5 = .ok (.aload_n 0, 1) := by decide +kernel
theorem dX8_coveredBytes_6 : decode cX8_coveredBytes 6 = .ok (.invokevirtual 278, 3) := by decide +kernel
theorem dX8_coveredBytes_9 : decode cX8_coveredBytes 9 = .ok (.aload_n 0, 1) := by decide +kernel
theorem dX8_coveredBytes_10 : decode cX8_coveredBytes 10 = .ok (.getfield 84, 3) := by decide +kernel
theorem dX8_coveredBytes_13 : decode cX8_coveredBytes 13 = .ok (.iconst 0, 1) := by decide +kernel
theorem dX8_coveredBytes_14 : decode cX8_coveredBytes 14 = .ok (.iaload, 1) := by decide +kernel
theorem dX8_coveredBytes_15 : decode cX8_coveredBytes 15 = .ok (.ireturn, 1) := by decide +kernel
set_option maxRecDepth 20000 in
theorem ggX8_coverWeight_X8_laysCover : GoodIn wsX8_coverWeight wsX8_laysCover := goodIn_r _ [7, 8, 9, 2, 10, 11, 12, 13, 14, 15, 16, 17, 18, 19, 6, 20, 21, 22, 23, 24, 25, 26, 27, 28, 29, 30, 31, 32, 33, 34, 35, 36, 37, 38, 39, 40, 41, 42, 43, 44, 45, 46, 47, 48, 49, 50, 51, 52, 53, 54, 55, 56, 57, 58, 59, 60, 61, 62, 63, 64, 65, 66, 67, 68, 69, 70, 71, 72, 73, 74, 75, 76, 77, 78, 79, 80, 81, 82, 83, 84, 85, 86, 87, 88, 89, 90, 91, 92, 93, 94, 95] (by decide +kernel) (by decide +kernel)
set_option maxRecDepth 20000 in
theorem gX8_coverWeight_X8_laysCover : GoodIn wsX8_coverWeight (wsV RX8 278 RX8 yX8_laysCover wsX8_laysCover) := goodIn_app (goodIn_of _ (by decide +kernel)) ggX8_coverWeight_X8_laysCover
theorem dX8_coverWeight_0 : decode cX8_coverWeight 0 = .ok (.aload_n 0, 1) := by decide +kernel
theorem dX8_coverWeight_1 : decode cX8_coverWeight 1 = .ok (.iconst 0, 1) := by decide +kernel
theorem dX8_coverWeight_2 : decode cX8_coverWeight 2 = .ok (.putfield 1, 3) := by decide +kernel
theorem dX8_coverWeight_5 : decode cX8_coverWeight 5 = .ok (.aload_n 0, 1) := by decide +kernel
theorem dX8_coverWeight_6 : decode cX8_coverWeight 6 = .ok (.invokevirtual 278, 3) := by decide +kernel
theorem dX8_coverWeight_9 : decode cX8_coverWeight 9 = .ok (.aload_n 0, 1) := by decide +kernel
theorem dX8_coverWeight_10 : decode cX8_coverWeight 10 = .ok (.getfield 87, 3) := by decide +kernel
theorem dX8_coverWeight_13 : decode cX8_coverWeight 13 = .ok (.iconst 0, 1) := by decide +kernel
theorem dX8_coverWeight_14 : decode cX8_coverWeight 14 = .ok (.iaload, 1) := by decide +kernel
theorem dX8_coverWeight_15 : decode cX8_coverWeight 15 = .ok (.ireturn, 1) := by decide +kernel
set_option maxRecDepth 20000 in
theorem ggX8_coverSize_X8_laysCover : GoodIn wsX8_coverSize wsX8_laysCover := goodIn_r _ [7, 8, 9, 10, 2, 11, 12, 13, 14, 15, 16, 17, 18, 19, 6, 20, 21, 22, 23, 24, 25, 26, 27, 28, 29, 30, 31, 32, 33, 34, 35, 36, 37, 38, 39, 40, 41, 42, 43, 44, 45, 46, 47, 48, 49, 50, 51, 52, 53, 54, 55, 56, 57, 58, 59, 60, 61, 62, 63, 64, 65, 66, 67, 68, 69, 70, 71, 72, 73, 74, 75, 76, 77, 78, 79, 80, 81, 82, 83, 84, 85, 86, 87, 88, 89, 90, 91, 92, 93, 94, 95] (by decide +kernel) (by decide +kernel)
set_option maxRecDepth 20000 in
theorem gX8_coverSize_X8_laysCover : GoodIn wsX8_coverSize (wsV RX8 278 RX8 yX8_laysCover wsX8_laysCover) := goodIn_app (goodIn_of _ (by decide +kernel)) ggX8_coverSize_X8_laysCover
theorem dX8_coverSize_0 : decode cX8_coverSize 0 = .ok (.aload_n 0, 1) := by decide +kernel
theorem dX8_coverSize_1 : decode cX8_coverSize 1 = .ok (.iconst 0, 1) := by decide +kernel
theorem dX8_coverSize_2 : decode cX8_coverSize 2 = .ok (.putfield 1, 3) := by decide +kernel
theorem dX8_coverSize_5 : decode cX8_coverSize 5 = .ok (.aload_n 0, 1) := by decide +kernel
theorem dX8_coverSize_6 : decode cX8_coverSize 6 = .ok (.invokevirtual 278, 3) := by decide +kernel
theorem dX8_coverSize_9 : decode cX8_coverSize 9 = .ok (.aload_n 0, 1) := by decide +kernel
theorem dX8_coverSize_10 : decode cX8_coverSize 10 = .ok (.getfield 90, 3) := by decide +kernel
theorem dX8_coverSize_13 : decode cX8_coverSize 13 = .ok (.iconst 0, 1) := by decide +kernel
theorem dX8_coverSize_14 : decode cX8_coverSize 14 = .ok (.iaload, 1) := by decide +kernel
theorem dX8_coverSize_15 : decode cX8_coverSize 15 = .ok (.ireturn, 1) := by decide +kernel
theorem dX8_laysTaken_0 : decode cX8_laysTaken 0 = .ok (.aload_n 0, 1) := by decide +kernel
theorem dX8_laysTaken_1 : decode cX8_laysTaken 1 = .ok (.iconst 0, 1) := by decide +kernel
theorem dX8_laysTaken_2 : decode cX8_laysTaken 2 = .ok (.putfield 281, 3) := by decide +kernel
theorem dX8_laysTaken_5 : decode cX8_laysTaken 5 = .ok (.iconst 0, 1) := by decide +kernel
theorem dX8_laysTaken_6 : decode cX8_laysTaken 6 = .ok (.istore_n 1, 1) := by decide +kernel
theorem dX8_laysTaken_7 : decode cX8_laysTaken 7 = .ok (.iload_n 1, 1) := by decide +kernel
theorem dX8_laysTaken_8 : decode cX8_laysTaken 8 = .ok (.aload_n 0, 1) := by decide +kernel
theorem dX8_laysTaken_9 : decode cX8_laysTaken 9 = .ok (.getfield 170, 3) := by decide +kernel
theorem dX8_laysTaken_12 : decode cX8_laysTaken 12 = .ok (.if_icmp .ge 56, 3) := by decide +kernel
theorem dX8_laysTaken_15 : decode cX8_laysTaken 15 = .ok (.aload_n 0, 1) := by decide +kernel
theorem dX8_laysTaken_16 : decode cX8_laysTaken 16 = .ok (.getfield 93, 3) := by decide +kernel
theorem dX8_laysTaken_19 : decode cX8_laysTaken 19 = .ok (.iload_n 1, 1) := by decide +kernel
theorem dX8_laysTaken_20 : decode cX8_laysTaken 20 = .ok (.iaload, 1) := by decide +kernel
theorem dX8_laysTaken_21 : decode cX8_laysTaken 21 = .ok (.iconst (-1), 1) := by decide +kernel
theorem dX8_laysTaken_22 : decode cX8_laysTaken 22 = .ok (.if_icmp .ne 9, 3) := by decide +kernel
theorem dX8_laysTaken_25 : decode cX8_laysTaken 25 = .ok (.iinc 1 1, 3) := by decide +kernel
theorem dX8_laysTaken_28 : decode cX8_laysTaken 28 = .ok (.goto (-21), 3) := by decide +kernel
theorem dX8_laysTaken_31 : decode cX8_laysTaken 31 = .ok (.aload_n 0, 1) := by decide +kernel
theorem dX8_laysTaken_32 : decode cX8_laysTaken 32 = .ok (.getfield 96, 3) := by decide +kernel
theorem dX8_laysTaken_35 : decode cX8_laysTaken 35 = .ok (.aload_n 0, 1) := by decide +kernel
theorem dX8_laysTaken_36 : decode cX8_laysTaken 36 = .ok (.getfield 281, 3) := by decide +kernel
theorem dX8_laysTaken_39 : decode cX8_laysTaken 39 = .ok (.iload_n 1, 1) := by decide +kernel
theorem dX8_laysTaken_40 : decode cX8_laysTaken 40 = .ok (.iastore, 1) := by decide +kernel
theorem dX8_laysTaken_41 : decode cX8_laysTaken 41 = .ok (.aload_n 0, 1) := by decide +kernel
theorem dX8_laysTaken_42 : decode cX8_laysTaken 42 = .ok (.dup, 1) := by decide +kernel
theorem dX8_laysTaken_43 : decode cX8_laysTaken 43 = .ok (.getfield 281, 3) := by decide +kernel
theorem dX8_laysTaken_46 : decode cX8_laysTaken 46 = .ok (.iconst 1, 1) := by decide +kernel
theorem dX8_laysTaken_47 : decode cX8_laysTaken 47 = .ok (.iadd, 1) := by decide +kernel
theorem dX8_laysTaken_48 : decode cX8_laysTaken 48 = .ok (.putfield 281, 3) := by decide +kernel
theorem dX8_laysTaken_51 : decode cX8_laysTaken 51 = .ok (.iload_n 1, 1) := by decide +kernel
theorem dX8_laysTaken_52 : decode cX8_laysTaken 52 = .ok (.aload_n 0, 1) := by decide +kernel
theorem dX8_laysTaken_53 : decode cX8_laysTaken 53 = .ok (.getfield 17, 3) := by decide +kernel
theorem dX8_laysTaken_56 : decode cX8_laysTaken 56 = .ok (.aload_n 0, 1) := by decide +kernel
theorem dX8_laysTaken_57 : decode cX8_laysTaken 57 = .ok (.getfield 93, 3) := by decide +kernel
theorem dX8_laysTaken_60 : decode cX8_laysTaken 60 = .ok (.iload_n 1, 1) := by decide +kernel
theorem dX8_laysTaken_61 : decode cX8_laysTaken 61 = .ok (.iaload, 1) := by decide +kernel
theorem dX8_laysTaken_62 : decode cX8_laysTaken 62 = .ok (.iaload, 1) := by decide +kernel
theorem dX8_laysTaken_63 : decode cX8_laysTaken 63 = .ok (.iadd, 1) := by decide +kernel
theorem dX8_laysTaken_64 : decode cX8_laysTaken 64 = .ok (.istore_n 1, 1) := by decide +kernel
theorem dX8_laysTaken_65 : decode cX8_laysTaken 65 = .ok (.goto (-58), 3) := by decide +kernel
theorem dX8_laysTaken_68 : decode cX8_laysTaken 68 = .ok (.return_, 1) := by decide +kernel
set_option maxRecDepth 20000 in
theorem ggX8_taken_X8_laysTaken : GoodIn wsX8_taken wsX8_laysTaken := goodIn_r _ [8, 1, 9, 3, 2, 10, 11, 12, 13, 14, 15, 16, 17, 18, 19, 20, 21, 22, 23, 24, 25, 26, 27, 28, 29, 30, 31, 32, 33, 34, 35, 36, 37, 38, 39, 40, 41, 42, 43, 44, 45, 46, 47, 48, 49, 50, 51, 52] (by decide +kernel) (by decide +kernel)
set_option maxRecDepth 20000 in
theorem gX8_taken_X8_laysTaken : GoodIn wsX8_taken (wsV RX8 284 RX8 yX8_laysTaken wsX8_laysTaken) := goodIn_app (goodIn_of _ (by decide +kernel)) ggX8_taken_X8_laysTaken
theorem dX8_taken_0 : decode cX8_taken 0 = .ok (.iload_n 1, 1) := by decide +kernel
theorem dX8_taken_1 : decode cX8_taken 1 = .ok (.ifCond .ge 6, 3) := by decide +kernel
theorem dX8_taken_4 : decode cX8_taken 4 = .ok (.bipush (-3), 2) := by decide +kernel
theorem dX8_taken_6 : decode cX8_taken 6 = .ok (.ireturn, 1) := by decide +kernel
theorem dX8_taken_7 : decode cX8_taken 7 = .ok (.aload_n 0, 1) := by decide +kernel
theorem dX8_taken_8 : decode cX8_taken 8 = .ok (.invokevirtual 284, 3) := by decide +kernel
theorem dX8_taken_11 : decode cX8_taken 11 = .ok (.iload_n 1, 1) := by decide +kernel
theorem dX8_taken_12 : decode cX8_taken 12 = .ok (.aload_n 0, 1) := by decide +kernel
theorem dX8_taken_13 : decode cX8_taken 13 = .ok (.getfield 281, 3) := by decide +kernel
theorem dX8_taken_16 : decode cX8_taken 16 = .ok (.if_icmp .lt 7, 3) := by decide +kernel
theorem dX8_taken_19 : decode cX8_taken 19 = .ok (.iconst (-1), 1) := by decide +kernel
theorem dX8_taken_20 : decode cX8_taken 20 = .ok (.goto 27, 3) := by decide +kernel
theorem dX8_taken_23 : decode cX8_taken 23 = .ok (.iload_n 2, 1) := by decide +kernel
theorem dX8_taken_24 : decode cX8_taken 24 = .ok (.ifCond .eq 12, 3) := by decide +kernel
theorem dX8_taken_27 : decode cX8_taken 27 = .ok (.aload_n 0, 1) := by decide +kernel
theorem dX8_taken_28 : decode cX8_taken 28 = .ok (.getfield 96, 3) := by decide +kernel
theorem dX8_taken_31 : decode cX8_taken 31 = .ok (.iload_n 1, 1) := by decide +kernel
theorem dX8_taken_32 : decode cX8_taken 32 = .ok (.iaload, 1) := by decide +kernel
theorem dX8_taken_33 : decode cX8_taken 33 = .ok (.goto 14, 3) := by decide +kernel
theorem dX8_taken_36 : decode cX8_taken 36 = .ok (.aload_n 0, 1) := by decide +kernel
theorem dX8_taken_37 : decode cX8_taken 37 = .ok (.getfield 93, 3) := by decide +kernel
theorem dX8_taken_40 : decode cX8_taken 40 = .ok (.aload_n 0, 1) := by decide +kernel
theorem dX8_taken_41 : decode cX8_taken 41 = .ok (.getfield 96, 3) := by decide +kernel
theorem dX8_taken_44 : decode cX8_taken 44 = .ok (.iload_n 1, 1) := by decide +kernel
theorem dX8_taken_45 : decode cX8_taken 45 = .ok (.iaload, 1) := by decide +kernel
theorem dX8_taken_46 : decode cX8_taken 46 = .ok (.iaload, 1) := by decide +kernel
theorem dX8_taken_47 : decode cX8_taken 47 = .ok (.ireturn, 1) := by decide +kernel
set_option maxRecDepth 20000 in
theorem ggX8_coverStart_X8_laysCover : GoodIn wsX8_coverStart wsX8_laysCover := goodIn_r _ [6, 7, 8, 9, 10, 11, 12, 13, 14, 15, 16, 17, 18, 19, 5, 20, 21, 22, 23, 24, 25, 26, 27, 28, 29, 30, 31, 32, 33, 34, 35, 36, 37, 38, 39, 40, 41, 42, 43, 44, 45, 46, 47, 48, 49, 50, 51, 52, 53, 64, 65, 66, 67, 68, 69, 70, 71, 72, 73, 74, 75, 76, 77, 78, 79, 80, 81, 82, 83, 84, 85, 86, 87, 88, 89, 90, 91, 92, 93, 94, 95, 96, 97, 98, 99, 100, 101, 102, 103, 104, 105] (by decide +kernel) (by decide +kernel)
set_option maxRecDepth 20000 in
theorem gX8_coverStart_X8_laysCover : GoodIn wsX8_coverStart (wsV RX8 278 RX8 yX8_laysCover wsX8_laysCover) := goodIn_app (goodIn_of _ (by decide +kernel)) ggX8_coverStart_X8_laysCover
set_option maxRecDepth 20000 in
theorem ggX8_coverStart_X8_taken : GoodIn wsX8_coverStart wsX8_taken := goodIn_r _ [57, 58, 59, 11, 60, 61, 62, 5, 63, 8, 14, 64, 65, 66, 67, 68, 69, 70, 71, 72, 73, 74, 75, 76, 77, 78, 79, 80, 81, 82, 83, 84, 85, 86, 87, 88, 89, 90, 91, 92, 93, 94, 95, 96, 97, 98, 99, 100, 101, 102, 103, 104, 105] (by decide +kernel) (by decide +kernel)
set_option maxRecDepth 20000 in
theorem gX8_coverStart_X8_taken : GoodIn wsX8_coverStart (wsV RX8 287 RX8 yX8_taken wsX8_taken) := goodIn_app (goodIn_of _ (by decide +kernel)) ggX8_coverStart_X8_taken
theorem dX8_coverStart_0 : decode cX8_coverStart 0 = .ok (.aload_n 0, 1) := by decide +kernel
theorem dX8_coverStart_1 : decode cX8_coverStart 1 = .ok (.iconst 0, 1) := by decide +kernel
theorem dX8_coverStart_2 : decode cX8_coverStart 2 = .ok (.putfield 1, 3) := by decide +kernel
theorem dX8_coverStart_5 : decode cX8_coverStart 5 = .ok (.aload_n 0, 1) := by decide +kernel
theorem dX8_coverStart_6 : decode cX8_coverStart 6 = .ok (.invokevirtual 278, 3) := by decide +kernel
theorem dX8_coverStart_9 : decode cX8_coverStart 9 = .ok (.aload_n 0, 1) := by decide +kernel
theorem dX8_coverStart_10 : decode cX8_coverStart 10 = .ok (.iload_n 1, 1) := by decide +kernel
theorem dX8_coverStart_11 : decode cX8_coverStart 11 = .ok (.iconst 1, 1) := by decide +kernel
theorem dX8_coverStart_12 : decode cX8_coverStart 12 = .ok (.invokevirtual 287, 3) := by decide +kernel
theorem dX8_coverStart_15 : decode cX8_coverStart 15 = .ok (.ireturn, 1) := by decide +kernel
set_option maxRecDepth 20000 in
theorem ggX8_coverKeyword_X8_laysCover : GoodIn wsX8_coverKeyword wsX8_laysCover := goodIn_r _ [6, 7, 8, 9, 10, 11, 12, 13, 14, 15, 16, 17, 18, 19, 5, 20, 21, 22, 23, 24, 25, 26, 27, 28, 29, 30, 31, 32, 33, 34, 35, 36, 37, 38, 39, 40, 41, 42, 43, 44, 45, 46, 47, 48, 49, 50, 51, 52, 53, 64, 65, 66, 67, 68, 69, 70, 71, 72, 73, 74, 75, 76, 77, 78, 79, 80, 81, 82, 83, 84, 85, 86, 87, 88, 89, 90, 91, 92, 93, 94, 95, 96, 97, 98, 99, 100, 101, 102, 103, 104, 105] (by decide +kernel) (by decide +kernel)
set_option maxRecDepth 20000 in
theorem gX8_coverKeyword_X8_laysCover : GoodIn wsX8_coverKeyword (wsV RX8 278 RX8 yX8_laysCover wsX8_laysCover) := goodIn_app (goodIn_of _ (by decide +kernel)) ggX8_coverKeyword_X8_laysCover
set_option maxRecDepth 20000 in
theorem ggX8_coverKeyword_X8_taken : GoodIn wsX8_coverKeyword wsX8_taken := goodIn_r _ [57, 58, 59, 11, 60, 61, 62, 5, 63, 8, 14, 64, 65, 66, 67, 68, 69, 70, 71, 72, 73, 74, 75, 76, 77, 78, 79, 80, 81, 82, 83, 84, 85, 86, 87, 88, 89, 90, 91, 92, 93, 94, 95, 96, 97, 98, 99, 100, 101, 102, 103, 104, 105] (by decide +kernel) (by decide +kernel)
set_option maxRecDepth 20000 in
theorem gX8_coverKeyword_X8_taken : GoodIn wsX8_coverKeyword (wsV RX8 287 RX8 yX8_taken wsX8_taken) := goodIn_app (goodIn_of _ (by decide +kernel)) ggX8_coverKeyword_X8_taken
theorem dX8_coverKeyword_0 : decode cX8_coverKeyword 0 = .ok (.aload_n 0, 1) := by decide +kernel
theorem dX8_coverKeyword_1 : decode cX8_coverKeyword 1 = .ok (.iconst 0, 1) := by decide +kernel
theorem dX8_coverKeyword_2 : decode cX8_coverKeyword 2 = .ok (.putfield 1, 3) := by decide +kernel
theorem dX8_coverKeyword_5 : decode cX8_coverKeyword 5 = .ok (.aload_n 0, 1) := by decide +kernel
theorem dX8_coverKeyword_6 : decode cX8_coverKeyword 6 = .ok (.invokevirtual 278, 3) := by decide +kernel
theorem dX8_coverKeyword_9 : decode cX8_coverKeyword 9 = .ok (.aload_n 0, 1) := by decide +kernel
theorem dX8_coverKeyword_10 : decode cX8_coverKeyword 10 = .ok (.iload_n 1, 1) := by decide +kernel
theorem dX8_coverKeyword_11 : decode cX8_coverKeyword 11 = .ok (.iconst 0, 1) := by decide +kernel
theorem dX8_coverKeyword_12 : decode cX8_coverKeyword 12 = .ok (.invokevirtual 287, 3) := by decide +kernel
theorem dX8_coverKeyword_15 : decode cX8_coverKeyword 15 = .ok (.ireturn, 1) := by decide +kernel
set_option maxRecDepth 20000 in
theorem ggX8_laysLongest_X8_laysMatches : GoodIn wsX8_laysLongest wsX8_laysMatches := goodIn_r _ [8, 1, 9, 10, 11, 12, 3, 13, 14, 15, 7, 16, 17, 18, 19, 20, 21, 22, 23, 24, 25, 26, 27, 28, 29, 30, 31, 32, 33, 34, 35, 36, 41, 42, 43, 44, 45, 46, 47, 48, 49, 50, 51, 52, 53, 54, 55, 56, 57, 58, 59, 60, 61, 62, 63, 64, 65, 66, 67, 68, 69, 70, 71, 72, 73, 74, 75, 76, 77, 78, 79, 80, 81, 82] (by decide +kernel) (by decide +kernel)
set_option maxRecDepth 20000 in
theorem gX8_laysLongest_X8_laysMatches : GoodIn wsX8_laysLongest (wsV RX8 209 RX8 yX8_laysMatches wsX8_laysMatches) := goodIn_app (goodIn_of _ (by decide +kernel)) ggX8_laysLongest_X8_laysMatches
set_option maxRecDepth 20000 in
theorem ggX8_laysLongest_X8_hasAt : GoodIn wsX8_laysLongest wsX8_hasAt := goodIn_r _ [40, 9, 41, 42, 43, 44, 45, 46, 47, 48, 49, 50, 51, 52, 53, 54, 55, 56, 57, 58, 59, 60, 61, 62, 63, 64, 65, 66, 67, 68, 69, 70, 71, 72, 73, 74, 75, 76, 77, 78, 79, 80, 81, 82] (by decide +kernel) (by decide +kernel)
set_option maxRecDepth 20000 in
theorem gX8_laysLongest_X8_hasAt : GoodIn wsX8_laysLongest (wsV RX8 212 RX8 yX8_hasAt wsX8_hasAt) := goodIn_app (goodIn_of _ (by decide +kernel)) ggX8_laysLongest_X8_hasAt
theorem dX8_laysLongest_0 : decode cX8_laysLongest 0 = .ok (.aload_n 0, 1) := by decide +kernel
theorem dX8_laysLongest_1 : decode cX8_laysLongest 1 = .ok (.invokevirtual 209, 3) := by decide +kernel
theorem dX8_laysLongest_4 : decode cX8_laysLongest 4 = .ok (.iconst 0, 1) := by decide +kernel
theorem dX8_laysLongest_5 : decode cX8_laysLongest 5 = .ok (.istore_n 1, 1) := by decide +kernel
theorem dX8_laysLongest_6 : decode cX8_laysLongest 6 = .ok (.iload_n 1, 1) := by decide +kernel
theorem dX8_laysLongest_7 : decode cX8_laysLongest 7 = .ok (.aload_n 0, 1) := by decide +kernel
theorem dX8_laysLongest_8 : decode cX8_laysLongest 8 = .ok (.getfield 170, 3) := by decide +kernel
theorem dX8_laysLongest_11 : decode cX8_laysLongest 11 = .ok (.if_icmp .ge 56, 3) := by decide +kernel
theorem dX8_laysLongest_14 : decode cX8_laysLongest 14 = .ok (.aload_n 0, 1) := by decide +kernel
theorem dX8_laysLongest_15 : decode cX8_laysLongest 15 = .ok (.getfield 93, 3) := by decide +kernel
theorem dX8_laysLongest_18 : decode cX8_laysLongest 18 = .ok (.iload_n 1, 1) := by decide +kernel
theorem dX8_laysLongest_19 : decode cX8_laysLongest 19 = .ok (.iconst (-1), 1) := by decide +kernel
theorem dX8_laysLongest_20 : decode cX8_laysLongest 20 = .ok (.iastore, 1) := by decide +kernel
theorem dX8_laysLongest_21 : decode cX8_laysLongest 21 = .ok (.iconst 1, 1) := by decide +kernel
theorem dX8_laysLongest_22 : decode cX8_laysLongest 22 = .ok (.istore_n 2, 1) := by decide +kernel
theorem dX8_laysLongest_23 : decode cX8_laysLongest 23 = .ok (.iload_n 2, 1) := by decide +kernel
theorem dX8_laysLongest_24 : decode cX8_laysLongest 24 = .ok (.bipush 16, 2) := by decide +kernel
theorem dX8_laysLongest_26 : decode cX8_laysLongest 26 = .ok (.if_icmp .gt 35, 3) := by decide +kernel
theorem dX8_laysLongest_29 : decode cX8_laysLongest 29 = .ok (.aload_n 0, 1) := by decide +kernel
theorem dX8_laysLongest_30 : decode cX8_laysLongest 30 = .ok (.iload_n 1, 1) := by decide +kernel
theorem dX8_laysLongest_31 : decode cX8_laysLongest 31 = .ok (.iload_n 2, 1) := by decide +kernel
theorem dX8_laysLongest_32 : decode cX8_laysLongest 32 = .ok (.invokevirtual 212, 3) := by decide +kernel
theorem dX8_laysLongest_35 : decode cX8_laysLongest 35 = .ok (.ifCond .eq 20, 3) := by decide +kernel
theorem dX8_laysLongest_38 : decode cX8_laysLongest 38 = .ok (.aload_n 0, 1) := by decide +kernel
theorem dX8_laysLongest_39 : decode cX8_laysLongest 39 = .ok (.getfield 93, 3) := by decide +kernel
theorem dX8_laysLongest_42 : decode cX8_laysLongest 42 = .ok (.iload_n 1, 1) := by decide +kernel
theorem dX8_laysLongest_43 : decode cX8_laysLongest 43 = .ok (.aload_n 0, 1) := by decide +kernel
theorem dX8_laysLongest_44 : decode cX8_laysLongest 44 = .ok (.getfield 54, 3) := by decide +kernel
theorem dX8_laysLongest_47 : decode cX8_laysLongest 47 = .ok (.bipush 17, 2) := by decide +kernel
theorem dX8_laysLongest_49 : decode cX8_laysLongest 49 = .ok (.iload_n 1, 1) := by decide +kernel
theorem dX8_laysLongest_50 : decode cX8_laysLongest 50 = .ok (.imul, 1) := by decide +kernel
theorem dX8_laysLongest_51 : decode cX8_laysLongest 51 = .ok (.iload_n 2, 1) := by decide +kernel
theorem dX8_laysLongest_52 : decode cX8_laysLongest 52 = .ok (.iadd, 1) := by decide +kernel
theorem dX8_laysLongest_53 : decode cX8_laysLongest 53 = .ok (.iaload, 1) := by decide +kernel
theorem dX8_laysLongest_54 : decode cX8_laysLongest 54 = .ok (.iastore, 1) := by decide +kernel
theorem dX8_laysLongest_55 : decode cX8_laysLongest 55 = .ok (.iinc 2 1, 3) := by decide +kernel
theorem dX8_laysLongest_58 : decode cX8_laysLongest 58 = .ok (.goto (-35), 3) := by decide +kernel
theorem dX8_laysLongest_61 : decode cX8_laysLongest 61 = .ok (.iinc 1 1, 3) := by decide +kernel
theorem dX8_laysLongest_64 : decode cX8_laysLongest 64 = .ok (.goto (-58), 3) := by decide +kernel
theorem dX8_laysLongest_67 : decode cX8_laysLongest 67 = .ok (.return_, 1) := by decide +kernel
set_option maxRecDepth 20000 in
theorem ggX8_longestSize_X8_laysLongest : GoodIn wsX8_longestSize wsX8_laysLongest := goodIn_r _ [7, 8, 9, 10, 11, 12, 13, 6, 14, 15, 16, 17, 18, 19, 20, 21, 22, 23, 24, 25, 26, 27, 28, 29, 30, 31, 32, 33, 34, 35, 36, 37, 38, 39, 40, 41, 42, 43, 44, 45, 46, 52, 53, 54, 55, 56, 57, 58, 59, 60, 61, 62, 63, 64, 65, 66, 67, 68, 69, 70, 71, 72, 73, 74, 75, 76, 77, 78, 79, 80, 81, 82, 83, 84, 85, 86, 87, 88, 89, 90, 91, 92, 93] (by decide +kernel) (by decide +kernel)
set_option maxRecDepth 20000 in
theorem gX8_longestSize_X8_laysLongest : GoodIn wsX8_longestSize (wsV RX8 291 RX8 yX8_laysLongest wsX8_laysLongest) := goodIn_app (goodIn_of _ (by decide +kernel)) ggX8_longestSize_X8_laysLongest
set_option maxRecDepth 20000 in
theorem ggX8_longestSize_X8_laysTaken : GoodIn wsX8_longestSize wsX8_laysTaken := goodIn_r _ [50, 2, 8, 9, 51, 18, 52, 53, 54, 55, 56, 57, 58, 59, 60, 61, 62, 63, 64, 65, 66, 67, 68, 69, 70, 71, 72, 73, 74, 75, 76, 77, 78, 79, 80, 81, 82, 83, 84, 85, 86, 87, 88, 89, 90, 91, 92, 93] (by decide +kernel) (by decide +kernel)
set_option maxRecDepth 20000 in
theorem gX8_longestSize_X8_laysTaken : GoodIn wsX8_longestSize (wsV RX8 284 RX8 yX8_laysTaken wsX8_laysTaken) := goodIn_app (goodIn_of _ (by decide +kernel)) ggX8_longestSize_X8_laysTaken
theorem dX8_longestSize_0 : decode cX8_longestSize 0 = .ok (.aload_n 0, 1) := by decide +kernel
theorem dX8_longestSize_1 : decode cX8_longestSize 1 = .ok (.iconst 0, 1) := by decide +kernel
theorem dX8_longestSize_2 : decode cX8_longestSize 2 = .ok (.putfield 1, 3) := by decide +kernel
theorem dX8_longestSize_5 : decode cX8_longestSize 5 = .ok (.aload_n 0, 1) := by decide +kernel
theorem dX8_longestSize_6 : decode cX8_longestSize 6 = .ok (.invokevirtual 291, 3) := by decide +kernel
theorem dX8_longestSize_9 : decode cX8_longestSize 9 = .ok (.aload_n 0, 1) := by decide +kernel
theorem dX8_longestSize_10 : decode cX8_longestSize 10 = .ok (.invokevirtual 284, 3) := by decide +kernel
theorem dX8_longestSize_13 : decode cX8_longestSize 13 = .ok (.aload_n 0, 1) := by decide +kernel
theorem dX8_longestSize_14 : decode cX8_longestSize 14 = .ok (.getfield 281, 3) := by decide +kernel
theorem dX8_longestSize_17 : decode cX8_longestSize 17 = .ok (.ireturn, 1) := by decide +kernel
set_option maxRecDepth 20000 in
theorem ggX8_longestStart_X8_laysLongest : GoodIn wsX8_longestStart wsX8_laysLongest := goodIn_r _ [6, 7, 8, 9, 10, 11, 12, 5, 13, 14, 15, 16, 17, 18, 19, 20, 21, 22, 23, 24, 25, 26, 27, 28, 29, 30, 31, 32, 33, 34, 35, 36, 37, 38, 39, 40, 41, 42, 43, 44, 45, 56, 57, 58, 59, 60, 61, 62, 63, 64, 65, 66, 67, 68, 69, 70, 71, 72, 73, 74, 75, 76, 77, 78, 79, 80, 81, 82, 83, 84, 85, 86, 87, 88, 89, 90, 91, 92, 93, 94, 95, 96, 97] (by decide +kernel) (by decide +kernel)
set_option maxRecDepth 20000 in
theorem gX8_longestStart_X8_laysLongest : GoodIn wsX8_longestStart (wsV RX8 291 RX8 yX8_laysLongest wsX8_laysLongest) := goodIn_app (goodIn_of _ (by decide +kernel)) ggX8_longestStart_X8_laysLongest
set_option maxRecDepth 20000 in
theorem ggX8_longestStart_X8_taken : GoodIn wsX8_longestStart wsX8_taken := goodIn_r _ [49, 50, 51, 8, 52, 53, 54, 5, 55, 7, 17, 56, 57, 58, 59, 60, 61, 62, 63, 64, 65, 66, 67, 68, 69, 70, 71, 72, 73, 74, 75, 76, 77, 78, 79, 80, 81, 82, 83, 84, 85, 86, 87, 88, 89, 90, 91, 92, 93, 94, 95, 96, 97] (by decide +kernel) (by decide +kernel)
set_option maxRecDepth 20000 in
theorem gX8_longestStart_X8_taken : GoodIn wsX8_longestStart (wsV RX8 287 RX8 yX8_taken wsX8_taken) := goodIn_app (goodIn_of _ (by decide +kernel)) ggX8_longestStart_X8_taken
theorem dX8_longestStart_0 : decode cX8_longestStart 0 = .ok (.aload_n 0, 1) := by decide +kernel
theorem dX8_longestStart_1 : decode cX8_longestStart 1 = .ok (.iconst 0, 1) := by decide +kernel
theorem dX8_longestStart_2 : decode cX8_longestStart 2 = .ok (.putfield 1, 3) := by decide +kernel
theorem dX8_longestStart_5 : decode cX8_longestStart 5 = .ok (.aload_n 0, 1) := by decide +kernel
theorem dX8_longestStart_6 : decode cX8_longestStart 6 = .ok (.invokevirtual 291, 3) := by decide +kernel
theorem dX8_longestStart_9 : decode cX8_longestStart 9 = .ok (.aload_n 0, 1) := by decide +kernel
theorem dX8_longestStart_10 : decode cX8_longestStart 10 = .ok (.iload_n 1, 1) := by decide +kernel
theorem dX8_longestStart_11 : decode cX8_longestStart 11 = .ok (.iconst 1, 1) := by decide +kernel
theorem dX8_longestStart_12 : decode cX8_longestStart 12 = .ok (.invokevirtual 287, 3) := by decide +kernel
theorem dX8_longestStart_15 : decode cX8_longestStart 15 = .ok (.ireturn, 1) := by decide +kernel
set_option maxRecDepth 20000 in
theorem ggX8_longestKeyword_X8_laysLongest : GoodIn wsX8_longestKeyword wsX8_laysLongest := goodIn_r _ [6, 7, 8, 9, 10, 11, 12, 5, 13, 14, 15, 16, 17, 18, 19, 20, 21, 22, 23, 24, 25, 26, 27, 28, 29, 30, 31, 32, 33, 34, 35, 36, 37, 38, 39, 40, 41, 42, 43, 44, 45, 56, 57, 58, 59, 60, 61, 62, 63, 64, 65, 66, 67, 68, 69, 70, 71, 72, 73, 74, 75, 76, 77, 78, 79, 80, 81, 82, 83, 84, 85, 86, 87, 88, 89, 90, 91, 92, 93, 94, 95, 96, 97] (by decide +kernel) (by decide +kernel)
set_option maxRecDepth 20000 in
theorem gX8_longestKeyword_X8_laysLongest : GoodIn wsX8_longestKeyword (wsV RX8 291 RX8 yX8_laysLongest wsX8_laysLongest) := goodIn_app (goodIn_of _ (by decide +kernel)) ggX8_longestKeyword_X8_laysLongest
set_option maxRecDepth 20000 in
theorem ggX8_longestKeyword_X8_taken : GoodIn wsX8_longestKeyword wsX8_taken := goodIn_r _ [49, 50, 51, 8, 52, 53, 54, 5, 55, 7, 17, 56, 57, 58, 59, 60, 61, 62, 63, 64, 65, 66, 67, 68, 69, 70, 71, 72, 73, 74, 75, 76, 77, 78, 79, 80, 81, 82, 83, 84, 85, 86, 87, 88, 89, 90, 91, 92, 93, 94, 95, 96, 97] (by decide +kernel) (by decide +kernel)
set_option maxRecDepth 20000 in
theorem gX8_longestKeyword_X8_taken : GoodIn wsX8_longestKeyword (wsV RX8 287 RX8 yX8_taken wsX8_taken) := goodIn_app (goodIn_of _ (by decide +kernel)) ggX8_longestKeyword_X8_taken
theorem dX8_longestKeyword_0 : decode cX8_longestKeyword 0 = .ok (.aload_n 0, 1) := by decide +kernel
theorem dX8_longestKeyword_1 : decode cX8_longestKeyword 1 = .ok (.iconst 0, 1) := by decide +kernel
theorem dX8_longestKeyword_2 : decode cX8_longestKeyword 2 = .ok (.putfield 1, 3) := by decide +kernel
theorem dX8_longestKeyword_5 : decode cX8_longestKeyword 5 = .ok (.aload_n 0, 1) := by decide +kernel
theorem dX8_longestKeyword_6 : decode cX8_longestKeyword 6 = .ok (.invokevirtual 291, 3) := by decide +kernel
theorem dX8_longestKeyword_9 : decode cX8_longestKeyword 9 = .ok (.aload_n 0, 1) := by decide +kernel
theorem dX8_longestKeyword_10 : decode cX8_longestKeyword 10 = .ok (.iload_n 1, 1) := by decide +kernel
theorem dX8_longestKeyword_11 : decode cX8_longestKeyword 11 = .ok (.iconst 0, 1) := by decide +kernel
theorem dX8_longestKeyword_12 : decode cX8_longestKeyword 12 = .ok (.invokevirtual 287, 3) := by decide +kernel
theorem dX8_longestKeyword_15 : decode cX8_longestKeyword 15 = .ok (.ireturn, 1) := by decide +kernel
theorem dJ9_max_7cf53_0 : decode cJ9_max_7cf53 0 = .ok (.iload_n 0, 1) := by decide +kernel
theorem dJ9_max_7cf53_1 : decode cJ9_max_7cf53 1 = .ok (.iload_n 1, 1) := by decide +kernel
theorem dJ9_max_7cf53_2 : decode cJ9_max_7cf53 2 = .ok (.if_icmp .lt 7, 3) := by decide +kernel
theorem dJ9_max_7cf53_5 : decode cJ9_max_7cf53 5 = .ok (.iload_n 0, 1) := by decide +kernel
theorem dJ9_max_7cf53_6 : decode cJ9_max_7cf53 6 = .ok (.goto 4, 3) := by decide +kernel
theorem dJ9_max_7cf53_9 : decode cJ9_max_7cf53 9 = .ok (.iload_n 1, 1) := by decide +kernel
theorem dJ9_max_7cf53_10 : decode cJ9_max_7cf53 10 = .ok (.ireturn, 1) := by decide +kernel
theorem dJ9_max_f86c9_0 : decode cJ9_max_f86c9 0 = .ok (.lload_n 0, 1) := by decide +kernel
theorem dJ9_max_f86c9_1 : decode cJ9_max_f86c9 1 = .ok (.lload_n 2, 1) := by decide +kernel
theorem dJ9_max_f86c9_2 : decode cJ9_max_f86c9 2 = .ok (.lcmp, 1) := by decide +kernel
theorem dJ9_max_f86c9_3 : decode cJ9_max_f86c9 3 = .ok (.ifCond .lt 7, 3) := by decide +kernel
theorem dJ9_max_f86c9_6 : decode cJ9_max_f86c9 6 = .ok (.lload_n 0, 1) := by decide +kernel
theorem dJ9_max_f86c9_7 : decode cJ9_max_f86c9 7 = .ok (.goto 4, 3) := by decide +kernel
theorem dJ9_max_f86c9_10 : decode cJ9_max_f86c9 10 = .ok (.lload_n 2, 1) := by decide +kernel
theorem dJ9_max_f86c9_11 : decode cJ9_max_f86c9 11 = .ok (.lreturn, 1) := by decide +kernel
theorem dJ9_min_7cf53_0 : decode cJ9_min_7cf53 0 = .ok (.iload_n 0, 1) := by decide +kernel
theorem dJ9_min_7cf53_1 : decode cJ9_min_7cf53 1 = .ok (.iload_n 1, 1) := by decide +kernel
theorem dJ9_min_7cf53_2 : decode cJ9_min_7cf53 2 = .ok (.if_icmp .gt 7, 3) := by decide +kernel
theorem dJ9_min_7cf53_5 : decode cJ9_min_7cf53 5 = .ok (.iload_n 0, 1) := by decide +kernel
theorem dJ9_min_7cf53_6 : decode cJ9_min_7cf53 6 = .ok (.goto 4, 3) := by decide +kernel
theorem dJ9_min_7cf53_9 : decode cJ9_min_7cf53 9 = .ok (.iload_n 1, 1) := by decide +kernel
theorem dJ9_min_7cf53_10 : decode cJ9_min_7cf53 10 = .ok (.ireturn, 1) := by decide +kernel
theorem dJ7_fill_d0a16_0 : decode cJ7_fill_d0a16 0 = .ok (.iconst 0, 1) := by decide +kernel
theorem dJ7_fill_d0a16_1 : decode cJ7_fill_d0a16 1 = .ok (.istore_n 3, 1) := by decide +kernel
theorem dJ7_fill_d0a16_2 : decode cJ7_fill_d0a16 2 = .ok (.aload_n 0, 1) := by decide +kernel
theorem dJ7_fill_d0a16_3 : decode cJ7_fill_d0a16 3 = .ok (.arraylength, 1) := by decide +kernel
theorem dJ7_fill_d0a16_4 : decode cJ7_fill_d0a16 4 = .ok (.istore 4, 2) := by decide +kernel
theorem dJ7_fill_d0a16_6 : decode cJ7_fill_d0a16 6 = .ok (.iload_n 3, 1) := by decide +kernel
theorem dJ7_fill_d0a16_7 : decode cJ7_fill_d0a16 7 = .ok (.iload 4, 2) := by decide +kernel
theorem dJ7_fill_d0a16_9 : decode cJ7_fill_d0a16 9 = .ok (.if_icmp .ge 13, 3) := by decide +kernel
theorem dJ7_fill_d0a16_12 : decode cJ7_fill_d0a16 12 = .ok (.aload_n 0, 1) := by decide +kernel
theorem dJ7_fill_d0a16_13 : decode cJ7_fill_d0a16 13 = .ok (.iload_n 3, 1) := by decide +kernel
theorem dJ7_fill_d0a16_14 : decode cJ7_fill_d0a16 14 = .ok (.lload_n 1, 1) := by decide +kernel
theorem dJ7_fill_d0a16_15 : decode cJ7_fill_d0a16 15 = .ok (.lastore, 1) := by decide +kernel
theorem dJ7_fill_d0a16_16 : decode cJ7_fill_d0a16 16 = .ok (.iinc 3 1, 3) := by decide +kernel
theorem dJ7_fill_d0a16_19 : decode cJ7_fill_d0a16 19 = .ok (.goto (-13), 3) := by decide +kernel
theorem dJ7_fill_d0a16_22 : decode cJ7_fill_d0a16 22 = .ok (.return_, 1) := by decide +kernel
