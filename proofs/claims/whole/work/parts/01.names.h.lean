theorem dX8_isContained_13 : decode cX8_isContained 13 = .ok (.isub, 1) := by decide +kernel
theorem dX8_isContained_14 : decode cX8_isContained 14 = .ok (.iconst 1, 1) := by decide +kernel
theorem dX8_isContained_15 : decode cX8_isContained 15 = .ok (.iadd, 1) := by decide +kernel
theorem dX8_isContained_16 : decode cX8_isContained 16 = .ok (.istore_n 3, 1) := by decide +kernel
theorem dX8_isContained_17 : decode cX8_isContained 17 = .ok (.iload_n 3, 1) := by decide +kernel
theorem dX8_isContained_18 : decode cX8_isContained 18 = .ok (.iload_n 1, 1) := by decide +kernel
theorem dX8_isContained_19 : decode cX8_isContained 19 = .ok (.if_icmp .gt 49, 3) := by decide +kernel
theorem dX8_isContained_22 : decode cX8_isContained 22 = .ok (.iload_n 2, 1) := by decide +kernel
theorem dX8_isContained_23 : decode cX8_isContained 23 = .ok (.iconst 1, 1) := by decide +kernel
theorem dX8_isContained_24 : decode cX8_isContained 24 = .ok (.iadd, 1) := by decide +kernel
theorem dX8_isContained_25 : decode cX8_isContained 25 = .ok (.istore 4, 2) := by decide +kernel
theorem dX8_isContained_27 : decode cX8_isContained 27 = .ok (.iload 4, 2) := by decide +kernel
theorem dX8_isContained_29 : decode cX8_isContained 29 = .ok (.bipush 16, 2) := by decide +kernel
theorem dX8_isContained_31 : decode cX8_isContained 31 = .ok (.if_icmp .gt 31, 3) := by decide +kernel
theorem dX8_isContained_34 : decode cX8_isContained 34 = .ok (.iload_n 3, 1) := by decide +kernel
theorem dX8_isContained_35 : decode cX8_isContained 35 = .ok (.iload 4, 2) := by decide +kernel
theorem dX8_isContained_37 : decode cX8_isContained 37 = .ok (.iadd, 1) := by decide +kernel
theorem dX8_isContained_38 : decode cX8_isContained 38 = .ok (.iload_n 1, 1) := by decide +kernel
theorem dX8_isContained_39 : decode cX8_isContained 39 = .ok (.iload_n 2, 1) := by decide +kernel
theorem dX8_isContained_40 : decode cX8_isContained 40 = .ok (.iadd, 1) := by decide +kernel
theorem dX8_isContained_41 : decode cX8_isContained 41 = .ok (.if_icmp .lt 15, 3) := by decide +kernel
theorem dX8_isContained_44 : decode cX8_isContained 44 = .ok (.aload_n 0, 1) := by decide +kernel
theorem dX8_isContained_45 : decode cX8_isContained 45 = .ok (.iload_n 3, 1) := by decide +kernel
theorem dX8_isContained_46 : decode cX8_isContained 46 = .ok (.iload 4, 2) := by decide +kernel
theorem dX8_isContained_48 : decode cX8_isContained 48 = .ok (.invokevirtual 212, 3) := by decide +kernel
theorem dX8_isContained_51 : decode cX8_isContained 51 = .ok (.ifCond .eq 5, 3) := by decide +kernel
theorem dX8_isContained_54 : decode cX8_isContained 54 = .ok (.iconst 1, 1) := by decide +kernel
theorem dX8_isContained_55 : decode cX8_isContained 55 = .ok (.ireturn, 1) := by decide +kernel
theorem dX8_isContained_56 : decode cX8_isContained 56 = .ok (.iinc 4 1, 3) := by decide +kernel
theorem dX8_isContained_59 : decode cX8_isContained 59 = .ok (.goto (-32), 3) := by decide +kernel
theorem dX8_isContained_62 : decode cX8_isContained 62 = .ok (.iinc 3 1, 3) := by decide +kernel
theorem dX8_isContained_65 : decode cX8_isContained 65 = .ok (.goto (-48), 3) := by decide +kernel
theorem dX8_isContained_68 : decode cX8_isContained 68 = .ok (.iconst 0, 1) := by decide +kernel
theorem dX8_isContained_69 : decode cX8_isContained 69 = .ok (.ireturn, 1) := by decide +kernel
set_option maxRecDepth 20000 in
theorem ggX8_containedMatches_X8_laysMatches : GoodIn wsX8_containedMatches wsX8_laysMatches := goodIn_r _ [7, 2, 8, 9, 10, 11, 12, 13, 14, 15, 6, 16, 17, 18, 19, 20, 21, 22, 23, 24, 25, 26, 27, 28, 29, 30, 31, 32, 33, 34, 35, 36, 45, 46, 47, 48, 49, 50, 51, 52, 53, 54, 55, 56, 57, 58, 59, 60, 61, 62, 63, 64, 65, 66, 67, 68, 69, 70, 71, 72, 73, 74, 75, 76, 77, 78, 79, 80, 81, 82, 83, 84, 85, 86] (by decide +kernel) (by decide +kernel)
set_option maxRecDepth 20000 in
theorem gX8_containedMatches_X8_laysMatches : GoodIn wsX8_containedMatches (wsV RX8 209 RX8 yX8_laysMatches wsX8_laysMatches) := goodIn_app (goodIn_of _ (by decide +kernel)) ggX8_containedMatches_X8_laysMatches
set_option maxRecDepth 20000 in
theorem ggX8_containedMatches_X8_hasAt : GoodIn wsX8_containedMatches wsX8_hasAt := goodIn_r _ [40, 8, 45, 46, 47, 48, 49, 50, 51, 52, 53, 54, 55, 56, 57, 58, 59, 60, 61, 62, 63, 64, 65, 66, 67, 68, 69, 70, 71, 72, 73, 74, 75, 76, 77, 78, 79, 80, 81, 82, 83, 84, 85, 86] (by decide +kernel) (by decide +kernel)
set_option maxRecDepth 20000 in
theorem gX8_containedMatches_X8_hasAt : GoodIn wsX8_containedMatches (wsV RX8 212 RX8 yX8_hasAt wsX8_hasAt) := goodIn_app (goodIn_of _ (by decide +kernel)) ggX8_containedMatches_X8_hasAt
set_option maxRecDepth 20000 in
theorem ggX8_containedMatches_X8_isContained : GoodIn wsX8_containedMatches wsX8_isContained := goodIn_r _ [44, 37, 38, 39, 6, 40, 8, 45, 46, 47, 48, 49, 50, 51, 52, 53, 54, 55, 56, 57, 58, 59, 60, 61, 62, 63, 64, 65, 66, 67, 68, 69, 70, 71, 72, 73, 74, 75, 76, 77, 78, 79, 80, 81, 82, 83, 84, 85, 86] (by decide +kernel) (by decide +kernel)
set_option maxRecDepth 20000 in
theorem gX8_containedMatches_X8_isContained : GoodIn wsX8_containedMatches (wsV RX8 218 RX8 yX8_isContained wsX8_isContained) := goodIn_app (goodIn_of _ (by decide +kernel)) ggX8_containedMatches_X8_isContained
theorem dX8_containedMatches_0 : decode cX8_containedMatches 0 = .ok (.aload_n 0, 1) := by decide +kernel
theorem dX8_containedMatches_1 : decode cX8_containedMatches 1 = .ok (.iconst 0, 1) := by decide +kernel
theorem dX8_containedMatches_2 : decode cX8_containedMatches 2 = .ok (.putfield 1, 3) := by decide +kernel
theorem dX8_containedMatches_5 : decode cX8_containedMatches 5 = .ok (.aload_n 0, 1) := by decide +kernel
theorem dX8_containedMatches_6 : decode cX8_containedMatches 6 = .ok (.invokevirtual 209, 3) := by decide +kernel
theorem dX8_containedMatches_9 : decode cX8_containedMatches 9 = .ok (.iconst 0, 1) := by decide +kernel
theorem dX8_containedMatches_10 : decode cX8_containedMatches 10 = .ok (.istore_n 1, 1) := by decide +kernel
theorem dX8_containedMatches_11 : decode cX8_containedMatches 11 = .ok (.iconst 0, 1) := by decide +kernel
theorem dX8_containedMatches_12 : decode cX8_containedMatches 12 = .ok (.istore_n 2, 1) := by decide +kernel
theorem dX8_containedMatches_13 : decode cX8_containedMatches 13 = .ok (.iload_n 2, 1) := by decide +kernel
theorem dX8_containedMatches_14 : decode cX8_containedMatches 14 = .ok (.aload_n 0, 1) := by decide +kernel
theorem dX8_containedMatches_15 : decode cX8_containedMatches 15 = .ok (.getfield 170, 3) := by decide +kernel
theorem dX8_containedMatches_18 : decode cX8_containedMatches 18 = .ok (.if_icmp .ge 49, 3) := by decide +kernel
theorem dX8_containedMatches_21 : decode cX8_containedMatches 21 = .ok (.iconst 1, 1) := by decide +kernel
theorem dX8_containedMatches_22 : decode cX8_containedMatches 22 = .ok (.istore_n 3, 1) := by decide +kernel
theorem dX8_containedMatches_23 : decode cX8_containedMatches 23 = .ok (.iload_n 3, 1) := by decide +kernel
theorem dX8_containedMatches_24 : decode cX8_containedMatches 24 = .ok (.bipush 16, 2) := by decide +kernel
theorem dX8_containedMatches_26 : decode cX8_containedMatches 26 = .ok (.if_icmp .gt 35, 3) := by decide +kernel
theorem dX8_containedMatches_29 : decode cX8_containedMatches 29 = .ok (.iload_n 1, 1) := by decide +kernel
theorem dX8_containedMatches_30 : decode cX8_containedMatches 30 = .ok (.aload_n 0, 1) := by decide +kernel
theorem dX8_containedMatches_31 : decode cX8_containedMatches 31 = .ok (.iload_n 2, 1) := by decide +kernel
theorem dX8_containedMatches_32 : decode cX8_containedMatches 32 = .ok (.iload_n 3, 1) := by decide +kernel
theorem dX8_containedMatches_33 : decode cX8_containedMatches 33 = .ok (.invokevirtual 212, 3) := by decide +kernel
theorem dX8_containedMatches_36 : decode cX8_containedMatches 36 = .ok (.ifCond .eq 16, 3) := by decide +kernel
theorem dX8_containedMatches_39 : decode cX8_containedMatches 39 = .ok (.aload_n 0, 1) := by decide +kernel
theorem dX8_containedMatches_40 : decode cX8_containedMatches 40 = .ok (.iload_n 2, 1) := by decide +kernel
theorem dX8_containedMatches_41 : decode cX8_containedMatches 41 = .ok (.iload_n 3, 1) := by decide +kernel
theorem dX8_containedMatches_42 : decode cX8_containedMatches 42 = .ok (.invokevirtual 218, 3) := by decide +kernel
theorem dX8_containedMatches_45 : decode cX8_containedMatches 45 = .ok (.ifCond .eq 7, 3) := by decide +kernel
theorem dX8_containedMatches_48 : decode cX8_containedMatches 48 = .ok (.iconst 1, 1) := by decide +kernel
theorem dX8_containedMatches_49 : decode cX8_containedMatches 49 = .ok (.goto 4, 3) := by decide +kernel
theorem dX8_containedMatches_52 : decode cX8_containedMatches 52 = .ok (.iconst 0, 1) := by decide +kernel
theorem dX8_containedMatches_53 : decode cX8_containedMatches 53 = .ok (.iadd, 1) := by decide +kernel
theorem dX8_containedMatches_54 : decode cX8_containedMatches 54 = .ok (.istore_n 1, 1) := by decide +kernel
theorem dX8_containedMatches_55 : decode cX8_containedMatches 55 = .ok (.iinc 3 1, 3) := by decide +kernel
theorem dX8_containedMatches_58 : decode cX8_containedMatches 58 = .ok (.goto (-35), 3) := by decide +kernel
theorem dX8_containedMatches_61 : decode cX8_containedMatches 61 = .ok (.iinc 2 1, 3) := by decide +kernel
theorem dX8_containedMatches_64 : decode cX8_containedMatches 64 = .ok (.goto (-51), 3) := by decide +kernel
theorem dX8_containedMatches_67 : decode cX8_containedMatches 67 = .ok (.iload_n 1, 1) := by decide +kernel
theorem dX8_containedMatches_68 : decode cX8_containedMatches 68 = .ok (.ireturn, 1) := by decide +kernel
set_option maxRecDepth 20000 in
theorem ggX8_laysGap_X8_laysMatches : GoodIn wsX8_laysGap wsX8_laysMatches := goodIn_r _ [8, 3, 9, 10, 11, 12, 13, 14, 15, 16, 7, 17, 18, 19, 20, 21, 22, 23, 24, 25, 26, 27, 28, 29, 30, 31, 32, 33, 34, 35, 36, 37, 42, 43, 44, 45, 46, 47, 48, 49, 50, 51, 52, 53, 54, 55, 56, 57, 58, 59, 60, 61, 62, 63, 64, 65, 66, 67, 68, 69, 70, 71, 72, 73, 74, 75, 76, 77, 78, 79, 80, 81, 82, 83] (by decide +kernel) (by decide +kernel)
set_option maxRecDepth 20000 in
theorem gX8_laysGap_X8_laysMatches : GoodIn wsX8_laysGap (wsV RX8 209 RX8 yX8_laysMatches wsX8_laysMatches) := goodIn_app (goodIn_of _ (by decide +kernel)) ggX8_laysGap_X8_laysMatches
set_option maxRecDepth 20000 in
theorem ggX8_laysGap_X8_hasAt : GoodIn wsX8_laysGap wsX8_hasAt := goodIn_r _ [41, 9, 42, 43, 44, 45, 46, 47, 48, 49, 50, 51, 52, 53, 54, 55, 56, 57, 58, 59, 60, 61, 62, 63, 64, 65, 66, 67, 68, 69, 70, 71, 72, 73, 74, 75, 76, 77, 78, 79, 80, 81, 82, 83] (by decide +kernel) (by decide +kernel)
set_option maxRecDepth 20000 in
theorem gX8_laysGap_X8_hasAt : GoodIn wsX8_laysGap (wsV RX8 212 RX8 yX8_hasAt wsX8_hasAt) := goodIn_app (goodIn_of _ (by decide +kernel)) ggX8_laysGap_X8_hasAt
theorem dX8_laysGap_0 : decode cX8_laysGap 0 = .ok (.aload_n 0, 1) := by decide +kernel
theorem dX8_laysGap_1 : decode cX8_laysGap 1 = .ok (.invokevirtual 209, 3) := by decide +kernel
theorem dX8_laysGap_4 : decode cX8_laysGap 4 = .ok (.aload_n 0, 1) := by decide +kernel
theorem dX8_laysGap_5 : decode cX8_laysGap 5 = .ok (.iconst (-1), 1) := by decide +kernel
theorem dX8_laysGap_6 : decode cX8_laysGap 6 = .ok (.putfield 221, 3) := by decide +kernel
theorem dX8_laysGap_9 : decode cX8_laysGap 9 = .ok (.aload_n 0, 1) := by decide +kernel
theorem dX8_laysGap_10 : decode cX8_laysGap 10 = .ok (.iconst 0, 1) := by decide +kernel
theorem dX8_laysGap_11 : decode cX8_laysGap 11 = .ok (.putfield 224, 3) := by decide +kernel
theorem dX8_laysGap_14 : decode cX8_laysGap 14 = .ok (.iconst 0, 1) := by decide +kernel
theorem dX8_laysGap_15 : decode cX8_laysGap 15 = .ok (.istore_n 1, 1) := by decide +kernel
theorem dX8_laysGap_16 : decode cX8_laysGap 16 = .ok (.iconst 0, 1) := by decide +kernel
theorem dX8_laysGap_17 : decode cX8_laysGap 17 = .ok (.istore_n 2, 1) := by decide +kernel
theorem dX8_laysGap_18 : decode cX8_laysGap 18 = .ok (.iconst 0, 1) := by decide +kernel
theorem dX8_laysGap_19 : decode cX8_laysGap 19 = .ok (.istore_n 3, 1) := by decide +kernel
theorem dX8_laysGap_20 : decode cX8_laysGap 20 = .ok (.iload_n 3, 1) := by decide +kernel
theorem dX8_laysGap_21 : decode cX8_laysGap 21 = .ok (.aload_n 0, 1) := by decide +kernel
theorem dX8_laysGap_22 : decode cX8_laysGap 22 = .ok (.getfield 170, 3) := by decide +kernel
theorem dX8_laysGap_25 : decode cX8_laysGap 25 = .ok (.if_icmp .ge 86, 3) := by decide +kernel
theorem dX8_laysGap_28 : decode cX8_laysGap 28 = .ok (.iconst 1, 1) := by decide +kernel
theorem dX8_laysGap_29 : decode cX8_laysGap 29 = .ok (.istore 4, 2) := by decide +kernel
theorem dX8_laysGap_31 : decode cX8_laysGap 31 = .ok (.iload 4, 2) := by decide +kernel
theorem dX8_laysGap_33 : decode cX8_laysGap 33 = .ok (.bipush 16, 2) := by decide +kernel
theorem dX8_laysGap_35 : decode cX8_laysGap 35 = .ok (.if_icmp .gt 32, 3) := by decide +kernel
theorem dX8_laysGap_38 : decode cX8_laysGap 38 = .ok (.aload_n 0, 1) := by decide +kernel
theorem dX8_laysGap_39 : decode cX8_laysGap 39 = .ok (.iload_n 3, 1) := by decide +kernel
theorem dX8_laysGap_40 : decode cX8_laysGap 40 = .ok (.iload 4, 2) := by decide +kernel
theorem dX8_laysGap_42 : decode cX8_laysGap 42 = .ok (.invokevirtual 212, 3) := by decide +kernel
theorem dX8_laysGap_45 : decode cX8_laysGap 45 = .ok (.ifCond .eq 16, 3) := by decide +kernel
theorem dX8_laysGap_48 : decode cX8_laysGap 48 = .ok (.iload_n 3, 1) := by decide +kernel
theorem dX8_laysGap_49 : decode cX8_laysGap 49 = .ok (.iload 4, 2) := by decide +kernel
theorem dX8_laysGap_51 : decode cX8_laysGap 51 = .ok (.iadd, 1) := by decide +kernel
theorem dX8_laysGap_52 : decode cX8_laysGap 52 = .ok (.iload_n 1, 1) := by decide +kernel
theorem dX8_laysGap_53 : decode cX8_laysGap 53 = .ok (.if_icmp .le 8, 3) := by decide +kernel
theorem dX8_laysGap_56 : decode cX8_laysGap 56 = .ok (.iload_n 3, 1) := by decide +kernel
theorem dX8_laysGap_57 : decode cX8_laysGap 57 = .ok (.iload 4, 2) := by decide +kernel
theorem dX8_laysGap_59 : decode cX8_laysGap 59 = .ok (.iadd, 1) := by decide +kernel
theorem dX8_laysGap_60 : decode cX8_laysGap 60 = .ok (.istore_n 1, 1) := by decide +kernel
theorem dX8_laysGap_61 : decode cX8_laysGap 61 = .ok (.iinc 4 1, 3) := by decide +kernel
theorem dX8_laysGap_64 : decode cX8_laysGap 64 = .ok (.goto (-33), 3) := by decide +kernel
theorem dX8_laysGap_67 : decode cX8_laysGap 67 = .ok (.iload_n 1, 1) := by decide +kernel
theorem dX8_laysGap_68 : decode cX8_laysGap 68 = .ok (.iload_n 3, 1) := by decide +kernel
theorem dX8_laysGap_69 : decode cX8_laysGap 69 = .ok (.if_icmp .le 7, 3) := by decide +kernel
theorem dX8_laysGap_72 : decode cX8_laysGap 72 = .ok (.iload_n 3, 1) := by decide +kernel
theorem dX8_laysGap_73 : decode cX8_laysGap 73 = .ok (.iconst 1, 1) := by decide +kernel
theorem dX8_laysGap_74 : decode cX8_laysGap 74 = .ok (.iadd, 1) := by decide +kernel
theorem dX8_laysGap_75 : decode cX8_laysGap 75 = .ok (.istore_n 2, 1) := by decide +kernel
theorem dX8_laysGap_76 : decode cX8_laysGap 76 = .ok (.iload_n 3, 1) := by decide +kernel
theorem dX8_laysGap_77 : decode cX8_laysGap 77 = .ok (.iconst 1, 1) := by decide +kernel
theorem dX8_laysGap_78 : decode cX8_laysGap 78 = .ok (.iadd, 1) := by decide +kernel
theorem dX8_laysGap_79 : decode cX8_laysGap 79 = .ok (.iload_n 2, 1) := by decide +kernel
theorem dX8_laysGap_80 : decode cX8_laysGap 80 = .ok (.isub, 1) := by decide +kernel
theorem dX8_laysGap_81 : decode cX8_laysGap 81 = .ok (.aload_n 0, 1) := by decide +kernel
theorem dX8_laysGap_82 : decode cX8_laysGap 82 = .ok (.getfield 224, 3) := by decide +kernel
theorem dX8_laysGap_85 : decode cX8_laysGap 85 = .ok (.if_icmp .gt 6, 3) := by decide +kernel
theorem dX8_laysGap_88 : decode cX8_laysGap 88 = .ok (.goto 17, 3) := by decide +kernel
theorem dX8_laysGap_91 : decode cX8_laysGap 91 = .ok (.aload_n 0, 1) := by decide +kernel
theorem dX8_laysGap_92 : decode cX8_laysGap 92 = .ok (.iload_n 2, 1) := by decide +kernel
theorem dX8_laysGap_93 : decode cX8_laysGap 93 = .ok (.putfield 221, 3) := by decide +kernel
theorem dX8_laysGap_96 : decode cX8_laysGap 96 = .ok (.aload_n 0, 1) := by decide +kernel
theorem dX8_laysGap_97 : decode cX8_laysGap 97 = .ok (.iload_n 3, 1) := by decide +kernel
theorem dX8_laysGap_98 : decode cX8_laysGap 98 = .ok (.iconst 1, 1) := by decide +kernel
theorem dX8_laysGap_99 : decode cX8_laysGap 99 = .ok (.iadd, 1) := by decide +kernel
theorem dX8_laysGap_100 : decode cX8_laysGap 100 = .ok (.iload_n 2, 1) := by decide +kernel
theorem dX8_laysGap_101 : decode cX8_laysGap 101 = .ok (.isub, 1) := by decide +kernel
theorem dX8_laysGap_102 : decode cX8_laysGap 102 = .ok (.putfield 224, 3) := by decide +kernel
theorem dX8_laysGap_105 : decode cX8_laysGap 105 = .ok (.iinc 3 1, 3) := by decide +kernel
theorem dX8_laysGap_108 : decode cX8_laysGap 108 = .ok (.goto (-88), 3) := by decide +kernel
theorem dX8_laysGap_111 : decode cX8_laysGap 111 = .ok (.return_, 1) := by decide +kernel
set_option maxRecDepth 20000 in
theorem ggX8_gapLength_X8_laysGap : GoodIn wsX8_gapLength wsX8_laysGap := goodIn_r _ [7, 8, 2, 9, 10, 11, 12, 6, 13, 14, 15, 16, 17, 18, 19, 20, 21, 22, 23, 24, 25, 26, 27, 28, 29, 30, 31, 32, 33, 34, 35, 36, 37, 38, 39, 40, 41, 42, 43, 44, 45, 46, 47, 48, 49, 50, 51, 52, 53, 54, 55, 56, 57, 58, 59, 60, 61, 62, 63, 64, 65, 66, 67, 68, 69, 70, 71, 72, 73, 74, 75, 76, 77, 78, 79, 80, 81, 82, 83, 84, 85, 86, 87, 88] (by decide +kernel) (by decide +kernel)
set_option maxRecDepth 20000 in
theorem gX8_gapLength_X8_laysGap : GoodIn wsX8_gapLength (wsV RX8 227 RX8 yX8_laysGap wsX8_laysGap) := goodIn_app (goodIn_of _ (by decide +kernel)) ggX8_gapLength_X8_laysGap
theorem dX8_gapLength_0 : decode cX8_gapLength 0 = .ok (.aload_n 0, 1) := by decide +kernel
theorem dX8_gapLength_1 : decode cX8_gapLength 1 = .ok (.iconst 0, 1) := by decide +kernel
theorem dX8_gapLength_2 : decode cX8_gapLength 2 = .ok (.putfield 1, 3) := by decide +kernel
theorem dX8_gapLength_5 : decode cX8_gapLength 5 = .ok (.aload_n 0, 1) := by decide +kernel
theorem dX8_gapLength_6 : decode cX8_gapLength 6 = .ok (.invokevirtual 227, 3) := by decide +kernel
theorem dX8_gapLength_9 : decode cX8_gapLength 9 = .ok (.aload_n 0, 1) := by decide +kernel
theorem dX8_gapLength_10 : decode cX8_gapLength 10 = .ok (.getfield 224, 3) := by decide +kernel
theorem dX8_gapLength_13 : decode cX8_gapLength 13 = .ok (.ireturn, 1) := by decide +kernel
set_option maxRecDepth 20000 in
theorem ggX8_gapStart_X8_laysGap : GoodIn wsX8_gapStart wsX8_laysGap := goodIn_r _ [7, 2, 8, 9, 10, 11, 12, 6, 13, 14, 15, 16, 17, 18, 19, 20, 21, 22, 23, 24, 25, 26, 27, 28, 29, 30, 31, 32, 33, 34, 35, 36, 37, 38, 39, 40, 41, 42, 43, 44, 45, 46, 47, 48, 49, 50, 51, 52, 53, 54, 55, 56, 57, 58, 59, 60, 61, 62, 63, 64, 65, 66, 67, 68, 69, 70, 71, 72, 73, 74, 75, 76, 77, 78, 79, 80, 81, 82, 83, 84, 85, 86, 87, 88] (by decide +kernel) (by decide +kernel)
set_option maxRecDepth 20000 in
theorem gX8_gapStart_X8_laysGap : GoodIn wsX8_gapStart (wsV RX8 227 RX8 yX8_laysGap wsX8_laysGap) := goodIn_app (goodIn_of _ (by decide +kernel)) ggX8_gapStart_X8_laysGap
theorem dX8_gapStart_0 : decode cX8_gapStart 0 = .ok (.aload_n 0, 1) := by decide +kernel
theorem dX8_gapStart_1 : decode cX8_gapStart 1 = .ok (.iconst 0, 1) := by decide +kernel
theorem dX8_gapStart_2 : decode cX8_gapStart 2 = .ok (.putfield 1, 3) := by decide +kernel
theorem dX8_gapStart_5 : decode cX8_gapStart 5 = .ok (.aload_n 0, 1) := by decide +kernel
theorem dX8_gapStart_6 : decode cX8_gapStart 6 = .ok (.invokevirtual 227, 3) := by decide +kernel
theorem dX8_gapStart_9 : decode cX8_gapStart 9 = .ok (.aload_n 0, 1) := by decide +kernel
theorem dX8_gapStart_10 : decode cX8_gapStart 10 = .ok (.getfield 221, 3) := by decide +kernel
theorem dX8_gapStart_13 : decode cX8_gapStart 13 = .ok (.ireturn, 1) := by decide +kernel
set_option maxRecDepth 20000 in
theorem ggX8_misses_X8_byteOf : GoodIn wsX8_misses wsX8_byteOf := goodIn_r _ [7, 8, 23, 24, 25, 26, 27, 28, 29, 30, 31, 32, 33, 34, 35, 36, 37, 38, 39, 40, 41, 42, 43, 44, 45, 46, 47, 48, 49, 50, 51, 52, 53, 54, 55, 56, 57, 58, 59, 60, 61, 62, 63, 64] (by decide +kernel) (by decide +kernel)
set_option maxRecDepth 20000 in
theorem gX8_misses_X8_byteOf : GoodIn wsX8_misses (wsV RX8 125 RX8 yX8_byteOf wsX8_byteOf) := goodIn_app (goodIn_of _ (by decide +kernel)) ggX8_misses_X8_byteOf
set_option maxRecDepth 20000 in
theorem ggX8_misses_X8_like : GoodIn wsX8_misses wsX8_like := goodIn_r _ [12, 13, 14, 15, 6, 16, 17, 18, 19, 20, 21, 22, 23, 24, 25, 26, 27, 28, 29, 30, 31, 32, 33, 34, 35, 36, 37, 38, 39, 40, 41, 42, 43, 44, 45, 46, 47, 48, 49, 50, 51, 52, 53, 54, 55, 56, 57, 58, 59, 60, 61, 62, 63, 64] (by decide +kernel) (by decide +kernel)
set_option maxRecDepth 20000 in
theorem gX8_misses_X8_like : GoodIn wsX8_misses (wsV RX8 129 RX8 yX8_like wsX8_like) := goodIn_app (goodIn_of _ (by decide +kernel)) ggX8_misses_X8_like
theorem dX8_misses_0 : decode cX8_misses 0 = .ok (.iconst 0, 1) := by decide +kernel
theorem dX8_misses_1 : decode cX8_misses 1 = .ok (.istore_n 3, 1) := by decide +kernel
theorem dX8_misses_2 : decode cX8_misses 2 = .ok (.iconst 0, 1) := by decide +kernel
theorem dX8_misses_3 : decode cX8_misses 3 = .ok (.istore 4, 2) := by decide +kernel
theorem dX8_misses_5 : decode cX8_misses 5 = .ok (.iload 4, 2) := by decide +kernel
theorem dX8_misses_7 : decode cX8_misses 7 = .ok (.aload_n 0, 1) := by decide +kernel
theorem dX8_misses_8 : decode cX8_misses 8 = .ok (.getfield 17, 3) := by decide +kernel
theorem dX8_misses_11 : decode cX8_misses 11 = .ok (.iload_n 1, 1) := by decide +kernel
theorem dX8_misses_12 : decode cX8_misses 12 = .ok (.iaload, 1) := by decide +kernel
theorem dX8_misses_13 : decode cX8_misses 13 = .ok (.if_icmp .ge 40, 3) := by decide +kernel
theorem dX8_misses_16 : decode cX8_misses 16 = .ok (.iload_n 3, 1) := by decide +kernel
theorem dX8_misses_17 : decode cX8_misses 17 = .ok (.aload_n 0, 1) := by decide +kernel
theorem dX8_misses_18 : decode cX8_misses 18 = .ok (.aload_n 0, 1) := by decide +kernel
theorem dX8_misses_19 : decode cX8_misses 19 = .ok (.iload_n 1, 1) := by decide +kernel
theorem dX8_misses_20 : decode cX8_misses 20 = .ok (.iload 4, 2) := by decide +kernel
theorem dX8_misses_22 : decode cX8_misses 22 = .ok (.invokevirtual 125, 3) := by decide +kernel
theorem dX8_misses_25 : decode cX8_misses 25 = .ok (.aload_n 0, 1) := by decide +kernel
theorem dX8_misses_26 : decode cX8_misses 26 = .ok (.getfield 42, 3) := by decide +kernel
theorem dX8_misses_29 : decode cX8_misses 29 = .ok (.iload_n 2, 1) := by decide +kernel
theorem dX8_misses_30 : decode cX8_misses 30 = .ok (.iload 4, 2) := by decide +kernel
theorem dX8_misses_32 : decode cX8_misses 32 = .ok (.iadd, 1) := by decide +kernel
theorem dX8_misses_33 : decode cX8_misses 33 = .ok (.iaload, 1) := by decide +kernel
theorem dX8_misses_34 : decode cX8_misses 34 = .ok (.invokevirtual 129, 3) := by decide +kernel
theorem dX8_misses_37 : decode cX8_misses 37 = .ok (.ifCond .eq 7, 3) := by decide +kernel
theorem dX8_misses_40 : decode cX8_misses 40 = .ok (.iconst 0, 1) := by decide +kernel
theorem dX8_misses_41 : decode cX8_misses 41 = .ok (.goto 4, 3) := by decide +kernel
theorem dX8_misses_44 : decode cX8_misses 44 = .ok (.iconst 1, 1) := by decide +kernel
theorem dX8_misses_45 : decode cX8_misses 45 = .ok (.iadd, 1) := by decide +kernel
theorem dX8_misses_46 : decode cX8_misses 46 = .ok (.istore_n 3, 1) := by decide +kernel
theorem dX8_misses_47 : decode cX8_misses 47 = .ok (.iinc 4 1, 3) := by decide +kernel
theorem dX8_misses_50 : decode cX8_misses 50 = .ok (.goto (-45), 3) := by decide +kernel
theorem dX8_misses_53 : decode cX8_misses 53 = .ok (.iload_n 3, 1) := by decide +kernel
theorem dX8_misses_54 : decode cX8_misses 54 = .ok (.ireturn, 1) := by decide +kernel
set_option maxRecDepth 20000 in
theorem ggX8_nearMatchCount_X8_isLiveOne : GoodIn wsX8_nearMatchCount wsX8_isLiveOne := goodIn_r _ [9, 10, 11, 12, 13, 8, 14, 15, 16, 17, 18, 40, 41, 42, 43, 44, 45, 46, 47, 48, 49, 50, 51, 52, 53, 54, 55, 56, 57, 58, 59, 60, 61, 62, 63, 64, 65, 66, 67, 68, 69, 70, 71, 72, 73, 74, 75, 76, 77, 78, 79, 80, 81] (by decide +kernel) (by decide +kernel)
set_option maxRecDepth 20000 in
theorem gX8_nearMatchCount_X8_isLiveOne : GoodIn wsX8_nearMatchCount (wsV RX8 161 RX8 yX8_isLiveOne wsX8_isLiveOne) := goodIn_app (goodIn_of _ (by decide +kernel)) ggX8_nearMatchCount_X8_isLiveOne
set_option maxRecDepth 20000 in
theorem ggX8_nearMatchCount_X8_isIn : GoodIn wsX8_nearMatchCount wsX8_isIn := goodIn_r _ [18] (by decide +kernel) (by decide +kernel)
set_option maxRecDepth 20000 in
theorem gX8_nearMatchCount_X8_isIn : GoodIn wsX8_nearMatchCount (va_wsS RX8 105 yX8_isIn wsX8_isIn) := goodIn_app (goodIn_of _ (by decide +kernel)) ggX8_nearMatchCount_X8_isIn
set_option maxRecDepth 20000 in
theorem ggX8_nearMatchCount_X8_misses : GoodIn wsX8_nearMatchCount wsX8_misses := goodIn_r _ [22, 3, 23, 24, 25, 26, 8, 27, 28, 29, 30, 31, 32, 33, 34, 35, 36, 37, 38, 39, 16, 17, 18, 40, 41, 42, 43, 44, 45, 46, 47, 48, 49, 50, 51, 52, 53, 54, 55, 56, 57, 58, 59, 60, 61, 62, 63, 64, 65, 66, 67, 68, 69, 70, 71, 72, 73, 74, 75, 76, 77, 78, 79, 80, 81] (by decide +kernel) (by decide +kernel)
set_option maxRecDepth 20000 in
theorem gX8_nearMatchCount_X8_misses : GoodIn wsX8_nearMatchCount (wsV RX8 232 RX8 yX8_misses wsX8_misses) := goodIn_app (goodIn_of _ (by decide +kernel)) ggX8_nearMatchCount_X8_misses
theorem dX8_nearMatchCount_0 : decode cX8_nearMatchCount 0 = .ok (.aload_n 0, 1) := by decide +kernel
theorem dX8_nearMatchCount_1 : decode cX8_nearMatchCount 1 = .ok (.iconst 0, 1) := by decide +kernel
theorem dX8_nearMatchCount_2 : decode cX8_nearMatchCount 2 = .ok (.putfield 1, 3) := by decide +kernel
theorem dX8_nearMatchCount_5 : decode cX8_nearMatchCount 5 = .ok (.aload_n 0, 1) := by decide +kernel
theorem dX8_nearMatchCount_6 : decode cX8_nearMatchCount 6 = .ok (.iload_n 1, 1) := by decide +kernel
theorem dX8_nearMatchCount_7 : decode cX8_nearMatchCount 7 = .ok (.invokevirtual 161, 3) := by decide +kernel
theorem dX8_nearMatchCount_10 : decode cX8_nearMatchCount 10 = .ok (.ifCond .ne 6, 3) := by decide +kernel
theorem dX8_nearMatchCount_13 : decode cX8_nearMatchCount 13 = .ok (.bipush (-2), 2) := by decide +kernel
theorem dX8_nearMatchCount_15 : decode cX8_nearMatchCount 15 = .ok (.ireturn, 1) := by decide +kernel
theorem dX8_nearMatchCount_16 : decode cX8_nearMatchCount 16 = .ok (.iload_n 2, 1) := by decide +kernel
theorem dX8_nearMatchCount_17 : decode cX8_nearMatchCount 17 = .ok (.i2l, 1) := by decide +kernel
theorem dX8_nearMatchCount_18 : decode cX8_nearMatchCount 18 = .ok (.lconst 0, 1) := by decide +kernel
theorem dX8_nearMatchCount_19 : decode cX8_nearMatchCount 19 = .ok (.ldc2_w 230, 3) := by decide +kernel
theorem dX8_nearMatchCount_22 : decode cX8_nearMatchCount 22 = .ok (.invokestatic 105, 3) := by decide +kernel
theorem dX8_nearMatchCount_25 : decode cX8_nearMatchCount 25 = .ok (.ifCond .ne 6, 3) := by decide +kernel
theorem dX8_nearMatchCount_28 : decode cX8_nearMatchCount 28 = .ok (.bipush (-3), 2) := by decide +kernel
theorem dX8_nearMatchCount_30 : decode cX8_nearMatchCount 30 = .ok (.ireturn, 1) := by decide +kernel
theorem dX8_nearMatchCount_31 : decode cX8_nearMatchCount 31 = .ok (.iconst 0, 1) := by decide +kernel
theorem dX8_nearMatchCount_32 : decode cX8_nearMatchCount 32 = .ok (.istore_n 3, 1) := by decide +kernel
theorem dX8_nearMatchCount_33 : decode cX8_nearMatchCount 33 = .ok (.iconst 0, 1) := by decide +kernel
theorem dX8_nearMatchCount_34 : decode cX8_nearMatchCount 34 = .ok (.istore 4, 2) := by decide +kernel
theorem dX8_nearMatchCount_36 : decode cX8_nearMatchCount 36 = .ok (.iload 4, 2) := by decide +kernel
theorem dX8_nearMatchCount_38 : decode cX8_nearMatchCount 38 = .ok (.aload_n 0, 1) := by decide +kernel
theorem dX8_nearMatchCount_39 : decode cX8_nearMatchCount 39 = .ok (.getfield 17, 3) := by decide +kernel
theorem dX8_nearMatchCount_42 : decode cX8_nearMatchCount 42 = .ok (.iload_n 1, 1) := by decide +kernel
theorem dX8_nearMatchCount_43 : decode cX8_nearMatchCount 43 = .ok (.iaload, 1) := by decide +kernel
theorem dX8_nearMatchCount_44 : decode cX8_nearMatchCount 44 = .ok (.iadd, 1) := by decide +kernel
theorem dX8_nearMatchCount_45 : decode cX8_nearMatchCount 45 = .ok (.aload_n 0, 1) := by decide +kernel
theorem dX8_nearMatchCount_46 : decode cX8_nearMatchCount 46 = .ok (.getfield 170, 3) := by decide +kernel
theorem dX8_nearMatchCount_49 : decode cX8_nearMatchCount 49 = .ok (.if_icmp .gt 28, 3) := by decide +kernel
theorem dX8_nearMatchCount_52 : decode cX8_nearMatchCount 52 = .ok (.iload_n 3, 1) := by decide +kernel
theorem dX8_nearMatchCount_53 : decode cX8_nearMatchCount 53 = .ok (.aload_n 0, 1) := by decide +kernel
theorem dX8_nearMatchCount_54 : decode cX8_nearMatchCount 54 = .ok (.iload_n 1, 1) := by decide +kernel
theorem dX8_nearMatchCount_55 : decode cX8_nearMatchCount 55 = .ok (.iload 4, 2) := by decide +kernel
theorem dX8_nearMatchCount_57 : decode cX8_nearMatchCount 57 = .ok (.invokevirtual 232, 3) := by decide +kernel
theorem dX8_nearMatchCount_60 : decode cX8_nearMatchCount 60 = .ok (.iload_n 2, 1) := by decide +kernel
theorem dX8_nearMatchCount_61 : decode cX8_nearMatchCount 61 = .ok (.if_icmp .gt 7, 3) := by decide +kernel
theorem dX8_nearMatchCount_64 : decode cX8_nearMatchCount 64 = .ok (.iconst 1, 1) := by decide +kernel
theorem dX8_nearMatchCount_65 : decode cX8_nearMatchCount 65 = .ok (.goto 4, 3) := by decide +kernel
theorem dX8_nearMatchCount_68 : decode cX8_nearMatchCount 68 = .ok (.iconst 0, 1) := by decide +kernel
theorem dX8_nearMatchCount_69 : decode cX8_nearMatchCount 69 = .ok (.iadd, 1) := by decide +kernel
theorem dX8_nearMatchCount_70 : decode cX8_nearMatchCount 70 = .ok (.istore_n 3, 1) := by decide +kernel
theorem dX8_nearMatchCount_71 : decode cX8_nearMatchCount 71 = .ok (.iinc 4 1, 3) := by decide +kernel
theorem dX8_nearMatchCount_74 : decode cX8_nearMatchCount 74 = .ok (.goto (-38), 3) := by decide +kernel
theorem dX8_nearMatchCount_77 : decode cX8_nearMatchCount 77 = .ok (.iload_n 3, 1) := by decide +kernel
theorem dX8_nearMatchCount_78 : decode cX8_nearMatchCount 78 = .ok (.ireturn, 1) := by decide +kernel
set_option maxRecDepth 20000 in
theorem ggX8_nearest_X8_misses : GoodIn wsX8_nearest wsX8_misses := goodIn_r _ [7, 1, 8, 9, 10, 11, 6, 12, 13, 14, 15, 16, 17, 18, 19, 20, 21, 22, 23, 24, 25, 26, 27, 28, 29, 30, 31, 32, 33, 34, 35, 36, 37, 38, 39, 40, 41, 42, 43, 44, 45, 46, 47, 48, 49, 50, 51, 52, 53, 54, 55, 56, 57, 58, 59, 60, 61, 62, 63, 64, 65, 66, 67, 68, 69] (by decide +kernel) (by decide +kernel)
set_option maxRecDepth 20000 in
theorem gX8_nearest_X8_misses : GoodIn wsX8_nearest (wsV RX8 232 RX8 yX8_misses wsX8_misses) := goodIn_app (goodIn_of _ (by decide +kernel)) ggX8_nearest_X8_misses
theorem dX8_nearest_0 : decode cX8_nearest 0 = .ok (.iconst (-1), 1) := by decide +kernel
theorem dX8_nearest_1 : decode cX8_nearest 1 = .ok (.istore_n 2, 1) := by decide +kernel
theorem dX8_nearest_2 : decode cX8_nearest 2 = .ok (.iconst 0, 1) := by decide +kernel
theorem dX8_nearest_3 : decode cX8_nearest 3 = .ok (.istore_n 3, 1) := by decide +kernel
theorem dX8_nearest_4 : decode cX8_nearest 4 = .ok (.iload_n 3, 1) := by decide +kernel
theorem dX8_nearest_5 : decode cX8_nearest 5 = .ok (.aload_n 0, 1) := by decide +kernel
theorem dX8_nearest_6 : decode cX8_nearest 6 = .ok (.getfield 17, 3) := by decide +kernel
theorem dX8_nearest_9 : decode cX8_nearest 9 = .ok (.iload_n 1, 1) := by decide +kernel
theorem dX8_nearest_10 : decode cX8_nearest 10 = .ok (.iaload, 1) := by decide +kernel
theorem dX8_nearest_11 : decode cX8_nearest 11 = .ok (.iadd, 1) := by decide +kernel
theorem dX8_nearest_12 : decode cX8_nearest 12 = .ok (.aload_n 0, 1) := by decide +kernel
theorem dX8_nearest_13 : decode cX8_nearest 13 = .ok (.getfield 170, 3) := by decide +kernel
theorem dX8_nearest_16 : decode cX8_nearest 16 = .ok (.if_icmp .gt 31, 3) := by decide +kernel
theorem dX8_nearest_19 : decode cX8_nearest 19 = .ok (.iload_n 2, 1) := by decide +kernel
theorem dX8_nearest_20 : decode cX8_nearest 20 = .ok (.iconst (-1), 1) := by decide +kernel
theorem dX8_nearest_21 : decode cX8_nearest 21 = .ok (.if_icmp .eq 18, 3) := by decide +kernel
theorem dX8_nearest_24 : decode cX8_nearest 24 = .ok (.aload_n 0, 1) := by decide +kernel
theorem dX8_nearest_25 : decode cX8_nearest 25 = .ok (.iload_n 1, 1) := by decide +kernel
theorem dX8_nearest_26 : decode cX8_nearest 26 = .ok (.iload_n 3, 1) := by decide +kernel
theorem dX8_nearest_27 : decode cX8_nearest 27 = .ok (.invokevirtual 232, 3) := by decide +kernel
theorem dX8_nearest_30 : decode cX8_nearest 30 = .ok (.aload_n 0, 1) := by decide +kernel
theorem dX8_nearest_31 : decode cX8_nearest 31 = .ok (.iload_n 1, 1) := by decide +kernel
theorem dX8_nearest_32 : decode cX8_nearest 32 = .ok (.iload_n 2, 1) := by decide +kernel
theorem dX8_nearest_33 : decode cX8_nearest 33 = .ok (.invokevirtual 232, 3) := by decide +kernel
theorem dX8_nearest_36 : decode cX8_nearest 36 = .ok (.if_icmp .ge 5, 3) := by decide +kernel
theorem dX8_nearest_39 : decode cX8_nearest 39 = .ok (.iload_n 3, 1) := by decide +kernel
theorem dX8_nearest_40 : decode cX8_nearest 40 = .ok (.istore_n 2, 1) := by decide +kernel
theorem dX8_nearest_41 : decode cX8_nearest 41 = .ok (.iinc 3 1, 3) := by decide +kernel
theorem dX8_nearest_44 : decode cX8_nearest 44 = .ok (.goto (-40), 3) := by decide +kernel
theorem dX8_nearest_47 : decode cX8_nearest 47 = .ok (.iload_n 2, 1) := by decide +kernel
theorem dX8_nearest_48 : decode cX8_nearest 48 = .ok (.ireturn, 1) := by decide +kernel
set_option maxRecDepth 20000 in
theorem ggX8_fewestMismatches_X8_isLiveOne : GoodIn wsX8_fewestMismatches wsX8_isLiveOne := goodIn_r _ [6, 7, 8, 9, 10, 5, 11, 12, 13, 14, 15, 43, 44, 45, 46, 47, 48, 49, 50, 51, 52, 53, 54, 55, 56, 57, 58, 59, 60, 61, 62, 63, 64, 65, 66, 67, 68, 69, 70, 71, 72, 73, 74, 75, 76, 77, 78, 79, 80, 81, 82, 83, 84] (by decide +kernel) (by decide +kernel)
set_option maxRecDepth 20000 in
theorem gX8_fewestMismatches_X8_isLiveOne : GoodIn wsX8_fewestMismatches (wsV RX8 161 RX8 yX8_isLiveOne wsX8_isLiveOne) := goodIn_app (goodIn_of _ (by decide +kernel)) ggX8_fewestMismatches_X8_isLiveOne
set_option maxRecDepth 20000 in
theorem ggX8_fewestMismatches_X8_nearest : GoodIn wsX8_fewestMismatches wsX8_nearest := goodIn_r _ [19, 20, 21, 22, 23, 24, 5, 25, 26, 27, 28, 29, 30, 31, 32, 33, 34, 35, 36, 37, 38, 39, 40, 41, 42, 13, 14, 15, 43, 44, 45, 46, 47, 48, 49, 50, 51, 52, 53, 54, 55, 56, 57, 58, 59, 60, 61, 62, 63, 64, 65, 66, 67, 68, 69, 70, 71, 72, 73, 74, 75, 76, 77, 78, 79, 80, 81, 82, 83, 84] (by decide +kernel) (by decide +kernel)
set_option maxRecDepth 20000 in
theorem gX8_fewestMismatches_X8_nearest : GoodIn wsX8_fewestMismatches (wsV RX8 235 RX8 yX8_nearest wsX8_nearest) := goodIn_app (goodIn_of _ (by decide +kernel)) ggX8_fewestMismatches_X8_nearest
set_option maxRecDepth 20000 in
theorem ggX8_fewestMismatches_X8_misses : GoodIn wsX8_fewestMismatches wsX8_misses := goodIn_r _ [25, 20, 26, 27, 28, 29, 5, 30, 31, 32, 33, 34, 35, 36, 37, 38, 39, 40, 41, 42, 13, 14, 15, 43, 44, 45, 46, 47, 48, 49, 50, 51, 52, 53, 54, 55, 56, 57, 58, 59, 60, 61, 62, 63, 64, 65, 66, 67, 68, 69, 70, 71, 72, 73, 74, 75, 76, 77, 78, 79, 80, 81, 82, 83, 84] (by decide +kernel) (by decide +kernel)
set_option maxRecDepth 20000 in
theorem gX8_fewestMismatches_X8_misses : GoodIn wsX8_fewestMismatches (wsV RX8 232 RX8 yX8_misses wsX8_misses) := goodIn_app (goodIn_of _ (by decide +kernel)) ggX8_fewestMismatches_X8_misses
theorem dX8_fewestMismatches_0 : decode cX8_fewestMismatches 0 = .ok (.aload_n 0, 1) := by decide +kernel
theorem dX8_fewestMismatches_1 : decode cX8_fewestMismatches 1 = .ok (.iconst 0, 1) := by decide +kernel
theorem dX8_fewestMismatches_2 : decode cX8_fewestMismatches 2 = .ok (.putfield 1, 3) := by decide +kernel
theorem dX8_fewestMismatches_5 : decode cX8_fewestMismatches 5 = .ok (.aload_n 0, 1) := by decide +kernel
theorem dX8_fewestMismatches_6 : decode cX8_fewestMismatches 6 = .ok (.iload_n 1, 1) := by decide +kernel
theorem dX8_fewestMismatches_7 : decode cX8_fewestMismatches 7 = .ok (.invokevirtual 161, 3) := by decide +kernel
theorem dX8_fewestMismatches_10 : decode cX8_fewestMismatches 10 = .ok (.ifCond .ne 6, 3) := by decide +kernel
theorem dX8_fewestMismatches_13 : decode cX8_fewestMismatches 13 = .ok (.bipush (-2), 2) := by decide +kernel
theorem dX8_fewestMismatches_15 : decode cX8_fewestMismatches 15 = .ok (.ireturn, 1) := by decide +kernel
theorem dX8_fewestMismatches_16 : decode cX8_fewestMismatches 16 = .ok (.aload_n 0, 1) := by decide +kernel
theorem dX8_fewestMismatches_17 : decode cX8_fewestMismatches 17 = .ok (.iload_n 1, 1) := by decide +kernel
theorem dX8_fewestMismatches_18 : decode cX8_fewestMismatches 18 = .ok (.invokevirtual 235, 3) := by decide +kernel
theorem dX8_fewestMismatches_21 : decode cX8_fewestMismatches 21 = .ok (.istore_n 2, 1) := by decide +kernel
theorem dX8_fewestMismatches_22 : decode cX8_fewestMismatches 22 = .ok (.iload_n 2, 1) := by decide +kernel
theorem dX8_fewestMismatches_23 : decode cX8_fewestMismatches 23 = .ok (.iconst (-1), 1) := by decide +kernel
theorem dX8_fewestMismatches_24 : decode cX8_fewestMismatches 24 = .ok (.if_icmp .ne 7, 3) := by decide +kernel
theorem dX8_fewestMismatches_27 : decode cX8_fewestMismatches 27 = .ok (.iconst (-1), 1) := by decide +kernel
theorem dX8_fewestMismatches_28 : decode cX8_fewestMismatches 28 = .ok (.goto 9, 3) := by decide +kernel
theorem dX8_fewestMismatches_31 : decode cX8_fewestMismatches 31 = .ok (.aload_n 0, 1) := by decide +kernel
theorem dX8_fewestMismatches_32 : decode cX8_fewestMismatches 32 = .ok (.iload_n 1, 1) := by decide +kernel
theorem dX8_fewestMismatches_33 : decode cX8_fewestMismatches 33 = .ok (.iload_n 2, 1) := by decide +kernel
theorem dX8_fewestMismatches_34 : decode cX8_fewestMismatches 34 = .ok (.invokevirtual 232, 3) := by decide +kernel
theorem dX8_fewestMismatches_37 : decode cX8_fewestMismatches 37 = .ok (.ireturn, 1) := by decide +kernel
set_option maxRecDepth 20000 in
theorem ggX8_nearestStart_X8_isLiveOne : GoodIn wsX8_nearestStart wsX8_isLiveOne := goodIn_r _ [6, 7, 8, 9, 10, 5, 11, 12, 13, 14, 15, 43, 44, 45, 46, 47, 48, 49, 50, 51, 52, 53, 54, 55, 56, 57, 58, 59, 60, 61, 62, 63, 64, 65, 66, 67, 68, 69, 70, 71, 72, 73, 74, 75, 76, 77, 78, 79, 80, 81, 82, 83, 84] (by decide +kernel) (by decide +kernel)
set_option maxRecDepth 20000 in
theorem gX8_nearestStart_X8_isLiveOne : GoodIn wsX8_nearestStart (wsV RX8 161 RX8 yX8_isLiveOne wsX8_isLiveOne) := goodIn_app (goodIn_of _ (by decide +kernel)) ggX8_nearestStart_X8_isLiveOne
set_option maxRecDepth 20000 in
theorem ggX8_nearestStart_X8_nearest : GoodIn wsX8_nearestStart wsX8_nearest := goodIn_r _ [19, 20, 21, 22, 23, 24, 5, 25, 26, 27, 28, 29, 30, 31, 32, 33, 34, 35, 36, 37, 38, 39, 40, 41, 42, 13, 14, 15, 43, 44, 45, 46, 47, 48, 49, 50, 51, 52, 53, 54, 55, 56, 57, 58, 59, 60, 61, 62, 63, 64, 65, 66, 67, 68, 69, 70, 71, 72, 73, 74, 75, 76, 77, 78, 79, 80, 81, 82, 83, 84] (by decide +kernel) (by decide +kernel)
set_option maxRecDepth 20000 in
theorem gX8_nearestStart_X8_nearest : GoodIn wsX8_nearestStart (wsV RX8 235 RX8 yX8_nearest wsX8_nearest) := goodIn_app (goodIn_of _ (by decide +kernel)) ggX8_nearestStart_X8_nearest
theorem dX8_nearestStart_0 : decode cX8_nearestStart 0 = .ok (.aload_n 0, 1) := by decide +kernel
theorem dX8_nearestStart_1 : decode cX8_nearestStart 1 = .ok (.iconst 0, 1) := by decide +kernel
theorem dX8_nearestStart_2 : decode cX8_nearestStart 2 = .ok (.putfield 1, 3) := by decide +kernel
theorem dX8_nearestStart_5 : decode cX8_nearestStart 5 = .ok (.aload_n 0, 1) := by decide +kernel
theorem dX8_nearestStart_6 : decode cX8_nearestStart 6 = .ok (.iload_n 1, 1) := by decide +kernel
theorem dX8_nearestStart_7 : decode cX8_nearestStart 7 = .ok (.invokevirtual 161, 3) := by decide +kernel
theorem dX8_nearestStart_10 : decode cX8_nearestStart 10 = .ok (.ifCond .eq 11, 3) := by decide +kernel
theorem dX8_nearestStart_13 : decode cX8_nearestStart 13 = .ok (.aload_n 0, 1) := by decide +kernel
theorem dX8_nearestStart_14 : decode cX8_nearestStart 14 = .ok (.iload_n 1, 1) := by decide +kernel
theorem dX8_nearestStart_15 : decode cX8_nearestStart 15 = .ok (.invokevirtual 235, 3) := by decide +kernel
theorem dX8_nearestStart_18 : decode cX8_nearestStart 18 = .ok (.goto 5, 3) := by decide +kernel
theorem dX8_nearestStart_21 : decode cX8_nearestStart 21 = .ok (.bipush (-2), 2) := by decide +kernel
theorem dX8_nearestStart_23 : decode cX8_nearestStart 23 = .ok (.ireturn, 1) := by decide +kernel
set_option maxRecDepth 20000 in
theorem ggX8_overlapLength_X8_isGiven : GoodIn wsX8_overlapLength wsX8_isGiven := goodIn_r _ [7, 8, 9, 10, 6, 11, 32, 33, 34, 35, 36, 37, 38, 39, 40, 41, 42, 43, 44, 45, 46, 47, 48, 49, 50, 51, 52, 53, 54, 55, 56, 57, 58, 59, 60, 61, 62, 63, 64, 65, 66, 67, 68, 69, 70, 71, 72, 73] (by decide +kernel) (by decide +kernel)
set_option maxRecDepth 20000 in
theorem gX8_overlapLength_X8_isGiven : GoodIn wsX8_overlapLength (wsV RX8 109 RX8 yX8_isGiven wsX8_isGiven) := goodIn_app (goodIn_of _ (by decide +kernel)) ggX8_overlapLength_X8_isGiven
set_option maxRecDepth 20000 in
theorem ggX8_overlapLength_X8_begins : GoodIn wsX8_overlapLength wsX8_begins := goodIn_r _ [15, 2, 16, 17, 18, 6, 19, 20, 21, 22, 23, 24, 25, 26, 27, 28, 29, 30, 31, 9, 10, 11, 32, 33, 34, 35, 36, 37, 38, 39, 40, 41, 42, 43, 44, 45, 46, 47, 48, 49, 50, 51, 52, 53, 54, 55, 56, 57, 58, 59, 60, 61, 62, 63, 64, 65, 66, 67, 68, 69, 70, 71, 72, 73] (by decide +kernel) (by decide +kernel)
set_option maxRecDepth 20000 in
theorem gX8_overlapLength_X8_begins : GoodIn wsX8_overlapLength (wsV RX8 194 RX8 yX8_begins wsX8_begins) := goodIn_app (goodIn_of _ (by decide +kernel)) ggX8_overlapLength_X8_begins
theorem dX8_overlapLength_0 : decode cX8_overlapLength 0 = .ok (.aload_n 0, 1) := by decide +kernel
theorem dX8_overlapLength_1 : decode cX8_overlapLength 1 = .ok (.iconst 0, 1) := by decide +kernel
theorem dX8_overlapLength_2 : decode cX8_overlapLength 2 = .ok (.putfield 1, 3) := by decide +kernel
theorem dX8_overlapLength_5 : decode cX8_overlapLength 5 = .ok (.aload_n 0, 1) := by decide +kernel
theorem dX8_overlapLength_6 : decode cX8_overlapLength 6 = .ok (.iload_n 1, 1) := by decide +kernel
theorem dX8_overlapLength_7 : decode cX8_overlapLength 7 = .ok (.invokevirtual 109, 3) := by decide +kernel
theorem dX8_overlapLength_10 : decode cX8_overlapLength 10 = .ok (.ifCond .eq 11, 3) := by decide +kernel
theorem dX8_overlapLength_13 : decode cX8_overlapLength 13 = .ok (.aload_n 0, 1) := by decide +kernel
theorem dX8_overlapLength_14 : decode cX8_overlapLength 14 = .ok (.iload_n 2, 1) := by decide +kernel
theorem dX8_overlapLength_15 : decode cX8_overlapLength 15 = .ok (.invokevirtual 109, 3) := by decide +kernel
theorem dX8_overlapLength_18 : decode cX8_overlapLength 18 = .ok (.ifCond .ne 6, 3) := by decide +kernel
theorem dX8_overlapLength_21 : decode cX8_overlapLength 21 = .ok (.bipush (-2), 2) := by decide +kernel
theorem dX8_overlapLength_23 : decode cX8_overlapLength 23 = .ok (.ireturn, 1) := by decide +kernel
theorem dX8_overlapLength_24 : decode cX8_overlapLength 24 = .ok (.aload_n 0, 1) := by decide +kernel
theorem dX8_overlapLength_25 : decode cX8_overlapLength 25 = .ok (.getfield 17, 3) := by decide +kernel
theorem dX8_overlapLength_28 : decode cX8_overlapLength 28 = .ok (.iload_n 1, 1) := by decide +kernel
theorem dX8_overlapLength_29 : decode cX8_overlapLength 29 = .ok (.iaload, 1) := by decide +kernel
theorem dX8_overlapLength_30 : decode cX8_overlapLength 30 = .ok (.aload_n 0, 1) := by decide +kernel
theorem dX8_overlapLength_31 : decode cX8_overlapLength 31 = .ok (.getfield 17, 3) := by decide +kernel
theorem dX8_overlapLength_34 : decode cX8_overlapLength 34 = .ok (.iload_n 2, 1) := by decide +kernel
theorem dX8_overlapLength_35 : decode cX8_overlapLength 35 = .ok (.iaload, 1) := by decide +kernel
theorem dX8_overlapLength_36 : decode cX8_overlapLength 36 = .ok (.if_icmp .ge 14, 3) := by decide +kernel
theorem dX8_overlapLength_39 : decode cX8_overlapLength 39 = .ok (.aload_n 0, 1) := by decide +kernel
theorem dX8_overlapLength_40 : decode cX8_overlapLength 40 = .ok (.getfield 17, 3) := by decide +kernel
theorem dX8_overlapLength_43 : decode cX8_overlapLength 43 = .ok (.iload_n 1, 1) := by decide +kernel
theorem dX8_overlapLength_44 : decode cX8_overlapLength 44 = .ok (.iaload, 1) := by decide +kernel
theorem dX8_overlapLength_45 : decode cX8_overlapLength 45 = .ok (.iconst 1, 1) := by decide +kernel
theorem dX8_overlapLength_46 : decode cX8_overlapLength 46 = .ok (.isub, 1) := by decide +kernel
theorem dX8_overlapLength_47 : decode cX8_overlapLength 47 = .ok (.goto 11, 3) := by decide +kernel
theorem dX8_overlapLength_50 : decode cX8_overlapLength 50 = .ok (.aload_n 0, 1) := by decide +kernel
theorem dX8_overlapLength_51 : decode cX8_overlapLength 51 = .ok (.getfield 17, 3) := by decide +kernel
theorem dX8_overlapLength_54 : decode cX8_overlapLength 54 = .ok (.iload_n 2, 1) := by decide +kernel
theorem dX8_overlapLength_55 : decode cX8_overlapLength 55 = .ok (.iaload, 1) := by decide +kernel
theorem dX8_overlapLength_56 : decode cX8_overlapLength 56 = .ok (.iconst 1, 1) := by decide +kernel
theorem dX8_overlapLength_57 : decode cX8_overlapLength 57 = .ok (.isub, 1) := by decide +kernel
theorem dX8_overlapLength_58 : decode cX8_overlapLength 58 = .ok (.istore_n 3, 1) := by decide +kernel
theorem dX8_overlapLength_59 : decode cX8_overlapLength 59 = .ok (.iload_n 3, 1) := by decide +kernel
theorem dX8_overlapLength_60 : decode cX8_overlapLength 60 = .ok (.ifCond .le 32, 3) := by decide +kernel
theorem dX8_overlapLength_63 : decode cX8_overlapLength 63 = .ok (.aload_n 0, 1) := by decide +kernel
theorem dX8_overlapLength_64 : decode cX8_overlapLength 64 = .ok (.iload_n 1, 1) := by decide +kernel
theorem dX8_overlapLength_65 : decode cX8_overlapLength 65 = .ok (.aload_n 0, 1) := by decide +kernel
theorem dX8_overlapLength_66 : decode cX8_overlapLength 66 = .ok (.getfield 17, 3) := by decide +kernel
theorem dX8_overlapLength_69 : decode cX8_overlapLength 69 = .ok (.iload_n 1, 1) := by decide +kernel
theorem dX8_overlapLength_70 : decode cX8_overlapLength 70 = .ok (.iaload, 1) := by decide +kernel
theorem dX8_overlapLength_71 : decode cX8_overlapLength 71 = .ok (.iload_n 3, 1) := by decide +kernel
theorem dX8_overlapLength_72 : decode cX8_overlapLength 72 = .ok (.isub, 1) := by decide +kernel
theorem dX8_overlapLength_73 : decode cX8_overlapLength 73 = .ok (.aload_n 0, 1) := by decide +kernel
theorem dX8_overlapLength_74 : decode cX8_overlapLength 74 = .ok (.getfield 17, 3) := by decide +kernel
theorem dX8_overlapLength_77 : decode cX8_overlapLength 77 = .ok (.iload_n 1, 1) := by decide +kernel
theorem dX8_overlapLength_78 : decode cX8_overlapLength 78 = .ok (.iaload, 1) := by decide +kernel
theorem dX8_overlapLength_79 : decode cX8_overlapLength 79 = .ok (.iload_n 2, 1) := by decide +kernel
theorem dX8_overlapLength_80 : decode cX8_overlapLength 80 = .ok (.invokevirtual 194, 3) := by decide +kernel
theorem dX8_overlapLength_83 : decode cX8_overlapLength 83 = .ok (.ifCond .ne 9, 3) := by decide +kernel
theorem dX8_overlapLength_86 : decode cX8_overlapLength 86 = .ok (.iinc 3 (-1), 3) := by decide +kernel
theorem dX8_overlapLength_89 : decode cX8_overlapLength 89 = .ok (.goto (-30), 3) := by decide +kernel
theorem dX8_overlapLength_92 : decode cX8_overlapLength 92 = .ok (.iload_n 3, 1) := by decide +kernel
theorem dX8_overlapLength_93 : decode cX8_overlapLength 93 = .ok (.ireturn, 1) := by decide +kernel
set_option maxRecDepth 20000 in
theorem ggX8_occursIn_X8_byteOf : GoodIn wsX8_occursIn wsX8_byteOf := goodIn_r _ [6, 7, 22, 23, 24, 25, 26, 27, 28, 29, 30, 31, 32, 33, 34, 35, 36, 37, 38, 39, 40, 41, 42, 43, 44, 45, 46, 47, 48, 49, 50, 51, 52, 53, 54, 55, 56, 57, 58, 59, 60, 61, 62, 63] (by decide +kernel) (by decide +kernel)
set_option maxRecDepth 20000 in
theorem gX8_occursIn_X8_byteOf : GoodIn wsX8_occursIn (wsV RX8 125 RX8 yX8_byteOf wsX8_byteOf) := goodIn_app (goodIn_of _ (by decide +kernel)) ggX8_occursIn_X8_byteOf
set_option maxRecDepth 20000 in
theorem ggX8_occursIn_X8_like : GoodIn wsX8_occursIn wsX8_like := goodIn_r _ [11, 12, 13, 14, 5, 15, 16, 17, 18, 19, 20, 21, 22, 23, 24, 25, 26, 27, 28, 29, 30, 31, 32, 33, 34, 35, 36, 37, 38, 39, 40, 41, 42, 43, 44, 45, 46, 47, 48, 49, 50, 51, 52, 53, 54, 55, 56, 57, 58, 59, 60, 61, 62, 63] (by decide +kernel) (by decide +kernel)
set_option maxRecDepth 20000 in
theorem gX8_occursIn_X8_like : GoodIn wsX8_occursIn (wsV RX8 129 RX8 yX8_like wsX8_like) := goodIn_app (goodIn_of _ (by decide +kernel)) ggX8_occursIn_X8_like
theorem dX8_occursIn_0 : decode cX8_occursIn 0 = .ok (.iconst 0, 1) := by decide +kernel
theorem dX8_occursIn_1 : decode cX8_occursIn 1 = .ok (.istore_n 3, 1) := by decide +kernel
theorem dX8_occursIn_2 : decode cX8_occursIn 2 = .ok (.iload_n 3, 1) := by decide +kernel
theorem dX8_occursIn_3 : decode cX8_occursIn 3 = .ok (.aload_n 0, 1) := by decide +kernel
theorem dX8_occursIn_4 : decode cX8_occursIn 4 = .ok (.getfield 17, 3) := by decide +kernel
theorem dX8_occursIn_7 : decode cX8_occursIn 7 = .ok (.iload_n 1, 1) := by decide +kernel
theorem dX8_occursIn_8 : decode cX8_occursIn 8 = .ok (.iaload, 1) := by decide +kernel
theorem dX8_occursIn_9 : decode cX8_occursIn 9 = .ok (.iadd, 1) := by decide +kernel
theorem dX8_occursIn_10 : decode cX8_occursIn 10 = .ok (.aload_n 0, 1) := by decide +kernel
theorem dX8_occursIn_11 : decode cX8_occursIn 11 = .ok (.getfield 17, 3) := by decide +kernel
theorem dX8_occursIn_14 : decode cX8_occursIn 14 = .ok (.iload_n 2, 1) := by decide +kernel
theorem dX8_occursIn_15 : decode cX8_occursIn 15 = .ok (.iaload, 1) := by decide +kernel
theorem dX8_occursIn_16 : decode cX8_occursIn 16 = .ok (.if_icmp .gt 65, 3) := by decide +kernel
theorem dX8_occursIn_19 : decode cX8_occursIn 19 = .ok (.iconst 0, 1) := by decide +kernel
theorem dX8_occursIn_20 : decode cX8_occursIn 20 = .ok (.istore 4, 2) := by decide +kernel
theorem dX8_occursIn_22 : decode cX8_occursIn 22 = .ok (.iload 4, 2) := by decide +kernel
theorem dX8_occursIn_24 : decode cX8_occursIn 24 = .ok (.aload_n 0, 1) := by decide +kernel
theorem dX8_occursIn_25 : decode cX8_occursIn 25 = .ok (.getfield 17, 3) := by decide +kernel
theorem dX8_occursIn_28 : decode cX8_occursIn 28 = .ok (.iload_n 1, 1) := by decide +kernel
theorem dX8_occursIn_29 : decode cX8_occursIn 29 = .ok (.iaload, 1) := by decide +kernel
theorem dX8_occursIn_30 : decode cX8_occursIn 30 = .ok (.if_icmp .ge 32, 3) := by decide +kernel
theorem dX8_occursIn_33 : decode cX8_occursIn 33 = .ok (.aload_n 0, 1) := by decide +kernel
theorem dX8_occursIn_34 : decode cX8_occursIn 34 = .ok (.aload_n 0, 1) := by decide +kernel
theorem dX8_occursIn_35 : decode cX8_occursIn 35 = .ok (.iload_n 1, 1) := by decide +kernel
theorem dX8_occursIn_36 : decode cX8_occursIn 36 = .ok (.iload 4, 2) := by decide +kernel
theorem dX8_occursIn_38 : decode cX8_occursIn 38 = .ok (.invokevirtual 125, 3) := by decide +kernel
theorem dX8_occursIn_41 : decode cX8_occursIn 41 = .ok (.aload_n 0, 1) := by decide +kernel
theorem dX8_occursIn_42 : decode cX8_occursIn 42 = .ok (.iload_n 2, 1) := by decide +kernel
theorem dX8_occursIn_43 : decode cX8_occursIn 43 = .ok (.iload_n 3, 1) := by decide +kernel
theorem dX8_occursIn_44 : decode cX8_occursIn 44 = .ok (.iload 4, 2) := by decide +kernel
theorem dX8_occursIn_46 : decode cX8_occursIn 46 = .ok (.iadd, 1) := by decide +kernel
theorem dX8_occursIn_47 : decode cX8_occursIn 47 = .ok (.invokevirtual 125, 3) := by decide +kernel
theorem dX8_occursIn_50 : decode cX8_occursIn 50 = .ok (.invokevirtual 129, 3) := by decide +kernel
theorem dX8_occursIn_53 : decode cX8_occursIn 53 = .ok (.ifCond .eq 9, 3) := by decide +kernel
theorem dX8_occursIn_56 : decode cX8_occursIn 56 = .ok (.iinc 4 1, 3) := by decide +kernel
theorem dX8_occursIn_59 : decode cX8_occursIn 59 = .ok (.goto (-37), 3) := by decide +kernel
theorem dX8_occursIn_62 : decode cX8_occursIn 62 = .ok (.iload 4, 2) := by decide +kernel
theorem dX8_occursIn_64 : decode cX8_occursIn 64 = .ok (.aload_n 0, 1) := by decide +kernel
theorem dX8_occursIn_65 : decode cX8_occursIn 65 = .ok (.getfield 17, 3) := by decide +kernel
theorem dX8_occursIn_68 : decode cX8_occursIn 68 = .ok (.iload_n 1, 1) := by decide +kernel
theorem dX8_occursIn_69 : decode cX8_occursIn 69 = .ok (.iaload, 1) := by decide +kernel
theorem dX8_occursIn_70 : decode cX8_occursIn 70 = .ok (.if_icmp .ne 5, 3) := by decide +kernel
theorem dX8_occursIn_73 : decode cX8_occursIn 73 = .ok (.iconst 1, 1) := by decide +kernel
theorem dX8_occursIn_74 : decode cX8_occursIn 74 = .ok (.ireturn, 1) := by decide +kernel
theorem dX8_occursIn_75 : decode cX8_occursIn 75 = .ok (.iinc 3 1, 3) := by decide +kernel
theorem dX8_occursIn_78 : decode cX8_occursIn 78 = .ok (.goto (-76), 3) := by decide +kernel
theorem dX8_occursIn_81 : decode cX8_occursIn 81 = .ok (.iconst 0, 1) := by decide +kernel
theorem dX8_occursIn_82 : decode cX8_occursIn 82 = .ok (.ireturn, 1) := by decide +kernel
set_option maxRecDepth 20000 in
theorem ggX8_occursInAny_X8_occursIn : GoodIn wsX8_occursInAny wsX8_occursIn := goodIn_r _ [7, 8, 9, 10, 11, 6, 12, 13, 14, 15, 16, 17, 18, 19, 20, 21, 22, 23, 24, 25, 26, 27, 28, 29, 30, 31, 32, 33, 34, 35, 36, 37, 38, 39, 40, 41, 42, 43, 44, 45, 46, 47, 48, 49, 50, 51, 52, 53, 54, 55, 56, 57, 58, 59, 60, 61, 62, 63, 64, 65, 66, 67, 68, 69] (by decide +kernel) (by decide +kernel)
set_option maxRecDepth 20000 in
theorem gX8_occursInAny_X8_occursIn : GoodIn wsX8_occursInAny (wsV RX8 238 RX8 yX8_occursIn wsX8_occursIn) := goodIn_app (goodIn_of _ (by decide +kernel)) ggX8_occursInAny_X8_occursIn
theorem dX8_occursInAny_0 : decode cX8_occursInAny 0 = .ok (.iconst 0, 1) := by decide +kernel
theorem dX8_occursInAny_1 : decode cX8_occursInAny 1 = .ok (.istore_n 2, 1) := by decide +kernel
theorem dX8_occursInAny_2 : decode cX8_occursInAny 2 = .ok (.iload_n 2, 1) := by decide +kernel
theorem dX8_occursInAny_3 : decode cX8_occursInAny 3 = .ok (.aload_n 0, 1) := by decide +kernel
theorem dX8_occursInAny_4 : decode cX8_occursInAny 4 = .ok (.getfield 102, 3) := by decide +kernel
theorem dX8_occursInAny_7 : decode cX8_occursInAny 7 = .ok (.if_icmp .ge 34, 3) := by decide +kernel
theorem dX8_occursInAny_10 : decode cX8_occursInAny 10 = .ok (.aload_n 0, 1) := by decide +kernel
theorem dX8_occursInAny_11 : decode cX8_occursInAny 11 = .ok (.getfield 26, 3) := by decide +kernel
theorem dX8_occursInAny_14 : decode cX8_occursInAny 14 = .ok (.iload_n 2, 1) := by decide +kernel
theorem dX8_occursInAny_15 : decode cX8_occursInAny 15 = .ok (.baload, 1) := by decide +kernel
theorem dX8_occursInAny_16 : decode cX8_occursInAny 16 = .ok (.ifCond .eq 19, 3) := by decide +kernel
theorem dX8_occursInAny_19 : decode cX8_occursInAny 19 = .ok (.iload_n 2, 1) := by decide +kernel
theorem dX8_occursInAny_20 : decode cX8_occursInAny 20 = .ok (.iload_n 1, 1) := by decide +kernel
theorem dX8_occursInAny_21 : decode cX8_occursInAny 21 = .ok (.if_icmp .eq 14, 3) := by decide +kernel
theorem dX8_occursInAny_24 : decode cX8_occursInAny 24 = .ok (.aload_n 0, 1) := by decide +kernel
theorem dX8_occursInAny_25 : decode cX8_occursInAny 25 = .ok (.iload_n 1, 1) := by decide +kernel
theorem dX8_occursInAny_26 : decode cX8_occursInAny 26 = .ok (.iload_n 2, 1) := by decide +kernel
theorem dX8_occursInAny_27 : decode cX8_occursInAny 27 = .ok (.invokevirtual 238, 3) := by decide +kernel
theorem dX8_occursInAny_30 : decode cX8_occursInAny 30 = .ok (.ifCond .eq 5, 3) := by decide +kernel
theorem dX8_occursInAny_33 : decode cX8_occursInAny 33 = .ok (.iconst 1, 1) := by decide +kernel
theorem dX8_occursInAny_34 : decode cX8_occursInAny 34 = .ok (.ireturn, 1) := by decide +kernel
theorem dX8_occursInAny_35 : decode cX8_occursInAny 35 = .ok (.iinc 2 1, 3) := by decide +kernel
theorem dX8_occursInAny_38 : decode cX8_occursInAny 38 = .ok (.goto (-36), 3) := by decide +kernel
theorem dX8_occursInAny_41 : decode cX8_occursInAny 41 = .ok (.iconst 0, 1) := by decide +kernel
theorem dX8_occursInAny_42 : decode cX8_occursInAny 42 = .ok (.ireturn, 1) := by decide +kernel
theorem dX8_edgeOf_0 : decode cX8_edgeOf 0 = .ok (.aload_n 0, 1) := by decide +kernel
theorem dX8_edgeOf_1 : decode cX8_edgeOf 1 = .ok (.getfield 60, 3) := by decide +kernel
theorem dX8_edgeOf_4 : decode cX8_edgeOf 4 = .ok (.iload_n 1, 1) := by decide +kernel
theorem dX8_edgeOf_5 : decode cX8_edgeOf 5 = .ok (.iaload, 1) := by decide +kernel
theorem dX8_edgeOf_6 : decode cX8_edgeOf 6 = .ok (.bipush 15, 2) := by decide +kernel
theorem dX8_edgeOf_8 : decode cX8_edgeOf 8 = .ok (.if_icmp .ge 12, 3) := by decide +kernel
theorem dX8_edgeOf_11 : decode cX8_edgeOf 11 = .ok (.aload_n 0, 1) := by decide +kernel
theorem dX8_edgeOf_12 : decode cX8_edgeOf 12 = .ok (.getfield 60, 3) := by decide +kernel
theorem dX8_edgeOf_15 : decode cX8_edgeOf 15 = .ok (.iload_n 1, 1) := by decide +kernel
theorem dX8_edgeOf_16 : decode cX8_edgeOf 16 = .ok (.iaload, 1) := by decide +kernel
theorem dX8_edgeOf_17 : decode cX8_edgeOf 17 = .ok (.goto 5, 3) := by decide +kernel
theorem dX8_edgeOf_20 : decode cX8_edgeOf 20 = .ok (.bipush 15, 2) := by decide +kernel
theorem dX8_edgeOf_22 : decode cX8_edgeOf 22 = .ok (.ireturn, 1) := by decide +kernel
set_option maxRecDepth 20000 in
theorem ggX8_laysElements_X8_occursInAny : GoodIn wsX8_laysElements wsX8_occursInAny := goodIn_r _ [15, 2, 3, 16, 17, 18, 14, 19, 6, 20, 21, 22, 23, 24, 25, 26, 27, 28, 29, 30, 31, 32, 33, 34, 35, 36, 37, 38, 43, 44, 45, 46, 47, 48, 49, 50, 51, 52, 53, 54, 55, 56, 57, 58, 59, 60, 61, 62, 63, 64, 65, 66, 67, 68, 69, 70, 71, 72, 73, 74, 75, 76, 77, 78, 79, 80, 81, 82, 83, 84] (by decide +kernel) (by decide +kernel)
set_option maxRecDepth 20000 in
theorem gX8_laysElements_X8_occursInAny : GoodIn wsX8_laysElements (wsV RX8 244 RX8 yX8_occursInAny wsX8_occursInAny) := goodIn_app (goodIn_of _ (by decide +kernel)) ggX8_laysElements_X8_occursInAny
set_option maxRecDepth 20000 in
theorem ggX8_laysElements_X8_edgeOf : GoodIn wsX8_laysElements wsX8_edgeOf := goodIn_r _ [42, 5, 43, 44, 45, 46, 47, 48, 49, 50, 51, 52, 53, 54, 55, 56, 57, 58, 59, 60, 61, 62, 63, 64, 65, 66, 67, 68, 69, 70, 71, 72, 73, 74, 75, 76, 77, 78, 79, 80, 81, 82, 83, 84] (by decide +kernel) (by decide +kernel)
set_option maxRecDepth 20000 in
theorem gX8_laysElements_X8_edgeOf : GoodIn wsX8_laysElements (wsV RX8 247 RX8 yX8_edgeOf wsX8_edgeOf) := goodIn_app (goodIn_of _ (by decide +kernel)) ggX8_laysElements_X8_edgeOf
set_option maxRecDepth 20000 in
theorem ggX8_laysElements_X8_byteOf : GoodIn wsX8_laysElements wsX8_byteOf := goodIn_r _ [23, 24, 43, 44, 45, 46, 47, 48, 49, 50, 51, 52, 53, 54, 55, 56, 57, 58, 59, 60, 61, 62, 63, 64, 65, 66, 67, 68, 69, 70, 71, 72, 73, 74, 75, 76, 77, 78, 79, 80, 81, 82, 83, 84] (by decide +kernel) (by decide +kernel)
set_option maxRecDepth 20000 in
theorem gX8_laysElements_X8_byteOf : GoodIn wsX8_laysElements (wsV RX8 125 RX8 yX8_byteOf wsX8_byteOf) := goodIn_app (goodIn_of _ (by decide +kernel)) ggX8_laysElements_X8_byteOf
theorem dX8_laysElements_0 : decode cX8_laysElements 0 = .ok (.aload_n 0, 1) := by decide +kernel
theorem dX8_laysElements_1 : decode cX8_laysElements 1 = .ok (.iconst 0, 1) := by decide +kernel
theorem dX8_laysElements_2 : decode cX8_laysElements 2 = .ok (.putfield 241, 3) := by decide +kernel
theorem dX8_laysElements_5 : decode cX8_laysElements 5 = .ok (.iconst 0, 1) := by decide +kernel
theorem dX8_laysElements_6 : decode cX8_laysElements 6 = .ok (.istore_n 1, 1) := by decide +kernel
theorem dX8_laysElements_7 : decode cX8_laysElements 7 = .ok (.iload_n 1, 1) := by decide +kernel
theorem dX8_laysElements_8 : decode cX8_laysElements 8 = .ok (.aload_n 0, 1) := by decide +kernel
theorem dX8_laysElements_9 : decode cX8_laysElements 9 = .ok (.getfield 102, 3) := by decide +kernel
theorem dX8_laysElements_12 : decode cX8_laysElements 12 = .ok (.if_icmp .ge 137, 3) := by decide +kernel
theorem dX8_laysElements_15 : decode cX8_laysElements 15 = .ok (.aload_n 0, 1) := by decide +kernel
theorem dX8_laysElements_16 : decode cX8_laysElements 16 = .ok (.getfield 26, 3) := by decide +kernel
theorem dX8_laysElements_19 : decode cX8_laysElements 19 = .ok (.iload_n 1, 1) := by decide +kernel
theorem dX8_laysElements_20 : decode cX8_laysElements 20 = .ok (.baload, 1) := by decide +kernel
theorem dX8_laysElements_21 : decode cX8_laysElements 21 = .ok (.ifCond .eq 122, 3) := by decide +kernel
theorem dX8_laysElements_24 : decode cX8_laysElements 24 = .ok (.aload_n 0, 1) := by decide +kernel
theorem dX8_laysElements_25 : decode cX8_laysElements 25 = .ok (.iload_n 1, 1) := by decide +kernel
theorem dX8_laysElements_26 : decode cX8_laysElements 26 = .ok (.invokevirtual 244, 3) := by decide +kernel
theorem dX8_laysElements_29 : decode cX8_laysElements 29 = .ok (.ifCond .eq 6, 3) := by decide +kernel
theorem dX8_laysElements_32 : decode cX8_laysElements 32 = .ok (.goto 111, 3) := by decide +kernel
theorem dX8_laysElements_35 : decode cX8_laysElements 35 = .ok (.aload_n 0, 1) := by decide +kernel
theorem dX8_laysElements_36 : decode cX8_laysElements 36 = .ok (.getfield 57, 3) := by decide +kernel
theorem dX8_laysElements_39 : decode cX8_laysElements 39 = .ok (.aload_n 0, 1) := by decide +kernel
theorem dX8_laysElements_40 : decode cX8_laysElements 40 = .ok (.getfield 241, 3) := by decide +kernel
theorem dX8_laysElements_43 : decode cX8_laysElements 43 = .ok (.iload_n 1, 1) := by decide +kernel
theorem dX8_laysElements_44 : decode cX8_laysElements 44 = .ok (.iastore, 1) := by decide +kernel
theorem dX8_laysElements_45 : decode cX8_laysElements 45 = .ok (.aload_n 0, 1) := by decide +kernel
theorem dX8_laysElements_46 : decode cX8_laysElements 46 = .ok (.dup, 1) := by decide +kernel
theorem dX8_laysElements_47 : decode cX8_laysElements 47 = .ok (.getfield 241, 3) := by decide +kernel
theorem dX8_laysElements_50 : decode cX8_laysElements 50 = .ok (.iconst 1, 1) := by decide +kernel
theorem dX8_laysElements_51 : decode cX8_laysElements 51 = .ok (.iadd, 1) := by decide +kernel
theorem dX8_laysElements_52 : decode cX8_laysElements 52 = .ok (.putfield 241, 3) := by decide +kernel
theorem dX8_laysElements_55 : decode cX8_laysElements 55 = .ok (.aload_n 0, 1) := by decide +kernel
theorem dX8_laysElements_56 : decode cX8_laysElements 56 = .ok (.getfield 60, 3) := by decide +kernel
theorem dX8_laysElements_59 : decode cX8_laysElements 59 = .ok (.iload_n 1, 1) := by decide +kernel
theorem dX8_laysElements_60 : decode cX8_laysElements 60 = .ok (.aload_n 0, 1) := by decide +kernel
theorem dX8_laysElements_61 : decode cX8_laysElements 61 = .ok (.getfield 17, 3) := by decide +kernel
theorem dX8_laysElements_64 : decode cX8_laysElements 64 = .ok (.iload_n 1, 1) := by decide +kernel
theorem dX8_laysElements_65 : decode cX8_laysElements 65 = .ok (.iaload, 1) := by decide +kernel
theorem dX8_laysElements_66 : decode cX8_laysElements 66 = .ok (.iastore, 1) := by decide +kernel
theorem dX8_laysElements_67 : decode cX8_laysElements 67 = .ok (.aload_n 0, 1) := by decide +kernel
theorem dX8_laysElements_68 : decode cX8_laysElements 68 = .ok (.getfield 69, 3) := by decide +kernel
theorem dX8_laysElements_71 : decode cX8_laysElements 71 = .ok (.iload_n 1, 1) := by decide +kernel
theorem dX8_laysElements_72 : decode cX8_laysElements 72 = .ok (.iconst (-1), 1) := by decide +kernel
theorem dX8_laysElements_73 : decode cX8_laysElements 73 = .ok (.iastore, 1) := by decide +kernel
theorem dX8_laysElements_74 : decode cX8_laysElements 74 = .ok (.aload_n 0, 1) := by decide +kernel
theorem dX8_laysElements_75 : decode cX8_laysElements 75 = .ok (.getfield 75, 3) := by decide +kernel
theorem dX8_laysElements_78 : decode cX8_laysElements 78 = .ok (.iload_n 1, 1) := by decide +kernel
theorem dX8_laysElements_79 : decode cX8_laysElements 79 = .ok (.iload_n 1, 1) := by decide +kernel
theorem dX8_laysElements_80 : decode cX8_laysElements 80 = .ok (.iastore, 1) := by decide +kernel
theorem dX8_laysElements_81 : decode cX8_laysElements 81 = .ok (.aload_n 0, 1) := by decide +kernel
theorem dX8_laysElements_82 : decode cX8_laysElements 82 = .ok (.iload_n 1, 1) := by decide +kernel
theorem dX8_laysElements_83 : decode cX8_laysElements 83 = .ok (.invokevirtual 247, 3) := by decide +kernel
theorem dX8_laysElements_86 : decode cX8_laysElements 86 = .ok (.istore_n 2, 1) := by decide +kernel
theorem dX8_laysElements_87 : decode cX8_laysElements 87 = .ok (.iconst 0, 1) := by decide +kernel
theorem dX8_laysElements_88 : decode cX8_laysElements 88 = .ok (.istore_n 3, 1) := by decide +kernel
theorem dX8_laysElements_89 : decode cX8_laysElements 89 = .ok (.iload_n 3, 1) := by decide +kernel
theorem dX8_laysElements_90 : decode cX8_laysElements 90 = .ok (.iload_n 2, 1) := by decide +kernel
theorem dX8_laysElements_91 : decode cX8_laysElements 91 = .ok (.if_icmp .ge 52, 3) := by decide +kernel
theorem dX8_laysElements_94 : decode cX8_laysElements 94 = .ok (.aload_n 0, 1) := by decide +kernel
theorem dX8_laysElements_95 : decode cX8_laysElements 95 = .ok (.getfield 63, 3) := by decide +kernel
theorem dX8_laysElements_98 : decode cX8_laysElements 98 = .ok (.bipush 15, 2) := by decide +kernel
theorem dX8_laysElements_100 : decode cX8_laysElements 100 = .ok (.iload_n 1, 1) := by decide +kernel
theorem dX8_laysElements_101 : decode cX8_laysElements 101 = .ok (.imul, 1) := by decide +kernel
theorem dX8_laysElements_102 : decode cX8_laysElements 102 = .ok (.iload_n 3, 1) := by decide +kernel
theorem dX8_laysElements_103 : decode cX8_laysElements 103 = .ok (.iadd, 1) := by decide +kernel
theorem dX8_laysElements_104 : decode cX8_laysElements 104 = .ok (.aload_n 0, 1) := by decide +kernel
theorem dX8_laysElements_105 : decode cX8_laysElements 105 = .ok (.iload_n 1, 1) := by decide +kernel
theorem dX8_laysElements_106 : decode cX8_laysElements 106 = .ok (.iload_n 3, 1) := by decide +kernel
theorem dX8_laysElements_107 : decode cX8_laysElements 107 = .ok (.invokevirtual 125, 3) := by decide +kernel
theorem dX8_laysElements_110 : decode cX8_laysElements 110 = .ok (.iastore, 1) := by decide +kernel
theorem dX8_laysElements_111 : decode cX8_laysElements 111 = .ok (.aload_n 0, 1) := by decide +kernel
theorem dX8_laysElements_112 : decode cX8_laysElements 112 = .ok (.getfield 66, 3) := by decide +kernel
theorem dX8_laysElements_115 : decode cX8_laysElements 115 = .ok (.bipush 15, 2) := by decide +kernel
theorem dX8_laysElements_117 : decode cX8_laysElements 117 = .ok (.iload_n 1, 1) := by decide +kernel
theorem dX8_laysElements_118 : decode cX8_laysElements 118 = .ok (.imul, 1) := by decide +kernel
theorem dX8_laysElements_119 : decode cX8_laysElements 119 = .ok (.iload_n 3, 1) := by decide +kernel
theorem dX8_laysElements_120 : decode cX8_laysElements 120 = .ok (.iadd, 1) := by decide +kernel
theorem dX8_laysElements_121 : decode cX8_laysElements 121 = .ok (.aload_n 0, 1) := by decide +kernel
theorem dX8_laysElements_122 : decode cX8_laysElements 122 = .ok (.iload_n 1, 1) := by decide +kernel
theorem dX8_laysElements_123 : decode cX8_laysElements 123 = .ok (.aload_n 0, 1) := by decide +kernel
theorem dX8_laysElements_124 : decode cX8_laysElements 124 = .ok (.getfield 17, 3) := by decide +kernel
theorem dX8_laysElements_127 : decode cX8_laysElements 127 = .ok (.iload_n 1, 1) := by decide +kernel
theorem dX8_laysElements_128 : decode cX8_laysElements 128 = .ok (.iaload, 1) := by decide +kernel
theorem dX8_laysElements_129 : decode cX8_laysElements 129 = .ok (.iload_n 2, 1) := by decide +kernel
theorem dX8_laysElements_130 : decode cX8_laysElements 130 = .ok (.isub, 1) := by decide +kernel
theorem dX8_laysElements_131 : decode cX8_laysElements 131 = .ok (.iload_n 3, 1) := by decide +kernel
theorem dX8_laysElements_132 : decode cX8_laysElements 132 = .ok (.iadd, 1) := by decide +kernel
theorem dX8_laysElements_133 : decode cX8_laysElements 133 = .ok (.invokevirtual 125, 3) := by decide +kernel
theorem dX8_laysElements_136 : decode cX8_laysElements 136 = .ok (.iastore, 1) := by decide +kernel
theorem dX8_laysElements_137 : decode cX8_laysElements 137 = .ok (.iinc 3 1, 3) := by decide +kernel
theorem dX8_laysElements_140 : decode cX8_laysElements 140 = .ok (.goto (-51), 3) := by decide +kernel
theorem dX8_laysElements_143 : decode cX8_laysElements 143 = .ok (.iinc 1 1, 3) := by decide +kernel
theorem dX8_laysElements_146 : decode cX8_laysElements 146 = .ok (.goto (-139), 3) := by decide +kernel
theorem dX8_laysElements_149 : decode cX8_laysElements 149 = .ok (.return_, 1) := by decide +kernel
set_option maxRecDepth 20000 in
theorem ggX8_overlap_X8_fitsBy : GoodIn wsX8_overlap wsX8_fitsBy := goodIn_r _ [6, 7, 8, 9, 10, 11, 5, 12, 1, 13, 14, 15, 16, 17, 18, 19, 20, 21, 22, 23, 24, 25, 26, 27, 28, 29, 30, 31, 32, 33, 34, 35, 36, 37, 38, 39, 40, 41, 42, 43, 44, 45, 46, 47, 48, 49, 50, 51, 52, 53, 54, 55, 56, 57, 58, 59, 60, 61, 62, 63, 64, 65, 66, 67, 68] (by decide +kernel) (by decide +kernel)
set_option maxRecDepth 20000 in
theorem gX8_overlap_X8_fitsBy : GoodIn wsX8_overlap (wsV RX8 250 RX8 yX8_fitsBy wsX8_fitsBy) := goodIn_app (goodIn_of _ (by decide +kernel)) ggX8_overlap_X8_fitsBy
theorem dX8_overlap_0 : decode cX8_overlap 0 = .ok (.aload_n 0, 1) := by decide +kernel
theorem dX8_overlap_1 : decode cX8_overlap 1 = .ok (.getfield 60, 3) := by decide +kernel
theorem dX8_overlap_4 : decode cX8_overlap 4 = .ok (.iload_n 1, 1) := by decide +kernel
theorem dX8_overlap_5 : decode cX8_overlap 5 = .ok (.iaload, 1) := by decide +kernel
theorem dX8_overlap_6 : decode cX8_overlap 6 = .ok (.aload_n 0, 1) := by decide +kernel
theorem dX8_overlap_7 : decode cX8_overlap 7 = .ok (.getfield 60, 3) := by decide +kernel
theorem dX8_overlap_10 : decode cX8_overlap 10 = .ok (.iload_n 2, 1) := by decide +kernel
theorem dX8_overlap_11 : decode cX8_overlap 11 = .ok (.iaload, 1) := by decide +kernel
theorem dX8_overlap_12 : decode cX8_overlap 12 = .ok (.if_icmp .ge 14, 3) := by decide +kernel
theorem dX8_overlap_15 : decode cX8_overlap 15 = .ok (.aload_n 0, 1) := by decide +kernel
theorem dX8_overlap_16 : decode cX8_overlap 16 = .ok (.getfield 60, 3) := by decide +kernel
theorem dX8_overlap_19 : decode cX8_overlap 19 = .ok (.iload_n 1, 1) := by decide +kernel
theorem dX8_overlap_20 : decode cX8_overlap 20 = .ok (.iaload, 1) := by decide +kernel
theorem dX8_overlap_21 : decode cX8_overlap 21 = .ok (.iconst 1, 1) := by decide +kernel
theorem dX8_overlap_22 : decode cX8_overlap 22 = .ok (.isub, 1) := by decide +kernel
theorem dX8_overlap_23 : decode cX8_overlap 23 = .ok (.goto 11, 3) := by decide +kernel
theorem dX8_overlap_26 : decode cX8_overlap 26 = .ok (.aload_n 0, 1) := by decide +kernel
theorem dX8_overlap_27 : decode cX8_overlap 27 = .ok (.getfield 60, 3) := by decide +kernel
theorem dX8_overlap_30 : decode cX8_overlap 30 = .ok (.iload_n 2, 1) := by decide +kernel
theorem dX8_overlap_31 : decode cX8_overlap 31 = .ok (.iaload, 1) := by decide +kernel
theorem dX8_overlap_32 : decode cX8_overlap 32 = .ok (.iconst 1, 1) := by decide +kernel
theorem dX8_overlap_33 : decode cX8_overlap 33 = .ok (.isub, 1) := by decide +kernel
theorem dX8_overlap_34 : decode cX8_overlap 34 = .ok (.istore_n 3, 1) := by decide +kernel
theorem dX8_overlap_35 : decode cX8_overlap 35 = .ok (.iload_n 3, 1) := by decide +kernel
theorem dX8_overlap_36 : decode cX8_overlap 36 = .ok (.bipush 15, 2) := by decide +kernel
theorem dX8_overlap_38 : decode cX8_overlap 38 = .ok (.if_icmp .le 8, 3) := by decide +kernel
theorem dX8_overlap_41 : decode cX8_overlap 41 = .ok (.bipush 15, 2) := by decide +kernel
theorem dX8_overlap_43 : decode cX8_overlap 43 = .ok (.goto 4, 3) := by decide +kernel
theorem dX8_overlap_46 : decode cX8_overlap 46 = .ok (.iload_n 3, 1) := by decide +kernel
theorem dX8_overlap_47 : decode cX8_overlap 47 = .ok (.istore_n 3, 1) := by decide +kernel
theorem dX8_overlap_48 : decode cX8_overlap 48 = .ok (.iload_n 3, 1) := by decide +kernel
theorem dX8_overlap_49 : decode cX8_overlap 49 = .ok (.ifCond .le 19, 3) := by decide +kernel
theorem dX8_overlap_52 : decode cX8_overlap 52 = .ok (.aload_n 0, 1) := by decide +kernel
theorem dX8_overlap_53 : decode cX8_overlap 53 = .ok (.iload_n 1, 1) := by decide +kernel
theorem dX8_overlap_54 : decode cX8_overlap 54 = .ok (.iload_n 2, 1) := by decide +kernel
theorem dX8_overlap_55 : decode cX8_overlap 55 = .ok (.iload_n 3, 1) := by decide +kernel
theorem dX8_overlap_56 : decode cX8_overlap 56 = .ok (.invokevirtual 250, 3) := by decide +kernel
theorem dX8_overlap_59 : decode cX8_overlap 59 = .ok (.ifCond .ne 9, 3) := by decide +kernel
theorem dX8_overlap_62 : decode cX8_overlap 62 = .ok (.iinc 3 (-1), 3) := by decide +kernel
theorem dX8_overlap_65 : decode cX8_overlap 65 = .ok (.goto (-17), 3) := by decide +kernel
theorem dX8_overlap_68 : decode cX8_overlap 68 = .ok (.iload_n 3, 1) := by decide +kernel
theorem dX8_overlap_69 : decode cX8_overlap 69 = .ok (.ireturn, 1) := by decide +kernel
set_option maxRecDepth 20000 in
theorem ggX8_fitsBy_X8_edgeOf : GoodIn wsX8_fitsBy wsX8_edgeOf := goodIn_r _ [7, 8, 23, 24, 25, 26, 27, 28, 29, 30, 31, 32, 33, 34, 35, 36, 37, 38, 39, 40, 41, 42, 43, 44, 45, 46, 47, 48, 49, 50, 51, 52, 53, 54, 55, 56, 57, 58, 59, 60, 61, 62, 63, 64] (by decide +kernel) (by decide +kernel)
set_option maxRecDepth 20000 in
theorem gX8_fitsBy_X8_edgeOf : GoodIn wsX8_fitsBy (wsV RX8 247 RX8 yX8_edgeOf wsX8_edgeOf) := goodIn_app (goodIn_of _ (by decide +kernel)) ggX8_fitsBy_X8_edgeOf
set_option maxRecDepth 20000 in
theorem ggX8_fitsBy_X8_like : GoodIn wsX8_fitsBy wsX8_like := goodIn_r _ [12, 13, 14, 15, 6, 16, 17, 18, 19, 20, 21, 22, 23, 24, 25, 26, 27, 28, 29, 30, 31, 32, 33, 34, 35, 36, 37, 38, 39, 40, 41, 42, 43, 44, 45, 46, 47, 48, 49, 50, 51, 52, 53, 54, 55, 56, 57, 58, 59, 60, 61, 62, 63, 64] (by decide +kernel) (by decide +kernel)
set_option maxRecDepth 20000 in
theorem gX8_fitsBy_X8_like : GoodIn wsX8_fitsBy (wsV RX8 129 RX8 yX8_like wsX8_like) := goodIn_app (goodIn_of _ (by decide +kernel)) ggX8_fitsBy_X8_like
theorem dX8_fitsBy_0 : decode cX8_fitsBy 0 = .ok (.bipush 15, 2) := by decide +kernel
theorem dX8_fitsBy_2 : decode cX8_fitsBy 2 = .ok (.iload_n 1, 1) := by decide +kernel
theorem dX8_fitsBy_3 : decode cX8_fitsBy 3 = .ok (.imul, 1) := by decide +kernel
theorem dX8_fitsBy_4 : decode cX8_fitsBy 4 = .ok (.aload_n 0, 1) := by decide +kernel
theorem dX8_fitsBy_5 : decode cX8_fitsBy 5 = .ok (.iload_n 1, 1) := by decide +kernel
theorem dX8_fitsBy_6 : decode cX8_fitsBy 6 = .ok (.invokevirtual 247, 3) := by decide +kernel
theorem dX8_fitsBy_9 : decode cX8_fitsBy 9 = .ok (.iadd, 1) := by decide +kernel
theorem dX8_fitsBy_10 : decode cX8_fitsBy 10 = .ok (.iload_n 3, 1) := by decide +kernel
theorem dX8_fitsBy_11 : decode cX8_fitsBy 11 = .ok (.isub, 1) := by decide +kernel
theorem dX8_fitsBy_12 : decode cX8_fitsBy 12 = .ok (.istore 4, 2) := by decide +kernel
theorem dX8_fitsBy_14 : decode cX8_fitsBy 14 = .ok (.iconst 0, 1) := by decide +kernel
theorem dX8_fitsBy_15 : decode cX8_fitsBy 15 = .ok (.istore 5, 2) := by decide +kernel
theorem dX8_fitsBy_17 : decode cX8_fitsBy 17 = .ok (.iload 5, 2) := by decide +kernel
theorem dX8_fitsBy_19 : decode cX8_fitsBy 19 = .ok (.iload_n 3, 1) := by decide +kernel
theorem dX8_fitsBy_20 : decode cX8_fitsBy 20 = .ok (.if_icmp .ge 40, 3) := by decide +kernel
theorem dX8_fitsBy_23 : decode cX8_fitsBy 23 = .ok (.aload_n 0, 1) := by decide +kernel
theorem dX8_fitsBy_24 : decode cX8_fitsBy 24 = .ok (.aload_n 0, 1) := by decide +kernel
theorem dX8_fitsBy_25 : decode cX8_fitsBy 25 = .ok (.getfield 66, 3) := by decide +kernel
theorem dX8_fitsBy_28 : decode cX8_fitsBy 28 = .ok (.iload 4, 2) := by decide +kernel
theorem dX8_fitsBy_30 : decode cX8_fitsBy 30 = .ok (.iload 5, 2) := by decide +kernel
theorem dX8_fitsBy_32 : decode cX8_fitsBy 32 = .ok (.iadd, 1) := by decide +kernel
theorem dX8_fitsBy_33 : decode cX8_fitsBy 33 = .ok (.iaload, 1) := by decide +kernel
theorem dX8_fitsBy_34 : decode cX8_fitsBy 34 = .ok (.aload_n 0, 1) := by decide +kernel
theorem dX8_fitsBy_35 : decode cX8_fitsBy 35 = .ok (.getfield 63, 3) := by decide +kernel
theorem dX8_fitsBy_38 : decode cX8_fitsBy 38 = .ok (.bipush 15, 2) := by decide +kernel
theorem dX8_fitsBy_40 : decode cX8_fitsBy 40 = .ok (.iload_n 2, 1) := by decide +kernel
theorem dX8_fitsBy_41 : decode cX8_fitsBy 41 = .ok (.imul, 1) := by decide +kernel
theorem dX8_fitsBy_42 : decode cX8_fitsBy 42 = .ok (.iload 5, 2) := by decide +kernel
theorem dX8_fitsBy_44 : decode cX8_fitsBy 44 = .ok (.iadd, 1) := by decide +kernel
theorem dX8_fitsBy_45 : decode cX8_fitsBy 45 = .ok (.iaload, 1) := by decide +kernel
theorem dX8_fitsBy_46 : decode cX8_fitsBy 46 = .ok (.invokevirtual 129, 3) := by decide +kernel
theorem dX8_fitsBy_49 : decode cX8_fitsBy 49 = .ok (.ifCond .ne 5, 3) := by decide +kernel
theorem dX8_fitsBy_52 : decode cX8_fitsBy 52 = .ok (.iconst 0, 1) := by decide +kernel
theorem dX8_fitsBy_53 : decode cX8_fitsBy 53 = .ok (.ireturn, 1) := by decide +kernel
theorem dX8_fitsBy_54 : decode cX8_fitsBy 54 = .ok (.iinc 5 1, 3) := by decide +kernel
theorem dX8_fitsBy_57 : decode cX8_fitsBy 57 = .ok (.goto (-40), 3) := by decide +kernel
theorem dX8_fitsBy_60 : decode cX8_fitsBy 60 = .ok (.iconst 1, 1) := by decide +kernel
theorem dX8_fitsBy_61 : decode cX8_fitsBy 61 = .ok (.ireturn, 1) := by decide +kernel
set_option maxRecDepth 20000 in
theorem ggX8_joins_X8_edgeOf : GoodIn wsX8_joins wsX8_edgeOf := goodIn_r _ [12, 1, 13, 14, 15, 16, 17, 18, 19, 20, 21, 22, 23, 24, 25, 26, 27, 28, 29, 30, 31, 32, 33, 34, 35, 36, 37, 38, 39, 40, 41, 42, 43, 44, 45, 46, 47, 48, 49, 50, 51, 52, 53, 54] (by decide +kernel) (by decide +kernel)
set_option maxRecDepth 20000 in
theorem gX8_joins_X8_edgeOf : GoodIn wsX8_joins (wsV RX8 247 RX8 yX8_edgeOf wsX8_edgeOf) := goodIn_app (goodIn_of _ (by decide +kernel)) ggX8_joins_X8_edgeOf
theorem dX8_joins_0 : decode cX8_joins 0 = .ok (.aload_n 0, 1) := by decide +kernel
theorem dX8_joins_1 : decode cX8_joins 1 = .ok (.iload_n 1, 1) := by decide +kernel
theorem dX8_joins_2 : decode cX8_joins 2 = .ok (.invokevirtual 247, 3) := by decide +kernel
theorem dX8_joins_5 : decode cX8_joins 5 = .ok (.istore 4, 2) := by decide +kernel
theorem dX8_joins_7 : decode cX8_joins 7 = .ok (.aload_n 0, 1) := by decide +kernel
theorem dX8_joins_8 : decode cX8_joins 8 = .ok (.iload_n 2, 1) := by decide +kernel
theorem dX8_joins_9 : decode cX8_joins 9 = .ok (.invokevirtual 247, 3) := by decide +kernel
theorem dX8_joins_12 : decode cX8_joins 12 = .ok (.istore 5, 2) := by decide +kernel
theorem dX8_joins_14 : decode cX8_joins 14 = .ok (.iload 4, 2) := by decide +kernel
theorem dX8_joins_16 : decode cX8_joins 16 = .ok (.istore 6, 2) := by decide +kernel
theorem dX8_joins_18 : decode cX8_joins 18 = .ok (.iload 6, 2) := by decide +kernel
theorem dX8_joins_20 : decode cX8_joins 20 = .ok (.bipush 15, 2) := by decide +kernel
theorem dX8_joins_22 : decode cX8_joins 22 = .ok (.if_icmp .ge 61, 3) := by decide +kernel
theorem dX8_joins_25 : decode cX8_joins 25 = .ok (.iload 6, 2) := by decide +kernel
theorem dX8_joins_27 : decode cX8_joins 27 = .ok (.iload 4, 2) := by decide +kernel
theorem dX8_joins_29 : decode cX8_joins 29 = .ok (.isub, 1) := by decide +kernel
theorem dX8_joins_30 : decode cX8_joins 30 = .ok (.iload_n 3, 1) := by decide +kernel
theorem dX8_joins_31 : decode cX8_joins 31 = .ok (.iadd, 1) := by decide +kernel
theorem dX8_joins_32 : decode cX8_joins 32 = .ok (.iload 5, 2) := by decide +kernel
theorem dX8_joins_34 : decode cX8_joins 34 = .ok (.if_icmp .ge 49, 3) := by decide +kernel
theorem dX8_joins_37 : decode cX8_joins 37 = .ok (.aload_n 0, 1) := by decide +kernel
theorem dX8_joins_38 : decode cX8_joins 38 = .ok (.getfield 60, 3) := by decide +kernel
theorem dX8_joins_41 : decode cX8_joins 41 = .ok (.iload_n 1, 1) := by decide +kernel
theorem dX8_joins_42 : decode cX8_joins 42 = .ok (.iaload, 1) := by decide +kernel
theorem dX8_joins_43 : decode cX8_joins 43 = .ok (.bipush 15, 2) := by decide +kernel
theorem dX8_joins_45 : decode cX8_joins 45 = .ok (.if_icmp .ge 38, 3) := by decide +kernel
theorem dX8_joins_48 : decode cX8_joins 48 = .ok (.aload_n 0, 1) := by decide +kernel
theorem dX8_joins_49 : decode cX8_joins 49 = .ok (.getfield 63, 3) := by decide +kernel
theorem dX8_joins_52 : decode cX8_joins 52 = .ok (.bipush 15, 2) := by decide +kernel
theorem dX8_joins_54 : decode cX8_joins 54 = .ok (.iload_n 1, 1) := by decide +kernel
theorem dX8_joins_55 : decode cX8_joins 55 = .ok (.imul, 1) := by decide +kernel
theorem dX8_joins_56 : decode cX8_joins 56 = .ok (.iload 6, 2) := by decide +kernel
theorem dX8_joins_58 : decode cX8_joins 58 = .ok (.iadd, 1) := by decide +kernel
theorem dX8_joins_59 : decode cX8_joins 59 = .ok (.aload_n 0, 1) := by decide +kernel
theorem dX8_joins_60 : decode cX8_joins 60 = .ok (.getfield 63, 3) := by decide +kernel
theorem dX8_joins_63 : decode cX8_joins 63 = .ok (.bipush 15, 2) := by decide +kernel
theorem dX8_joins_65 : decode cX8_joins 65 = .ok (.iload_n 2, 1) := by decide +kernel
theorem dX8_joins_66 : decode cX8_joins 66 = .ok (.imul, 1) := by decide +kernel
theorem dX8_joins_67 : decode cX8_joins 67 = .ok (.iload 6, 2) := by decide +kernel
theorem dX8_joins_69 : decode cX8_joins 69 = .ok (.iadd, 1) := by decide +kernel
theorem dX8_joins_70 : decode cX8_joins 70 = .ok (.iload 4, 2) := by decide +kernel
theorem dX8_joins_72 : decode cX8_joins 72 = .ok (.isub, 1) := by decide +kernel
theorem dX8_joins_73 : decode cX8_joins 73 = .ok (.iload_n 3, 1) := by decide +kernel
theorem dX8_joins_74 : decode cX8_joins 74 = .ok (.iadd, 1) := by decide +kernel
theorem dX8_joins_75 : decode cX8_joins 75 = .ok (.iaload, 1) := by decide +kernel
theorem dX8_joins_76 : decode cX8_joins 76 = .ok (.iastore, 1) := by decide +kernel
theorem dX8_joins_77 : decode cX8_joins 77 = .ok (.iinc 6 1, 3) := by decide +kernel
theorem dX8_joins_80 : decode cX8_joins 80 = .ok (.goto (-62), 3) := by decide +kernel
theorem dX8_joins_83 : decode cX8_joins 83 = .ok (.aload_n 0, 1) := by decide +kernel
theorem dX8_joins_84 : decode cX8_joins 84 = .ok (.getfield 60, 3) := by decide +kernel
theorem dX8_joins_87 : decode cX8_joins 87 = .ok (.iload_n 2, 1) := by decide +kernel
theorem dX8_joins_88 : decode cX8_joins 88 = .ok (.iaload, 1) := by decide +kernel
theorem dX8_joins_89 : decode cX8_joins 89 = .ok (.iload_n 3, 1) := by decide +kernel
theorem dX8_joins_90 : decode cX8_joins 90 = .ok (.isub, 1) := by decide +kernel
theorem dX8_joins_91 : decode cX8_joins 91 = .ok (.istore 6, 2) := by decide +kernel
theorem dX8_joins_93 : decode cX8_joins 93 = .ok (.iload 6, 2) := by decide +kernel
theorem dX8_joins_95 : decode cX8_joins 95 = .ok (.iload 5, 2) := by decide +kernel
theorem dX8_joins_97 : decode cX8_joins 97 = .ok (.if_icmp .ge 8, 3) := by decide +kernel
theorem dX8_joins_100 : decode cX8_joins 100 = .ok (.iload 6, 2) := by decide +kernel
theorem dX8_joins_102 : decode cX8_joins 102 = .ok (.goto 5, 3) := by decide +kernel
theorem dX8_joins_105 : decode cX8_joins 105 = .ok (.iload 5, 2) := by decide +kernel
theorem dX8_joins_107 : decode cX8_joins 107 = .ok (.istore 7, 2) := by decide +kernel
theorem dX8_joins_109 : decode cX8_joins 109 = .ok (.iconst 0, 1) := by decide +kernel
theorem dX8_joins_110 : decode cX8_joins 110 = .ok (.istore 8, 2) := by decide +kernel
theorem dX8_joins_112 : decode cX8_joins 112 = .ok (.iload 8, 2) := by decide +kernel
theorem dX8_joins_114 : decode cX8_joins 114 = .ok (.iload 4, 2) := by decide +kernel
theorem dX8_joins_116 : decode cX8_joins 116 = .ok (.if_icmp .ge 28, 3) := by decide +kernel
theorem dX8_joins_119 : decode cX8_joins 119 = .ok (.aload_n 0, 1) := by decide +kernel
theorem dX8_joins_120 : decode cX8_joins 120 = .ok (.getfield 81, 3) := by decide +kernel
theorem dX8_joins_123 : decode cX8_joins 123 = .ok (.iload 8, 2) := by decide +kernel
theorem dX8_joins_125 : decode cX8_joins 125 = .ok (.aload_n 0, 1) := by decide +kernel
theorem dX8_joins_126 : decode cX8_joins 126 = .ok (.getfield 66, 3) := by decide +kernel
theorem dX8_joins_129 : decode cX8_joins 129 = .ok (.bipush 15, 2) := by decide +kernel
theorem dX8_joins_131 : decode cX8_joins 131 = .ok (.iload_n 1, 1) := by decide +kernel
theorem dX8_joins_132 : decode cX8_joins 132 = .ok (.imul, 1) := by decide +kernel
theorem dX8_joins_133 : decode cX8_joins 133 = .ok (.iload 8, 2) := by decide +kernel
theorem dX8_joins_135 : decode cX8_joins 135 = .ok (.iadd, 1) := by decide +kernel
theorem dX8_joins_136 : decode cX8_joins 136 = .ok (.iaload, 1) := by decide +kernel
theorem dX8_joins_137 : decode cX8_joins 137 = .ok (.iastore, 1) := by decide +kernel
theorem dX8_joins_138 : decode cX8_joins 138 = .ok (.iinc 8 1, 3) := by decide +kernel
theorem dX8_joins_141 : decode cX8_joins 141 = .ok (.goto (-29), 3) := by decide +kernel
theorem dX8_joins_144 : decode cX8_joins 144 = .ok (.iconst 0, 1) := by decide +kernel
theorem dX8_joins_145 : decode cX8_joins 145 = .ok (.istore 8, 2) := by decide +kernel
theorem dX8_joins_147 : decode cX8_joins 147 = .ok (.iload 8, 2) := by decide +kernel
theorem dX8_joins_149 : decode cX8_joins 149 = .ok (.iload 7, 2) := by decide +kernel
theorem dX8_joins_151 : decode cX8_joins 151 = .ok (.if_icmp .ge 37, 3) := by decide +kernel
theorem dX8_joins_154 : decode cX8_joins 154 = .ok (.aload_n 0, 1) := by decide +kernel
theorem dX8_joins_155 : decode cX8_joins 155 = .ok (.getfield 81, 3) := by decide +kernel
theorem dX8_joins_158 : decode cX8_joins 158 = .ok (.iload 4, 2) := by decide +kernel
theorem dX8_joins_160 : decode cX8_joins 160 = .ok (.iload 8, 2) := by decide +kernel
theorem dX8_joins_162 : decode cX8_joins 162 = .ok (.iadd, 1) := by decide +kernel
theorem dX8_joins_163 : decode cX8_joins 163 = .ok (.aload_n 0, 1) := by decide +kernel
theorem dX8_joins_164 : decode cX8_joins 164 = .ok (.getfield 66, 3) := by decide +kernel
theorem dX8_joins_167 : decode cX8_joins 167 = .ok (.bipush 15, 2) := by decide +kernel
theorem dX8_joins_169 : decode cX8_joins 169 = .ok (.iload_n 2, 1) := by decide +kernel
theorem dX8_joins_170 : decode cX8_joins 170 = .ok (.imul, 1) := by decide +kernel
theorem dX8_joins_171 : decode cX8_joins 171 = .ok (.iload 5, 2) := by decide +kernel
theorem dX8_joins_173 : decode cX8_joins 173 = .ok (.iadd, 1) := by decide +kernel
theorem dX8_joins_174 : decode cX8_joins 174 = .ok (.iload 7, 2) := by decide +kernel
theorem dX8_joins_176 : decode cX8_joins 176 = .ok (.isub, 1) := by decide +kernel
theorem dX8_joins_177 : decode cX8_joins 177 = .ok (.iload 8, 2) := by decide +kernel
theorem dX8_joins_179 : decode cX8_joins 179 = .ok (.iadd, 1) := by decide +kernel
theorem dX8_joins_180 : decode cX8_joins 180 = .ok (.iaload, 1) := by decide +kernel
theorem dX8_joins_181 : decode cX8_joins 181 = .ok (.iastore, 1) := by decide +kernel
theorem dX8_joins_182 : decode cX8_joins 182 = .ok (.iinc 8 1, 3) := by decide +kernel
theorem dX8_joins_185 : decode cX8_joins 185 = .ok (.goto (-38), 3) := by decide +kernel
theorem dX8_joins_188 : decode cX8_joins 188 = .ok (.aload_n 0, 1) := by decide +kernel
theorem dX8_joins_189 : decode cX8_joins 189 = .ok (.getfield 60, 3) := by decide +kernel
theorem dX8_joins_192 : decode cX8_joins 192 = .ok (.iload_n 1, 1) := by decide +kernel
theorem dX8_joins_193 : decode cX8_joins 193 = .ok (.dup2, 1) := by decide +kernel
theorem dX8_joins_194 : decode cX8_joins 194 = .ok (.iaload, 1) := by decide +kernel
theorem dX8_joins_195 : decode cX8_joins 195 = .ok (.iload 6, 2) := by decide +kernel
theorem dX8_joins_197 : decode cX8_joins 197 = .ok (.iadd, 1) := by decide +kernel
theorem dX8_joins_198 : decode cX8_joins 198 = .ok (.iastore, 1) := by decide +kernel
theorem dX8_joins_199 : decode cX8_joins 199 = .ok (.aload_n 0, 1) := by decide +kernel
theorem dX8_joins_200 : decode cX8_joins 200 = .ok (.iload_n 1, 1) := by decide +kernel
theorem dX8_joins_201 : decode cX8_joins 201 = .ok (.invokevirtual 247, 3) := by decide +kernel
theorem dX8_joins_204 : decode cX8_joins 204 = .ok (.istore 8, 2) := by decide +kernel
theorem dX8_joins_206 : decode cX8_joins 206 = .ok (.iconst 0, 1) := by decide +kernel
theorem dX8_joins_207 : decode cX8_joins 207 = .ok (.istore 9, 2) := by decide +kernel
theorem dX8_joins_209 : decode cX8_joins 209 = .ok (.iload 9, 2) := by decide +kernel
theorem dX8_joins_211 : decode cX8_joins 211 = .ok (.iload 8, 2) := by decide +kernel
theorem dX8_joins_213 : decode cX8_joins 213 = .ok (.if_icmp .ge 37, 3) := by decide +kernel
theorem dX8_joins_216 : decode cX8_joins 216 = .ok (.aload_n 0, 1) := by decide +kernel
theorem dX8_joins_217 : decode cX8_joins 217 = .ok (.getfield 66, 3) := by decide +kernel
theorem dX8_joins_220 : decode cX8_joins 220 = .ok (.bipush 15, 2) := by decide +kernel
theorem dX8_joins_222 : decode cX8_joins 222 = .ok (.iload_n 1, 1) := by decide +kernel
theorem dX8_joins_223 : decode cX8_joins 223 = .ok (.imul, 1) := by decide +kernel
theorem dX8_joins_224 : decode cX8_joins 224 = .ok (.iload 9, 2) := by decide +kernel
theorem dX8_joins_226 : decode cX8_joins 226 = .ok (.iadd, 1) := by decide +kernel
theorem dX8_joins_227 : decode cX8_joins 227 = .ok (.aload_n 0, 1) := by decide +kernel
theorem dX8_joins_228 : decode cX8_joins 228 = .ok (.getfield 81, 3) := by decide +kernel
theorem dX8_joins_231 : decode cX8_joins 231 = .ok (.iload 4, 2) := by decide +kernel
theorem dX8_joins_233 : decode cX8_joins 233 = .ok (.iload 7, 2) := by decide +kernel
theorem dX8_joins_235 : decode cX8_joins 235 = .ok (.iadd, 1) := by decide +kernel
theorem dX8_joins_236 : decode cX8_joins 236 = .ok (.iload 8, 2) := by decide +kernel
theorem dX8_joins_238 : decode cX8_joins 238 = .ok (.isub, 1) := by decide +kernel
theorem dX8_joins_239 : decode cX8_joins 239 = .ok (.iload 9, 2) := by decide +kernel
theorem dX8_joins_241 : decode cX8_joins 241 = .ok (.iadd, 1) := by decide +kernel
theorem dX8_joins_242 : decode cX8_joins 242 = .ok (.iaload, 1) := by decide +kernel
theorem dX8_joins_243 : decode cX8_joins 243 = .ok (.iastore, 1) := by decide +kernel
theorem dX8_joins_244 : decode cX8_joins 244 = .ok (.iinc 9 1, 3) := by decide +kernel
theorem dX8_joins_247 : decode cX8_joins 247 = .ok (.goto (-38), 3) := by decide +kernel
theorem dX8_joins_250 : decode cX8_joins 250 = .ok (.aload_n 0, 1) := by decide +kernel
theorem dX8_joins_251 : decode cX8_joins 251 = .ok (.getfield 69, 3) := by decide +kernel
theorem dX8_joins_254 : decode cX8_joins 254 = .ok (.aload_n 0, 1) := by decide +kernel
theorem dX8_joins_255 : decode cX8_joins 255 = .ok (.getfield 75, 3) := by decide +kernel
theorem dX8_joins_258 : decode cX8_joins 258 = .ok (.iload_n 1, 1) := by decide +kernel
theorem dX8_joins_259 : decode cX8_joins 259 = .ok (.iaload, 1) := by decide +kernel
theorem dX8_joins_260 : decode cX8_joins 260 = .ok (.iload_n 2, 1) := by decide +kernel
theorem dX8_joins_261 : decode cX8_joins 261 = .ok (.iastore, 1) := by decide +kernel
theorem dX8_joins_262 : decode cX8_joins 262 = .ok (.aload_n 0, 1) := by decide +kernel
theorem dX8_joins_263 : decode cX8_joins 263 = .ok (.getfield 72, 3) := by decide +kernel
theorem dX8_joins_266 : decode cX8_joins 266 = .ok (.iload_n 2, 1) := by decide +kernel
theorem dX8_joins_267 : decode cX8_joins 267 = .ok (.iload_n 3, 1) := by decide +kernel
theorem dX8_joins_268 : decode cX8_joins 268 = .ok (.iastore, 1) := by decide +kernel
theorem dX8_joins_269 : decode cX8_joins 269 = .ok (.aload_n 0, 1) := by decide +kernel
theorem dX8_joins_270 : decode cX8_joins 270 = .ok (.getfield 75, 3) := by decide +kernel
theorem dX8_joins_273 : decode cX8_joins 273 = .ok (.iload_n 1, 1) := by decide +kernel
theorem dX8_joins_274 : decode cX8_joins 274 = .ok (.aload_n 0, 1) := by decide +kernel
theorem dX8_joins_275 : decode cX8_joins 275 = .ok (.getfield 75, 3) := by decide +kernel
theorem dX8_joins_278 : decode cX8_joins 278 = .ok (.iload_n 2, 1) := by decide +kernel
theorem dX8_joins_279 : decode cX8_joins 279 = .ok (.iaload, 1) := by decide +kernel
theorem dX8_joins_280 : decode cX8_joins 280 = .ok (.iastore, 1) := by decide +kernel
theorem dX8_joins_281 : decode cX8_joins 281 = .ok (.return_, 1) := by decide +kernel
set_option maxRecDepth 20000 in
theorem ggX8_joinsBest_X8_overlap : GoodIn wsX8_joinsBest wsX8_overlap := goodIn_r _ [7, 8, 9, 10, 11, 6, 12, 13, 14, 15, 16, 17, 18, 19, 20, 21, 22, 23, 24, 25, 26, 27, 28, 29, 30, 31, 32, 41, 42, 43, 44, 45, 46, 47, 48, 49, 50, 51, 52, 53, 54, 55, 56, 57, 58, 59, 60, 61, 62, 63, 64, 65, 66, 67, 68, 69, 70, 71, 72, 73, 74, 75, 76, 77, 78, 79, 80, 81, 82] (by decide +kernel) (by decide +kernel)
set_option maxRecDepth 20000 in
theorem gX8_joinsBest_X8_overlap : GoodIn wsX8_joinsBest (wsV RX8 253 RX8 yX8_overlap wsX8_overlap) := goodIn_app (goodIn_of _ (by decide +kernel)) ggX8_joinsBest_X8_overlap
set_option maxRecDepth 20000 in
theorem ggX8_joinsBest_X8_joins : GoodIn wsX8_joinsBest wsX8_joins := goodIn_r _ [36, 8, 14, 37, 13, 38, 39, 40, 15, 16, 17, 6, 18, 41, 42, 43, 44, 45, 46, 47, 48, 49, 50, 51, 52, 53, 54, 55, 56, 57, 58, 59, 60, 61, 62, 63, 64, 65, 66, 67, 68, 69, 70, 71, 72, 73, 74, 75, 76, 77, 78, 79, 80, 81, 82] (by decide +kernel) (by decide +kernel)
set_option maxRecDepth 20000 in
theorem gX8_joinsBest_X8_joins : GoodIn wsX8_joinsBest (wsV RX8 256 RX8 yX8_joins wsX8_joins) := goodIn_app (goodIn_of _ (by decide +kernel)) ggX8_joinsBest_X8_joins
theorem dX8_joinsBest_0 : decode cX8_joinsBest 0 = .ok (.iconst (-1), 1) := by decide +kernel
theorem dX8_joinsBest_1 : decode cX8_joinsBest 1 = .ok (.istore_n 1, 1) := by decide +kernel
theorem dX8_joinsBest_2 : decode cX8_joinsBest 2 = .ok (.iconst (-1), 1) := by decide +kernel
theorem dX8_joinsBest_3 : decode cX8_joinsBest 3 = .ok (.istore_n 2, 1) := by decide +kernel
theorem dX8_joinsBest_4 : decode cX8_joinsBest 4 = .ok (.iconst (-1), 1) := by decide +kernel
theorem dX8_joinsBest_5 : decode cX8_joinsBest 5 = .ok (.istore_n 3, 1) := by decide +kernel
theorem dX8_joinsBest_6 : decode cX8_joinsBest 6 = .ok (.iconst 0, 1) := by decide +kernel
theorem dX8_joinsBest_7 : decode cX8_joinsBest 7 = .ok (.istore 4, 2) := by decide +kernel
theorem dX8_joinsBest_9 : decode cX8_joinsBest 9 = .ok (.iload 4, 2) := by decide +kernel
theorem dX8_joinsBest_11 : decode cX8_joinsBest 11 = .ok (.aload_n 0, 1) := by decide +kernel
theorem dX8_joinsBest_12 : decode cX8_joinsBest 12 = .ok (.getfield 241, 3) := by decide +kernel
theorem dX8_joinsBest_15 : decode cX8_joinsBest 15 = .ok (.if_icmp .ge 76, 3) := by decide +kernel
theorem dX8_joinsBest_18 : decode cX8_joinsBest 18 = .ok (.iconst 0, 1) := by decide +kernel
theorem dX8_joinsBest_19 : decode cX8_joinsBest 19 = .ok (.istore 5, 2) := by decide +kernel
theorem dX8_joinsBest_21 : decode cX8_joinsBest 21 = .ok (.iload 5, 2) := by decide +kernel
theorem dX8_joinsBest_23 : decode cX8_joinsBest 23 = .ok (.aload_n 0, 1) := by decide +kernel
theorem dX8_joinsBest_24 : decode cX8_joinsBest 24 = .ok (.getfield 241, 3) := by decide +kernel
theorem dX8_joinsBest_27 : decode cX8_joinsBest 27 = .ok (.if_icmp .ge 58, 3) := by decide +kernel
theorem dX8_joinsBest_30 : decode cX8_joinsBest 30 = .ok (.iload 4, 2) := by decide +kernel
theorem dX8_joinsBest_32 : decode cX8_joinsBest 32 = .ok (.iload 5, 2) := by decide +kernel
theorem dX8_joinsBest_34 : decode cX8_joinsBest 34 = .ok (.if_icmp .ne 7, 3) := by decide +kernel
theorem dX8_joinsBest_37 : decode cX8_joinsBest 37 = .ok (.iconst (-1), 1) := by decide +kernel
theorem dX8_joinsBest_38 : decode cX8_joinsBest 38 = .ok (.goto 21, 3) := by decide +kernel
theorem dX8_joinsBest_41 : decode cX8_joinsBest 41 = .ok (.aload_n 0, 1) := by decide +kernel
theorem dX8_joinsBest_42 : decode cX8_joinsBest 42 = .ok (.aload_n 0, 1) := by decide +kernel
theorem dX8_joinsBest_43 : decode cX8_joinsBest 43 = .ok (.getfield 57, 3) := by decide +kernel
theorem dX8_joinsBest_46 : decode cX8_joinsBest 46 = .ok (.iload 4, 2) := by decide +kernel
theorem dX8_joinsBest_48 : decode cX8_joinsBest 48 = .ok (.iaload, 1) := by decide +kernel
theorem dX8_joinsBest_49 : decode cX8_joinsBest 49 = .ok (.aload_n 0, 1) := by decide +kernel
theorem dX8_joinsBest_50 : decode cX8_joinsBest 50 = .ok (.getfield 57, 3) := by decide +kernel
theorem dX8_joinsBest_53 : decode cX8_joinsBest 53 = .ok (.iload 5, 2) := by decide +kernel
theorem dX8_joinsBest_55 : decode cX8_joinsBest 55 = .ok (.iaload, 1) := by decide +kernel
theorem dX8_joinsBest_56 : decode cX8_joinsBest 56 = .ok (.invokevirtual 253, 3) := by decide +kernel
theorem dX8_joinsBest_59 : decode cX8_joinsBest 59 = .ok (.istore 6, 2) := by decide +kernel
theorem dX8_joinsBest_61 : decode cX8_joinsBest 61 = .ok (.iload 6, 2) := by decide +kernel
theorem dX8_joinsBest_63 : decode cX8_joinsBest 63 = .ok (.iload_n 3, 1) := by decide +kernel
theorem dX8_joinsBest_64 : decode cX8_joinsBest 64 = .ok (.if_icmp .gt 6, 3) := by decide +kernel
theorem dX8_joinsBest_67 : decode cX8_joinsBest 67 = .ok (.goto 12, 3) := by decide +kernel
theorem dX8_joinsBest_70 : decode cX8_joinsBest 70 = .ok (.iload 6, 2) := by decide +kernel
theorem dX8_joinsBest_72 : decode cX8_joinsBest 72 = .ok (.istore_n 3, 1) := by decide +kernel
theorem dX8_joinsBest_73 : decode cX8_joinsBest 73 = .ok (.iload 4, 2) := by decide +kernel
theorem dX8_joinsBest_75 : decode cX8_joinsBest 75 = .ok (.istore_n 1, 1) := by decide +kernel
theorem dX8_joinsBest_76 : decode cX8_joinsBest 76 = .ok (.iload 5, 2) := by decide +kernel
theorem dX8_joinsBest_78 : decode cX8_joinsBest 78 = .ok (.istore_n 2, 1) := by decide +kernel
theorem dX8_joinsBest_79 : decode cX8_joinsBest 79 = .ok (.iinc 5 1, 3) := by decide +kernel
theorem dX8_joinsBest_82 : decode cX8_joinsBest 82 = .ok (.goto (-61), 3) := by decide +kernel
theorem dX8_joinsBest_85 : decode cX8_joinsBest 85 = .ok (.iinc 4 1, 3) := by decide +kernel
theorem dX8_joinsBest_88 : decode cX8_joinsBest 88 = .ok (.goto (-79), 3) := by decide +kernel
theorem dX8_joinsBest_91 : decode cX8_joinsBest 91 = .ok (.aload_n 0, 1) := by decide +kernel
theorem dX8_joinsBest_92 : decode cX8_joinsBest 92 = .ok (.aload_n 0, 1) := by decide +kernel
