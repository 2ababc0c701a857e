theorem dX7_keywordByte_1 : decode cX7_keywordByte 1 = .ok (.getfield 30, 3) := by decide +kernel
theorem dX7_keywordByte_4 : decode cX7_keywordByte 4 = .ok (.iload_n 1, 1) := by decide +kernel
theorem dX7_keywordByte_5 : decode cX7_keywordByte 5 = .ok (.invokevirtual 154, 3) := by decide +kernel
theorem dX7_keywordByte_8 : decode cX7_keywordByte 8 = .ok (.ifCond .ne 6, 3) := by decide +kernel
theorem dX7_keywordByte_11 : decode cX7_keywordByte 11 = .ok (.bipush (-2), 2) := by decide +kernel
theorem dX7_keywordByte_13 : decode cX7_keywordByte 13 = .ok (.ireturn, 1) := by decide +kernel
theorem dX7_keywordByte_14 : decode cX7_keywordByte 14 = .ok (.iload_n 2, 1) := by decide +kernel
theorem dX7_keywordByte_15 : decode cX7_keywordByte 15 = .ok (.ifCond .ge 8, 3) := by decide +kernel
theorem dX7_keywordByte_18 : decode cX7_keywordByte 18 = .ok (.bipush (-3), 2) := by decide +kernel
theorem dX7_keywordByte_20 : decode cX7_keywordByte 20 = .ok (.goto 12, 3) := by decide +kernel
theorem dX7_keywordByte_23 : decode cX7_keywordByte 23 = .ok (.aload_n 0, 1) := by decide +kernel
theorem dX7_keywordByte_24 : decode cX7_keywordByte 24 = .ok (.getfield 30, 3) := by decide +kernel
theorem dX7_keywordByte_27 : decode cX7_keywordByte 27 = .ok (.iload_n 1, 1) := by decide +kernel
theorem dX7_keywordByte_28 : decode cX7_keywordByte 28 = .ok (.iload_n 2, 1) := by decide +kernel
theorem dX7_keywordByte_29 : decode cX7_keywordByte 29 = .ok (.invokevirtual 160, 3) := by decide +kernel
theorem dX7_keywordByte_32 : decode cX7_keywordByte 32 = .ok (.ireturn, 1) := by decide +kernel
set_option maxRecDepth 20000 in
theorem ggX7_keywordWeight_X3_isGiven : GoodIn wsX7_keywordWeight wsX3_isGiven := goodIn_r _ [6, 7, 29, 30, 31, 32, 33, 34, 35] (by decide +kernel) (by decide +kernel)
set_option maxRecDepth 20000 in
theorem gX7_keywordWeight_X3_isGiven : GoodIn wsX7_keywordWeight (wsV RX7 154 RX3 yX3_isGiven wsX3_isGiven) := goodIn_app (goodIn_of _ (by decide +kernel)) ggX7_keywordWeight_X3_isGiven
set_option maxRecDepth 20000 in
theorem ggX7_keywordWeight_X3_weightOf : GoodIn wsX7_keywordWeight wsX3_weightOf := goodIn_r _ [11, 12, 13, 3, 4, 5, 6, 7, 29, 30, 31, 32, 33, 34, 35] (by decide +kernel) (by decide +kernel)
set_option maxRecDepth 20000 in
theorem gX7_keywordWeight_X3_weightOf : GoodIn wsX7_keywordWeight (wsV RX7 164 RX3 yX3_weightOf wsX3_weightOf) := goodIn_app (goodIn_of _ (by decide +kernel)) ggX7_keywordWeight_X3_weightOf
theorem dX7_keywordWeight_0 : decode cX7_keywordWeight 0 = .ok (.aload_n 0, 1) := by decide +kernel
theorem dX7_keywordWeight_1 : decode cX7_keywordWeight 1 = .ok (.getfield 30, 3) := by decide +kernel
theorem dX7_keywordWeight_4 : decode cX7_keywordWeight 4 = .ok (.iload_n 1, 1) := by decide +kernel
theorem dX7_keywordWeight_5 : decode cX7_keywordWeight 5 = .ok (.invokevirtual 154, 3) := by decide +kernel
theorem dX7_keywordWeight_8 : decode cX7_keywordWeight 8 = .ok (.ifCond .eq 14, 3) := by decide +kernel
theorem dX7_keywordWeight_11 : decode cX7_keywordWeight 11 = .ok (.aload_n 0, 1) := by decide +kernel
theorem dX7_keywordWeight_12 : decode cX7_keywordWeight 12 = .ok (.getfield 30, 3) := by decide +kernel
theorem dX7_keywordWeight_15 : decode cX7_keywordWeight 15 = .ok (.iload_n 1, 1) := by decide +kernel
theorem dX7_keywordWeight_16 : decode cX7_keywordWeight 16 = .ok (.invokevirtual 164, 3) := by decide +kernel
theorem dX7_keywordWeight_19 : decode cX7_keywordWeight 19 = .ok (.goto 5, 3) := by decide +kernel
theorem dX7_keywordWeight_22 : decode cX7_keywordWeight 22 = .ok (.bipush (-2), 2) := by decide +kernel
theorem dX7_keywordWeight_24 : decode cX7_keywordWeight 24 = .ok (.ireturn, 1) := by decide +kernel
set_option maxRecDepth 20000 in
theorem ggX7_isLive_X3_isGiven : GoodIn wsX7_isLive wsX3_isGiven := goodIn_r _ [6, 7, 29, 30, 31, 32, 33, 34, 35] (by decide +kernel) (by decide +kernel)
set_option maxRecDepth 20000 in
theorem gX7_isLive_X3_isGiven : GoodIn wsX7_isLive (wsV RX7 154 RX3 yX3_isGiven wsX3_isGiven) := goodIn_app (goodIn_of _ (by decide +kernel)) ggX7_isLive_X3_isGiven
set_option maxRecDepth 20000 in
theorem ggX7_isLive_X3_isAlive : GoodIn wsX7_isLive wsX3_isAlive := goodIn_r _ [11, 12, 13, 3, 4, 5, 6, 7, 29, 30, 31, 32, 33, 34, 35] (by decide +kernel) (by decide +kernel)
set_option maxRecDepth 20000 in
theorem gX7_isLive_X3_isAlive : GoodIn wsX7_isLive (wsV RX7 138 RX3 yX3_isAlive wsX3_isAlive) := goodIn_app (goodIn_of _ (by decide +kernel)) ggX7_isLive_X3_isAlive
theorem dX7_isLive_0 : decode cX7_isLive 0 = .ok (.aload_n 0, 1) := by decide +kernel
theorem dX7_isLive_1 : decode cX7_isLive 1 = .ok (.getfield 30, 3) := by decide +kernel
theorem dX7_isLive_4 : decode cX7_isLive 4 = .ok (.iload_n 1, 1) := by decide +kernel
theorem dX7_isLive_5 : decode cX7_isLive 5 = .ok (.invokevirtual 154, 3) := by decide +kernel
theorem dX7_isLive_8 : decode cX7_isLive 8 = .ok (.ifCond .ne 6, 3) := by decide +kernel
theorem dX7_isLive_11 : decode cX7_isLive 11 = .ok (.bipush (-2), 2) := by decide +kernel
theorem dX7_isLive_13 : decode cX7_isLive 13 = .ok (.ireturn, 1) := by decide +kernel
theorem dX7_isLive_14 : decode cX7_isLive 14 = .ok (.aload_n 0, 1) := by decide +kernel
theorem dX7_isLive_15 : decode cX7_isLive 15 = .ok (.getfield 30, 3) := by decide +kernel
theorem dX7_isLive_18 : decode cX7_isLive 18 = .ok (.iload_n 1, 1) := by decide +kernel
theorem dX7_isLive_19 : decode cX7_isLive 19 = .ok (.invokevirtual 138, 3) := by decide +kernel
theorem dX7_isLive_22 : decode cX7_isLive 22 = .ok (.ifCond .eq 7, 3) := by decide +kernel
theorem dX7_isLive_25 : decode cX7_isLive 25 = .ok (.iconst 1, 1) := by decide +kernel
theorem dX7_isLive_26 : decode cX7_isLive 26 = .ok (.goto 4, 3) := by decide +kernel
theorem dX7_isLive_29 : decode cX7_isLive 29 = .ok (.iconst 0, 1) := by decide +kernel
theorem dX7_isLive_30 : decode cX7_isLive 30 = .ok (.ireturn, 1) := by decide +kernel
theorem dX7_liveCount_0 : decode cX7_liveCount 0 = .ok (.aload_n 0, 1) := by decide +kernel
theorem dX7_liveCount_1 : decode cX7_liveCount 1 = .ok (.getfield 30, 3) := by decide +kernel
theorem dX7_liveCount_4 : decode cX7_liveCount 4 = .ok (.getfield 129, 3) := by decide +kernel
theorem dX7_liveCount_7 : decode cX7_liveCount 7 = .ok (.ireturn, 1) := by decide +kernel
theorem dX7_setFolding_0 : decode cX7_setFolding 0 = .ok (.aload_n 0, 1) := by decide +kernel
theorem dX7_setFolding_1 : decode cX7_setFolding 1 = .ok (.getfield 30, 3) := by decide +kernel
theorem dX7_setFolding_4 : decode cX7_setFolding 4 = .ok (.getfield 129, 3) := by decide +kernel
theorem dX7_setFolding_7 : decode cX7_setFolding 7 = .ok (.ifCond .gt 13, 3) := by decide +kernel
theorem dX7_setFolding_10 : decode cX7_setFolding 10 = .ok (.aload_n 0, 1) := by decide +kernel
theorem dX7_setFolding_11 : decode cX7_setFolding 11 = .ok (.getfield 51, 3) := by decide +kernel
theorem dX7_setFolding_14 : decode cX7_setFolding 14 = .ok (.getfield 89, 3) := by decide +kernel
theorem dX7_setFolding_17 : decode cX7_setFolding 17 = .ok (.ifCond .le 6, 3) := by decide +kernel
theorem dX7_setFolding_20 : decode cX7_setFolding 20 = .ok (.bipush (-7), 2) := by decide +kernel
theorem dX7_setFolding_22 : decode cX7_setFolding 22 = .ok (.ireturn, 1) := by decide +kernel
theorem dX7_setFolding_23 : decode cX7_setFolding 23 = .ok (.aload_n 0, 1) := by decide +kernel
theorem dX7_setFolding_24 : decode cX7_setFolding 24 = .ok (.getfield 12, 3) := by decide +kernel
theorem dX7_setFolding_27 : decode cX7_setFolding 27 = .ok (.getfield 167, 3) := by decide +kernel
theorem dX7_setFolding_30 : decode cX7_setFolding 30 = .ok (.ifCond .eq 7, 3) := by decide +kernel
theorem dX7_setFolding_33 : decode cX7_setFolding 33 = .ok (.iconst 1, 1) := by decide +kernel
theorem dX7_setFolding_34 : decode cX7_setFolding 34 = .ok (.goto 4, 3) := by decide +kernel
theorem dX7_setFolding_37 : decode cX7_setFolding 37 = .ok (.iconst 0, 1) := by decide +kernel
theorem dX7_setFolding_38 : decode cX7_setFolding 38 = .ok (.istore_n 2, 1) := by decide +kernel
theorem dX7_setFolding_39 : decode cX7_setFolding 39 = .ok (.aload_n 0, 1) := by decide +kernel
theorem dX7_setFolding_40 : decode cX7_setFolding 40 = .ok (.getfield 12, 3) := by decide +kernel
theorem dX7_setFolding_43 : decode cX7_setFolding 43 = .ok (.iload_n 1, 1) := by decide +kernel
theorem dX7_setFolding_44 : decode cX7_setFolding 44 = .ok (.putfield 167, 3) := by decide +kernel
theorem dX7_setFolding_47 : decode cX7_setFolding 47 = .ok (.iload_n 2, 1) := by decide +kernel
theorem dX7_setFolding_48 : decode cX7_setFolding 48 = .ok (.ireturn, 1) := by decide +kernel
set_option maxRecDepth 20000 in
theorem ggX7_mainSize_X7_isLevel : GoodIn wsX7_mainSize wsX7_isLevel := goodIn_r _ [5] (by decide +kernel) (by decide +kernel)
set_option maxRecDepth 20000 in
theorem gX7_mainSize_X7_isLevel : GoodIn wsX7_mainSize (va_wsS RX7 171 yX7_isLevel wsX7_isLevel) := goodIn_app (goodIn_of _ (by decide +kernel)) ggX7_mainSize_X7_isLevel
set_option maxRecDepth 20000 in
theorem ggX7_mainSize_X0_sizeAt : GoodIn wsX7_mainSize wsX0_sizeAt := goodIn_r _ [10, 11, 27, 28] (by decide +kernel) (by decide +kernel)
set_option maxRecDepth 20000 in
theorem gX7_mainSize_X0_sizeAt : GoodIn wsX7_mainSize (wsV RX7 174 RX0 yX0_sizeAt wsX0_sizeAt) := goodIn_app (goodIn_of _ (by decide +kernel)) ggX7_mainSize_X0_sizeAt
theorem dX7_mainSize_0 : decode cX7_mainSize 0 = .ok (.iload_n 1, 1) := by decide +kernel
theorem dX7_mainSize_1 : decode cX7_mainSize 1 = .ok (.invokestatic 171, 3) := by decide +kernel
theorem dX7_mainSize_4 : decode cX7_mainSize 4 = .ok (.ifCond .eq 14, 3) := by decide +kernel
theorem dX7_mainSize_7 : decode cX7_mainSize 7 = .ok (.aload_n 0, 1) := by decide +kernel
theorem dX7_mainSize_8 : decode cX7_mainSize 8 = .ok (.getfield 37, 3) := by decide +kernel
theorem dX7_mainSize_11 : decode cX7_mainSize 11 = .ok (.iload_n 1, 1) := by decide +kernel
theorem dX7_mainSize_12 : decode cX7_mainSize 12 = .ok (.invokevirtual 174, 3) := by decide +kernel
theorem dX7_mainSize_15 : decode cX7_mainSize 15 = .ok (.goto 5, 3) := by decide +kernel
theorem dX7_mainSize_18 : decode cX7_mainSize 18 = .ok (.bipush (-3), 2) := by decide +kernel
theorem dX7_mainSize_20 : decode cX7_mainSize 20 = .ok (.ireturn, 1) := by decide +kernel
set_option maxRecDepth 20000 in
theorem ggX7_removalSize_X7_isLevel : GoodIn wsX7_removalSize wsX7_isLevel := goodIn_r _ [5] (by decide +kernel) (by decide +kernel)
set_option maxRecDepth 20000 in
theorem gX7_removalSize_X7_isLevel : GoodIn wsX7_removalSize (va_wsS RX7 171 yX7_isLevel wsX7_isLevel) := goodIn_app (goodIn_of _ (by decide +kernel)) ggX7_removalSize_X7_isLevel
set_option maxRecDepth 20000 in
theorem ggX7_removalSize_X0_sizeAt : GoodIn wsX7_removalSize wsX0_sizeAt := goodIn_r _ [10, 11, 27, 28] (by decide +kernel) (by decide +kernel)
set_option maxRecDepth 20000 in
theorem gX7_removalSize_X0_sizeAt : GoodIn wsX7_removalSize (wsV RX7 174 RX0 yX0_sizeAt wsX0_sizeAt) := goodIn_app (goodIn_of _ (by decide +kernel)) ggX7_removalSize_X0_sizeAt
theorem dX7_removalSize_0 : decode cX7_removalSize 0 = .ok (.iload_n 1, 1) := by decide +kernel
theorem dX7_removalSize_1 : decode cX7_removalSize 1 = .ok (.invokestatic 171, 3) := by decide +kernel
theorem dX7_removalSize_4 : decode cX7_removalSize 4 = .ok (.ifCond .eq 14, 3) := by decide +kernel
theorem dX7_removalSize_7 : decode cX7_removalSize 7 = .ok (.aload_n 0, 1) := by decide +kernel
theorem dX7_removalSize_8 : decode cX7_removalSize 8 = .ok (.getfield 41, 3) := by decide +kernel
theorem dX7_removalSize_11 : decode cX7_removalSize 11 = .ok (.iload_n 1, 1) := by decide +kernel
theorem dX7_removalSize_12 : decode cX7_removalSize 12 = .ok (.invokevirtual 174, 3) := by decide +kernel
theorem dX7_removalSize_15 : decode cX7_removalSize 15 = .ok (.goto 5, 3) := by decide +kernel
theorem dX7_removalSize_18 : decode cX7_removalSize 18 = .ok (.bipush (-3), 2) := by decide +kernel
theorem dX7_removalSize_20 : decode cX7_removalSize 20 = .ok (.ireturn, 1) := by decide +kernel
theorem dX7_isLevel_0 : decode cX7_isLevel 0 = .ok (.iload_n 0, 1) := by decide +kernel
theorem dX7_isLevel_1 : decode cX7_isLevel 1 = .ok (.ifCond .lt 13, 3) := by decide +kernel
theorem dX7_isLevel_4 : decode cX7_isLevel 4 = .ok (.iload_n 0, 1) := by decide +kernel
theorem dX7_isLevel_5 : decode cX7_isLevel 5 = .ok (.bipush 7, 2) := by decide +kernel
theorem dX7_isLevel_7 : decode cX7_isLevel 7 = .ok (.if_icmp .ge 7, 3) := by decide +kernel
theorem dX7_isLevel_10 : decode cX7_isLevel 10 = .ok (.iconst 1, 1) := by decide +kernel
theorem dX7_isLevel_11 : decode cX7_isLevel 11 = .ok (.goto 4, 3) := by decide +kernel
theorem dX7_isLevel_14 : decode cX7_isLevel 14 = .ok (.iconst 0, 1) := by decide +kernel
theorem dX7_isLevel_15 : decode cX7_isLevel 15 = .ok (.ireturn, 1) := by decide +kernel
set_option maxRecDepth 20000 in
theorem ggX7_stateCount_X7_isLevel : GoodIn wsX7_stateCount wsX7_isLevel := goodIn_r _ [5] (by decide +kernel) (by decide +kernel)
set_option maxRecDepth 20000 in
theorem gX7_stateCount_X7_isLevel : GoodIn wsX7_stateCount (va_wsS RX7 171 yX7_isLevel wsX7_isLevel) := goodIn_app (goodIn_of _ (by decide +kernel)) ggX7_stateCount_X7_isLevel
set_option maxRecDepth 20000 in
theorem ggX7_stateCount_X0_sizeAt : GoodIn wsX7_stateCount wsX0_sizeAt := goodIn_r _ [10, 11, 82, 83] (by decide +kernel) (by decide +kernel)
set_option maxRecDepth 20000 in
theorem gX7_stateCount_X0_sizeAt : GoodIn wsX7_stateCount (wsV RX7 174 RX0 yX0_sizeAt wsX0_sizeAt) := goodIn_app (goodIn_of _ (by decide +kernel)) ggX7_stateCount_X0_sizeAt
set_option maxRecDepth 20000 in
theorem ggX7_stateCount_X0_firstAt : GoodIn wsX7_stateCount wsX0_firstAt := goodIn_r _ [15, 11, 82, 83] (by decide +kernel) (by decide +kernel)
set_option maxRecDepth 20000 in
theorem gX7_stateCount_X0_firstAt : GoodIn wsX7_stateCount (wsV RX7 177 RX0 yX0_firstAt wsX0_firstAt) := goodIn_app (goodIn_of _ (by decide +kernel)) ggX7_stateCount_X0_firstAt
set_option maxRecDepth 20000 in
theorem ggX7_stateCount_X7_newPrefixes : GoodIn wsX7_stateCount wsX7_newPrefixes := goodIn_r _ [19, 1, 20, 21, 22, 23, 24, 25, 26, 27, 9, 28, 11, 29, 30, 31, 32, 33, 34, 35, 36, 37, 38, 39, 40, 41, 42, 43, 44, 45, 46, 47, 48, 49, 50, 51, 52, 53, 54, 55, 56, 57, 58, 59, 60, 61, 62, 63, 64, 65, 66, 67, 68, 69, 70, 71, 72, 73, 74, 75, 76, 77, 78, 79, 80, 81, 82, 83, 84, 85, 86, 87, 88, 89, 90, 91] (by decide +kernel) (by decide +kernel)
set_option maxRecDepth 20000 in
theorem gX7_stateCount_X7_newPrefixes : GoodIn wsX7_stateCount (wsV RX7 180 RX7 yX7_newPrefixes wsX7_newPrefixes) := goodIn_app (goodIn_of _ (by decide +kernel)) ggX7_stateCount_X7_newPrefixes
theorem dX7_stateCount_0 : decode cX7_stateCount 0 = .ok (.iload_n 1, 1) := by decide +kernel
theorem dX7_stateCount_1 : decode cX7_stateCount 1 = .ok (.invokestatic 171, 3) := by decide +kernel
theorem dX7_stateCount_4 : decode cX7_stateCount 4 = .ok (.ifCond .ne 6, 3) := by decide +kernel
theorem dX7_stateCount_7 : decode cX7_stateCount 7 = .ok (.bipush (-3), 2) := by decide +kernel
theorem dX7_stateCount_9 : decode cX7_stateCount 9 = .ok (.ireturn, 1) := by decide +kernel
theorem dX7_stateCount_10 : decode cX7_stateCount 10 = .ok (.aload_n 0, 1) := by decide +kernel
theorem dX7_stateCount_11 : decode cX7_stateCount 11 = .ok (.getfield 37, 3) := by decide +kernel
theorem dX7_stateCount_14 : decode cX7_stateCount 14 = .ok (.iload_n 1, 1) := by decide +kernel
theorem dX7_stateCount_15 : decode cX7_stateCount 15 = .ok (.invokevirtual 174, 3) := by decide +kernel
theorem dX7_stateCount_18 : decode cX7_stateCount 18 = .ok (.istore_n 2, 1) := by decide +kernel
theorem dX7_stateCount_19 : decode cX7_stateCount 19 = .ok (.iload_n 2, 1) := by decide +kernel
theorem dX7_stateCount_20 : decode cX7_stateCount 20 = .ok (.ifCond .ne 5, 3) := by decide +kernel
theorem dX7_stateCount_23 : decode cX7_stateCount 23 = .ok (.iconst (-1), 1) := by decide +kernel
theorem dX7_stateCount_24 : decode cX7_stateCount 24 = .ok (.ireturn, 1) := by decide +kernel
theorem dX7_stateCount_25 : decode cX7_stateCount 25 = .ok (.iconst 1, 1) := by decide +kernel
theorem dX7_stateCount_26 : decode cX7_stateCount 26 = .ok (.istore_n 3, 1) := by decide +kernel
theorem dX7_stateCount_27 : decode cX7_stateCount 27 = .ok (.aload_n 0, 1) := by decide +kernel
theorem dX7_stateCount_28 : decode cX7_stateCount 28 = .ok (.getfield 37, 3) := by decide +kernel
theorem dX7_stateCount_31 : decode cX7_stateCount 31 = .ok (.iload_n 1, 1) := by decide +kernel
theorem dX7_stateCount_32 : decode cX7_stateCount 32 = .ok (.invokevirtual 177, 3) := by decide +kernel
theorem dX7_stateCount_35 : decode cX7_stateCount 35 = .ok (.istore 4, 2) := by decide +kernel
theorem dX7_stateCount_37 : decode cX7_stateCount 37 = .ok (.iload 4, 2) := by decide +kernel
theorem dX7_stateCount_39 : decode cX7_stateCount 39 = .ok (.istore 5, 2) := by decide +kernel
theorem dX7_stateCount_41 : decode cX7_stateCount 41 = .ok (.iload 5, 2) := by decide +kernel
theorem dX7_stateCount_43 : decode cX7_stateCount 43 = .ok (.iload 4, 2) := by decide +kernel
theorem dX7_stateCount_45 : decode cX7_stateCount 45 = .ok (.iload_n 2, 1) := by decide +kernel
theorem dX7_stateCount_46 : decode cX7_stateCount 46 = .ok (.iadd, 1) := by decide +kernel
theorem dX7_stateCount_47 : decode cX7_stateCount 47 = .ok (.if_icmp .ge 20, 3) := by decide +kernel
theorem dX7_stateCount_50 : decode cX7_stateCount 50 = .ok (.iload_n 3, 1) := by decide +kernel
theorem dX7_stateCount_51 : decode cX7_stateCount 51 = .ok (.aload_n 0, 1) := by decide +kernel
theorem dX7_stateCount_52 : decode cX7_stateCount 52 = .ok (.iload 4, 2) := by decide +kernel
theorem dX7_stateCount_54 : decode cX7_stateCount 54 = .ok (.iload 5, 2) := by decide +kernel
theorem dX7_stateCount_56 : decode cX7_stateCount 56 = .ok (.invokevirtual 180, 3) := by decide +kernel
theorem dX7_stateCount_59 : decode cX7_stateCount 59 = .ok (.iadd, 1) := by decide +kernel
theorem dX7_stateCount_60 : decode cX7_stateCount 60 = .ok (.istore_n 3, 1) := by decide +kernel
theorem dX7_stateCount_61 : decode cX7_stateCount 61 = .ok (.iinc 5 1, 3) := by decide +kernel
theorem dX7_stateCount_64 : decode cX7_stateCount 64 = .ok (.goto (-23), 3) := by decide +kernel
theorem dX7_stateCount_67 : decode cX7_stateCount 67 = .ok (.iload_n 3, 1) := by decide +kernel
theorem dX7_stateCount_68 : decode cX7_stateCount 68 = .ok (.ireturn, 1) := by decide +kernel
set_option maxRecDepth 20000 in
theorem ggX7_newPrefixes_X0_memberAt : GoodIn wsX7_newPrefixes wsX0_memberAt := goodIn_r _ [11, 12, 13, 66, 67] (by decide +kernel) (by decide +kernel)
set_option maxRecDepth 20000 in
theorem gX7_newPrefixes_X0_memberAt : GoodIn wsX7_newPrefixes (wsV RX7 183 RX0 yX0_memberAt wsX0_memberAt) := goodIn_app (goodIn_of _ (by decide +kernel)) ggX7_newPrefixes_X0_memberAt
set_option maxRecDepth 20000 in
theorem ggX7_newPrefixes_X3_commonPrefix : GoodIn wsX7_newPrefixes wsX3_commonPrefix := goodIn_r _ [18, 19, 20, 5, 21, 22, 23, 24, 25, 26, 17, 27, 28, 29, 30, 31, 32, 33, 34, 35, 36, 37, 38, 39, 40, 41, 42, 43, 44, 4, 6, 45, 46, 47, 48, 49, 68, 69, 70, 71, 72, 73, 74, 75] (by decide +kernel) (by decide +kernel)
set_option maxRecDepth 20000 in
theorem gX7_newPrefixes_X3_commonPrefix : GoodIn wsX7_newPrefixes (wsV RX7 186 RX3 yX3_commonPrefix wsX3_commonPrefix) := goodIn_app (goodIn_of _ (by decide +kernel)) ggX7_newPrefixes_X3_commonPrefix
set_option maxRecDepth 20000 in
theorem ggX7_newPrefixes_X3_lengthOf : GoodIn wsX7_newPrefixes wsX3_lengthOf := goodIn_r _ [27, 28, 29, 30, 31, 17, 32, 33, 68, 69, 70, 71, 72, 73, 74] (by decide +kernel) (by decide +kernel)
set_option maxRecDepth 20000 in
theorem gX7_newPrefixes_X3_lengthOf : GoodIn wsX7_newPrefixes (wsV RX7 157 RX3 yX3_lengthOf wsX3_lengthOf) := goodIn_app (goodIn_of _ (by decide +kernel)) ggX7_newPrefixes_X3_lengthOf
theorem dX7_newPrefixes_0 : decode cX7_newPrefixes 0 = .ok (.aload_n 0, 1) := by decide +kernel
theorem dX7_newPrefixes_1 : decode cX7_newPrefixes 1 = .ok (.getfield 37, 3) := by decide +kernel
theorem dX7_newPrefixes_4 : decode cX7_newPrefixes 4 = .ok (.iload_n 2, 1) := by decide +kernel
theorem dX7_newPrefixes_5 : decode cX7_newPrefixes 5 = .ok (.invokevirtual 183, 3) := by decide +kernel
theorem dX7_newPrefixes_8 : decode cX7_newPrefixes 8 = .ok (.istore_n 3, 1) := by decide +kernel
theorem dX7_newPrefixes_9 : decode cX7_newPrefixes 9 = .ok (.iconst 0, 1) := by decide +kernel
theorem dX7_newPrefixes_10 : decode cX7_newPrefixes 10 = .ok (.istore 4, 2) := by decide +kernel
theorem dX7_newPrefixes_12 : decode cX7_newPrefixes 12 = .ok (.iload_n 1, 1) := by decide +kernel
theorem dX7_newPrefixes_13 : decode cX7_newPrefixes 13 = .ok (.istore 5, 2) := by decide +kernel
theorem dX7_newPrefixes_15 : decode cX7_newPrefixes 15 = .ok (.iload 5, 2) := by decide +kernel
theorem dX7_newPrefixes_17 : decode cX7_newPrefixes 17 = .ok (.iload_n 2, 1) := by decide +kernel
theorem dX7_newPrefixes_18 : decode cX7_newPrefixes 18 = .ok (.if_icmp .ge 33, 3) := by decide +kernel
theorem dX7_newPrefixes_21 : decode cX7_newPrefixes 21 = .ok (.iload 4, 2) := by decide +kernel
theorem dX7_newPrefixes_23 : decode cX7_newPrefixes 23 = .ok (.aload_n 0, 1) := by decide +kernel
theorem dX7_newPrefixes_24 : decode cX7_newPrefixes 24 = .ok (.getfield 30, 3) := by decide +kernel
theorem dX7_newPrefixes_27 : decode cX7_newPrefixes 27 = .ok (.iload_n 3, 1) := by decide +kernel
theorem dX7_newPrefixes_28 : decode cX7_newPrefixes 28 = .ok (.aload_n 0, 1) := by decide +kernel
theorem dX7_newPrefixes_29 : decode cX7_newPrefixes 29 = .ok (.getfield 37, 3) := by decide +kernel
theorem dX7_newPrefixes_32 : decode cX7_newPrefixes 32 = .ok (.iload 5, 2) := by decide +kernel
theorem dX7_newPrefixes_34 : decode cX7_newPrefixes 34 = .ok (.invokevirtual 183, 3) := by decide +kernel
theorem dX7_newPrefixes_37 : decode cX7_newPrefixes 37 = .ok (.invokevirtual 186, 3) := by decide +kernel
theorem dX7_newPrefixes_40 : decode cX7_newPrefixes 40 = .ok (.invokestatic 189, 3) := by decide +kernel
theorem dX7_newPrefixes_43 : decode cX7_newPrefixes 43 = .ok (.istore 4, 2) := by decide +kernel
theorem dX7_newPrefixes_45 : decode cX7_newPrefixes 45 = .ok (.iinc 5 1, 3) := by decide +kernel
theorem dX7_newPrefixes_48 : decode cX7_newPrefixes 48 = .ok (.goto (-33), 3) := by decide +kernel
theorem dX7_newPrefixes_51 : decode cX7_newPrefixes 51 = .ok (.aload_n 0, 1) := by decide +kernel
theorem dX7_newPrefixes_52 : decode cX7_newPrefixes 52 = .ok (.getfield 30, 3) := by decide +kernel
theorem dX7_newPrefixes_55 : decode cX7_newPrefixes 55 = .ok (.iload_n 3, 1) := by decide +kernel
theorem dX7_newPrefixes_56 : decode cX7_newPrefixes 56 = .ok (.invokevirtual 157, 3) := by decide +kernel
theorem dX7_newPrefixes_59 : decode cX7_newPrefixes 59 = .ok (.iload 4, 2) := by decide +kernel
theorem dX7_newPrefixes_61 : decode cX7_newPrefixes 61 = .ok (.isub, 1) := by decide +kernel
theorem dX7_newPrefixes_62 : decode cX7_newPrefixes 62 = .ok (.ireturn, 1) := by decide +kernel
set_option maxRecDepth 20000 in
theorem ggX7_currentDepth_X7_isLevel : GoodIn wsX7_currentDepth wsX7_isLevel := goodIn_r _ [12] (by decide +kernel) (by decide +kernel)
set_option maxRecDepth 20000 in
theorem gX7_currentDepth_X7_isLevel : GoodIn wsX7_currentDepth (va_wsS RX7 171 yX7_isLevel wsX7_isLevel) := goodIn_app (goodIn_of _ (by decide +kernel)) ggX7_currentDepth_X7_isLevel
set_option maxRecDepth 20000 in
theorem ggX7_currentDepth_X0_sizeAt : GoodIn wsX7_currentDepth wsX0_sizeAt := goodIn_r _ [17, 18, 93, 94] (by decide +kernel) (by decide +kernel)
set_option maxRecDepth 20000 in
theorem gX7_currentDepth_X0_sizeAt : GoodIn wsX7_currentDepth (wsV RX7 174 RX0 yX0_sizeAt wsX0_sizeAt) := goodIn_app (goodIn_of _ (by decide +kernel)) ggX7_currentDepth_X0_sizeAt
set_option maxRecDepth 20000 in
theorem ggX7_currentDepth_X7_longestPrefixBefore : GoodIn wsX7_currentDepth wsX7_longestPrefixBefore := goodIn_r _ [22, 23, 24, 25, 11, 26, 1, 27, 28, 29, 30, 16, 31, 18, 13, 14, 15, 17, 32, 33, 34, 35, 36, 37, 38, 39, 40, 41, 42, 43, 44, 45, 46, 47, 48, 49, 50, 51, 52, 53, 54, 55, 56, 57, 58, 59, 60, 61, 62, 63, 64, 65, 66, 67, 6, 7, 8, 68, 69, 70, 71, 72, 73, 74, 75, 76, 77, 78, 79, 80, 81, 82, 83, 84, 85, 86, 87, 88, 89, 90, 93, 94, 95, 96, 97, 98, 99, 100, 101, 102] (by decide +kernel) (by decide +kernel)
set_option maxRecDepth 20000 in
theorem gX7_currentDepth_X7_longestPrefixBefore : GoodIn wsX7_currentDepth (wsV RX7 200 RX7 yX7_longestPrefixBefore wsX7_longestPrefixBefore) := goodIn_app (goodIn_of _ (by decide +kernel)) ggX7_currentDepth_X7_longestPrefixBefore
theorem dX7_currentDepth_0 : decode cX7_currentDepth 0 = .ok (.iload_n 1, 1) := by decide +kernel
theorem dX7_currentDepth_1 : decode cX7_currentDepth 1 = .ok (.invokestatic 171, 3) := by decide +kernel
theorem dX7_currentDepth_4 : decode cX7_currentDepth 4 = .ok (.ifCond .ne 6, 3) := by decide +kernel
theorem dX7_currentDepth_7 : decode cX7_currentDepth 7 = .ok (.bipush (-3), 2) := by decide +kernel
theorem dX7_currentDepth_9 : decode cX7_currentDepth 9 = .ok (.ireturn, 1) := by decide +kernel
theorem dX7_currentDepth_10 : decode cX7_currentDepth 10 = .ok (.aload_n 0, 1) := by decide +kernel
theorem dX7_currentDepth_11 : decode cX7_currentDepth 11 = .ok (.getfield 37, 3) := by decide +kernel
theorem dX7_currentDepth_14 : decode cX7_currentDepth 14 = .ok (.iload_n 1, 1) := by decide +kernel
theorem dX7_currentDepth_15 : decode cX7_currentDepth 15 = .ok (.invokevirtual 174, 3) := by decide +kernel
theorem dX7_currentDepth_18 : decode cX7_currentDepth 18 = .ok (.ifCond .ne 5, 3) := by decide +kernel
theorem dX7_currentDepth_21 : decode cX7_currentDepth 21 = .ok (.iconst (-1), 1) := by decide +kernel
theorem dX7_currentDepth_22 : decode cX7_currentDepth 22 = .ok (.ireturn, 1) := by decide +kernel
theorem dX7_currentDepth_23 : decode cX7_currentDepth 23 = .ok (.aload_n 0, 1) := by decide +kernel
theorem dX7_currentDepth_24 : decode cX7_currentDepth 24 = .ok (.iload_n 1, 1) := by decide +kernel
theorem dX7_currentDepth_25 : decode cX7_currentDepth 25 = .ok (.aload_n 0, 1) := by decide +kernel
theorem dX7_currentDepth_26 : decode cX7_currentDepth 26 = .ok (.getfield 51, 3) := by decide +kernel
theorem dX7_currentDepth_29 : decode cX7_currentDepth 29 = .ok (.getfield 194, 3) := by decide +kernel
theorem dX7_currentDepth_32 : decode cX7_currentDepth 32 = .ok (.aload_n 0, 1) := by decide +kernel
theorem dX7_currentDepth_33 : decode cX7_currentDepth 33 = .ok (.getfield 51, 3) := by decide +kernel
theorem dX7_currentDepth_36 : decode cX7_currentDepth 36 = .ok (.getfield 89, 3) := by decide +kernel
theorem dX7_currentDepth_39 : decode cX7_currentDepth 39 = .ok (.bipush 16, 2) := by decide +kernel
theorem dX7_currentDepth_41 : decode cX7_currentDepth 41 = .ok (.aload_n 0, 1) := by decide +kernel
theorem dX7_currentDepth_42 : decode cX7_currentDepth 42 = .ok (.getfield 51, 3) := by decide +kernel
theorem dX7_currentDepth_45 : decode cX7_currentDepth 45 = .ok (.getfield 89, 3) := by decide +kernel
theorem dX7_currentDepth_48 : decode cX7_currentDepth 48 = .ok (.invokestatic 197, 3) := by decide +kernel
theorem dX7_currentDepth_51 : decode cX7_currentDepth 51 = .ok (.invokevirtual 200, 3) := by decide +kernel
theorem dX7_currentDepth_54 : decode cX7_currentDepth 54 = .ok (.ireturn, 1) := by decide +kernel
set_option maxRecDepth 20000 in
theorem ggX7_levelOf_X3_isGiven : GoodIn wsX7_levelOf wsX3_isGiven := goodIn_r _ [7, 8, 43, 44, 45, 46, 47, 48, 49] (by decide +kernel) (by decide +kernel)
set_option maxRecDepth 20000 in
theorem gX7_levelOf_X3_isGiven : GoodIn wsX7_levelOf (wsV RX7 154 RX3 yX3_isGiven wsX3_isGiven) := goodIn_app (goodIn_of _ (by decide +kernel)) ggX7_levelOf_X3_isGiven
set_option maxRecDepth 20000 in
theorem ggX7_levelOf_X0_levelWith : GoodIn wsX7_levelOf wsX0_levelWith := goodIn_r _ [13, 14, 15, 16, 12, 17, 18, 19, 20, 21, 22, 23, 24, 25, 26, 27, 50, 51] (by decide +kernel) (by decide +kernel)
set_option maxRecDepth 20000 in
theorem gX7_levelOf_X0_levelWith : GoodIn wsX7_levelOf (wsV RX7 204 RX0 yX0_levelWith wsX0_levelWith) := goodIn_app (goodIn_of _ (by decide +kernel)) ggX7_levelOf_X0_levelWith
theorem dX7_levelOf_0 : decode cX7_levelOf 0 = .ok (.aload_n 0, 1) := by decide +kernel
theorem dX7_levelOf_1 : decode cX7_levelOf 1 = .ok (.getfield 30, 3) := by decide +kernel
theorem dX7_levelOf_4 : decode cX7_levelOf 4 = .ok (.iload_n 1, 1) := by decide +kernel
theorem dX7_levelOf_5 : decode cX7_levelOf 5 = .ok (.invokevirtual 154, 3) := by decide +kernel
theorem dX7_levelOf_8 : decode cX7_levelOf 8 = .ok (.ifCond .eq 14, 3) := by decide +kernel
theorem dX7_levelOf_11 : decode cX7_levelOf 11 = .ok (.aload_n 0, 1) := by decide +kernel
theorem dX7_levelOf_12 : decode cX7_levelOf 12 = .ok (.getfield 37, 3) := by decide +kernel
theorem dX7_levelOf_15 : decode cX7_levelOf 15 = .ok (.iload_n 1, 1) := by decide +kernel
theorem dX7_levelOf_16 : decode cX7_levelOf 16 = .ok (.invokevirtual 204, 3) := by decide +kernel
theorem dX7_levelOf_19 : decode cX7_levelOf 19 = .ok (.goto 5, 3) := by decide +kernel
theorem dX7_levelOf_22 : decode cX7_levelOf 22 = .ok (.bipush (-2), 2) := by decide +kernel
theorem dX7_levelOf_24 : decode cX7_levelOf 24 = .ok (.ireturn, 1) := by decide +kernel
set_option maxRecDepth 20000 in
theorem ggX7_failureLength_X3_isGiven : GoodIn wsX7_failureLength wsX3_isGiven := goodIn_r _ [8, 9, 95, 96, 97, 98, 99, 100, 101] (by decide +kernel) (by decide +kernel)
set_option maxRecDepth 20000 in
theorem gX7_failureLength_X3_isGiven : GoodIn wsX7_failureLength (wsV RX7 154 RX3 yX3_isGiven wsX3_isGiven) := goodIn_app (goodIn_of _ (by decide +kernel)) ggX7_failureLength_X3_isGiven
set_option maxRecDepth 20000 in
theorem ggX7_failureLength_X3_lengthOf : GoodIn wsX7_failureLength wsX3_lengthOf := goodIn_r _ [13, 14, 15, 5, 6, 7, 8, 9, 95, 96, 97, 98, 99, 100, 101] (by decide +kernel) (by decide +kernel)
set_option maxRecDepth 20000 in
theorem gX7_failureLength_X3_lengthOf : GoodIn wsX7_failureLength (wsV RX7 157 RX3 yX3_lengthOf wsX3_lengthOf) := goodIn_app (goodIn_of _ (by decide +kernel)) ggX7_failureLength_X3_lengthOf
set_option maxRecDepth 20000 in
theorem ggX7_failureLength_X0_levelWith : GoodIn wsX7_failureLength wsX0_levelWith := goodIn_r _ [20, 21, 22, 23, 19, 24, 25, 26, 27, 28, 29, 30, 31, 32, 33, 34, 102, 103] (by decide +kernel) (by decide +kernel)
set_option maxRecDepth 20000 in
theorem gX7_failureLength_X0_levelWith : GoodIn wsX7_failureLength (wsV RX7 204 RX0 yX0_levelWith wsX0_levelWith) := goodIn_app (goodIn_of _ (by decide +kernel)) ggX7_failureLength_X0_levelWith
set_option maxRecDepth 20000 in
theorem ggX7_failureLength_X3_firstByteOf : GoodIn wsX7_failureLength wsX3_firstByteOf := goodIn_r _ [38] (by decide +kernel) (by decide +kernel)
set_option maxRecDepth 20000 in
theorem gX7_failureLength_X3_firstByteOf : GoodIn wsX7_failureLength (wsV RX7 208 RX3 yX3_firstByteOf wsX3_firstByteOf) := goodIn_app (goodIn_of _ (by decide +kernel)) ggX7_failureLength_X3_firstByteOf
set_option maxRecDepth 20000 in
theorem ggX7_failureLength_X7_longestPrefixBefore : GoodIn wsX7_failureLength wsX7_longestPrefixBefore := goodIn_r _ [43, 44, 45, 46, 42, 47, 2, 1, 48, 22, 23, 19, 24, 25, 49, 27, 28, 29, 50, 31, 32, 33, 34, 51, 52, 53, 7, 54, 55, 56, 57, 11, 12, 13, 14, 15, 5, 6, 8, 9, 58, 36, 37, 38, 59, 60, 61, 62, 63, 64, 65, 66, 67, 68, 69, 70, 71, 72, 73, 74, 75, 76, 77, 78, 79, 80, 81, 82, 83, 84, 85, 86, 87, 88, 89, 90, 91, 92, 93, 94, 102, 103, 95, 96, 97, 98, 99, 100, 101, 104] (by decide +kernel) (by decide +kernel)
set_option maxRecDepth 20000 in
theorem gX7_failureLength_X7_longestPrefixBefore : GoodIn wsX7_failureLength (wsV RX7 200 RX7 yX7_longestPrefixBefore wsX7_longestPrefixBefore) := goodIn_app (goodIn_of _ (by decide +kernel)) ggX7_failureLength_X7_longestPrefixBefore
theorem dX7_failureLength_0 : decode cX7_failureLength 0 = .ok (.aload_n 0, 1) := by decide +kernel
theorem dX7_failureLength_1 : decode cX7_failureLength 1 = .ok (.getfield 30, 3) := by decide +kernel
theorem dX7_failureLength_4 : decode cX7_failureLength 4 = .ok (.iload_n 1, 1) := by decide +kernel
theorem dX7_failureLength_5 : decode cX7_failureLength 5 = .ok (.invokevirtual 154, 3) := by decide +kernel
theorem dX7_failureLength_8 : decode cX7_failureLength 8 = .ok (.ifCond .ne 6, 3) := by decide +kernel
theorem dX7_failureLength_11 : decode cX7_failureLength 11 = .ok (.bipush (-2), 2) := by decide +kernel
theorem dX7_failureLength_13 : decode cX7_failureLength 13 = .ok (.ireturn, 1) := by decide +kernel
theorem dX7_failureLength_14 : decode cX7_failureLength 14 = .ok (.iload_n 2, 1) := by decide +kernel
theorem dX7_failureLength_15 : decode cX7_failureLength 15 = .ok (.iconst 1, 1) := by decide +kernel
theorem dX7_failureLength_16 : decode cX7_failureLength 16 = .ok (.if_icmp .lt 15, 3) := by decide +kernel
theorem dX7_failureLength_19 : decode cX7_failureLength 19 = .ok (.iload_n 2, 1) := by decide +kernel
theorem dX7_failureLength_20 : decode cX7_failureLength 20 = .ok (.aload_n 0, 1) := by decide +kernel
theorem dX7_failureLength_21 : decode cX7_failureLength 21 = .ok (.getfield 30, 3) := by decide +kernel
theorem dX7_failureLength_24 : decode cX7_failureLength 24 = .ok (.iload_n 1, 1) := by decide +kernel
theorem dX7_failureLength_25 : decode cX7_failureLength 25 = .ok (.invokevirtual 157, 3) := by decide +kernel
theorem dX7_failureLength_28 : decode cX7_failureLength 28 = .ok (.if_icmp .le 6, 3) := by decide +kernel
theorem dX7_failureLength_31 : decode cX7_failureLength 31 = .ok (.bipush (-3), 2) := by decide +kernel
theorem dX7_failureLength_33 : decode cX7_failureLength 33 = .ok (.ireturn, 1) := by decide +kernel
theorem dX7_failureLength_34 : decode cX7_failureLength 34 = .ok (.aload_n 0, 1) := by decide +kernel
theorem dX7_failureLength_35 : decode cX7_failureLength 35 = .ok (.getfield 37, 3) := by decide +kernel
theorem dX7_failureLength_38 : decode cX7_failureLength 38 = .ok (.iload_n 1, 1) := by decide +kernel
theorem dX7_failureLength_39 : decode cX7_failureLength 39 = .ok (.invokevirtual 204, 3) := by decide +kernel
theorem dX7_failureLength_42 : decode cX7_failureLength 42 = .ok (.istore_n 3, 1) := by decide +kernel
theorem dX7_failureLength_43 : decode cX7_failureLength 43 = .ok (.iload_n 3, 1) := by decide +kernel
theorem dX7_failureLength_44 : decode cX7_failureLength 44 = .ok (.iconst (-1), 1) := by decide +kernel
theorem dX7_failureLength_45 : decode cX7_failureLength 45 = .ok (.if_icmp .ne 5, 3) := by decide +kernel
theorem dX7_failureLength_48 : decode cX7_failureLength 48 = .ok (.iconst (-1), 1) := by decide +kernel
theorem dX7_failureLength_49 : decode cX7_failureLength 49 = .ok (.ireturn, 1) := by decide +kernel
theorem dX7_failureLength_50 : decode cX7_failureLength 50 = .ok (.aload_n 0, 1) := by decide +kernel
theorem dX7_failureLength_51 : decode cX7_failureLength 51 = .ok (.iload_n 3, 1) := by decide +kernel
theorem dX7_failureLength_52 : decode cX7_failureLength 52 = .ok (.aload_n 0, 1) := by decide +kernel
theorem dX7_failureLength_53 : decode cX7_failureLength 53 = .ok (.getfield 30, 3) := by decide +kernel
theorem dX7_failureLength_56 : decode cX7_failureLength 56 = .ok (.getfield 207, 3) := by decide +kernel
theorem dX7_failureLength_59 : decode cX7_failureLength 59 = .ok (.aload_n 0, 1) := by decide +kernel
theorem dX7_failureLength_60 : decode cX7_failureLength 60 = .ok (.getfield 30, 3) := by decide +kernel
theorem dX7_failureLength_63 : decode cX7_failureLength 63 = .ok (.iload_n 1, 1) := by decide +kernel
theorem dX7_failureLength_64 : decode cX7_failureLength 64 = .ok (.invokevirtual 208, 3) := by decide +kernel
theorem dX7_failureLength_67 : decode cX7_failureLength 67 = .ok (.iload_n 2, 1) := by decide +kernel
theorem dX7_failureLength_68 : decode cX7_failureLength 68 = .ok (.iadd, 1) := by decide +kernel
theorem dX7_failureLength_69 : decode cX7_failureLength 69 = .ok (.iload_n 2, 1) := by decide +kernel
theorem dX7_failureLength_70 : decode cX7_failureLength 70 = .ok (.iconst 1, 1) := by decide +kernel
theorem dX7_failureLength_71 : decode cX7_failureLength 71 = .ok (.isub, 1) := by decide +kernel
theorem dX7_failureLength_72 : decode cX7_failureLength 72 = .ok (.invokevirtual 200, 3) := by decide +kernel
theorem dX7_failureLength_75 : decode cX7_failureLength 75 = .ok (.ireturn, 1) := by decide +kernel
set_option maxRecDepth 20000 in
theorem ggX7_longestPrefixBefore_X7_isPrefixInBucket : GoodIn wsX7_longestPrefixBefore wsX7_isPrefixInBucket := goodIn_r _ [5, 6, 7, 8, 9, 10, 11, 12, 13, 14, 15, 16, 17, 18, 19, 20, 21, 22, 23, 24, 25, 26, 27, 28, 29, 30, 31, 32, 33, 34, 35, 36, 37, 38, 39, 40, 41, 42, 43, 44, 45, 46, 47, 48, 49, 50, 51, 52, 53, 54, 55, 56, 57, 58, 59, 60, 61, 62, 63, 64, 65, 66, 67, 68, 69, 70, 71, 72, 73, 74, 75, 76, 77, 78, 79, 80, 81, 82, 83, 84, 85, 86, 87, 88, 89] (by decide +kernel) (by decide +kernel)
set_option maxRecDepth 20000 in
theorem gX7_longestPrefixBefore_X7_isPrefixInBucket : GoodIn wsX7_longestPrefixBefore (wsV RX7 211 RX7 yX7_isPrefixInBucket wsX7_isPrefixInBucket) := goodIn_app (goodIn_of _ (by decide +kernel)) ggX7_longestPrefixBefore_X7_isPrefixInBucket
theorem dX7_longestPrefixBefore_0 : decode cX7_longestPrefixBefore 0 = .ok (.iload 4, 2) := by decide +kernel
theorem dX7_longestPrefixBefore_2 : decode cX7_longestPrefixBefore 2 = .ok (.istore 5, 2) := by decide +kernel
theorem dX7_longestPrefixBefore_4 : decode cX7_longestPrefixBefore 4 = .ok (.iload 5, 2) := by decide +kernel
theorem dX7_longestPrefixBefore_6 : decode cX7_longestPrefixBefore 6 = .ok (.ifCond .le 27, 3) := by decide +kernel
theorem dX7_longestPrefixBefore_9 : decode cX7_longestPrefixBefore 9 = .ok (.aload_n 0, 1) := by decide +kernel
theorem dX7_longestPrefixBefore_10 : decode cX7_longestPrefixBefore 10 = .ok (.iload_n 1, 1) := by decide +kernel
theorem dX7_longestPrefixBefore_11 : decode cX7_longestPrefixBefore 11 = .ok (.aload_n 2, 1) := by decide +kernel
theorem dX7_longestPrefixBefore_12 : decode cX7_longestPrefixBefore 12 = .ok (.iload_n 3, 1) := by decide +kernel
theorem dX7_longestPrefixBefore_13 : decode cX7_longestPrefixBefore 13 = .ok (.iload 5, 2) := by decide +kernel
theorem dX7_longestPrefixBefore_15 : decode cX7_longestPrefixBefore 15 = .ok (.isub, 1) := by decide +kernel
theorem dX7_longestPrefixBefore_16 : decode cX7_longestPrefixBefore 16 = .ok (.iload 5, 2) := by decide +kernel
theorem dX7_longestPrefixBefore_18 : decode cX7_longestPrefixBefore 18 = .ok (.invokevirtual 211, 3) := by decide +kernel
theorem dX7_longestPrefixBefore_21 : decode cX7_longestPrefixBefore 21 = .ok (.ifCond .eq 6, 3) := by decide +kernel
theorem dX7_longestPrefixBefore_24 : decode cX7_longestPrefixBefore 24 = .ok (.iload 5, 2) := by decide +kernel
theorem dX7_longestPrefixBefore_26 : decode cX7_longestPrefixBefore 26 = .ok (.ireturn, 1) := by decide +kernel
theorem dX7_longestPrefixBefore_27 : decode cX7_longestPrefixBefore 27 = .ok (.iinc 5 (-1), 3) := by decide +kernel
theorem dX7_longestPrefixBefore_30 : decode cX7_longestPrefixBefore 30 = .ok (.goto (-26), 3) := by decide +kernel
theorem dX7_longestPrefixBefore_33 : decode cX7_longestPrefixBefore 33 = .ok (.iconst 0, 1) := by decide +kernel
theorem dX7_longestPrefixBefore_34 : decode cX7_longestPrefixBefore 34 = .ok (.ireturn, 1) := by decide +kernel
set_option maxRecDepth 20000 in
theorem ggX7_isPrefixInBucket_X0_firstAt : GoodIn wsX7_isPrefixInBucket wsX0_firstAt := goodIn_r _ [7, 8, 75, 76] (by decide +kernel) (by decide +kernel)
set_option maxRecDepth 20000 in
theorem gX7_isPrefixInBucket_X0_firstAt : GoodIn wsX7_isPrefixInBucket (wsV RX7 177 RX0 yX0_firstAt wsX0_firstAt) := goodIn_app (goodIn_of _ (by decide +kernel)) ggX7_isPrefixInBucket_X0_firstAt
set_option maxRecDepth 20000 in
theorem ggX7_isPrefixInBucket_X0_sizeAt : GoodIn wsX7_isPrefixInBucket wsX0_sizeAt := goodIn_r _ [12, 8, 75, 76] (by decide +kernel) (by decide +kernel)
set_option maxRecDepth 20000 in
theorem gX7_isPrefixInBucket_X0_sizeAt : GoodIn wsX7_isPrefixInBucket (wsV RX7 174 RX0 yX0_sizeAt wsX0_sizeAt) := goodIn_app (goodIn_of _ (by decide +kernel)) ggX7_isPrefixInBucket_X0_sizeAt
set_option maxRecDepth 20000 in
theorem ggX7_isPrefixInBucket_X0_memberAt : GoodIn wsX7_isPrefixInBucket wsX0_memberAt := goodIn_r _ [16, 8, 17, 75, 76] (by decide +kernel) (by decide +kernel)
set_option maxRecDepth 20000 in
theorem gX7_isPrefixInBucket_X0_memberAt : GoodIn wsX7_isPrefixInBucket (wsV RX7 183 RX0 yX0_memberAt wsX0_memberAt) := goodIn_app (goodIn_of _ (by decide +kernel)) ggX7_isPrefixInBucket_X0_memberAt
set_option maxRecDepth 20000 in
theorem ggX7_isPrefixInBucket_X3_startsWith : GoodIn wsX7_isPrefixInBucket wsX3_startsWith := goodIn_r _ [22, 23, 24, 25, 26, 27, 21, 28, 29, 30, 31, 32, 33, 34, 35, 36, 37, 38, 39, 40, 41, 42, 43, 44, 45, 46, 47, 48, 49, 50, 51, 52, 53, 54, 55, 56, 57, 58, 59, 77, 78, 79, 80, 81, 82, 83, 84] (by decide +kernel) (by decide +kernel)
set_option maxRecDepth 20000 in
theorem gX7_isPrefixInBucket_X3_startsWith : GoodIn wsX7_isPrefixInBucket (wsV RX7 215 RX3 yX3_startsWith wsX3_startsWith) := goodIn_app (goodIn_of _ (by decide +kernel)) ggX7_isPrefixInBucket_X3_startsWith
theorem dX7_isPrefixInBucket_0 : decode cX7_isPrefixInBucket 0 = .ok (.aload_n 0, 1) := by decide +kernel
theorem dX7_isPrefixInBucket_1 : decode cX7_isPrefixInBucket 1 = .ok (.getfield 37, 3) := by decide +kernel
theorem dX7_isPrefixInBucket_4 : decode cX7_isPrefixInBucket 4 = .ok (.iload_n 1, 1) := by decide +kernel
theorem dX7_isPrefixInBucket_5 : decode cX7_isPrefixInBucket 5 = .ok (.invokevirtual 177, 3) := by decide +kernel
theorem dX7_isPrefixInBucket_8 : decode cX7_isPrefixInBucket 8 = .ok (.istore 5, 2) := by decide +kernel
theorem dX7_isPrefixInBucket_10 : decode cX7_isPrefixInBucket 10 = .ok (.iload 5, 2) := by decide +kernel
theorem dX7_isPrefixInBucket_12 : decode cX7_isPrefixInBucket 12 = .ok (.aload_n 0, 1) := by decide +kernel
theorem dX7_isPrefixInBucket_13 : decode cX7_isPrefixInBucket 13 = .ok (.getfield 37, 3) := by decide +kernel
theorem dX7_isPrefixInBucket_16 : decode cX7_isPrefixInBucket 16 = .ok (.iload_n 1, 1) := by decide +kernel
theorem dX7_isPrefixInBucket_17 : decode cX7_isPrefixInBucket 17 = .ok (.invokevirtual 174, 3) := by decide +kernel
theorem dX7_isPrefixInBucket_20 : decode cX7_isPrefixInBucket 20 = .ok (.iadd, 1) := by decide +kernel
theorem dX7_isPrefixInBucket_21 : decode cX7_isPrefixInBucket 21 = .ok (.istore 6, 2) := by decide +kernel
theorem dX7_isPrefixInBucket_23 : decode cX7_isPrefixInBucket 23 = .ok (.iload 5, 2) := by decide +kernel
theorem dX7_isPrefixInBucket_25 : decode cX7_isPrefixInBucket 25 = .ok (.istore 7, 2) := by decide +kernel
theorem dX7_isPrefixInBucket_27 : decode cX7_isPrefixInBucket 27 = .ok (.iload 7, 2) := by decide +kernel
theorem dX7_isPrefixInBucket_29 : decode cX7_isPrefixInBucket 29 = .ok (.iload 6, 2) := by decide +kernel
theorem dX7_isPrefixInBucket_31 : decode cX7_isPrefixInBucket 31 = .ok (.if_icmp .ge 34, 3) := by decide +kernel
theorem dX7_isPrefixInBucket_34 : decode cX7_isPrefixInBucket 34 = .ok (.aload_n 0, 1) := by decide +kernel
theorem dX7_isPrefixInBucket_35 : decode cX7_isPrefixInBucket 35 = .ok (.getfield 30, 3) := by decide +kernel
theorem dX7_isPrefixInBucket_38 : decode cX7_isPrefixInBucket 38 = .ok (.aload_n 0, 1) := by decide +kernel
theorem dX7_isPrefixInBucket_39 : decode cX7_isPrefixInBucket 39 = .ok (.getfield 37, 3) := by decide +kernel
theorem dX7_isPrefixInBucket_42 : decode cX7_isPrefixInBucket 42 = .ok (.iload 7, 2) := by decide +kernel
theorem dX7_isPrefixInBucket_44 : decode cX7_isPrefixInBucket 44 = .ok (.invokevirtual 183, 3) := by decide +kernel
theorem dX7_isPrefixInBucket_47 : decode cX7_isPrefixInBucket 47 = .ok (.aload_n 2, 1) := by decide +kernel
theorem dX7_isPrefixInBucket_48 : decode cX7_isPrefixInBucket 48 = .ok (.iload_n 3, 1) := by decide +kernel
theorem dX7_isPrefixInBucket_49 : decode cX7_isPrefixInBucket 49 = .ok (.iload 4, 2) := by decide +kernel
theorem dX7_isPrefixInBucket_51 : decode cX7_isPrefixInBucket 51 = .ok (.invokevirtual 215, 3) := by decide +kernel
theorem dX7_isPrefixInBucket_54 : decode cX7_isPrefixInBucket 54 = .ok (.ifCond .eq 5, 3) := by decide +kernel
theorem dX7_isPrefixInBucket_57 : decode cX7_isPrefixInBucket 57 = .ok (.iconst 1, 1) := by decide +kernel
theorem dX7_isPrefixInBucket_58 : decode cX7_isPrefixInBucket 58 = .ok (.ireturn, 1) := by decide +kernel
theorem dX7_isPrefixInBucket_59 : decode cX7_isPrefixInBucket 59 = .ok (.iinc 7 1, 3) := by decide +kernel
theorem dX7_isPrefixInBucket_62 : decode cX7_isPrefixInBucket 62 = .ok (.goto (-35), 3) := by decide +kernel
theorem dX7_isPrefixInBucket_65 : decode cX7_isPrefixInBucket 65 = .ok (.iconst 0, 1) := by decide +kernel
theorem dX7_isPrefixInBucket_66 : decode cX7_isPrefixInBucket 66 = .ok (.ireturn, 1) := by decide +kernel
theorem dX7_buildWork_0 : decode cX7_buildWork 0 = .ok (.aload_n 0, 1) := by decide +kernel
theorem dX7_buildWork_1 : decode cX7_buildWork 1 = .ok (.getfield 79, 3) := by decide +kernel
theorem dX7_buildWork_4 : decode cX7_buildWork 4 = .ok (.ireturn, 1) := by decide +kernel
set_option maxRecDepth 20000 in
theorem ggX7_plannedWork_X0_storedSize : GoodIn wsX7_plannedWork wsX0_storedSize := goodIn_r _ [6] (by decide +kernel) (by decide +kernel)
set_option maxRecDepth 20000 in
theorem gX7_plannedWork_X0_storedSize : GoodIn wsX7_plannedWork (va_wsS RX7 218 yX0_storedSize wsX0_storedSize) := goodIn_app (goodIn_of _ (by decide +kernel)) ggX7_plannedWork_X0_storedSize
theorem dX7_plannedWork_0 : decode cX7_plannedWork 0 = .ok (.iload_n 1, 1) := by decide +kernel
theorem dX7_plannedWork_1 : decode cX7_plannedWork 1 = .ok (.ifCond .lt 9, 3) := by decide +kernel
theorem dX7_plannedWork_4 : decode cX7_plannedWork 4 = .ok (.iload_n 1, 1) := by decide +kernel
theorem dX7_plannedWork_5 : decode cX7_plannedWork 5 = .ok (.bipush 40, 2) := by decide +kernel
theorem dX7_plannedWork_7 : decode cX7_plannedWork 7 = .ok (.if_icmp .le 6, 3) := by decide +kernel
theorem dX7_plannedWork_10 : decode cX7_plannedWork 10 = .ok (.bipush (-3), 2) := by decide +kernel
theorem dX7_plannedWork_12 : decode cX7_plannedWork 12 = .ok (.ireturn, 1) := by decide +kernel
theorem dX7_plannedWork_13 : decode cX7_plannedWork 13 = .ok (.iconst 0, 1) := by decide +kernel
theorem dX7_plannedWork_14 : decode cX7_plannedWork 14 = .ok (.istore_n 2, 1) := by decide +kernel
theorem dX7_plannedWork_15 : decode cX7_plannedWork 15 = .ok (.iconst 1, 1) := by decide +kernel
theorem dX7_plannedWork_16 : decode cX7_plannedWork 16 = .ok (.istore_n 3, 1) := by decide +kernel
theorem dX7_plannedWork_17 : decode cX7_plannedWork 17 = .ok (.iload_n 3, 1) := by decide +kernel
theorem dX7_plannedWork_18 : decode cX7_plannedWork 18 = .ok (.iload_n 1, 1) := by decide +kernel
theorem dX7_plannedWork_19 : decode cX7_plannedWork 19 = .ok (.if_icmp .gt 24, 3) := by decide +kernel
theorem dX7_plannedWork_22 : decode cX7_plannedWork 22 = .ok (.iload_n 2, 1) := by decide +kernel
theorem dX7_plannedWork_23 : decode cX7_plannedWork 23 = .ok (.aload_n 0, 1) := by decide +kernel
theorem dX7_plannedWork_24 : decode cX7_plannedWork 24 = .ok (.getfield 37, 3) := by decide +kernel
theorem dX7_plannedWork_27 : decode cX7_plannedWork 27 = .ok (.getfield 147, 3) := by decide +kernel
theorem dX7_plannedWork_30 : decode cX7_plannedWork 30 = .ok (.iload_n 3, 1) := by decide +kernel
theorem dX7_plannedWork_31 : decode cX7_plannedWork 31 = .ok (.iadd, 1) := by decide +kernel
theorem dX7_plannedWork_32 : decode cX7_plannedWork 32 = .ok (.invokestatic 218, 3) := by decide +kernel
theorem dX7_plannedWork_35 : decode cX7_plannedWork 35 = .ok (.iadd, 1) := by decide +kernel
theorem dX7_plannedWork_36 : decode cX7_plannedWork 36 = .ok (.istore_n 2, 1) := by decide +kernel
theorem dX7_plannedWork_37 : decode cX7_plannedWork 37 = .ok (.iinc 3 1, 3) := by decide +kernel
theorem dX7_plannedWork_40 : decode cX7_plannedWork 40 = .ok (.goto (-23), 3) := by decide +kernel
theorem dX7_plannedWork_43 : decode cX7_plannedWork 43 = .ok (.iload_n 2, 1) := by decide +kernel
theorem dX7_plannedWork_44 : decode cX7_plannedWork 44 = .ok (.ireturn, 1) := by decide +kernel
theorem dX7_rebuildCount_0 : decode cX7_rebuildCount 0 = .ok (.aload_n 0, 1) := by decide +kernel
theorem dX7_rebuildCount_1 : decode cX7_rebuildCount 1 = .ok (.getfield 83, 3) := by decide +kernel
theorem dX7_rebuildCount_4 : decode cX7_rebuildCount 4 = .ok (.ireturn, 1) := by decide +kernel
set_option maxRecDepth 20000 in
theorem ggX7_scan_X7_isBufferPart : GoodIn wsX7_scan wsX7_isBufferPart := goodIn_r _ [9, 4, 2, 114, 115, 116, 117, 118, 119, 120, 121, 122, 123, 124, 125, 126, 127, 128, 129, 130] (by decide +kernel) (by decide +kernel)
set_option maxRecDepth 20000 in
theorem gX7_scan_X7_isBufferPart : GoodIn wsX7_scan (wsV RX7 98 RX7 yX7_isBufferPart wsX7_isBufferPart) := goodIn_app (goodIn_of _ (by decide +kernel)) ggX7_scan_X7_isBufferPart
set_option maxRecDepth 20000 in
theorem ggX7_scan_X1_at : GoodIn wsX7_scan wsX1_at := goodIn_r _ [14, 15, 16, 129, 130] (by decide +kernel) (by decide +kernel)
set_option maxRecDepth 20000 in
theorem gX7_scan_X1_at : GoodIn wsX7_scan (wsV RX7 135 RX1 yX1_at wsX1_at) := goodIn_app (goodIn_of _ (by decide +kernel)) ggX7_scan_X1_at
set_option maxRecDepth 20000 in
theorem ggX7_scan_X1_append : GoodIn wsX7_scan wsX1_append := goodIn_r _ [20, 15, 16, 129, 130] (by decide +kernel) (by decide +kernel)
set_option maxRecDepth 20000 in
theorem gX7_scan_X1_append : GoodIn wsX7_scan (wsV RX7 95 RX1 yX1_append wsX1_append) := goodIn_app (goodIn_of _ (by decide +kernel)) ggX7_scan_X1_append
set_option maxRecDepth 20000 in
theorem ggX7_scan_X7_noteMatchesAtEnd : GoodIn wsX7_scan wsX7_noteMatchesAtEnd := goodIn_r _ [24, 25, 26, 1, 2, 27, 28, 29, 30, 31, 32, 33, 34, 35, 36, 37, 38, 39, 40, 41, 42, 43, 44, 45, 8, 46, 47, 48, 49, 50, 51, 52, 53, 54, 55, 56, 57, 58, 59, 60, 61, 62, 63, 64, 65, 66, 67, 68, 69, 70, 71, 72, 73, 74, 75, 76, 77, 78, 79, 80, 81, 82, 83, 84, 85, 86, 87, 88, 89, 90, 91, 92, 114, 115, 116, 117, 118, 119, 120, 121, 122, 123, 124, 125, 126, 127, 128, 131, 132, 133, 134, 135, 136, 137, 129, 130, 138, 139] (by decide +kernel) (by decide +kernel)
set_option maxRecDepth 20000 in
theorem gX7_scan_X7_noteMatchesAtEnd : GoodIn wsX7_scan (wsV RX7 221 RX7 yX7_noteMatchesAtEnd wsX7_noteMatchesAtEnd) := goodIn_app (goodIn_of _ (by decide +kernel)) ggX7_scan_X7_noteMatchesAtEnd
set_option maxRecDepth 20000 in
theorem ggX7_scan_X7_reportMatchesAtEnd : GoodIn wsX7_scan wsX7_reportMatchesAtEnd := goodIn_r _ [96, 47, 1, 2, 3, 97, 98, 99, 100, 85, 101, 87, 88, 90, 91, 92, 102, 103, 104, 105, 106, 107, 108, 109, 114, 115, 116, 117, 118, 119, 120, 121, 122, 123, 124, 125, 126, 127, 128, 129, 130, 139, 140, 141, 142] (by decide +kernel) (by decide +kernel)
set_option maxRecDepth 20000 in
theorem gX7_scan_X7_reportMatchesAtEnd : GoodIn wsX7_scan (wsV RX7 224 RX7 yX7_reportMatchesAtEnd wsX7_reportMatchesAtEnd) := goodIn_app (goodIn_of _ (by decide +kernel)) ggX7_scan_X7_reportMatchesAtEnd
set_option maxRecDepth 20000 in
theorem ggX7_scan_X1_clear : GoodIn wsX7_scan wsX1_clear := goodIn_r _ [113, 15, 129, 130] (by decide +kernel) (by decide +kernel)
set_option maxRecDepth 20000 in
theorem gX7_scan_X1_clear : GoodIn wsX7_scan (wsV RX7 119 RX1 yX1_clear wsX1_clear) := goodIn_app (goodIn_of _ (by decide +kernel)) ggX7_scan_X1_clear
theorem dX7_scan_0 : decode cX7_scan 0 = .ok (.aload_n 0, 1) := by decide +kernel
theorem dX7_scan_1 : decode cX7_scan 1 = .ok (.iload_n 1, 1) := by decide +kernel
theorem dX7_scan_2 : decode cX7_scan 2 = .ok (.invokevirtual 98, 3) := by decide +kernel
theorem dX7_scan_5 : decode cX7_scan 5 = .ok (.ifCond .ne 6, 3) := by decide +kernel
theorem dX7_scan_8 : decode cX7_scan 8 = .ok (.bipush (-3), 2) := by decide +kernel
theorem dX7_scan_10 : decode cX7_scan 10 = .ok (.ireturn, 1) := by decide +kernel
theorem dX7_scan_11 : decode cX7_scan 11 = .ok (.iload_n 1, 1) := by decide +kernel
theorem dX7_scan_12 : decode cX7_scan 12 = .ok (.sipush 600, 3) := by decide +kernel
theorem dX7_scan_15 : decode cX7_scan 15 = .ok (.aload_n 0, 1) := by decide +kernel
theorem dX7_scan_16 : decode cX7_scan 16 = .ok (.getfield 51, 3) := by decide +kernel
theorem dX7_scan_19 : decode cX7_scan 19 = .ok (.getfield 89, 3) := by decide +kernel
theorem dX7_scan_22 : decode cX7_scan 22 = .ok (.isub, 1) := by decide +kernel
theorem dX7_scan_23 : decode cX7_scan 23 = .ok (.if_icmp .gt 7, 3) := by decide +kernel
theorem dX7_scan_26 : decode cX7_scan 26 = .ok (.iconst 1, 1) := by decide +kernel
theorem dX7_scan_27 : decode cX7_scan 27 = .ok (.goto 4, 3) := by decide +kernel
theorem dX7_scan_30 : decode cX7_scan 30 = .ok (.iconst 0, 1) := by decide +kernel
theorem dX7_scan_31 : decode cX7_scan 31 = .ok (.istore_n 2, 1) := by decide +kernel
theorem dX7_scan_32 : decode cX7_scan 32 = .ok (.aload_n 0, 1) := by decide +kernel
theorem dX7_scan_33 : decode cX7_scan 33 = .ok (.getfield 86, 3) := by decide +kernel
theorem dX7_scan_36 : decode cX7_scan 36 = .ok (.istore_n 3, 1) := by decide +kernel
theorem dX7_scan_37 : decode cX7_scan 37 = .ok (.iconst 0, 1) := by decide +kernel
theorem dX7_scan_38 : decode cX7_scan 38 = .ok (.istore 4, 2) := by decide +kernel
theorem dX7_scan_40 : decode cX7_scan 40 = .ok (.iload 4, 2) := by decide +kernel
theorem dX7_scan_42 : decode cX7_scan 42 = .ok (.iload_n 1, 1) := by decide +kernel
theorem dX7_scan_43 : decode cX7_scan 43 = .ok (.if_icmp .ge 37, 3) := by decide +kernel
theorem dX7_scan_46 : decode cX7_scan 46 = .ok (.iload_n 2, 1) := by decide +kernel
theorem dX7_scan_47 : decode cX7_scan 47 = .ok (.ifCond .eq 33, 3) := by decide +kernel
theorem dX7_scan_50 : decode cX7_scan 50 = .ok (.aload_n 0, 1) := by decide +kernel
theorem dX7_scan_51 : decode cX7_scan 51 = .ok (.getfield 51, 3) := by decide +kernel
theorem dX7_scan_54 : decode cX7_scan 54 = .ok (.aload_n 0, 1) := by decide +kernel
theorem dX7_scan_55 : decode cX7_scan 55 = .ok (.getfield 21, 3) := by decide +kernel
theorem dX7_scan_58 : decode cX7_scan 58 = .ok (.iload 4, 2) := by decide +kernel
theorem dX7_scan_60 : decode cX7_scan 60 = .ok (.invokevirtual 135, 3) := by decide +kernel
theorem dX7_scan_63 : decode cX7_scan 63 = .ok (.invokevirtual 95, 3) := by decide +kernel
theorem dX7_scan_66 : decode cX7_scan 66 = .ok (.aload_n 0, 1) := by decide +kernel
theorem dX7_scan_67 : decode cX7_scan 67 = .ok (.invokevirtual 221, 3) := by decide +kernel
theorem dX7_scan_70 : decode cX7_scan 70 = .ok (.aload_n 0, 1) := by decide +kernel
theorem dX7_scan_71 : decode cX7_scan 71 = .ok (.invokevirtual 224, 3) := by decide +kernel
theorem dX7_scan_74 : decode cX7_scan 74 = .ok (.iinc 4 1, 3) := by decide +kernel
theorem dX7_scan_77 : decode cX7_scan 77 = .ok (.goto (-37), 3) := by decide +kernel
theorem dX7_scan_80 : decode cX7_scan 80 = .ok (.aload_n 0, 1) := by decide +kernel
theorem dX7_scan_81 : decode cX7_scan 81 = .ok (.getfield 21, 3) := by decide +kernel
theorem dX7_scan_84 : decode cX7_scan 84 = .ok (.invokevirtual 119, 3) := by decide +kernel
theorem dX7_scan_87 : decode cX7_scan 87 = .ok (.iload_n 2, 1) := by decide +kernel
theorem dX7_scan_88 : decode cX7_scan 88 = .ok (.ifCond .eq 12, 3) := by decide +kernel
theorem dX7_scan_91 : decode cX7_scan 91 = .ok (.aload_n 0, 1) := by decide +kernel
theorem dX7_scan_92 : decode cX7_scan 92 = .ok (.getfield 86, 3) := by decide +kernel
theorem dX7_scan_95 : decode cX7_scan 95 = .ok (.iload_n 3, 1) := by decide +kernel
theorem dX7_scan_96 : decode cX7_scan 96 = .ok (.isub, 1) := by decide +kernel
theorem dX7_scan_97 : decode cX7_scan 97 = .ok (.goto 5, 3) := by decide +kernel
theorem dX7_scan_100 : decode cX7_scan 100 = .ok (.bipush (-6), 2) := by decide +kernel
theorem dX7_scan_102 : decode cX7_scan 102 = .ok (.ireturn, 1) := by decide +kernel
set_option maxRecDepth 20000 in
theorem ggX7_noteMatchesAtEnd_X3_isAlive : GoodIn wsX7_noteMatchesAtEnd wsX3_isAlive := goodIn_r _ [9, 10, 11, 12, 13, 8, 14, 15, 87, 88, 89, 90, 91, 92, 93] (by decide +kernel) (by decide +kernel)
set_option maxRecDepth 20000 in
theorem gX7_noteMatchesAtEnd_X3_isAlive : GoodIn wsX7_noteMatchesAtEnd (wsV RX7 138 RX3 yX3_isAlive wsX3_isAlive) := goodIn_app (goodIn_of _ (by decide +kernel)) ggX7_noteMatchesAtEnd_X3_isAlive
set_option maxRecDepth 20000 in
theorem ggX7_noteMatchesAtEnd_X3_lengthOf : GoodIn wsX7_noteMatchesAtEnd wsX3_lengthOf := goodIn_r _ [19, 20, 11, 12, 13, 8, 14, 15, 87, 88, 89, 90, 91, 92, 93] (by decide +kernel) (by decide +kernel)
set_option maxRecDepth 20000 in
theorem gX7_noteMatchesAtEnd_X3_lengthOf : GoodIn wsX7_noteMatchesAtEnd (wsV RX7 157 RX3 yX3_lengthOf wsX3_lengthOf) := goodIn_app (goodIn_of _ (by decide +kernel)) ggX7_noteMatchesAtEnd_X3_lengthOf
set_option maxRecDepth 20000 in
theorem ggX7_noteMatchesAtEnd_X7_noteMatch : GoodIn wsX7_noteMatchesAtEnd wsX7_noteMatch := goodIn_r _ [25, 1, 3, 26, 27, 28, 29, 8, 30, 31, 32, 33, 34, 35, 17, 18, 19, 20, 11, 12, 13, 14, 15, 36, 37, 38, 39, 40, 41, 42, 43, 44, 45, 46, 47, 48, 49, 50, 51, 52, 53, 54, 55, 56, 57, 58, 59, 60, 16, 61, 62, 63, 64, 65, 66, 67, 68, 69, 70, 71, 72, 73, 74, 75, 76, 77, 78, 79, 80, 81, 82, 83, 84, 85, 86, 94, 95, 87, 88, 89, 90, 91, 92, 93, 96, 97] (by decide +kernel) (by decide +kernel)
set_option maxRecDepth 20000 in
theorem gX7_noteMatchesAtEnd_X7_noteMatch : GoodIn wsX7_noteMatchesAtEnd (wsV RX7 227 RX7 yX7_noteMatch wsX7_noteMatch) := goodIn_app (goodIn_of _ (by decide +kernel)) ggX7_noteMatchesAtEnd_X7_noteMatch
theorem dX7_noteMatchesAtEnd_0 : decode cX7_noteMatchesAtEnd 0 = .ok (.iconst 0, 1) := by decide +kernel
theorem dX7_noteMatchesAtEnd_1 : decode cX7_noteMatchesAtEnd 1 = .ok (.istore_n 1, 1) := by decide +kernel
theorem dX7_noteMatchesAtEnd_2 : decode cX7_noteMatchesAtEnd 2 = .ok (.iload_n 1, 1) := by decide +kernel
theorem dX7_noteMatchesAtEnd_3 : decode cX7_noteMatchesAtEnd 3 = .ok (.aload_n 0, 1) := by decide +kernel
theorem dX7_noteMatchesAtEnd_4 : decode cX7_noteMatchesAtEnd 4 = .ok (.getfield 30, 3) := by decide +kernel
theorem dX7_noteMatchesAtEnd_7 : decode cX7_noteMatchesAtEnd 7 = .ok (.getfield 132, 3) := by decide +kernel
theorem dX7_noteMatchesAtEnd_10 : decode cX7_noteMatchesAtEnd 10 = .ok (.if_icmp .ge 41, 3) := by decide +kernel
theorem dX7_noteMatchesAtEnd_13 : decode cX7_noteMatchesAtEnd 13 = .ok (.aload_n 0, 1) := by decide +kernel
theorem dX7_noteMatchesAtEnd_14 : decode cX7_noteMatchesAtEnd 14 = .ok (.getfield 30, 3) := by decide +kernel
theorem dX7_noteMatchesAtEnd_17 : decode cX7_noteMatchesAtEnd 17 = .ok (.iload_n 1, 1) := by decide +kernel
theorem dX7_noteMatchesAtEnd_18 : decode cX7_noteMatchesAtEnd 18 = .ok (.invokevirtual 138, 3) := by decide +kernel
theorem dX7_noteMatchesAtEnd_21 : decode cX7_noteMatchesAtEnd 21 = .ok (.ifCond .eq 24, 3) := by decide +kernel
theorem dX7_noteMatchesAtEnd_24 : decode cX7_noteMatchesAtEnd 24 = .ok (.aload_n 0, 1) := by decide +kernel
theorem dX7_noteMatchesAtEnd_25 : decode cX7_noteMatchesAtEnd 25 = .ok (.iload_n 1, 1) := by decide +kernel
theorem dX7_noteMatchesAtEnd_26 : decode cX7_noteMatchesAtEnd 26 = .ok (.aload_n 0, 1) := by decide +kernel
theorem dX7_noteMatchesAtEnd_27 : decode cX7_noteMatchesAtEnd 27 = .ok (.getfield 51, 3) := by decide +kernel
theorem dX7_noteMatchesAtEnd_30 : decode cX7_noteMatchesAtEnd 30 = .ok (.getfield 89, 3) := by decide +kernel
theorem dX7_noteMatchesAtEnd_33 : decode cX7_noteMatchesAtEnd 33 = .ok (.aload_n 0, 1) := by decide +kernel
theorem dX7_noteMatchesAtEnd_34 : decode cX7_noteMatchesAtEnd 34 = .ok (.getfield 30, 3) := by decide +kernel
theorem dX7_noteMatchesAtEnd_37 : decode cX7_noteMatchesAtEnd 37 = .ok (.iload_n 1, 1) := by decide +kernel
theorem dX7_noteMatchesAtEnd_38 : decode cX7_noteMatchesAtEnd 38 = .ok (.invokevirtual 157, 3) := by decide +kernel
theorem dX7_noteMatchesAtEnd_41 : decode cX7_noteMatchesAtEnd 41 = .ok (.isub, 1) := by decide +kernel
theorem dX7_noteMatchesAtEnd_42 : decode cX7_noteMatchesAtEnd 42 = .ok (.invokevirtual 227, 3) := by decide +kernel
theorem dX7_noteMatchesAtEnd_45 : decode cX7_noteMatchesAtEnd 45 = .ok (.iinc 1 1, 3) := by decide +kernel
theorem dX7_noteMatchesAtEnd_48 : decode cX7_noteMatchesAtEnd 48 = .ok (.goto (-46), 3) := by decide +kernel
theorem dX7_noteMatchesAtEnd_51 : decode cX7_noteMatchesAtEnd 51 = .ok (.return_, 1) := by decide +kernel
set_option maxRecDepth 20000 in
theorem ggX7_noteAllMatchesOf_X7_noteMatch : GoodIn wsX7_noteAllMatchesOf wsX7_noteMatch := goodIn_r _ [7, 8, 1, 9, 10, 11, 12, 13, 14, 15, 16, 17, 18, 19, 20, 21, 22, 23, 24, 25, 26, 27, 28, 29, 30, 31, 32, 33, 34, 35, 36, 37, 38, 39, 40, 41, 42, 43, 44, 45, 46, 47, 48, 49, 50, 51, 52, 53, 54, 55, 56, 57, 58, 59, 60, 61, 62, 63, 64, 65, 66, 67, 68, 69, 70, 71, 72, 73, 74, 75, 76, 77, 78, 79, 80, 81, 82, 83, 84, 85, 86, 87, 88, 89, 90, 91] (by decide +kernel) (by decide +kernel)
set_option maxRecDepth 20000 in
theorem gX7_noteAllMatchesOf_X7_noteMatch : GoodIn wsX7_noteAllMatchesOf (wsV RX7 227 RX7 yX7_noteMatch wsX7_noteMatch) := goodIn_app (goodIn_of _ (by decide +kernel)) ggX7_noteAllMatchesOf_X7_noteMatch
theorem dX7_noteAllMatchesOf_0 : decode cX7_noteAllMatchesOf 0 = .ok (.iconst 0, 1) := by decide +kernel
theorem dX7_noteAllMatchesOf_1 : decode cX7_noteAllMatchesOf 1 = .ok (.istore_n 2, 1) := by decide +kernel
theorem dX7_noteAllMatchesOf_2 : decode cX7_noteAllMatchesOf 2 = .ok (.iload_n 2, 1) := by decide +kernel
theorem dX7_noteAllMatchesOf_3 : decode cX7_noteAllMatchesOf 3 = .ok (.aload_n 0, 1) := by decide +kernel
theorem dX7_noteAllMatchesOf_4 : decode cX7_noteAllMatchesOf 4 = .ok (.getfield 51, 3) := by decide +kernel
theorem dX7_noteAllMatchesOf_7 : decode cX7_noteAllMatchesOf 7 = .ok (.getfield 89, 3) := by decide +kernel
theorem dX7_noteAllMatchesOf_10 : decode cX7_noteAllMatchesOf 10 = .ok (.if_icmp .ge 15, 3) := by decide +kernel
theorem dX7_noteAllMatchesOf_13 : decode cX7_noteAllMatchesOf 13 = .ok (.aload_n 0, 1) := by decide +kernel
theorem dX7_noteAllMatchesOf_14 : decode cX7_noteAllMatchesOf 14 = .ok (.iload_n 1, 1) := by decide +kernel
theorem dX7_noteAllMatchesOf_15 : decode cX7_noteAllMatchesOf 15 = .ok (.iload_n 2, 1) := by decide +kernel
theorem dX7_noteAllMatchesOf_16 : decode cX7_noteAllMatchesOf 16 = .ok (.invokevirtual 227, 3) := by decide +kernel
theorem dX7_noteAllMatchesOf_19 : decode cX7_noteAllMatchesOf 19 = .ok (.iinc 2 1, 3) := by decide +kernel
theorem dX7_noteAllMatchesOf_22 : decode cX7_noteAllMatchesOf 22 = .ok (.goto (-20), 3) := by decide +kernel
theorem dX7_noteAllMatchesOf_25 : decode cX7_noteAllMatchesOf 25 = .ok (.return_, 1) := by decide +kernel
set_option maxRecDepth 20000 in
theorem ggX7_noteMatch_X3_standsAt : GoodIn wsX7_noteMatch wsX3_standsAt := goodIn_r _ [8, 9, 10, 11, 12, 13, 14, 15, 7, 16, 17, 18, 19, 20, 21, 22, 23, 24, 25, 26, 27, 28, 29, 30, 31, 32, 33, 34, 35, 36, 37, 38, 39, 40, 41, 42, 43, 44, 45, 46, 47, 75, 76, 77, 78, 79, 80, 81, 82, 83, 84] (by decide +kernel) (by decide +kernel)
set_option maxRecDepth 20000 in
theorem gX7_noteMatch_X3_standsAt : GoodIn wsX7_noteMatch (wsV RX7 231 RX3 yX3_standsAt wsX3_standsAt) := goodIn_app (goodIn_of _ (by decide +kernel)) ggX7_noteMatch_X3_standsAt
set_option maxRecDepth 20000 in
theorem ggX7_noteMatch_X3_lengthOf : GoodIn wsX7_noteMatch wsX3_lengthOf := goodIn_r _ [16, 17, 18, 19, 20, 7, 21, 22, 77, 78, 79, 80, 81, 82, 83] (by decide +kernel) (by decide +kernel)
set_option maxRecDepth 20000 in
theorem gX7_noteMatch_X3_lengthOf : GoodIn wsX7_noteMatch (wsV RX7 157 RX3 yX3_lengthOf wsX3_lengthOf) := goodIn_app (goodIn_of _ (by decide +kernel)) ggX7_noteMatch_X3_lengthOf
set_option maxRecDepth 20000 in
theorem ggX7_noteMatch_X5_put : GoodIn wsX7_noteMatch wsX5_put := goodIn_r _ [53, 54, 55, 56, 57, 58, 52, 59, 85] (by decide +kernel) (by decide +kernel)
set_option maxRecDepth 20000 in
theorem gX7_noteMatch_X5_put : GoodIn wsX7_noteMatch (wsV RX7 235 RX5 yX5_put wsX5_put) := goodIn_app (goodIn_of _ (by decide +kernel)) ggX7_noteMatch_X5_put
theorem dX7_noteMatch_0 : decode cX7_noteMatch 0 = .ok (.aload_n 0, 1) := by decide +kernel
theorem dX7_noteMatch_1 : decode cX7_noteMatch 1 = .ok (.getfield 30, 3) := by decide +kernel
theorem dX7_noteMatch_4 : decode cX7_noteMatch 4 = .ok (.iload_n 1, 1) := by decide +kernel
theorem dX7_noteMatch_5 : decode cX7_noteMatch 5 = .ok (.aload_n 0, 1) := by decide +kernel
theorem dX7_noteMatch_6 : decode cX7_noteMatch 6 = .ok (.getfield 51, 3) := by decide +kernel
theorem dX7_noteMatch_9 : decode cX7_noteMatch 9 = .ok (.iload_n 2, 1) := by decide +kernel
theorem dX7_noteMatch_10 : decode cX7_noteMatch 10 = .ok (.invokevirtual 231, 3) := by decide +kernel
theorem dX7_noteMatch_13 : decode cX7_noteMatch 13 = .ok (.ifCond .eq 20, 3) := by decide +kernel
theorem dX7_noteMatch_16 : decode cX7_noteMatch 16 = .ok (.aload_n 0, 1) := by decide +kernel
theorem dX7_noteMatch_17 : decode cX7_noteMatch 17 = .ok (.getfield 57, 3) := by decide +kernel
theorem dX7_noteMatch_20 : decode cX7_noteMatch 20 = .ok (.iload_n 2, 1) := by decide +kernel
theorem dX7_noteMatch_21 : decode cX7_noteMatch 21 = .ok (.aload_n 0, 1) := by decide +kernel
theorem dX7_noteMatch_22 : decode cX7_noteMatch 22 = .ok (.getfield 30, 3) := by decide +kernel
theorem dX7_noteMatch_25 : decode cX7_noteMatch 25 = .ok (.iload_n 1, 1) := by decide +kernel
theorem dX7_noteMatch_26 : decode cX7_noteMatch 26 = .ok (.invokevirtual 157, 3) := by decide +kernel
theorem dX7_noteMatch_29 : decode cX7_noteMatch 29 = .ok (.iload_n 1, 1) := by decide +kernel
theorem dX7_noteMatch_30 : decode cX7_noteMatch 30 = .ok (.invokevirtual 235, 3) := by decide +kernel
theorem dX7_noteMatch_33 : decode cX7_noteMatch 33 = .ok (.return_, 1) := by decide +kernel
set_option maxRecDepth 20000 in
theorem ggX7_dropAllMatchesOf_X3_lengthOf : GoodIn wsX7_dropAllMatchesOf wsX3_lengthOf := goodIn_r _ [9, 10, 11, 12, 13, 8, 14, 15, 48, 49, 50, 51, 52, 53, 54] (by decide +kernel) (by decide +kernel)
set_option maxRecDepth 20000 in
theorem gX7_dropAllMatchesOf_X3_lengthOf : GoodIn wsX7_dropAllMatchesOf (wsV RX7 157 RX3 yX3_lengthOf wsX3_lengthOf) := goodIn_app (goodIn_of _ (by decide +kernel)) ggX7_dropAllMatchesOf_X3_lengthOf
set_option maxRecDepth 20000 in
theorem ggX7_dropAllMatchesOf_X5_at : GoodIn wsX7_dropAllMatchesOf wsX5_at := goodIn_r _ [20, 21, 22, 23, 24, 19, 25, 55] (by decide +kernel) (by decide +kernel)
set_option maxRecDepth 20000 in
theorem gX7_dropAllMatchesOf_X5_at : GoodIn wsX7_dropAllMatchesOf (wsV RX7 239 RX5 yX5_at wsX5_at) := goodIn_app (goodIn_of _ (by decide +kernel)) ggX7_dropAllMatchesOf_X5_at
set_option maxRecDepth 20000 in
theorem ggX7_dropAllMatchesOf_X5_put : GoodIn wsX7_dropAllMatchesOf wsX5_put := goodIn_r _ [29, 21, 22, 30, 23, 24, 19, 25, 55] (by decide +kernel) (by decide +kernel)
set_option maxRecDepth 20000 in
theorem gX7_dropAllMatchesOf_X5_put : GoodIn wsX7_dropAllMatchesOf (wsV RX7 235 RX5 yX5_put wsX5_put) := goodIn_app (goodIn_of _ (by decide +kernel)) ggX7_dropAllMatchesOf_X5_put
theorem dX7_dropAllMatchesOf_0 : decode cX7_dropAllMatchesOf 0 = .ok (.aload_n 0, 1) := by decide +kernel
theorem dX7_dropAllMatchesOf_1 : decode cX7_dropAllMatchesOf 1 = .ok (.getfield 30, 3) := by decide +kernel
theorem dX7_dropAllMatchesOf_4 : decode cX7_dropAllMatchesOf 4 = .ok (.iload_n 1, 1) := by decide +kernel
theorem dX7_dropAllMatchesOf_5 : decode cX7_dropAllMatchesOf 5 = .ok (.invokevirtual 157, 3) := by decide +kernel
theorem dX7_dropAllMatchesOf_8 : decode cX7_dropAllMatchesOf 8 = .ok (.istore_n 2, 1) := by decide +kernel
theorem dX7_dropAllMatchesOf_9 : decode cX7_dropAllMatchesOf 9 = .ok (.iconst 0, 1) := by decide +kernel
theorem dX7_dropAllMatchesOf_10 : decode cX7_dropAllMatchesOf 10 = .ok (.istore_n 3, 1) := by decide +kernel
theorem dX7_dropAllMatchesOf_11 : decode cX7_dropAllMatchesOf 11 = .ok (.iload_n 3, 1) := by decide +kernel
theorem dX7_dropAllMatchesOf_12 : decode cX7_dropAllMatchesOf 12 = .ok (.aload_n 0, 1) := by decide +kernel
theorem dX7_dropAllMatchesOf_13 : decode cX7_dropAllMatchesOf 13 = .ok (.getfield 51, 3) := by decide +kernel
theorem dX7_dropAllMatchesOf_16 : decode cX7_dropAllMatchesOf 16 = .ok (.getfield 89, 3) := by decide +kernel
theorem dX7_dropAllMatchesOf_19 : decode cX7_dropAllMatchesOf 19 = .ok (.if_icmp .ge 32, 3) := by decide +kernel
theorem dX7_dropAllMatchesOf_22 : decode cX7_dropAllMatchesOf 22 = .ok (.aload_n 0, 1) := by decide +kernel
theorem dX7_dropAllMatchesOf_23 : decode cX7_dropAllMatchesOf 23 = .ok (.getfield 57, 3) := by decide +kernel
theorem dX7_dropAllMatchesOf_26 : decode cX7_dropAllMatchesOf 26 = .ok (.iload_n 3, 1) := by decide +kernel
theorem dX7_dropAllMatchesOf_27 : decode cX7_dropAllMatchesOf 27 = .ok (.iload_n 2, 1) := by decide +kernel
theorem dX7_dropAllMatchesOf_28 : decode cX7_dropAllMatchesOf 28 = .ok (.invokevirtual 239, 3) := by decide +kernel
theorem dX7_dropAllMatchesOf_31 : decode cX7_dropAllMatchesOf 31 = .ok (.iload_n 1, 1) := by decide +kernel
theorem dX7_dropAllMatchesOf_32 : decode cX7_dropAllMatchesOf 32 = .ok (.if_icmp .ne 13, 3) := by decide +kernel
theorem dX7_dropAllMatchesOf_35 : decode cX7_dropAllMatchesOf 35 = .ok (.aload_n 0, 1) := by decide +kernel
theorem dX7_dropAllMatchesOf_36 : decode cX7_dropAllMatchesOf 36 = .ok (.getfield 57, 3) := by decide +kernel
theorem dX7_dropAllMatchesOf_39 : decode cX7_dropAllMatchesOf 39 = .ok (.iload_n 3, 1) := by decide +kernel
theorem dX7_dropAllMatchesOf_40 : decode cX7_dropAllMatchesOf 40 = .ok (.iload_n 2, 1) := by decide +kernel
theorem dX7_dropAllMatchesOf_41 : decode cX7_dropAllMatchesOf 41 = .ok (.iconst (-1), 1) := by decide +kernel
theorem dX7_dropAllMatchesOf_42 : decode cX7_dropAllMatchesOf 42 = .ok (.invokevirtual 235, 3) := by decide +kernel
theorem dX7_dropAllMatchesOf_45 : decode cX7_dropAllMatchesOf 45 = .ok (.iinc 3 1, 3) := by decide +kernel
theorem dX7_dropAllMatchesOf_48 : decode cX7_dropAllMatchesOf 48 = .ok (.goto (-37), 3) := by decide +kernel
theorem dX7_dropAllMatchesOf_51 : decode cX7_dropAllMatchesOf 51 = .ok (.return_, 1) := by decide +kernel
set_option maxRecDepth 20000 in
theorem ggX7_reportMatchesAtEnd_X5_at : GoodIn wsX7_reportMatchesAtEnd wsX5_at := goodIn_r _ [10, 11, 12, 13, 14, 9, 15, 41] (by decide +kernel) (by decide +kernel)
set_option maxRecDepth 20000 in
theorem gX7_reportMatchesAtEnd_X5_at : GoodIn wsX7_reportMatchesAtEnd (wsV RX7 239 RX5 yX5_at wsX5_at) := goodIn_app (goodIn_of _ (by decide +kernel)) ggX7_reportMatchesAtEnd_X5_at
set_option maxRecDepth 20000 in
theorem ggX7_reportMatchesAtEnd_X4_add : GoodIn wsX7_reportMatchesAtEnd wsX4_add := goodIn_r _ [20, 21, 22, 23, 42, 43, 44] (by decide +kernel) (by decide +kernel)
set_option maxRecDepth 20000 in
theorem gX7_reportMatchesAtEnd_X4_add : GoodIn wsX7_reportMatchesAtEnd (wsV RX7 241 RX4 yX4_add wsX4_add) := goodIn_app (goodIn_of _ (by decide +kernel)) ggX7_reportMatchesAtEnd_X4_add
theorem dX7_reportMatchesAtEnd_0 : decode cX7_reportMatchesAtEnd 0 = .ok (.bipush 16, 2) := by decide +kernel
theorem dX7_reportMatchesAtEnd_2 : decode cX7_reportMatchesAtEnd 2 = .ok (.istore_n 1, 1) := by decide +kernel
theorem dX7_reportMatchesAtEnd_3 : decode cX7_reportMatchesAtEnd 3 = .ok (.iload_n 1, 1) := by decide +kernel
theorem dX7_reportMatchesAtEnd_4 : decode cX7_reportMatchesAtEnd 4 = .ok (.ifCond .le 59, 3) := by decide +kernel
theorem dX7_reportMatchesAtEnd_7 : decode cX7_reportMatchesAtEnd 7 = .ok (.aload_n 0, 1) := by decide +kernel
theorem dX7_reportMatchesAtEnd_8 : decode cX7_reportMatchesAtEnd 8 = .ok (.getfield 57, 3) := by decide +kernel
theorem dX7_reportMatchesAtEnd_11 : decode cX7_reportMatchesAtEnd 11 = .ok (.aload_n 0, 1) := by decide +kernel
theorem dX7_reportMatchesAtEnd_12 : decode cX7_reportMatchesAtEnd 12 = .ok (.getfield 51, 3) := by decide +kernel
theorem dX7_reportMatchesAtEnd_15 : decode cX7_reportMatchesAtEnd 15 = .ok (.getfield 89, 3) := by decide +kernel
theorem dX7_reportMatchesAtEnd_18 : decode cX7_reportMatchesAtEnd 18 = .ok (.iload_n 1, 1) := by decide +kernel
theorem dX7_reportMatchesAtEnd_19 : decode cX7_reportMatchesAtEnd 19 = .ok (.isub, 1) := by decide +kernel
theorem dX7_reportMatchesAtEnd_20 : decode cX7_reportMatchesAtEnd 20 = .ok (.iload_n 1, 1) := by decide +kernel
theorem dX7_reportMatchesAtEnd_21 : decode cX7_reportMatchesAtEnd 21 = .ok (.invokevirtual 239, 3) := by decide +kernel
theorem dX7_reportMatchesAtEnd_24 : decode cX7_reportMatchesAtEnd 24 = .ok (.istore_n 2, 1) := by decide +kernel
theorem dX7_reportMatchesAtEnd_25 : decode cX7_reportMatchesAtEnd 25 = .ok (.iload_n 2, 1) := by decide +kernel
theorem dX7_reportMatchesAtEnd_26 : decode cX7_reportMatchesAtEnd 26 = .ok (.iconst (-1), 1) := by decide +kernel
theorem dX7_reportMatchesAtEnd_27 : decode cX7_reportMatchesAtEnd 27 = .ok (.if_icmp .eq 30, 3) := by decide +kernel
theorem dX7_reportMatchesAtEnd_30 : decode cX7_reportMatchesAtEnd 30 = .ok (.aload_n 0, 1) := by decide +kernel
theorem dX7_reportMatchesAtEnd_31 : decode cX7_reportMatchesAtEnd 31 = .ok (.dup, 1) := by decide +kernel
theorem dX7_reportMatchesAtEnd_32 : decode cX7_reportMatchesAtEnd 32 = .ok (.getfield 86, 3) := by decide +kernel
theorem dX7_reportMatchesAtEnd_35 : decode cX7_reportMatchesAtEnd 35 = .ok (.iconst 1, 1) := by decide +kernel
theorem dX7_reportMatchesAtEnd_36 : decode cX7_reportMatchesAtEnd 36 = .ok (.iadd, 1) := by decide +kernel
theorem dX7_reportMatchesAtEnd_37 : decode cX7_reportMatchesAtEnd 37 = .ok (.putfield 86, 3) := by decide +kernel
theorem dX7_reportMatchesAtEnd_40 : decode cX7_reportMatchesAtEnd 40 = .ok (.aload_n 0, 1) := by decide +kernel
theorem dX7_reportMatchesAtEnd_41 : decode cX7_reportMatchesAtEnd 41 = .ok (.getfield 64, 3) := by decide +kernel
theorem dX7_reportMatchesAtEnd_44 : decode cX7_reportMatchesAtEnd 44 = .ok (.aload_n 0, 1) := by decide +kernel
theorem dX7_reportMatchesAtEnd_45 : decode cX7_reportMatchesAtEnd 45 = .ok (.getfield 51, 3) := by decide +kernel
theorem dX7_reportMatchesAtEnd_48 : decode cX7_reportMatchesAtEnd 48 = .ok (.getfield 89, 3) := by decide +kernel
theorem dX7_reportMatchesAtEnd_51 : decode cX7_reportMatchesAtEnd 51 = .ok (.iconst 1, 1) := by decide +kernel
theorem dX7_reportMatchesAtEnd_52 : decode cX7_reportMatchesAtEnd 52 = .ok (.isub, 1) := by decide +kernel
theorem dX7_reportMatchesAtEnd_53 : decode cX7_reportMatchesAtEnd 53 = .ok (.iload_n 2, 1) := by decide +kernel
theorem dX7_reportMatchesAtEnd_54 : decode cX7_reportMatchesAtEnd 54 = .ok (.invokevirtual 241, 3) := by decide +kernel
theorem dX7_reportMatchesAtEnd_57 : decode cX7_reportMatchesAtEnd 57 = .ok (.iinc 1 (-1), 3) := by decide +kernel
theorem dX7_reportMatchesAtEnd_60 : decode cX7_reportMatchesAtEnd 60 = .ok (.goto (-57), 3) := by decide +kernel
theorem dX7_reportMatchesAtEnd_63 : decode cX7_reportMatchesAtEnd 63 = .ok (.return_, 1) := by decide +kernel
set_option maxRecDepth 20000 in
theorem ggX7_resetStream_X1_clear : GoodIn wsX7_resetStream wsX1_clear := goodIn_r _ [10, 11, 43, 44] (by decide +kernel) (by decide +kernel)
set_option maxRecDepth 20000 in
theorem gX7_resetStream_X1_clear : GoodIn wsX7_resetStream (wsV RX7 119 RX1 yX1_clear wsX1_clear) := goodIn_app (goodIn_of _ (by decide +kernel)) ggX7_resetStream_X1_clear
set_option maxRecDepth 20000 in
theorem ggX7_resetStream_X5_clear : GoodIn wsX7_resetStream wsX5_clear := goodIn_r _ [16, 17, 18, 19, 20, 21, 45] (by decide +kernel) (by decide +kernel)
set_option maxRecDepth 20000 in
theorem gX7_resetStream_X5_clear : GoodIn wsX7_resetStream (wsV RX7 244 RX5 yX5_clear wsX5_clear) := goodIn_app (goodIn_of _ (by decide +kernel)) ggX7_resetStream_X5_clear
set_option maxRecDepth 20000 in
theorem ggX7_resetStream_X4_clear : GoodIn wsX7_resetStream wsX4_clear := goodIn_r _ [26, 27, 46, 47, 48] (by decide +kernel) (by decide +kernel)
set_option maxRecDepth 20000 in
theorem gX7_resetStream_X4_clear : GoodIn wsX7_resetStream (wsV RX7 245 RX4 yX4_clear wsX4_clear) := goodIn_app (goodIn_of _ (by decide +kernel)) ggX7_resetStream_X4_clear
theorem dX7_resetStream_0 : decode cX7_resetStream 0 = .ok (.aload_n 0, 1) := by decide +kernel
theorem dX7_resetStream_1 : decode cX7_resetStream 1 = .ok (.getfield 51, 3) := by decide +kernel
theorem dX7_resetStream_4 : decode cX7_resetStream 4 = .ok (.getfield 89, 3) := by decide +kernel
theorem dX7_resetStream_7 : decode cX7_resetStream 7 = .ok (.istore_n 1, 1) := by decide +kernel
theorem dX7_resetStream_8 : decode cX7_resetStream 8 = .ok (.aload_n 0, 1) := by decide +kernel
theorem dX7_resetStream_9 : decode cX7_resetStream 9 = .ok (.getfield 51, 3) := by decide +kernel
theorem dX7_resetStream_12 : decode cX7_resetStream 12 = .ok (.invokevirtual 119, 3) := by decide +kernel
theorem dX7_resetStream_15 : decode cX7_resetStream 15 = .ok (.aload_n 0, 1) := by decide +kernel
theorem dX7_resetStream_16 : decode cX7_resetStream 16 = .ok (.getfield 57, 3) := by decide +kernel
theorem dX7_resetStream_19 : decode cX7_resetStream 19 = .ok (.invokevirtual 244, 3) := by decide +kernel
theorem dX7_resetStream_22 : decode cX7_resetStream 22 = .ok (.aload_n 0, 1) := by decide +kernel
theorem dX7_resetStream_23 : decode cX7_resetStream 23 = .ok (.getfield 64, 3) := by decide +kernel
theorem dX7_resetStream_26 : decode cX7_resetStream 26 = .ok (.invokevirtual 245, 3) := by decide +kernel
theorem dX7_resetStream_29 : decode cX7_resetStream 29 = .ok (.aload_n 0, 1) := by decide +kernel
theorem dX7_resetStream_30 : decode cX7_resetStream 30 = .ok (.iconst 0, 1) := by decide +kernel
theorem dX7_resetStream_31 : decode cX7_resetStream 31 = .ok (.putfield 86, 3) := by decide +kernel
theorem dX7_resetStream_34 : decode cX7_resetStream 34 = .ok (.iload_n 1, 1) := by decide +kernel
theorem dX7_resetStream_35 : decode cX7_resetStream 35 = .ok (.ireturn, 1) := by decide +kernel
theorem dX7_streamLength_0 : decode cX7_streamLength 0 = .ok (.aload_n 0, 1) := by decide +kernel
theorem dX7_streamLength_1 : decode cX7_streamLength 1 = .ok (.getfield 51, 3) := by decide +kernel
theorem dX7_streamLength_4 : decode cX7_streamLength 4 = .ok (.getfield 89, 3) := by decide +kernel
theorem dX7_streamLength_7 : decode cX7_streamLength 7 = .ok (.ireturn, 1) := by decide +kernel
set_option maxRecDepth 20000 in
theorem ggX7_streamByte_X1_at : GoodIn wsX7_streamByte wsX1_at := goodIn_r _ [6, 7, 8, 24, 25] (by decide +kernel) (by decide +kernel)
set_option maxRecDepth 20000 in
theorem gX7_streamByte_X1_at : GoodIn wsX7_streamByte (wsV RX7 135 RX1 yX1_at wsX1_at) := goodIn_app (goodIn_of _ (by decide +kernel)) ggX7_streamByte_X1_at
theorem dX7_streamByte_0 : decode cX7_streamByte 0 = .ok (.iload_n 1, 1) := by decide +kernel
theorem dX7_streamByte_1 : decode cX7_streamByte 1 = .ok (.ifCond .ge 8, 3) := by decide +kernel
theorem dX7_streamByte_4 : decode cX7_streamByte 4 = .ok (.bipush (-3), 2) := by decide +kernel
theorem dX7_streamByte_6 : decode cX7_streamByte 6 = .ok (.goto 11, 3) := by decide +kernel
theorem dX7_streamByte_9 : decode cX7_streamByte 9 = .ok (.aload_n 0, 1) := by decide +kernel
theorem dX7_streamByte_10 : decode cX7_streamByte 10 = .ok (.getfield 51, 3) := by decide +kernel
theorem dX7_streamByte_13 : decode cX7_streamByte 13 = .ok (.iload_n 1, 1) := by decide +kernel
theorem dX7_streamByte_14 : decode cX7_streamByte 14 = .ok (.invokevirtual 135, 3) := by decide +kernel
theorem dX7_streamByte_17 : decode cX7_streamByte 17 = .ok (.ireturn, 1) := by decide +kernel
theorem dX7_reportCount_0 : decode cX7_reportCount 0 = .ok (.aload_n 0, 1) := by decide +kernel
theorem dX7_reportCount_1 : decode cX7_reportCount 1 = .ok (.getfield 86, 3) := by decide +kernel
theorem dX7_reportCount_4 : decode cX7_reportCount 4 = .ok (.ireturn, 1) := by decide +kernel
set_option maxRecDepth 20000 in
theorem ggX7_reportEnd_X4_positionAt : GoodIn wsX7_reportEnd wsX4_positionAt := goodIn_r _ [6, 7, 8, 24, 25, 26] (by decide +kernel) (by decide +kernel)
set_option maxRecDepth 20000 in
theorem gX7_reportEnd_X4_positionAt : GoodIn wsX7_reportEnd (wsV RX7 246 RX4 yX4_positionAt wsX4_positionAt) := goodIn_app (goodIn_of _ (by decide +kernel)) ggX7_reportEnd_X4_positionAt
theorem dX7_reportEnd_0 : decode cX7_reportEnd 0 = .ok (.iload_n 1, 1) := by decide +kernel
theorem dX7_reportEnd_1 : decode cX7_reportEnd 1 = .ok (.ifCond .ge 8, 3) := by decide +kernel
theorem dX7_reportEnd_4 : decode cX7_reportEnd 4 = .ok (.bipush (-3), 2) := by decide +kernel
theorem dX7_reportEnd_6 : decode cX7_reportEnd 6 = .ok (.goto 11, 3) := by decide +kernel
theorem dX7_reportEnd_9 : decode cX7_reportEnd 9 = .ok (.aload_n 0, 1) := by decide +kernel
theorem dX7_reportEnd_10 : decode cX7_reportEnd 10 = .ok (.getfield 64, 3) := by decide +kernel
theorem dX7_reportEnd_13 : decode cX7_reportEnd 13 = .ok (.iload_n 1, 1) := by decide +kernel
theorem dX7_reportEnd_14 : decode cX7_reportEnd 14 = .ok (.invokevirtual 246, 3) := by decide +kernel
theorem dX7_reportEnd_17 : decode cX7_reportEnd 17 = .ok (.ireturn, 1) := by decide +kernel
set_option maxRecDepth 20000 in
theorem ggX7_reportKeyword_X4_keywordAt : GoodIn wsX7_reportKeyword wsX4_keywordAt := goodIn_r _ [6, 7, 8, 24, 25, 26] (by decide +kernel) (by decide +kernel)
set_option maxRecDepth 20000 in
theorem gX7_reportKeyword_X4_keywordAt : GoodIn wsX7_reportKeyword (wsV RX7 249 RX4 yX4_keywordAt wsX4_keywordAt) := goodIn_app (goodIn_of _ (by decide +kernel)) ggX7_reportKeyword_X4_keywordAt
theorem dX7_reportKeyword_0 : decode cX7_reportKeyword 0 = .ok (.iload_n 1, 1) := by decide +kernel
theorem dX7_reportKeyword_1 : decode cX7_reportKeyword 1 = .ok (.ifCond .ge 8, 3) := by decide +kernel
theorem dX7_reportKeyword_4 : decode cX7_reportKeyword 4 = .ok (.bipush (-3), 2) := by decide +kernel
theorem dX7_reportKeyword_6 : decode cX7_reportKeyword 6 = .ok (.goto 11, 3) := by decide +kernel
theorem dX7_reportKeyword_9 : decode cX7_reportKeyword 9 = .ok (.aload_n 0, 1) := by decide +kernel
theorem dX7_reportKeyword_10 : decode cX7_reportKeyword 10 = .ok (.getfield 64, 3) := by decide +kernel
theorem dX7_reportKeyword_13 : decode cX7_reportKeyword 13 = .ok (.iload_n 1, 1) := by decide +kernel
theorem dX7_reportKeyword_14 : decode cX7_reportKeyword 14 = .ok (.invokevirtual 249, 3) := by decide +kernel
theorem dX7_reportKeyword_17 : decode cX7_reportKeyword 17 = .ok (.ireturn, 1) := by decide +kernel
set_option maxRecDepth 20000 in
theorem ggX7_matchCount_X5_countFrom : GoodIn wsX7_matchCount wsX5_countFrom := goodIn_r _ [8, 9, 10, 11, 7, 12, 13, 14, 15, 16, 17, 35] (by decide +kernel) (by decide +kernel)
set_option maxRecDepth 20000 in
theorem gX7_matchCount_X5_countFrom : GoodIn wsX7_matchCount (wsV RX7 252 RX5 yX5_countFrom wsX5_countFrom) := goodIn_app (goodIn_of _ (by decide +kernel)) ggX7_matchCount_X5_countFrom
theorem dX7_matchCount_0 : decode cX7_matchCount 0 = .ok (.iconst 0, 1) := by decide +kernel
theorem dX7_matchCount_1 : decode cX7_matchCount 1 = .ok (.istore_n 1, 1) := by decide +kernel
theorem dX7_matchCount_2 : decode cX7_matchCount 2 = .ok (.iconst 0, 1) := by decide +kernel
theorem dX7_matchCount_3 : decode cX7_matchCount 3 = .ok (.istore_n 2, 1) := by decide +kernel
theorem dX7_matchCount_4 : decode cX7_matchCount 4 = .ok (.iload_n 2, 1) := by decide +kernel
theorem dX7_matchCount_5 : decode cX7_matchCount 5 = .ok (.aload_n 0, 1) := by decide +kernel
theorem dX7_matchCount_6 : decode cX7_matchCount 6 = .ok (.getfield 51, 3) := by decide +kernel
theorem dX7_matchCount_9 : decode cX7_matchCount 9 = .ok (.getfield 89, 3) := by decide +kernel
theorem dX7_matchCount_12 : decode cX7_matchCount 12 = .ok (.if_icmp .ge 20, 3) := by decide +kernel
theorem dX7_matchCount_15 : decode cX7_matchCount 15 = .ok (.iload_n 1, 1) := by decide +kernel
theorem dX7_matchCount_16 : decode cX7_matchCount 16 = .ok (.aload_n 0, 1) := by decide +kernel
theorem dX7_matchCount_17 : decode cX7_matchCount 17 = .ok (.getfield 57, 3) := by decide +kernel
theorem dX7_matchCount_20 : decode cX7_matchCount 20 = .ok (.iload_n 2, 1) := by decide +kernel
theorem dX7_matchCount_21 : decode cX7_matchCount 21 = .ok (.invokevirtual 252, 3) := by decide +kernel
theorem dX7_matchCount_24 : decode cX7_matchCount 24 = .ok (.iadd, 1) := by decide +kernel
theorem dX7_matchCount_25 : decode cX7_matchCount 25 = .ok (.istore_n 1, 1) := by decide +kernel
theorem dX7_matchCount_26 : decode cX7_matchCount 26 = .ok (.iinc 2 1, 3) := by decide +kernel
theorem dX7_matchCount_29 : decode cX7_matchCount 29 = .ok (.goto (-25), 3) := by decide +kernel
theorem dX7_matchCount_32 : decode cX7_matchCount 32 = .ok (.iload_n 1, 1) := by decide +kernel
theorem dX7_matchCount_33 : decode cX7_matchCount 33 = .ok (.ireturn, 1) := by decide +kernel
set_option maxRecDepth 20000 in
theorem ggX7_matchCountOf_X3_isAlive : GoodIn wsX7_matchCountOf wsX3_isAlive := goodIn_r _ [9, 10, 11, 12, 13, 8, 14, 15, 48, 49, 50, 51, 52, 53, 54] (by decide +kernel) (by decide +kernel)
set_option maxRecDepth 20000 in
theorem gX7_matchCountOf_X3_isAlive : GoodIn wsX7_matchCountOf (wsV RX7 138 RX3 yX3_isAlive wsX3_isAlive) := goodIn_app (goodIn_of _ (by decide +kernel)) ggX7_matchCountOf_X3_isAlive
set_option maxRecDepth 20000 in
theorem ggX7_matchCountOf_X3_lengthOf : GoodIn wsX7_matchCountOf wsX3_lengthOf := goodIn_r _ [19, 20, 11, 12, 13, 8, 14, 15, 48, 49, 50, 51, 52, 53, 54] (by decide +kernel) (by decide +kernel)
set_option maxRecDepth 20000 in
theorem gX7_matchCountOf_X3_lengthOf : GoodIn wsX7_matchCountOf (wsV RX7 157 RX3 yX3_lengthOf wsX3_lengthOf) := goodIn_app (goodIn_of _ (by decide +kernel)) ggX7_matchCountOf_X3_lengthOf
set_option maxRecDepth 20000 in
theorem ggX7_matchCountOf_X5_at : GoodIn wsX7_matchCountOf wsX5_at := goodIn_r _ [25, 26, 27, 28, 29, 24, 30, 55] (by decide +kernel) (by decide +kernel)
set_option maxRecDepth 20000 in
theorem gX7_matchCountOf_X5_at : GoodIn wsX7_matchCountOf (wsV RX7 239 RX5 yX5_at wsX5_at) := goodIn_app (goodIn_of _ (by decide +kernel)) ggX7_matchCountOf_X5_at
theorem dX7_matchCountOf_0 : decode cX7_matchCountOf 0 = .ok (.aload_n 0, 1) := by decide +kernel
theorem dX7_matchCountOf_1 : decode cX7_matchCountOf 1 = .ok (.getfield 30, 3) := by decide +kernel
theorem dX7_matchCountOf_4 : decode cX7_matchCountOf 4 = .ok (.iload_n 1, 1) := by decide +kernel
theorem dX7_matchCountOf_5 : decode cX7_matchCountOf 5 = .ok (.invokevirtual 138, 3) := by decide +kernel
theorem dX7_matchCountOf_8 : decode cX7_matchCountOf 8 = .ok (.ifCond .ne 6, 3) := by decide +kernel
theorem dX7_matchCountOf_11 : decode cX7_matchCountOf 11 = .ok (.bipush (-2), 2) := by decide +kernel
theorem dX7_matchCountOf_13 : decode cX7_matchCountOf 13 = .ok (.ireturn, 1) := by decide +kernel
theorem dX7_matchCountOf_14 : decode cX7_matchCountOf 14 = .ok (.aload_n 0, 1) := by decide +kernel
theorem dX7_matchCountOf_15 : decode cX7_matchCountOf 15 = .ok (.getfield 30, 3) := by decide +kernel
theorem dX7_matchCountOf_18 : decode cX7_matchCountOf 18 = .ok (.iload_n 1, 1) := by decide +kernel
theorem dX7_matchCountOf_19 : decode cX7_matchCountOf 19 = .ok (.invokevirtual 157, 3) := by decide +kernel
theorem dX7_matchCountOf_22 : decode cX7_matchCountOf 22 = .ok (.istore_n 2, 1) := by decide +kernel
theorem dX7_matchCountOf_23 : decode cX7_matchCountOf 23 = .ok (.iconst 0, 1) := by decide +kernel
theorem dX7_matchCountOf_24 : decode cX7_matchCountOf 24 = .ok (.istore_n 3, 1) := by decide +kernel
theorem dX7_matchCountOf_25 : decode cX7_matchCountOf 25 = .ok (.iconst 0, 1) := by decide +kernel
theorem dX7_matchCountOf_26 : decode cX7_matchCountOf 26 = .ok (.istore 4, 2) := by decide +kernel
theorem dX7_matchCountOf_28 : decode cX7_matchCountOf 28 = .ok (.iload 4, 2) := by decide +kernel
theorem dX7_matchCountOf_30 : decode cX7_matchCountOf 30 = .ok (.aload_n 0, 1) := by decide +kernel
theorem dX7_matchCountOf_31 : decode cX7_matchCountOf 31 = .ok (.getfield 51, 3) := by decide +kernel
theorem dX7_matchCountOf_34 : decode cX7_matchCountOf 34 = .ok (.getfield 89, 3) := by decide +kernel
theorem dX7_matchCountOf_37 : decode cX7_matchCountOf 37 = .ok (.if_icmp .ge 26, 3) := by decide +kernel
theorem dX7_matchCountOf_40 : decode cX7_matchCountOf 40 = .ok (.aload_n 0, 1) := by decide +kernel
theorem dX7_matchCountOf_41 : decode cX7_matchCountOf 41 = .ok (.getfield 57, 3) := by decide +kernel
theorem dX7_matchCountOf_44 : decode cX7_matchCountOf 44 = .ok (.iload 4, 2) := by decide +kernel
theorem dX7_matchCountOf_46 : decode cX7_matchCountOf 46 = .ok (.iload_n 2, 1) := by decide +kernel
theorem dX7_matchCountOf_47 : decode cX7_matchCountOf 47 = .ok (.invokevirtual 239, 3) := by decide +kernel
theorem dX7_matchCountOf_50 : decode cX7_matchCountOf 50 = .ok (.iload_n 1, 1) := by decide +kernel
theorem dX7_matchCountOf_51 : decode cX7_matchCountOf 51 = .ok (.if_icmp .ne 6, 3) := by decide +kernel
theorem dX7_matchCountOf_54 : decode cX7_matchCountOf 54 = .ok (.iinc 3 1, 3) := by decide +kernel
theorem dX7_matchCountOf_57 : decode cX7_matchCountOf 57 = .ok (.iinc 4 1, 3) := by decide +kernel
theorem dX7_matchCountOf_60 : decode cX7_matchCountOf 60 = .ok (.goto (-32), 3) := by decide +kernel
theorem dX7_matchCountOf_63 : decode cX7_matchCountOf 63 = .ok (.iload_n 3, 1) := by decide +kernel
theorem dX7_matchCountOf_64 : decode cX7_matchCountOf 64 = .ok (.ireturn, 1) := by decide +kernel
set_option maxRecDepth 20000 in
theorem ggX7_nextMatch_X3_isAlive : GoodIn wsX7_nextMatch wsX3_isAlive := goodIn_r _ [9, 10, 11, 12, 13, 8, 14, 15, 48, 49, 50, 51, 52, 53, 54] (by decide +kernel) (by decide +kernel)
set_option maxRecDepth 20000 in
theorem gX7_nextMatch_X3_isAlive : GoodIn wsX7_nextMatch (wsV RX7 138 RX3 yX3_isAlive wsX3_isAlive) := goodIn_app (goodIn_of _ (by decide +kernel)) ggX7_nextMatch_X3_isAlive
set_option maxRecDepth 20000 in
theorem ggX7_nextMatch_X3_lengthOf : GoodIn wsX7_nextMatch wsX3_lengthOf := goodIn_r _ [19, 20, 11, 12, 13, 8, 14, 15, 48, 49, 50, 51, 52, 53, 54] (by decide +kernel) (by decide +kernel)
set_option maxRecDepth 20000 in
theorem gX7_nextMatch_X3_lengthOf : GoodIn wsX7_nextMatch (wsV RX7 157 RX3 yX3_lengthOf wsX3_lengthOf) := goodIn_app (goodIn_of _ (by decide +kernel)) ggX7_nextMatch_X3_lengthOf
set_option maxRecDepth 20000 in
theorem ggX7_nextMatch_X5_at : GoodIn wsX7_nextMatch wsX5_at := goodIn_r _ [25, 26, 27, 28, 29, 24, 30, 55] (by decide +kernel) (by decide +kernel)
set_option maxRecDepth 20000 in
theorem gX7_nextMatch_X5_at : GoodIn wsX7_nextMatch (wsV RX7 239 RX5 yX5_at wsX5_at) := goodIn_app (goodIn_of _ (by decide +kernel)) ggX7_nextMatch_X5_at
theorem dX7_nextMatch_0 : decode cX7_nextMatch 0 = .ok (.aload_n 0, 1) := by decide +kernel
theorem dX7_nextMatch_1 : decode cX7_nextMatch 1 = .ok (.getfield 30, 3) := by decide +kernel
theorem dX7_nextMatch_4 : decode cX7_nextMatch 4 = .ok (.iload_n 1, 1) := by decide +kernel
theorem dX7_nextMatch_5 : decode cX7_nextMatch 5 = .ok (.invokevirtual 138, 3) := by decide +kernel
theorem dX7_nextMatch_8 : decode cX7_nextMatch 8 = .ok (.ifCond .ne 6, 3) := by decide +kernel
theorem dX7_nextMatch_11 : decode cX7_nextMatch 11 = .ok (.bipush (-2), 2) := by decide +kernel
theorem dX7_nextMatch_13 : decode cX7_nextMatch 13 = .ok (.ireturn, 1) := by decide +kernel
theorem dX7_nextMatch_14 : decode cX7_nextMatch 14 = .ok (.iload_n 2, 1) := by decide +kernel
theorem dX7_nextMatch_15 : decode cX7_nextMatch 15 = .ok (.ifCond .ge 6, 3) := by decide +kernel
theorem dX7_nextMatch_18 : decode cX7_nextMatch 18 = .ok (.bipush (-3), 2) := by decide +kernel
theorem dX7_nextMatch_20 : decode cX7_nextMatch 20 = .ok (.ireturn, 1) := by decide +kernel
theorem dX7_nextMatch_21 : decode cX7_nextMatch 21 = .ok (.aload_n 0, 1) := by decide +kernel
theorem dX7_nextMatch_22 : decode cX7_nextMatch 22 = .ok (.getfield 30, 3) := by decide +kernel
theorem dX7_nextMatch_25 : decode cX7_nextMatch 25 = .ok (.iload_n 1, 1) := by decide +kernel
theorem dX7_nextMatch_26 : decode cX7_nextMatch 26 = .ok (.invokevirtual 157, 3) := by decide +kernel
theorem dX7_nextMatch_29 : decode cX7_nextMatch 29 = .ok (.istore_n 3, 1) := by decide +kernel
theorem dX7_nextMatch_30 : decode cX7_nextMatch 30 = .ok (.iload_n 2, 1) := by decide +kernel
theorem dX7_nextMatch_31 : decode cX7_nextMatch 31 = .ok (.istore 4, 2) := by decide +kernel
theorem dX7_nextMatch_33 : decode cX7_nextMatch 33 = .ok (.iload 4, 2) := by decide +kernel
theorem dX7_nextMatch_35 : decode cX7_nextMatch 35 = .ok (.aload_n 0, 1) := by decide +kernel
theorem dX7_nextMatch_36 : decode cX7_nextMatch 36 = .ok (.getfield 51, 3) := by decide +kernel
theorem dX7_nextMatch_39 : decode cX7_nextMatch 39 = .ok (.getfield 89, 3) := by decide +kernel
theorem dX7_nextMatch_42 : decode cX7_nextMatch 42 = .ok (.if_icmp .ge 26, 3) := by decide +kernel
theorem dX7_nextMatch_45 : decode cX7_nextMatch 45 = .ok (.aload_n 0, 1) := by decide +kernel
theorem dX7_nextMatch_46 : decode cX7_nextMatch 46 = .ok (.getfield 57, 3) := by decide +kernel
theorem dX7_nextMatch_49 : decode cX7_nextMatch 49 = .ok (.iload 4, 2) := by decide +kernel
theorem dX7_nextMatch_51 : decode cX7_nextMatch 51 = .ok (.iload_n 3, 1) := by decide +kernel
theorem dX7_nextMatch_52 : decode cX7_nextMatch 52 = .ok (.invokevirtual 239, 3) := by decide +kernel
theorem dX7_nextMatch_55 : decode cX7_nextMatch 55 = .ok (.iload_n 1, 1) := by decide +kernel
theorem dX7_nextMatch_56 : decode cX7_nextMatch 56 = .ok (.if_icmp .ne 6, 3) := by decide +kernel
theorem dX7_nextMatch_59 : decode cX7_nextMatch 59 = .ok (.iload 4, 2) := by decide +kernel
theorem dX7_nextMatch_61 : decode cX7_nextMatch 61 = .ok (.ireturn, 1) := by decide +kernel
theorem dX7_nextMatch_62 : decode cX7_nextMatch 62 = .ok (.iinc 4 1, 3) := by decide +kernel
theorem dX7_nextMatch_65 : decode cX7_nextMatch 65 = .ok (.goto (-32), 3) := by decide +kernel
theorem dX7_nextMatch_68 : decode cX7_nextMatch 68 = .ok (.iconst (-1), 1) := by decide +kernel
theorem dX7_nextMatch_69 : decode cX7_nextMatch 69 = .ok (.ireturn, 1) := by decide +kernel
set_option maxRecDepth 20000 in
theorem ggX7_overlappingPairs_X7_measureDepths : GoodIn wsX7_overlappingPairs wsX7_measureDepths := goodIn_r _ [9, 1, 2, 3, 4, 10, 11, 12, 13, 14, 15, 16, 17, 18, 19, 20, 21, 22, 23, 24, 25, 26, 27, 28, 29, 30, 31, 32, 33, 34, 35, 36, 37, 38, 39, 40, 41, 42, 43, 44, 45] (by decide +kernel) (by decide +kernel)
set_option maxRecDepth 20000 in
theorem gX7_overlappingPairs_X7_measureDepths : GoodIn wsX7_overlappingPairs (wsV RX7 255 RX7 yX7_measureDepths wsX7_measureDepths) := goodIn_app (goodIn_of _ (by decide +kernel)) ggX7_overlappingPairs_X7_measureDepths
set_option maxRecDepth 20000 in
theorem ggX7_overlappingPairs_X5_countFrom : GoodIn wsX7_overlappingPairs wsX5_countFrom := goodIn_r _ [14, 15, 16, 17, 13, 18, 19, 20, 21, 22, 23, 45] (by decide +kernel) (by decide +kernel)
set_option maxRecDepth 20000 in
theorem gX7_overlappingPairs_X5_countFrom : GoodIn wsX7_overlappingPairs (wsV RX7 252 RX5 yX5_countFrom wsX5_countFrom) := goodIn_app (goodIn_of _ (by decide +kernel)) ggX7_overlappingPairs_X5_countFrom
theorem dX7_overlappingPairs_0 : decode cX7_overlappingPairs 0 = .ok (.aload_n 0, 1) := by decide +kernel
theorem dX7_overlappingPairs_1 : decode cX7_overlappingPairs 1 = .ok (.invokevirtual 255, 3) := by decide +kernel
theorem dX7_overlappingPairs_4 : decode cX7_overlappingPairs 4 = .ok (.iconst 0, 1) := by decide +kernel
theorem dX7_overlappingPairs_5 : decode cX7_overlappingPairs 5 = .ok (.istore_n 1, 1) := by decide +kernel
theorem dX7_overlappingPairs_6 : decode cX7_overlappingPairs 6 = .ok (.iconst 0, 1) := by decide +kernel
theorem dX7_overlappingPairs_7 : decode cX7_overlappingPairs 7 = .ok (.istore_n 2, 1) := by decide +kernel
theorem dX7_overlappingPairs_8 : decode cX7_overlappingPairs 8 = .ok (.iload_n 2, 1) := by decide +kernel
theorem dX7_overlappingPairs_9 : decode cX7_overlappingPairs 9 = .ok (.aload_n 0, 1) := by decide +kernel
theorem dX7_overlappingPairs_10 : decode cX7_overlappingPairs 10 = .ok (.getfield 51, 3) := by decide +kernel
theorem dX7_overlappingPairs_13 : decode cX7_overlappingPairs 13 = .ok (.getfield 89, 3) := by decide +kernel
theorem dX7_overlappingPairs_16 : decode cX7_overlappingPairs 16 = .ok (.if_icmp .ge 43, 3) := by decide +kernel
theorem dX7_overlappingPairs_19 : decode cX7_overlappingPairs 19 = .ok (.aload_n 0, 1) := by decide +kernel
theorem dX7_overlappingPairs_20 : decode cX7_overlappingPairs 20 = .ok (.getfield 57, 3) := by decide +kernel
theorem dX7_overlappingPairs_23 : decode cX7_overlappingPairs 23 = .ok (.iload_n 2, 1) := by decide +kernel
theorem dX7_overlappingPairs_24 : decode cX7_overlappingPairs 24 = .ok (.invokevirtual 252, 3) := by decide +kernel
theorem dX7_overlappingPairs_27 : decode cX7_overlappingPairs 27 = .ok (.istore_n 3, 1) := by decide +kernel
theorem dX7_overlappingPairs_28 : decode cX7_overlappingPairs 28 = .ok (.aload_n 0, 1) := by decide +kernel
theorem dX7_overlappingPairs_29 : decode cX7_overlappingPairs 29 = .ok (.getfield 71, 3) := by decide +kernel
theorem dX7_overlappingPairs_32 : decode cX7_overlappingPairs 32 = .ok (.iload_n 2, 1) := by decide +kernel
theorem dX7_overlappingPairs_33 : decode cX7_overlappingPairs 33 = .ok (.iaload, 1) := by decide +kernel
theorem dX7_overlappingPairs_34 : decode cX7_overlappingPairs 34 = .ok (.iload_n 3, 1) := by decide +kernel
theorem dX7_overlappingPairs_35 : decode cX7_overlappingPairs 35 = .ok (.isub, 1) := by decide +kernel
theorem dX7_overlappingPairs_36 : decode cX7_overlappingPairs 36 = .ok (.istore 4, 2) := by decide +kernel
theorem dX7_overlappingPairs_38 : decode cX7_overlappingPairs 38 = .ok (.iload_n 1, 1) := by decide +kernel
theorem dX7_overlappingPairs_39 : decode cX7_overlappingPairs 39 = .ok (.iload_n 3, 1) := by decide +kernel
theorem dX7_overlappingPairs_40 : decode cX7_overlappingPairs 40 = .ok (.iload 4, 2) := by decide +kernel
theorem dX7_overlappingPairs_42 : decode cX7_overlappingPairs 42 = .ok (.imul, 1) := by decide +kernel
theorem dX7_overlappingPairs_43 : decode cX7_overlappingPairs 43 = .ok (.iload_n 3, 1) := by decide +kernel
theorem dX7_overlappingPairs_44 : decode cX7_overlappingPairs 44 = .ok (.iload_n 3, 1) := by decide +kernel
theorem dX7_overlappingPairs_45 : decode cX7_overlappingPairs 45 = .ok (.iconst 1, 1) := by decide +kernel
theorem dX7_overlappingPairs_46 : decode cX7_overlappingPairs 46 = .ok (.isub, 1) := by decide +kernel
theorem dX7_overlappingPairs_47 : decode cX7_overlappingPairs 47 = .ok (.imul, 1) := by decide +kernel
theorem dX7_overlappingPairs_48 : decode cX7_overlappingPairs 48 = .ok (.iconst 2, 1) := by decide +kernel
theorem dX7_overlappingPairs_49 : decode cX7_overlappingPairs 49 = .ok (.idiv, 1) := by decide +kernel
theorem dX7_overlappingPairs_50 : decode cX7_overlappingPairs 50 = .ok (.iadd, 1) := by decide +kernel
theorem dX7_overlappingPairs_51 : decode cX7_overlappingPairs 51 = .ok (.iadd, 1) := by decide +kernel
theorem dX7_overlappingPairs_52 : decode cX7_overlappingPairs 52 = .ok (.istore_n 1, 1) := by decide +kernel
theorem dX7_overlappingPairs_53 : decode cX7_overlappingPairs 53 = .ok (.iinc 2 1, 3) := by decide +kernel
theorem dX7_overlappingPairs_56 : decode cX7_overlappingPairs 56 = .ok (.goto (-48), 3) := by decide +kernel
theorem dX7_overlappingPairs_59 : decode cX7_overlappingPairs 59 = .ok (.iload_n 1, 1) := by decide +kernel
theorem dX7_overlappingPairs_60 : decode cX7_overlappingPairs 60 = .ok (.ireturn, 1) := by decide +kernel
set_option maxRecDepth 20000 in
theorem ggX7_maximumDepth_X7_measureDepths : GoodIn wsX7_maximumDepth wsX7_measureDepths := goodIn_r _ [12, 1, 2, 13, 3, 14, 15, 16, 17, 18, 19, 20, 21, 22, 23, 24, 25, 26, 27, 28, 29, 30, 31, 32, 33, 34, 35, 36, 37, 38, 39, 40, 41, 42, 43, 44, 45, 46, 47, 48, 49] (by decide +kernel) (by decide +kernel)
set_option maxRecDepth 20000 in
theorem gX7_maximumDepth_X7_measureDepths : GoodIn wsX7_maximumDepth (wsV RX7 255 RX7 yX7_measureDepths wsX7_measureDepths) := goodIn_app (goodIn_of _ (by decide +kernel)) ggX7_maximumDepth_X7_measureDepths
theorem dX7_maximumDepth_0 : decode cX7_maximumDepth 0 = .ok (.aload_n 0, 1) := by decide +kernel
theorem dX7_maximumDepth_1 : decode cX7_maximumDepth 1 = .ok (.invokevirtual 255, 3) := by decide +kernel
theorem dX7_maximumDepth_4 : decode cX7_maximumDepth 4 = .ok (.iconst 0, 1) := by decide +kernel
theorem dX7_maximumDepth_5 : decode cX7_maximumDepth 5 = .ok (.istore_n 1, 1) := by decide +kernel
theorem dX7_maximumDepth_6 : decode cX7_maximumDepth 6 = .ok (.iconst 0, 1) := by decide +kernel
theorem dX7_maximumDepth_7 : decode cX7_maximumDepth 7 = .ok (.istore_n 2, 1) := by decide +kernel
theorem dX7_maximumDepth_8 : decode cX7_maximumDepth 8 = .ok (.iload_n 2, 1) := by decide +kernel
theorem dX7_maximumDepth_9 : decode cX7_maximumDepth 9 = .ok (.aload_n 0, 1) := by decide +kernel
theorem dX7_maximumDepth_10 : decode cX7_maximumDepth 10 = .ok (.getfield 51, 3) := by decide +kernel
theorem dX7_maximumDepth_13 : decode cX7_maximumDepth 13 = .ok (.getfield 89, 3) := by decide +kernel
theorem dX7_maximumDepth_16 : decode cX7_maximumDepth 16 = .ok (.if_icmp .ge 20, 3) := by decide +kernel
theorem dX7_maximumDepth_19 : decode cX7_maximumDepth 19 = .ok (.iload_n 1, 1) := by decide +kernel
theorem dX7_maximumDepth_20 : decode cX7_maximumDepth 20 = .ok (.aload_n 0, 1) := by decide +kernel
theorem dX7_maximumDepth_21 : decode cX7_maximumDepth 21 = .ok (.getfield 71, 3) := by decide +kernel
theorem dX7_maximumDepth_24 : decode cX7_maximumDepth 24 = .ok (.iload_n 2, 1) := by decide +kernel
theorem dX7_maximumDepth_25 : decode cX7_maximumDepth 25 = .ok (.iaload, 1) := by decide +kernel
theorem dX7_maximumDepth_26 : decode cX7_maximumDepth 26 = .ok (.invokestatic 189, 3) := by decide +kernel
theorem dX7_maximumDepth_29 : decode cX7_maximumDepth 29 = .ok (.istore_n 1, 1) := by decide +kernel
theorem dX7_maximumDepth_30 : decode cX7_maximumDepth 30 = .ok (.iinc 2 1, 3) := by decide +kernel
theorem dX7_maximumDepth_33 : decode cX7_maximumDepth 33 = .ok (.goto (-25), 3) := by decide +kernel
theorem dX7_maximumDepth_36 : decode cX7_maximumDepth 36 = .ok (.iload_n 1, 1) := by decide +kernel
theorem dX7_maximumDepth_37 : decode cX7_maximumDepth 37 = .ok (.ireturn, 1) := by decide +kernel
set_option maxRecDepth 20000 in
theorem ggX7_measureDepths_X5_countFrom : GoodIn wsX7_measureDepths wsX5_countFrom := goodIn_r _ [9, 10, 11, 12, 8, 13, 14, 15, 16, 17, 18, 40] (by decide +kernel) (by decide +kernel)
set_option maxRecDepth 20000 in
theorem gX7_measureDepths_X5_countFrom : GoodIn wsX7_measureDepths (wsV RX7 252 RX5 yX5_countFrom wsX5_countFrom) := goodIn_app (goodIn_of _ (by decide +kernel)) ggX7_measureDepths_X5_countFrom
set_option maxRecDepth 20000 in
theorem ggX7_measureDepths_X5_countTo : GoodIn wsX7_measureDepths wsX5_countTo := goodIn_r _ [22, 10, 11, 12, 8, 13, 14, 15, 16, 17, 18, 40] (by decide +kernel) (by decide +kernel)
set_option maxRecDepth 20000 in
theorem gX7_measureDepths_X5_countTo : GoodIn wsX7_measureDepths (wsV RX7 258 RX5 yX5_countTo wsX5_countTo) := goodIn_app (goodIn_of _ (by decide +kernel)) ggX7_measureDepths_X5_countTo
theorem dX7_measureDepths_0 : decode cX7_measureDepths 0 = .ok (.iconst 0, 1) := by decide +kernel
theorem dX7_measureDepths_1 : decode cX7_measureDepths 1 = .ok (.istore_n 1, 1) := by decide +kernel
theorem dX7_measureDepths_2 : decode cX7_measureDepths 2 = .ok (.iconst 0, 1) := by decide +kernel
theorem dX7_measureDepths_3 : decode cX7_measureDepths 3 = .ok (.istore_n 2, 1) := by decide +kernel
theorem dX7_measureDepths_4 : decode cX7_measureDepths 4 = .ok (.iload_n 2, 1) := by decide +kernel
theorem dX7_measureDepths_5 : decode cX7_measureDepths 5 = .ok (.aload_n 0, 1) := by decide +kernel
theorem dX7_measureDepths_6 : decode cX7_measureDepths 6 = .ok (.getfield 51, 3) := by decide +kernel
theorem dX7_measureDepths_9 : decode cX7_measureDepths 9 = .ok (.getfield 89, 3) := by decide +kernel
theorem dX7_measureDepths_12 : decode cX7_measureDepths 12 = .ok (.if_icmp .ge 38, 3) := by decide +kernel
theorem dX7_measureDepths_15 : decode cX7_measureDepths 15 = .ok (.iload_n 1, 1) := by decide +kernel
theorem dX7_measureDepths_16 : decode cX7_measureDepths 16 = .ok (.aload_n 0, 1) := by decide +kernel
theorem dX7_measureDepths_17 : decode cX7_measureDepths 17 = .ok (.getfield 57, 3) := by decide +kernel
theorem dX7_measureDepths_20 : decode cX7_measureDepths 20 = .ok (.iload_n 2, 1) := by decide +kernel
theorem dX7_measureDepths_21 : decode cX7_measureDepths 21 = .ok (.invokevirtual 252, 3) := by decide +kernel
theorem dX7_measureDepths_24 : decode cX7_measureDepths 24 = .ok (.iadd, 1) := by decide +kernel
theorem dX7_measureDepths_25 : decode cX7_measureDepths 25 = .ok (.istore_n 1, 1) := by decide +kernel
theorem dX7_measureDepths_26 : decode cX7_measureDepths 26 = .ok (.aload_n 0, 1) := by decide +kernel
theorem dX7_measureDepths_27 : decode cX7_measureDepths 27 = .ok (.getfield 71, 3) := by decide +kernel
theorem dX7_measureDepths_30 : decode cX7_measureDepths 30 = .ok (.iload_n 2, 1) := by decide +kernel
theorem dX7_measureDepths_31 : decode cX7_measureDepths 31 = .ok (.iload_n 1, 1) := by decide +kernel
theorem dX7_measureDepths_32 : decode cX7_measureDepths 32 = .ok (.iastore, 1) := by decide +kernel
theorem dX7_measureDepths_33 : decode cX7_measureDepths 33 = .ok (.iload_n 1, 1) := by decide +kernel
theorem dX7_measureDepths_34 : decode cX7_measureDepths 34 = .ok (.aload_n 0, 1) := by decide +kernel
theorem dX7_measureDepths_35 : decode cX7_measureDepths 35 = .ok (.getfield 57, 3) := by decide +kernel
theorem dX7_measureDepths_38 : decode cX7_measureDepths 38 = .ok (.iload_n 2, 1) := by decide +kernel
theorem dX7_measureDepths_39 : decode cX7_measureDepths 39 = .ok (.invokevirtual 258, 3) := by decide +kernel
theorem dX7_measureDepths_42 : decode cX7_measureDepths 42 = .ok (.isub, 1) := by decide +kernel
theorem dX7_measureDepths_43 : decode cX7_measureDepths 43 = .ok (.istore_n 1, 1) := by decide +kernel
theorem dX7_measureDepths_44 : decode cX7_measureDepths 44 = .ok (.iinc 2 1, 3) := by decide +kernel
theorem dX7_measureDepths_47 : decode cX7_measureDepths 47 = .ok (.goto (-43), 3) := by decide +kernel
theorem dX7_measureDepths_50 : decode cX7_measureDepths 50 = .ok (.return_, 1) := by decide +kernel
set_option maxRecDepth 20000 in
theorem ggX7_containedMatches_X7_containedFrom : GoodIn wsX7_containedMatches wsX7_containedFrom := goodIn_r _ [12, 3, 13, 14, 15, 16, 17, 18, 19, 20, 21, 22, 23, 24, 25, 26, 27, 28, 29, 30, 31, 32, 33, 34, 35, 36, 37, 38, 39, 40, 41, 42, 45] (by decide +kernel) (by decide +kernel)
set_option maxRecDepth 20000 in
theorem gX7_containedMatches_X7_containedFrom : GoodIn wsX7_containedMatches (wsV RX7 261 RX7 yX7_containedFrom wsX7_containedFrom) := goodIn_app (goodIn_of _ (by decide +kernel)) ggX7_containedMatches_X7_containedFrom
set_option maxRecDepth 20000 in
theorem ggX7_containedMatches_X5_longestFrom : GoodIn wsX7_containedMatches wsX5_longestFrom := goodIn_r _ [17, 18, 19, 20, 16, 21, 22, 23, 24, 25, 26, 45] (by decide +kernel) (by decide +kernel)
set_option maxRecDepth 20000 in
theorem gX7_containedMatches_X5_longestFrom : GoodIn wsX7_containedMatches (wsV RX7 264 RX5 yX5_longestFrom wsX5_longestFrom) := goodIn_app (goodIn_of _ (by decide +kernel)) ggX7_containedMatches_X5_longestFrom
theorem dX7_containedMatches_0 : decode cX7_containedMatches 0 = .ok (.iconst 0, 1) := by decide +kernel
theorem dX7_containedMatches_1 : decode cX7_containedMatches 1 = .ok (.istore_n 1, 1) := by decide +kernel
theorem dX7_containedMatches_2 : decode cX7_containedMatches 2 = .ok (.iconst (-1), 1) := by decide +kernel
theorem dX7_containedMatches_3 : decode cX7_containedMatches 3 = .ok (.istore_n 2, 1) := by decide +kernel
theorem dX7_containedMatches_4 : decode cX7_containedMatches 4 = .ok (.iconst 0, 1) := by decide +kernel
theorem dX7_containedMatches_5 : decode cX7_containedMatches 5 = .ok (.istore_n 3, 1) := by decide +kernel
theorem dX7_containedMatches_6 : decode cX7_containedMatches 6 = .ok (.iload_n 3, 1) := by decide +kernel
theorem dX7_containedMatches_7 : decode cX7_containedMatches 7 = .ok (.aload_n 0, 1) := by decide +kernel
theorem dX7_containedMatches_8 : decode cX7_containedMatches 8 = .ok (.getfield 51, 3) := by decide +kernel
theorem dX7_containedMatches_11 : decode cX7_containedMatches 11 = .ok (.getfield 89, 3) := by decide +kernel
theorem dX7_containedMatches_14 : decode cX7_containedMatches 14 = .ok (.if_icmp .ge 35, 3) := by decide +kernel
theorem dX7_containedMatches_17 : decode cX7_containedMatches 17 = .ok (.iload_n 1, 1) := by decide +kernel
theorem dX7_containedMatches_18 : decode cX7_containedMatches 18 = .ok (.aload_n 0, 1) := by decide +kernel
