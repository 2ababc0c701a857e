theorem dX0_init_0 : decode cX0_init 0 = .ok (.aload_n 0, 1) := by decide +kernel
theorem dX0_init_1 : decode cX0_init 1 = .ok (.invokespecial 3, 3) := by decide +kernel
theorem dX0_init_4 : decode cX0_init 4 = .ok (.aload_n 0, 1) := by decide +kernel
theorem dX0_init_5 : decode cX0_init 5 = .ok (.bipush 127, 2) := by decide +kernel
theorem dX0_init_7 : decode cX0_init 7 = .ok (.newarray .int, 2) := by decide +kernel
theorem dX0_init_9 : decode cX0_init 9 = .ok (.putfield 9, 3) := by decide +kernel
theorem dX0_init_12 : decode cX0_init 12 = .ok (.aload_n 0, 1) := by decide +kernel
theorem dX0_init_13 : decode cX0_init 13 = .ok (.iconst 0, 1) := by decide +kernel
theorem dX0_init_14 : decode cX0_init 14 = .ok (.putfield 15, 3) := by decide +kernel
theorem dX0_init_17 : decode cX0_init 17 = .ok (.return_, 1) := by decide +kernel
theorem dX0_storedSize_0 : decode cX0_storedSize 0 = .ok (.iload_n 0, 1) := by decide +kernel
theorem dX0_storedSize_1 : decode cX0_storedSize 1 = .ok (.iload_n 0, 1) := by decide +kernel
theorem dX0_storedSize_2 : decode cX0_storedSize 2 = .ok (.ineg, 1) := by decide +kernel
theorem dX0_storedSize_3 : decode cX0_storedSize 3 = .ok (.iand, 1) := by decide +kernel
theorem dX0_storedSize_4 : decode cX0_storedSize 4 = .ok (.ireturn, 1) := by decide +kernel
set_option maxRecDepth 20000 in
theorem ggX0_insert_X0_storedSize : GoodIn wsX0_insert wsX0_storedSize := goodIn_r _ [6] (by decide +kernel) (by decide +kernel)
set_option maxRecDepth 20000 in
theorem gX0_insert_X0_storedSize : GoodIn wsX0_insert (va_wsS RX0 19 yX0_storedSize wsX0_storedSize) := goodIn_app (goodIn_of _ (by decide +kernel)) ggX0_insert_X0_storedSize
theorem dX0_insert_0 : decode cX0_insert 0 = .ok (.aload_n 0, 1) := by decide +kernel
theorem dX0_insert_1 : decode cX0_insert 1 = .ok (.getfield 15, 3) := by decide +kernel
theorem dX0_insert_4 : decode cX0_insert 4 = .ok (.bipush 127, 2) := by decide +kernel
theorem dX0_insert_6 : decode cX0_insert 6 = .ok (.if_icmp .lt 5, 3) := by decide +kernel
theorem dX0_insert_9 : decode cX0_insert 9 = .ok (.iconst 0, 1) := by decide +kernel
theorem dX0_insert_10 : decode cX0_insert 10 = .ok (.ireturn, 1) := by decide +kernel
theorem dX0_insert_11 : decode cX0_insert 11 = .ok (.aload_n 0, 1) := by decide +kernel
theorem dX0_insert_12 : decode cX0_insert 12 = .ok (.getfield 9, 3) := by decide +kernel
theorem dX0_insert_15 : decode cX0_insert 15 = .ok (.aload_n 0, 1) := by decide +kernel
theorem dX0_insert_16 : decode cX0_insert 16 = .ok (.getfield 15, 3) := by decide +kernel
theorem dX0_insert_19 : decode cX0_insert 19 = .ok (.iload_n 1, 1) := by decide +kernel
theorem dX0_insert_20 : decode cX0_insert 20 = .ok (.iastore, 1) := by decide +kernel
theorem dX0_insert_21 : decode cX0_insert 21 = .ok (.aload_n 0, 1) := by decide +kernel
theorem dX0_insert_22 : decode cX0_insert 22 = .ok (.dup, 1) := by decide +kernel
theorem dX0_insert_23 : decode cX0_insert 23 = .ok (.getfield 15, 3) := by decide +kernel
theorem dX0_insert_26 : decode cX0_insert 26 = .ok (.iconst 1, 1) := by decide +kernel
theorem dX0_insert_27 : decode cX0_insert 27 = .ok (.iadd, 1) := by decide +kernel
theorem dX0_insert_28 : decode cX0_insert 28 = .ok (.putfield 15, 3) := by decide +kernel
theorem dX0_insert_31 : decode cX0_insert 31 = .ok (.aload_n 0, 1) := by decide +kernel
theorem dX0_insert_32 : decode cX0_insert 32 = .ok (.getfield 15, 3) := by decide +kernel
theorem dX0_insert_35 : decode cX0_insert 35 = .ok (.invokestatic 19, 3) := by decide +kernel
theorem dX0_insert_38 : decode cX0_insert 38 = .ok (.ireturn, 1) := by decide +kernel
theorem dX0_clear_0 : decode cX0_clear 0 = .ok (.aload_n 0, 1) := by decide +kernel
theorem dX0_clear_1 : decode cX0_clear 1 = .ok (.iconst 0, 1) := by decide +kernel
theorem dX0_clear_2 : decode cX0_clear 2 = .ok (.putfield 15, 3) := by decide +kernel
theorem dX0_clear_5 : decode cX0_clear 5 = .ok (.return_, 1) := by decide +kernel
theorem dX0_sizeAt_0 : decode cX0_sizeAt 0 = .ok (.aload_n 0, 1) := by decide +kernel
theorem dX0_sizeAt_1 : decode cX0_sizeAt 1 = .ok (.getfield 15, 3) := by decide +kernel
theorem dX0_sizeAt_4 : decode cX0_sizeAt 4 = .ok (.iconst 1, 1) := by decide +kernel
theorem dX0_sizeAt_5 : decode cX0_sizeAt 5 = .ok (.iload_n 1, 1) := by decide +kernel
theorem dX0_sizeAt_6 : decode cX0_sizeAt 6 = .ok (.ishl, 1) := by decide +kernel
theorem dX0_sizeAt_7 : decode cX0_sizeAt 7 = .ok (.iand, 1) := by decide +kernel
theorem dX0_sizeAt_8 : decode cX0_sizeAt 8 = .ok (.ireturn, 1) := by decide +kernel
theorem dX0_firstAt_0 : decode cX0_firstAt 0 = .ok (.aload_n 0, 1) := by decide +kernel
theorem dX0_firstAt_1 : decode cX0_firstAt 1 = .ok (.getfield 15, 3) := by decide +kernel
theorem dX0_firstAt_4 : decode cX0_firstAt 4 = .ok (.iconst 2, 1) := by decide +kernel
theorem dX0_firstAt_5 : decode cX0_firstAt 5 = .ok (.iload_n 1, 1) := by decide +kernel
theorem dX0_firstAt_6 : decode cX0_firstAt 6 = .ok (.ishl, 1) := by decide +kernel
theorem dX0_firstAt_7 : decode cX0_firstAt 7 = .ok (.ineg, 1) := by decide +kernel
theorem dX0_firstAt_8 : decode cX0_firstAt 8 = .ok (.iand, 1) := by decide +kernel
theorem dX0_firstAt_9 : decode cX0_firstAt 9 = .ok (.ireturn, 1) := by decide +kernel
theorem dX0_memberAt_0 : decode cX0_memberAt 0 = .ok (.iload_n 1, 1) := by decide +kernel
theorem dX0_memberAt_1 : decode cX0_memberAt 1 = .ok (.ifCond .lt 20, 3) := by decide +kernel
theorem dX0_memberAt_4 : decode cX0_memberAt 4 = .ok (.iload_n 1, 1) := by decide +kernel
theorem dX0_memberAt_5 : decode cX0_memberAt 5 = .ok (.aload_n 0, 1) := by decide +kernel
theorem dX0_memberAt_6 : decode cX0_memberAt 6 = .ok (.getfield 15, 3) := by decide +kernel
theorem dX0_memberAt_9 : decode cX0_memberAt 9 = .ok (.if_icmp .ge 12, 3) := by decide +kernel
theorem dX0_memberAt_12 : decode cX0_memberAt 12 = .ok (.aload_n 0, 1) := by decide +kernel
theorem dX0_memberAt_13 : decode cX0_memberAt 13 = .ok (.getfield 9, 3) := by decide +kernel
theorem dX0_memberAt_16 : decode cX0_memberAt 16 = .ok (.iload_n 1, 1) := by decide +kernel
theorem dX0_memberAt_17 : decode cX0_memberAt 17 = .ok (.iaload, 1) := by decide +kernel
theorem dX0_memberAt_18 : decode cX0_memberAt 18 = .ok (.goto 4, 3) := by decide +kernel
theorem dX0_memberAt_21 : decode cX0_memberAt 21 = .ok (.iconst (-1), 1) := by decide +kernel
theorem dX0_memberAt_22 : decode cX0_memberAt 22 = .ok (.ireturn, 1) := by decide +kernel
set_option maxRecDepth 20000 in
theorem ggX0_levelWith_X0_firstAt : GoodIn wsX0_levelWith wsX0_firstAt := goodIn_r _ [5, 6, 16, 17] (by decide +kernel) (by decide +kernel)
set_option maxRecDepth 20000 in
theorem gX0_levelWith_X0_firstAt : GoodIn wsX0_levelWith (wsV RX0 23 RX0 yX0_firstAt wsX0_firstAt) := goodIn_app (goodIn_of _ (by decide +kernel)) ggX0_levelWith_X0_firstAt
set_option maxRecDepth 20000 in
theorem ggX0_levelWith_X0_sizeAt : GoodIn wsX0_levelWith wsX0_sizeAt := goodIn_r _ [10, 6, 16, 17] (by decide +kernel) (by decide +kernel)
set_option maxRecDepth 20000 in
theorem gX0_levelWith_X0_sizeAt : GoodIn wsX0_levelWith (wsV RX0 26 RX0 yX0_sizeAt wsX0_sizeAt) := goodIn_app (goodIn_of _ (by decide +kernel)) ggX0_levelWith_X0_sizeAt
set_option maxRecDepth 20000 in
theorem ggX0_levelWith_X0_memberAt : GoodIn wsX0_levelWith wsX0_memberAt := goodIn_r _ [14, 6, 15, 16, 17] (by decide +kernel) (by decide +kernel)
set_option maxRecDepth 20000 in
theorem gX0_levelWith_X0_memberAt : GoodIn wsX0_levelWith (wsV RX0 29 RX0 yX0_memberAt wsX0_memberAt) := goodIn_app (goodIn_of _ (by decide +kernel)) ggX0_levelWith_X0_memberAt
theorem dX0_levelWith_0 : decode cX0_levelWith 0 = .ok (.iconst 0, 1) := by decide +kernel
theorem dX0_levelWith_1 : decode cX0_levelWith 1 = .ok (.istore_n 2, 1) := by decide +kernel
theorem dX0_levelWith_2 : decode cX0_levelWith 2 = .ok (.iload_n 2, 1) := by decide +kernel
theorem dX0_levelWith_3 : decode cX0_levelWith 3 = .ok (.bipush 7, 2) := by decide +kernel
theorem dX0_levelWith_5 : decode cX0_levelWith 5 = .ok (.if_icmp .ge 52, 3) := by decide +kernel
theorem dX0_levelWith_8 : decode cX0_levelWith 8 = .ok (.aload_n 0, 1) := by decide +kernel
theorem dX0_levelWith_9 : decode cX0_levelWith 9 = .ok (.iload_n 2, 1) := by decide +kernel
theorem dX0_levelWith_10 : decode cX0_levelWith 10 = .ok (.invokevirtual 23, 3) := by decide +kernel
theorem dX0_levelWith_13 : decode cX0_levelWith 13 = .ok (.istore_n 3, 1) := by decide +kernel
theorem dX0_levelWith_14 : decode cX0_levelWith 14 = .ok (.iload_n 3, 1) := by decide +kernel
theorem dX0_levelWith_15 : decode cX0_levelWith 15 = .ok (.aload_n 0, 1) := by decide +kernel
theorem dX0_levelWith_16 : decode cX0_levelWith 16 = .ok (.iload_n 2, 1) := by decide +kernel
theorem dX0_levelWith_17 : decode cX0_levelWith 17 = .ok (.invokevirtual 26, 3) := by decide +kernel
theorem dX0_levelWith_20 : decode cX0_levelWith 20 = .ok (.iadd, 1) := by decide +kernel
theorem dX0_levelWith_21 : decode cX0_levelWith 21 = .ok (.istore 4, 2) := by decide +kernel
theorem dX0_levelWith_23 : decode cX0_levelWith 23 = .ok (.iload_n 3, 1) := by decide +kernel
theorem dX0_levelWith_24 : decode cX0_levelWith 24 = .ok (.istore 5, 2) := by decide +kernel
theorem dX0_levelWith_26 : decode cX0_levelWith 26 = .ok (.iload 5, 2) := by decide +kernel
theorem dX0_levelWith_28 : decode cX0_levelWith 28 = .ok (.iload 4, 2) := by decide +kernel
theorem dX0_levelWith_30 : decode cX0_levelWith 30 = .ok (.if_icmp .ge 21, 3) := by decide +kernel
theorem dX0_levelWith_33 : decode cX0_levelWith 33 = .ok (.aload_n 0, 1) := by decide +kernel
theorem dX0_levelWith_34 : decode cX0_levelWith 34 = .ok (.iload 5, 2) := by decide +kernel
theorem dX0_levelWith_36 : decode cX0_levelWith 36 = .ok (.invokevirtual 29, 3) := by decide +kernel
theorem dX0_levelWith_39 : decode cX0_levelWith 39 = .ok (.iload_n 1, 1) := by decide +kernel
theorem dX0_levelWith_40 : decode cX0_levelWith 40 = .ok (.if_icmp .ne 5, 3) := by decide +kernel
theorem dX0_levelWith_43 : decode cX0_levelWith 43 = .ok (.iload_n 2, 1) := by decide +kernel
theorem dX0_levelWith_44 : decode cX0_levelWith 44 = .ok (.ireturn, 1) := by decide +kernel
theorem dX0_levelWith_45 : decode cX0_levelWith 45 = .ok (.iinc 5 1, 3) := by decide +kernel
theorem dX0_levelWith_48 : decode cX0_levelWith 48 = .ok (.goto (-22), 3) := by decide +kernel
theorem dX0_levelWith_51 : decode cX0_levelWith 51 = .ok (.iinc 2 1, 3) := by decide +kernel
theorem dX0_levelWith_54 : decode cX0_levelWith 54 = .ok (.goto (-52), 3) := by decide +kernel
theorem dX0_levelWith_57 : decode cX0_levelWith 57 = .ok (.iconst (-1), 1) := by decide +kernel
theorem dX0_levelWith_58 : decode cX0_levelWith 58 = .ok (.ireturn, 1) := by decide +kernel
theorem dX1_init_0 : decode cX1_init 0 = .ok (.aload_n 0, 1) := by decide +kernel
theorem dX1_init_1 : decode cX1_init 1 = .ok (.invokespecial 3, 3) := by decide +kernel
theorem dX1_init_4 : decode cX1_init 4 = .ok (.aload_n 0, 1) := by decide +kernel
theorem dX1_init_5 : decode cX1_init 5 = .ok (.iload_n 1, 1) := by decide +kernel
theorem dX1_init_6 : decode cX1_init 6 = .ok (.iconst 0, 1) := by decide +kernel
theorem dX1_init_7 : decode cX1_init 7 = .ok (.invokestatic 9, 3) := by decide +kernel
theorem dX1_init_10 : decode cX1_init 10 = .ok (.newarray .int, 2) := by decide +kernel
theorem dX1_init_12 : decode cX1_init 12 = .ok (.putfield 15, 3) := by decide +kernel
theorem dX1_init_15 : decode cX1_init 15 = .ok (.aload_n 0, 1) := by decide +kernel
theorem dX1_init_16 : decode cX1_init 16 = .ok (.iconst 0, 1) := by decide +kernel
theorem dX1_init_17 : decode cX1_init 17 = .ok (.putfield 21, 3) := by decide +kernel
theorem dX1_init_20 : decode cX1_init 20 = .ok (.return_, 1) := by decide +kernel
theorem dX1_clear_0 : decode cX1_clear 0 = .ok (.aload_n 0, 1) := by decide +kernel
theorem dX1_clear_1 : decode cX1_clear 1 = .ok (.iconst 0, 1) := by decide +kernel
theorem dX1_clear_2 : decode cX1_clear 2 = .ok (.putfield 21, 3) := by decide +kernel
theorem dX1_clear_5 : decode cX1_clear 5 = .ok (.return_, 1) := by decide +kernel
theorem dX1_append_0 : decode cX1_append 0 = .ok (.aload_n 0, 1) := by decide +kernel
theorem dX1_append_1 : decode cX1_append 1 = .ok (.getfield 21, 3) := by decide +kernel
theorem dX1_append_4 : decode cX1_append 4 = .ok (.aload_n 0, 1) := by decide +kernel
theorem dX1_append_5 : decode cX1_append 5 = .ok (.getfield 15, 3) := by decide +kernel
theorem dX1_append_8 : decode cX1_append 8 = .ok (.arraylength, 1) := by decide +kernel
theorem dX1_append_9 : decode cX1_append 9 = .ok (.if_icmp .ge 23, 3) := by decide +kernel
theorem dX1_append_12 : decode cX1_append 12 = .ok (.aload_n 0, 1) := by decide +kernel
theorem dX1_append_13 : decode cX1_append 13 = .ok (.getfield 15, 3) := by decide +kernel
theorem dX1_append_16 : decode cX1_append 16 = .ok (.aload_n 0, 1) := by decide +kernel
theorem dX1_append_17 : decode cX1_append 17 = .ok (.getfield 21, 3) := by decide +kernel
theorem dX1_append_20 : decode cX1_append 20 = .ok (.iload_n 1, 1) := by decide +kernel
theorem dX1_append_21 : decode cX1_append 21 = .ok (.iastore, 1) := by decide +kernel
theorem dX1_append_22 : decode cX1_append 22 = .ok (.aload_n 0, 1) := by decide +kernel
theorem dX1_append_23 : decode cX1_append 23 = .ok (.dup, 1) := by decide +kernel
theorem dX1_append_24 : decode cX1_append 24 = .ok (.getfield 21, 3) := by decide +kernel
theorem dX1_append_27 : decode cX1_append 27 = .ok (.iconst 1, 1) := by decide +kernel
theorem dX1_append_28 : decode cX1_append 28 = .ok (.iadd, 1) := by decide +kernel
theorem dX1_append_29 : decode cX1_append 29 = .ok (.putfield 21, 3) := by decide +kernel
theorem dX1_append_32 : decode cX1_append 32 = .ok (.return_, 1) := by decide +kernel
theorem dX1_appendRun_0 : decode cX1_appendRun 0 = .ok (.iload_n 2, 1) := by decide +kernel
theorem dX1_appendRun_1 : decode cX1_appendRun 1 = .ok (.ifCond .lt 29, 3) := by decide +kernel
theorem dX1_appendRun_4 : decode cX1_appendRun 4 = .ok (.iload_n 3, 1) := by decide +kernel
theorem dX1_appendRun_5 : decode cX1_appendRun 5 = .ok (.ifCond .lt 25, 3) := by decide +kernel
theorem dX1_appendRun_8 : decode cX1_appendRun 8 = .ok (.iload_n 3, 1) := by decide +kernel
theorem dX1_appendRun_9 : decode cX1_appendRun 9 = .ok (.aload_n 1, 1) := by decide +kernel
theorem dX1_appendRun_10 : decode cX1_appendRun 10 = .ok (.arraylength, 1) := by decide +kernel
theorem dX1_appendRun_11 : decode cX1_appendRun 11 = .ok (.iload_n 2, 1) := by decide +kernel
theorem dX1_appendRun_12 : decode cX1_appendRun 12 = .ok (.isub, 1) := by decide +kernel
theorem dX1_appendRun_13 : decode cX1_appendRun 13 = .ok (.if_icmp .gt 17, 3) := by decide +kernel
theorem dX1_appendRun_16 : decode cX1_appendRun 16 = .ok (.iload_n 3, 1) := by decide +kernel
theorem dX1_appendRun_17 : decode cX1_appendRun 17 = .ok (.aload_n 0, 1) := by decide +kernel
theorem dX1_appendRun_18 : decode cX1_appendRun 18 = .ok (.getfield 15, 3) := by decide +kernel
theorem dX1_appendRun_21 : decode cX1_appendRun 21 = .ok (.arraylength, 1) := by decide +kernel
theorem dX1_appendRun_22 : decode cX1_appendRun 22 = .ok (.aload_n 0, 1) := by decide +kernel
theorem dX1_appendRun_23 : decode cX1_appendRun 23 = .ok (.getfield 21, 3) := by decide +kernel
theorem dX1_appendRun_26 : decode cX1_appendRun 26 = .ok (.isub, 1) := by decide +kernel
theorem dX1_appendRun_27 : decode cX1_appendRun 27 = .ok (.if_icmp .le 4, 3) := by decide +kernel
theorem dX1_appendRun_30 : decode cX1_appendRun 30 = .ok (.return_, 1) := by decide +kernel
theorem dX1_appendRun_31 : decode cX1_appendRun 31 = .ok (.aload_n 1, 1) := by decide +kernel
theorem dX1_appendRun_32 : decode cX1_appendRun 32 = .ok (.iload_n 2, 1) := by decide +kernel
theorem dX1_appendRun_33 : decode cX1_appendRun 33 = .ok (.aload_n 0, 1) := by decide +kernel
theorem dX1_appendRun_34 : decode cX1_appendRun 34 = .ok (.getfield 15, 3) := by decide +kernel
theorem dX1_appendRun_37 : decode cX1_appendRun 37 = .ok (.aload_n 0, 1) := by decide +kernel
theorem dX1_appendRun_38 : decode cX1_appendRun 38 = .ok (.getfield 21, 3) := by decide +kernel
theorem dX1_appendRun_41 : decode cX1_appendRun 41 = .ok (.iload_n 3, 1) := by decide +kernel
theorem dX1_appendRun_42 : decode cX1_appendRun 42 = .ok (.invokestatic 25, 3) := by decide +kernel
theorem dX1_appendRun_45 : decode cX1_appendRun 45 = .ok (.aload_n 0, 1) := by decide +kernel
theorem dX1_appendRun_46 : decode cX1_appendRun 46 = .ok (.dup, 1) := by decide +kernel
theorem dX1_appendRun_47 : decode cX1_appendRun 47 = .ok (.getfield 21, 3) := by decide +kernel
theorem dX1_appendRun_50 : decode cX1_appendRun 50 = .ok (.iload_n 3, 1) := by decide +kernel
theorem dX1_appendRun_51 : decode cX1_appendRun 51 = .ok (.iadd, 1) := by decide +kernel
theorem dX1_appendRun_52 : decode cX1_appendRun 52 = .ok (.putfield 21, 3) := by decide +kernel
theorem dX1_appendRun_55 : decode cX1_appendRun 55 = .ok (.return_, 1) := by decide +kernel
theorem dX1_at_0 : decode cX1_at 0 = .ok (.iload_n 1, 1) := by decide +kernel
theorem dX1_at_1 : decode cX1_at 1 = .ok (.ifCond .lt 20, 3) := by decide +kernel
theorem dX1_at_4 : decode cX1_at 4 = .ok (.iload_n 1, 1) := by decide +kernel
theorem dX1_at_5 : decode cX1_at 5 = .ok (.aload_n 0, 1) := by decide +kernel
theorem dX1_at_6 : decode cX1_at 6 = .ok (.getfield 21, 3) := by decide +kernel
theorem dX1_at_9 : decode cX1_at 9 = .ok (.if_icmp .ge 12, 3) := by decide +kernel
theorem dX1_at_12 : decode cX1_at 12 = .ok (.aload_n 0, 1) := by decide +kernel
theorem dX1_at_13 : decode cX1_at 13 = .ok (.getfield 15, 3) := by decide +kernel
theorem dX1_at_16 : decode cX1_at 16 = .ok (.iload_n 1, 1) := by decide +kernel
theorem dX1_at_17 : decode cX1_at 17 = .ok (.iaload, 1) := by decide +kernel
theorem dX1_at_18 : decode cX1_at 18 = .ok (.goto 4, 3) := by decide +kernel
theorem dX1_at_21 : decode cX1_at 21 = .ok (.iconst (-1), 1) := by decide +kernel
theorem dX1_at_22 : decode cX1_at 22 = .ok (.ireturn, 1) := by decide +kernel
theorem dX2_init_0 : decode cX2_init 0 = .ok (.aload_n 0, 1) := by decide +kernel
theorem dX2_init_1 : decode cX2_init 1 = .ok (.invokespecial 1, 3) := by decide +kernel
theorem dX2_init_4 : decode cX2_init 4 = .ok (.return_, 1) := by decide +kernel
theorem dX2_fold_0 : decode cX2_fold 0 = .ok (.aload_n 0, 1) := by decide +kernel
theorem dX2_fold_1 : decode cX2_fold 1 = .ok (.getfield 7, 3) := by decide +kernel
theorem dX2_fold_4 : decode cX2_fold 4 = .ok (.ifCond .eq 25, 3) := by decide +kernel
theorem dX2_fold_7 : decode cX2_fold 7 = .ok (.iload_n 1, 1) := by decide +kernel
theorem dX2_fold_8 : decode cX2_fold 8 = .ok (.bipush 65, 2) := by decide +kernel
theorem dX2_fold_10 : decode cX2_fold 10 = .ok (.if_icmp .lt 19, 3) := by decide +kernel
theorem dX2_fold_13 : decode cX2_fold 13 = .ok (.iload_n 1, 1) := by decide +kernel
theorem dX2_fold_14 : decode cX2_fold 14 = .ok (.bipush 90, 2) := by decide +kernel
theorem dX2_fold_16 : decode cX2_fold 16 = .ok (.if_icmp .gt 13, 3) := by decide +kernel
theorem dX2_fold_19 : decode cX2_fold 19 = .ok (.iload_n 1, 1) := by decide +kernel
theorem dX2_fold_20 : decode cX2_fold 20 = .ok (.bipush 65, 2) := by decide +kernel
theorem dX2_fold_22 : decode cX2_fold 22 = .ok (.isub, 1) := by decide +kernel
theorem dX2_fold_23 : decode cX2_fold 23 = .ok (.bipush 97, 2) := by decide +kernel
theorem dX2_fold_25 : decode cX2_fold 25 = .ok (.iadd, 1) := by decide +kernel
theorem dX2_fold_26 : decode cX2_fold 26 = .ok (.goto 4, 3) := by decide +kernel
theorem dX2_fold_29 : decode cX2_fold 29 = .ok (.iload_n 1, 1) := by decide +kernel
theorem dX2_fold_30 : decode cX2_fold 30 = .ok (.ireturn, 1) := by decide +kernel
set_option maxRecDepth 20000 in
theorem ggX2_commonPrefix_X2_fold : GoodIn wsX2_commonPrefix wsX2_fold := goodIn_r _ [12, 13, 14] (by decide +kernel) (by decide +kernel)
set_option maxRecDepth 20000 in
theorem gX2_commonPrefix_X2_fold : GoodIn wsX2_commonPrefix (wsV RX2 19 RX2 yX2_fold wsX2_fold) := goodIn_app (goodIn_of _ (by decide +kernel)) ggX2_commonPrefix_X2_fold
theorem dX2_commonPrefix_0 : decode cX2_commonPrefix 0 = .ok (.iload_n 2, 1) := by decide +kernel
theorem dX2_commonPrefix_1 : decode cX2_commonPrefix 1 = .ok (.ifCond .lt 8, 3) := by decide +kernel
theorem dX2_commonPrefix_4 : decode cX2_commonPrefix 4 = .ok (.iload 4, 2) := by decide +kernel
theorem dX2_commonPrefix_6 : decode cX2_commonPrefix 6 = .ok (.ifCond .ge 5, 3) := by decide +kernel
theorem dX2_commonPrefix_9 : decode cX2_commonPrefix 9 = .ok (.iconst 0, 1) := by decide +kernel
theorem dX2_commonPrefix_10 : decode cX2_commonPrefix 10 = .ok (.ireturn, 1) := by decide +kernel
theorem dX2_commonPrefix_11 : decode cX2_commonPrefix 11 = .ok (.iload 5, 2) := by decide +kernel
theorem dX2_commonPrefix_13 : decode cX2_commonPrefix 13 = .ok (.aload_n 1, 1) := by decide +kernel
theorem dX2_commonPrefix_14 : decode cX2_commonPrefix 14 = .ok (.arraylength, 1) := by decide +kernel
theorem dX2_commonPrefix_15 : decode cX2_commonPrefix 15 = .ok (.iload_n 2, 1) := by decide +kernel
theorem dX2_commonPrefix_16 : decode cX2_commonPrefix 16 = .ok (.isub, 1) := by decide +kernel
theorem dX2_commonPrefix_17 : decode cX2_commonPrefix 17 = .ok (.aload_n 3, 1) := by decide +kernel
theorem dX2_commonPrefix_18 : decode cX2_commonPrefix 18 = .ok (.arraylength, 1) := by decide +kernel
theorem dX2_commonPrefix_19 : decode cX2_commonPrefix 19 = .ok (.iload 4, 2) := by decide +kernel
theorem dX2_commonPrefix_21 : decode cX2_commonPrefix 21 = .ok (.isub, 1) := by decide +kernel
theorem dX2_commonPrefix_22 : decode cX2_commonPrefix 22 = .ok (.invokestatic 13, 3) := by decide +kernel
theorem dX2_commonPrefix_25 : decode cX2_commonPrefix 25 = .ok (.invokestatic 13, 3) := by decide +kernel
theorem dX2_commonPrefix_28 : decode cX2_commonPrefix 28 = .ok (.istore 6, 2) := by decide +kernel
theorem dX2_commonPrefix_30 : decode cX2_commonPrefix 30 = .ok (.iconst 0, 1) := by decide +kernel
theorem dX2_commonPrefix_31 : decode cX2_commonPrefix 31 = .ok (.istore 7, 2) := by decide +kernel
theorem dX2_commonPrefix_33 : decode cX2_commonPrefix 33 = .ok (.iload 7, 2) := by decide +kernel
theorem dX2_commonPrefix_35 : decode cX2_commonPrefix 35 = .ok (.iload 6, 2) := by decide +kernel
theorem dX2_commonPrefix_37 : decode cX2_commonPrefix 37 = .ok (.if_icmp .ge 36, 3) := by decide +kernel
theorem dX2_commonPrefix_40 : decode cX2_commonPrefix 40 = .ok (.aload_n 0, 1) := by decide +kernel
theorem dX2_commonPrefix_41 : decode cX2_commonPrefix 41 = .ok (.aload_n 1, 1) := by decide +kernel
theorem dX2_commonPrefix_42 : decode cX2_commonPrefix 42 = .ok (.iload_n 2, 1) := by decide +kernel
theorem dX2_commonPrefix_43 : decode cX2_commonPrefix 43 = .ok (.iload 7, 2) := by decide +kernel
theorem dX2_commonPrefix_45 : decode cX2_commonPrefix 45 = .ok (.iadd, 1) := by decide +kernel
theorem dX2_commonPrefix_46 : decode cX2_commonPrefix 46 = .ok (.iaload, 1) := by decide +kernel
theorem dX2_commonPrefix_47 : decode cX2_commonPrefix 47 = .ok (.invokevirtual 19, 3) := by decide +kernel
theorem dX2_commonPrefix_50 : decode cX2_commonPrefix 50 = .ok (.aload_n 0, 1) := by decide +kernel
theorem dX2_commonPrefix_51 : decode cX2_commonPrefix 51 = .ok (.aload_n 3, 1) := by decide +kernel
theorem dX2_commonPrefix_52 : decode cX2_commonPrefix 52 = .ok (.iload 4, 2) := by decide +kernel
theorem dX2_commonPrefix_54 : decode cX2_commonPrefix 54 = .ok (.iload 7, 2) := by decide +kernel
theorem dX2_commonPrefix_56 : decode cX2_commonPrefix 56 = .ok (.iadd, 1) := by decide +kernel
theorem dX2_commonPrefix_57 : decode cX2_commonPrefix 57 = .ok (.iaload, 1) := by decide +kernel
theorem dX2_commonPrefix_58 : decode cX2_commonPrefix 58 = .ok (.invokevirtual 19, 3) := by decide +kernel
theorem dX2_commonPrefix_61 : decode cX2_commonPrefix 61 = .ok (.if_icmp .eq 6, 3) := by decide +kernel
theorem dX2_commonPrefix_64 : decode cX2_commonPrefix 64 = .ok (.iload 7, 2) := by decide +kernel
theorem dX2_commonPrefix_66 : decode cX2_commonPrefix 66 = .ok (.ireturn, 1) := by decide +kernel
theorem dX2_commonPrefix_67 : decode cX2_commonPrefix 67 = .ok (.iinc 7 1, 3) := by decide +kernel
theorem dX2_commonPrefix_70 : decode cX2_commonPrefix 70 = .ok (.goto (-37), 3) := by decide +kernel
theorem dX2_commonPrefix_73 : decode cX2_commonPrefix 73 = .ok (.iload 6, 2) := by decide +kernel
theorem dX2_commonPrefix_75 : decode cX2_commonPrefix 75 = .ok (.iconst 0, 1) := by decide +kernel
theorem dX2_commonPrefix_76 : decode cX2_commonPrefix 76 = .ok (.invokestatic 23, 3) := by decide +kernel
theorem dX2_commonPrefix_79 : decode cX2_commonPrefix 79 = .ok (.ireturn, 1) := by decide +kernel
set_option maxRecDepth 20000 in
theorem ggX2_same_X2_commonPrefix : GoodIn wsX2_same wsX2_commonPrefix := goodIn_r _ [5, 6, 7, 8, 9, 10, 11, 12, 13, 14, 15, 4, 16, 17, 18] (by decide +kernel) (by decide +kernel)
set_option maxRecDepth 20000 in
theorem gX2_same_X2_commonPrefix : GoodIn wsX2_same (wsV RX2 26 RX2 yX2_commonPrefix wsX2_commonPrefix) := goodIn_app (goodIn_of _ (by decide +kernel)) ggX2_same_X2_commonPrefix
theorem dX2_same_0 : decode cX2_same 0 = .ok (.aload_n 0, 1) := by decide +kernel
theorem dX2_same_1 : decode cX2_same 1 = .ok (.aload_n 1, 1) := by decide +kernel
theorem dX2_same_2 : decode cX2_same 2 = .ok (.iload_n 2, 1) := by decide +kernel
theorem dX2_same_3 : decode cX2_same 3 = .ok (.aload_n 3, 1) := by decide +kernel
theorem dX2_same_4 : decode cX2_same 4 = .ok (.iload 4, 2) := by decide +kernel
theorem dX2_same_6 : decode cX2_same 6 = .ok (.iload 5, 2) := by decide +kernel
theorem dX2_same_8 : decode cX2_same 8 = .ok (.invokevirtual 26, 3) := by decide +kernel
theorem dX2_same_11 : decode cX2_same 11 = .ok (.iload 5, 2) := by decide +kernel
theorem dX2_same_13 : decode cX2_same 13 = .ok (.if_icmp .ne 7, 3) := by decide +kernel
theorem dX2_same_16 : decode cX2_same 16 = .ok (.iconst 1, 1) := by decide +kernel
theorem dX2_same_17 : decode cX2_same 17 = .ok (.goto 4, 3) := by decide +kernel
theorem dX2_same_20 : decode cX2_same 20 = .ok (.iconst 0, 1) := by decide +kernel
theorem dX2_same_21 : decode cX2_same 21 = .ok (.ireturn, 1) := by decide +kernel
set_option maxRecDepth 20000 in
theorem ggX2_overlap_X2_commonPrefix : GoodIn wsX2_overlap wsX2_commonPrefix := goodIn_r _ [5, 6, 7, 8, 9, 10, 11, 12, 13, 14, 15, 4, 16, 17, 18] (by decide +kernel) (by decide +kernel)
set_option maxRecDepth 20000 in
theorem gX2_overlap_X2_commonPrefix : GoodIn wsX2_overlap (wsV RX2 26 RX2 yX2_commonPrefix wsX2_commonPrefix) := goodIn_app (goodIn_of _ (by decide +kernel)) ggX2_overlap_X2_commonPrefix
theorem dX2_overlap_0 : decode cX2_overlap 0 = .ok (.iload 5, 2) := by decide +kernel
theorem dX2_overlap_2 : decode cX2_overlap 2 = .ok (.istore 6, 2) := by decide +kernel
theorem dX2_overlap_4 : decode cX2_overlap 4 = .ok (.iload 6, 2) := by decide +kernel
theorem dX2_overlap_6 : decode cX2_overlap 6 = .ok (.ifCond .le 31, 3) := by decide +kernel
theorem dX2_overlap_9 : decode cX2_overlap 9 = .ok (.aload_n 0, 1) := by decide +kernel
theorem dX2_overlap_10 : decode cX2_overlap 10 = .ok (.aload_n 1, 1) := by decide +kernel
theorem dX2_overlap_11 : decode cX2_overlap 11 = .ok (.iload_n 2, 1) := by decide +kernel
theorem dX2_overlap_12 : decode cX2_overlap 12 = .ok (.iload 6, 2) := by decide +kernel
theorem dX2_overlap_14 : decode cX2_overlap 14 = .ok (.isub, 1) := by decide +kernel
theorem dX2_overlap_15 : decode cX2_overlap 15 = .ok (.aload_n 3, 1) := by decide +kernel
theorem dX2_overlap_16 : decode cX2_overlap 16 = .ok (.iload 4, 2) := by decide +kernel
theorem dX2_overlap_18 : decode cX2_overlap 18 = .ok (.iload 6, 2) := by decide +kernel
theorem dX2_overlap_20 : decode cX2_overlap 20 = .ok (.invokevirtual 26, 3) := by decide +kernel
theorem dX2_overlap_23 : decode cX2_overlap 23 = .ok (.iload 6, 2) := by decide +kernel
theorem dX2_overlap_25 : decode cX2_overlap 25 = .ok (.if_icmp .ne 6, 3) := by decide +kernel
theorem dX2_overlap_28 : decode cX2_overlap 28 = .ok (.iload 6, 2) := by decide +kernel
theorem dX2_overlap_30 : decode cX2_overlap 30 = .ok (.ireturn, 1) := by decide +kernel
theorem dX2_overlap_31 : decode cX2_overlap 31 = .ok (.iinc 6 (-1), 3) := by decide +kernel
theorem dX2_overlap_34 : decode cX2_overlap 34 = .ok (.goto (-30), 3) := by decide +kernel
theorem dX2_overlap_37 : decode cX2_overlap 37 = .ok (.iconst 0, 1) := by decide +kernel
theorem dX2_overlap_38 : decode cX2_overlap 38 = .ok (.ireturn, 1) := by decide +kernel
theorem dX3_init_0 : decode cX3_init 0 = .ok (.aload_n 0, 1) := by decide +kernel
theorem dX3_init_1 : decode cX3_init 1 = .ok (.invokespecial 3, 3) := by decide +kernel
theorem dX3_init_4 : decode cX3_init 4 = .ok (.aload_n 0, 1) := by decide +kernel
theorem dX3_init_5 : decode cX3_init 5 = .ok (.aload_n 1, 1) := by decide +kernel
theorem dX3_init_6 : decode cX3_init 6 = .ok (.putfield 9, 3) := by decide +kernel
theorem dX3_init_9 : decode cX3_init 9 = .ok (.aload_n 0, 1) := by decide +kernel
theorem dX3_init_10 : decode cX3_init 10 = .ok (.sipush 1920, 3) := by decide +kernel
theorem dX3_init_13 : decode cX3_init 13 = .ok (.newarray .int, 2) := by decide +kernel
theorem dX3_init_15 : decode cX3_init 15 = .ok (.putfield 15, 3) := by decide +kernel
theorem dX3_init_18 : decode cX3_init 18 = .ok (.aload_n 0, 1) := by decide +kernel
theorem dX3_init_19 : decode cX3_init 19 = .ok (.bipush 120, 2) := by decide +kernel
theorem dX3_init_21 : decode cX3_init 21 = .ok (.newarray .int, 2) := by decide +kernel
theorem dX3_init_23 : decode cX3_init 23 = .ok (.putfield 19, 3) := by decide +kernel
theorem dX3_init_26 : decode cX3_init 26 = .ok (.aload_n 0, 1) := by decide +kernel
theorem dX3_init_27 : decode cX3_init 27 = .ok (.bipush 120, 2) := by decide +kernel
theorem dX3_init_29 : decode cX3_init 29 = .ok (.newarray .int, 2) := by decide +kernel
theorem dX3_init_31 : decode cX3_init 31 = .ok (.putfield 22, 3) := by decide +kernel
theorem dX3_init_34 : decode cX3_init 34 = .ok (.aload_n 0, 1) := by decide +kernel
theorem dX3_init_35 : decode cX3_init 35 = .ok (.bipush 120, 2) := by decide +kernel
theorem dX3_init_37 : decode cX3_init 37 = .ok (.newarray .boolean, 2) := by decide +kernel
theorem dX3_init_39 : decode cX3_init 39 = .ok (.putfield 25, 3) := by decide +kernel
theorem dX3_init_42 : decode cX3_init 42 = .ok (.aload_n 0, 1) := by decide +kernel
theorem dX3_init_43 : decode cX3_init 43 = .ok (.iconst 0, 1) := by decide +kernel
theorem dX3_init_44 : decode cX3_init 44 = .ok (.putfield 29, 3) := by decide +kernel
theorem dX3_init_47 : decode cX3_init 47 = .ok (.aload_n 0, 1) := by decide +kernel
theorem dX3_init_48 : decode cX3_init 48 = .ok (.iconst 0, 1) := by decide +kernel
theorem dX3_init_49 : decode cX3_init 49 = .ok (.putfield 33, 3) := by decide +kernel
theorem dX3_init_52 : decode cX3_init 52 = .ok (.return_, 1) := by decide +kernel
set_option maxRecDepth 20000 in
theorem ggX3_give_X3_firstByteOf : GoodIn wsX3_give wsX3_firstByteOf := goodIn_r _ [11] (by decide +kernel) (by decide +kernel)
set_option maxRecDepth 20000 in
theorem gX3_give_X3_firstByteOf : GoodIn wsX3_give (wsV RX3 36 RX3 yX3_firstByteOf wsX3_firstByteOf) := goodIn_app (goodIn_of _ (by decide +kernel)) ggX3_give_X3_firstByteOf
set_option maxRecDepth 20000 in
theorem ggX3_give_X1_at : GoodIn wsX3_give wsX1_at := goodIn_r _ [16, 17, 18, 26, 27] (by decide +kernel) (by decide +kernel)
set_option maxRecDepth 20000 in
theorem gX3_give_X1_at : GoodIn wsX3_give (wsV RX3 40 RX1 yX1_at wsX1_at) := goodIn_app (goodIn_of _ (by decide +kernel)) ggX3_give_X1_at
theorem dX3_give_0 : decode cX3_give 0 = .ok (.aload_n 0, 1) := by decide +kernel
theorem dX3_give_1 : decode cX3_give 1 = .ok (.getfield 29, 3) := by decide +kernel
theorem dX3_give_4 : decode cX3_give 4 = .ok (.bipush 120, 2) := by decide +kernel
theorem dX3_give_6 : decode cX3_give 6 = .ok (.if_icmp .ge 13, 3) := by decide +kernel
theorem dX3_give_9 : decode cX3_give 9 = .ok (.iload_n 2, 1) := by decide +kernel
theorem dX3_give_10 : decode cX3_give 10 = .ok (.ifCond .lt 9, 3) := by decide +kernel
theorem dX3_give_13 : decode cX3_give 13 = .ok (.iload_n 2, 1) := by decide +kernel
theorem dX3_give_14 : decode cX3_give 14 = .ok (.bipush 16, 2) := by decide +kernel
theorem dX3_give_16 : decode cX3_give 16 = .ok (.if_icmp .le 5, 3) := by decide +kernel
theorem dX3_give_19 : decode cX3_give 19 = .ok (.iconst (-1), 1) := by decide +kernel
theorem dX3_give_20 : decode cX3_give 20 = .ok (.ireturn, 1) := by decide +kernel
theorem dX3_give_21 : decode cX3_give 21 = .ok (.aload_n 0, 1) := by decide +kernel
theorem dX3_give_22 : decode cX3_give 22 = .ok (.getfield 29, 3) := by decide +kernel
theorem dX3_give_25 : decode cX3_give 25 = .ok (.istore 4, 2) := by decide +kernel
theorem dX3_give_27 : decode cX3_give 27 = .ok (.iconst 0, 1) := by decide +kernel
theorem dX3_give_28 : decode cX3_give 28 = .ok (.istore 5, 2) := by decide +kernel
theorem dX3_give_30 : decode cX3_give 30 = .ok (.iload 5, 2) := by decide +kernel
theorem dX3_give_32 : decode cX3_give 32 = .ok (.iload_n 2, 1) := by decide +kernel
theorem dX3_give_33 : decode cX3_give 33 = .ok (.if_icmp .ge 29, 3) := by decide +kernel
theorem dX3_give_36 : decode cX3_give 36 = .ok (.aload_n 0, 1) := by decide +kernel
theorem dX3_give_37 : decode cX3_give 37 = .ok (.getfield 15, 3) := by decide +kernel
theorem dX3_give_40 : decode cX3_give 40 = .ok (.aload_n 0, 1) := by decide +kernel
theorem dX3_give_41 : decode cX3_give 41 = .ok (.iload 4, 2) := by decide +kernel
theorem dX3_give_43 : decode cX3_give 43 = .ok (.invokevirtual 36, 3) := by decide +kernel
theorem dX3_give_46 : decode cX3_give 46 = .ok (.iload 5, 2) := by decide +kernel
theorem dX3_give_48 : decode cX3_give 48 = .ok (.iadd, 1) := by decide +kernel
theorem dX3_give_49 : decode cX3_give 49 = .ok (.aload_n 1, 1) := by decide +kernel
theorem dX3_give_50 : decode cX3_give 50 = .ok (.iload 5, 2) := by decide +kernel
theorem dX3_give_52 : decode cX3_give 52 = .ok (.invokevirtual 40, 3) := by decide +kernel
theorem dX3_give_55 : decode cX3_give 55 = .ok (.iastore, 1) := by decide +kernel
theorem dX3_give_56 : decode cX3_give 56 = .ok (.iinc 5 1, 3) := by decide +kernel
theorem dX3_give_59 : decode cX3_give 59 = .ok (.goto (-29), 3) := by decide +kernel
theorem dX3_give_62 : decode cX3_give 62 = .ok (.aload_n 0, 1) := by decide +kernel
theorem dX3_give_63 : decode cX3_give 63 = .ok (.getfield 19, 3) := by decide +kernel
theorem dX3_give_66 : decode cX3_give 66 = .ok (.iload 4, 2) := by decide +kernel
theorem dX3_give_68 : decode cX3_give 68 = .ok (.iload_n 2, 1) := by decide +kernel
theorem dX3_give_69 : decode cX3_give 69 = .ok (.iastore, 1) := by decide +kernel
theorem dX3_give_70 : decode cX3_give 70 = .ok (.aload_n 0, 1) := by decide +kernel
theorem dX3_give_71 : decode cX3_give 71 = .ok (.getfield 22, 3) := by decide +kernel
theorem dX3_give_74 : decode cX3_give 74 = .ok (.iload 4, 2) := by decide +kernel
theorem dX3_give_76 : decode cX3_give 76 = .ok (.iload_n 3, 1) := by decide +kernel
theorem dX3_give_77 : decode cX3_give 77 = .ok (.iastore, 1) := by decide +kernel
theorem dX3_give_78 : decode cX3_give 78 = .ok (.aload_n 0, 1) := by decide +kernel
theorem dX3_give_79 : decode cX3_give 79 = .ok (.getfield 25, 3) := by decide +kernel
theorem dX3_give_82 : decode cX3_give 82 = .ok (.iload 4, 2) := by decide +kernel
theorem dX3_give_84 : decode cX3_give 84 = .ok (.iconst 1, 1) := by decide +kernel
theorem dX3_give_85 : decode cX3_give 85 = .ok (.bastore, 1) := by decide +kernel
theorem dX3_give_86 : decode cX3_give 86 = .ok (.aload_n 0, 1) := by decide +kernel
theorem dX3_give_87 : decode cX3_give 87 = .ok (.dup, 1) := by decide +kernel
theorem dX3_give_88 : decode cX3_give 88 = .ok (.getfield 29, 3) := by decide +kernel
theorem dX3_give_91 : decode cX3_give 91 = .ok (.iconst 1, 1) := by decide +kernel
theorem dX3_give_92 : decode cX3_give 92 = .ok (.iadd, 1) := by decide +kernel
theorem dX3_give_93 : decode cX3_give 93 = .ok (.putfield 29, 3) := by decide +kernel
theorem dX3_give_96 : decode cX3_give 96 = .ok (.aload_n 0, 1) := by decide +kernel
theorem dX3_give_97 : decode cX3_give 97 = .ok (.dup, 1) := by decide +kernel
theorem dX3_give_98 : decode cX3_give 98 = .ok (.getfield 33, 3) := by decide +kernel
theorem dX3_give_101 : decode cX3_give 101 = .ok (.iconst 1, 1) := by decide +kernel
theorem dX3_give_102 : decode cX3_give 102 = .ok (.iadd, 1) := by decide +kernel
theorem dX3_give_103 : decode cX3_give 103 = .ok (.putfield 33, 3) := by decide +kernel
theorem dX3_give_106 : decode cX3_give 106 = .ok (.iload 4, 2) := by decide +kernel
theorem dX3_give_108 : decode cX3_give 108 = .ok (.ireturn, 1) := by decide +kernel
set_option maxRecDepth 20000 in
theorem ggX3_retire_X3_isAlive : GoodIn wsX3_retire wsX3_isAlive := goodIn_r _ [7, 1, 8, 9, 10, 6, 11, 12, 13, 14, 15, 16, 17, 18, 19] (by decide +kernel) (by decide +kernel)
set_option maxRecDepth 20000 in
theorem gX3_retire_X3_isAlive : GoodIn wsX3_retire (wsV RX3 45 RX3 yX3_isAlive wsX3_isAlive) := goodIn_app (goodIn_of _ (by decide +kernel)) ggX3_retire_X3_isAlive
theorem dX3_retire_0 : decode cX3_retire 0 = .ok (.aload_n 0, 1) := by decide +kernel
theorem dX3_retire_1 : decode cX3_retire 1 = .ok (.iload_n 1, 1) := by decide +kernel
theorem dX3_retire_2 : decode cX3_retire 2 = .ok (.invokevirtual 45, 3) := by decide +kernel
theorem dX3_retire_5 : decode cX3_retire 5 = .ok (.ifCond .eq 20, 3) := by decide +kernel
theorem dX3_retire_8 : decode cX3_retire 8 = .ok (.aload_n 0, 1) := by decide +kernel
theorem dX3_retire_9 : decode cX3_retire 9 = .ok (.getfield 25, 3) := by decide +kernel
theorem dX3_retire_12 : decode cX3_retire 12 = .ok (.iload_n 1, 1) := by decide +kernel
theorem dX3_retire_13 : decode cX3_retire 13 = .ok (.iconst 0, 1) := by decide +kernel
theorem dX3_retire_14 : decode cX3_retire 14 = .ok (.bastore, 1) := by decide +kernel
theorem dX3_retire_15 : decode cX3_retire 15 = .ok (.aload_n 0, 1) := by decide +kernel
theorem dX3_retire_16 : decode cX3_retire 16 = .ok (.dup, 1) := by decide +kernel
theorem dX3_retire_17 : decode cX3_retire 17 = .ok (.getfield 33, 3) := by decide +kernel
theorem dX3_retire_20 : decode cX3_retire 20 = .ok (.iconst 1, 1) := by decide +kernel
theorem dX3_retire_21 : decode cX3_retire 21 = .ok (.isub, 1) := by decide +kernel
theorem dX3_retire_22 : decode cX3_retire 22 = .ok (.putfield 33, 3) := by decide +kernel
theorem dX3_retire_25 : decode cX3_retire 25 = .ok (.return_, 1) := by decide +kernel
theorem dX3_isGiven_0 : decode cX3_isGiven 0 = .ok (.iload_n 1, 1) := by decide +kernel
theorem dX3_isGiven_1 : decode cX3_isGiven 1 = .ok (.ifCond .lt 15, 3) := by decide +kernel
theorem dX3_isGiven_4 : decode cX3_isGiven 4 = .ok (.iload_n 1, 1) := by decide +kernel
theorem dX3_isGiven_5 : decode cX3_isGiven 5 = .ok (.aload_n 0, 1) := by decide +kernel
theorem dX3_isGiven_6 : decode cX3_isGiven 6 = .ok (.getfield 29, 3) := by decide +kernel
theorem dX3_isGiven_9 : decode cX3_isGiven 9 = .ok (.if_icmp .ge 7, 3) := by decide +kernel
theorem dX3_isGiven_12 : decode cX3_isGiven 12 = .ok (.iconst 1, 1) := by decide +kernel
theorem dX3_isGiven_13 : decode cX3_isGiven 13 = .ok (.goto 4, 3) := by decide +kernel
theorem dX3_isGiven_16 : decode cX3_isGiven 16 = .ok (.iconst 0, 1) := by decide +kernel
theorem dX3_isGiven_17 : decode cX3_isGiven 17 = .ok (.ireturn, 1) := by decide +kernel
set_option maxRecDepth 20000 in
theorem ggX3_isAlive_X3_isGiven : GoodIn wsX3_isAlive wsX3_isGiven := goodIn_r _ [6, 7, 8, 9, 10, 11, 12, 13, 14] (by decide +kernel) (by decide +kernel)
set_option maxRecDepth 20000 in
theorem gX3_isAlive_X3_isGiven : GoodIn wsX3_isAlive (wsV RX3 49 RX3 yX3_isGiven wsX3_isGiven) := goodIn_app (goodIn_of _ (by decide +kernel)) ggX3_isAlive_X3_isGiven
theorem dX3_isAlive_0 : decode cX3_isAlive 0 = .ok (.aload_n 0, 1) := by decide +kernel
theorem dX3_isAlive_1 : decode cX3_isAlive 1 = .ok (.iload_n 1, 1) := by decide +kernel
theorem dX3_isAlive_2 : decode cX3_isAlive 2 = .ok (.invokevirtual 49, 3) := by decide +kernel
theorem dX3_isAlive_5 : decode cX3_isAlive 5 = .ok (.ifCond .eq 16, 3) := by decide +kernel
theorem dX3_isAlive_8 : decode cX3_isAlive 8 = .ok (.aload_n 0, 1) := by decide +kernel
theorem dX3_isAlive_9 : decode cX3_isAlive 9 = .ok (.getfield 25, 3) := by decide +kernel
theorem dX3_isAlive_12 : decode cX3_isAlive 12 = .ok (.iload_n 1, 1) := by decide +kernel
theorem dX3_isAlive_13 : decode cX3_isAlive 13 = .ok (.baload, 1) := by decide +kernel
theorem dX3_isAlive_14 : decode cX3_isAlive 14 = .ok (.ifCond .eq 7, 3) := by decide +kernel
theorem dX3_isAlive_17 : decode cX3_isAlive 17 = .ok (.iconst 1, 1) := by decide +kernel
theorem dX3_isAlive_18 : decode cX3_isAlive 18 = .ok (.goto 4, 3) := by decide +kernel
theorem dX3_isAlive_21 : decode cX3_isAlive 21 = .ok (.iconst 0, 1) := by decide +kernel
theorem dX3_isAlive_22 : decode cX3_isAlive 22 = .ok (.ireturn, 1) := by decide +kernel
set_option maxRecDepth 20000 in
theorem ggX3_lengthOf_X3_isGiven : GoodIn wsX3_lengthOf wsX3_isGiven := goodIn_r _ [6, 7, 8, 9, 10, 11, 12, 13, 14] (by decide +kernel) (by decide +kernel)
set_option maxRecDepth 20000 in
theorem gX3_lengthOf_X3_isGiven : GoodIn wsX3_lengthOf (wsV RX3 49 RX3 yX3_isGiven wsX3_isGiven) := goodIn_app (goodIn_of _ (by decide +kernel)) ggX3_lengthOf_X3_isGiven
theorem dX3_lengthOf_0 : decode cX3_lengthOf 0 = .ok (.aload_n 0, 1) := by decide +kernel
theorem dX3_lengthOf_1 : decode cX3_lengthOf 1 = .ok (.iload_n 1, 1) := by decide +kernel
theorem dX3_lengthOf_2 : decode cX3_lengthOf 2 = .ok (.invokevirtual 49, 3) := by decide +kernel
theorem dX3_lengthOf_5 : decode cX3_lengthOf 5 = .ok (.ifCond .eq 12, 3) := by decide +kernel
theorem dX3_lengthOf_8 : decode cX3_lengthOf 8 = .ok (.aload_n 0, 1) := by decide +kernel
theorem dX3_lengthOf_9 : decode cX3_lengthOf 9 = .ok (.getfield 19, 3) := by decide +kernel
theorem dX3_lengthOf_12 : decode cX3_lengthOf 12 = .ok (.iload_n 1, 1) := by decide +kernel
theorem dX3_lengthOf_13 : decode cX3_lengthOf 13 = .ok (.iaload, 1) := by decide +kernel
theorem dX3_lengthOf_14 : decode cX3_lengthOf 14 = .ok (.goto 4, 3) := by decide +kernel
theorem dX3_lengthOf_17 : decode cX3_lengthOf 17 = .ok (.iconst 0, 1) := by decide +kernel
theorem dX3_lengthOf_18 : decode cX3_lengthOf 18 = .ok (.ireturn, 1) := by decide +kernel
set_option maxRecDepth 20000 in
theorem ggX3_weightOf_X3_isGiven : GoodIn wsX3_weightOf wsX3_isGiven := goodIn_r _ [6, 7, 8, 9, 10, 11, 12, 13, 14] (by decide +kernel) (by decide +kernel)
set_option maxRecDepth 20000 in
theorem gX3_weightOf_X3_isGiven : GoodIn wsX3_weightOf (wsV RX3 49 RX3 yX3_isGiven wsX3_isGiven) := goodIn_app (goodIn_of _ (by decide +kernel)) ggX3_weightOf_X3_isGiven
theorem dX3_weightOf_0 : decode cX3_weightOf 0 = .ok (.aload_n 0, 1) := by decide +kernel
theorem dX3_weightOf_1 : decode cX3_weightOf 1 = .ok (.iload_n 1, 1) := by decide +kernel
theorem dX3_weightOf_2 : decode cX3_weightOf 2 = .ok (.invokevirtual 49, 3) := by decide +kernel
theorem dX3_weightOf_5 : decode cX3_weightOf 5 = .ok (.ifCond .eq 12, 3) := by decide +kernel
theorem dX3_weightOf_8 : decode cX3_weightOf 8 = .ok (.aload_n 0, 1) := by decide +kernel
theorem dX3_weightOf_9 : decode cX3_weightOf 9 = .ok (.getfield 22, 3) := by decide +kernel
theorem dX3_weightOf_12 : decode cX3_weightOf 12 = .ok (.iload_n 1, 1) := by decide +kernel
theorem dX3_weightOf_13 : decode cX3_weightOf 13 = .ok (.iaload, 1) := by decide +kernel
theorem dX3_weightOf_14 : decode cX3_weightOf 14 = .ok (.goto 4, 3) := by decide +kernel
theorem dX3_weightOf_17 : decode cX3_weightOf 17 = .ok (.iconst 0, 1) := by decide +kernel
theorem dX3_weightOf_18 : decode cX3_weightOf 18 = .ok (.ireturn, 1) := by decide +kernel
theorem dX3_firstByteOf_0 : decode cX3_firstByteOf 0 = .ok (.iload_n 1, 1) := by decide +kernel
theorem dX3_firstByteOf_1 : decode cX3_firstByteOf 1 = .ok (.bipush 16, 2) := by decide +kernel
theorem dX3_firstByteOf_3 : decode cX3_firstByteOf 3 = .ok (.imul, 1) := by decide +kernel
theorem dX3_firstByteOf_4 : decode cX3_firstByteOf 4 = .ok (.ireturn, 1) := by decide +kernel
set_option maxRecDepth 20000 in
theorem ggX3_byteOf_X3_lengthOf : GoodIn wsX3_byteOf wsX3_lengthOf := goodIn_r _ [6, 7, 8, 9, 10, 5, 11, 12, 17, 18, 19, 20, 21, 22, 23] (by decide +kernel) (by decide +kernel)
set_option maxRecDepth 20000 in
theorem gX3_byteOf_X3_lengthOf : GoodIn wsX3_byteOf (wsV RX3 52 RX3 yX3_lengthOf wsX3_lengthOf) := goodIn_app (goodIn_of _ (by decide +kernel)) ggX3_byteOf_X3_lengthOf
set_option maxRecDepth 20000 in
theorem ggX3_byteOf_X3_firstByteOf : GoodIn wsX3_byteOf wsX3_firstByteOf := goodIn_r _ [16] (by decide +kernel) (by decide +kernel)
set_option maxRecDepth 20000 in
theorem gX3_byteOf_X3_firstByteOf : GoodIn wsX3_byteOf (wsV RX3 36 RX3 yX3_firstByteOf wsX3_firstByteOf) := goodIn_app (goodIn_of _ (by decide +kernel)) ggX3_byteOf_X3_firstByteOf
theorem dX3_byteOf_0 : decode cX3_byteOf 0 = .ok (.iload_n 2, 1) := by decide +kernel
theorem dX3_byteOf_1 : decode cX3_byteOf 1 = .ok (.ifCond .lt 12, 3) := by decide +kernel
theorem dX3_byteOf_4 : decode cX3_byteOf 4 = .ok (.iload_n 2, 1) := by decide +kernel
theorem dX3_byteOf_5 : decode cX3_byteOf 5 = .ok (.aload_n 0, 1) := by decide +kernel
theorem dX3_byteOf_6 : decode cX3_byteOf 6 = .ok (.iload_n 1, 1) := by decide +kernel
theorem dX3_byteOf_7 : decode cX3_byteOf 7 = .ok (.invokevirtual 52, 3) := by decide +kernel
theorem dX3_byteOf_10 : decode cX3_byteOf 10 = .ok (.if_icmp .lt 5, 3) := by decide +kernel
theorem dX3_byteOf_13 : decode cX3_byteOf 13 = .ok (.iconst (-1), 1) := by decide +kernel
theorem dX3_byteOf_14 : decode cX3_byteOf 14 = .ok (.ireturn, 1) := by decide +kernel
theorem dX3_byteOf_15 : decode cX3_byteOf 15 = .ok (.aload_n 0, 1) := by decide +kernel
theorem dX3_byteOf_16 : decode cX3_byteOf 16 = .ok (.getfield 15, 3) := by decide +kernel
theorem dX3_byteOf_19 : decode cX3_byteOf 19 = .ok (.aload_n 0, 1) := by decide +kernel
theorem dX3_byteOf_20 : decode cX3_byteOf 20 = .ok (.iload_n 1, 1) := by decide +kernel
theorem dX3_byteOf_21 : decode cX3_byteOf 21 = .ok (.invokevirtual 36, 3) := by decide +kernel
theorem dX3_byteOf_24 : decode cX3_byteOf 24 = .ok (.iload_n 2, 1) := by decide +kernel
theorem dX3_byteOf_25 : decode cX3_byteOf 25 = .ok (.iadd, 1) := by decide +kernel
theorem dX3_byteOf_26 : decode cX3_byteOf 26 = .ok (.iaload, 1) := by decide +kernel
theorem dX3_byteOf_27 : decode cX3_byteOf 27 = .ok (.ireturn, 1) := by decide +kernel
set_option maxRecDepth 20000 in
theorem ggX3_findAlive_X3_standsAt : GoodIn wsX3_findAlive wsX3_standsAt := goodIn_r _ [8, 9, 10, 11, 12, 13, 14, 15, 7, 16, 3, 17, 18, 19, 20, 1, 21, 22, 23, 24, 25, 26, 27, 28, 29, 30, 31, 32, 33, 34, 35, 36, 37, 38, 39, 40, 41, 42, 43, 44, 45, 53, 54, 46, 47, 48, 49, 50, 51, 52, 55] (by decide +kernel) (by decide +kernel)
set_option maxRecDepth 20000 in
theorem gX3_findAlive_X3_standsAt : GoodIn wsX3_findAlive (wsV RX3 55 RX3 yX3_standsAt wsX3_standsAt) := goodIn_app (goodIn_of _ (by decide +kernel)) ggX3_findAlive_X3_standsAt
theorem dX3_findAlive_0 : decode cX3_findAlive 0 = .ok (.iconst 0, 1) := by decide +kernel
theorem dX3_findAlive_1 : decode cX3_findAlive 1 = .ok (.istore_n 3, 1) := by decide +kernel
theorem dX3_findAlive_2 : decode cX3_findAlive 2 = .ok (.iload_n 3, 1) := by decide +kernel
theorem dX3_findAlive_3 : decode cX3_findAlive 3 = .ok (.aload_n 0, 1) := by decide +kernel
theorem dX3_findAlive_4 : decode cX3_findAlive 4 = .ok (.getfield 29, 3) := by decide +kernel
theorem dX3_findAlive_7 : decode cX3_findAlive 7 = .ok (.if_icmp .ge 40, 3) := by decide +kernel
theorem dX3_findAlive_10 : decode cX3_findAlive 10 = .ok (.aload_n 0, 1) := by decide +kernel
theorem dX3_findAlive_11 : decode cX3_findAlive 11 = .ok (.getfield 25, 3) := by decide +kernel
theorem dX3_findAlive_14 : decode cX3_findAlive 14 = .ok (.iload_n 3, 1) := by decide +kernel
theorem dX3_findAlive_15 : decode cX3_findAlive 15 = .ok (.baload, 1) := by decide +kernel
theorem dX3_findAlive_16 : decode cX3_findAlive 16 = .ok (.ifCond .eq 25, 3) := by decide +kernel
theorem dX3_findAlive_19 : decode cX3_findAlive 19 = .ok (.aload_n 0, 1) := by decide +kernel
theorem dX3_findAlive_20 : decode cX3_findAlive 20 = .ok (.getfield 19, 3) := by decide +kernel
theorem dX3_findAlive_23 : decode cX3_findAlive 23 = .ok (.iload_n 3, 1) := by decide +kernel
theorem dX3_findAlive_24 : decode cX3_findAlive 24 = .ok (.iaload, 1) := by decide +kernel
theorem dX3_findAlive_25 : decode cX3_findAlive 25 = .ok (.iload_n 2, 1) := by decide +kernel
theorem dX3_findAlive_26 : decode cX3_findAlive 26 = .ok (.if_icmp .ne 15, 3) := by decide +kernel
theorem dX3_findAlive_29 : decode cX3_findAlive 29 = .ok (.aload_n 0, 1) := by decide +kernel
theorem dX3_findAlive_30 : decode cX3_findAlive 30 = .ok (.iload_n 3, 1) := by decide +kernel
theorem dX3_findAlive_31 : decode cX3_findAlive 31 = .ok (.aload_n 1, 1) := by decide +kernel
theorem dX3_findAlive_32 : decode cX3_findAlive 32 = .ok (.iconst 0, 1) := by decide +kernel
theorem dX3_findAlive_33 : decode cX3_findAlive 33 = .ok (.invokevirtual 55, 3) := by decide +kernel
theorem dX3_findAlive_36 : decode cX3_findAlive 36 = .ok (.ifCond .eq 5, 3) := by decide +kernel
theorem dX3_findAlive_39 : decode cX3_findAlive 39 = .ok (.iload_n 3, 1) := by decide +kernel
theorem dX3_findAlive_40 : decode cX3_findAlive 40 = .ok (.ireturn, 1) := by decide +kernel
theorem dX3_findAlive_41 : decode cX3_findAlive 41 = .ok (.iinc 3 1, 3) := by decide +kernel
theorem dX3_findAlive_44 : decode cX3_findAlive 44 = .ok (.goto (-42), 3) := by decide +kernel
theorem dX3_findAlive_47 : decode cX3_findAlive 47 = .ok (.iconst (-1), 1) := by decide +kernel
theorem dX3_findAlive_48 : decode cX3_findAlive 48 = .ok (.ireturn, 1) := by decide +kernel
set_option maxRecDepth 20000 in
theorem ggX3_standsAt_X3_lengthOf : GoodIn wsX3_standsAt wsX3_lengthOf := goodIn_r _ [9, 10, 11, 12, 13, 8, 14, 15, 43, 44, 45, 46, 47, 48, 49] (by decide +kernel) (by decide +kernel)
set_option maxRecDepth 20000 in
theorem gX3_standsAt_X3_lengthOf : GoodIn wsX3_standsAt (wsV RX3 52 RX3 yX3_lengthOf wsX3_lengthOf) := goodIn_app (goodIn_of _ (by decide +kernel)) ggX3_standsAt_X3_lengthOf
set_option maxRecDepth 20000 in
theorem ggX3_standsAt_X3_firstByteOf : GoodIn wsX3_standsAt wsX3_firstByteOf := goodIn_r _ [19] (by decide +kernel) (by decide +kernel)
set_option maxRecDepth 20000 in
theorem gX3_standsAt_X3_firstByteOf : GoodIn wsX3_standsAt (wsV RX3 36 RX3 yX3_firstByteOf wsX3_firstByteOf) := goodIn_app (goodIn_of _ (by decide +kernel)) ggX3_standsAt_X3_firstByteOf
set_option maxRecDepth 20000 in
theorem ggX3_standsAt_X2_same : GoodIn wsX3_standsAt wsX2_same := goodIn_r _ [24, 25, 26, 27, 23, 28, 29, 30, 31, 32, 33, 34, 35, 36, 37, 38, 39, 40, 50] (by decide +kernel) (by decide +kernel)
set_option maxRecDepth 20000 in
theorem gX3_standsAt_X2_same : GoodIn wsX3_standsAt (wsV RX3 63 RX2 yX2_same wsX2_same) := goodIn_app (goodIn_of _ (by decide +kernel)) ggX3_standsAt_X2_same
theorem dX3_standsAt_0 : decode cX3_standsAt 0 = .ok (.aload_n 0, 1) := by decide +kernel
theorem dX3_standsAt_1 : decode cX3_standsAt 1 = .ok (.iload_n 1, 1) := by decide +kernel
theorem dX3_standsAt_2 : decode cX3_standsAt 2 = .ok (.invokevirtual 52, 3) := by decide +kernel
theorem dX3_standsAt_5 : decode cX3_standsAt 5 = .ok (.istore 4, 2) := by decide +kernel
theorem dX3_standsAt_7 : decode cX3_standsAt 7 = .ok (.iload_n 3, 1) := by decide +kernel
theorem dX3_standsAt_8 : decode cX3_standsAt 8 = .ok (.ifCond .lt 44, 3) := by decide +kernel
theorem dX3_standsAt_11 : decode cX3_standsAt 11 = .ok (.iload_n 3, 1) := by decide +kernel
theorem dX3_standsAt_12 : decode cX3_standsAt 12 = .ok (.aload_n 2, 1) := by decide +kernel
theorem dX3_standsAt_13 : decode cX3_standsAt 13 = .ok (.getfield 59, 3) := by decide +kernel
theorem dX3_standsAt_16 : decode cX3_standsAt 16 = .ok (.iload 4, 2) := by decide +kernel
theorem dX3_standsAt_18 : decode cX3_standsAt 18 = .ok (.isub, 1) := by decide +kernel
theorem dX3_standsAt_19 : decode cX3_standsAt 19 = .ok (.if_icmp .gt 33, 3) := by decide +kernel
theorem dX3_standsAt_22 : decode cX3_standsAt 22 = .ok (.aload_n 0, 1) := by decide +kernel
theorem dX3_standsAt_23 : decode cX3_standsAt 23 = .ok (.getfield 9, 3) := by decide +kernel
theorem dX3_standsAt_26 : decode cX3_standsAt 26 = .ok (.aload_n 0, 1) := by decide +kernel
theorem dX3_standsAt_27 : decode cX3_standsAt 27 = .ok (.getfield 15, 3) := by decide +kernel
theorem dX3_standsAt_30 : decode cX3_standsAt 30 = .ok (.aload_n 0, 1) := by decide +kernel
theorem dX3_standsAt_31 : decode cX3_standsAt 31 = .ok (.iload_n 1, 1) := by decide +kernel
theorem dX3_standsAt_32 : decode cX3_standsAt 32 = .ok (.invokevirtual 36, 3) := by decide +kernel
theorem dX3_standsAt_35 : decode cX3_standsAt 35 = .ok (.aload_n 2, 1) := by decide +kernel
theorem dX3_standsAt_36 : decode cX3_standsAt 36 = .ok (.getfield 62, 3) := by decide +kernel
theorem dX3_standsAt_39 : decode cX3_standsAt 39 = .ok (.iload_n 3, 1) := by decide +kernel
theorem dX3_standsAt_40 : decode cX3_standsAt 40 = .ok (.iload 4, 2) := by decide +kernel
theorem dX3_standsAt_42 : decode cX3_standsAt 42 = .ok (.invokevirtual 63, 3) := by decide +kernel
theorem dX3_standsAt_45 : decode cX3_standsAt 45 = .ok (.ifCond .eq 7, 3) := by decide +kernel
theorem dX3_standsAt_48 : decode cX3_standsAt 48 = .ok (.iconst 1, 1) := by decide +kernel
theorem dX3_standsAt_49 : decode cX3_standsAt 49 = .ok (.goto 4, 3) := by decide +kernel
theorem dX3_standsAt_52 : decode cX3_standsAt 52 = .ok (.iconst 0, 1) := by decide +kernel
theorem dX3_standsAt_53 : decode cX3_standsAt 53 = .ok (.ireturn, 1) := by decide +kernel
set_option maxRecDepth 20000 in
theorem ggX3_startsWith_X3_lengthOf : GoodIn wsX3_startsWith wsX3_lengthOf := goodIn_r _ [7, 8, 9, 10, 11, 6, 12, 13, 39, 40, 41, 42, 43, 44, 45] (by decide +kernel) (by decide +kernel)
set_option maxRecDepth 20000 in
theorem gX3_startsWith_X3_lengthOf : GoodIn wsX3_startsWith (wsV RX3 52 RX3 yX3_lengthOf wsX3_lengthOf) := goodIn_app (goodIn_of _ (by decide +kernel)) ggX3_startsWith_X3_lengthOf
set_option maxRecDepth 20000 in
theorem ggX3_startsWith_X3_firstByteOf : GoodIn wsX3_startsWith wsX3_firstByteOf := goodIn_r _ [17] (by decide +kernel) (by decide +kernel)
set_option maxRecDepth 20000 in
theorem gX3_startsWith_X3_firstByteOf : GoodIn wsX3_startsWith (wsV RX3 36 RX3 yX3_firstByteOf wsX3_firstByteOf) := goodIn_app (goodIn_of _ (by decide +kernel)) ggX3_startsWith_X3_firstByteOf
set_option maxRecDepth 20000 in
theorem ggX3_startsWith_X2_same : GoodIn wsX3_startsWith wsX2_same := goodIn_r _ [22, 23, 24, 25, 21, 26, 27, 28, 29, 30, 31, 32, 33, 34, 35, 36, 37, 38, 46] (by decide +kernel) (by decide +kernel)
set_option maxRecDepth 20000 in
theorem gX3_startsWith_X2_same : GoodIn wsX3_startsWith (wsV RX3 63 RX2 yX2_same wsX2_same) := goodIn_app (goodIn_of _ (by decide +kernel)) ggX3_startsWith_X2_same
theorem dX3_startsWith_0 : decode cX3_startsWith 0 = .ok (.iload 4, 2) := by decide +kernel
theorem dX3_startsWith_2 : decode cX3_startsWith 2 = .ok (.aload_n 0, 1) := by decide +kernel
theorem dX3_startsWith_3 : decode cX3_startsWith 3 = .ok (.iload_n 1, 1) := by decide +kernel
theorem dX3_startsWith_4 : decode cX3_startsWith 4 = .ok (.invokevirtual 52, 3) := by decide +kernel
theorem dX3_startsWith_7 : decode cX3_startsWith 7 = .ok (.if_icmp .gt 30, 3) := by decide +kernel
theorem dX3_startsWith_10 : decode cX3_startsWith 10 = .ok (.aload_n 0, 1) := by decide +kernel
theorem dX3_startsWith_11 : decode cX3_startsWith 11 = .ok (.getfield 9, 3) := by decide +kernel
theorem dX3_startsWith_14 : decode cX3_startsWith 14 = .ok (.aload_n 0, 1) := by decide +kernel
theorem dX3_startsWith_15 : decode cX3_startsWith 15 = .ok (.getfield 15, 3) := by decide +kernel
theorem dX3_startsWith_18 : decode cX3_startsWith 18 = .ok (.aload_n 0, 1) := by decide +kernel
theorem dX3_startsWith_19 : decode cX3_startsWith 19 = .ok (.iload_n 1, 1) := by decide +kernel
theorem dX3_startsWith_20 : decode cX3_startsWith 20 = .ok (.invokevirtual 36, 3) := by decide +kernel
theorem dX3_startsWith_23 : decode cX3_startsWith 23 = .ok (.aload_n 2, 1) := by decide +kernel
theorem dX3_startsWith_24 : decode cX3_startsWith 24 = .ok (.iload_n 3, 1) := by decide +kernel
theorem dX3_startsWith_25 : decode cX3_startsWith 25 = .ok (.iload 4, 2) := by decide +kernel
theorem dX3_startsWith_27 : decode cX3_startsWith 27 = .ok (.invokevirtual 63, 3) := by decide +kernel
theorem dX3_startsWith_30 : decode cX3_startsWith 30 = .ok (.ifCond .eq 7, 3) := by decide +kernel
theorem dX3_startsWith_33 : decode cX3_startsWith 33 = .ok (.iconst 1, 1) := by decide +kernel
theorem dX3_startsWith_34 : decode cX3_startsWith 34 = .ok (.goto 4, 3) := by decide +kernel
theorem dX3_startsWith_37 : decode cX3_startsWith 37 = .ok (.iconst 0, 1) := by decide +kernel
theorem dX3_startsWith_38 : decode cX3_startsWith 38 = .ok (.ireturn, 1) := by decide +kernel
set_option maxRecDepth 20000 in
theorem ggX3_commonPrefix_X3_lengthOf : GoodIn wsX3_commonPrefix wsX3_lengthOf := goodIn_r _ [11, 12, 13, 14, 15, 10, 16, 17, 36, 37, 38, 39, 40, 41, 42] (by decide +kernel) (by decide +kernel)
set_option maxRecDepth 20000 in
theorem gX3_commonPrefix_X3_lengthOf : GoodIn wsX3_commonPrefix (wsV RX3 52 RX3 yX3_lengthOf wsX3_lengthOf) := goodIn_app (goodIn_of _ (by decide +kernel)) ggX3_commonPrefix_X3_lengthOf
set_option maxRecDepth 20000 in
theorem ggX3_commonPrefix_X3_firstByteOf : GoodIn wsX3_commonPrefix wsX3_firstByteOf := goodIn_r _ [21] (by decide +kernel) (by decide +kernel)
set_option maxRecDepth 20000 in
theorem gX3_commonPrefix_X3_firstByteOf : GoodIn wsX3_commonPrefix (wsV RX3 36 RX3 yX3_firstByteOf wsX3_firstByteOf) := goodIn_app (goodIn_of _ (by decide +kernel)) ggX3_commonPrefix_X3_firstByteOf
set_option maxRecDepth 20000 in
theorem ggX3_commonPrefix_X2_commonPrefix : GoodIn wsX3_commonPrefix wsX2_commonPrefix := goodIn_r _ [26, 27, 2, 3, 4, 28, 29, 30, 31, 32, 33, 25, 34, 35, 43] (by decide +kernel) (by decide +kernel)
set_option maxRecDepth 20000 in
theorem gX3_commonPrefix_X2_commonPrefix : GoodIn wsX3_commonPrefix (wsV RX3 75 RX2 yX2_commonPrefix wsX2_commonPrefix) := goodIn_app (goodIn_of _ (by decide +kernel)) ggX3_commonPrefix_X2_commonPrefix
theorem dX3_commonPrefix_0 : decode cX3_commonPrefix 0 = .ok (.aload_n 0, 1) := by decide +kernel
theorem dX3_commonPrefix_1 : decode cX3_commonPrefix 1 = .ok (.iload_n 1, 1) := by decide +kernel
theorem dX3_commonPrefix_2 : decode cX3_commonPrefix 2 = .ok (.invokevirtual 52, 3) := by decide +kernel
theorem dX3_commonPrefix_5 : decode cX3_commonPrefix 5 = .ok (.aload_n 0, 1) := by decide +kernel
theorem dX3_commonPrefix_6 : decode cX3_commonPrefix 6 = .ok (.iload_n 2, 1) := by decide +kernel
theorem dX3_commonPrefix_7 : decode cX3_commonPrefix 7 = .ok (.invokevirtual 52, 3) := by decide +kernel
theorem dX3_commonPrefix_10 : decode cX3_commonPrefix 10 = .ok (.invokestatic 69, 3) := by decide +kernel
theorem dX3_commonPrefix_13 : decode cX3_commonPrefix 13 = .ok (.istore_n 3, 1) := by decide +kernel
theorem dX3_commonPrefix_14 : decode cX3_commonPrefix 14 = .ok (.aload_n 0, 1) := by decide +kernel
theorem dX3_commonPrefix_15 : decode cX3_commonPrefix 15 = .ok (.getfield 9, 3) := by decide +kernel
theorem dX3_commonPrefix_18 : decode cX3_commonPrefix 18 = .ok (.aload_n 0, 1) := by decide +kernel
theorem dX3_commonPrefix_19 : decode cX3_commonPrefix 19 = .ok (.getfield 15, 3) := by decide +kernel
theorem dX3_commonPrefix_22 : decode cX3_commonPrefix 22 = .ok (.aload_n 0, 1) := by decide +kernel
theorem dX3_commonPrefix_23 : decode cX3_commonPrefix 23 = .ok (.iload_n 1, 1) := by decide +kernel
theorem dX3_commonPrefix_24 : decode cX3_commonPrefix 24 = .ok (.invokevirtual 36, 3) := by decide +kernel
theorem dX3_commonPrefix_27 : decode cX3_commonPrefix 27 = .ok (.aload_n 0, 1) := by decide +kernel
theorem dX3_commonPrefix_28 : decode cX3_commonPrefix 28 = .ok (.getfield 15, 3) := by decide +kernel
theorem dX3_commonPrefix_31 : decode cX3_commonPrefix 31 = .ok (.aload_n 0, 1) := by decide +kernel
theorem dX3_commonPrefix_32 : decode cX3_commonPrefix 32 = .ok (.iload_n 2, 1) := by decide +kernel
theorem dX3_commonPrefix_33 : decode cX3_commonPrefix 33 = .ok (.invokevirtual 36, 3) := by decide +kernel
theorem dX3_commonPrefix_36 : decode cX3_commonPrefix 36 = .ok (.iload_n 3, 1) := by decide +kernel
theorem dX3_commonPrefix_37 : decode cX3_commonPrefix 37 = .ok (.invokevirtual 75, 3) := by decide +kernel
theorem dX3_commonPrefix_40 : decode cX3_commonPrefix 40 = .ok (.ireturn, 1) := by decide +kernel
set_option maxRecDepth 20000 in
theorem ggX3_mismatchesAt_X3_lengthOf : GoodIn wsX3_mismatchesAt wsX3_lengthOf := goodIn_r _ [6, 7, 8, 9, 10, 5, 11, 12, 35, 36, 37, 38, 39, 40, 41] (by decide +kernel) (by decide +kernel)
set_option maxRecDepth 20000 in
theorem gX3_mismatchesAt_X3_lengthOf : GoodIn wsX3_mismatchesAt (wsV RX3 52 RX3 yX3_lengthOf wsX3_lengthOf) := goodIn_app (goodIn_of _ (by decide +kernel)) ggX3_mismatchesAt_X3_lengthOf
set_option maxRecDepth 20000 in
theorem ggX3_mismatchesAt_X3_byteOf : GoodIn wsX3_mismatchesAt wsX3_byteOf := goodIn_r _ [16, 17, 2, 3, 4, 5, 6, 7, 8, 9, 10, 11, 12, 18, 19, 20, 21, 35, 36, 37, 38, 39, 40, 41] (by decide +kernel) (by decide +kernel)
set_option maxRecDepth 20000 in
theorem gX3_mismatchesAt_X3_byteOf : GoodIn wsX3_mismatchesAt (wsV RX3 79 RX3 yX3_byteOf wsX3_byteOf) := goodIn_app (goodIn_of _ (by decide +kernel)) ggX3_mismatchesAt_X3_byteOf
set_option maxRecDepth 20000 in
theorem ggX3_mismatchesAt_X2_fold : GoodIn wsX3_mismatchesAt wsX2_fold := goodIn_r _ [26, 27, 42] (by decide +kernel) (by decide +kernel)
set_option maxRecDepth 20000 in
theorem gX3_mismatchesAt_X2_fold : GoodIn wsX3_mismatchesAt (wsV RX3 82 RX2 yX2_fold wsX2_fold) := goodIn_app (goodIn_of _ (by decide +kernel)) ggX3_mismatchesAt_X2_fold
set_option maxRecDepth 20000 in
theorem ggX3_mismatchesAt_X1_at : GoodIn wsX3_mismatchesAt wsX1_at := goodIn_r _ [32, 33, 34, 43, 44] (by decide +kernel) (by decide +kernel)
set_option maxRecDepth 20000 in
theorem gX3_mismatchesAt_X1_at : GoodIn wsX3_mismatchesAt (wsV RX3 40 RX1 yX1_at wsX1_at) := goodIn_app (goodIn_of _ (by decide +kernel)) ggX3_mismatchesAt_X1_at
theorem dX3_mismatchesAt_0 : decode cX3_mismatchesAt 0 = .ok (.iconst 0, 1) := by decide +kernel
theorem dX3_mismatchesAt_1 : decode cX3_mismatchesAt 1 = .ok (.istore 4, 2) := by decide +kernel
theorem dX3_mismatchesAt_3 : decode cX3_mismatchesAt 3 = .ok (.iconst 0, 1) := by decide +kernel
theorem dX3_mismatchesAt_4 : decode cX3_mismatchesAt 4 = .ok (.istore 5, 2) := by decide +kernel
theorem dX3_mismatchesAt_6 : decode cX3_mismatchesAt 6 = .ok (.iload 5, 2) := by decide +kernel
theorem dX3_mismatchesAt_8 : decode cX3_mismatchesAt 8 = .ok (.aload_n 0, 1) := by decide +kernel
theorem dX3_mismatchesAt_9 : decode cX3_mismatchesAt 9 = .ok (.iload_n 1, 1) := by decide +kernel
theorem dX3_mismatchesAt_10 : decode cX3_mismatchesAt 10 = .ok (.invokevirtual 52, 3) := by decide +kernel
theorem dX3_mismatchesAt_13 : decode cX3_mismatchesAt 13 = .ok (.if_icmp .ge 44, 3) := by decide +kernel
theorem dX3_mismatchesAt_16 : decode cX3_mismatchesAt 16 = .ok (.aload_n 0, 1) := by decide +kernel
theorem dX3_mismatchesAt_17 : decode cX3_mismatchesAt 17 = .ok (.getfield 9, 3) := by decide +kernel
theorem dX3_mismatchesAt_20 : decode cX3_mismatchesAt 20 = .ok (.aload_n 0, 1) := by decide +kernel
theorem dX3_mismatchesAt_21 : decode cX3_mismatchesAt 21 = .ok (.iload_n 1, 1) := by decide +kernel
theorem dX3_mismatchesAt_22 : decode cX3_mismatchesAt 22 = .ok (.iload 5, 2) := by decide +kernel
theorem dX3_mismatchesAt_24 : decode cX3_mismatchesAt 24 = .ok (.invokevirtual 79, 3) := by decide +kernel
theorem dX3_mismatchesAt_27 : decode cX3_mismatchesAt 27 = .ok (.invokevirtual 82, 3) := by decide +kernel
theorem dX3_mismatchesAt_30 : decode cX3_mismatchesAt 30 = .ok (.aload_n 0, 1) := by decide +kernel
theorem dX3_mismatchesAt_31 : decode cX3_mismatchesAt 31 = .ok (.getfield 9, 3) := by decide +kernel
theorem dX3_mismatchesAt_34 : decode cX3_mismatchesAt 34 = .ok (.aload_n 2, 1) := by decide +kernel
theorem dX3_mismatchesAt_35 : decode cX3_mismatchesAt 35 = .ok (.iload_n 3, 1) := by decide +kernel
theorem dX3_mismatchesAt_36 : decode cX3_mismatchesAt 36 = .ok (.iload 5, 2) := by decide +kernel
theorem dX3_mismatchesAt_38 : decode cX3_mismatchesAt 38 = .ok (.iadd, 1) := by decide +kernel
theorem dX3_mismatchesAt_39 : decode cX3_mismatchesAt 39 = .ok (.invokevirtual 40, 3) := by decide +kernel
theorem dX3_mismatchesAt_42 : decode cX3_mismatchesAt 42 = .ok (.invokevirtual 82, 3) := by decide +kernel
theorem dX3_mismatchesAt_45 : decode cX3_mismatchesAt 45 = .ok (.if_icmp .eq 6, 3) := by decide +kernel
theorem dX3_mismatchesAt_48 : decode cX3_mismatchesAt 48 = .ok (.iinc 4 1, 3) := by decide +kernel
theorem dX3_mismatchesAt_51 : decode cX3_mismatchesAt 51 = .ok (.iinc 5 1, 3) := by decide +kernel
theorem dX3_mismatchesAt_54 : decode cX3_mismatchesAt 54 = .ok (.goto (-48), 3) := by decide +kernel
theorem dX3_mismatchesAt_57 : decode cX3_mismatchesAt 57 = .ok (.iload 4, 2) := by decide +kernel
theorem dX3_mismatchesAt_59 : decode cX3_mismatchesAt 59 = .ok (.ireturn, 1) := by decide +kernel
set_option maxRecDepth 20000 in
theorem ggX3_isInsideAnother_X3_lengthOf : GoodIn wsX3_isInsideAnother wsX3_lengthOf := goodIn_r _ [10, 3, 11, 12, 13, 9, 14, 1, 40, 41, 42, 43, 44, 45, 46] (by decide +kernel) (by decide +kernel)
set_option maxRecDepth 20000 in
theorem gX3_isInsideAnother_X3_lengthOf : GoodIn wsX3_isInsideAnother (wsV RX3 52 RX3 yX3_lengthOf wsX3_lengthOf) := goodIn_app (goodIn_of _ (by decide +kernel)) ggX3_isInsideAnother_X3_lengthOf
set_option maxRecDepth 20000 in
theorem ggX3_isInsideAnother_X3_firstByteOf : GoodIn wsX3_isInsideAnother wsX3_firstByteOf := goodIn_r _ [18] (by decide +kernel) (by decide +kernel)
set_option maxRecDepth 20000 in
theorem gX3_isInsideAnother_X3_firstByteOf : GoodIn wsX3_isInsideAnother (wsV RX3 36 RX3 yX3_firstByteOf wsX3_firstByteOf) := goodIn_app (goodIn_of _ (by decide +kernel)) ggX3_isInsideAnother_X3_firstByteOf
set_option maxRecDepth 20000 in
theorem ggX3_isInsideAnother_X2_same : GoodIn wsX3_isInsideAnother wsX2_same := goodIn_r _ [23, 24, 25, 26, 22, 27, 28, 29, 30, 31, 32, 33, 34, 35, 36, 37, 38, 39, 47] (by decide +kernel) (by decide +kernel)
set_option maxRecDepth 20000 in
theorem gX3_isInsideAnother_X2_same : GoodIn wsX3_isInsideAnother (wsV RX3 63 RX2 yX2_same wsX2_same) := goodIn_app (goodIn_of _ (by decide +kernel)) ggX3_isInsideAnother_X2_same
theorem dX3_isInsideAnother_0 : decode cX3_isInsideAnother 0 = .ok (.aload_n 0, 1) := by decide +kernel
theorem dX3_isInsideAnother_1 : decode cX3_isInsideAnother 1 = .ok (.iload_n 1, 1) := by decide +kernel
theorem dX3_isInsideAnother_2 : decode cX3_isInsideAnother 2 = .ok (.invokevirtual 52, 3) := by decide +kernel
theorem dX3_isInsideAnother_5 : decode cX3_isInsideAnother 5 = .ok (.istore_n 2, 1) := by decide +kernel
theorem dX3_isInsideAnother_6 : decode cX3_isInsideAnother 6 = .ok (.iconst 0, 1) := by decide +kernel
theorem dX3_isInsideAnother_7 : decode cX3_isInsideAnother 7 = .ok (.istore_n 3, 1) := by decide +kernel
theorem dX3_isInsideAnother_8 : decode cX3_isInsideAnother 8 = .ok (.iload_n 3, 1) := by decide +kernel
theorem dX3_isInsideAnother_9 : decode cX3_isInsideAnother 9 = .ok (.aload_n 0, 1) := by decide +kernel
theorem dX3_isInsideAnother_10 : decode cX3_isInsideAnother 10 = .ok (.getfield 29, 3) := by decide +kernel
theorem dX3_isInsideAnother_13 : decode cX3_isInsideAnother 13 = .ok (.if_icmp .ge 89, 3) := by decide +kernel
theorem dX3_isInsideAnother_16 : decode cX3_isInsideAnother 16 = .ok (.aload_n 0, 1) := by decide +kernel
theorem dX3_isInsideAnother_17 : decode cX3_isInsideAnother 17 = .ok (.getfield 25, 3) := by decide +kernel
theorem dX3_isInsideAnother_20 : decode cX3_isInsideAnother 20 = .ok (.iload_n 3, 1) := by decide +kernel
theorem dX3_isInsideAnother_21 : decode cX3_isInsideAnother 21 = .ok (.baload, 1) := by decide +kernel
theorem dX3_isInsideAnother_22 : decode cX3_isInsideAnother 22 = .ok (.ifCond .eq 21, 3) := by decide +kernel
theorem dX3_isInsideAnother_25 : decode cX3_isInsideAnother 25 = .ok (.iload_n 3, 1) := by decide +kernel
theorem dX3_isInsideAnother_26 : decode cX3_isInsideAnother 26 = .ok (.iload_n 1, 1) := by decide +kernel
theorem dX3_isInsideAnother_27 : decode cX3_isInsideAnother 27 = .ok (.if_icmp .eq 16, 3) := by decide +kernel
theorem dX3_isInsideAnother_30 : decode cX3_isInsideAnother 30 = .ok (.aload_n 0, 1) := by decide +kernel
theorem dX3_isInsideAnother_31 : decode cX3_isInsideAnother 31 = .ok (.getfield 19, 3) := by decide +kernel
theorem dX3_isInsideAnother_34 : decode cX3_isInsideAnother 34 = .ok (.iload_n 3, 1) := by decide +kernel
theorem dX3_isInsideAnother_35 : decode cX3_isInsideAnother 35 = .ok (.iaload, 1) := by decide +kernel
theorem dX3_isInsideAnother_36 : decode cX3_isInsideAnother 36 = .ok (.iload_n 2, 1) := by decide +kernel
theorem dX3_isInsideAnother_37 : decode cX3_isInsideAnother 37 = .ok (.isub, 1) := by decide +kernel
theorem dX3_isInsideAnother_38 : decode cX3_isInsideAnother 38 = .ok (.iconst 1, 1) := by decide +kernel
theorem dX3_isInsideAnother_39 : decode cX3_isInsideAnother 39 = .ok (.iadd, 1) := by decide +kernel
theorem dX3_isInsideAnother_40 : decode cX3_isInsideAnother 40 = .ok (.goto 4, 3) := by decide +kernel
theorem dX3_isInsideAnother_43 : decode cX3_isInsideAnother 43 = .ok (.iconst 0, 1) := by decide +kernel
theorem dX3_isInsideAnother_44 : decode cX3_isInsideAnother 44 = .ok (.istore 4, 2) := by decide +kernel
theorem dX3_isInsideAnother_46 : decode cX3_isInsideAnother 46 = .ok (.iconst 0, 1) := by decide +kernel
theorem dX3_isInsideAnother_47 : decode cX3_isInsideAnother 47 = .ok (.istore 5, 2) := by decide +kernel
theorem dX3_isInsideAnother_49 : decode cX3_isInsideAnother 49 = .ok (.iload 5, 2) := by decide +kernel
theorem dX3_isInsideAnother_51 : decode cX3_isInsideAnother 51 = .ok (.iload 4, 2) := by decide +kernel
theorem dX3_isInsideAnother_53 : decode cX3_isInsideAnother 53 = .ok (.if_icmp .ge 43, 3) := by decide +kernel
theorem dX3_isInsideAnother_56 : decode cX3_isInsideAnother 56 = .ok (.aload_n 0, 1) := by decide +kernel
theorem dX3_isInsideAnother_57 : decode cX3_isInsideAnother 57 = .ok (.getfield 9, 3) := by decide +kernel
theorem dX3_isInsideAnother_60 : decode cX3_isInsideAnother 60 = .ok (.aload_n 0, 1) := by decide +kernel
theorem dX3_isInsideAnother_61 : decode cX3_isInsideAnother 61 = .ok (.getfield 15, 3) := by decide +kernel
theorem dX3_isInsideAnother_64 : decode cX3_isInsideAnother 64 = .ok (.aload_n 0, 1) := by decide +kernel
theorem dX3_isInsideAnother_65 : decode cX3_isInsideAnother 65 = .ok (.iload_n 1, 1) := by decide +kernel
theorem dX3_isInsideAnother_66 : decode cX3_isInsideAnother 66 = .ok (.invokevirtual 36, 3) := by decide +kernel
theorem dX3_isInsideAnother_69 : decode cX3_isInsideAnother 69 = .ok (.aload_n 0, 1) := by decide +kernel
theorem dX3_isInsideAnother_70 : decode cX3_isInsideAnother 70 = .ok (.getfield 15, 3) := by decide +kernel
theorem dX3_isInsideAnother_73 : decode cX3_isInsideAnother 73 = .ok (.aload_n 0, 1) := by decide +kernel
theorem dX3_isInsideAnother_74 : decode cX3_isInsideAnother 74 = .ok (.iload_n 3, 1) := by decide +kernel
theorem dX3_isInsideAnother_75 : decode cX3_isInsideAnother 75 = .ok (.invokevirtual 36, 3) := by decide +kernel
theorem dX3_isInsideAnother_78 : decode cX3_isInsideAnother 78 = .ok (.iload 5, 2) := by decide +kernel
theorem dX3_isInsideAnother_80 : decode cX3_isInsideAnother 80 = .ok (.iadd, 1) := by decide +kernel
theorem dX3_isInsideAnother_81 : decode cX3_isInsideAnother 81 = .ok (.iload_n 2, 1) := by decide +kernel
theorem dX3_isInsideAnother_82 : decode cX3_isInsideAnother 82 = .ok (.invokevirtual 63, 3) := by decide +kernel
theorem dX3_isInsideAnother_85 : decode cX3_isInsideAnother 85 = .ok (.ifCond .eq 5, 3) := by decide +kernel
theorem dX3_isInsideAnother_88 : decode cX3_isInsideAnother 88 = .ok (.iconst 1, 1) := by decide +kernel
theorem dX3_isInsideAnother_89 : decode cX3_isInsideAnother 89 = .ok (.ireturn, 1) := by decide +kernel
theorem dX3_isInsideAnother_90 : decode cX3_isInsideAnother 90 = .ok (.iinc 5 1, 3) := by decide +kernel
theorem dX3_isInsideAnother_93 : decode cX3_isInsideAnother 93 = .ok (.goto (-44), 3) := by decide +kernel
theorem dX3_isInsideAnother_96 : decode cX3_isInsideAnother 96 = .ok (.iinc 3 1, 3) := by decide +kernel
theorem dX3_isInsideAnother_99 : decode cX3_isInsideAnother 99 = .ok (.goto (-91), 3) := by decide +kernel
theorem dX3_isInsideAnother_102 : decode cX3_isInsideAnother 102 = .ok (.iconst 0, 1) := by decide +kernel
theorem dX3_isInsideAnother_103 : decode cX3_isInsideAnother 103 = .ok (.ireturn, 1) := by decide +kernel
theorem dX4_init_0 : decode cX4_init 0 = .ok (.aload_n 0, 1) := by decide +kernel
theorem dX4_init_1 : decode cX4_init 1 = .ok (.invokespecial 3, 3) := by decide +kernel
theorem dX4_init_4 : decode cX4_init 4 = .ok (.aload_n 0, 1) := by decide +kernel
theorem dX4_init_5 : decode cX4_init 5 = .ok (.iload_n 1, 1) := by decide +kernel
theorem dX4_init_6 : decode cX4_init 6 = .ok (.iconst 0, 1) := by decide +kernel
theorem dX4_init_7 : decode cX4_init 7 = .ok (.invokestatic 9, 3) := by decide +kernel
theorem dX4_init_10 : decode cX4_init 10 = .ok (.newarray .int, 2) := by decide +kernel
theorem dX4_init_12 : decode cX4_init 12 = .ok (.putfield 15, 3) := by decide +kernel
theorem dX4_init_15 : decode cX4_init 15 = .ok (.aload_n 0, 1) := by decide +kernel
theorem dX4_init_16 : decode cX4_init 16 = .ok (.iload_n 1, 1) := by decide +kernel
theorem dX4_init_17 : decode cX4_init 17 = .ok (.iconst 0, 1) := by decide +kernel
theorem dX4_init_18 : decode cX4_init 18 = .ok (.invokestatic 9, 3) := by decide +kernel
theorem dX4_init_21 : decode cX4_init 21 = .ok (.newarray .int, 2) := by decide +kernel
theorem dX4_init_23 : decode cX4_init 23 = .ok (.putfield 21, 3) := by decide +kernel
theorem dX4_init_26 : decode cX4_init 26 = .ok (.aload_n 0, 1) := by decide +kernel
theorem dX4_init_27 : decode cX4_init 27 = .ok (.iconst 0, 1) := by decide +kernel
theorem dX4_init_28 : decode cX4_init 28 = .ok (.putfield 24, 3) := by decide +kernel
theorem dX4_init_31 : decode cX4_init 31 = .ok (.return_, 1) := by decide +kernel
theorem dX4_clear_0 : decode cX4_clear 0 = .ok (.aload_n 0, 1) := by decide +kernel
theorem dX4_clear_1 : decode cX4_clear 1 = .ok (.iconst 0, 1) := by decide +kernel
theorem dX4_clear_2 : decode cX4_clear 2 = .ok (.putfield 24, 3) := by decide +kernel
theorem dX4_clear_5 : decode cX4_clear 5 = .ok (.return_, 1) := by decide +kernel
theorem dX4_add_0 : decode cX4_add 0 = .ok (.aload_n 0, 1) := by decide +kernel
theorem dX4_add_1 : decode cX4_add 1 = .ok (.getfield 24, 3) := by decide +kernel
theorem dX4_add_4 : decode cX4_add 4 = .ok (.aload_n 0, 1) := by decide +kernel
theorem dX4_add_5 : decode cX4_add 5 = .ok (.getfield 15, 3) := by decide +kernel
theorem dX4_add_8 : decode cX4_add 8 = .ok (.arraylength, 1) := by decide +kernel
theorem dX4_add_9 : decode cX4_add 9 = .ok (.if_icmp .ge 45, 3) := by decide +kernel
theorem dX4_add_12 : decode cX4_add 12 = .ok (.aload_n 0, 1) := by decide +kernel
theorem dX4_add_13 : decode cX4_add 13 = .ok (.getfield 24, 3) := by decide +kernel
theorem dX4_add_16 : decode cX4_add 16 = .ok (.aload_n 0, 1) := by decide +kernel
theorem dX4_add_17 : decode cX4_add 17 = .ok (.getfield 21, 3) := by decide +kernel
theorem dX4_add_20 : decode cX4_add 20 = .ok (.arraylength, 1) := by decide +kernel
theorem dX4_add_21 : decode cX4_add 21 = .ok (.if_icmp .ge 33, 3) := by decide +kernel
theorem dX4_add_24 : decode cX4_add 24 = .ok (.aload_n 0, 1) := by decide +kernel
theorem dX4_add_25 : decode cX4_add 25 = .ok (.getfield 15, 3) := by decide +kernel
theorem dX4_add_28 : decode cX4_add 28 = .ok (.aload_n 0, 1) := by decide +kernel
theorem dX4_add_29 : decode cX4_add 29 = .ok (.getfield 24, 3) := by decide +kernel
theorem dX4_add_32 : decode cX4_add 32 = .ok (.iload_n 1, 1) := by decide +kernel
theorem dX4_add_33 : decode cX4_add 33 = .ok (.iastore, 1) := by decide +kernel
theorem dX4_add_34 : decode cX4_add 34 = .ok (.aload_n 0, 1) := by decide +kernel
theorem dX4_add_35 : decode cX4_add 35 = .ok (.getfield 21, 3) := by decide +kernel
theorem dX4_add_38 : decode cX4_add 38 = .ok (.aload_n 0, 1) := by decide +kernel
theorem dX4_add_39 : decode cX4_add 39 = .ok (.getfield 24, 3) := by decide +kernel
theorem dX4_add_42 : decode cX4_add 42 = .ok (.iload_n 2, 1) := by decide +kernel
theorem dX4_add_43 : decode cX4_add 43 = .ok (.iastore, 1) := by decide +kernel
theorem dX4_add_44 : decode cX4_add 44 = .ok (.aload_n 0, 1) := by decide +kernel
theorem dX4_add_45 : decode cX4_add 45 = .ok (.dup, 1) := by decide +kernel
theorem dX4_add_46 : decode cX4_add 46 = .ok (.getfield 24, 3) := by decide +kernel
theorem dX4_add_49 : decode cX4_add 49 = .ok (.iconst 1, 1) := by decide +kernel
theorem dX4_add_50 : decode cX4_add 50 = .ok (.iadd, 1) := by decide +kernel
theorem dX4_add_51 : decode cX4_add 51 = .ok (.putfield 24, 3) := by decide +kernel
theorem dX4_add_54 : decode cX4_add 54 = .ok (.return_, 1) := by decide +kernel
theorem dX4_positionAt_0 : decode cX4_positionAt 0 = .ok (.iload_n 1, 1) := by decide +kernel
theorem dX4_positionAt_1 : decode cX4_positionAt 1 = .ok (.ifCond .lt 20, 3) := by decide +kernel
theorem dX4_positionAt_4 : decode cX4_positionAt 4 = .ok (.iload_n 1, 1) := by decide +kernel
theorem dX4_positionAt_5 : decode cX4_positionAt 5 = .ok (.aload_n 0, 1) := by decide +kernel
theorem dX4_positionAt_6 : decode cX4_positionAt 6 = .ok (.getfield 24, 3) := by decide +kernel
theorem dX4_positionAt_9 : decode cX4_positionAt 9 = .ok (.if_icmp .ge 12, 3) := by decide +kernel
theorem dX4_positionAt_12 : decode cX4_positionAt 12 = .ok (.aload_n 0, 1) := by decide +kernel
theorem dX4_positionAt_13 : decode cX4_positionAt 13 = .ok (.getfield 15, 3) := by decide +kernel
theorem dX4_positionAt_16 : decode cX4_positionAt 16 = .ok (.iload_n 1, 1) := by decide +kernel
theorem dX4_positionAt_17 : decode cX4_positionAt 17 = .ok (.iaload, 1) := by decide +kernel
theorem dX4_positionAt_18 : decode cX4_positionAt 18 = .ok (.goto 4, 3) := by decide +kernel
theorem dX4_positionAt_21 : decode cX4_positionAt 21 = .ok (.iconst (-1), 1) := by decide +kernel
theorem dX4_positionAt_22 : decode cX4_positionAt 22 = .ok (.ireturn, 1) := by decide +kernel
theorem dX4_keywordAt_0 : decode cX4_keywordAt 0 = .ok (.iload_n 1, 1) := by decide +kernel
theorem dX4_keywordAt_1 : decode cX4_keywordAt 1 = .ok (.ifCond .lt 20, 3) := by decide +kernel
theorem dX4_keywordAt_4 : decode cX4_keywordAt 4 = .ok (.iload_n 1, 1) := by decide +kernel
theorem dX4_keywordAt_5 : decode cX4_keywordAt 5 = .ok (.aload_n 0, 1) := by decide +kernel
theorem dX4_keywordAt_6 : decode cX4_keywordAt 6 = .ok (.getfield 24, 3) := by decide +kernel
theorem dX4_keywordAt_9 : decode cX4_keywordAt 9 = .ok (.if_icmp .ge 12, 3) := by decide +kernel
theorem dX4_keywordAt_12 : decode cX4_keywordAt 12 = .ok (.aload_n 0, 1) := by decide +kernel
theorem dX4_keywordAt_13 : decode cX4_keywordAt 13 = .ok (.getfield 21, 3) := by decide +kernel
theorem dX4_keywordAt_16 : decode cX4_keywordAt 16 = .ok (.iload_n 1, 1) := by decide +kernel
theorem dX4_keywordAt_17 : decode cX4_keywordAt 17 = .ok (.iaload, 1) := by decide +kernel
theorem dX4_keywordAt_18 : decode cX4_keywordAt 18 = .ok (.goto 4, 3) := by decide +kernel
theorem dX4_keywordAt_21 : decode cX4_keywordAt 21 = .ok (.iconst (-1), 1) := by decide +kernel
theorem dX4_keywordAt_22 : decode cX4_keywordAt 22 = .ok (.ireturn, 1) := by decide +kernel
theorem dX5_init_0 : decode cX5_init 0 = .ok (.aload_n 0, 1) := by decide +kernel
theorem dX5_init_1 : decode cX5_init 1 = .ok (.invokespecial 3, 3) := by decide +kernel
theorem dX5_init_4 : decode cX5_init 4 = .ok (.aload_n 0, 1) := by decide +kernel
theorem dX5_init_5 : decode cX5_init 5 = .ok (.sipush 1200, 3) := by decide +kernel
theorem dX5_init_8 : decode cX5_init 8 = .ok (.newarray .long, 2) := by decide +kernel
theorem dX5_init_10 : decode cX5_init 10 = .ok (.putfield 9, 3) := by decide +kernel
theorem dX5_init_13 : decode cX5_init 13 = .ok (.return_, 1) := by decide +kernel
set_option maxRecDepth 20000 in
theorem ggX5_clear_J7_fill_d0a16 : GoodIn wsX5_clear wsJ7_fill_d0a16 := goodIn_r _ [5] (by decide +kernel) (by decide +kernel)
set_option maxRecDepth 20000 in
theorem gX5_clear_J7_fill_d0a16 : GoodIn wsX5_clear (va_wsS RX5 15 yJ7_fill_d0a16 wsJ7_fill_d0a16) := goodIn_app (goodIn_of _ (by decide +kernel)) ggX5_clear_J7_fill_d0a16
theorem dX5_clear_0 : decode cX5_clear 0 = .ok (.aload_n 0, 1) := by decide +kernel
theorem dX5_clear_1 : decode cX5_clear 1 = .ok (.getfield 9, 3) := by decide +kernel
theorem dX5_clear_4 : decode cX5_clear 4 = .ok (.lconst 0, 1) := by decide +kernel
theorem dX5_clear_5 : decode cX5_clear 5 = .ok (.invokestatic 15, 3) := by decide +kernel
theorem dX5_clear_8 : decode cX5_clear 8 = .ok (.return_, 1) := by decide +kernel
theorem dX5_isCell_0 : decode cX5_isCell 0 = .ok (.iload_n 0, 1) := by decide +kernel
theorem dX5_isCell_1 : decode cX5_isCell 1 = .ok (.ifCond .lt 25, 3) := by decide +kernel
theorem dX5_isCell_4 : decode cX5_isCell 4 = .ok (.iload_n 0, 1) := by decide +kernel
theorem dX5_isCell_5 : decode cX5_isCell 5 = .ok (.sipush 600, 3) := by decide +kernel
theorem dX5_isCell_8 : decode cX5_isCell 8 = .ok (.if_icmp .ge 18, 3) := by decide +kernel
theorem dX5_isCell_11 : decode cX5_isCell 11 = .ok (.iload_n 1, 1) := by decide +kernel
theorem dX5_isCell_12 : decode cX5_isCell 12 = .ok (.iconst 1, 1) := by decide +kernel
theorem dX5_isCell_13 : decode cX5_isCell 13 = .ok (.if_icmp .lt 13, 3) := by decide +kernel
theorem dX5_isCell_16 : decode cX5_isCell 16 = .ok (.iload_n 1, 1) := by decide +kernel
theorem dX5_isCell_17 : decode cX5_isCell 17 = .ok (.bipush 16, 2) := by decide +kernel
theorem dX5_isCell_19 : decode cX5_isCell 19 = .ok (.if_icmp .gt 7, 3) := by decide +kernel
theorem dX5_isCell_22 : decode cX5_isCell 22 = .ok (.iconst 1, 1) := by decide +kernel
theorem dX5_isCell_23 : decode cX5_isCell 23 = .ok (.goto 4, 3) := by decide +kernel
theorem dX5_isCell_26 : decode cX5_isCell 26 = .ok (.iconst 0, 1) := by decide +kernel
theorem dX5_isCell_27 : decode cX5_isCell 27 = .ok (.ireturn, 1) := by decide +kernel
set_option maxRecDepth 20000 in
theorem ggX5_at_X5_isCell : GoodIn wsX5_at wsX5_isCell := goodIn_r _ [6] (by decide +kernel) (by decide +kernel)
set_option maxRecDepth 20000 in
theorem gX5_at_X5_isCell : GoodIn wsX5_at (va_wsS RX5 21 yX5_isCell wsX5_isCell) := goodIn_app (goodIn_of _ (by decide +kernel)) ggX5_at_X5_isCell
theorem dX5_at_0 : decode cX5_at 0 = .ok (.iload_n 1, 1) := by decide +kernel
theorem dX5_at_1 : decode cX5_at 1 = .ok (.iload_n 2, 1) := by decide +kernel
theorem dX5_at_2 : decode cX5_at 2 = .ok (.invokestatic 21, 3) := by decide +kernel
theorem dX5_at_5 : decode cX5_at 5 = .ok (.ifCond .ne 5, 3) := by decide +kernel
theorem dX5_at_8 : decode cX5_at 8 = .ok (.iconst (-1), 1) := by decide +kernel
theorem dX5_at_9 : decode cX5_at 9 = .ok (.ireturn, 1) := by decide +kernel
theorem dX5_at_10 : decode cX5_at 10 = .ok (.iload_n 1, 1) := by decide +kernel
theorem dX5_at_11 : decode cX5_at 11 = .ok (.bipush 16, 2) := by decide +kernel
theorem dX5_at_13 : decode cX5_at 13 = .ok (.imul, 1) := by decide +kernel
theorem dX5_at_14 : decode cX5_at 14 = .ok (.iload_n 2, 1) := by decide +kernel
theorem dX5_at_15 : decode cX5_at 15 = .ok (.iadd, 1) := by decide +kernel
theorem dX5_at_16 : decode cX5_at 16 = .ok (.iconst 1, 1) := by decide +kernel
theorem dX5_at_17 : decode cX5_at 17 = .ok (.isub, 1) := by decide +kernel
theorem dX5_at_18 : decode cX5_at 18 = .ok (.istore_n 3, 1) := by decide +kernel
theorem dX5_at_19 : decode cX5_at 19 = .ok (.aload_n 0, 1) := by decide +kernel
theorem dX5_at_20 : decode cX5_at 20 = .ok (.getfield 9, 3) := by decide +kernel
theorem dX5_at_23 : decode cX5_at 23 = .ok (.iload_n 3, 1) := by decide +kernel
theorem dX5_at_24 : decode cX5_at 24 = .ok (.iconst 3, 1) := by decide +kernel
theorem dX5_at_25 : decode cX5_at 25 = .ok (.ishr, 1) := by decide +kernel
theorem dX5_at_26 : decode cX5_at 26 = .ok (.laload, 1) := by decide +kernel
theorem dX5_at_27 : decode cX5_at 27 = .ok (.iload_n 3, 1) := by decide +kernel
theorem dX5_at_28 : decode cX5_at 28 = .ok (.bipush 7, 2) := by decide +kernel
theorem dX5_at_30 : decode cX5_at 30 = .ok (.iand, 1) := by decide +kernel
theorem dX5_at_31 : decode cX5_at 31 = .ok (.iconst 3, 1) := by decide +kernel
theorem dX5_at_32 : decode cX5_at 32 = .ok (.ishl, 1) := by decide +kernel
theorem dX5_at_33 : decode cX5_at 33 = .ok (.lushr, 1) := by decide +kernel
theorem dX5_at_34 : decode cX5_at 34 = .ok (.ldc2_w 25, 3) := by decide +kernel
theorem dX5_at_37 : decode cX5_at 37 = .ok (.land, 1) := by decide +kernel
theorem dX5_at_38 : decode cX5_at 38 = .ok (.l2i, 1) := by decide +kernel
theorem dX5_at_39 : decode cX5_at 39 = .ok (.iconst 1, 1) := by decide +kernel
theorem dX5_at_40 : decode cX5_at 40 = .ok (.isub, 1) := by decide +kernel
theorem dX5_at_41 : decode cX5_at 41 = .ok (.ireturn, 1) := by decide +kernel
set_option maxRecDepth 20000 in
theorem ggX5_put_X5_isCell : GoodIn wsX5_put wsX5_isCell := goodIn_r _ [7] (by decide +kernel) (by decide +kernel)
set_option maxRecDepth 20000 in
theorem gX5_put_X5_isCell : GoodIn wsX5_put (va_wsS RX5 21 yX5_isCell wsX5_isCell) := goodIn_app (goodIn_of _ (by decide +kernel)) ggX5_put_X5_isCell
theorem dX5_put_0 : decode cX5_put 0 = .ok (.iload_n 1, 1) := by decide +kernel
theorem dX5_put_1 : decode cX5_put 1 = .ok (.iload_n 2, 1) := by decide +kernel
theorem dX5_put_2 : decode cX5_put 2 = .ok (.invokestatic 21, 3) := by decide +kernel
theorem dX5_put_5 : decode cX5_put 5 = .ok (.ifCond .ne 4, 3) := by decide +kernel
theorem dX5_put_8 : decode cX5_put 8 = .ok (.return_, 1) := by decide +kernel
theorem dX5_put_9 : decode cX5_put 9 = .ok (.iload_n 1, 1) := by decide +kernel
theorem dX5_put_10 : decode cX5_put 10 = .ok (.bipush 16, 2) := by decide +kernel
theorem dX5_put_12 : decode cX5_put 12 = .ok (.imul, 1) := by decide +kernel
theorem dX5_put_13 : decode cX5_put 13 = .ok (.iload_n 2, 1) := by decide +kernel
theorem dX5_put_14 : decode cX5_put 14 = .ok (.iadd, 1) := by decide +kernel
theorem dX5_put_15 : decode cX5_put 15 = .ok (.iconst 1, 1) := by decide +kernel
theorem dX5_put_16 : decode cX5_put 16 = .ok (.isub, 1) := by decide +kernel
theorem dX5_put_17 : decode cX5_put 17 = .ok (.istore 4, 2) := by decide +kernel
theorem dX5_put_19 : decode cX5_put 19 = .ok (.iload 4, 2) := by decide +kernel
theorem dX5_put_21 : decode cX5_put 21 = .ok (.bipush 7, 2) := by decide +kernel
theorem dX5_put_23 : decode cX5_put 23 = .ok (.iand, 1) := by decide +kernel
theorem dX5_put_24 : decode cX5_put 24 = .ok (.iconst 3, 1) := by decide +kernel
theorem dX5_put_25 : decode cX5_put 25 = .ok (.ishl, 1) := by decide +kernel
theorem dX5_put_26 : decode cX5_put 26 = .ok (.istore 5, 2) := by decide +kernel
theorem dX5_put_28 : decode cX5_put 28 = .ok (.aload_n 0, 1) := by decide +kernel
theorem dX5_put_29 : decode cX5_put 29 = .ok (.getfield 9, 3) := by decide +kernel
theorem dX5_put_32 : decode cX5_put 32 = .ok (.iload 4, 2) := by decide +kernel
theorem dX5_put_34 : decode cX5_put 34 = .ok (.iconst 3, 1) := by decide +kernel
theorem dX5_put_35 : decode cX5_put 35 = .ok (.ishr, 1) := by decide +kernel
theorem dX5_put_36 : decode cX5_put 36 = .ok (.laload, 1) := by decide +kernel
theorem dX5_put_37 : decode cX5_put 37 = .ok (.ldc2_w 25, 3) := by decide +kernel
theorem dX5_put_40 : decode cX5_put 40 = .ok (.iload 5, 2) := by decide +kernel
theorem dX5_put_42 : decode cX5_put 42 = .ok (.lshl, 1) := by decide +kernel
theorem dX5_put_43 : decode cX5_put 43 = .ok (.ldc2_w 27, 3) := by decide +kernel
theorem dX5_put_46 : decode cX5_put 46 = .ok (.lxor, 1) := by decide +kernel
theorem dX5_put_47 : decode cX5_put 47 = .ok (.land, 1) := by decide +kernel
theorem dX5_put_48 : decode cX5_put 48 = .ok (.lstore 6, 2) := by decide +kernel
theorem dX5_put_50 : decode cX5_put 50 = .ok (.aload_n 0, 1) := by decide +kernel
theorem dX5_put_51 : decode cX5_put 51 = .ok (.getfield 9, 3) := by decide +kernel
theorem dX5_put_54 : decode cX5_put 54 = .ok (.iload 4, 2) := by decide +kernel
theorem dX5_put_56 : decode cX5_put 56 = .ok (.iconst 3, 1) := by decide +kernel
theorem dX5_put_57 : decode cX5_put 57 = .ok (.ishr, 1) := by decide +kernel
theorem dX5_put_58 : decode cX5_put 58 = .ok (.lload 6, 2) := by decide +kernel
theorem dX5_put_60 : decode cX5_put 60 = .ok (.iload_n 3, 1) := by decide +kernel
theorem dX5_put_61 : decode cX5_put 61 = .ok (.iconst 1, 1) := by decide +kernel
theorem dX5_put_62 : decode cX5_put 62 = .ok (.iadd, 1) := by decide +kernel
theorem dX5_put_63 : decode cX5_put 63 = .ok (.i2l, 1) := by decide +kernel
theorem dX5_put_64 : decode cX5_put 64 = .ok (.ldc2_w 25, 3) := by decide +kernel
theorem dX5_put_67 : decode cX5_put 67 = .ok (.land, 1) := by decide +kernel
theorem dX5_put_68 : decode cX5_put 68 = .ok (.iload 5, 2) := by decide +kernel
