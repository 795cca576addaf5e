theorem dX5_reads_76 : decode cX5_reads 76 = .ok (.ifCond .ne 7, 3) := by decide +kernel
theorem dX5_reads_79 : decode cX5_reads 79 = .ok (.iconst 1, 1) := by decide +kernel
theorem dX5_reads_80 : decode cX5_reads 80 = .ok (.goto 4, 3) := by decide +kernel
theorem dX5_reads_83 : decode cX5_reads 83 = .ok (.iconst 0, 1) := by decide +kernel
theorem dX5_reads_84 : decode cX5_reads 84 = .ok (.istore_n 3, 1) := by decide +kernel
theorem dX5_reads_85 : decode cX5_reads 85 = .ok (.goto (-71), 3) := by decide +kernel
theorem dX5_reads_88 : decode cX5_reads 88 = .ok (.iload_n 2, 1) := by decide +kernel
theorem dX5_reads_89 : decode cX5_reads 89 = .ok (.ireturn, 1) := by decide +kernel
set_option maxRecDepth 20000 in
theorem ggX5_firstError_X5_reads : GoodIn wsX5_firstError wsX5_reads := goodIn_r _ [9, 3, 2, 4, 10, 11, 12, 8, 13, 14, 15, 16, 17, 18, 19, 20, 21, 22, 23, 24, 25, 26, 27, 28, 29, 30, 31, 32, 33, 34, 35, 36, 37, 38, 39, 40, 41, 42, 43, 44, 45, 46, 47, 48, 49, 50, 51, 52, 53, 54, 55, 56, 57, 58, 59, 60, 61, 62, 63, 64, 65, 66, 67, 68, 69, 70, 71, 72] (by decide +kernel) (by decide +kernel)
set_option maxRecDepth 20000 in
theorem gX5_firstError_X5_reads : GoodIn wsX5_firstError (wsV RX5 192 RX5 yX5_reads wsX5_reads) := goodIn_app (goodIn_of _ (by decide +kernel)) ggX5_firstError_X5_reads
theorem dX5_firstError_0 : decode cX5_firstError 0 = .ok (.aload_n 0, 1) := by decide +kernel
theorem dX5_firstError_1 : decode cX5_firstError 1 = .ok (.iconst 0, 1) := by decide +kernel
theorem dX5_firstError_2 : decode cX5_firstError 2 = .ok (.putfield 50, 3) := by decide +kernel
theorem dX5_firstError_5 : decode cX5_firstError 5 = .ok (.aload_n 0, 1) := by decide +kernel
theorem dX5_firstError_6 : decode cX5_firstError 6 = .ok (.iconst 0, 1) := by decide +kernel
theorem dX5_firstError_7 : decode cX5_firstError 7 = .ok (.invokevirtual 192, 3) := by decide +kernel
theorem dX5_firstError_10 : decode cX5_firstError 10 = .ok (.istore_n 1, 1) := by decide +kernel
theorem dX5_firstError_11 : decode cX5_firstError 11 = .ok (.aload_n 0, 1) := by decide +kernel
theorem dX5_firstError_12 : decode cX5_firstError 12 = .ok (.getfield 172, 3) := by decide +kernel
theorem dX5_firstError_15 : decode cX5_firstError 15 = .ok (.ifCond .eq 10, 3) := by decide +kernel
theorem dX5_firstError_18 : decode cX5_firstError 18 = .ok (.aload_n 0, 1) := by decide +kernel
theorem dX5_firstError_19 : decode cX5_firstError 19 = .ok (.getfield 176, 3) := by decide +kernel
theorem dX5_firstError_22 : decode cX5_firstError 22 = .ok (.goto 7, 3) := by decide +kernel
theorem dX5_firstError_25 : decode cX5_firstError 25 = .ok (.aload_n 0, 1) := by decide +kernel
theorem dX5_firstError_26 : decode cX5_firstError 26 = .ok (.getfield 169, 3) := by decide +kernel
theorem dX5_firstError_29 : decode cX5_firstError 29 = .ok (.ireturn, 1) := by decide +kernel
set_option maxRecDepth 20000 in
theorem ggX5_orders_X5_reads : GoodIn wsX5_orders wsX5_reads := goodIn_r _ [7, 8, 1, 2, 9, 10, 11, 6, 12, 13, 14, 15, 16, 17, 18, 19, 20, 21, 22, 23, 24, 25, 26, 27, 28, 29, 30, 31, 32, 33, 34, 35, 36, 37, 38, 39, 40, 41, 42, 43, 44, 45, 46, 47, 48, 49, 50, 51, 63, 64, 65, 66, 67, 68, 69, 70, 71, 72, 73, 74, 75, 76, 77, 78, 79, 80, 81, 82] (by decide +kernel) (by decide +kernel)
set_option maxRecDepth 20000 in
theorem gX5_orders_X5_reads : GoodIn wsX5_orders (wsV RX5 192 RX5 yX5_reads wsX5_reads) := goodIn_app (goodIn_of _ (by decide +kernel)) ggX5_orders_X5_reads
set_option maxRecDepth 20000 in
theorem ggX5_orders_X5_holds : GoodIn wsX5_orders wsX5_holds := goodIn_r _ [55, 56, 63, 64, 65, 66, 67, 68, 69, 70, 71, 72, 73, 74, 75, 76, 77, 78, 79, 80, 81, 82] (by decide +kernel) (by decide +kernel)
set_option maxRecDepth 20000 in
theorem gX5_orders_X5_holds : GoodIn wsX5_orders (wsV RX5 147 RX5 yX5_holds wsX5_holds) := goodIn_app (goodIn_of _ (by decide +kernel)) ggX5_orders_X5_holds
set_option maxRecDepth 20000 in
theorem ggX5_orders_X5_save : GoodIn wsX5_orders wsX5_save := goodIn_r _ [60, 61, 62, 33, 63, 64, 65, 66, 67, 68, 69, 70, 71, 72, 73, 74, 75, 76, 77, 78, 79, 80, 81, 82] (by decide +kernel) (by decide +kernel)
set_option maxRecDepth 20000 in
theorem gX5_orders_X5_save : GoodIn wsX5_orders (wsV RX5 150 RX5 yX5_save wsX5_save) := goodIn_app (goodIn_of _ (by decide +kernel)) ggX5_orders_X5_save
theorem dX5_orders_0 : decode cX5_orders 0 = .ok (.aload_n 0, 1) := by decide +kernel
theorem dX5_orders_1 : decode cX5_orders 1 = .ok (.iconst 0, 1) := by decide +kernel
theorem dX5_orders_2 : decode cX5_orders 2 = .ok (.invokevirtual 192, 3) := by decide +kernel
theorem dX5_orders_5 : decode cX5_orders 5 = .ok (.istore_n 1, 1) := by decide +kernel
theorem dX5_orders_6 : decode cX5_orders 6 = .ok (.aload_n 0, 1) := by decide +kernel
theorem dX5_orders_7 : decode cX5_orders 7 = .ok (.aload_n 0, 1) := by decide +kernel
theorem dX5_orders_8 : decode cX5_orders 8 = .ok (.getfield 172, 3) := by decide +kernel
theorem dX5_orders_11 : decode cX5_orders 11 = .ok (.ifCond .eq 7, 3) := by decide +kernel
theorem dX5_orders_14 : decode cX5_orders 14 = .ok (.iconst 1, 1) := by decide +kernel
theorem dX5_orders_15 : decode cX5_orders 15 = .ok (.goto 4, 3) := by decide +kernel
theorem dX5_orders_18 : decode cX5_orders 18 = .ok (.iconst 0, 1) := by decide +kernel
theorem dX5_orders_19 : decode cX5_orders 19 = .ok (.invokevirtual 147, 3) := by decide +kernel
theorem dX5_orders_22 : decode cX5_orders 22 = .ok (.ifCond .ne 5, 3) := by decide +kernel
theorem dX5_orders_25 : decode cX5_orders 25 = .ok (.iconst 0, 1) := by decide +kernel
theorem dX5_orders_26 : decode cX5_orders 26 = .ok (.ireturn, 1) := by decide +kernel
theorem dX5_orders_27 : decode cX5_orders 27 = .ok (.aload_n 0, 1) := by decide +kernel
theorem dX5_orders_28 : decode cX5_orders 28 = .ok (.invokevirtual 150, 3) := by decide +kernel
theorem dX5_orders_31 : decode cX5_orders 31 = .ok (.aload_n 0, 1) := by decide +kernel
theorem dX5_orders_32 : decode cX5_orders 32 = .ok (.iconst 1, 1) := by decide +kernel
theorem dX5_orders_33 : decode cX5_orders 33 = .ok (.invokevirtual 192, 3) := by decide +kernel
theorem dX5_orders_36 : decode cX5_orders 36 = .ok (.istore_n 2, 1) := by decide +kernel
theorem dX5_orders_37 : decode cX5_orders 37 = .ok (.aload_n 0, 1) := by decide +kernel
theorem dX5_orders_38 : decode cX5_orders 38 = .ok (.iconst 0, 1) := by decide +kernel
theorem dX5_orders_39 : decode cX5_orders 39 = .ok (.putfield 169, 3) := by decide +kernel
theorem dX5_orders_42 : decode cX5_orders 42 = .ok (.iload_n 2, 1) := by decide +kernel
theorem dX5_orders_43 : decode cX5_orders 43 = .ok (.ireturn, 1) := by decide +kernel
set_option maxRecDepth 20000 in
theorem ggX5_undo_X5_holds : GoodIn wsX5_undo wsX5_holds := goodIn_r _ [8, 9, 10, 11, 12, 13, 14, 15, 16, 17, 18, 19, 20, 21, 22, 23, 24, 25, 26, 27, 28, 29] (by decide +kernel) (by decide +kernel)
set_option maxRecDepth 20000 in
theorem gX5_undo_X5_holds : GoodIn wsX5_undo (wsV RX5 147 RX5 yX5_holds wsX5_holds) := goodIn_app (goodIn_of _ (by decide +kernel)) ggX5_undo_X5_holds
theorem dX5_undo_0 : decode cX5_undo 0 = .ok (.aload_n 0, 1) := by decide +kernel
theorem dX5_undo_1 : decode cX5_undo 1 = .ok (.aload_n 0, 1) := by decide +kernel
theorem dX5_undo_2 : decode cX5_undo 2 = .ok (.getfield 62, 3) := by decide +kernel
theorem dX5_undo_5 : decode cX5_undo 5 = .ok (.ifCond .le 7, 3) := by decide +kernel
theorem dX5_undo_8 : decode cX5_undo 8 = .ok (.iconst 0, 1) := by decide +kernel
theorem dX5_undo_9 : decode cX5_undo 9 = .ok (.goto 4, 3) := by decide +kernel
theorem dX5_undo_12 : decode cX5_undo 12 = .ok (.iconst 1, 1) := by decide +kernel
theorem dX5_undo_13 : decode cX5_undo 13 = .ok (.invokevirtual 147, 3) := by decide +kernel
theorem dX5_undo_16 : decode cX5_undo 16 = .ok (.ifCond .ne 5, 3) := by decide +kernel
theorem dX5_undo_19 : decode cX5_undo 19 = .ok (.iconst 0, 1) := by decide +kernel
theorem dX5_undo_20 : decode cX5_undo 20 = .ok (.ireturn, 1) := by decide +kernel
theorem dX5_undo_21 : decode cX5_undo 21 = .ok (.aload_n 0, 1) := by decide +kernel
theorem dX5_undo_22 : decode cX5_undo 22 = .ok (.dup, 1) := by decide +kernel
theorem dX5_undo_23 : decode cX5_undo 23 = .ok (.getfield 62, 3) := by decide +kernel
theorem dX5_undo_26 : decode cX5_undo 26 = .ok (.iconst 1, 1) := by decide +kernel
theorem dX5_undo_27 : decode cX5_undo 27 = .ok (.isub, 1) := by decide +kernel
theorem dX5_undo_28 : decode cX5_undo 28 = .ok (.putfield 62, 3) := by decide +kernel
theorem dX5_undo_31 : decode cX5_undo 31 = .ok (.iconst 0, 1) := by decide +kernel
theorem dX5_undo_32 : decode cX5_undo 32 = .ok (.istore_n 1, 1) := by decide +kernel
theorem dX5_undo_33 : decode cX5_undo 33 = .ok (.iload_n 1, 1) := by decide +kernel
theorem dX5_undo_34 : decode cX5_undo 34 = .ok (.bipush 77, 2) := by decide +kernel
theorem dX5_undo_36 : decode cX5_undo 36 = .ok (.if_icmp .ge 29, 3) := by decide +kernel
theorem dX5_undo_39 : decode cX5_undo 39 = .ok (.aload_n 0, 1) := by decide +kernel
theorem dX5_undo_40 : decode cX5_undo 40 = .ok (.getfield 7, 3) := by decide +kernel
theorem dX5_undo_43 : decode cX5_undo 43 = .ok (.iload_n 1, 1) := by decide +kernel
theorem dX5_undo_44 : decode cX5_undo 44 = .ok (.aload_n 0, 1) := by decide +kernel
theorem dX5_undo_45 : decode cX5_undo 45 = .ok (.getfield 19, 3) := by decide +kernel
theorem dX5_undo_48 : decode cX5_undo 48 = .ok (.bipush 77, 2) := by decide +kernel
theorem dX5_undo_50 : decode cX5_undo 50 = .ok (.aload_n 0, 1) := by decide +kernel
theorem dX5_undo_51 : decode cX5_undo 51 = .ok (.getfield 62, 3) := by decide +kernel
theorem dX5_undo_54 : decode cX5_undo 54 = .ok (.imul, 1) := by decide +kernel
theorem dX5_undo_55 : decode cX5_undo 55 = .ok (.iload_n 1, 1) := by decide +kernel
theorem dX5_undo_56 : decode cX5_undo 56 = .ok (.iadd, 1) := by decide +kernel
theorem dX5_undo_57 : decode cX5_undo 57 = .ok (.iaload, 1) := by decide +kernel
theorem dX5_undo_58 : decode cX5_undo 58 = .ok (.iastore, 1) := by decide +kernel
theorem dX5_undo_59 : decode cX5_undo 59 = .ok (.iinc 1 1, 3) := by decide +kernel
theorem dX5_undo_62 : decode cX5_undo 62 = .ok (.goto (-29), 3) := by decide +kernel
theorem dX5_undo_65 : decode cX5_undo 65 = .ok (.aload_n 0, 1) := by decide +kernel
theorem dX5_undo_66 : decode cX5_undo 66 = .ok (.getfield 62, 3) := by decide +kernel
theorem dX5_undo_69 : decode cX5_undo 69 = .ok (.ireturn, 1) := by decide +kernel
theorem dX5_keep_0 : decode cX5_keep 0 = .ok (.aload_n 0, 1) := by decide +kernel
theorem dX5_keep_1 : decode cX5_keep 1 = .ok (.iconst 0, 1) := by decide +kernel
theorem dX5_keep_2 : decode cX5_keep 2 = .ok (.putfield 50, 3) := by decide +kernel
theorem dX5_keep_5 : decode cX5_keep 5 = .ok (.iconst 0, 1) := by decide +kernel
theorem dX5_keep_6 : decode cX5_keep 6 = .ok (.istore_n 1, 1) := by decide +kernel
theorem dX5_keep_7 : decode cX5_keep 7 = .ok (.iload_n 1, 1) := by decide +kernel
theorem dX5_keep_8 : decode cX5_keep 8 = .ok (.bipush 77, 2) := by decide +kernel
theorem dX5_keep_10 : decode cX5_keep 10 = .ok (.if_icmp .ge 21, 3) := by decide +kernel
theorem dX5_keep_13 : decode cX5_keep 13 = .ok (.aload_n 0, 1) := by decide +kernel
theorem dX5_keep_14 : decode cX5_keep 14 = .ok (.getfield 16, 3) := by decide +kernel
theorem dX5_keep_17 : decode cX5_keep 17 = .ok (.iload_n 1, 1) := by decide +kernel
theorem dX5_keep_18 : decode cX5_keep 18 = .ok (.aload_n 0, 1) := by decide +kernel
theorem dX5_keep_19 : decode cX5_keep 19 = .ok (.getfield 7, 3) := by decide +kernel
theorem dX5_keep_22 : decode cX5_keep 22 = .ok (.iload_n 1, 1) := by decide +kernel
theorem dX5_keep_23 : decode cX5_keep 23 = .ok (.iaload, 1) := by decide +kernel
theorem dX5_keep_24 : decode cX5_keep 24 = .ok (.iastore, 1) := by decide +kernel
theorem dX5_keep_25 : decode cX5_keep 25 = .ok (.iinc 1 1, 3) := by decide +kernel
theorem dX5_keep_28 : decode cX5_keep 28 = .ok (.goto (-21), 3) := by decide +kernel
theorem dX5_keep_31 : decode cX5_keep 31 = .ok (.aload_n 0, 1) := by decide +kernel
theorem dX5_keep_32 : decode cX5_keep 32 = .ok (.iconst 1, 1) := by decide +kernel
theorem dX5_keep_33 : decode cX5_keep 33 = .ok (.putfield 196, 3) := by decide +kernel
theorem dX5_keep_36 : decode cX5_keep 36 = .ok (.aload_n 0, 1) := by decide +kernel
theorem dX5_keep_37 : decode cX5_keep 37 = .ok (.getfield 7, 3) := by decide +kernel
theorem dX5_keep_40 : decode cX5_keep 40 = .ok (.bipush 9, 2) := by decide +kernel
theorem dX5_keep_42 : decode cX5_keep 42 = .ok (.iaload, 1) := by decide +kernel
theorem dX5_keep_43 : decode cX5_keep 43 = .ok (.ireturn, 1) := by decide +kernel
set_option maxRecDepth 20000 in
theorem ggX5_restore_X5_holds : GoodIn wsX5_restore wsX5_holds := goodIn_r _ [8, 9, 16, 17, 18, 19, 20, 21, 22, 23, 24, 25, 26, 27, 28, 29, 30, 31, 32, 33, 34, 35] (by decide +kernel) (by decide +kernel)
set_option maxRecDepth 20000 in
theorem gX5_restore_X5_holds : GoodIn wsX5_restore (wsV RX5 147 RX5 yX5_holds wsX5_holds) := goodIn_app (goodIn_of _ (by decide +kernel)) ggX5_restore_X5_holds
set_option maxRecDepth 20000 in
theorem ggX5_restore_X5_save : GoodIn wsX5_restore wsX5_save := goodIn_r _ [13, 14, 15, 2, 16, 17, 18, 19, 20, 21, 22, 23, 24, 25, 26, 27, 28, 29, 30, 31, 32, 33, 34, 35] (by decide +kernel) (by decide +kernel)
set_option maxRecDepth 20000 in
theorem gX5_restore_X5_save : GoodIn wsX5_restore (wsV RX5 150 RX5 yX5_save wsX5_save) := goodIn_app (goodIn_of _ (by decide +kernel)) ggX5_restore_X5_save
theorem dX5_restore_0 : decode cX5_restore 0 = .ok (.aload_n 0, 1) := by decide +kernel
theorem dX5_restore_1 : decode cX5_restore 1 = .ok (.aload_n 0, 1) := by decide +kernel
theorem dX5_restore_2 : decode cX5_restore 2 = .ok (.getfield 196, 3) := by decide +kernel
theorem dX5_restore_5 : decode cX5_restore 5 = .ok (.ifCond .eq 7, 3) := by decide +kernel
theorem dX5_restore_8 : decode cX5_restore 8 = .ok (.iconst 0, 1) := by decide +kernel
theorem dX5_restore_9 : decode cX5_restore 9 = .ok (.goto 4, 3) := by decide +kernel
theorem dX5_restore_12 : decode cX5_restore 12 = .ok (.iconst 1, 1) := by decide +kernel
theorem dX5_restore_13 : decode cX5_restore 13 = .ok (.invokevirtual 147, 3) := by decide +kernel
theorem dX5_restore_16 : decode cX5_restore 16 = .ok (.ifCond .ne 5, 3) := by decide +kernel
theorem dX5_restore_19 : decode cX5_restore 19 = .ok (.iconst 0, 1) := by decide +kernel
theorem dX5_restore_20 : decode cX5_restore 20 = .ok (.ireturn, 1) := by decide +kernel
theorem dX5_restore_21 : decode cX5_restore 21 = .ok (.aload_n 0, 1) := by decide +kernel
theorem dX5_restore_22 : decode cX5_restore 22 = .ok (.invokevirtual 150, 3) := by decide +kernel
theorem dX5_restore_25 : decode cX5_restore 25 = .ok (.iconst 0, 1) := by decide +kernel
theorem dX5_restore_26 : decode cX5_restore 26 = .ok (.istore_n 1, 1) := by decide +kernel
theorem dX5_restore_27 : decode cX5_restore 27 = .ok (.iload_n 1, 1) := by decide +kernel
theorem dX5_restore_28 : decode cX5_restore 28 = .ok (.bipush 77, 2) := by decide +kernel
theorem dX5_restore_30 : decode cX5_restore 30 = .ok (.if_icmp .ge 21, 3) := by decide +kernel
theorem dX5_restore_33 : decode cX5_restore 33 = .ok (.aload_n 0, 1) := by decide +kernel
theorem dX5_restore_34 : decode cX5_restore 34 = .ok (.getfield 7, 3) := by decide +kernel
theorem dX5_restore_37 : decode cX5_restore 37 = .ok (.iload_n 1, 1) := by decide +kernel
theorem dX5_restore_38 : decode cX5_restore 38 = .ok (.aload_n 0, 1) := by decide +kernel
theorem dX5_restore_39 : decode cX5_restore 39 = .ok (.getfield 16, 3) := by decide +kernel
theorem dX5_restore_42 : decode cX5_restore 42 = .ok (.iload_n 1, 1) := by decide +kernel
theorem dX5_restore_43 : decode cX5_restore 43 = .ok (.iaload, 1) := by decide +kernel
theorem dX5_restore_44 : decode cX5_restore 44 = .ok (.iastore, 1) := by decide +kernel
theorem dX5_restore_45 : decode cX5_restore 45 = .ok (.iinc 1 1, 3) := by decide +kernel
theorem dX5_restore_48 : decode cX5_restore 48 = .ok (.goto (-21), 3) := by decide +kernel
theorem dX5_restore_51 : decode cX5_restore 51 = .ok (.aload_n 0, 1) := by decide +kernel
theorem dX5_restore_52 : decode cX5_restore 52 = .ok (.getfield 7, 3) := by decide +kernel
theorem dX5_restore_55 : decode cX5_restore 55 = .ok (.bipush 9, 2) := by decide +kernel
theorem dX5_restore_57 : decode cX5_restore 57 = .ok (.iaload, 1) := by decide +kernel
theorem dX5_restore_58 : decode cX5_restore 58 = .ok (.ireturn, 1) := by decide +kernel
set_option maxRecDepth 20000 in
theorem ggX5_armyOf_X5_isArmy : GoodIn wsX5_armyOf wsX5_isArmy := goodIn_r _ [5, 6, 7, 8, 4, 9, 22, 23, 24, 25, 26, 27, 28, 29, 30, 31, 32, 33, 34, 35, 36, 37, 38, 39, 40, 41] (by decide +kernel) (by decide +kernel)
set_option maxRecDepth 20000 in
theorem gX5_armyOf_X5_isArmy : GoodIn wsX5_armyOf (wsV RX5 153 RX5 yX5_isArmy wsX5_isArmy) := goodIn_app (goodIn_of _ (by decide +kernel)) ggX5_armyOf_X5_isArmy
set_option maxRecDepth 20000 in
theorem ggX5_armyOf_X5_in : GoodIn wsX5_armyOf wsX5_in := goodIn_r _ [9] (by decide +kernel) (by decide +kernel)
set_option maxRecDepth 20000 in
theorem gX5_armyOf_X5_in : GoodIn wsX5_armyOf (va_wsS RX5 54 yX5_in wsX5_in) := goodIn_app (goodIn_of _ (by decide +kernel)) ggX5_armyOf_X5_in
set_option maxRecDepth 20000 in
theorem ggX5_armyOf_X5_holds : GoodIn wsX5_armyOf wsX5_holds := goodIn_r _ [13, 14, 22, 23, 24, 25, 26, 27, 28, 29, 30, 31, 32, 33, 34, 35, 36, 37, 38, 39, 40, 41] (by decide +kernel) (by decide +kernel)
set_option maxRecDepth 20000 in
theorem gX5_armyOf_X5_holds : GoodIn wsX5_armyOf (wsV RX5 147 RX5 yX5_holds wsX5_holds) := goodIn_app (goodIn_of _ (by decide +kernel)) ggX5_armyOf_X5_holds
set_option maxRecDepth 20000 in
theorem ggX5_armyOf_X5_of : GoodIn wsX5_armyOf wsX5_of := goodIn_r _ [18, 6, 19, 20, 4, 21, 22, 23, 24, 25, 26, 27, 28, 29, 30, 31, 32, 33, 34, 35, 36, 37, 38, 39, 40, 41] (by decide +kernel) (by decide +kernel)
set_option maxRecDepth 20000 in
theorem gX5_armyOf_X5_of : GoodIn wsX5_armyOf (wsV RX5 65 RX5 yX5_of wsX5_of) := goodIn_app (goodIn_of _ (by decide +kernel)) ggX5_armyOf_X5_of
theorem dX5_armyOf_0 : decode cX5_armyOf 0 = .ok (.aload_n 0, 1) := by decide +kernel
theorem dX5_armyOf_1 : decode cX5_armyOf 1 = .ok (.aload_n 0, 1) := by decide +kernel
theorem dX5_armyOf_2 : decode cX5_armyOf 2 = .ok (.iload_n 1, 1) := by decide +kernel
theorem dX5_armyOf_3 : decode cX5_armyOf 3 = .ok (.invokevirtual 153, 3) := by decide +kernel
theorem dX5_armyOf_6 : decode cX5_armyOf 6 = .ok (.ifCond .ne 7, 3) := by decide +kernel
theorem dX5_armyOf_9 : decode cX5_armyOf 9 = .ok (.iconst 1, 1) := by decide +kernel
theorem dX5_armyOf_10 : decode cX5_armyOf 10 = .ok (.goto 18, 3) := by decide +kernel
theorem dX5_armyOf_13 : decode cX5_armyOf 13 = .ok (.iload_n 2, 1) := by decide +kernel
theorem dX5_armyOf_14 : decode cX5_armyOf 14 = .ok (.iconst 0, 1) := by decide +kernel
theorem dX5_armyOf_15 : decode cX5_armyOf 15 = .ok (.bipush 6, 2) := by decide +kernel
theorem dX5_armyOf_17 : decode cX5_armyOf 17 = .ok (.invokestatic 54, 3) := by decide +kernel
theorem dX5_armyOf_20 : decode cX5_armyOf 20 = .ok (.ifCond .ne 7, 3) := by decide +kernel
theorem dX5_armyOf_23 : decode cX5_armyOf 23 = .ok (.iconst 2, 1) := by decide +kernel
theorem dX5_armyOf_24 : decode cX5_armyOf 24 = .ok (.goto 4, 3) := by decide +kernel
theorem dX5_armyOf_27 : decode cX5_armyOf 27 = .ok (.iconst 0, 1) := by decide +kernel
theorem dX5_armyOf_28 : decode cX5_armyOf 28 = .ok (.invokevirtual 147, 3) := by decide +kernel
theorem dX5_armyOf_31 : decode cX5_armyOf 31 = .ok (.ifCond .eq 12, 3) := by decide +kernel
theorem dX5_armyOf_34 : decode cX5_armyOf 34 = .ok (.aload_n 0, 1) := by decide +kernel
theorem dX5_armyOf_35 : decode cX5_armyOf 35 = .ok (.iload_n 1, 1) := by decide +kernel
theorem dX5_armyOf_36 : decode cX5_armyOf 36 = .ok (.iload_n 2, 1) := by decide +kernel
theorem dX5_armyOf_37 : decode cX5_armyOf 37 = .ok (.invokevirtual 65, 3) := by decide +kernel
theorem dX5_armyOf_40 : decode cX5_armyOf 40 = .ok (.goto 4, 3) := by decide +kernel
theorem dX5_armyOf_43 : decode cX5_armyOf 43 = .ok (.iconst 0, 1) := by decide +kernel
theorem dX5_armyOf_44 : decode cX5_armyOf 44 = .ok (.ireturn, 1) := by decide +kernel
set_option maxRecDepth 20000 in
theorem ggX5_neighbours_X5_areNeighbours : GoodIn wsX5_neighbours wsX5_areNeighbours := goodIn_r _ [4] (by decide +kernel) (by decide +kernel)
set_option maxRecDepth 20000 in
theorem gX5_neighbours_X5_areNeighbours : GoodIn wsX5_neighbours (va_wsS RX5 92 yX5_areNeighbours wsX5_areNeighbours) := goodIn_app (goodIn_of _ (by decide +kernel)) ggX5_neighbours_X5_areNeighbours
theorem dX5_neighbours_0 : decode cX5_neighbours 0 = .ok (.iconst 0, 1) := by decide +kernel
theorem dX5_neighbours_1 : decode cX5_neighbours 1 = .ok (.istore_n 1, 1) := by decide +kernel
theorem dX5_neighbours_2 : decode cX5_neighbours 2 = .ok (.iconst 0, 1) := by decide +kernel
theorem dX5_neighbours_3 : decode cX5_neighbours 3 = .ok (.istore_n 2, 1) := by decide +kernel
theorem dX5_neighbours_4 : decode cX5_neighbours 4 = .ok (.iload_n 2, 1) := by decide +kernel
theorem dX5_neighbours_5 : decode cX5_neighbours 5 = .ok (.bipush 12, 2) := by decide +kernel
theorem dX5_neighbours_7 : decode cX5_neighbours 7 = .ok (.if_icmp .ge 27, 3) := by decide +kernel
theorem dX5_neighbours_10 : decode cX5_neighbours 10 = .ok (.iload_n 1, 1) := by decide +kernel
theorem dX5_neighbours_11 : decode cX5_neighbours 11 = .ok (.iload_n 0, 1) := by decide +kernel
theorem dX5_neighbours_12 : decode cX5_neighbours 12 = .ok (.iload_n 2, 1) := by decide +kernel
theorem dX5_neighbours_13 : decode cX5_neighbours 13 = .ok (.invokestatic 92, 3) := by decide +kernel
theorem dX5_neighbours_16 : decode cX5_neighbours 16 = .ok (.ifCond .eq 9, 3) := by decide +kernel
theorem dX5_neighbours_19 : decode cX5_neighbours 19 = .ok (.iconst 1, 1) := by decide +kernel
theorem dX5_neighbours_20 : decode cX5_neighbours 20 = .ok (.iload_n 2, 1) := by decide +kernel
theorem dX5_neighbours_21 : decode cX5_neighbours 21 = .ok (.ishl, 1) := by decide +kernel
theorem dX5_neighbours_22 : decode cX5_neighbours 22 = .ok (.goto 4, 3) := by decide +kernel
theorem dX5_neighbours_25 : decode cX5_neighbours 25 = .ok (.iconst 0, 1) := by decide +kernel
theorem dX5_neighbours_26 : decode cX5_neighbours 26 = .ok (.ior, 1) := by decide +kernel
theorem dX5_neighbours_27 : decode cX5_neighbours 27 = .ok (.istore_n 1, 1) := by decide +kernel
theorem dX5_neighbours_28 : decode cX5_neighbours 28 = .ok (.iinc 2 1, 3) := by decide +kernel
theorem dX5_neighbours_31 : decode cX5_neighbours 31 = .ok (.goto (-27), 3) := by decide +kernel
theorem dX5_neighbours_34 : decode cX5_neighbours 34 = .ok (.iload_n 1, 1) := by decide +kernel
theorem dX5_neighbours_35 : decode cX5_neighbours 35 = .ok (.ireturn, 1) := by decide +kernel
set_option maxRecDepth 20000 in
theorem ggX5_seenBy_X5_of : GoodIn wsX5_seenBy wsX5_of := goodIn_r _ [6, 1, 7, 8, 5, 9, 16, 17, 18, 19, 20, 21, 22, 23, 24, 25, 26, 27, 28, 29, 30, 31, 32, 33, 34, 35] (by decide +kernel) (by decide +kernel)
set_option maxRecDepth 20000 in
theorem gX5_seenBy_X5_of : GoodIn wsX5_seenBy (wsV RX5 65 RX5 yX5_of wsX5_of) := goodIn_app (goodIn_of _ (by decide +kernel)) ggX5_seenBy_X5_of
set_option maxRecDepth 20000 in
theorem ggX5_seenBy_X5_neighbours : GoodIn wsX5_seenBy wsX5_neighbours := goodIn_r _ [12, 13, 14, 5, 15] (by decide +kernel) (by decide +kernel)
set_option maxRecDepth 20000 in
theorem gX5_seenBy_X5_neighbours : GoodIn wsX5_seenBy (va_wsS RX5 199 yX5_neighbours wsX5_neighbours) := goodIn_app (goodIn_of _ (by decide +kernel)) ggX5_seenBy_X5_neighbours
theorem dX5_seenBy_0 : decode cX5_seenBy 0 = .ok (.iconst 0, 1) := by decide +kernel
theorem dX5_seenBy_1 : decode cX5_seenBy 1 = .ok (.istore_n 2, 1) := by decide +kernel
theorem dX5_seenBy_2 : decode cX5_seenBy 2 = .ok (.iconst 0, 1) := by decide +kernel
theorem dX5_seenBy_3 : decode cX5_seenBy 3 = .ok (.istore_n 3, 1) := by decide +kernel
theorem dX5_seenBy_4 : decode cX5_seenBy 4 = .ok (.iload_n 3, 1) := by decide +kernel
theorem dX5_seenBy_5 : decode cX5_seenBy 5 = .ok (.aload_n 0, 1) := by decide +kernel
theorem dX5_seenBy_6 : decode cX5_seenBy 6 = .ok (.getfield 7, 3) := by decide +kernel
theorem dX5_seenBy_9 : decode cX5_seenBy 9 = .ok (.bipush 9, 2) := by decide +kernel
theorem dX5_seenBy_11 : decode cX5_seenBy 11 = .ok (.iaload, 1) := by decide +kernel
theorem dX5_seenBy_12 : decode cX5_seenBy 12 = .ok (.if_icmp .ge 44, 3) := by decide +kernel
theorem dX5_seenBy_15 : decode cX5_seenBy 15 = .ok (.iload_n 2, 1) := by decide +kernel
theorem dX5_seenBy_16 : decode cX5_seenBy 16 = .ok (.aload_n 0, 1) := by decide +kernel
theorem dX5_seenBy_17 : decode cX5_seenBy 17 = .ok (.iload_n 3, 1) := by decide +kernel
theorem dX5_seenBy_18 : decode cX5_seenBy 18 = .ok (.iconst 0, 1) := by decide +kernel
theorem dX5_seenBy_19 : decode cX5_seenBy 19 = .ok (.invokevirtual 65, 3) := by decide +kernel
theorem dX5_seenBy_22 : decode cX5_seenBy 22 = .ok (.iload_n 1, 1) := by decide +kernel
theorem dX5_seenBy_23 : decode cX5_seenBy 23 = .ok (.if_icmp .ne 24, 3) := by decide +kernel
theorem dX5_seenBy_26 : decode cX5_seenBy 26 = .ok (.iconst 1, 1) := by decide +kernel
theorem dX5_seenBy_27 : decode cX5_seenBy 27 = .ok (.aload_n 0, 1) := by decide +kernel
theorem dX5_seenBy_28 : decode cX5_seenBy 28 = .ok (.iload_n 3, 1) := by decide +kernel
theorem dX5_seenBy_29 : decode cX5_seenBy 29 = .ok (.iconst 1, 1) := by decide +kernel
theorem dX5_seenBy_30 : decode cX5_seenBy 30 = .ok (.invokevirtual 65, 3) := by decide +kernel
theorem dX5_seenBy_33 : decode cX5_seenBy 33 = .ok (.ishl, 1) := by decide +kernel
theorem dX5_seenBy_34 : decode cX5_seenBy 34 = .ok (.aload_n 0, 1) := by decide +kernel
theorem dX5_seenBy_35 : decode cX5_seenBy 35 = .ok (.iload_n 3, 1) := by decide +kernel
theorem dX5_seenBy_36 : decode cX5_seenBy 36 = .ok (.iconst 1, 1) := by decide +kernel
theorem dX5_seenBy_37 : decode cX5_seenBy 37 = .ok (.invokevirtual 65, 3) := by decide +kernel
theorem dX5_seenBy_40 : decode cX5_seenBy 40 = .ok (.invokestatic 199, 3) := by decide +kernel
theorem dX5_seenBy_43 : decode cX5_seenBy 43 = .ok (.ior, 1) := by decide +kernel
theorem dX5_seenBy_44 : decode cX5_seenBy 44 = .ok (.goto 4, 3) := by decide +kernel
theorem dX5_seenBy_47 : decode cX5_seenBy 47 = .ok (.iconst 0, 1) := by decide +kernel
theorem dX5_seenBy_48 : decode cX5_seenBy 48 = .ok (.ior, 1) := by decide +kernel
theorem dX5_seenBy_49 : decode cX5_seenBy 49 = .ok (.istore_n 2, 1) := by decide +kernel
theorem dX5_seenBy_50 : decode cX5_seenBy 50 = .ok (.iinc 3 1, 3) := by decide +kernel
theorem dX5_seenBy_53 : decode cX5_seenBy 53 = .ok (.goto (-49), 3) := by decide +kernel
theorem dX5_seenBy_56 : decode cX5_seenBy 56 = .ok (.iload_n 2, 1) := by decide +kernel
theorem dX5_seenBy_57 : decode cX5_seenBy 57 = .ok (.ireturn, 1) := by decide +kernel
set_option maxRecDepth 20000 in
theorem ggX5_toldOfField_X5_armyOn : GoodIn wsX5_toldOfField wsX5_armyOn := goodIn_r _ [6, 1, 7, 8, 9, 5, 10, 11, 12, 13, 24, 25, 26, 27, 28, 29, 30, 31, 32, 33, 34, 35, 36, 37, 38, 39, 40, 41, 42, 43] (by decide +kernel) (by decide +kernel)
set_option maxRecDepth 20000 in
theorem gX5_toldOfField_X5_armyOn : GoodIn wsX5_toldOfField (wsV RX5 72 RX5 yX5_armyOn wsX5_armyOn) := goodIn_app (goodIn_of _ (by decide +kernel)) ggX5_toldOfField_X5_armyOn
set_option maxRecDepth 20000 in
theorem ggX5_toldOfField_X5_seenBy : GoodIn wsX5_toldOfField wsX5_seenBy := goodIn_r _ [17, 1, 7, 8, 9, 5, 10, 11, 12, 13, 18, 19, 20, 21, 22, 23, 24, 25, 26, 27, 28, 29, 30, 31, 32, 33, 34, 35, 36, 37, 38, 39, 40, 41, 42, 43] (by decide +kernel) (by decide +kernel)
set_option maxRecDepth 20000 in
theorem gX5_toldOfField_X5_seenBy : GoodIn wsX5_toldOfField (wsV RX5 202 RX5 yX5_seenBy wsX5_seenBy) := goodIn_app (goodIn_of _ (by decide +kernel)) ggX5_toldOfField_X5_seenBy
set_option maxRecDepth 20000 in
theorem ggX5_toldOfField_X5_neighbours : GoodIn wsX5_toldOfField wsX5_neighbours := goodIn_r _ [20, 21, 22, 5, 23] (by decide +kernel) (by decide +kernel)
set_option maxRecDepth 20000 in
theorem gX5_toldOfField_X5_neighbours : GoodIn wsX5_toldOfField (va_wsS RX5 199 yX5_neighbours wsX5_neighbours) := goodIn_app (goodIn_of _ (by decide +kernel)) ggX5_toldOfField_X5_neighbours
theorem dX5_toldOfField_0 : decode cX5_toldOfField 0 = .ok (.iload_n 2, 1) := by decide +kernel
theorem dX5_toldOfField_1 : decode cX5_toldOfField 1 = .ok (.tableswitch 105 0 3 #[31, 37, 49, 71], 31) := by decide +kernel
theorem dX5_toldOfField_32 : decode cX5_toldOfField 32 = .ok (.aload_n 0, 1) := by decide +kernel
theorem dX5_toldOfField_33 : decode cX5_toldOfField 33 = .ok (.iload_n 1, 1) := by decide +kernel
theorem dX5_toldOfField_34 : decode cX5_toldOfField 34 = .ok (.invokevirtual 72, 3) := by decide +kernel
theorem dX5_toldOfField_37 : decode cX5_toldOfField 37 = .ok (.ireturn, 1) := by decide +kernel
theorem dX5_toldOfField_38 : decode cX5_toldOfField 38 = .ok (.iload_n 1, 1) := by decide +kernel
theorem dX5_toldOfField_39 : decode cX5_toldOfField 39 = .ok (.iconst 3, 1) := by decide +kernel
theorem dX5_toldOfField_40 : decode cX5_toldOfField 40 = .ok (.irem, 1) := by decide +kernel
theorem dX5_toldOfField_41 : decode cX5_toldOfField 41 = .ok (.ifCond .ne 7, 3) := by decide +kernel
theorem dX5_toldOfField_44 : decode cX5_toldOfField 44 = .ok (.iconst 1, 1) := by decide +kernel
theorem dX5_toldOfField_45 : decode cX5_toldOfField 45 = .ok (.goto 4, 3) := by decide +kernel
theorem dX5_toldOfField_48 : decode cX5_toldOfField 48 = .ok (.iconst 0, 1) := by decide +kernel
theorem dX5_toldOfField_49 : decode cX5_toldOfField 49 = .ok (.ireturn, 1) := by decide +kernel
theorem dX5_toldOfField_50 : decode cX5_toldOfField 50 = .ok (.iload_n 1, 1) := by decide +kernel
theorem dX5_toldOfField_51 : decode cX5_toldOfField 51 = .ok (.iconst 3, 1) := by decide +kernel
theorem dX5_toldOfField_52 : decode cX5_toldOfField 52 = .ok (.irem, 1) := by decide +kernel
theorem dX5_toldOfField_53 : decode cX5_toldOfField 53 = .ok (.ifCond .ne 17, 3) := by decide +kernel
theorem dX5_toldOfField_56 : decode cX5_toldOfField 56 = .ok (.aload_n 0, 1) := by decide +kernel
theorem dX5_toldOfField_57 : decode cX5_toldOfField 57 = .ok (.getfield 7, 3) := by decide +kernel
theorem dX5_toldOfField_60 : decode cX5_toldOfField 60 = .ok (.bipush 10, 2) := by decide +kernel
theorem dX5_toldOfField_62 : decode cX5_toldOfField 62 = .ok (.iload_n 1, 1) := by decide +kernel
theorem dX5_toldOfField_63 : decode cX5_toldOfField 63 = .ok (.iconst 3, 1) := by decide +kernel
theorem dX5_toldOfField_64 : decode cX5_toldOfField 64 = .ok (.idiv, 1) := by decide +kernel
theorem dX5_toldOfField_65 : decode cX5_toldOfField 65 = .ok (.iadd, 1) := by decide +kernel
theorem dX5_toldOfField_66 : decode cX5_toldOfField 66 = .ok (.iaload, 1) := by decide +kernel
theorem dX5_toldOfField_67 : decode cX5_toldOfField 67 = .ok (.goto 4, 3) := by decide +kernel
theorem dX5_toldOfField_70 : decode cX5_toldOfField 70 = .ok (.iconst (-1), 1) := by decide +kernel
theorem dX5_toldOfField_71 : decode cX5_toldOfField 71 = .ok (.ireturn, 1) := by decide +kernel
theorem dX5_toldOfField_72 : decode cX5_toldOfField 72 = .ok (.aload_n 0, 1) := by decide +kernel
theorem dX5_toldOfField_73 : decode cX5_toldOfField 73 = .ok (.iconst 0, 1) := by decide +kernel
theorem dX5_toldOfField_74 : decode cX5_toldOfField 74 = .ok (.invokevirtual 202, 3) := by decide +kernel
theorem dX5_toldOfField_77 : decode cX5_toldOfField 77 = .ok (.iload_n 1, 1) := by decide +kernel
theorem dX5_toldOfField_78 : decode cX5_toldOfField 78 = .ok (.ishr, 1) := by decide +kernel
theorem dX5_toldOfField_79 : decode cX5_toldOfField 79 = .ok (.iconst 1, 1) := by decide +kernel
theorem dX5_toldOfField_80 : decode cX5_toldOfField 80 = .ok (.iand, 1) := by decide +kernel
theorem dX5_toldOfField_81 : decode cX5_toldOfField 81 = .ok (.iconst 2, 1) := by decide +kernel
theorem dX5_toldOfField_82 : decode cX5_toldOfField 82 = .ok (.aload_n 0, 1) := by decide +kernel
theorem dX5_toldOfField_83 : decode cX5_toldOfField 83 = .ok (.iconst 1, 1) := by decide +kernel
theorem dX5_toldOfField_84 : decode cX5_toldOfField 84 = .ok (.invokevirtual 202, 3) := by decide +kernel
theorem dX5_toldOfField_87 : decode cX5_toldOfField 87 = .ok (.iload_n 1, 1) := by decide +kernel
theorem dX5_toldOfField_88 : decode cX5_toldOfField 88 = .ok (.ishr, 1) := by decide +kernel
theorem dX5_toldOfField_89 : decode cX5_toldOfField 89 = .ok (.iconst 1, 1) := by decide +kernel
theorem dX5_toldOfField_90 : decode cX5_toldOfField 90 = .ok (.iand, 1) := by decide +kernel
theorem dX5_toldOfField_91 : decode cX5_toldOfField 91 = .ok (.imul, 1) := by decide +kernel
theorem dX5_toldOfField_92 : decode cX5_toldOfField 92 = .ok (.iadd, 1) := by decide +kernel
theorem dX5_toldOfField_93 : decode cX5_toldOfField 93 = .ok (.iconst 4, 1) := by decide +kernel
theorem dX5_toldOfField_94 : decode cX5_toldOfField 94 = .ok (.aload_n 0, 1) := by decide +kernel
theorem dX5_toldOfField_95 : decode cX5_toldOfField 95 = .ok (.iconst 2, 1) := by decide +kernel
theorem dX5_toldOfField_96 : decode cX5_toldOfField 96 = .ok (.invokevirtual 202, 3) := by decide +kernel
theorem dX5_toldOfField_99 : decode cX5_toldOfField 99 = .ok (.iload_n 1, 1) := by decide +kernel
theorem dX5_toldOfField_100 : decode cX5_toldOfField 100 = .ok (.ishr, 1) := by decide +kernel
theorem dX5_toldOfField_101 : decode cX5_toldOfField 101 = .ok (.iconst 1, 1) := by decide +kernel
theorem dX5_toldOfField_102 : decode cX5_toldOfField 102 = .ok (.iand, 1) := by decide +kernel
theorem dX5_toldOfField_103 : decode cX5_toldOfField 103 = .ok (.imul, 1) := by decide +kernel
theorem dX5_toldOfField_104 : decode cX5_toldOfField 104 = .ok (.iadd, 1) := by decide +kernel
theorem dX5_toldOfField_105 : decode cX5_toldOfField 105 = .ok (.ireturn, 1) := by decide +kernel
theorem dX5_toldOfField_106 : decode cX5_toldOfField 106 = .ok (.iload_n 1, 1) := by decide +kernel
theorem dX5_toldOfField_107 : decode cX5_toldOfField 107 = .ok (.invokestatic 199, 3) := by decide +kernel
theorem dX5_toldOfField_110 : decode cX5_toldOfField 110 = .ok (.ireturn, 1) := by decide +kernel
set_option maxRecDepth 20000 in
theorem ggX5_field_X5_isField : GoodIn wsX5_field wsX5_isField := goodIn_r _ [4, 5, 6, 3, 7] (by decide +kernel) (by decide +kernel)
set_option maxRecDepth 20000 in
theorem gX5_field_X5_isField : GoodIn wsX5_field (va_wsS RX5 144 yX5_isField wsX5_isField) := goodIn_app (goodIn_of _ (by decide +kernel)) ggX5_field_X5_isField
set_option maxRecDepth 20000 in
theorem ggX5_field_X5_in : GoodIn wsX5_field wsX5_in := goodIn_r _ [7] (by decide +kernel) (by decide +kernel)
set_option maxRecDepth 20000 in
theorem gX5_field_X5_in : GoodIn wsX5_field (va_wsS RX5 54 yX5_in wsX5_in) := goodIn_app (goodIn_of _ (by decide +kernel)) ggX5_field_X5_in
set_option maxRecDepth 20000 in
theorem ggX5_field_X5_holds : GoodIn wsX5_field wsX5_holds := goodIn_r _ [11, 12, 39, 40, 41, 42, 43, 44, 45, 46, 47, 48, 49, 50, 51, 52, 53, 54, 55, 56, 57, 58] (by decide +kernel) (by decide +kernel)
set_option maxRecDepth 20000 in
theorem gX5_field_X5_holds : GoodIn wsX5_field (wsV RX5 147 RX5 yX5_holds wsX5_holds) := goodIn_app (goodIn_of _ (by decide +kernel)) ggX5_field_X5_holds
set_option maxRecDepth 20000 in
theorem ggX5_field_X5_toldOfField : GoodIn wsX5_field wsX5_toldOfField := goodIn_r _ [16, 17, 18, 19, 20, 3, 21, 22, 23, 24, 25, 26, 27, 28, 29, 30, 31, 32, 33, 34, 35, 36, 37, 38, 39, 40, 41, 42, 43, 44, 45, 46, 47, 48, 49, 50, 51, 52, 53, 54, 55, 56, 57, 58] (by decide +kernel) (by decide +kernel)
set_option maxRecDepth 20000 in
theorem gX5_field_X5_toldOfField : GoodIn wsX5_field (wsV RX5 205 RX5 yX5_toldOfField wsX5_toldOfField) := goodIn_app (goodIn_of _ (by decide +kernel)) ggX5_field_X5_toldOfField
theorem dX5_field_0 : decode cX5_field 0 = .ok (.aload_n 0, 1) := by decide +kernel
theorem dX5_field_1 : decode cX5_field 1 = .ok (.iload_n 1, 1) := by decide +kernel
theorem dX5_field_2 : decode cX5_field 2 = .ok (.invokestatic 144, 3) := by decide +kernel
theorem dX5_field_5 : decode cX5_field 5 = .ok (.ifCond .ne 7, 3) := by decide +kernel
theorem dX5_field_8 : decode cX5_field 8 = .ok (.iconst 1, 1) := by decide +kernel
theorem dX5_field_9 : decode cX5_field 9 = .ok (.goto 17, 3) := by decide +kernel
theorem dX5_field_12 : decode cX5_field 12 = .ok (.iload_n 2, 1) := by decide +kernel
theorem dX5_field_13 : decode cX5_field 13 = .ok (.iconst 0, 1) := by decide +kernel
theorem dX5_field_14 : decode cX5_field 14 = .ok (.iconst 4, 1) := by decide +kernel
theorem dX5_field_15 : decode cX5_field 15 = .ok (.invokestatic 54, 3) := by decide +kernel
theorem dX5_field_18 : decode cX5_field 18 = .ok (.ifCond .ne 7, 3) := by decide +kernel
theorem dX5_field_21 : decode cX5_field 21 = .ok (.iconst 2, 1) := by decide +kernel
theorem dX5_field_22 : decode cX5_field 22 = .ok (.goto 4, 3) := by decide +kernel
theorem dX5_field_25 : decode cX5_field 25 = .ok (.iconst 0, 1) := by decide +kernel
theorem dX5_field_26 : decode cX5_field 26 = .ok (.invokevirtual 147, 3) := by decide +kernel
theorem dX5_field_29 : decode cX5_field 29 = .ok (.ifCond .eq 12, 3) := by decide +kernel
theorem dX5_field_32 : decode cX5_field 32 = .ok (.aload_n 0, 1) := by decide +kernel
theorem dX5_field_33 : decode cX5_field 33 = .ok (.iload_n 1, 1) := by decide +kernel
theorem dX5_field_34 : decode cX5_field 34 = .ok (.iload_n 2, 1) := by decide +kernel
theorem dX5_field_35 : decode cX5_field 35 = .ok (.invokevirtual 205, 3) := by decide +kernel
theorem dX5_field_38 : decode cX5_field 38 = .ok (.goto 4, 3) := by decide +kernel
theorem dX5_field_41 : decode cX5_field 41 = .ok (.iconst 0, 1) := by decide +kernel
theorem dX5_field_42 : decode cX5_field 42 = .ok (.ireturn, 1) := by decide +kernel
set_option maxRecDepth 20000 in
theorem ggX5_lowestFieldOf_X5_of : GoodIn wsX5_lowestFieldOf wsX5_of := goodIn_r _ [6, 1, 7, 8, 5, 9, 10, 11, 12, 13, 14, 15, 16, 17, 18, 19, 20, 21, 22, 23, 24, 25, 26, 27, 28, 29] (by decide +kernel) (by decide +kernel)
set_option maxRecDepth 20000 in
theorem gX5_lowestFieldOf_X5_of : GoodIn wsX5_lowestFieldOf (wsV RX5 65 RX5 yX5_of wsX5_of) := goodIn_app (goodIn_of _ (by decide +kernel)) ggX5_lowestFieldOf_X5_of
theorem dX5_lowestFieldOf_0 : decode cX5_lowestFieldOf 0 = .ok (.iconst (-1), 1) := by decide +kernel
theorem dX5_lowestFieldOf_1 : decode cX5_lowestFieldOf 1 = .ok (.istore_n 2, 1) := by decide +kernel
theorem dX5_lowestFieldOf_2 : decode cX5_lowestFieldOf 2 = .ok (.iconst 0, 1) := by decide +kernel
theorem dX5_lowestFieldOf_3 : decode cX5_lowestFieldOf 3 = .ok (.istore_n 3, 1) := by decide +kernel
theorem dX5_lowestFieldOf_4 : decode cX5_lowestFieldOf 4 = .ok (.iload_n 3, 1) := by decide +kernel
theorem dX5_lowestFieldOf_5 : decode cX5_lowestFieldOf 5 = .ok (.aload_n 0, 1) := by decide +kernel
theorem dX5_lowestFieldOf_6 : decode cX5_lowestFieldOf 6 = .ok (.getfield 7, 3) := by decide +kernel
theorem dX5_lowestFieldOf_9 : decode cX5_lowestFieldOf 9 = .ok (.bipush 9, 2) := by decide +kernel
theorem dX5_lowestFieldOf_11 : decode cX5_lowestFieldOf 11 = .ok (.iaload, 1) := by decide +kernel
theorem dX5_lowestFieldOf_12 : decode cX5_lowestFieldOf 12 = .ok (.if_icmp .ge 45, 3) := by decide +kernel
theorem dX5_lowestFieldOf_15 : decode cX5_lowestFieldOf 15 = .ok (.aload_n 0, 1) := by decide +kernel
theorem dX5_lowestFieldOf_16 : decode cX5_lowestFieldOf 16 = .ok (.iload_n 3, 1) := by decide +kernel
theorem dX5_lowestFieldOf_17 : decode cX5_lowestFieldOf 17 = .ok (.iconst 0, 1) := by decide +kernel
theorem dX5_lowestFieldOf_18 : decode cX5_lowestFieldOf 18 = .ok (.invokevirtual 65, 3) := by decide +kernel
theorem dX5_lowestFieldOf_21 : decode cX5_lowestFieldOf 21 = .ok (.iload_n 1, 1) := by decide +kernel
theorem dX5_lowestFieldOf_22 : decode cX5_lowestFieldOf 22 = .ok (.if_icmp .ne 27, 3) := by decide +kernel
theorem dX5_lowestFieldOf_25 : decode cX5_lowestFieldOf 25 = .ok (.iload_n 2, 1) := by decide +kernel
theorem dX5_lowestFieldOf_26 : decode cX5_lowestFieldOf 26 = .ok (.iconst (-1), 1) := by decide +kernel
theorem dX5_lowestFieldOf_27 : decode cX5_lowestFieldOf 27 = .ok (.if_icmp .eq 13, 3) := by decide +kernel
theorem dX5_lowestFieldOf_30 : decode cX5_lowestFieldOf 30 = .ok (.aload_n 0, 1) := by decide +kernel
theorem dX5_lowestFieldOf_31 : decode cX5_lowestFieldOf 31 = .ok (.iload_n 3, 1) := by decide +kernel
theorem dX5_lowestFieldOf_32 : decode cX5_lowestFieldOf 32 = .ok (.iconst 1, 1) := by decide +kernel
theorem dX5_lowestFieldOf_33 : decode cX5_lowestFieldOf 33 = .ok (.invokevirtual 65, 3) := by decide +kernel
theorem dX5_lowestFieldOf_36 : decode cX5_lowestFieldOf 36 = .ok (.iload_n 2, 1) := by decide +kernel
theorem dX5_lowestFieldOf_37 : decode cX5_lowestFieldOf 37 = .ok (.if_icmp .ge 12, 3) := by decide +kernel
theorem dX5_lowestFieldOf_40 : decode cX5_lowestFieldOf 40 = .ok (.aload_n 0, 1) := by decide +kernel
theorem dX5_lowestFieldOf_41 : decode cX5_lowestFieldOf 41 = .ok (.iload_n 3, 1) := by decide +kernel
theorem dX5_lowestFieldOf_42 : decode cX5_lowestFieldOf 42 = .ok (.iconst 1, 1) := by decide +kernel
theorem dX5_lowestFieldOf_43 : decode cX5_lowestFieldOf 43 = .ok (.invokevirtual 65, 3) := by decide +kernel
theorem dX5_lowestFieldOf_46 : decode cX5_lowestFieldOf 46 = .ok (.goto 4, 3) := by decide +kernel
theorem dX5_lowestFieldOf_49 : decode cX5_lowestFieldOf 49 = .ok (.iload_n 2, 1) := by decide +kernel
theorem dX5_lowestFieldOf_50 : decode cX5_lowestFieldOf 50 = .ok (.istore_n 2, 1) := by decide +kernel
theorem dX5_lowestFieldOf_51 : decode cX5_lowestFieldOf 51 = .ok (.iinc 3 1, 3) := by decide +kernel
theorem dX5_lowestFieldOf_54 : decode cX5_lowestFieldOf 54 = .ok (.goto (-50), 3) := by decide +kernel
theorem dX5_lowestFieldOf_57 : decode cX5_lowestFieldOf 57 = .ok (.iload_n 2, 1) := by decide +kernel
theorem dX5_lowestFieldOf_58 : decode cX5_lowestFieldOf 58 = .ok (.ireturn, 1) := by decide +kernel
set_option maxRecDepth 20000 in
theorem ggX5_othersSeen_X5_of : GoodIn wsX5_othersSeen wsX5_of := goodIn_r _ [6, 1, 7, 8, 5, 9, 20, 21, 22, 23, 24, 25, 26, 27, 28, 29, 30, 31, 32, 33, 34, 35, 36, 37, 38, 39] (by decide +kernel) (by decide +kernel)
set_option maxRecDepth 20000 in
theorem gX5_othersSeen_X5_of : GoodIn wsX5_othersSeen (wsV RX5 65 RX5 yX5_of wsX5_of) := goodIn_app (goodIn_of _ (by decide +kernel)) ggX5_othersSeen_X5_of
set_option maxRecDepth 20000 in
theorem ggX5_othersSeen_X5_seenBy : GoodIn wsX5_othersSeen wsX5_seenBy := goodIn_r _ [13, 1, 2, 3, 4, 5, 6, 7, 8, 9, 14, 15, 16, 17, 18, 19, 20, 21, 22, 23, 24, 25, 26, 27, 28, 29, 30, 31, 32, 33, 34, 35, 36, 37, 38, 39] (by decide +kernel) (by decide +kernel)
set_option maxRecDepth 20000 in
theorem gX5_othersSeen_X5_seenBy : GoodIn wsX5_othersSeen (wsV RX5 202 RX5 yX5_seenBy wsX5_seenBy) := goodIn_app (goodIn_of _ (by decide +kernel)) ggX5_othersSeen_X5_seenBy
theorem dX5_othersSeen_0 : decode cX5_othersSeen 0 = .ok (.iconst 0, 1) := by decide +kernel
theorem dX5_othersSeen_1 : decode cX5_othersSeen 1 = .ok (.istore_n 2, 1) := by decide +kernel
theorem dX5_othersSeen_2 : decode cX5_othersSeen 2 = .ok (.iconst 0, 1) := by decide +kernel
theorem dX5_othersSeen_3 : decode cX5_othersSeen 3 = .ok (.istore_n 3, 1) := by decide +kernel
theorem dX5_othersSeen_4 : decode cX5_othersSeen 4 = .ok (.iload_n 3, 1) := by decide +kernel
theorem dX5_othersSeen_5 : decode cX5_othersSeen 5 = .ok (.aload_n 0, 1) := by decide +kernel
theorem dX5_othersSeen_6 : decode cX5_othersSeen 6 = .ok (.getfield 7, 3) := by decide +kernel
theorem dX5_othersSeen_9 : decode cX5_othersSeen 9 = .ok (.bipush 9, 2) := by decide +kernel
theorem dX5_othersSeen_11 : decode cX5_othersSeen 11 = .ok (.iaload, 1) := by decide +kernel
theorem dX5_othersSeen_12 : decode cX5_othersSeen 12 = .ok (.if_icmp .ge 45, 3) := by decide +kernel
theorem dX5_othersSeen_15 : decode cX5_othersSeen 15 = .ok (.iload_n 2, 1) := by decide +kernel
theorem dX5_othersSeen_16 : decode cX5_othersSeen 16 = .ok (.aload_n 0, 1) := by decide +kernel
theorem dX5_othersSeen_17 : decode cX5_othersSeen 17 = .ok (.iload_n 3, 1) := by decide +kernel
theorem dX5_othersSeen_18 : decode cX5_othersSeen 18 = .ok (.iconst 0, 1) := by decide +kernel
theorem dX5_othersSeen_19 : decode cX5_othersSeen 19 = .ok (.invokevirtual 65, 3) := by decide +kernel
theorem dX5_othersSeen_22 : decode cX5_othersSeen 22 = .ok (.iload_n 1, 1) := by decide +kernel
theorem dX5_othersSeen_23 : decode cX5_othersSeen 23 = .ok (.if_icmp .eq 25, 3) := by decide +kernel
theorem dX5_othersSeen_26 : decode cX5_othersSeen 26 = .ok (.aload_n 0, 1) := by decide +kernel
theorem dX5_othersSeen_27 : decode cX5_othersSeen 27 = .ok (.iload_n 1, 1) := by decide +kernel
theorem dX5_othersSeen_28 : decode cX5_othersSeen 28 = .ok (.invokevirtual 202, 3) := by decide +kernel
theorem dX5_othersSeen_31 : decode cX5_othersSeen 31 = .ok (.aload_n 0, 1) := by decide +kernel
theorem dX5_othersSeen_32 : decode cX5_othersSeen 32 = .ok (.iload_n 3, 1) := by decide +kernel
theorem dX5_othersSeen_33 : decode cX5_othersSeen 33 = .ok (.iconst 1, 1) := by decide +kernel
theorem dX5_othersSeen_34 : decode cX5_othersSeen 34 = .ok (.invokevirtual 65, 3) := by decide +kernel
theorem dX5_othersSeen_37 : decode cX5_othersSeen 37 = .ok (.ishr, 1) := by decide +kernel
theorem dX5_othersSeen_38 : decode cX5_othersSeen 38 = .ok (.iconst 1, 1) := by decide +kernel
theorem dX5_othersSeen_39 : decode cX5_othersSeen 39 = .ok (.iand, 1) := by decide +kernel
theorem dX5_othersSeen_40 : decode cX5_othersSeen 40 = .ok (.iconst 1, 1) := by decide +kernel
theorem dX5_othersSeen_41 : decode cX5_othersSeen 41 = .ok (.if_icmp .ne 7, 3) := by decide +kernel
theorem dX5_othersSeen_44 : decode cX5_othersSeen 44 = .ok (.iconst 1, 1) := by decide +kernel
theorem dX5_othersSeen_45 : decode cX5_othersSeen 45 = .ok (.goto 4, 3) := by decide +kernel
theorem dX5_othersSeen_48 : decode cX5_othersSeen 48 = .ok (.iconst 0, 1) := by decide +kernel
theorem dX5_othersSeen_49 : decode cX5_othersSeen 49 = .ok (.iadd, 1) := by decide +kernel
theorem dX5_othersSeen_50 : decode cX5_othersSeen 50 = .ok (.istore_n 2, 1) := by decide +kernel
theorem dX5_othersSeen_51 : decode cX5_othersSeen 51 = .ok (.iinc 3 1, 3) := by decide +kernel
theorem dX5_othersSeen_54 : decode cX5_othersSeen 54 = .ok (.goto (-50), 3) := by decide +kernel
theorem dX5_othersSeen_57 : decode cX5_othersSeen 57 = .ok (.iload_n 2, 1) := by decide +kernel
theorem dX5_othersSeen_58 : decode cX5_othersSeen 58 = .ok (.ireturn, 1) := by decide +kernel
set_option maxRecDepth 20000 in
theorem ggX5_toldOfSeat_X5_armiesOf : GoodIn wsX5_toldOfSeat wsX5_armiesOf := goodIn_r _ [5, 6, 7, 8, 9, 4, 10, 11, 12, 13, 36, 37, 38, 39, 40, 41, 42, 43, 44, 45, 46, 47, 48, 49, 50, 51, 52, 53, 54, 55] (by decide +kernel) (by decide +kernel)
set_option maxRecDepth 20000 in
theorem gX5_toldOfSeat_X5_armiesOf : GoodIn wsX5_toldOfSeat (wsV RX5 129 RX5 yX5_armiesOf wsX5_armiesOf) := goodIn_app (goodIn_of _ (by decide +kernel)) ggX5_toldOfSeat_X5_armiesOf
set_option maxRecDepth 20000 in
theorem ggX5_toldOfSeat_X5_centresOf : GoodIn wsX5_toldOfSeat wsX5_centresOf := goodIn_r _ [17, 6, 36, 37, 38, 39, 40, 41, 42, 43, 44, 45, 46, 47, 48, 49, 50, 51, 52, 53, 54, 55] (by decide +kernel) (by decide +kernel)
set_option maxRecDepth 20000 in
theorem gX5_toldOfSeat_X5_centresOf : GoodIn wsX5_toldOfSeat (wsV RX5 132 RX5 yX5_centresOf wsX5_centresOf) := goodIn_app (goodIn_of _ (by decide +kernel)) ggX5_toldOfSeat_X5_centresOf
set_option maxRecDepth 20000 in
theorem ggX5_toldOfSeat_X5_seenBy : GoodIn wsX5_toldOfSeat wsX5_seenBy := goodIn_r _ [21, 6, 7, 8, 9, 4, 10, 11, 12, 13, 22, 23, 24, 25, 26, 27, 36, 37, 38, 39, 40, 41, 42, 43, 44, 45, 46, 47, 48, 49, 50, 51, 52, 53, 54, 55] (by decide +kernel) (by decide +kernel)
set_option maxRecDepth 20000 in
theorem gX5_toldOfSeat_X5_seenBy : GoodIn wsX5_toldOfSeat (wsV RX5 202 RX5 yX5_seenBy wsX5_seenBy) := goodIn_app (goodIn_of _ (by decide +kernel)) ggX5_toldOfSeat_X5_seenBy
set_option maxRecDepth 20000 in
theorem ggX5_toldOfSeat_X5_lowestFieldOf : GoodIn wsX5_toldOfSeat wsX5_lowestFieldOf := goodIn_r _ [31, 6, 7, 8, 9, 4, 10, 11, 12, 13, 36, 37, 38, 39, 40, 41, 42, 43, 44, 45, 46, 47, 48, 49, 50, 51, 52, 53, 54, 55] (by decide +kernel) (by decide +kernel)
set_option maxRecDepth 20000 in
theorem gX5_toldOfSeat_X5_lowestFieldOf : GoodIn wsX5_toldOfSeat (wsV RX5 208 RX5 yX5_lowestFieldOf wsX5_lowestFieldOf) := goodIn_app (goodIn_of _ (by decide +kernel)) ggX5_toldOfSeat_X5_lowestFieldOf
set_option maxRecDepth 20000 in
theorem ggX5_toldOfSeat_X5_othersSeen : GoodIn wsX5_toldOfSeat wsX5_othersSeen := goodIn_r _ [35, 6, 7, 8, 9, 4, 10, 11, 12, 13, 18, 19, 20, 21, 22, 23, 24, 25, 26, 27, 36, 37, 38, 39, 40, 41, 42, 43, 44, 45, 46, 47, 48, 49, 50, 51, 52, 53, 54, 55] (by decide +kernel) (by decide +kernel)
set_option maxRecDepth 20000 in
theorem gX5_toldOfSeat_X5_othersSeen : GoodIn wsX5_toldOfSeat (wsV RX5 211 RX5 yX5_othersSeen wsX5_othersSeen) := goodIn_app (goodIn_of _ (by decide +kernel)) ggX5_toldOfSeat_X5_othersSeen
theorem dX5_toldOfSeat_0 : decode cX5_toldOfSeat 0 = .ok (.iload_n 2, 1) := by decide +kernel
theorem dX5_toldOfSeat_1 : decode cX5_toldOfSeat 1 = .ok (.tableswitch 55 0 3 #[31, 37, 43, 49], 31) := by decide +kernel
theorem dX5_toldOfSeat_32 : decode cX5_toldOfSeat 32 = .ok (.aload_n 0, 1) := by decide +kernel
theorem dX5_toldOfSeat_33 : decode cX5_toldOfSeat 33 = .ok (.iload_n 1, 1) := by decide +kernel
theorem dX5_toldOfSeat_34 : decode cX5_toldOfSeat 34 = .ok (.invokevirtual 129, 3) := by decide +kernel
theorem dX5_toldOfSeat_37 : decode cX5_toldOfSeat 37 = .ok (.ireturn, 1) := by decide +kernel
theorem dX5_toldOfSeat_38 : decode cX5_toldOfSeat 38 = .ok (.aload_n 0, 1) := by decide +kernel
theorem dX5_toldOfSeat_39 : decode cX5_toldOfSeat 39 = .ok (.iload_n 1, 1) := by decide +kernel
theorem dX5_toldOfSeat_40 : decode cX5_toldOfSeat 40 = .ok (.invokevirtual 132, 3) := by decide +kernel
theorem dX5_toldOfSeat_43 : decode cX5_toldOfSeat 43 = .ok (.ireturn, 1) := by decide +kernel
theorem dX5_toldOfSeat_44 : decode cX5_toldOfSeat 44 = .ok (.aload_n 0, 1) := by decide +kernel
theorem dX5_toldOfSeat_45 : decode cX5_toldOfSeat 45 = .ok (.iload_n 1, 1) := by decide +kernel
theorem dX5_toldOfSeat_46 : decode cX5_toldOfSeat 46 = .ok (.invokevirtual 202, 3) := by decide +kernel
theorem dX5_toldOfSeat_49 : decode cX5_toldOfSeat 49 = .ok (.ireturn, 1) := by decide +kernel
theorem dX5_toldOfSeat_50 : decode cX5_toldOfSeat 50 = .ok (.aload_n 0, 1) := by decide +kernel
theorem dX5_toldOfSeat_51 : decode cX5_toldOfSeat 51 = .ok (.iload_n 1, 1) := by decide +kernel
theorem dX5_toldOfSeat_52 : decode cX5_toldOfSeat 52 = .ok (.invokevirtual 208, 3) := by decide +kernel
theorem dX5_toldOfSeat_55 : decode cX5_toldOfSeat 55 = .ok (.ireturn, 1) := by decide +kernel
theorem dX5_toldOfSeat_56 : decode cX5_toldOfSeat 56 = .ok (.aload_n 0, 1) := by decide +kernel
theorem dX5_toldOfSeat_57 : decode cX5_toldOfSeat 57 = .ok (.iload_n 1, 1) := by decide +kernel
theorem dX5_toldOfSeat_58 : decode cX5_toldOfSeat 58 = .ok (.invokevirtual 211, 3) := by decide +kernel
theorem dX5_toldOfSeat_61 : decode cX5_toldOfSeat 61 = .ok (.ireturn, 1) := by decide +kernel
set_option maxRecDepth 20000 in
theorem ggX5_seat_X5_isSeat : GoodIn wsX5_seat wsX5_isSeat := goodIn_r _ [4, 5, 6, 3, 7] (by decide +kernel) (by decide +kernel)
set_option maxRecDepth 20000 in
theorem gX5_seat_X5_isSeat : GoodIn wsX5_seat (va_wsS RX5 141 yX5_isSeat wsX5_isSeat) := goodIn_app (goodIn_of _ (by decide +kernel)) ggX5_seat_X5_isSeat
set_option maxRecDepth 20000 in
theorem ggX5_seat_X5_in : GoodIn wsX5_seat wsX5_in := goodIn_r _ [7] (by decide +kernel) (by decide +kernel)
set_option maxRecDepth 20000 in
theorem gX5_seat_X5_in : GoodIn wsX5_seat (va_wsS RX5 54 yX5_in wsX5_in) := goodIn_app (goodIn_of _ (by decide +kernel)) ggX5_seat_X5_in
set_option maxRecDepth 20000 in
theorem ggX5_seat_X5_holds : GoodIn wsX5_seat wsX5_holds := goodIn_r _ [11, 12, 51, 52, 53, 54, 55, 56, 57, 58, 59, 60, 61, 62, 63, 64, 65, 66, 67, 68, 69, 70] (by decide +kernel) (by decide +kernel)
set_option maxRecDepth 20000 in
theorem gX5_seat_X5_holds : GoodIn wsX5_seat (wsV RX5 147 RX5 yX5_holds wsX5_holds) := goodIn_app (goodIn_of _ (by decide +kernel)) ggX5_seat_X5_holds
set_option maxRecDepth 20000 in
theorem ggX5_seat_X5_toldOfSeat : GoodIn wsX5_seat wsX5_toldOfSeat := goodIn_r _ [16, 17, 18, 19, 3, 20, 21, 22, 23, 24, 25, 26, 27, 28, 29, 30, 31, 32, 33, 34, 35, 36, 37, 38, 39, 40, 41, 42, 43, 44, 45, 46, 47, 48, 49, 50, 51, 52, 53, 54, 55, 56, 57, 58, 59, 60, 61, 62, 63, 64, 65, 66, 67, 68, 69, 70] (by decide +kernel) (by decide +kernel)
set_option maxRecDepth 20000 in
theorem gX5_seat_X5_toldOfSeat : GoodIn wsX5_seat (wsV RX5 214 RX5 yX5_toldOfSeat wsX5_toldOfSeat) := goodIn_app (goodIn_of _ (by decide +kernel)) ggX5_seat_X5_toldOfSeat
theorem dX5_seat_0 : decode cX5_seat 0 = .ok (.aload_n 0, 1) := by decide +kernel
theorem dX5_seat_1 : decode cX5_seat 1 = .ok (.iload_n 1, 1) := by decide +kernel
theorem dX5_seat_2 : decode cX5_seat 2 = .ok (.invokestatic 141, 3) := by decide +kernel
theorem dX5_seat_5 : decode cX5_seat 5 = .ok (.ifCond .ne 7, 3) := by decide +kernel
theorem dX5_seat_8 : decode cX5_seat 8 = .ok (.iconst 1, 1) := by decide +kernel
theorem dX5_seat_9 : decode cX5_seat 9 = .ok (.goto 17, 3) := by decide +kernel
theorem dX5_seat_12 : decode cX5_seat 12 = .ok (.iload_n 2, 1) := by decide +kernel
theorem dX5_seat_13 : decode cX5_seat 13 = .ok (.iconst 0, 1) := by decide +kernel
theorem dX5_seat_14 : decode cX5_seat 14 = .ok (.iconst 4, 1) := by decide +kernel
theorem dX5_seat_15 : decode cX5_seat 15 = .ok (.invokestatic 54, 3) := by decide +kernel
theorem dX5_seat_18 : decode cX5_seat 18 = .ok (.ifCond .ne 7, 3) := by decide +kernel
theorem dX5_seat_21 : decode cX5_seat 21 = .ok (.iconst 2, 1) := by decide +kernel
theorem dX5_seat_22 : decode cX5_seat 22 = .ok (.goto 4, 3) := by decide +kernel
theorem dX5_seat_25 : decode cX5_seat 25 = .ok (.iconst 0, 1) := by decide +kernel
theorem dX5_seat_26 : decode cX5_seat 26 = .ok (.invokevirtual 147, 3) := by decide +kernel
theorem dX5_seat_29 : decode cX5_seat 29 = .ok (.ifCond .eq 12, 3) := by decide +kernel
theorem dX5_seat_32 : decode cX5_seat 32 = .ok (.aload_n 0, 1) := by decide +kernel
theorem dX5_seat_33 : decode cX5_seat 33 = .ok (.iload_n 1, 1) := by decide +kernel
theorem dX5_seat_34 : decode cX5_seat 34 = .ok (.iload_n 2, 1) := by decide +kernel
theorem dX5_seat_35 : decode cX5_seat 35 = .ok (.invokevirtual 214, 3) := by decide +kernel
theorem dX5_seat_38 : decode cX5_seat 38 = .ok (.goto 4, 3) := by decide +kernel
theorem dX5_seat_41 : decode cX5_seat 41 = .ok (.iconst 0, 1) := by decide +kernel
theorem dX5_seat_42 : decode cX5_seat 42 = .ok (.ireturn, 1) := by decide +kernel
set_option maxRecDepth 20000 in
theorem ggX5_ordersOf_X5_of : GoodIn wsX5_ordersOf wsX5_of := goodIn_r _ [6, 1, 7, 8, 5, 9, 10, 11, 12, 13, 14, 15, 16, 17, 18, 19, 20, 21, 22, 23, 24, 25, 26, 27, 28, 29] (by decide +kernel) (by decide +kernel)
set_option maxRecDepth 20000 in
theorem gX5_ordersOf_X5_of : GoodIn wsX5_ordersOf (wsV RX5 65 RX5 yX5_of wsX5_of) := goodIn_app (goodIn_of _ (by decide +kernel)) ggX5_ordersOf_X5_of
theorem dX5_ordersOf_0 : decode cX5_ordersOf 0 = .ok (.iconst 0, 1) := by decide +kernel
theorem dX5_ordersOf_1 : decode cX5_ordersOf 1 = .ok (.istore_n 2, 1) := by decide +kernel
theorem dX5_ordersOf_2 : decode cX5_ordersOf 2 = .ok (.iconst 0, 1) := by decide +kernel
theorem dX5_ordersOf_3 : decode cX5_ordersOf 3 = .ok (.istore_n 3, 1) := by decide +kernel
theorem dX5_ordersOf_4 : decode cX5_ordersOf 4 = .ok (.iload_n 3, 1) := by decide +kernel
theorem dX5_ordersOf_5 : decode cX5_ordersOf 5 = .ok (.aload_n 0, 1) := by decide +kernel
theorem dX5_ordersOf_6 : decode cX5_ordersOf 6 = .ok (.getfield 7, 3) := by decide +kernel
theorem dX5_ordersOf_9 : decode cX5_ordersOf 9 = .ok (.bipush 9, 2) := by decide +kernel
theorem dX5_ordersOf_11 : decode cX5_ordersOf 11 = .ok (.iaload, 1) := by decide +kernel
theorem dX5_ordersOf_12 : decode cX5_ordersOf 12 = .ok (.if_icmp .ge 27, 3) := by decide +kernel
theorem dX5_ordersOf_15 : decode cX5_ordersOf 15 = .ok (.iload_n 2, 1) := by decide +kernel
theorem dX5_ordersOf_16 : decode cX5_ordersOf 16 = .ok (.aload_n 0, 1) := by decide +kernel
theorem dX5_ordersOf_17 : decode cX5_ordersOf 17 = .ok (.iload_n 3, 1) := by decide +kernel
theorem dX5_ordersOf_18 : decode cX5_ordersOf 18 = .ok (.iconst 2, 1) := by decide +kernel
theorem dX5_ordersOf_19 : decode cX5_ordersOf 19 = .ok (.invokevirtual 65, 3) := by decide +kernel
theorem dX5_ordersOf_22 : decode cX5_ordersOf 22 = .ok (.iload_n 1, 1) := by decide +kernel
theorem dX5_ordersOf_23 : decode cX5_ordersOf 23 = .ok (.if_icmp .ne 7, 3) := by decide +kernel
theorem dX5_ordersOf_26 : decode cX5_ordersOf 26 = .ok (.iconst 1, 1) := by decide +kernel
theorem dX5_ordersOf_27 : decode cX5_ordersOf 27 = .ok (.goto 4, 3) := by decide +kernel
theorem dX5_ordersOf_30 : decode cX5_ordersOf 30 = .ok (.iconst 0, 1) := by decide +kernel
theorem dX5_ordersOf_31 : decode cX5_ordersOf 31 = .ok (.iadd, 1) := by decide +kernel
theorem dX5_ordersOf_32 : decode cX5_ordersOf 32 = .ok (.istore_n 2, 1) := by decide +kernel
theorem dX5_ordersOf_33 : decode cX5_ordersOf 33 = .ok (.iinc 3 1, 3) := by decide +kernel
theorem dX5_ordersOf_36 : decode cX5_ordersOf 36 = .ok (.goto (-32), 3) := by decide +kernel
theorem dX5_ordersOf_39 : decode cX5_ordersOf 39 = .ok (.iload_n 2, 1) := by decide +kernel
theorem dX5_ordersOf_40 : decode cX5_ordersOf 40 = .ok (.ireturn, 1) := by decide +kernel
set_option maxRecDepth 20000 in
theorem ggX5_counted_X5_ordersOf : GoodIn wsX5_counted wsX5_ordersOf := goodIn_r _ [7, 1, 8, 9, 10, 6, 11, 12, 13, 14, 15, 16, 17, 18, 19, 20, 21, 22, 23, 24, 25, 26, 27, 28, 29, 30, 31, 32, 33, 34] (by decide +kernel) (by decide +kernel)
set_option maxRecDepth 20000 in
theorem gX5_counted_X5_ordersOf : GoodIn wsX5_counted (wsV RX5 217 RX5 yX5_ordersOf wsX5_ordersOf) := goodIn_app (goodIn_of _ (by decide +kernel)) ggX5_counted_X5_ordersOf
theorem dX5_counted_0 : decode cX5_counted 0 = .ok (.iload_n 1, 1) := by decide +kernel
theorem dX5_counted_1 : decode cX5_counted 1 = .ok (.tableswitch 106 0 12 #[67, 75, 82, 106, 106, 106, 106, 106, 106, 106, 89, 95, 101], 67) := by decide +kernel
theorem dX5_counted_68 : decode cX5_counted 68 = .ok (.aload_n 0, 1) := by decide +kernel
theorem dX5_counted_69 : decode cX5_counted 69 = .ok (.getfield 7, 3) := by decide +kernel
theorem dX5_counted_72 : decode cX5_counted 72 = .ok (.bipush 9, 2) := by decide +kernel
theorem dX5_counted_74 : decode cX5_counted 74 = .ok (.iaload, 1) := by decide +kernel
theorem dX5_counted_75 : decode cX5_counted 75 = .ok (.ireturn, 1) := by decide +kernel
theorem dX5_counted_76 : decode cX5_counted 76 = .ok (.aload_n 0, 1) := by decide +kernel
theorem dX5_counted_77 : decode cX5_counted 77 = .ok (.getfield 7, 3) := by decide +kernel
theorem dX5_counted_80 : decode cX5_counted 80 = .ok (.iconst 0, 1) := by decide +kernel
theorem dX5_counted_81 : decode cX5_counted 81 = .ok (.iaload, 1) := by decide +kernel
theorem dX5_counted_82 : decode cX5_counted 82 = .ok (.ireturn, 1) := by decide +kernel
theorem dX5_counted_83 : decode cX5_counted 83 = .ok (.aload_n 0, 1) := by decide +kernel
theorem dX5_counted_84 : decode cX5_counted 84 = .ok (.getfield 7, 3) := by decide +kernel
theorem dX5_counted_87 : decode cX5_counted 87 = .ok (.iconst 1, 1) := by decide +kernel
theorem dX5_counted_88 : decode cX5_counted 88 = .ok (.iaload, 1) := by decide +kernel
theorem dX5_counted_89 : decode cX5_counted 89 = .ok (.ireturn, 1) := by decide +kernel
theorem dX5_counted_90 : decode cX5_counted 90 = .ok (.aload_n 0, 1) := by decide +kernel
theorem dX5_counted_91 : decode cX5_counted 91 = .ok (.iconst 1, 1) := by decide +kernel
theorem dX5_counted_92 : decode cX5_counted 92 = .ok (.invokevirtual 217, 3) := by decide +kernel
theorem dX5_counted_95 : decode cX5_counted 95 = .ok (.ireturn, 1) := by decide +kernel
theorem dX5_counted_96 : decode cX5_counted 96 = .ok (.aload_n 0, 1) := by decide +kernel
theorem dX5_counted_97 : decode cX5_counted 97 = .ok (.iconst 2, 1) := by decide +kernel
theorem dX5_counted_98 : decode cX5_counted 98 = .ok (.invokevirtual 217, 3) := by decide +kernel
theorem dX5_counted_101 : decode cX5_counted 101 = .ok (.ireturn, 1) := by decide +kernel
theorem dX5_counted_102 : decode cX5_counted 102 = .ok (.aload_n 0, 1) := by decide +kernel
theorem dX5_counted_103 : decode cX5_counted 103 = .ok (.getfield 62, 3) := by decide +kernel
theorem dX5_counted_106 : decode cX5_counted 106 = .ok (.ireturn, 1) := by decide +kernel
theorem dX5_counted_107 : decode cX5_counted 107 = .ok (.aload_n 0, 1) := by decide +kernel
theorem dX5_counted_108 : decode cX5_counted 108 = .ok (.getfield 7, 3) := by decide +kernel
theorem dX5_counted_111 : decode cX5_counted 111 = .ok (.iconst 2, 1) := by decide +kernel
theorem dX5_counted_112 : decode cX5_counted 112 = .ok (.iload_n 1, 1) := by decide +kernel
theorem dX5_counted_113 : decode cX5_counted 113 = .ok (.iadd, 1) := by decide +kernel
theorem dX5_counted_114 : decode cX5_counted 114 = .ok (.iconst 3, 1) := by decide +kernel
theorem dX5_counted_115 : decode cX5_counted 115 = .ok (.isub, 1) := by decide +kernel
theorem dX5_counted_116 : decode cX5_counted 116 = .ok (.iaload, 1) := by decide +kernel
theorem dX5_counted_117 : decode cX5_counted 117 = .ok (.ireturn, 1) := by decide +kernel
set_option maxRecDepth 20000 in
theorem ggX5_count_X5_in : GoodIn wsX5_count wsX5_in := goodIn_r _ [4] (by decide +kernel) (by decide +kernel)
set_option maxRecDepth 20000 in
theorem gX5_count_X5_in : GoodIn wsX5_count (va_wsS RX5 54 yX5_in wsX5_in) := goodIn_app (goodIn_of _ (by decide +kernel)) ggX5_count_X5_in
set_option maxRecDepth 20000 in
theorem ggX5_count_X5_holds : GoodIn wsX5_count wsX5_holds := goodIn_r _ [8, 9, 27, 28, 29, 30, 31, 32, 33, 34, 35, 36, 37, 38, 39, 40, 41, 42, 43, 44, 45, 46] (by decide +kernel) (by decide +kernel)
set_option maxRecDepth 20000 in
theorem gX5_count_X5_holds : GoodIn wsX5_count (wsV RX5 147 RX5 yX5_holds wsX5_holds) := goodIn_app (goodIn_of _ (by decide +kernel)) ggX5_count_X5_holds
set_option maxRecDepth 20000 in
theorem ggX5_count_X5_counted : GoodIn wsX5_count wsX5_counted := goodIn_r _ [13, 14, 15, 16, 17, 18, 3, 19, 20, 21, 22, 23, 24, 25, 26, 27, 28, 29, 30, 31, 32, 33, 34, 35, 36, 37, 38, 39, 40, 41, 42, 43, 44, 45, 46] (by decide +kernel) (by decide +kernel)
set_option maxRecDepth 20000 in
theorem gX5_count_X5_counted : GoodIn wsX5_count (wsV RX5 220 RX5 yX5_counted wsX5_counted) := goodIn_app (goodIn_of _ (by decide +kernel)) ggX5_count_X5_counted
theorem dX5_count_0 : decode cX5_count 0 = .ok (.aload_n 0, 1) := by decide +kernel
theorem dX5_count_1 : decode cX5_count 1 = .ok (.iload_n 1, 1) := by decide +kernel
theorem dX5_count_2 : decode cX5_count 2 = .ok (.iconst 0, 1) := by decide +kernel
theorem dX5_count_3 : decode cX5_count 3 = .ok (.bipush 12, 2) := by decide +kernel
theorem dX5_count_5 : decode cX5_count 5 = .ok (.invokestatic 54, 3) := by decide +kernel
theorem dX5_count_8 : decode cX5_count 8 = .ok (.ifCond .eq 7, 3) := by decide +kernel
theorem dX5_count_11 : decode cX5_count 11 = .ok (.iconst 0, 1) := by decide +kernel
theorem dX5_count_12 : decode cX5_count 12 = .ok (.goto 4, 3) := by decide +kernel
theorem dX5_count_15 : decode cX5_count 15 = .ok (.iconst 1, 1) := by decide +kernel
theorem dX5_count_16 : decode cX5_count 16 = .ok (.invokevirtual 147, 3) := by decide +kernel
theorem dX5_count_19 : decode cX5_count 19 = .ok (.ifCond .eq 11, 3) := by decide +kernel
theorem dX5_count_22 : decode cX5_count 22 = .ok (.aload_n 0, 1) := by decide +kernel
theorem dX5_count_23 : decode cX5_count 23 = .ok (.iload_n 1, 1) := by decide +kernel
theorem dX5_count_24 : decode cX5_count 24 = .ok (.invokevirtual 220, 3) := by decide +kernel
theorem dX5_count_27 : decode cX5_count 27 = .ok (.goto 4, 3) := by decide +kernel
theorem dX5_count_30 : decode cX5_count 30 = .ok (.iconst 0, 1) := by decide +kernel
theorem dX5_count_31 : decode cX5_count 31 = .ok (.ireturn, 1) := by decide +kernel
set_option maxRecDepth 20000 in
theorem ggX5_opened_X5_layOpening : GoodIn wsX5_opened wsX5_layOpening := goodIn_r _ [11, 12, 1, 4, 13, 14, 15, 16, 10, 17, 6, 5, 2, 18, 3, 19, 20, 21, 22, 23, 24, 25, 26, 27, 28, 29, 30, 31, 32, 33, 34, 35, 36, 37, 38, 39, 40, 41, 42, 43, 44, 45, 46, 47, 48, 49, 50, 51, 52, 53, 54, 55, 56, 57, 58, 59, 60, 61, 62, 63, 64, 65, 66, 67, 68, 69, 70, 71, 72, 73, 74, 75, 76, 77, 78, 79, 80, 81, 82, 83, 84, 85, 86, 87, 88, 89, 90, 91, 92] (by decide +kernel) (by decide +kernel)
set_option maxRecDepth 20000 in
theorem gX5_opened_X5_layOpening : GoodIn wsX5_opened (wsV RX5 111 RX5 yX5_layOpening wsX5_layOpening) := goodIn_app (goodIn_of _ (by decide +kernel)) ggX5_opened_X5_layOpening
theorem dX5_opened_0 : decode cX5_opened 0 = .ok (.aload_n 0, 1) := by decide +kernel
theorem dX5_opened_1 : decode cX5_opened 1 = .ok (.invokevirtual 111, 3) := by decide +kernel
theorem dX5_opened_4 : decode cX5_opened 4 = .ok (.iload_n 2, 1) := by decide +kernel
theorem dX5_opened_5 : decode cX5_opened 5 = .ok (.tableswitch 87 0 4 #[35, 42, 49, 56, 72], 35) := by decide +kernel
theorem dX5_opened_40 : decode cX5_opened 40 = .ok (.aload_n 0, 1) := by decide +kernel
theorem dX5_opened_41 : decode cX5_opened 41 = .ok (.getfield 44, 3) := by decide +kernel
theorem dX5_opened_44 : decode cX5_opened 44 = .ok (.iload_n 1, 1) := by decide +kernel
theorem dX5_opened_45 : decode cX5_opened 45 = .ok (.iaload, 1) := by decide +kernel
theorem dX5_opened_46 : decode cX5_opened 46 = .ok (.ireturn, 1) := by decide +kernel
theorem dX5_opened_47 : decode cX5_opened 47 = .ok (.aload_n 0, 1) := by decide +kernel
theorem dX5_opened_48 : decode cX5_opened 48 = .ok (.getfield 32, 3) := by decide +kernel
theorem dX5_opened_51 : decode cX5_opened 51 = .ok (.iload_n 1, 1) := by decide +kernel
theorem dX5_opened_52 : decode cX5_opened 52 = .ok (.iaload, 1) := by decide +kernel
theorem dX5_opened_53 : decode cX5_opened 53 = .ok (.ireturn, 1) := by decide +kernel
theorem dX5_opened_54 : decode cX5_opened 54 = .ok (.aload_n 0, 1) := by decide +kernel
theorem dX5_opened_55 : decode cX5_opened 55 = .ok (.getfield 38, 3) := by decide +kernel
theorem dX5_opened_58 : decode cX5_opened 58 = .ok (.iload_n 1, 1) := by decide +kernel
theorem dX5_opened_59 : decode cX5_opened 59 = .ok (.iaload, 1) := by decide +kernel
theorem dX5_opened_60 : decode cX5_opened 60 = .ok (.ireturn, 1) := by decide +kernel
theorem dX5_opened_61 : decode cX5_opened 61 = .ok (.aload_n 0, 1) := by decide +kernel
theorem dX5_opened_62 : decode cX5_opened 62 = .ok (.getfield 41, 3) := by decide +kernel
theorem dX5_opened_65 : decode cX5_opened 65 = .ok (.iload_n 1, 1) := by decide +kernel
theorem dX5_opened_66 : decode cX5_opened 66 = .ok (.iaload, 1) := by decide +kernel
theorem dX5_opened_67 : decode cX5_opened 67 = .ok (.iconst (-1), 1) := by decide +kernel
theorem dX5_opened_68 : decode cX5_opened 68 = .ok (.if_icmp .ne 7, 3) := by decide +kernel
theorem dX5_opened_71 : decode cX5_opened 71 = .ok (.iconst 0, 1) := by decide +kernel
theorem dX5_opened_72 : decode cX5_opened 72 = .ok (.goto 4, 3) := by decide +kernel
theorem dX5_opened_75 : decode cX5_opened 75 = .ok (.iconst 1, 1) := by decide +kernel
theorem dX5_opened_76 : decode cX5_opened 76 = .ok (.ireturn, 1) := by decide +kernel
theorem dX5_opened_77 : decode cX5_opened 77 = .ok (.aload_n 0, 1) := by decide +kernel
theorem dX5_opened_78 : decode cX5_opened 78 = .ok (.getfield 25, 3) := by decide +kernel
theorem dX5_opened_81 : decode cX5_opened 81 = .ok (.iload_n 1, 1) := by decide +kernel
theorem dX5_opened_82 : decode cX5_opened 82 = .ok (.baload, 1) := by decide +kernel
theorem dX5_opened_83 : decode cX5_opened 83 = .ok (.ifCond .eq 7, 3) := by decide +kernel
theorem dX5_opened_86 : decode cX5_opened 86 = .ok (.iconst 1, 1) := by decide +kernel
theorem dX5_opened_87 : decode cX5_opened 87 = .ok (.goto 4, 3) := by decide +kernel
theorem dX5_opened_90 : decode cX5_opened 90 = .ok (.iconst 0, 1) := by decide +kernel
theorem dX5_opened_91 : decode cX5_opened 91 = .ok (.ireturn, 1) := by decide +kernel
theorem dX5_opened_92 : decode cX5_opened 92 = .ok (.aload_n 0, 1) := by decide +kernel
theorem dX5_opened_93 : decode cX5_opened 93 = .ok (.getfield 29, 3) := by decide +kernel
theorem dX5_opened_96 : decode cX5_opened 96 = .ok (.iload_n 1, 1) := by decide +kernel
theorem dX5_opened_97 : decode cX5_opened 97 = .ok (.baload, 1) := by decide +kernel
theorem dX5_opened_98 : decode cX5_opened 98 = .ok (.ifCond .eq 7, 3) := by decide +kernel
theorem dX5_opened_101 : decode cX5_opened 101 = .ok (.iconst 1, 1) := by decide +kernel
theorem dX5_opened_102 : decode cX5_opened 102 = .ok (.goto 4, 3) := by decide +kernel
theorem dX5_opened_105 : decode cX5_opened 105 = .ok (.iconst 0, 1) := by decide +kernel
theorem dX5_opened_106 : decode cX5_opened 106 = .ok (.ireturn, 1) := by decide +kernel
set_option maxRecDepth 20000 in
theorem ggX5_ifOpened_X5_isArmy : GoodIn wsX5_ifOpened wsX5_isArmy := goodIn_r _ [5, 6, 7, 8, 4, 9, 89, 90, 91, 92, 93, 94, 95, 96, 97, 98, 99, 100, 101, 102, 103, 104, 105, 106, 107, 108] (by decide +kernel) (by decide +kernel)
set_option maxRecDepth 20000 in
theorem gX5_ifOpened_X5_isArmy : GoodIn wsX5_ifOpened (wsV RX5 153 RX5 yX5_isArmy wsX5_isArmy) := goodIn_app (goodIn_of _ (by decide +kernel)) ggX5_ifOpened_X5_isArmy
set_option maxRecDepth 20000 in
theorem ggX5_ifOpened_X5_in : GoodIn wsX5_ifOpened wsX5_in := goodIn_r _ [9] (by decide +kernel) (by decide +kernel)
set_option maxRecDepth 20000 in
theorem gX5_ifOpened_X5_in : GoodIn wsX5_ifOpened (va_wsS RX5 54 yX5_in wsX5_in) := goodIn_app (goodIn_of _ (by decide +kernel)) ggX5_ifOpened_X5_in
set_option maxRecDepth 20000 in
theorem ggX5_ifOpened_X5_holds : GoodIn wsX5_ifOpened wsX5_holds := goodIn_r _ [13, 14, 89, 90, 91, 92, 93, 94, 95, 96, 97, 98, 99, 100, 101, 102, 103, 104, 105, 106, 107, 108] (by decide +kernel) (by decide +kernel)
set_option maxRecDepth 20000 in
theorem gX5_ifOpened_X5_holds : GoodIn wsX5_ifOpened (wsV RX5 147 RX5 yX5_holds wsX5_holds) := goodIn_app (goodIn_of _ (by decide +kernel)) ggX5_ifOpened_X5_holds
set_option maxRecDepth 20000 in
theorem ggX5_ifOpened_X5_opened : GoodIn wsX5_ifOpened wsX5_opened := goodIn_r _ [18, 19, 20, 21, 22, 23, 24, 25, 26, 27, 4, 28, 6, 29, 30, 31, 32, 33, 34, 35, 36, 37, 38, 39, 40, 41, 42, 43, 44, 45, 46, 47, 48, 49, 50, 51, 52, 53, 54, 55, 56, 57, 58, 59, 60, 61, 62, 63, 64, 65, 66, 67, 68, 69, 70, 71, 72, 73, 74, 75, 76, 77, 78, 79, 80, 81, 82, 83, 84, 85, 86, 87, 88, 89, 90, 91, 92, 93, 94, 95, 96, 97, 98, 99, 100, 101, 102, 103, 104, 105, 106, 107, 108] (by decide +kernel) (by decide +kernel)
set_option maxRecDepth 20000 in
theorem gX5_ifOpened_X5_opened : GoodIn wsX5_ifOpened (wsV RX5 223 RX5 yX5_opened wsX5_opened) := goodIn_app (goodIn_of _ (by decide +kernel)) ggX5_ifOpened_X5_opened
theorem dX5_ifOpened_0 : decode cX5_ifOpened 0 = .ok (.aload_n 0, 1) := by decide +kernel
theorem dX5_ifOpened_1 : decode cX5_ifOpened 1 = .ok (.aload_n 0, 1) := by decide +kernel
theorem dX5_ifOpened_2 : decode cX5_ifOpened 2 = .ok (.iload_n 1, 1) := by decide +kernel
theorem dX5_ifOpened_3 : decode cX5_ifOpened 3 = .ok (.invokevirtual 153, 3) := by decide +kernel
theorem dX5_ifOpened_6 : decode cX5_ifOpened 6 = .ok (.ifCond .ne 7, 3) := by decide +kernel
theorem dX5_ifOpened_9 : decode cX5_ifOpened 9 = .ok (.iconst 1, 1) := by decide +kernel
theorem dX5_ifOpened_10 : decode cX5_ifOpened 10 = .ok (.goto 17, 3) := by decide +kernel
theorem dX5_ifOpened_13 : decode cX5_ifOpened 13 = .ok (.iload_n 2, 1) := by decide +kernel
theorem dX5_ifOpened_14 : decode cX5_ifOpened 14 = .ok (.iconst 0, 1) := by decide +kernel
theorem dX5_ifOpened_15 : decode cX5_ifOpened 15 = .ok (.iconst 5, 1) := by decide +kernel
theorem dX5_ifOpened_16 : decode cX5_ifOpened 16 = .ok (.invokestatic 54, 3) := by decide +kernel
theorem dX5_ifOpened_19 : decode cX5_ifOpened 19 = .ok (.ifCond .ne 7, 3) := by decide +kernel
theorem dX5_ifOpened_22 : decode cX5_ifOpened 22 = .ok (.iconst 2, 1) := by decide +kernel
theorem dX5_ifOpened_23 : decode cX5_ifOpened 23 = .ok (.goto 4, 3) := by decide +kernel
theorem dX5_ifOpened_26 : decode cX5_ifOpened 26 = .ok (.iconst 0, 1) := by decide +kernel
theorem dX5_ifOpened_27 : decode cX5_ifOpened 27 = .ok (.invokevirtual 147, 3) := by decide +kernel
theorem dX5_ifOpened_30 : decode cX5_ifOpened 30 = .ok (.ifCond .eq 12, 3) := by decide +kernel
theorem dX5_ifOpened_33 : decode cX5_ifOpened 33 = .ok (.aload_n 0, 1) := by decide +kernel
theorem dX5_ifOpened_34 : decode cX5_ifOpened 34 = .ok (.iload_n 1, 1) := by decide +kernel
theorem dX5_ifOpened_35 : decode cX5_ifOpened 35 = .ok (.iload_n 2, 1) := by decide +kernel
theorem dX5_ifOpened_36 : decode cX5_ifOpened 36 = .ok (.invokevirtual 223, 3) := by decide +kernel
theorem dX5_ifOpened_39 : decode cX5_ifOpened 39 = .ok (.goto 4, 3) := by decide +kernel
theorem dX5_ifOpened_42 : decode cX5_ifOpened 42 = .ok (.iconst 0, 1) := by decide +kernel
theorem dX5_ifOpened_43 : decode cX5_ifOpened 43 = .ok (.ireturn, 1) := by decide +kernel
set_option maxRecDepth 20000 in
theorem ggX5_reach_X5_putAside : GoodIn wsX5_reach wsX5_putAside := goodIn_r _ [6, 7, 8, 86, 87, 88, 89, 90, 91, 92, 93, 94, 95, 96, 97, 98, 99, 100, 101, 102, 103, 104, 105] (by decide +kernel) (by decide +kernel)
set_option maxRecDepth 20000 in
theorem gX5_reach_X5_putAside : GoodIn wsX5_reach (wsV RX5 226 RX5 yX5_putAside wsX5_putAside) := goodIn_app (goodIn_of _ (by decide +kernel)) ggX5_reach_X5_putAside
set_option maxRecDepth 20000 in
theorem ggX5_reach_X5_of : GoodIn wsX5_reach wsX5_of := goodIn_r _ [12, 8, 13, 14, 5, 15, 86, 87, 88, 89, 90, 91, 92, 93, 94, 95, 96, 97, 98, 99, 100, 101, 102, 103, 104, 105] (by decide +kernel) (by decide +kernel)
set_option maxRecDepth 20000 in
theorem gX5_reach_X5_of : GoodIn wsX5_reach (wsV RX5 65 RX5 yX5_of wsX5_of) := goodIn_app (goodIn_of _ (by decide +kernel)) ggX5_reach_X5_of
set_option maxRecDepth 20000 in
theorem ggX5_reach_X5_areNeighbours : GoodIn wsX5_reach wsX5_areNeighbours := goodIn_r _ [18] (by decide +kernel) (by decide +kernel)
set_option maxRecDepth 20000 in
theorem gX5_reach_X5_areNeighbours : GoodIn wsX5_reach (va_wsS RX5 92 yX5_areNeighbours wsX5_areNeighbours) := goodIn_app (goodIn_of _ (by decide +kernel)) ggX5_reach_X5_areNeighbours
set_option maxRecDepth 20000 in
theorem ggX5_reach_X5_lays : GoodIn wsX5_reach wsX5_lays := goodIn_r _ [22, 8, 13, 14, 5, 15, 86, 87, 88, 89, 90, 91, 92, 93, 94, 95, 96, 97, 98, 99, 100, 101, 102, 103, 104, 105] (by decide +kernel) (by decide +kernel)
set_option maxRecDepth 20000 in
theorem gX5_reach_X5_lays : GoodIn wsX5_reach (wsV RX5 114 RX5 yX5_lays wsX5_lays) := goodIn_app (goodIn_of _ (by decide +kernel)) ggX5_reach_X5_lays
set_option maxRecDepth 20000 in
theorem ggX5_reach_X5_layOpening : GoodIn wsX5_reach wsX5_layOpening := goodIn_r _ [26, 8, 27, 28, 29, 30, 31, 32, 5, 33, 34, 35, 36, 1, 37, 9, 10, 11, 12, 13, 14, 15, 38, 39, 40, 41, 42, 43, 44, 45, 46, 47, 48, 49, 50, 51, 52, 53, 54, 55, 56, 57, 58, 59, 60, 61, 62, 63, 64, 65, 66, 67, 68, 69, 70, 71, 72, 73, 74, 75, 76, 77, 16, 17, 18, 78, 79, 80, 81, 86, 87, 88, 89, 90, 91, 92, 93, 94, 95, 96, 97, 98, 99, 100, 101, 102, 103, 104, 105] (by decide +kernel) (by decide +kernel)
set_option maxRecDepth 20000 in
theorem gX5_reach_X5_layOpening : GoodIn wsX5_reach (wsV RX5 111 RX5 yX5_layOpening wsX5_layOpening) := goodIn_app (goodIn_of _ (by decide +kernel)) ggX5_reach_X5_layOpening
set_option maxRecDepth 20000 in
theorem ggX5_reach_X5_putBack : GoodIn wsX5_reach wsX5_putBack := goodIn_r _ [85, 8, 7, 86, 87, 88, 89, 90, 91, 92, 93, 94, 95, 96, 97, 98, 99, 100, 101, 102, 103, 104, 105] (by decide +kernel) (by decide +kernel)
set_option maxRecDepth 20000 in
theorem gX5_reach_X5_putBack : GoodIn wsX5_reach (wsV RX5 229 RX5 yX5_putBack wsX5_putBack) := goodIn_app (goodIn_of _ (by decide +kernel)) ggX5_reach_X5_putBack
theorem dX5_reach_0 : decode cX5_reach 0 = .ok (.iconst 0, 1) := by decide +kernel
theorem dX5_reach_1 : decode cX5_reach 1 = .ok (.istore_n 2, 1) := by decide +kernel
theorem dX5_reach_2 : decode cX5_reach 2 = .ok (.aload_n 0, 1) := by decide +kernel
theorem dX5_reach_3 : decode cX5_reach 3 = .ok (.invokevirtual 226, 3) := by decide +kernel
theorem dX5_reach_6 : decode cX5_reach 6 = .ok (.iconst 0, 1) := by decide +kernel
theorem dX5_reach_7 : decode cX5_reach 7 = .ok (.istore_n 3, 1) := by decide +kernel
theorem dX5_reach_8 : decode cX5_reach 8 = .ok (.iload_n 3, 1) := by decide +kernel
theorem dX5_reach_9 : decode cX5_reach 9 = .ok (.bipush 12, 2) := by decide +kernel
theorem dX5_reach_11 : decode cX5_reach 11 = .ok (.if_icmp .ge 53, 3) := by decide +kernel
theorem dX5_reach_14 : decode cX5_reach 14 = .ok (.aload_n 0, 1) := by decide +kernel
theorem dX5_reach_15 : decode cX5_reach 15 = .ok (.iload_n 1, 1) := by decide +kernel
theorem dX5_reach_16 : decode cX5_reach 16 = .ok (.iconst 1, 1) := by decide +kernel
theorem dX5_reach_17 : decode cX5_reach 17 = .ok (.invokevirtual 65, 3) := by decide +kernel
theorem dX5_reach_20 : decode cX5_reach 20 = .ok (.iload_n 3, 1) := by decide +kernel
theorem dX5_reach_21 : decode cX5_reach 21 = .ok (.invokestatic 92, 3) := by decide +kernel
theorem dX5_reach_24 : decode cX5_reach 24 = .ok (.ifCond .eq 34, 3) := by decide +kernel
theorem dX5_reach_27 : decode cX5_reach 27 = .ok (.aload_n 0, 1) := by decide +kernel
theorem dX5_reach_28 : decode cX5_reach 28 = .ok (.iload_n 1, 1) := by decide +kernel
theorem dX5_reach_29 : decode cX5_reach 29 = .ok (.iconst 1, 1) := by decide +kernel
theorem dX5_reach_30 : decode cX5_reach 30 = .ok (.iload_n 3, 1) := by decide +kernel
theorem dX5_reach_31 : decode cX5_reach 31 = .ok (.iconst (-1), 1) := by decide +kernel
theorem dX5_reach_32 : decode cX5_reach 32 = .ok (.invokevirtual 114, 3) := by decide +kernel
theorem dX5_reach_35 : decode cX5_reach 35 = .ok (.aload_n 0, 1) := by decide +kernel
theorem dX5_reach_36 : decode cX5_reach 36 = .ok (.invokevirtual 111, 3) := by decide +kernel
theorem dX5_reach_39 : decode cX5_reach 39 = .ok (.iload_n 2, 1) := by decide +kernel
theorem dX5_reach_40 : decode cX5_reach 40 = .ok (.aload_n 0, 1) := by decide +kernel
theorem dX5_reach_41 : decode cX5_reach 41 = .ok (.getfield 35, 3) := by decide +kernel
theorem dX5_reach_44 : decode cX5_reach 44 = .ok (.iload_n 1, 1) := by decide +kernel
theorem dX5_reach_45 : decode cX5_reach 45 = .ok (.baload, 1) := by decide +kernel
theorem dX5_reach_46 : decode cX5_reach 46 = .ok (.ifCond .eq 7, 3) := by decide +kernel
theorem dX5_reach_49 : decode cX5_reach 49 = .ok (.iconst 0, 1) := by decide +kernel
theorem dX5_reach_50 : decode cX5_reach 50 = .ok (.goto 6, 3) := by decide +kernel
theorem dX5_reach_53 : decode cX5_reach 53 = .ok (.iconst 1, 1) := by decide +kernel
theorem dX5_reach_54 : decode cX5_reach 54 = .ok (.iload_n 3, 1) := by decide +kernel
theorem dX5_reach_55 : decode cX5_reach 55 = .ok (.ishl, 1) := by decide +kernel
theorem dX5_reach_56 : decode cX5_reach 56 = .ok (.ior, 1) := by decide +kernel
theorem dX5_reach_57 : decode cX5_reach 57 = .ok (.istore_n 2, 1) := by decide +kernel
theorem dX5_reach_58 : decode cX5_reach 58 = .ok (.iinc 3 1, 3) := by decide +kernel
theorem dX5_reach_61 : decode cX5_reach 61 = .ok (.goto (-53), 3) := by decide +kernel
theorem dX5_reach_64 : decode cX5_reach 64 = .ok (.aload_n 0, 1) := by decide +kernel
theorem dX5_reach_65 : decode cX5_reach 65 = .ok (.invokevirtual 229, 3) := by decide +kernel
theorem dX5_reach_68 : decode cX5_reach 68 = .ok (.iload_n 2, 1) := by decide +kernel
theorem dX5_reach_69 : decode cX5_reach 69 = .ok (.ireturn, 1) := by decide +kernel
set_option maxRecDepth 20000 in
theorem ggX5_canReach_X5_isArmy : GoodIn wsX5_canReach wsX5_isArmy := goodIn_r _ [5, 6, 7, 8, 4, 9, 102, 103, 104, 105, 106, 107, 108, 109, 110, 111, 112, 113, 114, 115, 116, 117, 118, 119, 120, 121] (by decide +kernel) (by decide +kernel)
set_option maxRecDepth 20000 in
theorem gX5_canReach_X5_isArmy : GoodIn wsX5_canReach (wsV RX5 153 RX5 yX5_isArmy wsX5_isArmy) := goodIn_app (goodIn_of _ (by decide +kernel)) ggX5_canReach_X5_isArmy
set_option maxRecDepth 20000 in
theorem ggX5_canReach_X5_holds : GoodIn wsX5_canReach wsX5_holds := goodIn_r _ [13, 14, 102, 103, 104, 105, 106, 107, 108, 109, 110, 111, 112, 113, 114, 115, 116, 117, 118, 119, 120, 121] (by decide +kernel) (by decide +kernel)
set_option maxRecDepth 20000 in
theorem gX5_canReach_X5_holds : GoodIn wsX5_canReach (wsV RX5 147 RX5 yX5_holds wsX5_holds) := goodIn_app (goodIn_of _ (by decide +kernel)) ggX5_canReach_X5_holds
set_option maxRecDepth 20000 in
theorem ggX5_canReach_X5_reach : GoodIn wsX5_canReach wsX5_reach := goodIn_r _ [18, 19, 20, 21, 22, 4, 23, 24, 6, 25, 26, 27, 28, 29, 30, 31, 32, 33, 34, 35, 36, 37, 38, 39, 40, 41, 42, 43, 44, 45, 46, 47, 48, 49, 50, 51, 52, 53, 54, 55, 56, 57, 58, 59, 60, 61, 62, 63, 64, 65, 66, 67, 68, 69, 70, 71, 72, 73, 74, 75, 76, 77, 78, 79, 80, 81, 82, 83, 84, 85, 86, 87, 88, 89, 90, 91, 92, 93, 94, 95, 96, 97, 98, 99, 100, 101, 102, 103, 104, 105, 106, 107, 108, 109, 110, 111, 112, 113, 114, 115, 116, 117, 118, 119, 120, 121] (by decide +kernel) (by decide +kernel)
set_option maxRecDepth 20000 in
theorem gX5_canReach_X5_reach : GoodIn wsX5_canReach (wsV RX5 232 RX5 yX5_reach wsX5_reach) := goodIn_app (goodIn_of _ (by decide +kernel)) ggX5_canReach_X5_reach
theorem dX5_canReach_0 : decode cX5_canReach 0 = .ok (.aload_n 0, 1) := by decide +kernel
theorem dX5_canReach_1 : decode cX5_canReach 1 = .ok (.aload_n 0, 1) := by decide +kernel
theorem dX5_canReach_2 : decode cX5_canReach 2 = .ok (.iload_n 1, 1) := by decide +kernel
theorem dX5_canReach_3 : decode cX5_canReach 3 = .ok (.invokevirtual 153, 3) := by decide +kernel
theorem dX5_canReach_6 : decode cX5_canReach 6 = .ok (.ifCond .eq 7, 3) := by decide +kernel
theorem dX5_canReach_9 : decode cX5_canReach 9 = .ok (.iconst 0, 1) := by decide +kernel
theorem dX5_canReach_10 : decode cX5_canReach 10 = .ok (.goto 4, 3) := by decide +kernel
theorem dX5_canReach_13 : decode cX5_canReach 13 = .ok (.iconst 1, 1) := by decide +kernel
theorem dX5_canReach_14 : decode cX5_canReach 14 = .ok (.invokevirtual 147, 3) := by decide +kernel
theorem dX5_canReach_17 : decode cX5_canReach 17 = .ok (.ifCond .eq 11, 3) := by decide +kernel
theorem dX5_canReach_20 : decode cX5_canReach 20 = .ok (.aload_n 0, 1) := by decide +kernel
theorem dX5_canReach_21 : decode cX5_canReach 21 = .ok (.iload_n 1, 1) := by decide +kernel
theorem dX5_canReach_22 : decode cX5_canReach 22 = .ok (.invokevirtual 232, 3) := by decide +kernel
theorem dX5_canReach_25 : decode cX5_canReach 25 = .ok (.goto 4, 3) := by decide +kernel
theorem dX5_canReach_28 : decode cX5_canReach 28 = .ok (.iconst 0, 1) := by decide +kernel
theorem dX5_canReach_29 : decode cX5_canReach 29 = .ok (.ireturn, 1) := by decide +kernel
set_option maxRecDepth 20000 in
theorem ggX5_inDanger_X5_layOpening : GoodIn wsX5_inDanger wsX5_layOpening := goodIn_r _ [8, 1, 9, 2, 10, 11, 12, 13, 7, 14, 15, 16, 3, 17, 18, 19, 20, 21, 22, 23, 24, 25, 26, 27, 28, 29, 30, 31, 32, 33, 34, 35, 36, 37, 38, 39, 40, 41, 42, 43, 44, 45, 46, 47, 48, 49, 50, 51, 52, 53, 54, 55, 56, 57, 58, 59, 60, 61, 62, 63, 64, 65, 66, 67, 68, 69, 70, 71, 72, 73, 74, 75, 76, 77, 78, 79, 80, 81, 82, 83, 84, 85, 86, 87, 88, 89, 90, 91, 92] (by decide +kernel) (by decide +kernel)
set_option maxRecDepth 20000 in
theorem gX5_inDanger_X5_layOpening : GoodIn wsX5_inDanger (wsV RX5 111 RX5 yX5_layOpening wsX5_layOpening) := goodIn_app (goodIn_of _ (by decide +kernel)) ggX5_inDanger_X5_layOpening
theorem dX5_inDanger_0 : decode cX5_inDanger 0 = .ok (.aload_n 0, 1) := by decide +kernel
theorem dX5_inDanger_1 : decode cX5_inDanger 1 = .ok (.invokevirtual 111, 3) := by decide +kernel
theorem dX5_inDanger_4 : decode cX5_inDanger 4 = .ok (.iconst (-1), 1) := by decide +kernel
theorem dX5_inDanger_5 : decode cX5_inDanger 5 = .ok (.istore_n 1, 1) := by decide +kernel
theorem dX5_inDanger_6 : decode cX5_inDanger 6 = .ok (.iconst 0, 1) := by decide +kernel
theorem dX5_inDanger_7 : decode cX5_inDanger 7 = .ok (.istore_n 2, 1) := by decide +kernel
theorem dX5_inDanger_8 : decode cX5_inDanger 8 = .ok (.iload_n 2, 1) := by decide +kernel
theorem dX5_inDanger_9 : decode cX5_inDanger 9 = .ok (.aload_n 0, 1) := by decide +kernel
theorem dX5_inDanger_10 : decode cX5_inDanger 10 = .ok (.getfield 7, 3) := by decide +kernel
theorem dX5_inDanger_13 : decode cX5_inDanger 13 = .ok (.bipush 9, 2) := by decide +kernel
theorem dX5_inDanger_15 : decode cX5_inDanger 15 = .ok (.iaload, 1) := by decide +kernel
theorem dX5_inDanger_16 : decode cX5_inDanger 16 = .ok (.if_icmp .ge 65, 3) := by decide +kernel
theorem dX5_inDanger_19 : decode cX5_inDanger 19 = .ok (.aload_n 0, 1) := by decide +kernel
theorem dX5_inDanger_20 : decode cX5_inDanger 20 = .ok (.getfield 41, 3) := by decide +kernel
theorem dX5_inDanger_23 : decode cX5_inDanger 23 = .ok (.iload_n 2, 1) := by decide +kernel
theorem dX5_inDanger_24 : decode cX5_inDanger 24 = .ok (.iaload, 1) := by decide +kernel
theorem dX5_inDanger_25 : decode cX5_inDanger 25 = .ok (.iconst (-1), 1) := by decide +kernel
theorem dX5_inDanger_26 : decode cX5_inDanger 26 = .ok (.if_icmp .eq 37, 3) := by decide +kernel
theorem dX5_inDanger_29 : decode cX5_inDanger 29 = .ok (.iload_n 1, 1) := by decide +kernel
theorem dX5_inDanger_30 : decode cX5_inDanger 30 = .ok (.iconst (-1), 1) := by decide +kernel
theorem dX5_inDanger_31 : decode cX5_inDanger 31 = .ok (.if_icmp .eq 28, 3) := by decide +kernel
theorem dX5_inDanger_34 : decode cX5_inDanger 34 = .ok (.aload_n 0, 1) := by decide +kernel
theorem dX5_inDanger_35 : decode cX5_inDanger 35 = .ok (.getfield 32, 3) := by decide +kernel
theorem dX5_inDanger_38 : decode cX5_inDanger 38 = .ok (.aload_n 0, 1) := by decide +kernel
theorem dX5_inDanger_39 : decode cX5_inDanger 39 = .ok (.getfield 41, 3) := by decide +kernel
theorem dX5_inDanger_42 : decode cX5_inDanger 42 = .ok (.iload_n 2, 1) := by decide +kernel
theorem dX5_inDanger_43 : decode cX5_inDanger 43 = .ok (.iaload, 1) := by decide +kernel
theorem dX5_inDanger_44 : decode cX5_inDanger 44 = .ok (.iaload, 1) := by decide +kernel
theorem dX5_inDanger_45 : decode cX5_inDanger 45 = .ok (.aload_n 0, 1) := by decide +kernel
theorem dX5_inDanger_46 : decode cX5_inDanger 46 = .ok (.getfield 32, 3) := by decide +kernel
theorem dX5_inDanger_49 : decode cX5_inDanger 49 = .ok (.aload_n 0, 1) := by decide +kernel
theorem dX5_inDanger_50 : decode cX5_inDanger 50 = .ok (.getfield 41, 3) := by decide +kernel
theorem dX5_inDanger_53 : decode cX5_inDanger 53 = .ok (.iload_n 1, 1) := by decide +kernel
theorem dX5_inDanger_54 : decode cX5_inDanger 54 = .ok (.iaload, 1) := by decide +kernel
theorem dX5_inDanger_55 : decode cX5_inDanger 55 = .ok (.iaload, 1) := by decide +kernel
theorem dX5_inDanger_56 : decode cX5_inDanger 56 = .ok (.if_icmp .le 7, 3) := by decide +kernel
theorem dX5_inDanger_59 : decode cX5_inDanger 59 = .ok (.iconst 1, 1) := by decide +kernel
theorem dX5_inDanger_60 : decode cX5_inDanger 60 = .ok (.goto 4, 3) := by decide +kernel
theorem dX5_inDanger_63 : decode cX5_inDanger 63 = .ok (.iconst 0, 1) := by decide +kernel
theorem dX5_inDanger_64 : decode cX5_inDanger 64 = .ok (.istore_n 3, 1) := by decide +kernel
theorem dX5_inDanger_65 : decode cX5_inDanger 65 = .ok (.iload_n 3, 1) := by decide +kernel
theorem dX5_inDanger_66 : decode cX5_inDanger 66 = .ok (.ifCond .eq 7, 3) := by decide +kernel
theorem dX5_inDanger_69 : decode cX5_inDanger 69 = .ok (.iload_n 2, 1) := by decide +kernel
theorem dX5_inDanger_70 : decode cX5_inDanger 70 = .ok (.goto 4, 3) := by decide +kernel
theorem dX5_inDanger_73 : decode cX5_inDanger 73 = .ok (.iload_n 1, 1) := by decide +kernel
theorem dX5_inDanger_74 : decode cX5_inDanger 74 = .ok (.istore_n 1, 1) := by decide +kernel
theorem dX5_inDanger_75 : decode cX5_inDanger 75 = .ok (.iinc 2 1, 3) := by decide +kernel
theorem dX5_inDanger_78 : decode cX5_inDanger 78 = .ok (.goto (-70), 3) := by decide +kernel
theorem dX5_inDanger_81 : decode cX5_inDanger 81 = .ok (.iload_n 1, 1) := by decide +kernel
theorem dX5_inDanger_82 : decode cX5_inDanger 82 = .ok (.ireturn, 1) := by decide +kernel
set_option maxRecDepth 20000 in
theorem ggX5_danger_X5_inDanger : GoodIn wsX5_danger wsX5_inDanger := goodIn_r _ [6, 7, 8, 9, 10, 11, 12, 5, 13, 14, 15, 16, 17, 18, 19, 20, 21, 22, 23, 24, 25, 26, 27, 28, 29, 30, 31, 32, 33, 34, 35, 36, 37, 38, 39, 40, 41, 42, 43, 44, 45, 46, 47, 48, 49, 50, 51, 52, 53, 54, 55, 56, 57, 58, 59, 60, 61, 62, 63, 64, 65, 66, 67, 68, 69, 70, 71, 72, 73, 74, 75, 76, 77, 78, 79, 80, 81, 82, 83, 84, 85, 86, 87, 88, 89, 90, 91, 92, 93, 94, 95, 96, 97] (by decide +kernel) (by decide +kernel)
set_option maxRecDepth 20000 in
theorem gX5_danger_X5_inDanger : GoodIn wsX5_danger (wsV RX5 235 RX5 yX5_inDanger wsX5_inDanger) := goodIn_app (goodIn_of _ (by decide +kernel)) ggX5_danger_X5_inDanger
theorem dX5_danger_0 : decode cX5_danger 0 = .ok (.aload_n 0, 1) := by decide +kernel
theorem dX5_danger_1 : decode cX5_danger 1 = .ok (.iconst 0, 1) := by decide +kernel
theorem dX5_danger_2 : decode cX5_danger 2 = .ok (.putfield 50, 3) := by decide +kernel
theorem dX5_danger_5 : decode cX5_danger 5 = .ok (.aload_n 0, 1) := by decide +kernel
theorem dX5_danger_6 : decode cX5_danger 6 = .ok (.invokevirtual 235, 3) := by decide +kernel
theorem dX5_danger_9 : decode cX5_danger 9 = .ok (.ireturn, 1) := by decide +kernel
set_option maxRecDepth 20000 in
theorem ggX5_centresThen_X5_putAside : GoodIn wsX5_centresThen wsX5_putAside := goodIn_r _ [5, 6, 7, 102, 103, 104, 105, 106, 107, 108, 109, 110, 111, 112, 113, 114, 115, 116, 117, 118, 119, 120, 121] (by decide +kernel) (by decide +kernel)
set_option maxRecDepth 20000 in
theorem gX5_centresThen_X5_putAside : GoodIn wsX5_centresThen (wsV RX5 226 RX5 yX5_putAside wsX5_putAside) := goodIn_app (goodIn_of _ (by decide +kernel)) ggX5_centresThen_X5_putAside
set_option maxRecDepth 20000 in
theorem ggX5_centresThen_X5_opens : GoodIn wsX5_centresThen wsX5_opens := goodIn_r _ [11, 7, 12, 13, 14, 15, 16, 17, 4, 18, 19, 20, 21, 22, 23, 24, 25, 26, 27, 28, 29, 30, 31, 32, 33, 34, 35, 36, 37, 38, 39, 40, 41, 42, 43, 44, 45, 46, 47, 48, 49, 50, 51, 52, 53, 54, 55, 56, 57, 58, 59, 60, 61, 62, 63, 64, 65, 66, 67, 68, 69, 70, 71, 72, 73, 74, 75, 76, 77, 78, 79, 80, 81, 82, 83, 84, 85, 86, 87, 88, 89, 102, 103, 104, 105, 106, 107, 108, 109, 110, 111, 112, 113, 114, 115, 116, 117, 118, 119, 120, 121] (by decide +kernel) (by decide +kernel)
set_option maxRecDepth 20000 in
theorem gX5_centresThen_X5_opens : GoodIn wsX5_centresThen (wsV RX5 163 RX5 yX5_opens wsX5_opens) := goodIn_app (goodIn_of _ (by decide +kernel)) ggX5_centresThen_X5_opens
set_option maxRecDepth 20000 in
theorem ggX5_centresThen_X5_belongs : GoodIn wsX5_centresThen wsX5_belongs := goodIn_r _ [93, 7, 51, 52, 53, 4, 54, 28, 29, 30, 31, 32, 33, 34, 102, 103, 104, 105, 106, 107, 108, 109, 110, 111, 112, 113, 114, 115, 116, 117, 118, 119, 120, 121] (by decide +kernel) (by decide +kernel)
set_option maxRecDepth 20000 in
theorem gX5_centresThen_X5_belongs : GoodIn wsX5_centresThen (wsV RX5 126 RX5 yX5_belongs wsX5_belongs) := goodIn_app (goodIn_of _ (by decide +kernel)) ggX5_centresThen_X5_belongs
set_option maxRecDepth 20000 in
theorem ggX5_centresThen_X5_centresOf : GoodIn wsX5_centresThen wsX5_centresOf := goodIn_r _ [97, 7, 102, 103, 104, 105, 106, 107, 108, 109, 110, 111, 112, 113, 114, 115, 116, 117, 118, 119, 120, 121] (by decide +kernel) (by decide +kernel)
set_option maxRecDepth 20000 in
theorem gX5_centresThen_X5_centresOf : GoodIn wsX5_centresThen (wsV RX5 132 RX5 yX5_centresOf wsX5_centresOf) := goodIn_app (goodIn_of _ (by decide +kernel)) ggX5_centresThen_X5_centresOf
set_option maxRecDepth 20000 in
theorem ggX5_centresThen_X5_putBack : GoodIn wsX5_centresThen wsX5_putBack := goodIn_r _ [101, 7, 6, 102, 103, 104, 105, 106, 107, 108, 109, 110, 111, 112, 113, 114, 115, 116, 117, 118, 119, 120, 121] (by decide +kernel) (by decide +kernel)
set_option maxRecDepth 20000 in
theorem gX5_centresThen_X5_putBack : GoodIn wsX5_centresThen (wsV RX5 229 RX5 yX5_putBack wsX5_putBack) := goodIn_app (goodIn_of _ (by decide +kernel)) ggX5_centresThen_X5_putBack
theorem dX5_centresThen_0 : decode cX5_centresThen 0 = .ok (.aload_n 0, 1) := by decide +kernel
theorem dX5_centresThen_1 : decode cX5_centresThen 1 = .ok (.invokevirtual 226, 3) := by decide +kernel
theorem dX5_centresThen_4 : decode cX5_centresThen 4 = .ok (.aload_n 0, 1) := by decide +kernel
theorem dX5_centresThen_5 : decode cX5_centresThen 5 = .ok (.invokevirtual 163, 3) := by decide +kernel
theorem dX5_centresThen_8 : decode cX5_centresThen 8 = .ok (.istore_n 2, 1) := by decide +kernel
theorem dX5_centresThen_9 : decode cX5_centresThen 9 = .ok (.aload_n 0, 1) := by decide +kernel
theorem dX5_centresThen_10 : decode cX5_centresThen 10 = .ok (.invokevirtual 126, 3) := by decide +kernel
theorem dX5_centresThen_13 : decode cX5_centresThen 13 = .ok (.aload_n 0, 1) := by decide +kernel
theorem dX5_centresThen_14 : decode cX5_centresThen 14 = .ok (.iload_n 1, 1) := by decide +kernel
theorem dX5_centresThen_15 : decode cX5_centresThen 15 = .ok (.invokevirtual 132, 3) := by decide +kernel
theorem dX5_centresThen_18 : decode cX5_centresThen 18 = .ok (.istore_n 3, 1) := by decide +kernel
theorem dX5_centresThen_19 : decode cX5_centresThen 19 = .ok (.aload_n 0, 1) := by decide +kernel
theorem dX5_centresThen_20 : decode cX5_centresThen 20 = .ok (.invokevirtual 229, 3) := by decide +kernel
theorem dX5_centresThen_23 : decode cX5_centresThen 23 = .ok (.iload_n 3, 1) := by decide +kernel
theorem dX5_centresThen_24 : decode cX5_centresThen 24 = .ok (.ireturn, 1) := by decide +kernel
set_option maxRecDepth 20000 in
theorem ggX5_ifYear_X5_isSeat : GoodIn wsX5_ifYear wsX5_isSeat := goodIn_r _ [4, 5, 6, 3, 7] (by decide +kernel) (by decide +kernel)
set_option maxRecDepth 20000 in
theorem gX5_ifYear_X5_isSeat : GoodIn wsX5_ifYear (va_wsS RX5 141 yX5_isSeat wsX5_isSeat) := goodIn_app (goodIn_of _ (by decide +kernel)) ggX5_ifYear_X5_isSeat
set_option maxRecDepth 20000 in
theorem ggX5_ifYear_X5_holds : GoodIn wsX5_ifYear wsX5_holds := goodIn_r _ [11, 12, 117, 118, 119, 120, 121, 122, 123, 124, 125, 126, 127, 128, 129, 130, 131, 132, 133, 134, 135, 136] (by decide +kernel) (by decide +kernel)
set_option maxRecDepth 20000 in
theorem gX5_ifYear_X5_holds : GoodIn wsX5_ifYear (wsV RX5 147 RX5 yX5_holds wsX5_holds) := goodIn_app (goodIn_of _ (by decide +kernel)) ggX5_ifYear_X5_holds
set_option maxRecDepth 20000 in
theorem ggX5_ifYear_X5_centresThen : GoodIn wsX5_ifYear wsX5_centresThen := goodIn_r _ [16, 17, 18, 19, 3, 20, 21, 22, 23, 24, 25, 26, 27, 28, 29, 30, 31, 32, 33, 34, 35, 36, 37, 38, 39, 40, 41, 42, 43, 44, 45, 46, 47, 48, 49, 50, 51, 52, 53, 54, 55, 56, 57, 58, 59, 60, 61, 62, 63, 64, 65, 66, 67, 68, 69, 70, 71, 72, 73, 74, 75, 76, 77, 78, 79, 80, 81, 82, 83, 84, 85, 86, 87, 88, 89, 90, 91, 92, 93, 94, 95, 96, 97, 98, 99, 100, 101, 102, 103, 104, 105, 106, 107, 108, 109, 110, 111, 112, 113, 114, 115, 116, 117, 118, 119, 120, 121, 122, 123, 124, 125, 126, 127, 128, 129, 130, 131, 132, 133, 134, 135, 136] (by decide +kernel) (by decide +kernel)
set_option maxRecDepth 20000 in
theorem gX5_ifYear_X5_centresThen : GoodIn wsX5_ifYear (wsV RX5 238 RX5 yX5_centresThen wsX5_centresThen) := goodIn_app (goodIn_of _ (by decide +kernel)) ggX5_ifYear_X5_centresThen
theorem dX5_ifYear_0 : decode cX5_ifYear 0 = .ok (.aload_n 0, 1) := by decide +kernel
theorem dX5_ifYear_1 : decode cX5_ifYear 1 = .ok (.iload_n 1, 1) := by decide +kernel
theorem dX5_ifYear_2 : decode cX5_ifYear 2 = .ok (.invokestatic 141, 3) := by decide +kernel
theorem dX5_ifYear_5 : decode cX5_ifYear 5 = .ok (.ifCond .eq 7, 3) := by decide +kernel
theorem dX5_ifYear_8 : decode cX5_ifYear 8 = .ok (.iconst 0, 1) := by decide +kernel
theorem dX5_ifYear_9 : decode cX5_ifYear 9 = .ok (.goto 4, 3) := by decide +kernel
theorem dX5_ifYear_12 : decode cX5_ifYear 12 = .ok (.iconst 1, 1) := by decide +kernel
theorem dX5_ifYear_13 : decode cX5_ifYear 13 = .ok (.invokevirtual 147, 3) := by decide +kernel
theorem dX5_ifYear_16 : decode cX5_ifYear 16 = .ok (.ifCond .eq 11, 3) := by decide +kernel
theorem dX5_ifYear_19 : decode cX5_ifYear 19 = .ok (.aload_n 0, 1) := by decide +kernel
theorem dX5_ifYear_20 : decode cX5_ifYear 20 = .ok (.iload_n 1, 1) := by decide +kernel
theorem dX5_ifYear_21 : decode cX5_ifYear 21 = .ok (.invokevirtual 238, 3) := by decide +kernel
theorem dX5_ifYear_24 : decode cX5_ifYear 24 = .ok (.goto 4, 3) := by decide +kernel
theorem dX5_ifYear_27 : decode cX5_ifYear 27 = .ok (.iconst 0, 1) := by decide +kernel
theorem dX5_ifYear_28 : decode cX5_ifYear 28 = .ok (.ireturn, 1) := by decide +kernel
theorem dX5_share_0 : decode cX5_share 0 = .ok (.aload_n 0, 1) := by decide +kernel
theorem dX5_share_1 : decode cX5_share 1 = .ok (.getfield 7, 3) := by decide +kernel
theorem dX5_share_4 : decode cX5_share 4 = .ok (.iconst 3, 1) := by decide +kernel
theorem dX5_share_5 : decode cX5_share 5 = .ok (.iaload, 1) := by decide +kernel
theorem dX5_share_6 : decode cX5_share 6 = .ok (.aload_n 0, 1) := by decide +kernel
theorem dX5_share_7 : decode cX5_share 7 = .ok (.getfield 7, 3) := by decide +kernel
theorem dX5_share_10 : decode cX5_share 10 = .ok (.iconst 4, 1) := by decide +kernel
theorem dX5_share_11 : decode cX5_share 11 = .ok (.iaload, 1) := by decide +kernel
theorem dX5_share_12 : decode cX5_share 12 = .ok (.iadd, 1) := by decide +kernel
theorem dX5_share_13 : decode cX5_share 13 = .ok (.istore_n 1, 1) := by decide +kernel
theorem dX5_share_14 : decode cX5_share 14 = .ok (.iload_n 1, 1) := by decide +kernel
theorem dX5_share_15 : decode cX5_share 15 = .ok (.ifCond .ne 7, 3) := by decide +kernel
theorem dX5_share_18 : decode cX5_share 18 = .ok (.dconst 1, 1) := by decide +kernel
theorem dX5_share_19 : decode cX5_share 19 = .ok (.goto 13, 3) := by decide +kernel
theorem dX5_share_22 : decode cX5_share 22 = .ok (.aload_n 0, 1) := by decide +kernel
theorem dX5_share_23 : decode cX5_share 23 = .ok (.getfield 7, 3) := by decide +kernel
theorem dX5_share_26 : decode cX5_share 26 = .ok (.iconst 3, 1) := by decide +kernel
theorem dX5_share_27 : decode cX5_share 27 = .ok (.iaload, 1) := by decide +kernel
theorem dX5_share_28 : decode cX5_share 28 = .ok (.i2d, 1) := by decide +kernel
theorem dX5_share_29 : decode cX5_share 29 = .ok (.iload_n 1, 1) := by decide +kernel
theorem dX5_share_30 : decode cX5_share 30 = .ok (.i2d, 1) := by decide +kernel
theorem dX5_share_31 : decode cX5_share 31 = .ok (.ddiv, 1) := by decide +kernel
theorem dX5_share_32 : decode cX5_share 32 = .ok (.dreturn, 1) := by decide +kernel
set_option maxRecDepth 20000 in
theorem ggX5_success_X5_share : GoodIn wsX5_success wsX5_share := goodIn_r _ [6, 7, 8, 9, 10, 11, 12, 13, 14, 15, 16, 17, 18, 19, 20, 21, 22, 23, 24, 25, 26, 27] (by decide +kernel) (by decide +kernel)
set_option maxRecDepth 20000 in
theorem gX5_success_X5_share : GoodIn wsX5_success (wsV RX5 241 RX5 yX5_share wsX5_share) := goodIn_app (goodIn_of _ (by decide +kernel)) ggX5_success_X5_share
theorem dX5_success_0 : decode cX5_success 0 = .ok (.aload_n 0, 1) := by decide +kernel
theorem dX5_success_1 : decode cX5_success 1 = .ok (.iconst 0, 1) := by decide +kernel
theorem dX5_success_2 : decode cX5_success 2 = .ok (.putfield 50, 3) := by decide +kernel
theorem dX5_success_5 : decode cX5_success 5 = .ok (.aload_n 0, 1) := by decide +kernel
theorem dX5_success_6 : decode cX5_success 6 = .ok (.invokevirtual 241, 3) := by decide +kernel
theorem dX5_success_9 : decode cX5_success 9 = .ok (.dreturn, 1) := by decide +kernel
theorem dX5_bitsOf_0 : decode cX5_bitsOf 0 = .ok (.dload_n 0, 1) := by decide +kernel
theorem dX5_bitsOf_1 : decode cX5_bitsOf 1 = .ok (.dconst 0, 1) := by decide +kernel
theorem dX5_bitsOf_2 : decode cX5_bitsOf 2 = .ok (.dcmp .l, 1) := by decide +kernel
theorem dX5_bitsOf_3 : decode cX5_bitsOf 3 = .ok (.ifCond .ne 5, 3) := by decide +kernel
theorem dX5_bitsOf_6 : decode cX5_bitsOf 6 = .ok (.lconst 0, 1) := by decide +kernel
theorem dX5_bitsOf_7 : decode cX5_bitsOf 7 = .ok (.lreturn, 1) := by decide +kernel
theorem dX5_bitsOf_8 : decode cX5_bitsOf 8 = .ok (.ldc2_w 245, 3) := by decide +kernel
theorem dX5_bitsOf_11 : decode cX5_bitsOf 11 = .ok (.lstore_n 2, 1) := by decide +kernel
theorem dX5_bitsOf_12 : decode cX5_bitsOf 12 = .ok (.dload_n 0, 1) := by decide +kernel
theorem dX5_bitsOf_13 : decode cX5_bitsOf 13 = .ok (.dstore 4, 2) := by decide +kernel
theorem dX5_bitsOf_15 : decode cX5_bitsOf 15 = .ok (.dload 4, 2) := by decide +kernel
theorem dX5_bitsOf_17 : decode cX5_bitsOf 17 = .ok (.dconst 1, 1) := by decide +kernel
theorem dX5_bitsOf_18 : decode cX5_bitsOf 18 = .ok (.dcmp .g, 1) := by decide +kernel
theorem dX5_bitsOf_19 : decode cX5_bitsOf 19 = .ok (.ifCond .ge 18, 3) := by decide +kernel
theorem dX5_bitsOf_22 : decode cX5_bitsOf 22 = .ok (.dload 4, 2) := by decide +kernel
theorem dX5_bitsOf_24 : decode cX5_bitsOf 24 = .ok (.ldc2_w 247, 3) := by decide +kernel
theorem dX5_bitsOf_27 : decode cX5_bitsOf 27 = .ok (.dmul, 1) := by decide +kernel
theorem dX5_bitsOf_28 : decode cX5_bitsOf 28 = .ok (.dstore 4, 2) := by decide +kernel
theorem dX5_bitsOf_30 : decode cX5_bitsOf 30 = .ok (.lload_n 2, 1) := by decide +kernel
theorem dX5_bitsOf_31 : decode cX5_bitsOf 31 = .ok (.lconst 1, 1) := by decide +kernel
theorem dX5_bitsOf_32 : decode cX5_bitsOf 32 = .ok (.lsub, 1) := by decide +kernel
theorem dX5_bitsOf_33 : decode cX5_bitsOf 33 = .ok (.lstore_n 2, 1) := by decide +kernel
theorem dX5_bitsOf_34 : decode cX5_bitsOf 34 = .ok (.goto (-19), 3) := by decide +kernel
theorem dX5_bitsOf_37 : decode cX5_bitsOf 37 = .ok (.lload_n 2, 1) := by decide +kernel
theorem dX5_bitsOf_38 : decode cX5_bitsOf 38 = .ok (.ldc2_w 249, 3) := by decide +kernel
theorem dX5_bitsOf_41 : decode cX5_bitsOf 41 = .ok (.lmul, 1) := by decide +kernel
theorem dX5_bitsOf_42 : decode cX5_bitsOf 42 = .ok (.dload 4, 2) := by decide +kernel
theorem dX5_bitsOf_44 : decode cX5_bitsOf 44 = .ok (.dconst 1, 1) := by decide +kernel
theorem dX5_bitsOf_45 : decode cX5_bitsOf 45 = .ok (.dsub, 1) := by decide +kernel
theorem dX5_bitsOf_46 : decode cX5_bitsOf 46 = .ok (.ldc2_w 251, 3) := by decide +kernel
theorem dX5_bitsOf_49 : decode cX5_bitsOf 49 = .ok (.dmul, 1) := by decide +kernel
theorem dX5_bitsOf_50 : decode cX5_bitsOf 50 = .ok (.d2l, 1) := by decide +kernel
theorem dX5_bitsOf_51 : decode cX5_bitsOf 51 = .ok (.ladd, 1) := by decide +kernel
theorem dX5_bitsOf_52 : decode cX5_bitsOf 52 = .ok (.lreturn, 1) := by decide +kernel
theorem dX5_digestOne_0 : decode cX5_digestOne 0 = .ok (.aload_n 0, 1) := by decide +kernel
theorem dX5_digestOne_1 : decode cX5_digestOne 1 = .ok (.ldc2_w 253, 3) := by decide +kernel
theorem dX5_digestOne_4 : decode cX5_digestOne 4 = .ok (.aload_n 0, 1) := by decide +kernel
theorem dX5_digestOne_5 : decode cX5_digestOne 5 = .ok (.getfield 255, 3) := by decide +kernel
theorem dX5_digestOne_8 : decode cX5_digestOne 8 = .ok (.lmul, 1) := by decide +kernel
theorem dX5_digestOne_9 : decode cX5_digestOne 9 = .ok (.lload_n 1, 1) := by decide +kernel
theorem dX5_digestOne_10 : decode cX5_digestOne 10 = .ok (.ladd, 1) := by decide +kernel
theorem dX5_digestOne_11 : decode cX5_digestOne 11 = .ok (.putfield 255, 3) := by decide +kernel
theorem dX5_digestOne_14 : decode cX5_digestOne 14 = .ok (.return_, 1) := by decide +kernel
set_option maxRecDepth 20000 in
theorem ggX5_digestArmies_X5_of : GoodIn wsX5_digestArmies wsX5_of := goodIn_r _ [6, 1, 7, 8, 5, 9, 100, 101, 102, 103, 104, 105, 106, 107, 108, 109, 110, 111, 112, 113, 114, 115, 116, 117, 118, 119] (by decide +kernel) (by decide +kernel)
set_option maxRecDepth 20000 in
theorem gX5_digestArmies_X5_of : GoodIn wsX5_digestArmies (wsV RX5 65 RX5 yX5_of wsX5_of) := goodIn_app (goodIn_of _ (by decide +kernel)) ggX5_digestArmies_X5_of
set_option maxRecDepth 20000 in
theorem ggX5_digestArmies_X5_digestOne : GoodIn wsX5_digestArmies wsX5_digestOne := goodIn_r _ [13, 14, 15, 100, 101, 102, 103, 104, 105, 106, 107, 108, 109, 110, 111, 112, 113, 114, 115, 116, 117, 118, 119] (by decide +kernel) (by decide +kernel)
set_option maxRecDepth 20000 in
theorem gX5_digestArmies_X5_digestOne : GoodIn wsX5_digestArmies (wsV RX5 259 RX5 yX5_digestOne wsX5_digestOne) := goodIn_app (goodIn_of _ (by decide +kernel)) ggX5_digestArmies_X5_digestOne
set_option maxRecDepth 20000 in
theorem ggX5_digestArmies_X5_opened : GoodIn wsX5_digestArmies wsX5_opened := goodIn_r _ [19, 20, 21, 22, 23, 24, 25, 26, 27, 28, 5, 29, 1, 30, 31, 32, 33, 34, 35, 2, 3, 4, 6, 7, 8, 9, 36, 37, 38, 39, 40, 41, 42, 43, 44, 45, 46, 47, 48, 49, 50, 51, 52, 53, 54, 55, 56, 57, 58, 59, 60, 61, 62, 63, 64, 65, 66, 67, 68, 69, 70, 71, 72, 73, 74, 75, 76, 77, 78, 79, 80, 81, 82, 100, 101, 102, 103, 104, 105, 106, 107, 108, 109, 110, 111, 112, 113, 114, 115, 116, 117, 118, 119] (by decide +kernel) (by decide +kernel)
set_option maxRecDepth 20000 in
theorem gX5_digestArmies_X5_opened : GoodIn wsX5_digestArmies (wsV RX5 223 RX5 yX5_opened wsX5_opened) := goodIn_app (goodIn_of _ (by decide +kernel)) ggX5_digestArmies_X5_opened
set_option maxRecDepth 20000 in
theorem ggX5_digestArmies_X5_reach : GoodIn wsX5_digestArmies wsX5_reach := goodIn_r _ [86, 35, 87, 88, 89, 5, 90, 91, 1, 2, 3, 4, 6, 7, 8, 9, 76, 77, 78, 92, 93, 94, 95, 26, 27, 28, 29, 20, 23, 30, 31, 32, 33, 34, 25, 24, 21, 22, 36, 37, 38, 39, 40, 41, 42, 43, 44, 45, 46, 47, 48, 49, 50, 51, 52, 53, 54, 55, 56, 57, 58, 59, 60, 61, 62, 63, 64, 65, 66, 67, 68, 69, 70, 71, 72, 73, 74, 75, 79, 80, 81, 82, 96, 97, 98, 99, 100, 101, 102, 103, 104, 105, 106, 107, 108, 109, 110, 111, 112, 113, 114, 115, 116, 117, 118, 119] (by decide +kernel) (by decide +kernel)
set_option maxRecDepth 20000 in
theorem gX5_digestArmies_X5_reach : GoodIn wsX5_digestArmies (wsV RX5 232 RX5 yX5_reach wsX5_reach) := goodIn_app (goodIn_of _ (by decide +kernel)) ggX5_digestArmies_X5_reach
theorem dX5_digestArmies_0 : decode cX5_digestArmies 0 = .ok (.iconst 0, 1) := by decide +kernel
theorem dX5_digestArmies_1 : decode cX5_digestArmies 1 = .ok (.istore_n 1, 1) := by decide +kernel
theorem dX5_digestArmies_2 : decode cX5_digestArmies 2 = .ok (.iload_n 1, 1) := by decide +kernel
theorem dX5_digestArmies_3 : decode cX5_digestArmies 3 = .ok (.aload_n 0, 1) := by decide +kernel
theorem dX5_digestArmies_4 : decode cX5_digestArmies 4 = .ok (.getfield 7, 3) := by decide +kernel
theorem dX5_digestArmies_7 : decode cX5_digestArmies 7 = .ok (.bipush 9, 2) := by decide +kernel
theorem dX5_digestArmies_9 : decode cX5_digestArmies 9 = .ok (.iaload, 1) := by decide +kernel
theorem dX5_digestArmies_10 : decode cX5_digestArmies 10 = .ok (.if_icmp .ge 69, 3) := by decide +kernel
theorem dX5_digestArmies_13 : decode cX5_digestArmies 13 = .ok (.iconst 0, 1) := by decide +kernel
theorem dX5_digestArmies_14 : decode cX5_digestArmies 14 = .ok (.istore_n 2, 1) := by decide +kernel
theorem dX5_digestArmies_15 : decode cX5_digestArmies 15 = .ok (.iload_n 2, 1) := by decide +kernel
theorem dX5_digestArmies_16 : decode cX5_digestArmies 16 = .ok (.bipush 7, 2) := by decide +kernel
theorem dX5_digestArmies_18 : decode cX5_digestArmies 18 = .ok (.if_icmp .ge 20, 3) := by decide +kernel
theorem dX5_digestArmies_21 : decode cX5_digestArmies 21 = .ok (.aload_n 0, 1) := by decide +kernel
theorem dX5_digestArmies_22 : decode cX5_digestArmies 22 = .ok (.aload_n 0, 1) := by decide +kernel
theorem dX5_digestArmies_23 : decode cX5_digestArmies 23 = .ok (.iload_n 1, 1) := by decide +kernel
theorem dX5_digestArmies_24 : decode cX5_digestArmies 24 = .ok (.iload_n 2, 1) := by decide +kernel
theorem dX5_digestArmies_25 : decode cX5_digestArmies 25 = .ok (.invokevirtual 65, 3) := by decide +kernel
theorem dX5_digestArmies_28 : decode cX5_digestArmies 28 = .ok (.i2l, 1) := by decide +kernel
theorem dX5_digestArmies_29 : decode cX5_digestArmies 29 = .ok (.invokevirtual 259, 3) := by decide +kernel
theorem dX5_digestArmies_32 : decode cX5_digestArmies 32 = .ok (.iinc 2 1, 3) := by decide +kernel
theorem dX5_digestArmies_35 : decode cX5_digestArmies 35 = .ok (.goto (-20), 3) := by decide +kernel
theorem dX5_digestArmies_38 : decode cX5_digestArmies 38 = .ok (.iconst 0, 1) := by decide +kernel
theorem dX5_digestArmies_39 : decode cX5_digestArmies 39 = .ok (.istore_n 2, 1) := by decide +kernel
theorem dX5_digestArmies_40 : decode cX5_digestArmies 40 = .ok (.iload_n 2, 1) := by decide +kernel
theorem dX5_digestArmies_41 : decode cX5_digestArmies 41 = .ok (.bipush 6, 2) := by decide +kernel
theorem dX5_digestArmies_43 : decode cX5_digestArmies 43 = .ok (.if_icmp .ge 20, 3) := by decide +kernel
theorem dX5_digestArmies_46 : decode cX5_digestArmies 46 = .ok (.aload_n 0, 1) := by decide +kernel
theorem dX5_digestArmies_47 : decode cX5_digestArmies 47 = .ok (.aload_n 0, 1) := by decide +kernel
theorem dX5_digestArmies_48 : decode cX5_digestArmies 48 = .ok (.iload_n 1, 1) := by decide +kernel
theorem dX5_digestArmies_49 : decode cX5_digestArmies 49 = .ok (.iload_n 2, 1) := by decide +kernel
theorem dX5_digestArmies_50 : decode cX5_digestArmies 50 = .ok (.invokevirtual 223, 3) := by decide +kernel
theorem dX5_digestArmies_53 : decode cX5_digestArmies 53 = .ok (.i2l, 1) := by decide +kernel
theorem dX5_digestArmies_54 : decode cX5_digestArmies 54 = .ok (.invokevirtual 259, 3) := by decide +kernel
theorem dX5_digestArmies_57 : decode cX5_digestArmies 57 = .ok (.iinc 2 1, 3) := by decide +kernel
theorem dX5_digestArmies_60 : decode cX5_digestArmies 60 = .ok (.goto (-20), 3) := by decide +kernel
theorem dX5_digestArmies_63 : decode cX5_digestArmies 63 = .ok (.aload_n 0, 1) := by decide +kernel
theorem dX5_digestArmies_64 : decode cX5_digestArmies 64 = .ok (.aload_n 0, 1) := by decide +kernel
theorem dX5_digestArmies_65 : decode cX5_digestArmies 65 = .ok (.iload_n 1, 1) := by decide +kernel
theorem dX5_digestArmies_66 : decode cX5_digestArmies 66 = .ok (.invokevirtual 232, 3) := by decide +kernel
theorem dX5_digestArmies_69 : decode cX5_digestArmies 69 = .ok (.i2l, 1) := by decide +kernel
theorem dX5_digestArmies_70 : decode cX5_digestArmies 70 = .ok (.invokevirtual 259, 3) := by decide +kernel
theorem dX5_digestArmies_73 : decode cX5_digestArmies 73 = .ok (.iinc 1 1, 3) := by decide +kernel
theorem dX5_digestArmies_76 : decode cX5_digestArmies 76 = .ok (.goto (-74), 3) := by decide +kernel
theorem dX5_digestArmies_79 : decode cX5_digestArmies 79 = .ok (.return_, 1) := by decide +kernel
set_option maxRecDepth 20000 in
theorem ggX5_digest_X5_counted : GoodIn wsX5_digest wsX5_counted := goodIn_r _ [10, 11, 12, 13, 14, 15, 9, 16, 17, 18, 19, 20, 21, 22, 23, 179, 180, 181, 182, 183, 184, 185, 186, 187, 188, 189, 190, 191, 192, 193, 194, 195, 196, 197, 198] (by decide +kernel) (by decide +kernel)
set_option maxRecDepth 20000 in
theorem gX5_digest_X5_counted : GoodIn wsX5_digest (wsV RX5 220 RX5 yX5_counted wsX5_counted) := goodIn_app (goodIn_of _ (by decide +kernel)) ggX5_digest_X5_counted
set_option maxRecDepth 20000 in
theorem ggX5_digest_X5_digestOne : GoodIn wsX5_digest wsX5_digestOne := goodIn_r _ [27, 28, 3, 179, 180, 181, 182, 183, 184, 185, 186, 187, 188, 189, 190, 191, 192, 193, 194, 195, 196, 197, 198] (by decide +kernel) (by decide +kernel)
set_option maxRecDepth 20000 in
theorem gX5_digest_X5_digestOne : GoodIn wsX5_digest (wsV RX5 259 RX5 yX5_digestOne wsX5_digestOne) := goodIn_app (goodIn_of _ (by decide +kernel)) ggX5_digest_X5_digestOne
set_option maxRecDepth 20000 in
theorem ggX5_digest_X5_digestArmies : GoodIn wsX5_digest wsX5_digestArmies := goodIn_r _ [32, 11, 17, 18, 19, 9, 20, 21, 22, 23, 24, 25, 26, 27, 28, 3, 33, 34, 35, 36, 37, 38, 39, 40, 41, 42, 43, 44, 45, 46, 47, 48, 49, 50, 51, 52, 53, 54, 55, 56, 57, 58, 59, 60, 61, 62, 63, 64, 65, 66, 67, 68, 69, 70, 71, 72, 73, 74, 75, 76, 77, 78, 79, 80, 81, 82, 83, 84, 85, 86, 87, 88, 89, 90, 91, 92, 93, 94, 95, 96, 97, 98, 99, 100, 101, 102, 103, 104, 105, 106, 107, 108, 109, 110, 111, 112, 113, 114, 115, 116, 179, 180, 181, 182, 183, 184, 185, 186, 187, 188, 189, 190, 191, 192, 193, 194, 195, 196, 197, 198] (by decide +kernel) (by decide +kernel)
set_option maxRecDepth 20000 in
theorem gX5_digest_X5_digestArmies : GoodIn wsX5_digest (wsV RX5 265 RX5 yX5_digestArmies wsX5_digestArmies) := goodIn_app (goodIn_of _ (by decide +kernel)) ggX5_digest_X5_digestArmies
set_option maxRecDepth 20000 in
theorem ggX5_digest_X5_toldOfField : GoodIn wsX5_digest wsX5_toldOfField := goodIn_r _ [120, 11, 69, 70, 71, 9, 72, 17, 18, 19, 20, 21, 22, 23, 121, 122, 123, 124, 125, 126, 127, 93, 94, 95, 179, 180, 181, 182, 183, 184, 185, 186, 187, 188, 189, 190, 191, 192, 193, 194, 195, 196, 197, 198] (by decide +kernel) (by decide +kernel)
set_option maxRecDepth 20000 in
theorem gX5_digest_X5_toldOfField : GoodIn wsX5_digest (wsV RX5 205 RX5 yX5_toldOfField wsX5_toldOfField) := goodIn_app (goodIn_of _ (by decide +kernel)) ggX5_digest_X5_toldOfField
set_option maxRecDepth 20000 in
theorem ggX5_digest_X5_toldOfSeat : GoodIn wsX5_digest wsX5_toldOfSeat := goodIn_r _ [131, 132, 133, 134, 9, 135, 11, 17, 18, 19, 20, 21, 22, 23, 136, 137, 138, 139, 121, 122, 123, 124, 125, 126, 127, 93, 94, 95, 140, 141, 142, 143, 144, 145, 146, 147, 179, 180, 181, 182, 183, 184, 185, 186, 187, 188, 189, 190, 191, 192, 193, 194, 195, 196, 197, 198] (by decide +kernel) (by decide +kernel)
set_option maxRecDepth 20000 in
theorem gX5_digest_X5_toldOfSeat : GoodIn wsX5_digest (wsV RX5 214 RX5 yX5_toldOfSeat wsX5_toldOfSeat) := goodIn_app (goodIn_of _ (by decide +kernel)) ggX5_digest_X5_toldOfSeat
set_option maxRecDepth 20000 in
theorem ggX5_digest_X5_centresThen : GoodIn wsX5_digest wsX5_centresThen := goodIn_r _ [151, 104, 105, 106, 9, 107, 108, 11, 152, 153, 154, 155, 52, 40, 37, 43, 44, 45, 46, 47, 48, 49, 50, 51, 42, 41, 38, 39, 17, 18, 19, 20, 21, 22, 23, 53, 54, 55, 56, 57, 58, 59, 60, 61, 62, 63, 64, 65, 66, 67, 68, 69, 70, 71, 72, 73, 74, 75, 76, 77, 78, 79, 80, 81, 82, 83, 84, 85, 86, 87, 88, 89, 90, 91, 92, 93, 94, 95, 96, 97, 98, 99, 109, 110, 111, 112, 156, 157, 158, 159, 160, 161, 162, 163, 136, 137, 138, 139, 113, 114, 115, 116, 179, 180, 181, 182, 183, 184, 185, 186, 187, 188, 189, 190, 191, 192, 193, 194, 195, 196, 197, 198] (by decide +kernel) (by decide +kernel)
set_option maxRecDepth 20000 in
theorem gX5_digest_X5_centresThen : GoodIn wsX5_digest (wsV RX5 238 RX5 yX5_centresThen wsX5_centresThen) := goodIn_app (goodIn_of _ (by decide +kernel)) ggX5_digest_X5_centresThen
set_option maxRecDepth 20000 in
theorem ggX5_digest_X5_inDanger : GoodIn wsX5_digest wsX5_inDanger := goodIn_r _ [167, 11, 40, 38, 43, 44, 45, 9, 46, 37, 47, 48, 49, 50, 51, 42, 41, 52, 39, 17, 18, 19, 20, 21, 22, 23, 53, 54, 55, 56, 57, 58, 59, 60, 61, 62, 63, 64, 65, 66, 67, 68, 69, 70, 71, 72, 73, 74, 75, 76, 77, 78, 79, 80, 81, 82, 83, 84, 85, 86, 87, 88, 89, 90, 91, 92, 93, 94, 95, 96, 97, 98, 99, 179, 180, 181, 182, 183, 184, 185, 186, 187, 188, 189, 190, 191, 192, 193, 194, 195, 196, 197, 198] (by decide +kernel) (by decide +kernel)
set_option maxRecDepth 20000 in
theorem gX5_digest_X5_inDanger : GoodIn wsX5_digest (wsV RX5 235 RX5 yX5_inDanger wsX5_inDanger) := goodIn_app (goodIn_of _ (by decide +kernel)) ggX5_digest_X5_inDanger
set_option maxRecDepth 20000 in
theorem ggX5_digest_X5_share : GoodIn wsX5_digest wsX5_share := goodIn_r _ [171, 11, 179, 180, 181, 182, 183, 184, 185, 186, 187, 188, 189, 190, 191, 192, 193, 194, 195, 196, 197, 198] (by decide +kernel) (by decide +kernel)
set_option maxRecDepth 20000 in
theorem gX5_digest_X5_share : GoodIn wsX5_digest (wsV RX5 241 RX5 yX5_share wsX5_share) := goodIn_app (goodIn_of _ (by decide +kernel)) ggX5_digest_X5_share
set_option maxRecDepth 20000 in
theorem ggX5_digest_X5_bitsOf : GoodIn wsX5_digest wsX5_bitsOf := goodIn_r _ [174, 175, 176, 177, 178] (by decide +kernel) (by decide +kernel)
set_option maxRecDepth 20000 in
theorem gX5_digest_X5_bitsOf : GoodIn wsX5_digest (va_wsS RX5 268 yX5_bitsOf wsX5_bitsOf) := goodIn_app (goodIn_of _ (by decide +kernel)) ggX5_digest_X5_bitsOf
theorem dX5_digest_0 : decode cX5_digest 0 = .ok (.aload_n 0, 1) := by decide +kernel
theorem dX5_digest_1 : decode cX5_digest 1 = .ok (.iconst 0, 1) := by decide +kernel
theorem dX5_digest_2 : decode cX5_digest 2 = .ok (.putfield 50, 3) := by decide +kernel
theorem dX5_digest_5 : decode cX5_digest 5 = .ok (.aload_n 0, 1) := by decide +kernel
theorem dX5_digest_6 : decode cX5_digest 6 = .ok (.ldc2_w 263, 3) := by decide +kernel
theorem dX5_digest_9 : decode cX5_digest 9 = .ok (.putfield 255, 3) := by decide +kernel
theorem dX5_digest_12 : decode cX5_digest 12 = .ok (.iconst 0, 1) := by decide +kernel
theorem dX5_digest_13 : decode cX5_digest 13 = .ok (.istore_n 1, 1) := by decide +kernel
theorem dX5_digest_14 : decode cX5_digest 14 = .ok (.iload_n 1, 1) := by decide +kernel
theorem dX5_digest_15 : decode cX5_digest 15 = .ok (.bipush 13, 2) := by decide +kernel
theorem dX5_digest_17 : decode cX5_digest 17 = .ok (.if_icmp .ge 19, 3) := by decide +kernel
theorem dX5_digest_20 : decode cX5_digest 20 = .ok (.aload_n 0, 1) := by decide +kernel
theorem dX5_digest_21 : decode cX5_digest 21 = .ok (.aload_n 0, 1) := by decide +kernel
theorem dX5_digest_22 : decode cX5_digest 22 = .ok (.iload_n 1, 1) := by decide +kernel
theorem dX5_digest_23 : decode cX5_digest 23 = .ok (.invokevirtual 220, 3) := by decide +kernel
theorem dX5_digest_26 : decode cX5_digest 26 = .ok (.i2l, 1) := by decide +kernel
theorem dX5_digest_27 : decode cX5_digest 27 = .ok (.invokevirtual 259, 3) := by decide +kernel
theorem dX5_digest_30 : decode cX5_digest 30 = .ok (.iinc 1 1, 3) := by decide +kernel
theorem dX5_digest_33 : decode cX5_digest 33 = .ok (.goto (-19), 3) := by decide +kernel
theorem dX5_digest_36 : decode cX5_digest 36 = .ok (.aload_n 0, 1) := by decide +kernel
theorem dX5_digest_37 : decode cX5_digest 37 = .ok (.invokevirtual 265, 3) := by decide +kernel
theorem dX5_digest_40 : decode cX5_digest 40 = .ok (.iconst 0, 1) := by decide +kernel
theorem dX5_digest_41 : decode cX5_digest 41 = .ok (.istore_n 1, 1) := by decide +kernel
theorem dX5_digest_42 : decode cX5_digest 42 = .ok (.iload_n 1, 1) := by decide +kernel
theorem dX5_digest_43 : decode cX5_digest 43 = .ok (.bipush 60, 2) := by decide +kernel
theorem dX5_digest_45 : decode cX5_digest 45 = .ok (.if_icmp .ge 24, 3) := by decide +kernel
theorem dX5_digest_48 : decode cX5_digest 48 = .ok (.aload_n 0, 1) := by decide +kernel
theorem dX5_digest_49 : decode cX5_digest 49 = .ok (.aload_n 0, 1) := by decide +kernel
theorem dX5_digest_50 : decode cX5_digest 50 = .ok (.iload_n 1, 1) := by decide +kernel
theorem dX5_digest_51 : decode cX5_digest 51 = .ok (.iconst 5, 1) := by decide +kernel
theorem dX5_digest_52 : decode cX5_digest 52 = .ok (.idiv, 1) := by decide +kernel
theorem dX5_digest_53 : decode cX5_digest 53 = .ok (.iload_n 1, 1) := by decide +kernel
theorem dX5_digest_54 : decode cX5_digest 54 = .ok (.iconst 5, 1) := by decide +kernel
theorem dX5_digest_55 : decode cX5_digest 55 = .ok (.irem, 1) := by decide +kernel
theorem dX5_digest_56 : decode cX5_digest 56 = .ok (.invokevirtual 205, 3) := by decide +kernel
theorem dX5_digest_59 : decode cX5_digest 59 = .ok (.i2l, 1) := by decide +kernel
theorem dX5_digest_60 : decode cX5_digest 60 = .ok (.invokevirtual 259, 3) := by decide +kernel
theorem dX5_digest_63 : decode cX5_digest 63 = .ok (.iinc 1 1, 3) := by decide +kernel
theorem dX5_digest_66 : decode cX5_digest 66 = .ok (.goto (-24), 3) := by decide +kernel
theorem dX5_digest_69 : decode cX5_digest 69 = .ok (.iconst 0, 1) := by decide +kernel
theorem dX5_digest_70 : decode cX5_digest 70 = .ok (.istore_n 1, 1) := by decide +kernel
theorem dX5_digest_71 : decode cX5_digest 71 = .ok (.iload_n 1, 1) := by decide +kernel
theorem dX5_digest_72 : decode cX5_digest 72 = .ok (.iconst 3, 1) := by decide +kernel
theorem dX5_digest_73 : decode cX5_digest 73 = .ok (.if_icmp .ge 43, 3) := by decide +kernel
theorem dX5_digest_76 : decode cX5_digest 76 = .ok (.iconst 0, 1) := by decide +kernel
theorem dX5_digest_77 : decode cX5_digest 77 = .ok (.istore_n 2, 1) := by decide +kernel
theorem dX5_digest_78 : decode cX5_digest 78 = .ok (.iload_n 2, 1) := by decide +kernel
theorem dX5_digest_79 : decode cX5_digest 79 = .ok (.iconst 5, 1) := by decide +kernel
theorem dX5_digest_80 : decode cX5_digest 80 = .ok (.if_icmp .ge 20, 3) := by decide +kernel
theorem dX5_digest_83 : decode cX5_digest 83 = .ok (.aload_n 0, 1) := by decide +kernel
theorem dX5_digest_84 : decode cX5_digest 84 = .ok (.aload_n 0, 1) := by decide +kernel
theorem dX5_digest_85 : decode cX5_digest 85 = .ok (.iload_n 1, 1) := by decide +kernel
theorem dX5_digest_86 : decode cX5_digest 86 = .ok (.iload_n 2, 1) := by decide +kernel
theorem dX5_digest_87 : decode cX5_digest 87 = .ok (.invokevirtual 214, 3) := by decide +kernel
theorem dX5_digest_90 : decode cX5_digest 90 = .ok (.i2l, 1) := by decide +kernel
theorem dX5_digest_91 : decode cX5_digest 91 = .ok (.invokevirtual 259, 3) := by decide +kernel
theorem dX5_digest_94 : decode cX5_digest 94 = .ok (.iinc 2 1, 3) := by decide +kernel
theorem dX5_digest_97 : decode cX5_digest 97 = .ok (.goto (-19), 3) := by decide +kernel
theorem dX5_digest_100 : decode cX5_digest 100 = .ok (.aload_n 0, 1) := by decide +kernel
theorem dX5_digest_101 : decode cX5_digest 101 = .ok (.aload_n 0, 1) := by decide +kernel
theorem dX5_digest_102 : decode cX5_digest 102 = .ok (.iload_n 1, 1) := by decide +kernel
theorem dX5_digest_103 : decode cX5_digest 103 = .ok (.invokevirtual 238, 3) := by decide +kernel
theorem dX5_digest_106 : decode cX5_digest 106 = .ok (.i2l, 1) := by decide +kernel
theorem dX5_digest_107 : decode cX5_digest 107 = .ok (.invokevirtual 259, 3) := by decide +kernel
theorem dX5_digest_110 : decode cX5_digest 110 = .ok (.iinc 1 1, 3) := by decide +kernel
theorem dX5_digest_113 : decode cX5_digest 113 = .ok (.goto (-42), 3) := by decide +kernel
theorem dX5_digest_116 : decode cX5_digest 116 = .ok (.aload_n 0, 1) := by decide +kernel
theorem dX5_digest_117 : decode cX5_digest 117 = .ok (.aload_n 0, 1) := by decide +kernel
theorem dX5_digest_118 : decode cX5_digest 118 = .ok (.invokevirtual 235, 3) := by decide +kernel
theorem dX5_digest_121 : decode cX5_digest 121 = .ok (.i2l, 1) := by decide +kernel
theorem dX5_digest_122 : decode cX5_digest 122 = .ok (.invokevirtual 259, 3) := by decide +kernel
theorem dX5_digest_125 : decode cX5_digest 125 = .ok (.aload_n 0, 1) := by decide +kernel
theorem dX5_digest_126 : decode cX5_digest 126 = .ok (.aload_n 0, 1) := by decide +kernel
theorem dX5_digest_127 : decode cX5_digest 127 = .ok (.invokevirtual 241, 3) := by decide +kernel
theorem dX5_digest_130 : decode cX5_digest 130 = .ok (.invokestatic 268, 3) := by decide +kernel
theorem dX5_digest_133 : decode cX5_digest 133 = .ok (.invokevirtual 259, 3) := by decide +kernel
theorem dX5_digest_136 : decode cX5_digest 136 = .ok (.aload_n 0, 1) := by decide +kernel
theorem dX5_digest_137 : decode cX5_digest 137 = .ok (.aload_n 0, 1) := by decide +kernel
theorem dX5_digest_138 : decode cX5_digest 138 = .ok (.getfield 169, 3) := by decide +kernel
theorem dX5_digest_141 : decode cX5_digest 141 = .ok (.i2l, 1) := by decide +kernel
theorem dX5_digest_142 : decode cX5_digest 142 = .ok (.invokevirtual 259, 3) := by decide +kernel
theorem dX5_digest_145 : decode cX5_digest 145 = .ok (.iconst 0, 1) := by decide +kernel
theorem dX5_digest_146 : decode cX5_digest 146 = .ok (.istore_n 1, 1) := by decide +kernel
theorem dX5_digest_147 : decode cX5_digest 147 = .ok (.iload_n 1, 1) := by decide +kernel
theorem dX5_digest_148 : decode cX5_digest 148 = .ok (.aload_n 0, 1) := by decide +kernel
theorem dX5_digest_149 : decode cX5_digest 149 = .ok (.getfield 169, 3) := by decide +kernel
theorem dX5_digest_152 : decode cX5_digest 152 = .ok (.if_icmp .ge 20, 3) := by decide +kernel
theorem dX5_digest_155 : decode cX5_digest 155 = .ok (.aload_n 0, 1) := by decide +kernel
theorem dX5_digest_156 : decode cX5_digest 156 = .ok (.aload_n 0, 1) := by decide +kernel
theorem dX5_digest_157 : decode cX5_digest 157 = .ok (.getfield 22, 3) := by decide +kernel
theorem dX5_digest_160 : decode cX5_digest 160 = .ok (.iload_n 1, 1) := by decide +kernel
theorem dX5_digest_161 : decode cX5_digest 161 = .ok (.iaload, 1) := by decide +kernel
theorem dX5_digest_162 : decode cX5_digest 162 = .ok (.i2l, 1) := by decide +kernel
theorem dX5_digest_163 : decode cX5_digest 163 = .ok (.invokevirtual 259, 3) := by decide +kernel
theorem dX5_digest_166 : decode cX5_digest 166 = .ok (.iinc 1 1, 3) := by decide +kernel
theorem dX5_digest_169 : decode cX5_digest 169 = .ok (.goto (-22), 3) := by decide +kernel
theorem dX5_digest_172 : decode cX5_digest 172 = .ok (.aload_n 0, 1) := by decide +kernel
theorem dX5_digest_173 : decode cX5_digest 173 = .ok (.getfield 255, 3) := by decide +kernel
theorem dX5_digest_176 : decode cX5_digest 176 = .ok (.lreturn, 1) := by decide +kernel
theorem dJ7_fill_53178_0 : decode cJ7_fill_53178 0 = .ok (.iconst 0, 1) := by decide +kernel
theorem dJ7_fill_53178_1 : decode cJ7_fill_53178 1 = .ok (.istore_n 2, 1) := by decide +kernel
theorem dJ7_fill_53178_2 : decode cJ7_fill_53178 2 = .ok (.aload_n 0, 1) := by decide +kernel
theorem dJ7_fill_53178_3 : decode cJ7_fill_53178 3 = .ok (.arraylength, 1) := by decide +kernel
theorem dJ7_fill_53178_4 : decode cJ7_fill_53178 4 = .ok (.istore_n 3, 1) := by decide +kernel
theorem dJ7_fill_53178_5 : decode cJ7_fill_53178 5 = .ok (.iload_n 2, 1) := by decide +kernel
theorem dJ7_fill_53178_6 : decode cJ7_fill_53178 6 = .ok (.iload_n 3, 1) := by decide +kernel
theorem dJ7_fill_53178_7 : decode cJ7_fill_53178 7 = .ok (.if_icmp .ge 13, 3) := by decide +kernel
theorem dJ7_fill_53178_10 : decode cJ7_fill_53178 10 = .ok (.aload_n 0, 1) := by decide +kernel
theorem dJ7_fill_53178_11 : decode cJ7_fill_53178 11 = .ok (.iload_n 2, 1) := by decide +kernel
theorem dJ7_fill_53178_12 : decode cJ7_fill_53178 12 = .ok (.iload_n 1, 1) := by decide +kernel
theorem dJ7_fill_53178_13 : decode cJ7_fill_53178 13 = .ok (.iastore, 1) := by decide +kernel
theorem dJ7_fill_53178_14 : decode cJ7_fill_53178 14 = .ok (.iinc 2 1, 3) := by decide +kernel
theorem dJ7_fill_53178_17 : decode cJ7_fill_53178 17 = .ok (.goto (-12), 3) := by decide +kernel
theorem dJ7_fill_53178_20 : decode cJ7_fill_53178 20 = .ok (.return_, 1) := by decide +kernel
set_option maxRecDepth 20000 in
theorem ggL_army_X4_army : GoodIn wsL_army wsX4_army := goodIn_ca (goodIn_ca (goodIn_r _ [7, 8, 9, 10, 11, 12, 13, 14, 15, 6, 16, 17, 18, 19, 20, 21, 22, 23, 24, 25, 26, 27, 28, 29, 30, 31, 32, 33, 34, 35, 36, 37, 38, 39, 40, 41, 42, 43, 44, 45, 46, 47, 48, 49, 50, 51, 52, 53, 54, 55, 56, 57, 58, 59, 60, 61, 62, 63, 64, 65, 66, 67, 68, 69, 70, 71, 72, 73, 74, 75, 76, 77, 78, 79, 80] (by decide +kernel) (by decide +kernel)) (goodIn_sub (fun _ h => List.mem_cons_of_mem _ (List.mem_append_left _ (List.mem_append_right _ h))) (by decide +kernel))) (goodIn_sub (fun _ h => List.mem_cons_of_mem _ (List.mem_append_right _ h)) (by decide +kernel))
set_option maxRecDepth 20000 in
theorem gL_army_X4_army : GoodIn wsL_army (wsV RL 7 RX4 yX4_army wsX4_army) := goodIn_app (goodIn_of _ (by decide +kernel)) ggL_army_X4_army
theorem dL_army_0 : decode cL_army 0 = .ok (.aload_n 3, 1) := by decide +kernel
theorem dL_army_1 : decode cL_army 1 = .ok (.iconst 0, 1) := by decide +kernel
theorem dL_army_2 : decode cL_army 2 = .ok (.aload_n 0, 1) := by decide +kernel
theorem dL_army_3 : decode cL_army 3 = .ok (.iload_n 1, 1) := by decide +kernel
theorem dL_army_4 : decode cL_army 4 = .ok (.iload_n 2, 1) := by decide +kernel
theorem dL_army_5 : decode cL_army 5 = .ok (.invokevirtual 7, 3) := by decide +kernel
theorem dL_army_8 : decode cL_army 8 = .ok (.i2l, 1) := by decide +kernel
theorem dL_army_9 : decode cL_army 9 = .ok (.lastore, 1) := by decide +kernel
theorem dL_army_10 : decode cL_army 10 = .ok (.goto 11, 3) := by decide +kernel
theorem dL_army_13 : decode cL_army 13 = .ok (.astore 4, 2) := by decide +kernel
theorem dL_army_15 : decode cL_army 15 = .ok (.iconst 1, 1) := by decide +kernel
theorem dL_army_16 : decode cL_army 16 = .ok (.ireturn, 1) := by decide +kernel
theorem dL_army_17 : decode cL_army 17 = .ok (.astore 4, 2) := by decide +kernel
theorem dL_army_19 : decode cL_army 19 = .ok (.iconst 2, 1) := by decide +kernel
theorem dL_army_20 : decode cL_army 20 = .ok (.ireturn, 1) := by decide +kernel
theorem dL_army_21 : decode cL_army 21 = .ok (.iconst 0, 1) := by decide +kernel
theorem dL_army_22 : decode cL_army 22 = .ok (.ireturn, 1) := by decide +kernel
set_option maxRecDepth 20000 in
theorem ggL_drop_X4_drop : GoodIn wsL_drop wsX4_drop := goodIn_ca (goodIn_r _ [6, 7, 8, 9, 10, 11, 12, 13, 14, 15, 16, 17, 18, 19, 20, 21, 22, 23, 24, 25, 26, 27, 28, 29, 30, 31, 32, 33, 34, 35, 36, 37, 38, 39, 40, 41, 42, 43, 44, 45, 46, 47, 48, 49, 50, 51, 52, 53, 54, 55, 5, 56, 57, 58, 59, 60, 61, 62, 63, 64, 65, 66, 67, 68, 69, 70, 71] (by decide +kernel) (by decide +kernel)) (goodIn_sub (fun _ h => List.mem_cons_of_mem _ (List.mem_append_right _ h)) (by decide +kernel))
set_option maxRecDepth 20000 in
theorem gL_drop_X4_drop : GoodIn wsL_drop (wsV RL 17 RX4 yX4_drop wsX4_drop) := goodIn_app (goodIn_of _ (by decide +kernel)) ggL_drop_X4_drop
theorem dL_drop_0 : decode cL_drop 0 = .ok (.aload_n 2, 1) := by decide +kernel
theorem dL_drop_1 : decode cL_drop 1 = .ok (.iconst 0, 1) := by decide +kernel
theorem dL_drop_2 : decode cL_drop 2 = .ok (.aload_n 0, 1) := by decide +kernel
theorem dL_drop_3 : decode cL_drop 3 = .ok (.iload_n 1, 1) := by decide +kernel
theorem dL_drop_4 : decode cL_drop 4 = .ok (.invokevirtual 17, 3) := by decide +kernel
theorem dL_drop_7 : decode cL_drop 7 = .ok (.i2l, 1) := by decide +kernel
theorem dL_drop_8 : decode cL_drop 8 = .ok (.lastore, 1) := by decide +kernel
theorem dL_drop_9 : decode cL_drop 9 = .ok (.goto 6, 3) := by decide +kernel
theorem dL_drop_12 : decode cL_drop 12 = .ok (.astore_n 3, 1) := by decide +kernel
