theorem dX4_countNumber_47 : decode cX4_countNumber 47 = .ok (.aload_n 0, 1) := by decide +kernel
theorem dX4_countNumber_48 : decode cX4_countNumber 48 = .ok (.getfield 30, 3) := by decide +kernel
theorem dX4_countNumber_51 : decode cX4_countNumber 51 = .ok (.invokevirtual 143, 3) := by decide +kernel
theorem dX4_countNumber_54 : decode cX4_countNumber 54 = .ok (.ireturn, 1) := by decide +kernel
set_option maxRecDepth 20000 in
theorem ggX4_reachMask_X0_copyFrom : GoodIn wsX4_reachMask wsX0_copyFrom := goodIn_r _ [8, 9, 10, 11, 12, 13, 14, 15, 120, 121, 122] (by decide +kernel) (by decide +kernel)
set_option maxRecDepth 20000 in
theorem gX4_reachMask_X0_copyFrom : GoodIn wsX4_reachMask (wsV RX4 149 RX0 yX0_copyFrom wsX0_copyFrom) := goodIn_app (goodIn_of _ (by decide +kernel)) ggX4_reachMask_X0_copyFrom
set_option maxRecDepth 20000 in
theorem ggX4_reachMask_X0_canBeGiven : GoodIn wsX4_reachMask wsX0_canBeGiven := goodIn_r _ [19, 20, 21, 22, 7, 23, 24, 25, 26, 27, 9, 28, 29, 30, 31, 15, 32, 33, 34, 120, 121, 122] (by decide +kernel) (by decide +kernel)
set_option maxRecDepth 20000 in
theorem gX4_reachMask_X0_canBeGiven : GoodIn wsX4_reachMask (wsV RX4 100 RX0 yX0_canBeGiven wsX0_canBeGiven) := goodIn_app (goodIn_of _ (by decide +kernel)) ggX4_reachMask_X0_canBeGiven
set_option maxRecDepth 20000 in
theorem ggX4_reachMask_X0_give : GoodIn wsX4_reachMask wsX0_give := goodIn_r _ [38, 28, 29, 30, 7, 31, 15, 39, 40, 41, 42, 120, 121, 122] (by decide +kernel) (by decide +kernel)
set_option maxRecDepth 20000 in
theorem gX4_reachMask_X0_give : GoodIn wsX4_reachMask (wsV RX4 94 RX0 yX0_give wsX0_give) := goodIn_app (goodIn_of _ (by decide +kernel)) ggX4_reachMask_X0_give
set_option maxRecDepth 20000 in
theorem ggX4_reachMask_X2_decideMoves : GoodIn wsX4_reachMask wsX2_decideMoves := goodIn_r _ [47, 48, 49, 50, 46, 51, 52, 53, 54, 55, 25, 26, 7, 27, 9, 56, 29, 30, 31, 15, 57, 58, 59, 60, 61, 62, 63, 64, 65, 66, 67, 68, 69, 70, 71, 72, 24, 28, 73, 33, 74, 75, 76, 77, 78, 79, 80, 81, 82, 83, 84, 85, 86, 87, 88, 89, 90, 91, 92, 93, 94, 95, 96, 97, 98, 99, 100, 101, 102, 103, 104, 105, 106, 107, 108, 109, 110, 123, 124, 125, 126, 127, 128, 129, 130, 120, 121, 122] (by decide +kernel) (by decide +kernel)
set_option maxRecDepth 20000 in
theorem gX4_reachMask_X2_decideMoves : GoodIn wsX4_reachMask (wsV RX4 269 RX2 yX2_decideMoves wsX2_decideMoves) := goodIn_app (goodIn_of _ (by decide +kernel)) ggX4_reachMask_X2_decideMoves
set_option maxRecDepth 20000 in
theorem ggX4_reachMask_X2_goes : GoodIn wsX4_reachMask wsX2_goes := goodIn_r _ [106, 52, 90, 56, 29, 30, 7, 31, 15, 84, 33, 85, 123, 124, 125, 126, 127, 128, 129, 130, 120, 121, 122] (by decide +kernel) (by decide +kernel)
set_option maxRecDepth 20000 in
theorem gX4_reachMask_X2_goes : GoodIn wsX4_reachMask (wsV RX4 272 RX2 yX2_goes wsX2_goes) := goodIn_app (goodIn_of _ (by decide +kernel)) ggX4_reachMask_X2_goes
theorem dX4_reachMask_0 : decode cX4_reachMask 0 = .ok (.aload_n 0, 1) := by decide +kernel
theorem dX4_reachMask_1 : decode cX4_reachMask 1 = .ok (.getfield 24, 3) := by decide +kernel
theorem dX4_reachMask_4 : decode cX4_reachMask 4 = .ok (.aload_n 0, 1) := by decide +kernel
theorem dX4_reachMask_5 : decode cX4_reachMask 5 = .ok (.getfield 20, 3) := by decide +kernel
theorem dX4_reachMask_8 : decode cX4_reachMask 8 = .ok (.invokevirtual 149, 3) := by decide +kernel
theorem dX4_reachMask_11 : decode cX4_reachMask 11 = .ok (.iconst 0, 1) := by decide +kernel
theorem dX4_reachMask_12 : decode cX4_reachMask 12 = .ok (.istore_n 2, 1) := by decide +kernel
theorem dX4_reachMask_13 : decode cX4_reachMask 13 = .ok (.iconst 0, 1) := by decide +kernel
theorem dX4_reachMask_14 : decode cX4_reachMask 14 = .ok (.istore_n 3, 1) := by decide +kernel
theorem dX4_reachMask_15 : decode cX4_reachMask 15 = .ok (.iload_n 3, 1) := by decide +kernel
theorem dX4_reachMask_16 : decode cX4_reachMask 16 = .ok (.bipush 12, 2) := by decide +kernel
theorem dX4_reachMask_18 : decode cX4_reachMask 18 = .ok (.if_icmp .ge 63, 3) := by decide +kernel
theorem dX4_reachMask_21 : decode cX4_reachMask 21 = .ok (.aload_n 0, 1) := by decide +kernel
theorem dX4_reachMask_22 : decode cX4_reachMask 22 = .ok (.getfield 24, 3) := by decide +kernel
theorem dX4_reachMask_25 : decode cX4_reachMask 25 = .ok (.iload_n 1, 1) := by decide +kernel
theorem dX4_reachMask_26 : decode cX4_reachMask 26 = .ok (.iconst 1, 1) := by decide +kernel
theorem dX4_reachMask_27 : decode cX4_reachMask 27 = .ok (.iconst (-1), 1) := by decide +kernel
theorem dX4_reachMask_28 : decode cX4_reachMask 28 = .ok (.iload_n 3, 1) := by decide +kernel
theorem dX4_reachMask_29 : decode cX4_reachMask 29 = .ok (.invokevirtual 100, 3) := by decide +kernel
theorem dX4_reachMask_32 : decode cX4_reachMask 32 = .ok (.ifCond .eq 43, 3) := by decide +kernel
theorem dX4_reachMask_35 : decode cX4_reachMask 35 = .ok (.aload_n 0, 1) := by decide +kernel
theorem dX4_reachMask_36 : decode cX4_reachMask 36 = .ok (.getfield 24, 3) := by decide +kernel
theorem dX4_reachMask_39 : decode cX4_reachMask 39 = .ok (.iload_n 1, 1) := by decide +kernel
theorem dX4_reachMask_40 : decode cX4_reachMask 40 = .ok (.iconst 1, 1) := by decide +kernel
theorem dX4_reachMask_41 : decode cX4_reachMask 41 = .ok (.iconst (-1), 1) := by decide +kernel
theorem dX4_reachMask_42 : decode cX4_reachMask 42 = .ok (.iload_n 3, 1) := by decide +kernel
theorem dX4_reachMask_43 : decode cX4_reachMask 43 = .ok (.invokevirtual 94, 3) := by decide +kernel
theorem dX4_reachMask_46 : decode cX4_reachMask 46 = .ok (.pop, 1) := by decide +kernel
theorem dX4_reachMask_47 : decode cX4_reachMask 47 = .ok (.aload_n 0, 1) := by decide +kernel
theorem dX4_reachMask_48 : decode cX4_reachMask 48 = .ok (.getfield 21, 3) := by decide +kernel
theorem dX4_reachMask_51 : decode cX4_reachMask 51 = .ok (.invokevirtual 269, 3) := by decide +kernel
theorem dX4_reachMask_54 : decode cX4_reachMask 54 = .ok (.iload_n 2, 1) := by decide +kernel
theorem dX4_reachMask_55 : decode cX4_reachMask 55 = .ok (.aload_n 0, 1) := by decide +kernel
theorem dX4_reachMask_56 : decode cX4_reachMask 56 = .ok (.getfield 21, 3) := by decide +kernel
theorem dX4_reachMask_59 : decode cX4_reachMask 59 = .ok (.iload_n 1, 1) := by decide +kernel
theorem dX4_reachMask_60 : decode cX4_reachMask 60 = .ok (.invokevirtual 272, 3) := by decide +kernel
theorem dX4_reachMask_63 : decode cX4_reachMask 63 = .ok (.ifCond .eq 9, 3) := by decide +kernel
theorem dX4_reachMask_66 : decode cX4_reachMask 66 = .ok (.iconst 1, 1) := by decide +kernel
theorem dX4_reachMask_67 : decode cX4_reachMask 67 = .ok (.iload_n 3, 1) := by decide +kernel
theorem dX4_reachMask_68 : decode cX4_reachMask 68 = .ok (.ishl, 1) := by decide +kernel
theorem dX4_reachMask_69 : decode cX4_reachMask 69 = .ok (.goto 4, 3) := by decide +kernel
theorem dX4_reachMask_72 : decode cX4_reachMask 72 = .ok (.iconst 0, 1) := by decide +kernel
theorem dX4_reachMask_73 : decode cX4_reachMask 73 = .ok (.ior, 1) := by decide +kernel
theorem dX4_reachMask_74 : decode cX4_reachMask 74 = .ok (.istore_n 2, 1) := by decide +kernel
theorem dX4_reachMask_75 : decode cX4_reachMask 75 = .ok (.iinc 3 1, 3) := by decide +kernel
theorem dX4_reachMask_78 : decode cX4_reachMask 78 = .ok (.goto (-63), 3) := by decide +kernel
theorem dX4_reachMask_81 : decode cX4_reachMask 81 = .ok (.iload_n 2, 1) := by decide +kernel
theorem dX4_reachMask_82 : decode cX4_reachMask 82 = .ok (.ireturn, 1) := by decide +kernel
set_option maxRecDepth 20000 in
theorem ggX4_successShare_X0_number : GoodIn wsX4_successShare wsX0_number := goodIn_r _ [6, 7, 16, 17, 18] (by decide +kernel) (by decide +kernel)
set_option maxRecDepth 20000 in
theorem gX4_successShare_X0_number : GoodIn wsX4_successShare (wsV RX4 69 RX0 yX0_number wsX0_number) := goodIn_app (goodIn_of _ (by decide +kernel)) ggX4_successShare_X0_number
theorem dX4_successShare_0 : decode cX4_successShare 0 = .ok (.aload_n 0, 1) := by decide +kernel
theorem dX4_successShare_1 : decode cX4_successShare 1 = .ok (.getfield 20, 3) := by decide +kernel
theorem dX4_successShare_4 : decode cX4_successShare 4 = .ok (.iconst 4, 1) := by decide +kernel
theorem dX4_successShare_5 : decode cX4_successShare 5 = .ok (.invokevirtual 69, 3) := by decide +kernel
theorem dX4_successShare_8 : decode cX4_successShare 8 = .ok (.istore_n 1, 1) := by decide +kernel
theorem dX4_successShare_9 : decode cX4_successShare 9 = .ok (.iload_n 1, 1) := by decide +kernel
theorem dX4_successShare_10 : decode cX4_successShare 10 = .ok (.aload_n 0, 1) := by decide +kernel
theorem dX4_successShare_11 : decode cX4_successShare 11 = .ok (.getfield 20, 3) := by decide +kernel
theorem dX4_successShare_14 : decode cX4_successShare 14 = .ok (.iconst 5, 1) := by decide +kernel
theorem dX4_successShare_15 : decode cX4_successShare 15 = .ok (.invokevirtual 69, 3) := by decide +kernel
theorem dX4_successShare_18 : decode cX4_successShare 18 = .ok (.iadd, 1) := by decide +kernel
theorem dX4_successShare_19 : decode cX4_successShare 19 = .ok (.istore_n 2, 1) := by decide +kernel
theorem dX4_successShare_20 : decode cX4_successShare 20 = .ok (.iload_n 2, 1) := by decide +kernel
theorem dX4_successShare_21 : decode cX4_successShare 21 = .ok (.ifCond .le 11, 3) := by decide +kernel
theorem dX4_successShare_24 : decode cX4_successShare 24 = .ok (.iload_n 1, 1) := by decide +kernel
theorem dX4_successShare_25 : decode cX4_successShare 25 = .ok (.i2d, 1) := by decide +kernel
theorem dX4_successShare_26 : decode cX4_successShare 26 = .ok (.iload_n 2, 1) := by decide +kernel
theorem dX4_successShare_27 : decode cX4_successShare 27 = .ok (.i2d, 1) := by decide +kernel
theorem dX4_successShare_28 : decode cX4_successShare 28 = .ok (.ddiv, 1) := by decide +kernel
theorem dX4_successShare_29 : decode cX4_successShare 29 = .ok (.goto 4, 3) := by decide +kernel
theorem dX4_successShare_32 : decode cX4_successShare 32 = .ok (.dconst 1, 1) := by decide +kernel
theorem dX4_successShare_33 : decode cX4_successShare 33 = .ok (.dreturn, 1) := by decide +kernel
theorem dX4_isSeat_0 : decode cX4_isSeat 0 = .ok (.iload_n 0, 1) := by decide +kernel
theorem dX4_isSeat_1 : decode cX4_isSeat 1 = .ok (.ifCond .lt 12, 3) := by decide +kernel
theorem dX4_isSeat_4 : decode cX4_isSeat 4 = .ok (.iload_n 0, 1) := by decide +kernel
theorem dX4_isSeat_5 : decode cX4_isSeat 5 = .ok (.iconst 3, 1) := by decide +kernel
theorem dX4_isSeat_6 : decode cX4_isSeat 6 = .ok (.if_icmp .ge 7, 3) := by decide +kernel
theorem dX4_isSeat_9 : decode cX4_isSeat 9 = .ok (.iconst 1, 1) := by decide +kernel
theorem dX4_isSeat_10 : decode cX4_isSeat 10 = .ok (.goto 4, 3) := by decide +kernel
theorem dX4_isSeat_13 : decode cX4_isSeat 13 = .ok (.iconst 0, 1) := by decide +kernel
theorem dX4_isSeat_14 : decode cX4_isSeat 14 = .ok (.ireturn, 1) := by decide +kernel
theorem dX4_isField_0 : decode cX4_isField 0 = .ok (.iload_n 0, 1) := by decide +kernel
theorem dX4_isField_1 : decode cX4_isField 1 = .ok (.ifCond .lt 13, 3) := by decide +kernel
theorem dX4_isField_4 : decode cX4_isField 4 = .ok (.iload_n 0, 1) := by decide +kernel
theorem dX4_isField_5 : decode cX4_isField 5 = .ok (.bipush 12, 2) := by decide +kernel
theorem dX4_isField_7 : decode cX4_isField 7 = .ok (.if_icmp .ge 7, 3) := by decide +kernel
theorem dX4_isField_10 : decode cX4_isField 10 = .ok (.iconst 1, 1) := by decide +kernel
theorem dX4_isField_11 : decode cX4_isField 11 = .ok (.goto 4, 3) := by decide +kernel
theorem dX4_isField_14 : decode cX4_isField 14 = .ok (.iconst 0, 1) := by decide +kernel
theorem dX4_isField_15 : decode cX4_isField 15 = .ok (.ireturn, 1) := by decide +kernel
theorem dX4_isCentre_0 : decode cX4_isCentre 0 = .ok (.iload_n 0, 1) := by decide +kernel
theorem dX4_isCentre_1 : decode cX4_isCentre 1 = .ok (.ifCond .eq 20, 3) := by decide +kernel
theorem dX4_isCentre_4 : decode cX4_isCentre 4 = .ok (.iload_n 0, 1) := by decide +kernel
theorem dX4_isCentre_5 : decode cX4_isCentre 5 = .ok (.iconst 3, 1) := by decide +kernel
theorem dX4_isCentre_6 : decode cX4_isCentre 6 = .ok (.if_icmp .eq 15, 3) := by decide +kernel
theorem dX4_isCentre_9 : decode cX4_isCentre 9 = .ok (.iload_n 0, 1) := by decide +kernel
theorem dX4_isCentre_10 : decode cX4_isCentre 10 = .ok (.bipush 6, 2) := by decide +kernel
theorem dX4_isCentre_12 : decode cX4_isCentre 12 = .ok (.if_icmp .eq 9, 3) := by decide +kernel
theorem dX4_isCentre_15 : decode cX4_isCentre 15 = .ok (.iload_n 0, 1) := by decide +kernel
theorem dX4_isCentre_16 : decode cX4_isCentre 16 = .ok (.bipush 9, 2) := by decide +kernel
theorem dX4_isCentre_18 : decode cX4_isCentre 18 = .ok (.if_icmp .ne 7, 3) := by decide +kernel
theorem dX4_isCentre_21 : decode cX4_isCentre 21 = .ok (.iconst 1, 1) := by decide +kernel
theorem dX4_isCentre_22 : decode cX4_isCentre 22 = .ok (.goto 4, 3) := by decide +kernel
theorem dX4_isCentre_25 : decode cX4_isCentre 25 = .ok (.iconst 0, 1) := by decide +kernel
theorem dX4_isCentre_26 : decode cX4_isCentre 26 = .ok (.ireturn, 1) := by decide +kernel
theorem dX4_areNeighbours_0 : decode cX4_areNeighbours 0 = .ok (.iload_n 0, 1) := by decide +kernel
theorem dX4_areNeighbours_1 : decode cX4_areNeighbours 1 = .ok (.iload_n 1, 1) := by decide +kernel
theorem dX4_areNeighbours_2 : decode cX4_areNeighbours 2 = .ok (.if_icmp .le 9, 3) := by decide +kernel
theorem dX4_areNeighbours_5 : decode cX4_areNeighbours 5 = .ok (.iload_n 0, 1) := by decide +kernel
theorem dX4_areNeighbours_6 : decode cX4_areNeighbours 6 = .ok (.iload_n 1, 1) := by decide +kernel
theorem dX4_areNeighbours_7 : decode cX4_areNeighbours 7 = .ok (.isub, 1) := by decide +kernel
theorem dX4_areNeighbours_8 : decode cX4_areNeighbours 8 = .ok (.goto 6, 3) := by decide +kernel
theorem dX4_areNeighbours_11 : decode cX4_areNeighbours 11 = .ok (.iload_n 1, 1) := by decide +kernel
theorem dX4_areNeighbours_12 : decode cX4_areNeighbours 12 = .ok (.iload_n 0, 1) := by decide +kernel
theorem dX4_areNeighbours_13 : decode cX4_areNeighbours 13 = .ok (.isub, 1) := by decide +kernel
theorem dX4_areNeighbours_14 : decode cX4_areNeighbours 14 = .ok (.istore_n 2, 1) := by decide +kernel
theorem dX4_areNeighbours_15 : decode cX4_areNeighbours 15 = .ok (.iload_n 2, 1) := by decide +kernel
theorem dX4_areNeighbours_16 : decode cX4_areNeighbours 16 = .ok (.iconst 1, 1) := by decide +kernel
theorem dX4_areNeighbours_17 : decode cX4_areNeighbours 17 = .ok (.if_icmp .eq 20, 3) := by decide +kernel
theorem dX4_areNeighbours_20 : decode cX4_areNeighbours 20 = .ok (.iload_n 2, 1) := by decide +kernel
theorem dX4_areNeighbours_21 : decode cX4_areNeighbours 21 = .ok (.iconst 4, 1) := by decide +kernel
theorem dX4_areNeighbours_22 : decode cX4_areNeighbours 22 = .ok (.if_icmp .eq 15, 3) := by decide +kernel
theorem dX4_areNeighbours_25 : decode cX4_areNeighbours 25 = .ok (.iload_n 2, 1) := by decide +kernel
theorem dX4_areNeighbours_26 : decode cX4_areNeighbours 26 = .ok (.bipush 8, 2) := by decide +kernel
theorem dX4_areNeighbours_28 : decode cX4_areNeighbours 28 = .ok (.if_icmp .eq 9, 3) := by decide +kernel
theorem dX4_areNeighbours_31 : decode cX4_areNeighbours 31 = .ok (.iload_n 2, 1) := by decide +kernel
theorem dX4_areNeighbours_32 : decode cX4_areNeighbours 32 = .ok (.bipush 11, 2) := by decide +kernel
theorem dX4_areNeighbours_34 : decode cX4_areNeighbours 34 = .ok (.if_icmp .ne 7, 3) := by decide +kernel
theorem dX4_areNeighbours_37 : decode cX4_areNeighbours 37 = .ok (.iconst 1, 1) := by decide +kernel
theorem dX4_areNeighbours_38 : decode cX4_areNeighbours 38 = .ok (.goto 4, 3) := by decide +kernel
theorem dX4_areNeighbours_41 : decode cX4_areNeighbours 41 = .ok (.iconst 0, 1) := by decide +kernel
theorem dX4_areNeighbours_42 : decode cX4_areNeighbours 42 = .ok (.ireturn, 1) := by decide +kernel
set_option maxRecDepth 20000 in
theorem ggX4_neighbourMask_X4_areNeighbours : GoodIn wsX4_neighbourMask wsX4_areNeighbours := goodIn_r _ [4] (by decide +kernel) (by decide +kernel)
set_option maxRecDepth 20000 in
theorem gX4_neighbourMask_X4_areNeighbours : GoodIn wsX4_neighbourMask (va_wsS RX4 283 yX4_areNeighbours wsX4_areNeighbours) := goodIn_app (goodIn_of _ (by decide +kernel)) ggX4_neighbourMask_X4_areNeighbours
theorem dX4_neighbourMask_0 : decode cX4_neighbourMask 0 = .ok (.iconst 0, 1) := by decide +kernel
theorem dX4_neighbourMask_1 : decode cX4_neighbourMask 1 = .ok (.istore_n 1, 1) := by decide +kernel
theorem dX4_neighbourMask_2 : decode cX4_neighbourMask 2 = .ok (.iconst 0, 1) := by decide +kernel
theorem dX4_neighbourMask_3 : decode cX4_neighbourMask 3 = .ok (.istore_n 2, 1) := by decide +kernel
theorem dX4_neighbourMask_4 : decode cX4_neighbourMask 4 = .ok (.iload_n 2, 1) := by decide +kernel
theorem dX4_neighbourMask_5 : decode cX4_neighbourMask 5 = .ok (.bipush 12, 2) := by decide +kernel
theorem dX4_neighbourMask_7 : decode cX4_neighbourMask 7 = .ok (.if_icmp .ge 27, 3) := by decide +kernel
theorem dX4_neighbourMask_10 : decode cX4_neighbourMask 10 = .ok (.iload_n 1, 1) := by decide +kernel
theorem dX4_neighbourMask_11 : decode cX4_neighbourMask 11 = .ok (.iload_n 0, 1) := by decide +kernel
theorem dX4_neighbourMask_12 : decode cX4_neighbourMask 12 = .ok (.iload_n 2, 1) := by decide +kernel
theorem dX4_neighbourMask_13 : decode cX4_neighbourMask 13 = .ok (.invokestatic 283, 3) := by decide +kernel
theorem dX4_neighbourMask_16 : decode cX4_neighbourMask 16 = .ok (.ifCond .eq 9, 3) := by decide +kernel
theorem dX4_neighbourMask_19 : decode cX4_neighbourMask 19 = .ok (.iconst 1, 1) := by decide +kernel
theorem dX4_neighbourMask_20 : decode cX4_neighbourMask 20 = .ok (.iload_n 2, 1) := by decide +kernel
theorem dX4_neighbourMask_21 : decode cX4_neighbourMask 21 = .ok (.ishl, 1) := by decide +kernel
theorem dX4_neighbourMask_22 : decode cX4_neighbourMask 22 = .ok (.goto 4, 3) := by decide +kernel
theorem dX4_neighbourMask_25 : decode cX4_neighbourMask 25 = .ok (.iconst 0, 1) := by decide +kernel
theorem dX4_neighbourMask_26 : decode cX4_neighbourMask 26 = .ok (.ior, 1) := by decide +kernel
theorem dX4_neighbourMask_27 : decode cX4_neighbourMask 27 = .ok (.istore_n 1, 1) := by decide +kernel
theorem dX4_neighbourMask_28 : decode cX4_neighbourMask 28 = .ok (.iinc 2 1, 3) := by decide +kernel
theorem dX4_neighbourMask_31 : decode cX4_neighbourMask 31 = .ok (.goto (-27), 3) := by decide +kernel
theorem dX4_neighbourMask_34 : decode cX4_neighbourMask 34 = .ok (.iload_n 1, 1) := by decide +kernel
theorem dX4_neighbourMask_35 : decode cX4_neighbourMask 35 = .ok (.ireturn, 1) := by decide +kernel
theorem dX4_entry_0 : decode cX4_entry 0 = .ok (.iload_n 1, 1) := by decide +kernel
theorem dX4_entry_1 : decode cX4_entry 1 = .ok (.ifCond .lt 15, 3) := by decide +kernel
theorem dX4_entry_4 : decode cX4_entry 4 = .ok (.iload_n 1, 1) := by decide +kernel
theorem dX4_entry_5 : decode cX4_entry 5 = .ok (.aload_n 0, 1) := by decide +kernel
theorem dX4_entry_6 : decode cX4_entry 6 = .ok (.arraylength, 1) := by decide +kernel
theorem dX4_entry_7 : decode cX4_entry 7 = .ok (.if_icmp .ge 9, 3) := by decide +kernel
theorem dX4_entry_10 : decode cX4_entry 10 = .ok (.aload_n 0, 1) := by decide +kernel
theorem dX4_entry_11 : decode cX4_entry 11 = .ok (.iload_n 1, 1) := by decide +kernel
theorem dX4_entry_12 : decode cX4_entry 12 = .ok (.iaload, 1) := by decide +kernel
theorem dX4_entry_13 : decode cX4_entry 13 = .ok (.goto 4, 3) := by decide +kernel
theorem dX4_entry_16 : decode cX4_entry 16 = .ok (.iconst (-1), 1) := by decide +kernel
theorem dX4_entry_17 : decode cX4_entry 17 = .ok (.ireturn, 1) := by decide +kernel
theorem dX4_enter_0 : decode cX4_enter 0 = .ok (.iload_n 1, 1) := by decide +kernel
theorem dX4_enter_1 : decode cX4_enter 1 = .ok (.ifCond .lt 13, 3) := by decide +kernel
theorem dX4_enter_4 : decode cX4_enter 4 = .ok (.iload_n 1, 1) := by decide +kernel
theorem dX4_enter_5 : decode cX4_enter 5 = .ok (.aload_n 0, 1) := by decide +kernel
theorem dX4_enter_6 : decode cX4_enter 6 = .ok (.arraylength, 1) := by decide +kernel
theorem dX4_enter_7 : decode cX4_enter 7 = .ok (.if_icmp .ge 7, 3) := by decide +kernel
theorem dX4_enter_10 : decode cX4_enter 10 = .ok (.aload_n 0, 1) := by decide +kernel
theorem dX4_enter_11 : decode cX4_enter 11 = .ok (.iload_n 1, 1) := by decide +kernel
theorem dX4_enter_12 : decode cX4_enter 12 = .ok (.iload_n 2, 1) := by decide +kernel
theorem dX4_enter_13 : decode cX4_enter 13 = .ok (.iastore, 1) := by decide +kernel
theorem dX4_enter_14 : decode cX4_enter 14 = .ok (.return_, 1) := by decide +kernel
theorem dJ7_fill_53178_0 : decode cJ7_fill_53178 0 = .ok (.iconst 0, 1) := by decide +kernel
theorem dJ7_fill_53178_1 : decode cJ7_fill_53178 1 = .ok (.istore_n 2, 1) := by decide +kernel
theorem dJ7_fill_53178_2 : decode cJ7_fill_53178 2 = .ok (.aload_n 0, 1) := by decide +kernel
theorem dJ7_fill_53178_3 : decode cJ7_fill_53178 3 = .ok (.arraylength, 1) := by decide +kernel
theorem dJ7_fill_53178_4 : decode cJ7_fill_53178 4 = .ok (.istore_n 3, 1) := by decide +kernel
theorem dJ7_fill_53178_5 : decode cJ7_fill_53178 5 = .ok (.iload_n 2, 1) := by decide +kernel
theorem dJ7_fill_53178_6 : decode cJ7_fill_53178 6 = .ok (.iload_n 3, 1) := by decide +kernel
theorem dJ7_fill_53178_7 : decode cJ7_fill_53178 7 = .ok (.if_icmp .ge 13, 3) := by decide +kernel
theorem dJ7_fill_53178_10 : decode cJ7_fill_53178 10 = .ok (.aload_n 0, 1) := by decide +kernel
theorem dJ7_fill_53178_11 : decode cJ7_fill_53178 11 = .ok (.iload_n 2, 1) := by decide +kernel
theorem dJ7_fill_53178_12 : decode cJ7_fill_53178 12 = .ok (.iload_n 1, 1) := by decide +kernel
theorem dJ7_fill_53178_13 : decode cJ7_fill_53178 13 = .ok (.iastore, 1) := by decide +kernel
theorem dJ7_fill_53178_14 : decode cJ7_fill_53178 14 = .ok (.iinc 2 1, 3) := by decide +kernel
theorem dJ7_fill_53178_17 : decode cJ7_fill_53178 17 = .ok (.goto (-12), 3) := by decide +kernel
theorem dJ7_fill_53178_20 : decode cJ7_fill_53178 20 = .ok (.return_, 1) := by decide +kernel
theorem dL_cell_0 : decode cL_cell 0 = .ok (.iload_n 1, 1) := by decide +kernel
theorem dL_cell_1 : decode cL_cell 1 = .ok (.aload_n 0, 1) := by decide +kernel
theorem dL_cell_2 : decode cL_cell 2 = .ok (.arraylength, 1) := by decide +kernel
theorem dL_cell_3 : decode cL_cell 3 = .ok (.if_icmp .ge 9, 3) := by decide +kernel
theorem dL_cell_6 : decode cL_cell 6 = .ok (.aload_n 0, 1) := by decide +kernel
theorem dL_cell_7 : decode cL_cell 7 = .ok (.iload_n 1, 1) := by decide +kernel
theorem dL_cell_8 : decode cL_cell 8 = .ok (.iaload, 1) := by decide +kernel
theorem dL_cell_9 : decode cL_cell 9 = .ok (.goto 11, 3) := by decide +kernel
theorem dL_cell_12 : decode cL_cell 12 = .ok (.ldc 7, 2) := by decide +kernel
theorem dL_cell_14 : decode cL_cell 14 = .ok (.iload_n 1, 1) := by decide +kernel
theorem dL_cell_15 : decode cL_cell 15 = .ok (.imul, 1) := by decide +kernel
theorem dL_cell_16 : decode cL_cell 16 = .ok (.sipush 977, 3) := by decide +kernel
theorem dL_cell_19 : decode cL_cell 19 = .ok (.iadd, 1) := by decide +kernel
theorem dL_cell_20 : decode cL_cell 20 = .ok (.ireturn, 1) := by decide +kernel
theorem dL_low_0 : decode cL_low 0 = .ok (.iload_n 0, 1) := by decide +kernel
theorem dL_low_1 : decode cL_low 1 = .ok (.ldc 8, 2) := by decide +kernel
theorem dL_low_3 : decode cL_low 3 = .ok (.iand, 1) := by decide +kernel
theorem dL_low_4 : decode cL_low 4 = .ok (.iload_n 1, 1) := by decide +kernel
theorem dL_low_5 : decode cL_low 5 = .ok (.irem, 1) := by decide +kernel
theorem dL_low_6 : decode cL_low 6 = .ok (.ireturn, 1) := by decide +kernel
theorem dL_beside_0 : decode cL_beside 0 = .ok (.iload_n 1, 1) := by decide +kernel
theorem dL_beside_1 : decode cL_beside 1 = .ok (.iconst 3, 1) := by decide +kernel
theorem dL_beside_2 : decode cL_beside 2 = .ok (.iand, 1) := by decide +kernel
theorem dL_beside_3 : decode cL_beside 3 = .ok (.ifCond .ne 7, 3) := by decide +kernel
theorem dL_beside_6 : decode cL_beside 6 = .ok (.iconst 1, 1) := by decide +kernel
theorem dL_beside_7 : decode cL_beside 7 = .ok (.goto 28, 3) := by decide +kernel
theorem dL_beside_10 : decode cL_beside 10 = .ok (.iload_n 1, 1) := by decide +kernel
theorem dL_beside_11 : decode cL_beside 11 = .ok (.iconst 3, 1) := by decide +kernel
theorem dL_beside_12 : decode cL_beside 12 = .ok (.iand, 1) := by decide +kernel
theorem dL_beside_13 : decode cL_beside 13 = .ok (.iconst 1, 1) := by decide +kernel
theorem dL_beside_14 : decode cL_beside 14 = .ok (.if_icmp .ne 7, 3) := by decide +kernel
theorem dL_beside_17 : decode cL_beside 17 = .ok (.iconst 4, 1) := by decide +kernel
theorem dL_beside_18 : decode cL_beside 18 = .ok (.goto 17, 3) := by decide +kernel
theorem dL_beside_21 : decode cL_beside 21 = .ok (.iload_n 1, 1) := by decide +kernel
theorem dL_beside_22 : decode cL_beside 22 = .ok (.iconst 3, 1) := by decide +kernel
theorem dL_beside_23 : decode cL_beside 23 = .ok (.iand, 1) := by decide +kernel
theorem dL_beside_24 : decode cL_beside 24 = .ok (.iconst 2, 1) := by decide +kernel
theorem dL_beside_25 : decode cL_beside 25 = .ok (.if_icmp .ne 8, 3) := by decide +kernel
theorem dL_beside_28 : decode cL_beside 28 = .ok (.bipush 8, 2) := by decide +kernel
theorem dL_beside_30 : decode cL_beside 30 = .ok (.goto 5, 3) := by decide +kernel
theorem dL_beside_33 : decode cL_beside 33 = .ok (.bipush 11, 2) := by decide +kernel
theorem dL_beside_35 : decode cL_beside 35 = .ok (.istore_n 2, 1) := by decide +kernel
theorem dL_beside_36 : decode cL_beside 36 = .ok (.iload_n 0, 1) := by decide +kernel
theorem dL_beside_37 : decode cL_beside 37 = .ok (.iload_n 2, 1) := by decide +kernel
theorem dL_beside_38 : decode cL_beside 38 = .ok (.iadd, 1) := by decide +kernel
theorem dL_beside_39 : decode cL_beside 39 = .ok (.bipush 12, 2) := by decide +kernel
theorem dL_beside_41 : decode cL_beside 41 = .ok (.irem, 1) := by decide +kernel
theorem dL_beside_42 : decode cL_beside 42 = .ok (.ireturn, 1) := by decide +kernel
set_option maxRecDepth 20000 in
theorem ggL_change_X4_count : GoodIn wsL_change wsX4_count := goodIn_ca (goodIn_r _ [5, 6, 7, 8, 9, 10, 4, 11, 12, 13, 14, 15, 16, 17, 18, 19, 20, 21, 22, 23, 24, 25, 26, 27, 28, 29, 30, 31, 32, 33, 34, 35, 357, 358, 359, 360, 361, 362, 363, 364, 365, 366, 367, 368, 369, 370] rfl (by decide +kernel)) (goodIn_sub (fun _ h => List.mem_cons_of_mem _ (List.mem_append_left _ (List.mem_append_left _ (List.mem_append_right _ h)))) (by decide +kernel))
set_option maxRecDepth 20000 in
theorem gL_change_X4_count : GoodIn wsL_change (wsV RL 9 RX4 yX4_count wsX4_count) := goodIn_app (goodIn_of _ (by decide +kernel)) ggL_change_X4_count
set_option maxRecDepth 20000 in
theorem ggL_change_L_low : GoodIn wsL_change wsL_low := goodIn_r _ [39, 40] rfl (by decide +kernel)
set_option maxRecDepth 20000 in
theorem gL_change_L_low : GoodIn wsL_change (va_wsS RL 15 yL_low wsL_low) := goodIn_app (goodIn_of _ (by decide +kernel)) ggL_change_L_low
set_option maxRecDepth 20000 in
theorem ggL_change_X4_armyOf : GoodIn wsL_change wsX4_armyOf := goodIn_ca (goodIn_ca (goodIn_r _ [44, 45, 46, 6, 7, 12, 47, 48, 49, 17, 50, 24, 15, 16, 18, 19, 51, 26, 27, 28, 29, 357, 358, 359, 360, 361, 362, 363, 364, 365, 366, 367] rfl (by decide +kernel)) (goodIn_sub (fun _ h => List.mem_cons_of_mem _ (List.mem_append_left _ (List.mem_append_right _ h))) (by decide +kernel))) (goodIn_sub (fun _ h => List.mem_cons_of_mem _ (List.mem_append_left _ (List.mem_append_left _ (List.mem_append_right _ h)))) (by decide +kernel))
set_option maxRecDepth 20000 in
theorem gL_change_X4_armyOf : GoodIn wsL_change (wsV RL 21 RX4 yX4_armyOf wsX4_armyOf) := goodIn_app (goodIn_of _ (by decide +kernel)) ggL_change_X4_armyOf
set_option maxRecDepth 20000 in
theorem ggL_change_L_beside : GoodIn wsL_change wsL_beside := goodIn_r _ [54] rfl (by decide +kernel)
set_option maxRecDepth 20000 in
theorem gL_change_L_beside : GoodIn wsL_change (va_wsS RL 24 yL_beside wsL_beside) := goodIn_app (goodIn_of _ (by decide +kernel)) ggL_change_L_beside
set_option maxRecDepth 20000 in
theorem ggL_change_X4_field : GoodIn wsL_change wsX4_field := goodIn_ca (goodIn_ca (goodIn_r _ [58, 45, 46, 6, 7, 59, 60, 4, 61, 62, 63, 64, 65, 12, 66, 67, 68, 17, 69, 24, 15, 16, 18, 19, 25, 26, 27, 28, 29, 70, 71, 72, 73, 74, 75, 76, 77, 78, 79, 80, 81, 82, 83, 84, 85, 86, 87, 357, 358, 359, 360, 361, 362, 363, 364, 365, 366, 367] rfl (by decide +kernel)) (goodIn_sub (fun _ h => List.mem_cons_of_mem _ (List.mem_append_left _ (List.mem_append_right _ h))) (by decide +kernel))) (goodIn_sub (fun _ h => List.mem_cons_of_mem _ (List.mem_append_left _ (List.mem_append_left _ (List.mem_append_right _ h)))) (by decide +kernel))
set_option maxRecDepth 20000 in
theorem gL_change_X4_field : GoodIn wsL_change (wsV RL 27 RX4 yX4_field wsX4_field) := goodIn_app (goodIn_of _ (by decide +kernel)) ggL_change_X4_field
set_option maxRecDepth 20000 in
theorem ggL_change_X4_army : GoodIn wsL_change wsX4_army := goodIn_ca (goodIn_ca (goodIn_r _ [91, 45, 46, 92, 93, 12, 13, 94, 95, 4, 96, 59, 60, 61, 66, 67, 68, 17, 69, 24, 15, 16, 18, 19, 25, 26, 27, 28, 29, 14, 97, 98, 99, 33, 100, 35, 101, 102, 103, 104, 105, 106, 107, 108, 109, 110, 111, 112, 113, 114, 77, 115, 116, 117, 118, 119, 120, 121, 122, 123, 124, 357, 358, 359, 360, 361, 362, 363, 364, 365, 366, 367, 368, 369, 370] rfl (by decide +kernel)) (goodIn_sub (fun _ h => List.mem_cons_of_mem _ (List.mem_append_left _ (List.mem_append_right _ h))) (by decide +kernel))) (goodIn_sub (fun _ h => List.mem_cons_of_mem _ (List.mem_append_right _ h)) (by decide +kernel))
set_option maxRecDepth 20000 in
theorem gL_change_X4_army : GoodIn wsL_change (wsV RL 30 RX4 yX4_army wsX4_army) := goodIn_app (goodIn_of _ (by decide +kernel)) ggL_change_X4_army
set_option maxRecDepth 20000 in
theorem ggL_change_X4_move : GoodIn wsL_change wsX4_move := goodIn_ca (goodIn_ca (goodIn_r _ [128, 45, 46, 6, 7, 12, 13, 47, 48, 49, 17, 50, 24, 15, 16, 18, 19, 59, 60, 4, 61, 129, 130, 131, 132, 133, 25, 26, 27, 28, 29, 82, 83, 97, 98, 99, 33, 100, 35, 101, 102, 103, 104, 105, 106, 107, 108, 109, 110, 111, 112, 113, 114, 77, 134, 135, 136, 137, 119, 120, 121, 122, 357, 358, 359, 360, 361, 362, 363, 364, 365, 366, 367, 368, 369, 370] rfl (by decide +kernel)) (goodIn_sub (fun _ h => List.mem_cons_of_mem _ (List.mem_append_left _ (List.mem_append_right _ h))) (by decide +kernel))) (goodIn_sub (fun _ h => List.mem_cons_of_mem _ (List.mem_append_left _ (List.mem_append_left _ (List.mem_append_right _ h)))) (by decide +kernel))
set_option maxRecDepth 20000 in
theorem gL_change_X4_move : GoodIn wsL_change (wsV RL 33 RX4 yX4_move wsX4_move) := goodIn_app (goodIn_of _ (by decide +kernel)) ggL_change_X4_move
set_option maxRecDepth 20000 in
theorem ggL_change_X4_support : GoodIn wsL_change wsX4_support := goodIn_ca (goodIn_ca (goodIn_r _ [141, 45, 46, 6, 7, 12, 13, 47, 48, 49, 17, 50, 24, 15, 16, 18, 19, 59, 60, 4, 61, 129, 130, 131, 132, 133, 25, 26, 27, 28, 29, 82, 83, 97, 98, 99, 33, 100, 35, 101, 102, 103, 104, 105, 106, 107, 108, 109, 110, 111, 112, 113, 114, 77, 134, 135, 136, 137, 119, 120, 121, 122, 357, 358, 359, 360, 361, 362, 363, 364, 365, 366, 367, 368, 369, 370] rfl (by decide +kernel)) (goodIn_sub (fun _ h => List.mem_cons_of_mem _ (List.mem_append_left _ (List.mem_append_right _ h))) (by decide +kernel))) (goodIn_sub (fun _ h => List.mem_cons_of_mem _ (List.mem_append_left _ (List.mem_append_left _ (List.mem_append_right _ h)))) (by decide +kernel))
set_option maxRecDepth 20000 in
theorem gL_change_X4_support : GoodIn wsL_change (wsV RL 36 RX4 yX4_support wsX4_support) := goodIn_app (goodIn_of _ (by decide +kernel)) ggL_change_X4_support
set_option maxRecDepth 20000 in
theorem ggL_change_X4_hold : GoodIn wsL_change wsX4_hold := goodIn_ca (goodIn_r _ [145, 45, 46, 12, 13, 47, 48, 49, 17, 50, 24, 15, 16, 18, 19, 97, 98, 99, 33, 100, 35, 101, 102, 103, 104, 105, 106, 107, 108, 109, 110, 111, 112, 113, 114, 77, 29, 134, 135, 136, 137, 25, 26, 27, 28, 119, 120, 121, 122, 357, 358, 359, 360, 361, 362, 363, 364, 365, 366, 367, 368, 369, 370] rfl (by decide +kernel)) (goodIn_sub (fun _ h => List.mem_cons_of_mem _ (List.mem_append_left _ (List.mem_append_right _ h))) (by decide +kernel))
set_option maxRecDepth 20000 in
theorem gL_change_X4_hold : GoodIn wsL_change (wsV RL 40 RX4 yX4_hold wsX4_hold) := goodIn_app (goodIn_of _ (by decide +kernel)) ggL_change_X4_hold
set_option maxRecDepth 20000 in
theorem ggL_change_X4_drop : GoodIn wsL_change wsX4_drop := goodIn_ca (goodIn_r _ [149, 45, 46, 12, 13, 47, 48, 49, 17, 50, 24, 15, 16, 18, 19, 97, 98, 99, 33, 100, 35, 101, 102, 103, 104, 105, 106, 107, 108, 109, 110, 111, 112, 113, 114, 77, 29, 150, 151, 152, 153, 25, 26, 27, 28, 119, 120, 121, 122, 123, 4, 124, 14, 357, 358, 359, 360, 361, 362, 363, 364, 365, 366, 367, 368, 369, 370] rfl (by decide +kernel)) (goodIn_sub (fun _ h => List.mem_cons_of_mem _ (List.mem_append_left _ (List.mem_append_right _ h))) (by decide +kernel))
set_option maxRecDepth 20000 in
theorem gL_change_X4_drop : GoodIn wsL_change (wsV RL 43 RX4 yX4_drop wsX4_drop) := goodIn_app (goodIn_of _ (by decide +kernel)) ggL_change_X4_drop
set_option maxRecDepth 20000 in
theorem ggL_change_L_opens : GoodIn wsL_change wsL_opens := goodIn_ca (goodIn_ca (goodIn_r _ [156, 157, 1, 2, 3, 4, 5, 6, 7, 8, 9, 10, 11, 12, 13, 14, 15, 16, 17, 18, 19, 20, 21, 22, 23, 24, 25, 26, 27, 28, 29, 30, 31, 32, 33, 34, 35, 158, 159, 160, 161, 45, 46, 162, 94, 95, 96, 163, 164, 165, 166, 167, 168, 169, 170, 171, 172, 173, 174, 175, 176, 177, 178, 179, 180, 181, 182, 183, 184, 185, 186, 187, 188, 189, 190, 191, 192, 193, 67, 68, 69, 123, 124, 194, 195, 196, 197, 198, 199, 200, 201, 202, 203, 204, 205, 206, 207, 208, 209, 210, 211, 212, 213, 214, 215, 216, 217, 218, 219, 220, 221, 222, 223, 224, 225, 226, 227, 228, 229, 230, 231, 232, 233, 234, 235, 236, 237, 238, 239, 240, 241, 242, 243, 244, 245, 246, 247, 248, 249, 250, 251, 252, 82, 83, 253, 254, 255, 256, 257, 258, 259, 260, 261, 262, 263, 264, 71, 72, 265, 266, 267, 268, 269, 74, 75, 76, 77, 270, 271, 272, 273, 47, 48, 49, 50, 274, 275, 276, 277, 41, 42, 43, 44, 51, 278, 279, 280, 281, 97, 98, 99, 100, 101, 102, 103, 104, 105, 106, 107, 108, 109, 110, 111, 112, 113, 114, 282, 283, 284, 285, 286, 287, 288, 289, 290, 120, 121, 122, 291, 292, 293, 294, 295, 296, 297, 298, 299, 135, 136, 137, 119, 300, 151, 152, 153, 301, 302, 303, 304, 305, 306, 307, 308, 309, 310, 311, 312, 313, 314, 315, 316, 317, 318, 319, 320, 321, 322, 323, 324, 325, 326, 327, 328, 329, 330, 331, 332, 333, 116, 117, 118, 334, 335, 336, 337, 338, 339, 340, 341, 342, 343, 344, 345, 346, 347, 85, 86, 87, 348, 349, 350, 351, 352, 353, 354, 355, 356, 357, 358, 359, 360, 361, 362, 363, 364, 365, 366, 367, 368, 369, 370, 371, 372, 373, 374, 375, 376, 377, 378] rfl (by decide +kernel)) (goodIn_sub (fun _ h => List.mem_cons_of_mem _ (List.mem_append_left _ (List.mem_append_left _ (List.mem_append_right _ h)))) (by decide +kernel))) (goodIn_sub (fun _ h => List.mem_cons_of_mem _ (List.mem_append_left _ (List.mem_append_right _ h))) (by decide +kernel))
set_option maxRecDepth 20000 in
theorem gL_change_L_opens : GoodIn wsL_change (va_wsS RL 46 yL_opens wsL_opens) := goodIn_app (goodIn_of _ (by decide +kernel)) ggL_change_L_opens
theorem dL_change_0 : decode cL_change 0 = .ok (.aload_n 0, 1) := by decide +kernel
theorem dL_change_1 : decode cL_change 1 = .ok (.iconst 0, 1) := by decide +kernel
theorem dL_change_2 : decode cL_change 2 = .ok (.invokevirtual 9, 3) := by decide +kernel
theorem dL_change_5 : decode cL_change 5 = .ok (.istore_n 3, 1) := by decide +kernel
theorem dL_change_6 : decode cL_change 6 = .ok (.iload_n 2, 1) := by decide +kernel
theorem dL_change_7 : decode cL_change 7 = .ok (.iload_n 3, 1) := by decide +kernel
theorem dL_change_8 : decode cL_change 8 = .ok (.ifCond .ne 7, 3) := by decide +kernel
theorem dL_change_11 : decode cL_change 11 = .ok (.iconst 1, 1) := by decide +kernel
theorem dL_change_12 : decode cL_change 12 = .ok (.goto 4, 3) := by decide +kernel
theorem dL_change_15 : decode cL_change 15 = .ok (.iload_n 3, 1) := by decide +kernel
theorem dL_change_16 : decode cL_change 16 = .ok (.invokestatic 15, 3) := by decide +kernel
theorem dL_change_19 : decode cL_change 19 = .ok (.istore 4, 2) := by decide +kernel
theorem dL_change_21 : decode cL_change 21 = .ok (.iload_n 3, 1) := by decide +kernel
theorem dL_change_22 : decode cL_change 22 = .ok (.ifCond .ne 7, 3) := by decide +kernel
theorem dL_change_25 : decode cL_change 25 = .ok (.iconst 0, 1) := by decide +kernel
theorem dL_change_26 : decode cL_change 26 = .ok (.goto 10, 3) := by decide +kernel
theorem dL_change_29 : decode cL_change 29 = .ok (.aload_n 0, 1) := by decide +kernel
theorem dL_change_30 : decode cL_change 30 = .ok (.iload 4, 2) := by decide +kernel
theorem dL_change_32 : decode cL_change 32 = .ok (.iconst 2, 1) := by decide +kernel
theorem dL_change_33 : decode cL_change 33 = .ok (.invokevirtual 21, 3) := by decide +kernel
theorem dL_change_36 : decode cL_change 36 = .ok (.istore 5, 2) := by decide +kernel
theorem dL_change_38 : decode cL_change 38 = .ok (.iload_n 3, 1) := by decide +kernel
theorem dL_change_39 : decode cL_change 39 = .ok (.ifCond .ne 7, 3) := by decide +kernel
theorem dL_change_42 : decode cL_change 42 = .ok (.iconst 0, 1) := by decide +kernel
theorem dL_change_43 : decode cL_change 43 = .ok (.goto 10, 3) := by decide +kernel
theorem dL_change_46 : decode cL_change 46 = .ok (.aload_n 0, 1) := by decide +kernel
theorem dL_change_47 : decode cL_change 47 = .ok (.iload 4, 2) := by decide +kernel
theorem dL_change_49 : decode cL_change 49 = .ok (.iconst 1, 1) := by decide +kernel
theorem dL_change_50 : decode cL_change 50 = .ok (.invokevirtual 21, 3) := by decide +kernel
theorem dL_change_53 : decode cL_change 53 = .ok (.istore 6, 2) := by decide +kernel
theorem dL_change_55 : decode cL_change 55 = .ok (.iload 6, 2) := by decide +kernel
theorem dL_change_57 : decode cL_change 57 = .ok (.iload_n 2, 1) := by decide +kernel
theorem dL_change_58 : decode cL_change 58 = .ok (.iconst 4, 1) := by decide +kernel
theorem dL_change_59 : decode cL_change 59 = .ok (.ishr, 1) := by decide +kernel
theorem dL_change_60 : decode cL_change 60 = .ok (.invokestatic 24, 3) := by decide +kernel
theorem dL_change_63 : decode cL_change 63 = .ok (.istore 7, 2) := by decide +kernel
theorem dL_change_65 : decode cL_change 65 = .ok (.iload_n 1, 1) := by decide +kernel
theorem dL_change_66 : decode cL_change 66 = .ok (.bipush 14, 2) := by decide +kernel
theorem dL_change_68 : decode cL_change 68 = .ok (.invokestatic 15, 3) := by decide +kernel
theorem dL_change_71 : decode cL_change 71 = .ok (.tableswitch 315 0 11 #[61, 61, 61, 135, 135, 135, 135, 181, 181, 181, 254, 286], 61) := by decide +kernel
theorem dL_change_132 : decode cL_change 132 = .ok (.iload_n 2, 1) := by decide +kernel
theorem dL_change_133 : decode cL_change 133 = .ok (.bipush 12, 2) := by decide +kernel
theorem dL_change_135 : decode cL_change 135 = .ok (.invokestatic 15, 3) := by decide +kernel
theorem dL_change_138 : decode cL_change 138 = .ok (.istore 8, 2) := by decide +kernel
theorem dL_change_140 : decode cL_change 140 = .ok (.iload_n 3, 1) := by decide +kernel
theorem dL_change_141 : decode cL_change 141 = .ok (.bipush 9, 2) := by decide +kernel
theorem dL_change_143 : decode cL_change 143 = .ok (.if_icmp .eq 57, 3) := by decide +kernel
theorem dL_change_146 : decode cL_change 146 = .ok (.aload_n 0, 1) := by decide +kernel
theorem dL_change_147 : decode cL_change 147 = .ok (.iload 8, 2) := by decide +kernel
theorem dL_change_149 : decode cL_change 149 = .ok (.iconst 0, 1) := by decide +kernel
theorem dL_change_150 : decode cL_change 150 = .ok (.invokevirtual 27, 3) := by decide +kernel
theorem dL_change_153 : decode cL_change 153 = .ok (.ifCond .ge 47, 3) := by decide +kernel
theorem dL_change_156 : decode cL_change 156 = .ok (.aload_n 0, 1) := by decide +kernel
theorem dL_change_157 : decode cL_change 157 = .ok (.iload_n 2, 1) := by decide +kernel
theorem dL_change_158 : decode cL_change 158 = .ok (.iconst 4, 1) := by decide +kernel
theorem dL_change_159 : decode cL_change 159 = .ok (.ishr, 1) := by decide +kernel
theorem dL_change_160 : decode cL_change 160 = .ok (.iconst 3, 1) := by decide +kernel
theorem dL_change_161 : decode cL_change 161 = .ok (.invokestatic 15, 3) := by decide +kernel
theorem dL_change_164 : decode cL_change 164 = .ok (.iload 8, 2) := by decide +kernel
theorem dL_change_166 : decode cL_change 166 = .ok (.invokevirtual 30, 3) := by decide +kernel
theorem dL_change_169 : decode cL_change 169 = .ok (.iload_n 3, 1) := by decide +kernel
theorem dL_change_170 : decode cL_change 170 = .ok (.if_icmp .ne 34, 3) := by decide +kernel
theorem dL_change_173 : decode cL_change 173 = .ok (.aload_n 0, 1) := by decide +kernel
theorem dL_change_174 : decode cL_change 174 = .ok (.iload 8, 2) := by decide +kernel
theorem dL_change_176 : decode cL_change 176 = .ok (.iconst 0, 1) := by decide +kernel
theorem dL_change_177 : decode cL_change 177 = .ok (.invokevirtual 27, 3) := by decide +kernel
theorem dL_change_180 : decode cL_change 180 = .ok (.iload_n 3, 1) := by decide +kernel
theorem dL_change_181 : decode cL_change 181 = .ok (.if_icmp .ne 23, 3) := by decide +kernel
theorem dL_change_184 : decode cL_change 184 = .ok (.aload_n 0, 1) := by decide +kernel
theorem dL_change_185 : decode cL_change 185 = .ok (.iload_n 3, 1) := by decide +kernel
theorem dL_change_186 : decode cL_change 186 = .ok (.iconst 0, 1) := by decide +kernel
theorem dL_change_187 : decode cL_change 187 = .ok (.invokevirtual 21, 3) := by decide +kernel
theorem dL_change_190 : decode cL_change 190 = .ok (.iload_n 2, 1) := by decide +kernel
theorem dL_change_191 : decode cL_change 191 = .ok (.iconst 4, 1) := by decide +kernel
theorem dL_change_192 : decode cL_change 192 = .ok (.ishr, 1) := by decide +kernel
theorem dL_change_193 : decode cL_change 193 = .ok (.iconst 3, 1) := by decide +kernel
theorem dL_change_194 : decode cL_change 194 = .ok (.invokestatic 15, 3) := by decide +kernel
theorem dL_change_197 : decode cL_change 197 = .ok (.if_icmp .ne 7, 3) := by decide +kernel
theorem dL_change_200 : decode cL_change 200 = .ok (.iconst 1, 1) := by decide +kernel
theorem dL_change_201 : decode cL_change 201 = .ok (.goto 4, 3) := by decide +kernel
theorem dL_change_204 : decode cL_change 204 = .ok (.iconst 0, 1) := by decide +kernel
theorem dL_change_205 : decode cL_change 205 = .ok (.ireturn, 1) := by decide +kernel
theorem dL_change_206 : decode cL_change 206 = .ok (.iload_n 3, 1) := by decide +kernel
theorem dL_change_207 : decode cL_change 207 = .ok (.ifCond .eq 39, 3) := by decide +kernel
theorem dL_change_210 : decode cL_change 210 = .ok (.aload_n 0, 1) := by decide +kernel
theorem dL_change_211 : decode cL_change 211 = .ok (.iload 4, 2) := by decide +kernel
theorem dL_change_213 : decode cL_change 213 = .ok (.iload 7, 2) := by decide +kernel
theorem dL_change_215 : decode cL_change 215 = .ok (.invokevirtual 33, 3) := by decide +kernel
theorem dL_change_218 : decode cL_change 218 = .ok (.iload 5, 2) := by decide +kernel
theorem dL_change_220 : decode cL_change 220 = .ok (.if_icmp .ne 30, 3) := by decide +kernel
theorem dL_change_223 : decode cL_change 223 = .ok (.aload_n 0, 1) := by decide +kernel
theorem dL_change_224 : decode cL_change 224 = .ok (.iload 4, 2) := by decide +kernel
theorem dL_change_226 : decode cL_change 226 = .ok (.iconst 3, 1) := by decide +kernel
theorem dL_change_227 : decode cL_change 227 = .ok (.invokevirtual 21, 3) := by decide +kernel
theorem dL_change_230 : decode cL_change 230 = .ok (.iload 7, 2) := by decide +kernel
theorem dL_change_232 : decode cL_change 232 = .ok (.if_icmp .ne 18, 3) := by decide +kernel
theorem dL_change_235 : decode cL_change 235 = .ok (.aload_n 0, 1) := by decide +kernel
theorem dL_change_236 : decode cL_change 236 = .ok (.iload 4, 2) := by decide +kernel
theorem dL_change_238 : decode cL_change 238 = .ok (.iconst 2, 1) := by decide +kernel
theorem dL_change_239 : decode cL_change 239 = .ok (.invokevirtual 21, 3) := by decide +kernel
theorem dL_change_242 : decode cL_change 242 = .ok (.iconst 1, 1) := by decide +kernel
theorem dL_change_243 : decode cL_change 243 = .ok (.if_icmp .ne 7, 3) := by decide +kernel
theorem dL_change_246 : decode cL_change 246 = .ok (.iconst 1, 1) := by decide +kernel
theorem dL_change_247 : decode cL_change 247 = .ok (.goto 4, 3) := by decide +kernel
theorem dL_change_250 : decode cL_change 250 = .ok (.iconst 0, 1) := by decide +kernel
theorem dL_change_251 : decode cL_change 251 = .ok (.ireturn, 1) := by decide +kernel
theorem dL_change_252 : decode cL_change 252 = .ok (.iload_n 2, 1) := by decide +kernel
theorem dL_change_253 : decode cL_change 253 = .ok (.bipush 6, 2) := by decide +kernel
theorem dL_change_255 : decode cL_change 255 = .ok (.ishr, 1) := by decide +kernel
theorem dL_change_256 : decode cL_change 256 = .ok (.iconst 3, 1) := by decide +kernel
theorem dL_change_257 : decode cL_change 257 = .ok (.iand, 1) := by decide +kernel
theorem dL_change_258 : decode cL_change 258 = .ok (.ifCond .ne 8, 3) := by decide +kernel
theorem dL_change_261 : decode cL_change 261 = .ok (.iload 7, 2) := by decide +kernel
theorem dL_change_263 : decode cL_change 263 = .ok (.goto 12, 3) := by decide +kernel
theorem dL_change_266 : decode cL_change 266 = .ok (.iload 7, 2) := by decide +kernel
theorem dL_change_268 : decode cL_change 268 = .ok (.iload_n 2, 1) := by decide +kernel
theorem dL_change_269 : decode cL_change 269 = .ok (.bipush 8, 2) := by decide +kernel
theorem dL_change_271 : decode cL_change 271 = .ok (.ishr, 1) := by decide +kernel
theorem dL_change_272 : decode cL_change 272 = .ok (.invokestatic 24, 3) := by decide +kernel
theorem dL_change_275 : decode cL_change 275 = .ok (.istore 9, 2) := by decide +kernel
theorem dL_change_277 : decode cL_change 277 = .ok (.iload_n 3, 1) := by decide +kernel
theorem dL_change_278 : decode cL_change 278 = .ok (.ifCond .eq 41, 3) := by decide +kernel
theorem dL_change_281 : decode cL_change 281 = .ok (.aload_n 0, 1) := by decide +kernel
theorem dL_change_282 : decode cL_change 282 = .ok (.iload 4, 2) := by decide +kernel
theorem dL_change_284 : decode cL_change 284 = .ok (.iload 9, 2) := by decide +kernel
theorem dL_change_286 : decode cL_change 286 = .ok (.iload 7, 2) := by decide +kernel
theorem dL_change_288 : decode cL_change 288 = .ok (.invokevirtual 36, 3) := by decide +kernel
theorem dL_change_291 : decode cL_change 291 = .ok (.iload 5, 2) := by decide +kernel
theorem dL_change_293 : decode cL_change 293 = .ok (.if_icmp .ne 30, 3) := by decide +kernel
theorem dL_change_296 : decode cL_change 296 = .ok (.aload_n 0, 1) := by decide +kernel
theorem dL_change_297 : decode cL_change 297 = .ok (.iload 4, 2) := by decide +kernel
theorem dL_change_299 : decode cL_change 299 = .ok (.iconst 4, 1) := by decide +kernel
theorem dL_change_300 : decode cL_change 300 = .ok (.invokevirtual 21, 3) := by decide +kernel
theorem dL_change_303 : decode cL_change 303 = .ok (.iload 9, 2) := by decide +kernel
theorem dL_change_305 : decode cL_change 305 = .ok (.if_icmp .ne 18, 3) := by decide +kernel
theorem dL_change_308 : decode cL_change 308 = .ok (.aload_n 0, 1) := by decide +kernel
theorem dL_change_309 : decode cL_change 309 = .ok (.iload 4, 2) := by decide +kernel
theorem dL_change_311 : decode cL_change 311 = .ok (.iconst 2, 1) := by decide +kernel
theorem dL_change_312 : decode cL_change 312 = .ok (.invokevirtual 21, 3) := by decide +kernel
theorem dL_change_315 : decode cL_change 315 = .ok (.iconst 2, 1) := by decide +kernel
theorem dL_change_316 : decode cL_change 316 = .ok (.if_icmp .ne 7, 3) := by decide +kernel
theorem dL_change_319 : decode cL_change 319 = .ok (.iconst 1, 1) := by decide +kernel
theorem dL_change_320 : decode cL_change 320 = .ok (.goto 4, 3) := by decide +kernel
theorem dL_change_323 : decode cL_change 323 = .ok (.iconst 0, 1) := by decide +kernel
theorem dL_change_324 : decode cL_change 324 = .ok (.ireturn, 1) := by decide +kernel
theorem dL_change_325 : decode cL_change 325 = .ok (.iload_n 3, 1) := by decide +kernel
theorem dL_change_326 : decode cL_change 326 = .ok (.ifCond .eq 25, 3) := by decide +kernel
theorem dL_change_329 : decode cL_change 329 = .ok (.aload_n 0, 1) := by decide +kernel
theorem dL_change_330 : decode cL_change 330 = .ok (.iload 4, 2) := by decide +kernel
theorem dL_change_332 : decode cL_change 332 = .ok (.invokevirtual 40, 3) := by decide +kernel
theorem dL_change_335 : decode cL_change 335 = .ok (.iload 5, 2) := by decide +kernel
theorem dL_change_337 : decode cL_change 337 = .ok (.if_icmp .ne 18, 3) := by decide +kernel
theorem dL_change_340 : decode cL_change 340 = .ok (.aload_n 0, 1) := by decide +kernel
theorem dL_change_341 : decode cL_change 341 = .ok (.iload 4, 2) := by decide +kernel
theorem dL_change_343 : decode cL_change 343 = .ok (.iconst 3, 1) := by decide +kernel
theorem dL_change_344 : decode cL_change 344 = .ok (.invokevirtual 21, 3) := by decide +kernel
theorem dL_change_347 : decode cL_change 347 = .ok (.iconst (-1), 1) := by decide +kernel
theorem dL_change_348 : decode cL_change 348 = .ok (.if_icmp .ne 7, 3) := by decide +kernel
theorem dL_change_351 : decode cL_change 351 = .ok (.iconst 1, 1) := by decide +kernel
theorem dL_change_352 : decode cL_change 352 = .ok (.goto 4, 3) := by decide +kernel
theorem dL_change_355 : decode cL_change 355 = .ok (.iconst 0, 1) := by decide +kernel
theorem dL_change_356 : decode cL_change 356 = .ok (.ireturn, 1) := by decide +kernel
theorem dL_change_357 : decode cL_change 357 = .ok (.iload_n 3, 1) := by decide +kernel
theorem dL_change_358 : decode cL_change 358 = .ok (.ifCond .eq 22, 3) := by decide +kernel
theorem dL_change_361 : decode cL_change 361 = .ok (.iload_n 2, 1) := by decide +kernel
theorem dL_change_362 : decode cL_change 362 = .ok (.bipush 12, 2) := by decide +kernel
theorem dL_change_364 : decode cL_change 364 = .ok (.iand, 1) := by decide +kernel
theorem dL_change_365 : decode cL_change 365 = .ok (.ifCond .ne 15, 3) := by decide +kernel
theorem dL_change_368 : decode cL_change 368 = .ok (.aload_n 0, 1) := by decide +kernel
theorem dL_change_369 : decode cL_change 369 = .ok (.iload 4, 2) := by decide +kernel
theorem dL_change_371 : decode cL_change 371 = .ok (.invokevirtual 43, 3) := by decide +kernel
theorem dL_change_374 : decode cL_change 374 = .ok (.iload_n 3, 1) := by decide +kernel
theorem dL_change_375 : decode cL_change 375 = .ok (.iconst 1, 1) := by decide +kernel
theorem dL_change_376 : decode cL_change 376 = .ok (.isub, 1) := by decide +kernel
theorem dL_change_377 : decode cL_change 377 = .ok (.if_icmp .ne 7, 3) := by decide +kernel
theorem dL_change_380 : decode cL_change 380 = .ok (.iconst 1, 1) := by decide +kernel
theorem dL_change_381 : decode cL_change 381 = .ok (.goto 4, 3) := by decide +kernel
theorem dL_change_384 : decode cL_change 384 = .ok (.iconst 0, 1) := by decide +kernel
theorem dL_change_385 : decode cL_change 385 = .ok (.ireturn, 1) := by decide +kernel
theorem dL_change_386 : decode cL_change 386 = .ok (.aload_n 0, 1) := by decide +kernel
theorem dL_change_387 : decode cL_change 387 = .ok (.invokestatic 46, 3) := by decide +kernel
theorem dL_change_390 : decode cL_change 390 = .ok (.ireturn, 1) := by decide +kernel
set_option maxRecDepth 20000 in
theorem ggL_opens_X4_count : GoodIn wsL_opens wsX4_count := goodIn_ca (goodIn_r _ [6, 7, 8, 9, 10, 11, 5, 12, 13, 14, 15, 16, 17, 18, 19, 20, 21, 22, 23, 24, 25, 26, 27, 28, 29, 30, 31, 32, 33, 34, 35, 36, 297, 298, 299, 300, 301, 302, 303, 304, 305, 306, 307, 308, 309, 310] rfl (by decide +kernel)) (goodIn_sub (fun _ h => List.mem_cons_of_mem _ (List.mem_append_left _ (List.mem_append_right _ h))) (by decide +kernel))
set_option maxRecDepth 20000 in
theorem gL_opens_X4_count : GoodIn wsL_opens (wsV RL 9 RX4 yX4_count wsX4_count) := goodIn_app (goodIn_of _ (by decide +kernel)) ggL_opens_X4_count
set_option maxRecDepth 20000 in
theorem ggL_opens_X4_ifYear : GoodIn wsL_opens wsX4_ifYear := goodIn_ca (goodIn_r _ [40, 41, 42, 43, 44, 45, 5, 46, 47, 48, 49, 50, 51, 52, 53, 54, 55, 56, 57, 58, 59, 60, 61, 62, 63, 16, 17, 18, 19, 20, 64, 27, 28, 29, 30, 65, 66, 67, 68, 69, 70, 71, 72, 73, 74, 75, 76, 77, 78, 79, 80, 25, 26, 81, 82, 83, 84, 85, 86, 87, 88, 89, 90, 91, 92, 93, 94, 95, 96, 97, 98, 99, 100, 101, 102, 103, 104, 105, 106, 107, 108, 109, 110, 111, 112, 113, 114, 115, 116, 117, 118, 119, 120, 121, 122, 123, 124, 125, 126, 127, 128, 129, 130, 131, 132, 133, 134, 135, 136, 137, 138, 139, 140, 141, 142, 143, 144, 145, 146, 147, 148, 149, 150, 151, 152, 153, 154, 155, 156, 157, 158, 159, 160, 161, 162, 163, 164, 165, 166, 297, 298, 299, 300, 301, 302, 303, 304, 311, 312, 313, 314, 315, 316, 317, 318, 305, 306, 307] rfl (by decide +kernel)) (goodIn_sub (fun _ h => List.mem_cons_of_mem _ (List.mem_append_right _ h)) (by decide +kernel))
set_option maxRecDepth 20000 in
theorem gL_opens_X4_ifYear : GoodIn wsL_opens (wsV RL 50 RX4 yX4_ifYear wsX4_ifYear) := goodIn_app (goodIn_of _ (by decide +kernel)) ggL_opens_X4_ifYear
set_option maxRecDepth 20000 in
theorem ggL_opens_X4_ifOpened : GoodIn wsL_opens wsX4_ifOpened := goodIn_ca (goodIn_ca (goodIn_r _ [170, 41, 42, 7, 8, 13, 43, 171, 172, 173, 18, 174, 25, 16, 17, 19, 20, 47, 48, 49, 50, 51, 52, 53, 54, 55, 56, 57, 58, 59, 60, 61, 62, 63, 64, 27, 28, 29, 30, 65, 66, 67, 68, 69, 70, 71, 72, 73, 74, 75, 76, 77, 78, 79, 80, 26, 81, 5, 82, 83, 84, 85, 86, 87, 88, 89, 90, 91, 92, 93, 94, 95, 96, 97, 98, 99, 100, 101, 102, 103, 104, 105, 106, 107, 108, 109, 110, 111, 112, 113, 114, 115, 116, 117, 118, 119, 120, 121, 122, 123, 124, 125, 126, 127, 128, 129, 130, 131, 132, 133, 134, 135, 136, 137, 138, 139, 140, 141, 142, 143, 144, 145, 146, 147, 148, 149, 150, 151, 175, 176, 177, 178, 297, 298, 299, 300, 301, 302, 303, 304, 305, 306, 307, 311, 312, 313, 314, 315, 316, 317, 318] rfl (by decide +kernel)) (goodIn_sub (fun _ h => List.mem_cons_of_mem _ (List.mem_append_right _ h)) (by decide +kernel))) (goodIn_sub (fun _ h => List.mem_cons_of_mem _ (List.mem_append_left _ (List.mem_append_right _ h))) (by decide +kernel))
set_option maxRecDepth 20000 in
theorem gL_opens_X4_ifOpened : GoodIn wsL_opens (wsV RL 53 RX4 yX4_ifOpened wsX4_ifOpened) := goodIn_app (goodIn_of _ (by decide +kernel)) ggL_opens_X4_ifOpened
set_option maxRecDepth 20000 in
theorem ggL_opens_X4_armyOf : GoodIn wsL_opens wsX4_armyOf := goodIn_ca (goodIn_ca (goodIn_r _ [182, 41, 42, 7, 8, 13, 171, 172, 173, 18, 174, 25, 16, 17, 19, 20, 183, 27, 28, 29, 30, 297, 298, 299, 300, 301, 302, 303, 304, 305, 306, 307] rfl (by decide +kernel)) (goodIn_sub (fun _ h => List.mem_cons_of_mem _ (List.mem_append_right _ h)) (by decide +kernel))) (goodIn_sub (fun _ h => List.mem_cons_of_mem _ (List.mem_append_left _ (List.mem_append_right _ h))) (by decide +kernel))
set_option maxRecDepth 20000 in
theorem gL_opens_X4_armyOf : GoodIn wsL_opens (wsV RL 21 RX4 yX4_armyOf wsX4_armyOf) := goodIn_app (goodIn_of _ (by decide +kernel)) ggL_opens_X4_armyOf
set_option maxRecDepth 20000 in
theorem ggL_opens_X4_open : GoodIn wsL_opens wsX4_open := goodIn_r _ [187, 14, 13, 43, 188, 189, 190, 34, 191, 36, 192, 193, 194, 195, 196, 197, 198, 199, 200, 18, 201, 20, 202, 203, 204, 205, 166, 30, 47, 48, 49, 50, 51, 52, 53, 54, 55, 56, 57, 58, 59, 60, 61, 62, 63, 16, 17, 19, 64, 27, 28, 29, 65, 66, 67, 68, 69, 70, 71, 72, 73, 74, 75, 76, 77, 78, 79, 80, 25, 26, 81, 5, 82, 83, 84, 85, 86, 87, 88, 89, 90, 91, 92, 93, 94, 95, 96, 97, 98, 99, 100, 101, 102, 103, 104, 105, 106, 107, 108, 109, 110, 111, 112, 113, 114, 115, 116, 117, 118, 119, 120, 121, 122, 123, 124, 125, 126, 127, 128, 129, 130, 131, 132, 133, 134, 135, 136, 137, 138, 139, 140, 141, 142, 143, 144, 145, 146, 147, 148, 149, 150, 151, 206, 207, 208, 209, 210, 211, 212, 213, 214, 215, 216, 217, 218, 219, 220, 221, 222, 223, 224, 225, 226, 227, 228, 229, 230, 231, 232, 233, 234, 235, 236, 237, 238, 239, 240, 241, 242, 243, 244, 245, 246, 156, 157, 247, 248, 249, 250, 251, 163, 164, 165, 252, 253, 254, 255, 256, 257, 258, 259, 260, 261, 262, 263, 264, 265, 266, 267, 268, 269, 270, 297, 298, 299, 300, 301, 302, 303, 304, 308, 309, 310, 305, 306, 307, 311, 312, 313, 314, 315, 316, 317, 318] rfl (by decide +kernel)
set_option maxRecDepth 20000 in
theorem gL_opens_X4_open : GoodIn wsL_opens (wsV RL 56 RX4 yX4_open wsX4_open) := goodIn_app (goodIn_of _ (by decide +kernel)) ggL_opens_X4_open
set_option maxRecDepth 20000 in
theorem ggL_opens_X4_seat : GoodIn wsL_opens wsX4_seat := goodIn_ca (goodIn_ca (goodIn_r _ [274, 41, 42, 7, 8, 44, 45, 5, 46, 275, 276, 277, 278, 13, 279, 253, 254, 18, 255, 25, 16, 17, 19, 20, 26, 27, 28, 29, 30, 280, 248, 249, 250, 251, 163, 164, 165, 166, 281, 282, 283, 284, 285, 286, 287, 142, 143, 288, 289, 290, 291, 292, 293, 294, 295, 296, 297, 298, 299, 300, 301, 302, 303, 304, 305, 306, 307] rfl (by decide +kernel)) (goodIn_sub (fun _ h => List.mem_cons_of_mem _ (List.mem_append_right _ h)) (by decide +kernel))) (goodIn_sub (fun _ h => List.mem_cons_of_mem _ (List.mem_append_left _ (List.mem_append_right _ h))) (by decide +kernel))
set_option maxRecDepth 20000 in
theorem gL_opens_X4_seat : GoodIn wsL_opens (wsV RL 60 RX4 yX4_seat wsX4_seat) := goodIn_app (goodIn_of _ (by decide +kernel)) ggL_opens_X4_seat
theorem dL_opens_0 : decode cL_opens 0 = .ok (.aload_n 0, 1) := by decide +kernel
theorem dL_opens_1 : decode cL_opens 1 = .ok (.iconst 0, 1) := by decide +kernel
theorem dL_opens_2 : decode cL_opens 2 = .ok (.invokevirtual 9, 3) := by decide +kernel
theorem dL_opens_5 : decode cL_opens 5 = .ok (.istore_n 1, 1) := by decide +kernel
theorem dL_opens_6 : decode cL_opens 6 = .ok (.iconst 0, 1) := by decide +kernel
theorem dL_opens_7 : decode cL_opens 7 = .ok (.istore_n 2, 1) := by decide +kernel
theorem dL_opens_8 : decode cL_opens 8 = .ok (.iconst 0, 1) := by decide +kernel
theorem dL_opens_9 : decode cL_opens 9 = .ok (.istore_n 3, 1) := by decide +kernel
theorem dL_opens_10 : decode cL_opens 10 = .ok (.iconst 0, 1) := by decide +kernel
theorem dL_opens_11 : decode cL_opens 11 = .ok (.istore 4, 2) := by decide +kernel
theorem dL_opens_13 : decode cL_opens 13 = .ok (.aload_n 0, 1) := by decide +kernel
theorem dL_opens_14 : decode cL_opens 14 = .ok (.bipush 10, 2) := by decide +kernel
theorem dL_opens_16 : decode cL_opens 16 = .ok (.invokevirtual 9, 3) := by decide +kernel
theorem dL_opens_19 : decode cL_opens 19 = .ok (.istore 5, 2) := by decide +kernel
theorem dL_opens_21 : decode cL_opens 21 = .ok (.aload_n 0, 1) := by decide +kernel
theorem dL_opens_22 : decode cL_opens 22 = .ok (.iconst 4, 1) := by decide +kernel
theorem dL_opens_23 : decode cL_opens 23 = .ok (.invokevirtual 9, 3) := by decide +kernel
theorem dL_opens_26 : decode cL_opens 26 = .ok (.istore 6, 2) := by decide +kernel
theorem dL_opens_28 : decode cL_opens 28 = .ok (.aload_n 0, 1) := by decide +kernel
theorem dL_opens_29 : decode cL_opens 29 = .ok (.iconst 5, 1) := by decide +kernel
theorem dL_opens_30 : decode cL_opens 30 = .ok (.invokevirtual 9, 3) := by decide +kernel
theorem dL_opens_33 : decode cL_opens 33 = .ok (.istore 7, 2) := by decide +kernel
theorem dL_opens_35 : decode cL_opens 35 = .ok (.aload_n 0, 1) := by decide +kernel
theorem dL_opens_36 : decode cL_opens 36 = .ok (.iconst 2, 1) := by decide +kernel
theorem dL_opens_37 : decode cL_opens 37 = .ok (.invokevirtual 9, 3) := by decide +kernel
theorem dL_opens_40 : decode cL_opens 40 = .ok (.istore 8, 2) := by decide +kernel
theorem dL_opens_42 : decode cL_opens 42 = .ok (.aload_n 0, 1) := by decide +kernel
theorem dL_opens_43 : decode cL_opens 43 = .ok (.iconst 1, 1) := by decide +kernel
theorem dL_opens_44 : decode cL_opens 44 = .ok (.invokevirtual 9, 3) := by decide +kernel
theorem dL_opens_47 : decode cL_opens 47 = .ok (.istore 9, 2) := by decide +kernel
theorem dL_opens_49 : decode cL_opens 49 = .ok (.aload_n 0, 1) := by decide +kernel
theorem dL_opens_50 : decode cL_opens 50 = .ok (.bipush 6, 2) := by decide +kernel
theorem dL_opens_52 : decode cL_opens 52 = .ok (.invokevirtual 9, 3) := by decide +kernel
theorem dL_opens_55 : decode cL_opens 55 = .ok (.istore 10, 2) := by decide +kernel
theorem dL_opens_57 : decode cL_opens 57 = .ok (.aload_n 0, 1) := by decide +kernel
theorem dL_opens_58 : decode cL_opens 58 = .ok (.bipush 7, 2) := by decide +kernel
theorem dL_opens_60 : decode cL_opens 60 = .ok (.invokevirtual 9, 3) := by decide +kernel
theorem dL_opens_63 : decode cL_opens 63 = .ok (.istore 11, 2) := by decide +kernel
theorem dL_opens_65 : decode cL_opens 65 = .ok (.aload_n 0, 1) := by decide +kernel
theorem dL_opens_66 : decode cL_opens 66 = .ok (.bipush 8, 2) := by decide +kernel
theorem dL_opens_68 : decode cL_opens 68 = .ok (.invokevirtual 9, 3) := by decide +kernel
theorem dL_opens_71 : decode cL_opens 71 = .ok (.aload_n 0, 1) := by decide +kernel
theorem dL_opens_72 : decode cL_opens 72 = .ok (.bipush 9, 2) := by decide +kernel
theorem dL_opens_74 : decode cL_opens 74 = .ok (.invokevirtual 9, 3) := by decide +kernel
theorem dL_opens_77 : decode cL_opens 77 = .ok (.isub, 1) := by decide +kernel
theorem dL_opens_78 : decode cL_opens 78 = .ok (.istore 12, 2) := by decide +kernel
theorem dL_opens_80 : decode cL_opens 80 = .ok (.bipush 9, 2) := by decide +kernel
theorem dL_opens_82 : decode cL_opens 82 = .ok (.newarray .int, 2) := by decide +kernel
theorem dL_opens_84 : decode cL_opens 84 = .ok (.astore 13, 2) := by decide +kernel
theorem dL_opens_86 : decode cL_opens 86 = .ok (.bipush 9, 2) := by decide +kernel
theorem dL_opens_88 : decode cL_opens 88 = .ok (.newarray .int, 2) := by decide +kernel
theorem dL_opens_90 : decode cL_opens 90 = .ok (.astore 14, 2) := by decide +kernel
theorem dL_opens_92 : decode cL_opens 92 = .ok (.iconst 3, 1) := by decide +kernel
theorem dL_opens_93 : decode cL_opens 93 = .ok (.newarray .int, 2) := by decide +kernel
theorem dL_opens_95 : decode cL_opens 95 = .ok (.astore 15, 2) := by decide +kernel
theorem dL_opens_97 : decode cL_opens 97 = .ok (.iconst 0, 1) := by decide +kernel
theorem dL_opens_98 : decode cL_opens 98 = .ok (.istore 16, 2) := by decide +kernel
theorem dL_opens_100 : decode cL_opens 100 = .ok (.iload 16, 2) := by decide +kernel
theorem dL_opens_102 : decode cL_opens 102 = .ok (.iconst 3, 1) := by decide +kernel
theorem dL_opens_103 : decode cL_opens 103 = .ok (.if_icmp .ge 20, 3) := by decide +kernel
theorem dL_opens_106 : decode cL_opens 106 = .ok (.aload 15, 2) := by decide +kernel
theorem dL_opens_108 : decode cL_opens 108 = .ok (.iload 16, 2) := by decide +kernel
theorem dL_opens_110 : decode cL_opens 110 = .ok (.aload_n 0, 1) := by decide +kernel
theorem dL_opens_111 : decode cL_opens 111 = .ok (.iload 16, 2) := by decide +kernel
theorem dL_opens_113 : decode cL_opens 113 = .ok (.invokevirtual 50, 3) := by decide +kernel
theorem dL_opens_116 : decode cL_opens 116 = .ok (.iastore, 1) := by decide +kernel
theorem dL_opens_117 : decode cL_opens 117 = .ok (.iinc 16 1, 3) := by decide +kernel
theorem dL_opens_120 : decode cL_opens 120 = .ok (.goto (-20), 3) := by decide +kernel
theorem dL_opens_123 : decode cL_opens 123 = .ok (.iconst 0, 1) := by decide +kernel
theorem dL_opens_124 : decode cL_opens 124 = .ok (.istore 16, 2) := by decide +kernel
theorem dL_opens_126 : decode cL_opens 126 = .ok (.iload 16, 2) := by decide +kernel
theorem dL_opens_128 : decode cL_opens 128 = .ok (.iload_n 1, 1) := by decide +kernel
theorem dL_opens_129 : decode cL_opens 129 = .ok (.if_icmp .ge 79, 3) := by decide +kernel
theorem dL_opens_132 : decode cL_opens 132 = .ok (.iload_n 2, 1) := by decide +kernel
theorem dL_opens_133 : decode cL_opens 133 = .ok (.aload_n 0, 1) := by decide +kernel
theorem dL_opens_134 : decode cL_opens 134 = .ok (.iload 16, 2) := by decide +kernel
theorem dL_opens_136 : decode cL_opens 136 = .ok (.iconst 2, 1) := by decide +kernel
theorem dL_opens_137 : decode cL_opens 137 = .ok (.invokevirtual 53, 3) := by decide +kernel
theorem dL_opens_140 : decode cL_opens 140 = .ok (.ifCond .le 7, 3) := by decide +kernel
theorem dL_opens_143 : decode cL_opens 143 = .ok (.iconst 1, 1) := by decide +kernel
theorem dL_opens_144 : decode cL_opens 144 = .ok (.goto 4, 3) := by decide +kernel
theorem dL_opens_147 : decode cL_opens 147 = .ok (.iconst 0, 1) := by decide +kernel
theorem dL_opens_148 : decode cL_opens 148 = .ok (.iadd, 1) := by decide +kernel
theorem dL_opens_149 : decode cL_opens 149 = .ok (.istore_n 2, 1) := by decide +kernel
theorem dL_opens_150 : decode cL_opens 150 = .ok (.iload_n 3, 1) := by decide +kernel
theorem dL_opens_151 : decode cL_opens 151 = .ok (.aload_n 0, 1) := by decide +kernel
theorem dL_opens_152 : decode cL_opens 152 = .ok (.iload 16, 2) := by decide +kernel
theorem dL_opens_154 : decode cL_opens 154 = .ok (.iconst 3, 1) := by decide +kernel
theorem dL_opens_155 : decode cL_opens 155 = .ok (.invokevirtual 53, 3) := by decide +kernel
theorem dL_opens_158 : decode cL_opens 158 = .ok (.iadd, 1) := by decide +kernel
theorem dL_opens_159 : decode cL_opens 159 = .ok (.istore_n 3, 1) := by decide +kernel
theorem dL_opens_160 : decode cL_opens 160 = .ok (.aload 14, 2) := by decide +kernel
theorem dL_opens_162 : decode cL_opens 162 = .ok (.iload 16, 2) := by decide +kernel
theorem dL_opens_164 : decode cL_opens 164 = .ok (.aload_n 0, 1) := by decide +kernel
theorem dL_opens_165 : decode cL_opens 165 = .ok (.iload 16, 2) := by decide +kernel
theorem dL_opens_167 : decode cL_opens 167 = .ok (.iconst 0, 1) := by decide +kernel
theorem dL_opens_168 : decode cL_opens 168 = .ok (.invokevirtual 21, 3) := by decide +kernel
theorem dL_opens_171 : decode cL_opens 171 = .ok (.iastore, 1) := by decide +kernel
theorem dL_opens_172 : decode cL_opens 172 = .ok (.aload 13, 2) := by decide +kernel
theorem dL_opens_174 : decode cL_opens 174 = .ok (.iload 16, 2) := by decide +kernel
theorem dL_opens_176 : decode cL_opens 176 = .ok (.aload_n 0, 1) := by decide +kernel
theorem dL_opens_177 : decode cL_opens 177 = .ok (.iload 16, 2) := by decide +kernel
theorem dL_opens_179 : decode cL_opens 179 = .ok (.iconst 0, 1) := by decide +kernel
theorem dL_opens_180 : decode cL_opens 180 = .ok (.invokevirtual 53, 3) := by decide +kernel
theorem dL_opens_183 : decode cL_opens 183 = .ok (.iastore, 1) := by decide +kernel
theorem dL_opens_184 : decode cL_opens 184 = .ok (.iload 4, 2) := by decide +kernel
theorem dL_opens_186 : decode cL_opens 186 = .ok (.aload 13, 2) := by decide +kernel
theorem dL_opens_188 : decode cL_opens 188 = .ok (.iload 16, 2) := by decide +kernel
theorem dL_opens_190 : decode cL_opens 190 = .ok (.iaload, 1) := by decide +kernel
theorem dL_opens_191 : decode cL_opens 191 = .ok (.ifCond .ge 7, 3) := by decide +kernel
theorem dL_opens_194 : decode cL_opens 194 = .ok (.iconst 1, 1) := by decide +kernel
theorem dL_opens_195 : decode cL_opens 195 = .ok (.goto 4, 3) := by decide +kernel
theorem dL_opens_198 : decode cL_opens 198 = .ok (.iconst 0, 1) := by decide +kernel
theorem dL_opens_199 : decode cL_opens 199 = .ok (.iadd, 1) := by decide +kernel
theorem dL_opens_200 : decode cL_opens 200 = .ok (.istore 4, 2) := by decide +kernel
theorem dL_opens_202 : decode cL_opens 202 = .ok (.iinc 16 1, 3) := by decide +kernel
theorem dL_opens_205 : decode cL_opens 205 = .ok (.goto (-79), 3) := by decide +kernel
theorem dL_opens_208 : decode cL_opens 208 = .ok (.aload_n 0, 1) := by decide +kernel
theorem dL_opens_209 : decode cL_opens 209 = .ok (.invokevirtual 56, 3) := by decide +kernel
theorem dL_opens_212 : decode cL_opens 212 = .ok (.iload_n 2, 1) := by decide +kernel
theorem dL_opens_213 : decode cL_opens 213 = .ok (.if_icmp .ne 73, 3) := by decide +kernel
theorem dL_opens_216 : decode cL_opens 216 = .ok (.aload_n 0, 1) := by decide +kernel
theorem dL_opens_217 : decode cL_opens 217 = .ok (.iconst 4, 1) := by decide +kernel
theorem dL_opens_218 : decode cL_opens 218 = .ok (.invokevirtual 9, 3) := by decide +kernel
theorem dL_opens_221 : decode cL_opens 221 = .ok (.iload 6, 2) := by decide +kernel
theorem dL_opens_223 : decode cL_opens 223 = .ok (.iload 5, 2) := by decide +kernel
theorem dL_opens_225 : decode cL_opens 225 = .ok (.iadd, 1) := by decide +kernel
theorem dL_opens_226 : decode cL_opens 226 = .ok (.iload_n 2, 1) := by decide +kernel
theorem dL_opens_227 : decode cL_opens 227 = .ok (.isub, 1) := by decide +kernel
theorem dL_opens_228 : decode cL_opens 228 = .ok (.if_icmp .ne 58, 3) := by decide +kernel
theorem dL_opens_231 : decode cL_opens 231 = .ok (.aload_n 0, 1) := by decide +kernel
theorem dL_opens_232 : decode cL_opens 232 = .ok (.iconst 5, 1) := by decide +kernel
theorem dL_opens_233 : decode cL_opens 233 = .ok (.invokevirtual 9, 3) := by decide +kernel
theorem dL_opens_236 : decode cL_opens 236 = .ok (.iload 7, 2) := by decide +kernel
theorem dL_opens_238 : decode cL_opens 238 = .ok (.iload_n 2, 1) := by decide +kernel
theorem dL_opens_239 : decode cL_opens 239 = .ok (.iadd, 1) := by decide +kernel
theorem dL_opens_240 : decode cL_opens 240 = .ok (.if_icmp .ne 46, 3) := by decide +kernel
theorem dL_opens_243 : decode cL_opens 243 = .ok (.aload_n 0, 1) := by decide +kernel
theorem dL_opens_244 : decode cL_opens 244 = .ok (.bipush 6, 2) := by decide +kernel
theorem dL_opens_246 : decode cL_opens 246 = .ok (.invokevirtual 9, 3) := by decide +kernel
theorem dL_opens_249 : decode cL_opens 249 = .ok (.iload 10, 2) := by decide +kernel
theorem dL_opens_251 : decode cL_opens 251 = .ok (.iload_n 3, 1) := by decide +kernel
theorem dL_opens_252 : decode cL_opens 252 = .ok (.iadd, 1) := by decide +kernel
theorem dL_opens_253 : decode cL_opens 253 = .ok (.if_icmp .ne 33, 3) := by decide +kernel
theorem dL_opens_256 : decode cL_opens 256 = .ok (.aload_n 0, 1) := by decide +kernel
theorem dL_opens_257 : decode cL_opens 257 = .ok (.bipush 7, 2) := by decide +kernel
theorem dL_opens_259 : decode cL_opens 259 = .ok (.invokevirtual 9, 3) := by decide +kernel
theorem dL_opens_262 : decode cL_opens 262 = .ok (.iload 11, 2) := by decide +kernel
theorem dL_opens_264 : decode cL_opens 264 = .ok (.iload 4, 2) := by decide +kernel
theorem dL_opens_266 : decode cL_opens 266 = .ok (.iadd, 1) := by decide +kernel
theorem dL_opens_267 : decode cL_opens 267 = .ok (.if_icmp .ne 19, 3) := by decide +kernel
theorem dL_opens_270 : decode cL_opens 270 = .ok (.aload_n 0, 1) := by decide +kernel
theorem dL_opens_271 : decode cL_opens 271 = .ok (.iconst 2, 1) := by decide +kernel
theorem dL_opens_272 : decode cL_opens 272 = .ok (.invokevirtual 9, 3) := by decide +kernel
theorem dL_opens_275 : decode cL_opens 275 = .ok (.iconst 1, 1) := by decide +kernel
theorem dL_opens_276 : decode cL_opens 276 = .ok (.iload 8, 2) := by decide +kernel
theorem dL_opens_278 : decode cL_opens 278 = .ok (.isub, 1) := by decide +kernel
theorem dL_opens_279 : decode cL_opens 279 = .ok (.if_icmp .ne 7, 3) := by decide +kernel
theorem dL_opens_282 : decode cL_opens 282 = .ok (.iconst 1, 1) := by decide +kernel
theorem dL_opens_283 : decode cL_opens 283 = .ok (.goto 4, 3) := by decide +kernel
theorem dL_opens_286 : decode cL_opens 286 = .ok (.iconst 0, 1) := by decide +kernel
theorem dL_opens_287 : decode cL_opens 287 = .ok (.istore 16, 2) := by decide +kernel
theorem dL_opens_289 : decode cL_opens 289 = .ok (.iload 16, 2) := by decide +kernel
theorem dL_opens_291 : decode cL_opens 291 = .ok (.ifCond .eq 67, 3) := by decide +kernel
theorem dL_opens_294 : decode cL_opens 294 = .ok (.aload_n 0, 1) := by decide +kernel
theorem dL_opens_295 : decode cL_opens 295 = .ok (.bipush 10, 2) := by decide +kernel
theorem dL_opens_297 : decode cL_opens 297 = .ok (.invokevirtual 9, 3) := by decide +kernel
theorem dL_opens_300 : decode cL_opens 300 = .ok (.ifCond .ne 58, 3) := by decide +kernel
theorem dL_opens_303 : decode cL_opens 303 = .ok (.aload_n 0, 1) := by decide +kernel
theorem dL_opens_304 : decode cL_opens 304 = .ok (.bipush 11, 2) := by decide +kernel
theorem dL_opens_306 : decode cL_opens 306 = .ok (.invokevirtual 9, 3) := by decide +kernel
theorem dL_opens_309 : decode cL_opens 309 = .ok (.ifCond .ne 49, 3) := by decide +kernel
theorem dL_opens_312 : decode cL_opens 312 = .ok (.aload_n 0, 1) := by decide +kernel
theorem dL_opens_313 : decode cL_opens 313 = .ok (.iconst 0, 1) := by decide +kernel
theorem dL_opens_314 : decode cL_opens 314 = .ok (.invokevirtual 9, 3) := by decide +kernel
theorem dL_opens_317 : decode cL_opens 317 = .ok (.iload_n 1, 1) := by decide +kernel
theorem dL_opens_318 : decode cL_opens 318 = .ok (.iload 4, 2) := by decide +kernel
theorem dL_opens_320 : decode cL_opens 320 = .ok (.isub, 1) := by decide +kernel
theorem dL_opens_321 : decode cL_opens 321 = .ok (.aload_n 0, 1) := by decide +kernel
theorem dL_opens_322 : decode cL_opens 322 = .ok (.bipush 8, 2) := by decide +kernel
theorem dL_opens_324 : decode cL_opens 324 = .ok (.invokevirtual 9, 3) := by decide +kernel
theorem dL_opens_327 : decode cL_opens 327 = .ok (.iadd, 1) := by decide +kernel
theorem dL_opens_328 : decode cL_opens 328 = .ok (.aload_n 0, 1) := by decide +kernel
theorem dL_opens_329 : decode cL_opens 329 = .ok (.bipush 9, 2) := by decide +kernel
theorem dL_opens_331 : decode cL_opens 331 = .ok (.invokevirtual 9, 3) := by decide +kernel
theorem dL_opens_334 : decode cL_opens 334 = .ok (.isub, 1) := by decide +kernel
theorem dL_opens_335 : decode cL_opens 335 = .ok (.iload 12, 2) := by decide +kernel
theorem dL_opens_337 : decode cL_opens 337 = .ok (.isub, 1) := by decide +kernel
theorem dL_opens_338 : decode cL_opens 338 = .ok (.if_icmp .ne 20, 3) := by decide +kernel
theorem dL_opens_341 : decode cL_opens 341 = .ok (.aload_n 0, 1) := by decide +kernel
theorem dL_opens_342 : decode cL_opens 342 = .ok (.iconst 1, 1) := by decide +kernel
theorem dL_opens_343 : decode cL_opens 343 = .ok (.invokevirtual 9, 3) := by decide +kernel
theorem dL_opens_346 : decode cL_opens 346 = .ok (.iload 9, 2) := by decide +kernel
theorem dL_opens_348 : decode cL_opens 348 = .ok (.iload 8, 2) := by decide +kernel
theorem dL_opens_350 : decode cL_opens 350 = .ok (.iadd, 1) := by decide +kernel
theorem dL_opens_351 : decode cL_opens 351 = .ok (.if_icmp .ne 7, 3) := by decide +kernel
theorem dL_opens_354 : decode cL_opens 354 = .ok (.iconst 1, 1) := by decide +kernel
theorem dL_opens_355 : decode cL_opens 355 = .ok (.goto 4, 3) := by decide +kernel
theorem dL_opens_358 : decode cL_opens 358 = .ok (.iconst 0, 1) := by decide +kernel
theorem dL_opens_359 : decode cL_opens 359 = .ok (.istore 16, 2) := by decide +kernel
theorem dL_opens_361 : decode cL_opens 361 = .ok (.iconst 0, 1) := by decide +kernel
theorem dL_opens_362 : decode cL_opens 362 = .ok (.istore 17, 2) := by decide +kernel
theorem dL_opens_364 : decode cL_opens 364 = .ok (.iconst 0, 1) := by decide +kernel
theorem dL_opens_365 : decode cL_opens 365 = .ok (.istore 18, 2) := by decide +kernel
theorem dL_opens_367 : decode cL_opens 367 = .ok (.iload 18, 2) := by decide +kernel
theorem dL_opens_369 : decode cL_opens 369 = .ok (.iload_n 1, 1) := by decide +kernel
theorem dL_opens_370 : decode cL_opens 370 = .ok (.if_icmp .ge 82, 3) := by decide +kernel
theorem dL_opens_373 : decode cL_opens 373 = .ok (.iload 16, 2) := by decide +kernel
theorem dL_opens_375 : decode cL_opens 375 = .ok (.ifCond .eq 77, 3) := by decide +kernel
theorem dL_opens_378 : decode cL_opens 378 = .ok (.iload 8, 2) := by decide +kernel
theorem dL_opens_380 : decode cL_opens 380 = .ok (.ifCond .ne 72, 3) := by decide +kernel
theorem dL_opens_383 : decode cL_opens 383 = .ok (.aload 13, 2) := by decide +kernel
theorem dL_opens_385 : decode cL_opens 385 = .ok (.iload 18, 2) := by decide +kernel
theorem dL_opens_387 : decode cL_opens 387 = .ok (.iaload, 1) := by decide +kernel
theorem dL_opens_388 : decode cL_opens 388 = .ok (.ifCond .lt 33, 3) := by decide +kernel
theorem dL_opens_391 : decode cL_opens 391 = .ok (.aload_n 0, 1) := by decide +kernel
theorem dL_opens_392 : decode cL_opens 392 = .ok (.iload 17, 2) := by decide +kernel
theorem dL_opens_394 : decode cL_opens 394 = .ok (.iconst 1, 1) := by decide +kernel
theorem dL_opens_395 : decode cL_opens 395 = .ok (.invokevirtual 21, 3) := by decide +kernel
theorem dL_opens_398 : decode cL_opens 398 = .ok (.aload 13, 2) := by decide +kernel
theorem dL_opens_400 : decode cL_opens 400 = .ok (.iload 18, 2) := by decide +kernel
theorem dL_opens_402 : decode cL_opens 402 = .ok (.iaload, 1) := by decide +kernel
theorem dL_opens_403 : decode cL_opens 403 = .ok (.if_icmp .ne 22, 3) := by decide +kernel
theorem dL_opens_406 : decode cL_opens 406 = .ok (.aload_n 0, 1) := by decide +kernel
theorem dL_opens_407 : decode cL_opens 407 = .ok (.iload 17, 2) := by decide +kernel
theorem dL_opens_409 : decode cL_opens 409 = .ok (.iconst 0, 1) := by decide +kernel
theorem dL_opens_410 : decode cL_opens 410 = .ok (.invokevirtual 21, 3) := by decide +kernel
theorem dL_opens_413 : decode cL_opens 413 = .ok (.aload 14, 2) := by decide +kernel
theorem dL_opens_415 : decode cL_opens 415 = .ok (.iload 18, 2) := by decide +kernel
theorem dL_opens_417 : decode cL_opens 417 = .ok (.iaload, 1) := by decide +kernel
theorem dL_opens_418 : decode cL_opens 418 = .ok (.if_icmp .ne 7, 3) := by decide +kernel
theorem dL_opens_421 : decode cL_opens 421 = .ok (.iconst 1, 1) := by decide +kernel
theorem dL_opens_422 : decode cL_opens 422 = .ok (.goto 4, 3) := by decide +kernel
theorem dL_opens_425 : decode cL_opens 425 = .ok (.iconst 0, 1) := by decide +kernel
theorem dL_opens_426 : decode cL_opens 426 = .ok (.istore 16, 2) := by decide +kernel
theorem dL_opens_428 : decode cL_opens 428 = .ok (.iload 17, 2) := by decide +kernel
theorem dL_opens_430 : decode cL_opens 430 = .ok (.aload 13, 2) := by decide +kernel
theorem dL_opens_432 : decode cL_opens 432 = .ok (.iload 18, 2) := by decide +kernel
theorem dL_opens_434 : decode cL_opens 434 = .ok (.iaload, 1) := by decide +kernel
theorem dL_opens_435 : decode cL_opens 435 = .ok (.ifCond .ge 7, 3) := by decide +kernel
theorem dL_opens_438 : decode cL_opens 438 = .ok (.iconst 0, 1) := by decide +kernel
theorem dL_opens_439 : decode cL_opens 439 = .ok (.goto 4, 3) := by decide +kernel
theorem dL_opens_442 : decode cL_opens 442 = .ok (.iconst 1, 1) := by decide +kernel
theorem dL_opens_443 : decode cL_opens 443 = .ok (.iadd, 1) := by decide +kernel
theorem dL_opens_444 : decode cL_opens 444 = .ok (.istore 17, 2) := by decide +kernel
theorem dL_opens_446 : decode cL_opens 446 = .ok (.iinc 18 1, 3) := by decide +kernel
theorem dL_opens_449 : decode cL_opens 449 = .ok (.goto (-82), 3) := by decide +kernel
theorem dL_opens_452 : decode cL_opens 452 = .ok (.iconst 0, 1) := by decide +kernel
theorem dL_opens_453 : decode cL_opens 453 = .ok (.istore 18, 2) := by decide +kernel
theorem dL_opens_455 : decode cL_opens 455 = .ok (.iload 18, 2) := by decide +kernel
theorem dL_opens_457 : decode cL_opens 457 = .ok (.iconst 3, 1) := by decide +kernel
theorem dL_opens_458 : decode cL_opens 458 = .ok (.if_icmp .ge 59, 3) := by decide +kernel
theorem dL_opens_461 : decode cL_opens 461 = .ok (.iload 16, 2) := by decide +kernel
theorem dL_opens_463 : decode cL_opens 463 = .ok (.ifCond .eq 54, 3) := by decide +kernel
theorem dL_opens_466 : decode cL_opens 466 = .ok (.iload 8, 2) := by decide +kernel
theorem dL_opens_468 : decode cL_opens 468 = .ok (.iconst 1, 1) := by decide +kernel
theorem dL_opens_469 : decode cL_opens 469 = .ok (.if_icmp .ne 48, 3) := by decide +kernel
theorem dL_opens_472 : decode cL_opens 472 = .ok (.aload_n 0, 1) := by decide +kernel
theorem dL_opens_473 : decode cL_opens 473 = .ok (.iload 18, 2) := by decide +kernel
theorem dL_opens_475 : decode cL_opens 475 = .ok (.iconst 1, 1) := by decide +kernel
theorem dL_opens_476 : decode cL_opens 476 = .ok (.invokevirtual 60, 3) := by decide +kernel
theorem dL_opens_479 : decode cL_opens 479 = .ok (.aload 15, 2) := by decide +kernel
theorem dL_opens_481 : decode cL_opens 481 = .ok (.iload 18, 2) := by decide +kernel
theorem dL_opens_483 : decode cL_opens 483 = .ok (.iaload, 1) := by decide +kernel
theorem dL_opens_484 : decode cL_opens 484 = .ok (.if_icmp .ne 24, 3) := by decide +kernel
theorem dL_opens_487 : decode cL_opens 487 = .ok (.aload_n 0, 1) := by decide +kernel
theorem dL_opens_488 : decode cL_opens 488 = .ok (.iload 18, 2) := by decide +kernel
theorem dL_opens_490 : decode cL_opens 490 = .ok (.iconst 0, 1) := by decide +kernel
theorem dL_opens_491 : decode cL_opens 491 = .ok (.invokevirtual 60, 3) := by decide +kernel
theorem dL_opens_494 : decode cL_opens 494 = .ok (.aload 15, 2) := by decide +kernel
theorem dL_opens_496 : decode cL_opens 496 = .ok (.iload 18, 2) := by decide +kernel
theorem dL_opens_498 : decode cL_opens 498 = .ok (.iaload, 1) := by decide +kernel
theorem dL_opens_499 : decode cL_opens 499 = .ok (.iconst 1, 1) := by decide +kernel
theorem dL_opens_500 : decode cL_opens 500 = .ok (.iadd, 1) := by decide +kernel
theorem dL_opens_501 : decode cL_opens 501 = .ok (.if_icmp .gt 7, 3) := by decide +kernel
theorem dL_opens_504 : decode cL_opens 504 = .ok (.iconst 1, 1) := by decide +kernel
theorem dL_opens_505 : decode cL_opens 505 = .ok (.goto 4, 3) := by decide +kernel
theorem dL_opens_508 : decode cL_opens 508 = .ok (.iconst 0, 1) := by decide +kernel
theorem dL_opens_509 : decode cL_opens 509 = .ok (.istore 16, 2) := by decide +kernel
theorem dL_opens_511 : decode cL_opens 511 = .ok (.iinc 18 1, 3) := by decide +kernel
theorem dL_opens_514 : decode cL_opens 514 = .ok (.goto (-59), 3) := by decide +kernel
theorem dL_opens_517 : decode cL_opens 517 = .ok (.iload 16, 2) := by decide +kernel
theorem dL_opens_519 : decode cL_opens 519 = .ok (.ireturn, 1) := by decide +kernel
set_option maxRecDepth 20000 in
theorem ggL_isArmy_X4_armyOf : GoodIn wsL_isArmy wsX4_armyOf := goodIn_ca (goodIn_ca (goodIn_r _ [5, 6, 7, 8, 9, 10, 11, 12, 13, 14, 15, 16, 17, 18, 19, 20, 21, 22, 23, 24, 25, 226, 227, 228, 229, 230, 231, 232, 233, 234, 235, 236] rfl (by decide +kernel)) (goodIn_sub (fun _ h => List.mem_cons_of_mem _ (List.mem_append_left _ (List.mem_append_right _ h))) (by decide +kernel))) (goodIn_sub (fun _ h => List.mem_cons_of_mem _ (List.mem_append_right _ h)) (by decide +kernel))
set_option maxRecDepth 20000 in
theorem gL_isArmy_X4_armyOf : GoodIn wsL_isArmy (wsV RL 21 RX4 yX4_armyOf wsX4_armyOf) := goodIn_app (goodIn_of _ (by decide +kernel)) ggL_isArmy_X4_armyOf
set_option maxRecDepth 20000 in
theorem ggL_isArmy_X4_ifOpened : GoodIn wsL_isArmy wsX4_ifOpened := goodIn_ca (goodIn_ca (goodIn_r _ [29, 6, 7, 8, 9, 10, 30, 11, 12, 13, 14, 15, 16, 17, 18, 19, 20, 31, 32, 33, 34, 35, 36, 37, 38, 39, 40, 41, 42, 43, 44, 45, 46, 47, 48, 22, 23, 24, 25, 49, 50, 51, 52, 53, 54, 55, 56, 57, 58, 59, 60, 61, 62, 63, 64, 65, 66, 4, 67, 68, 69, 70, 71, 72, 73, 74, 75, 76, 77, 78, 79, 80, 81, 82, 83, 84, 85, 86, 87, 88, 89, 90, 91, 92, 93, 94, 95, 96, 97, 98, 99, 100, 101, 102, 103, 104, 105, 106, 107, 108, 109, 110, 111, 112, 113, 114, 115, 116, 117, 118, 119, 120, 121, 122, 123, 124, 125, 126, 127, 128, 129, 130, 131, 132, 133, 134, 135, 136, 137, 138, 139, 140, 226, 227, 228, 229, 230, 231, 232, 233, 234, 235, 236, 237, 238, 239, 240, 241, 242, 243, 244] rfl (by decide +kernel)) (goodIn_sub (fun _ h => List.mem_cons_of_mem _ (List.mem_append_left _ (List.mem_append_right _ h))) (by decide +kernel))) (goodIn_sub (fun _ h => List.mem_cons_of_mem _ (List.mem_append_right _ h)) (by decide +kernel))
set_option maxRecDepth 20000 in
theorem gL_isArmy_X4_ifOpened : GoodIn wsL_isArmy (wsV RL 53 RX4 yX4_ifOpened wsX4_ifOpened) := goodIn_app (goodIn_of _ (by decide +kernel)) ggL_isArmy_X4_ifOpened
set_option maxRecDepth 20000 in
theorem ggL_isArmy_X4_field : GoodIn wsL_isArmy wsX4_field := goodIn_ca (goodIn_ca (goodIn_r _ [144, 6, 7, 8, 9, 145, 146, 4, 147, 148, 149, 150, 151, 10, 152, 62, 63, 14, 64, 16, 17, 18, 19, 20, 65, 22, 23, 24, 25, 153, 154, 155, 156, 157, 158, 159, 160, 161, 162, 163, 164, 127, 128, 165, 166, 167, 168, 226, 227, 228, 229, 230, 231, 232, 233, 234, 235, 236] rfl (by decide +kernel)) (goodIn_sub (fun _ h => List.mem_cons_of_mem _ (List.mem_append_left _ (List.mem_append_right _ h))) (by decide +kernel))) (goodIn_sub (fun _ h => List.mem_cons_of_mem _ (List.mem_append_right _ h)) (by decide +kernel))
set_option maxRecDepth 20000 in
theorem gL_isArmy_X4_field : GoodIn wsL_isArmy (wsV RL 27 RX4 yX4_field wsX4_field) := goodIn_app (goodIn_of _ (by decide +kernel)) ggL_isArmy_X4_field
set_option maxRecDepth 20000 in
theorem ggL_isArmy_X4_canReach : GoodIn wsL_isArmy wsX4_canReach := goodIn_ca (goodIn_r _ [172, 6, 7, 10, 11, 12, 13, 14, 15, 16, 17, 18, 19, 20, 173, 174, 175, 4, 176, 177, 178, 179, 180, 181, 182, 183, 184, 185, 186, 160, 25, 187, 188, 189, 190, 191, 65, 22, 23, 24, 127, 128, 192, 193, 194, 195, 196, 197, 198, 199, 200, 37, 38, 34, 39, 40, 41, 42, 43, 44, 45, 46, 47, 48, 49, 50, 51, 52, 53, 54, 55, 56, 57, 58, 59, 60, 61, 62, 63, 64, 66, 67, 68, 69, 70, 71, 72, 73, 74, 75, 76, 77, 78, 79, 80, 81, 82, 83, 84, 85, 86, 87, 88, 89, 90, 91, 92, 93, 94, 95, 96, 97, 98, 99, 100, 101, 102, 103, 201, 226, 227, 228, 229, 230, 231, 232, 233, 234, 235, 236, 237, 238, 239, 240, 241, 242, 243, 244] rfl (by decide +kernel)) (goodIn_sub (fun _ h => List.mem_cons_of_mem _ (List.mem_append_left _ (List.mem_append_right _ h))) (by decide +kernel))
set_option maxRecDepth 20000 in
theorem gL_isArmy_X4_canReach : GoodIn wsL_isArmy (wsV RL 63 RX4 yX4_canReach wsX4_canReach) := goodIn_app (goodIn_of _ (by decide +kernel)) ggL_isArmy_X4_canReach
set_option maxRecDepth 20000 in
theorem ggL_isArmy_L_succeeds : GoodIn wsL_isArmy wsL_succeeds := goodIn_ca (goodIn_ca (goodIn_r _ [205, 26, 27, 28, 4, 29, 6, 7, 8, 9, 10, 30, 11, 12, 13, 14, 15, 16, 17, 18, 19, 20, 31, 32, 33, 34, 35, 36, 37, 38, 39, 40, 41, 42, 43, 44, 45, 46, 47, 48, 22, 23, 24, 25, 49, 50, 51, 52, 53, 54, 55, 56, 57, 58, 59, 60, 61, 62, 63, 64, 65, 66, 67, 68, 69, 70, 71, 72, 73, 74, 75, 76, 77, 78, 79, 80, 81, 82, 83, 84, 85, 86, 87, 88, 89, 90, 91, 92, 93, 94, 95, 96, 97, 98, 99, 100, 101, 102, 103, 104, 105, 106, 107, 108, 109, 110, 111, 112, 113, 114, 115, 116, 117, 118, 119, 120, 121, 122, 123, 124, 125, 126, 127, 128, 129, 130, 131, 132, 133, 134, 135, 136, 137, 138, 139, 140, 206, 207, 208, 209, 210, 211, 212, 213, 214, 215, 216, 217, 218, 219, 220, 221, 222, 223, 224, 225, 1, 2, 3, 5, 21, 141, 142, 143, 144, 145, 146, 147, 148, 149, 150, 151, 152, 153, 154, 155, 156, 157, 158, 159, 160, 161, 162, 163, 164, 165, 166, 167, 168, 226, 227, 228, 229, 230, 231, 232, 233, 234, 235, 236, 237, 238, 239, 240, 241, 242, 243, 244, 245, 246, 247] rfl (by decide +kernel)) (goodIn_sub (fun _ h => List.mem_cons_of_mem _ (List.mem_append_left _ (List.mem_append_right _ h))) (by decide +kernel))) (goodIn_sub (fun _ h => List.mem_cons_of_mem _ (List.mem_append_right _ h)) (by decide +kernel))
set_option maxRecDepth 20000 in
theorem gL_isArmy_L_succeeds : GoodIn wsL_isArmy (va_wsS RL 66 yL_succeeds wsL_succeeds) := goodIn_app (goodIn_of _ (by decide +kernel)) ggL_isArmy_L_succeeds
theorem dL_isArmy_0 : decode cL_isArmy 0 = .ok (.aload_n 0, 1) := by decide +kernel
theorem dL_isArmy_1 : decode cL_isArmy 1 = .ok (.iload_n 1, 1) := by decide +kernel
theorem dL_isArmy_2 : decode cL_isArmy 2 = .ok (.iconst 2, 1) := by decide +kernel
theorem dL_isArmy_3 : decode cL_isArmy 3 = .ok (.invokevirtual 21, 3) := by decide +kernel
theorem dL_isArmy_6 : decode cL_isArmy 6 = .ok (.istore_n 2, 1) := by decide +kernel
theorem dL_isArmy_7 : decode cL_isArmy 7 = .ok (.aload_n 0, 1) := by decide +kernel
theorem dL_isArmy_8 : decode cL_isArmy 8 = .ok (.iload_n 1, 1) := by decide +kernel
theorem dL_isArmy_9 : decode cL_isArmy 9 = .ok (.iconst 1, 1) := by decide +kernel
theorem dL_isArmy_10 : decode cL_isArmy 10 = .ok (.invokevirtual 21, 3) := by decide +kernel
theorem dL_isArmy_13 : decode cL_isArmy 13 = .ok (.istore_n 3, 1) := by decide +kernel
theorem dL_isArmy_14 : decode cL_isArmy 14 = .ok (.aload_n 0, 1) := by decide +kernel
theorem dL_isArmy_15 : decode cL_isArmy 15 = .ok (.iload_n 1, 1) := by decide +kernel
theorem dL_isArmy_16 : decode cL_isArmy 16 = .ok (.iconst 3, 1) := by decide +kernel
theorem dL_isArmy_17 : decode cL_isArmy 17 = .ok (.invokevirtual 21, 3) := by decide +kernel
theorem dL_isArmy_20 : decode cL_isArmy 20 = .ok (.istore 4, 2) := by decide +kernel
theorem dL_isArmy_22 : decode cL_isArmy 22 = .ok (.aload_n 0, 1) := by decide +kernel
theorem dL_isArmy_23 : decode cL_isArmy 23 = .ok (.iload_n 1, 1) := by decide +kernel
theorem dL_isArmy_24 : decode cL_isArmy 24 = .ok (.iconst 2, 1) := by decide +kernel
theorem dL_isArmy_25 : decode cL_isArmy 25 = .ok (.invokevirtual 53, 3) := by decide +kernel
theorem dL_isArmy_28 : decode cL_isArmy 28 = .ok (.istore 5, 2) := by decide +kernel
theorem dL_isArmy_30 : decode cL_isArmy 30 = .ok (.aload_n 0, 1) := by decide +kernel
theorem dL_isArmy_31 : decode cL_isArmy 31 = .ok (.iload_n 1, 1) := by decide +kernel
theorem dL_isArmy_32 : decode cL_isArmy 32 = .ok (.iconst 0, 1) := by decide +kernel
theorem dL_isArmy_33 : decode cL_isArmy 33 = .ok (.invokevirtual 53, 3) := by decide +kernel
theorem dL_isArmy_36 : decode cL_isArmy 36 = .ok (.istore 6, 2) := by decide +kernel
theorem dL_isArmy_38 : decode cL_isArmy 38 = .ok (.aload_n 0, 1) := by decide +kernel
theorem dL_isArmy_39 : decode cL_isArmy 39 = .ok (.iload_n 3, 1) := by decide +kernel
theorem dL_isArmy_40 : decode cL_isArmy 40 = .ok (.iconst 0, 1) := by decide +kernel
theorem dL_isArmy_41 : decode cL_isArmy 41 = .ok (.invokevirtual 27, 3) := by decide +kernel
theorem dL_isArmy_44 : decode cL_isArmy 44 = .ok (.iload_n 1, 1) := by decide +kernel
theorem dL_isArmy_45 : decode cL_isArmy 45 = .ok (.if_icmp .ne 77, 3) := by decide +kernel
theorem dL_isArmy_48 : decode cL_isArmy 48 = .ok (.iload_n 2, 1) := by decide +kernel
theorem dL_isArmy_49 : decode cL_isArmy 49 = .ok (.ifCond .ne 7, 3) := by decide +kernel
theorem dL_isArmy_52 : decode cL_isArmy 52 = .ok (.iconst 1, 1) := by decide +kernel
theorem dL_isArmy_53 : decode cL_isArmy 53 = .ok (.goto 4, 3) := by decide +kernel
theorem dL_isArmy_56 : decode cL_isArmy 56 = .ok (.iconst 0, 1) := by decide +kernel
theorem dL_isArmy_57 : decode cL_isArmy 57 = .ok (.iload 4, 2) := by decide +kernel
theorem dL_isArmy_59 : decode cL_isArmy 59 = .ok (.iconst (-1), 1) := by decide +kernel
theorem dL_isArmy_60 : decode cL_isArmy 60 = .ok (.if_icmp .ne 7, 3) := by decide +kernel
theorem dL_isArmy_63 : decode cL_isArmy 63 = .ok (.iconst 1, 1) := by decide +kernel
theorem dL_isArmy_64 : decode cL_isArmy 64 = .ok (.goto 4, 3) := by decide +kernel
theorem dL_isArmy_67 : decode cL_isArmy 67 = .ok (.iconst 0, 1) := by decide +kernel
theorem dL_isArmy_68 : decode cL_isArmy 68 = .ok (.if_icmp .ne 54, 3) := by decide +kernel
theorem dL_isArmy_71 : decode cL_isArmy 71 = .ok (.iload_n 2, 1) := by decide +kernel
theorem dL_isArmy_72 : decode cL_isArmy 72 = .ok (.iconst 2, 1) := by decide +kernel
theorem dL_isArmy_73 : decode cL_isArmy 73 = .ok (.if_icmp .ne 7, 3) := by decide +kernel
theorem dL_isArmy_76 : decode cL_isArmy 76 = .ok (.iconst 1, 1) := by decide +kernel
theorem dL_isArmy_77 : decode cL_isArmy 77 = .ok (.goto 4, 3) := by decide +kernel
theorem dL_isArmy_80 : decode cL_isArmy 80 = .ok (.iconst 0, 1) := by decide +kernel
theorem dL_isArmy_81 : decode cL_isArmy 81 = .ok (.aload_n 0, 1) := by decide +kernel
theorem dL_isArmy_82 : decode cL_isArmy 82 = .ok (.iload_n 1, 1) := by decide +kernel
theorem dL_isArmy_83 : decode cL_isArmy 83 = .ok (.iconst 4, 1) := by decide +kernel
theorem dL_isArmy_84 : decode cL_isArmy 84 = .ok (.invokevirtual 21, 3) := by decide +kernel
theorem dL_isArmy_87 : decode cL_isArmy 87 = .ok (.ifCond .lt 7, 3) := by decide +kernel
theorem dL_isArmy_90 : decode cL_isArmy 90 = .ok (.iconst 1, 1) := by decide +kernel
theorem dL_isArmy_91 : decode cL_isArmy 91 = .ok (.goto 4, 3) := by decide +kernel
theorem dL_isArmy_94 : decode cL_isArmy 94 = .ok (.iconst 0, 1) := by decide +kernel
theorem dL_isArmy_95 : decode cL_isArmy 95 = .ok (.if_icmp .ne 27, 3) := by decide +kernel
theorem dL_isArmy_98 : decode cL_isArmy 98 = .ok (.iload 4, 2) := by decide +kernel
theorem dL_isArmy_100 : decode cL_isArmy 100 = .ok (.ifCond .lt 18, 3) := by decide +kernel
theorem dL_isArmy_103 : decode cL_isArmy 103 = .ok (.aload_n 0, 1) := by decide +kernel
theorem dL_isArmy_104 : decode cL_isArmy 104 = .ok (.iload_n 3, 1) := by decide +kernel
theorem dL_isArmy_105 : decode cL_isArmy 105 = .ok (.iconst 4, 1) := by decide +kernel
theorem dL_isArmy_106 : decode cL_isArmy 106 = .ok (.invokevirtual 27, 3) := by decide +kernel
theorem dL_isArmy_109 : decode cL_isArmy 109 = .ok (.iload 4, 2) := by decide +kernel
theorem dL_isArmy_111 : decode cL_isArmy 111 = .ok (.ishr, 1) := by decide +kernel
theorem dL_isArmy_112 : decode cL_isArmy 112 = .ok (.iconst 1, 1) := by decide +kernel
theorem dL_isArmy_113 : decode cL_isArmy 113 = .ok (.iand, 1) := by decide +kernel
theorem dL_isArmy_114 : decode cL_isArmy 114 = .ok (.iconst 1, 1) := by decide +kernel
theorem dL_isArmy_115 : decode cL_isArmy 115 = .ok (.if_icmp .ne 7, 3) := by decide +kernel
theorem dL_isArmy_118 : decode cL_isArmy 118 = .ok (.iconst 1, 1) := by decide +kernel
theorem dL_isArmy_119 : decode cL_isArmy 119 = .ok (.goto 4, 3) := by decide +kernel
theorem dL_isArmy_122 : decode cL_isArmy 122 = .ok (.iconst 0, 1) := by decide +kernel
theorem dL_isArmy_123 : decode cL_isArmy 123 = .ok (.istore 7, 2) := by decide +kernel
theorem dL_isArmy_125 : decode cL_isArmy 125 = .ok (.iload 7, 2) := by decide +kernel
theorem dL_isArmy_127 : decode cL_isArmy 127 = .ok (.ifCond .eq 55, 3) := by decide +kernel
theorem dL_isArmy_130 : decode cL_isArmy 130 = .ok (.iload_n 2, 1) := by decide +kernel
theorem dL_isArmy_131 : decode cL_isArmy 131 = .ok (.iconst 1, 1) := by decide +kernel
theorem dL_isArmy_132 : decode cL_isArmy 132 = .ok (.if_icmp .eq 8, 3) := by decide +kernel
theorem dL_isArmy_135 : decode cL_isArmy 135 = .ok (.iload 5, 2) := by decide +kernel
theorem dL_isArmy_137 : decode cL_isArmy 137 = .ok (.ifCond .ne 45, 3) := by decide +kernel
theorem dL_isArmy_140 : decode cL_isArmy 140 = .ok (.iload_n 2, 1) := by decide +kernel
theorem dL_isArmy_141 : decode cL_isArmy 141 = .ok (.iconst 2, 1) := by decide +kernel
theorem dL_isArmy_142 : decode cL_isArmy 142 = .ok (.if_icmp .eq 19, 3) := by decide +kernel
theorem dL_isArmy_145 : decode cL_isArmy 145 = .ok (.aload_n 0, 1) := by decide +kernel
theorem dL_isArmy_146 : decode cL_isArmy 146 = .ok (.iload_n 1, 1) := by decide +kernel
theorem dL_isArmy_147 : decode cL_isArmy 147 = .ok (.iconst 4, 1) := by decide +kernel
theorem dL_isArmy_148 : decode cL_isArmy 148 = .ok (.invokevirtual 53, 3) := by decide +kernel
theorem dL_isArmy_151 : decode cL_isArmy 151 = .ok (.aload_n 0, 1) := by decide +kernel
theorem dL_isArmy_152 : decode cL_isArmy 152 = .ok (.iload_n 1, 1) := by decide +kernel
theorem dL_isArmy_153 : decode cL_isArmy 153 = .ok (.iconst 5, 1) := by decide +kernel
theorem dL_isArmy_154 : decode cL_isArmy 154 = .ok (.invokevirtual 53, 3) := by decide +kernel
theorem dL_isArmy_157 : decode cL_isArmy 157 = .ok (.iadd, 1) := by decide +kernel
theorem dL_isArmy_158 : decode cL_isArmy 158 = .ok (.ifCond .ne 24, 3) := by decide +kernel
theorem dL_isArmy_161 : decode cL_isArmy 161 = .ok (.aload_n 0, 1) := by decide +kernel
theorem dL_isArmy_162 : decode cL_isArmy 162 = .ok (.iload_n 1, 1) := by decide +kernel
theorem dL_isArmy_163 : decode cL_isArmy 163 = .ok (.iconst 4, 1) := by decide +kernel
theorem dL_isArmy_164 : decode cL_isArmy 164 = .ok (.invokevirtual 53, 3) := by decide +kernel
theorem dL_isArmy_167 : decode cL_isArmy 167 = .ok (.aload_n 0, 1) := by decide +kernel
theorem dL_isArmy_168 : decode cL_isArmy 168 = .ok (.iload_n 1, 1) := by decide +kernel
theorem dL_isArmy_169 : decode cL_isArmy 169 = .ok (.iconst 5, 1) := by decide +kernel
theorem dL_isArmy_170 : decode cL_isArmy 170 = .ok (.invokevirtual 53, 3) := by decide +kernel
theorem dL_isArmy_173 : decode cL_isArmy 173 = .ok (.iadd, 1) := by decide +kernel
theorem dL_isArmy_174 : decode cL_isArmy 174 = .ok (.iconst 2, 1) := by decide +kernel
theorem dL_isArmy_175 : decode cL_isArmy 175 = .ok (.if_icmp .ge 7, 3) := by decide +kernel
theorem dL_isArmy_178 : decode cL_isArmy 178 = .ok (.iconst 1, 1) := by decide +kernel
theorem dL_isArmy_179 : decode cL_isArmy 179 = .ok (.goto 4, 3) := by decide +kernel
theorem dL_isArmy_182 : decode cL_isArmy 182 = .ok (.iconst 0, 1) := by decide +kernel
theorem dL_isArmy_183 : decode cL_isArmy 183 = .ok (.istore 7, 2) := by decide +kernel
theorem dL_isArmy_185 : decode cL_isArmy 185 = .ok (.iload 7, 2) := by decide +kernel
theorem dL_isArmy_187 : decode cL_isArmy 187 = .ok (.ifCond .eq 52, 3) := by decide +kernel
theorem dL_isArmy_190 : decode cL_isArmy 190 = .ok (.iload_n 2, 1) := by decide +kernel
theorem dL_isArmy_191 : decode cL_isArmy 191 = .ok (.iconst 1, 1) := by decide +kernel
theorem dL_isArmy_192 : decode cL_isArmy 192 = .ok (.if_icmp .ne 26, 3) := by decide +kernel
theorem dL_isArmy_195 : decode cL_isArmy 195 = .ok (.aload_n 0, 1) := by decide +kernel
theorem dL_isArmy_196 : decode cL_isArmy 196 = .ok (.iload_n 1, 1) := by decide +kernel
theorem dL_isArmy_197 : decode cL_isArmy 197 = .ok (.invokevirtual 63, 3) := by decide +kernel
theorem dL_isArmy_200 : decode cL_isArmy 200 = .ok (.iload 4, 2) := by decide +kernel
theorem dL_isArmy_202 : decode cL_isArmy 202 = .ok (.ishr, 1) := by decide +kernel
theorem dL_isArmy_203 : decode cL_isArmy 203 = .ok (.iconst 1, 1) := by decide +kernel
theorem dL_isArmy_204 : decode cL_isArmy 204 = .ok (.iand, 1) := by decide +kernel
theorem dL_isArmy_205 : decode cL_isArmy 205 = .ok (.iload 5, 2) := by decide +kernel
theorem dL_isArmy_207 : decode cL_isArmy 207 = .ok (.ifCond .ne 7, 3) := by decide +kernel
theorem dL_isArmy_210 : decode cL_isArmy 210 = .ok (.iconst 1, 1) := by decide +kernel
theorem dL_isArmy_211 : decode cL_isArmy 211 = .ok (.goto 4, 3) := by decide +kernel
theorem dL_isArmy_214 : decode cL_isArmy 214 = .ok (.iconst 0, 1) := by decide +kernel
theorem dL_isArmy_215 : decode cL_isArmy 215 = .ok (.if_icmp .ne 24, 3) := by decide +kernel
theorem dL_isArmy_218 : decode cL_isArmy 218 = .ok (.aload_n 0, 1) := by decide +kernel
theorem dL_isArmy_219 : decode cL_isArmy 219 = .ok (.iload_n 1, 1) := by decide +kernel
theorem dL_isArmy_220 : decode cL_isArmy 220 = .ok (.invokevirtual 63, 3) := by decide +kernel
theorem dL_isArmy_223 : decode cL_isArmy 223 = .ok (.aload_n 0, 1) := by decide +kernel
theorem dL_isArmy_224 : decode cL_isArmy 224 = .ok (.iload_n 3, 1) := by decide +kernel
theorem dL_isArmy_225 : decode cL_isArmy 225 = .ok (.iconst 4, 1) := by decide +kernel
theorem dL_isArmy_226 : decode cL_isArmy 226 = .ok (.invokevirtual 27, 3) := by decide +kernel
theorem dL_isArmy_229 : decode cL_isArmy 229 = .ok (.iconst (-1), 1) := by decide +kernel
theorem dL_isArmy_230 : decode cL_isArmy 230 = .ok (.ixor, 1) := by decide +kernel
theorem dL_isArmy_231 : decode cL_isArmy 231 = .ok (.iand, 1) := by decide +kernel
theorem dL_isArmy_232 : decode cL_isArmy 232 = .ok (.ifCond .ne 7, 3) := by decide +kernel
theorem dL_isArmy_235 : decode cL_isArmy 235 = .ok (.iconst 1, 1) := by decide +kernel
theorem dL_isArmy_236 : decode cL_isArmy 236 = .ok (.goto 4, 3) := by decide +kernel
theorem dL_isArmy_239 : decode cL_isArmy 239 = .ok (.iconst 0, 1) := by decide +kernel
theorem dL_isArmy_240 : decode cL_isArmy 240 = .ok (.istore 7, 2) := by decide +kernel
theorem dL_isArmy_242 : decode cL_isArmy 242 = .ok (.iload 7, 2) := by decide +kernel
theorem dL_isArmy_244 : decode cL_isArmy 244 = .ok (.ifCond .eq 74, 3) := by decide +kernel
theorem dL_isArmy_247 : decode cL_isArmy 247 = .ok (.iload_n 2, 1) := by decide +kernel
theorem dL_isArmy_248 : decode cL_isArmy 248 = .ok (.iconst 1, 1) := by decide +kernel
theorem dL_isArmy_249 : decode cL_isArmy 249 = .ok (.if_icmp .ne 27, 3) := by decide +kernel
theorem dL_isArmy_252 : decode cL_isArmy 252 = .ok (.iload 5, 2) := by decide +kernel
theorem dL_isArmy_254 : decode cL_isArmy 254 = .ok (.ifCond .ne 22, 3) := by decide +kernel
theorem dL_isArmy_257 : decode cL_isArmy 257 = .ok (.iload 6, 2) := by decide +kernel
theorem dL_isArmy_259 : decode cL_isArmy 259 = .ok (.iload 4, 2) := by decide +kernel
theorem dL_isArmy_261 : decode cL_isArmy 261 = .ok (.if_icmp .ne 57, 3) := by decide +kernel
theorem dL_isArmy_264 : decode cL_isArmy 264 = .ok (.aload_n 0, 1) := by decide +kernel
theorem dL_isArmy_265 : decode cL_isArmy 265 = .ok (.iload_n 1, 1) := by decide +kernel
theorem dL_isArmy_266 : decode cL_isArmy 266 = .ok (.iconst 3, 1) := by decide +kernel
theorem dL_isArmy_267 : decode cL_isArmy 267 = .ok (.invokevirtual 53, 3) := by decide +kernel
theorem dL_isArmy_270 : decode cL_isArmy 270 = .ok (.ifCond .ne 48, 3) := by decide +kernel
theorem dL_isArmy_273 : decode cL_isArmy 273 = .ok (.goto 41, 3) := by decide +kernel
theorem dL_isArmy_276 : decode cL_isArmy 276 = .ok (.aload_n 0, 1) := by decide +kernel
theorem dL_isArmy_277 : decode cL_isArmy 277 = .ok (.iload_n 1, 1) := by decide +kernel
theorem dL_isArmy_278 : decode cL_isArmy 278 = .ok (.iconst 3, 1) := by decide +kernel
theorem dL_isArmy_279 : decode cL_isArmy 279 = .ok (.invokevirtual 53, 3) := by decide +kernel
theorem dL_isArmy_282 : decode cL_isArmy 282 = .ok (.ifCond .ne 12, 3) := by decide +kernel
theorem dL_isArmy_285 : decode cL_isArmy 285 = .ok (.iload 6, 2) := by decide +kernel
theorem dL_isArmy_287 : decode cL_isArmy 287 = .ok (.iload_n 3, 1) := by decide +kernel
theorem dL_isArmy_288 : decode cL_isArmy 288 = .ok (.if_icmp .ne 30, 3) := by decide +kernel
theorem dL_isArmy_291 : decode cL_isArmy 291 = .ok (.goto 23, 3) := by decide +kernel
theorem dL_isArmy_294 : decode cL_isArmy 294 = .ok (.iload 6, 2) := by decide +kernel
theorem dL_isArmy_296 : decode cL_isArmy 296 = .ok (.ifCond .lt 18, 3) := by decide +kernel
theorem dL_isArmy_299 : decode cL_isArmy 299 = .ok (.aload_n 0, 1) := by decide +kernel
theorem dL_isArmy_300 : decode cL_isArmy 300 = .ok (.iload_n 3, 1) := by decide +kernel
theorem dL_isArmy_301 : decode cL_isArmy 301 = .ok (.iconst 4, 1) := by decide +kernel
theorem dL_isArmy_302 : decode cL_isArmy 302 = .ok (.invokevirtual 27, 3) := by decide +kernel
theorem dL_isArmy_305 : decode cL_isArmy 305 = .ok (.iload 6, 2) := by decide +kernel
theorem dL_isArmy_307 : decode cL_isArmy 307 = .ok (.ishr, 1) := by decide +kernel
theorem dL_isArmy_308 : decode cL_isArmy 308 = .ok (.iconst 1, 1) := by decide +kernel
theorem dL_isArmy_309 : decode cL_isArmy 309 = .ok (.iand, 1) := by decide +kernel
theorem dL_isArmy_310 : decode cL_isArmy 310 = .ok (.iconst 1, 1) := by decide +kernel
theorem dL_isArmy_311 : decode cL_isArmy 311 = .ok (.if_icmp .ne 7, 3) := by decide +kernel
theorem dL_isArmy_314 : decode cL_isArmy 314 = .ok (.iconst 1, 1) := by decide +kernel
theorem dL_isArmy_315 : decode cL_isArmy 315 = .ok (.goto 4, 3) := by decide +kernel
theorem dL_isArmy_318 : decode cL_isArmy 318 = .ok (.iconst 0, 1) := by decide +kernel
theorem dL_isArmy_319 : decode cL_isArmy 319 = .ok (.istore 7, 2) := by decide +kernel
theorem dL_isArmy_321 : decode cL_isArmy 321 = .ok (.iconst 0, 1) := by decide +kernel
theorem dL_isArmy_322 : decode cL_isArmy 322 = .ok (.istore 8, 2) := by decide +kernel
theorem dL_isArmy_324 : decode cL_isArmy 324 = .ok (.iload 8, 2) := by decide +kernel
theorem dL_isArmy_326 : decode cL_isArmy 326 = .ok (.iload_n 1, 1) := by decide +kernel
theorem dL_isArmy_327 : decode cL_isArmy 327 = .ok (.if_icmp .ge 49, 3) := by decide +kernel
theorem dL_isArmy_330 : decode cL_isArmy 330 = .ok (.iload 7, 2) := by decide +kernel
theorem dL_isArmy_332 : decode cL_isArmy 332 = .ok (.ifCond .eq 44, 3) := by decide +kernel
theorem dL_isArmy_335 : decode cL_isArmy 335 = .ok (.aload_n 0, 1) := by decide +kernel
theorem dL_isArmy_336 : decode cL_isArmy 336 = .ok (.iload 8, 2) := by decide +kernel
theorem dL_isArmy_338 : decode cL_isArmy 338 = .ok (.iconst 1, 1) := by decide +kernel
theorem dL_isArmy_339 : decode cL_isArmy 339 = .ok (.invokevirtual 21, 3) := by decide +kernel
theorem dL_isArmy_342 : decode cL_isArmy 342 = .ok (.iload_n 3, 1) := by decide +kernel
theorem dL_isArmy_343 : decode cL_isArmy 343 = .ok (.if_icmp .eq 24, 3) := by decide +kernel
theorem dL_isArmy_346 : decode cL_isArmy 346 = .ok (.iload 6, 2) := by decide +kernel
theorem dL_isArmy_348 : decode cL_isArmy 348 = .ok (.ifCond .lt 15, 3) := by decide +kernel
theorem dL_isArmy_351 : decode cL_isArmy 351 = .ok (.aload_n 0, 1) := by decide +kernel
theorem dL_isArmy_352 : decode cL_isArmy 352 = .ok (.iload 8, 2) := by decide +kernel
theorem dL_isArmy_354 : decode cL_isArmy 354 = .ok (.iconst 0, 1) := by decide +kernel
theorem dL_isArmy_355 : decode cL_isArmy 355 = .ok (.invokevirtual 53, 3) := by decide +kernel
theorem dL_isArmy_358 : decode cL_isArmy 358 = .ok (.iload 6, 2) := by decide +kernel
theorem dL_isArmy_360 : decode cL_isArmy 360 = .ok (.if_icmp .eq 7, 3) := by decide +kernel
theorem dL_isArmy_363 : decode cL_isArmy 363 = .ok (.iconst 1, 1) := by decide +kernel
theorem dL_isArmy_364 : decode cL_isArmy 364 = .ok (.goto 4, 3) := by decide +kernel
theorem dL_isArmy_367 : decode cL_isArmy 367 = .ok (.iconst 0, 1) := by decide +kernel
theorem dL_isArmy_368 : decode cL_isArmy 368 = .ok (.istore 7, 2) := by decide +kernel
theorem dL_isArmy_370 : decode cL_isArmy 370 = .ok (.iinc 8 1, 3) := by decide +kernel
theorem dL_isArmy_373 : decode cL_isArmy 373 = .ok (.goto (-49), 3) := by decide +kernel
theorem dL_isArmy_376 : decode cL_isArmy 376 = .ok (.iload 7, 2) := by decide +kernel
theorem dL_isArmy_378 : decode cL_isArmy 378 = .ok (.ifCond .eq 27, 3) := by decide +kernel
theorem dL_isArmy_381 : decode cL_isArmy 381 = .ok (.iload 5, 2) := by decide +kernel
theorem dL_isArmy_383 : decode cL_isArmy 383 = .ok (.ifCond .ne 18, 3) := by decide +kernel
theorem dL_isArmy_386 : decode cL_isArmy 386 = .ok (.iload_n 2, 1) := by decide +kernel
theorem dL_isArmy_387 : decode cL_isArmy 387 = .ok (.iconst 1, 1) := by decide +kernel
theorem dL_isArmy_388 : decode cL_isArmy 388 = .ok (.if_icmp .ne 13, 3) := by decide +kernel
theorem dL_isArmy_391 : decode cL_isArmy 391 = .ok (.aload_n 0, 1) := by decide +kernel
theorem dL_isArmy_392 : decode cL_isArmy 392 = .ok (.iload_n 1, 1) := by decide +kernel
theorem dL_isArmy_393 : decode cL_isArmy 393 = .ok (.iload 4, 2) := by decide +kernel
theorem dL_isArmy_395 : decode cL_isArmy 395 = .ok (.invokestatic 66, 3) := by decide +kernel
theorem dL_isArmy_398 : decode cL_isArmy 398 = .ok (.ifCond .eq 7, 3) := by decide +kernel
theorem dL_isArmy_401 : decode cL_isArmy 401 = .ok (.iconst 1, 1) := by decide +kernel
theorem dL_isArmy_402 : decode cL_isArmy 402 = .ok (.goto 4, 3) := by decide +kernel
theorem dL_isArmy_405 : decode cL_isArmy 405 = .ok (.iconst 0, 1) := by decide +kernel
theorem dL_isArmy_406 : decode cL_isArmy 406 = .ok (.ireturn, 1) := by decide +kernel
set_option maxRecDepth 20000 in
theorem ggL_succeeds_X4_ifOpened : GoodIn wsL_succeeds wsX4_ifOpened := goodIn_ca (goodIn_ca (goodIn_r _ [5, 6, 7, 8, 9, 10, 11, 12, 13, 14, 15, 16, 17, 18, 19, 20, 21, 22, 23, 24, 25, 26, 27, 28, 29, 30, 31, 32, 33, 34, 35, 36, 37, 38, 39, 40, 41, 42, 43, 44, 45, 46, 47, 48, 49, 50, 51, 52, 53, 54, 55, 56, 57, 58, 59, 60, 61, 4, 62, 63, 64, 65, 66, 67, 68, 69, 70, 71, 72, 73, 74, 75, 76, 77, 78, 79, 80, 81, 82, 83, 84, 85, 86, 87, 88, 89, 90, 91, 92, 93, 94, 95, 96, 97, 98, 99, 100, 101, 102, 103, 104, 105, 106, 107, 108, 109, 110, 111, 112, 113, 114, 115, 116, 117, 118, 119, 120, 121, 122, 123, 124, 125, 126, 127, 128, 129, 130, 131, 132, 133, 134, 135, 189, 190, 191, 192, 193, 194, 195, 196, 197, 198, 199, 200, 201, 202, 203, 204, 205, 206, 207] rfl (by decide +kernel)) (goodIn_sub (fun _ h => List.mem_cons_of_mem _ (List.mem_append_left _ (List.mem_append_right _ h))) (by decide +kernel))) (goodIn_sub (fun _ h => List.mem_cons_of_mem _ (List.mem_append_right _ h)) (by decide +kernel))
set_option maxRecDepth 20000 in
theorem gL_succeeds_X4_ifOpened : GoodIn wsL_succeeds (wsV RL 53 RX4 yX4_ifOpened wsX4_ifOpened) := goodIn_app (goodIn_of _ (by decide +kernel)) ggL_succeeds_X4_ifOpened
set_option maxRecDepth 20000 in
theorem ggL_succeeds_X4_count : GoodIn wsL_succeeds wsX4_count := goodIn_ca (goodIn_r _ [139, 8, 9, 140, 141, 142, 4, 143, 10, 144, 145, 18, 19, 15, 20, 21, 146, 147, 148, 149, 17, 60, 40, 41, 42, 43, 150, 151, 152, 153, 154, 155, 189, 190, 191, 192, 193, 194, 195, 196, 197, 198, 199, 208, 209, 210] rfl (by decide +kernel)) (goodIn_sub (fun _ h => List.mem_cons_of_mem _ (List.mem_append_right _ h)) (by decide +kernel))
set_option maxRecDepth 20000 in
theorem gL_succeeds_X4_count : GoodIn wsL_succeeds (wsV RL 9 RX4 yX4_count wsX4_count) := goodIn_app (goodIn_of _ (by decide +kernel)) ggL_succeeds_X4_count
set_option maxRecDepth 20000 in
theorem ggL_succeeds_X4_armyOf : GoodIn wsL_succeeds wsX4_armyOf := goodIn_ca (goodIn_ca (goodIn_r _ [159, 6, 7, 8, 9, 10, 12, 13, 14, 15, 16, 17, 18, 19, 20, 21, 160, 40, 41, 42, 43, 189, 190, 191, 192, 193, 194, 195, 196, 197, 198, 199] rfl (by decide +kernel)) (goodIn_sub (fun _ h => List.mem_cons_of_mem _ (List.mem_append_left _ (List.mem_append_right _ h))) (by decide +kernel))) (goodIn_sub (fun _ h => List.mem_cons_of_mem _ (List.mem_append_right _ h)) (by decide +kernel))
set_option maxRecDepth 20000 in
theorem gL_succeeds_X4_armyOf : GoodIn wsL_succeeds (wsV RL 21 RX4 yX4_armyOf wsX4_armyOf) := goodIn_app (goodIn_of _ (by decide +kernel)) ggL_succeeds_X4_armyOf
set_option maxRecDepth 20000 in
theorem ggL_succeeds_X4_field : GoodIn wsL_succeeds wsX4_field := goodIn_ca (goodIn_ca (goodIn_r _ [164, 6, 7, 8, 9, 165, 166, 4, 167, 168, 169, 170, 171, 10, 172, 57, 58, 15, 59, 17, 18, 19, 20, 21, 60, 40, 41, 42, 43, 173, 174, 175, 176, 177, 178, 179, 180, 181, 182, 183, 184, 122, 123, 185, 186, 187, 188, 189, 190, 191, 192, 193, 194, 195, 196, 197, 198, 199] rfl (by decide +kernel)) (goodIn_sub (fun _ h => List.mem_cons_of_mem _ (List.mem_append_left _ (List.mem_append_right _ h))) (by decide +kernel))) (goodIn_sub (fun _ h => List.mem_cons_of_mem _ (List.mem_append_right _ h)) (by decide +kernel))
set_option maxRecDepth 20000 in
theorem gL_succeeds_X4_field : GoodIn wsL_succeeds (wsV RL 27 RX4 yX4_field wsX4_field) := goodIn_app (goodIn_of _ (by decide +kernel)) ggL_succeeds_X4_field
theorem dL_succeeds_0 : decode cL_succeeds 0 = .ok (.aload_n 0, 1) := by decide +kernel
theorem dL_succeeds_1 : decode cL_succeeds 1 = .ok (.iload_n 1, 1) := by decide +kernel
theorem dL_succeeds_2 : decode cL_succeeds 2 = .ok (.iconst 1, 1) := by decide +kernel
theorem dL_succeeds_3 : decode cL_succeeds 3 = .ok (.invokevirtual 53, 3) := by decide +kernel
theorem dL_succeeds_6 : decode cL_succeeds 6 = .ok (.istore_n 3, 1) := by decide +kernel
theorem dL_succeeds_7 : decode cL_succeeds 7 = .ok (.iconst 1, 1) := by decide +kernel
theorem dL_succeeds_8 : decode cL_succeeds 8 = .ok (.istore 4, 2) := by decide +kernel
theorem dL_succeeds_10 : decode cL_succeeds 10 = .ok (.iconst 0, 1) := by decide +kernel
theorem dL_succeeds_11 : decode cL_succeeds 11 = .ok (.istore 5, 2) := by decide +kernel
theorem dL_succeeds_13 : decode cL_succeeds 13 = .ok (.iload 5, 2) := by decide +kernel
theorem dL_succeeds_15 : decode cL_succeeds 15 = .ok (.aload_n 0, 1) := by decide +kernel
theorem dL_succeeds_16 : decode cL_succeeds 16 = .ok (.iconst 0, 1) := by decide +kernel
theorem dL_succeeds_17 : decode cL_succeeds 17 = .ok (.invokevirtual 9, 3) := by decide +kernel
theorem dL_succeeds_20 : decode cL_succeeds 20 = .ok (.if_icmp .ge 71, 3) := by decide +kernel
theorem dL_succeeds_23 : decode cL_succeeds 23 = .ok (.iload 4, 2) := by decide +kernel
theorem dL_succeeds_25 : decode cL_succeeds 25 = .ok (.ifCond .eq 66, 3) := by decide +kernel
theorem dL_succeeds_28 : decode cL_succeeds 28 = .ok (.iload 5, 2) := by decide +kernel
theorem dL_succeeds_30 : decode cL_succeeds 30 = .ok (.iload_n 1, 1) := by decide +kernel
theorem dL_succeeds_31 : decode cL_succeeds 31 = .ok (.if_icmp .eq 47, 3) := by decide +kernel
theorem dL_succeeds_34 : decode cL_succeeds 34 = .ok (.aload_n 0, 1) := by decide +kernel
theorem dL_succeeds_35 : decode cL_succeeds 35 = .ok (.iload 5, 2) := by decide +kernel
theorem dL_succeeds_37 : decode cL_succeeds 37 = .ok (.iconst 2, 1) := by decide +kernel
theorem dL_succeeds_38 : decode cL_succeeds 38 = .ok (.invokevirtual 21, 3) := by decide +kernel
theorem dL_succeeds_41 : decode cL_succeeds 41 = .ok (.iconst 1, 1) := by decide +kernel
theorem dL_succeeds_42 : decode cL_succeeds 42 = .ok (.if_icmp .ne 36, 3) := by decide +kernel
theorem dL_succeeds_45 : decode cL_succeeds 45 = .ok (.aload_n 0, 1) := by decide +kernel
theorem dL_succeeds_46 : decode cL_succeeds 46 = .ok (.iload 5, 2) := by decide +kernel
theorem dL_succeeds_48 : decode cL_succeeds 48 = .ok (.iconst 3, 1) := by decide +kernel
theorem dL_succeeds_49 : decode cL_succeeds 49 = .ok (.invokevirtual 21, 3) := by decide +kernel
theorem dL_succeeds_52 : decode cL_succeeds 52 = .ok (.iload_n 2, 1) := by decide +kernel
theorem dL_succeeds_53 : decode cL_succeeds 53 = .ok (.if_icmp .ne 25, 3) := by decide +kernel
theorem dL_succeeds_56 : decode cL_succeeds 56 = .ok (.aload_n 0, 1) := by decide +kernel
theorem dL_succeeds_57 : decode cL_succeeds 57 = .ok (.iload 5, 2) := by decide +kernel
theorem dL_succeeds_59 : decode cL_succeeds 59 = .ok (.iconst 1, 1) := by decide +kernel
theorem dL_succeeds_60 : decode cL_succeeds 60 = .ok (.invokevirtual 53, 3) := by decide +kernel
theorem dL_succeeds_63 : decode cL_succeeds 63 = .ok (.iload_n 3, 1) := by decide +kernel
theorem dL_succeeds_64 : decode cL_succeeds 64 = .ok (.if_icmp .ge 18, 3) := by decide +kernel
theorem dL_succeeds_67 : decode cL_succeeds 67 = .ok (.aload_n 0, 1) := by decide +kernel
theorem dL_succeeds_68 : decode cL_succeeds 68 = .ok (.iload 5, 2) := by decide +kernel
theorem dL_succeeds_70 : decode cL_succeeds 70 = .ok (.iconst 2, 1) := by decide +kernel
theorem dL_succeeds_71 : decode cL_succeeds 71 = .ok (.invokevirtual 53, 3) := by decide +kernel
theorem dL_succeeds_74 : decode cL_succeeds 74 = .ok (.iconst 1, 1) := by decide +kernel
theorem dL_succeeds_75 : decode cL_succeeds 75 = .ok (.if_icmp .ne 7, 3) := by decide +kernel
theorem dL_succeeds_78 : decode cL_succeeds 78 = .ok (.iconst 1, 1) := by decide +kernel
theorem dL_succeeds_79 : decode cL_succeeds 79 = .ok (.goto 4, 3) := by decide +kernel
theorem dL_succeeds_82 : decode cL_succeeds 82 = .ok (.iconst 0, 1) := by decide +kernel
theorem dL_succeeds_83 : decode cL_succeeds 83 = .ok (.istore 4, 2) := by decide +kernel
theorem dL_succeeds_85 : decode cL_succeeds 85 = .ok (.iinc 5 1, 3) := by decide +kernel
theorem dL_succeeds_88 : decode cL_succeeds 88 = .ok (.goto (-75), 3) := by decide +kernel
theorem dL_succeeds_91 : decode cL_succeeds 91 = .ok (.aload_n 0, 1) := by decide +kernel
theorem dL_succeeds_92 : decode cL_succeeds 92 = .ok (.iload_n 2, 1) := by decide +kernel
theorem dL_succeeds_93 : decode cL_succeeds 93 = .ok (.iconst 0, 1) := by decide +kernel
theorem dL_succeeds_94 : decode cL_succeeds 94 = .ok (.invokevirtual 27, 3) := by decide +kernel
theorem dL_succeeds_97 : decode cL_succeeds 97 = .ok (.istore 5, 2) := by decide +kernel
theorem dL_succeeds_99 : decode cL_succeeds 99 = .ok (.iload 5, 2) := by decide +kernel
theorem dL_succeeds_101 : decode cL_succeeds 101 = .ok (.ifCond .lt 28, 3) := by decide +kernel
theorem dL_succeeds_104 : decode cL_succeeds 104 = .ok (.aload_n 0, 1) := by decide +kernel
theorem dL_succeeds_105 : decode cL_succeeds 105 = .ok (.iload 5, 2) := by decide +kernel
theorem dL_succeeds_107 : decode cL_succeeds 107 = .ok (.iconst 2, 1) := by decide +kernel
theorem dL_succeeds_108 : decode cL_succeeds 108 = .ok (.invokevirtual 21, 3) := by decide +kernel
theorem dL_succeeds_111 : decode cL_succeeds 111 = .ok (.iconst 1, 1) := by decide +kernel
theorem dL_succeeds_112 : decode cL_succeeds 112 = .ok (.if_icmp .ne 17, 3) := by decide +kernel
theorem dL_succeeds_115 : decode cL_succeeds 115 = .ok (.aload_n 0, 1) := by decide +kernel
theorem dL_succeeds_116 : decode cL_succeeds 116 = .ok (.iload 5, 2) := by decide +kernel
theorem dL_succeeds_118 : decode cL_succeeds 118 = .ok (.iconst 2, 1) := by decide +kernel
theorem dL_succeeds_119 : decode cL_succeeds 119 = .ok (.invokevirtual 53, 3) := by decide +kernel
theorem dL_succeeds_122 : decode cL_succeeds 122 = .ok (.ifCond .ne 7, 3) := by decide +kernel
theorem dL_succeeds_125 : decode cL_succeeds 125 = .ok (.iconst 1, 1) := by decide +kernel
theorem dL_succeeds_126 : decode cL_succeeds 126 = .ok (.goto 4, 3) := by decide +kernel
theorem dL_succeeds_129 : decode cL_succeeds 129 = .ok (.iconst 0, 1) := by decide +kernel
theorem dL_succeeds_130 : decode cL_succeeds 130 = .ok (.istore 6, 2) := by decide +kernel
theorem dL_succeeds_132 : decode cL_succeeds 132 = .ok (.iload 4, 2) := by decide +kernel
theorem dL_succeeds_134 : decode cL_succeeds 134 = .ok (.ifCond .eq 70, 3) := by decide +kernel
theorem dL_succeeds_137 : decode cL_succeeds 137 = .ok (.iload 5, 2) := by decide +kernel
theorem dL_succeeds_139 : decode cL_succeeds 139 = .ok (.ifCond .lt 61, 3) := by decide +kernel
theorem dL_succeeds_142 : decode cL_succeeds 142 = .ok (.iload 6, 2) := by decide +kernel
theorem dL_succeeds_144 : decode cL_succeeds 144 = .ok (.ifCond .ne 56, 3) := by decide +kernel
theorem dL_succeeds_147 : decode cL_succeeds 147 = .ok (.aload_n 0, 1) := by decide +kernel
theorem dL_succeeds_148 : decode cL_succeeds 148 = .ok (.iload 5, 2) := by decide +kernel
theorem dL_succeeds_150 : decode cL_succeeds 150 = .ok (.iconst 3, 1) := by decide +kernel
theorem dL_succeeds_151 : decode cL_succeeds 151 = .ok (.invokevirtual 53, 3) := by decide +kernel
theorem dL_succeeds_154 : decode cL_succeeds 154 = .ok (.iconst 1, 1) := by decide +kernel
theorem dL_succeeds_155 : decode cL_succeeds 155 = .ok (.if_icmp .ne 49, 3) := by decide +kernel
theorem dL_succeeds_158 : decode cL_succeeds 158 = .ok (.aload_n 0, 1) := by decide +kernel
theorem dL_succeeds_159 : decode cL_succeeds 159 = .ok (.iload 5, 2) := by decide +kernel
theorem dL_succeeds_161 : decode cL_succeeds 161 = .ok (.iconst 0, 1) := by decide +kernel
theorem dL_succeeds_162 : decode cL_succeeds 162 = .ok (.invokevirtual 21, 3) := by decide +kernel
theorem dL_succeeds_165 : decode cL_succeeds 165 = .ok (.aload_n 0, 1) := by decide +kernel
theorem dL_succeeds_166 : decode cL_succeeds 166 = .ok (.iload_n 1, 1) := by decide +kernel
theorem dL_succeeds_167 : decode cL_succeeds 167 = .ok (.iconst 0, 1) := by decide +kernel
theorem dL_succeeds_168 : decode cL_succeeds 168 = .ok (.invokevirtual 21, 3) := by decide +kernel
theorem dL_succeeds_171 : decode cL_succeeds 171 = .ok (.if_icmp .eq 33, 3) := by decide +kernel
theorem dL_succeeds_174 : decode cL_succeeds 174 = .ok (.iload_n 3, 1) := by decide +kernel
theorem dL_succeeds_175 : decode cL_succeeds 175 = .ok (.aload_n 0, 1) := by decide +kernel
theorem dL_succeeds_176 : decode cL_succeeds 176 = .ok (.iload 5, 2) := by decide +kernel
theorem dL_succeeds_178 : decode cL_succeeds 178 = .ok (.iconst 2, 1) := by decide +kernel
theorem dL_succeeds_179 : decode cL_succeeds 179 = .ok (.invokevirtual 21, 3) := by decide +kernel
theorem dL_succeeds_182 : decode cL_succeeds 182 = .ok (.iconst 1, 1) := by decide +kernel
theorem dL_succeeds_183 : decode cL_succeeds 183 = .ok (.if_icmp .ne 7, 3) := by decide +kernel
theorem dL_succeeds_186 : decode cL_succeeds 186 = .ok (.iconst 1, 1) := by decide +kernel
theorem dL_succeeds_187 : decode cL_succeeds 187 = .ok (.goto 10, 3) := by decide +kernel
theorem dL_succeeds_190 : decode cL_succeeds 190 = .ok (.aload_n 0, 1) := by decide +kernel
theorem dL_succeeds_191 : decode cL_succeeds 191 = .ok (.iload 5, 2) := by decide +kernel
theorem dL_succeeds_193 : decode cL_succeeds 193 = .ok (.iconst 1, 1) := by decide +kernel
theorem dL_succeeds_194 : decode cL_succeeds 194 = .ok (.invokevirtual 53, 3) := by decide +kernel
theorem dL_succeeds_197 : decode cL_succeeds 197 = .ok (.if_icmp .le 7, 3) := by decide +kernel
theorem dL_succeeds_200 : decode cL_succeeds 200 = .ok (.iconst 1, 1) := by decide +kernel
theorem dL_succeeds_201 : decode cL_succeeds 201 = .ok (.goto 4, 3) := by decide +kernel
theorem dL_succeeds_204 : decode cL_succeeds 204 = .ok (.iconst 0, 1) := by decide +kernel
theorem dL_succeeds_205 : decode cL_succeeds 205 = .ok (.ireturn, 1) := by decide +kernel
set_option maxRecDepth 20000 in
theorem ggL_holds_X4_count : GoodIn wsL_holds wsX4_count := goodIn_ca (goodIn_r _ [5, 6, 7, 8, 9, 10, 4, 11, 12, 13, 14, 15, 16, 17, 18, 19, 20, 21, 22, 23, 24, 25, 26, 27, 28, 29, 30, 31, 32, 33, 34, 35, 278, 279, 280, 281, 282, 283, 284, 285, 286, 287, 288, 289, 290, 291] rfl (by decide +kernel)) (goodIn_sub (fun _ h => List.mem_cons_of_mem _ (List.mem_append_left _ (List.mem_append_right _ h))) (by decide +kernel))
set_option maxRecDepth 20000 in
theorem gL_holds_X4_count : GoodIn wsL_holds (wsV RL 9 RX4 yX4_count wsX4_count) := goodIn_app (goodIn_of _ (by decide +kernel)) ggL_holds_X4_count
set_option maxRecDepth 20000 in
theorem ggL_holds_L_isArmy : GoodIn wsL_holds wsL_isArmy := goodIn_ca (goodIn_ca (goodIn_r _ [39, 40, 41, 42, 4, 43, 44, 45, 6, 7, 12, 46, 47, 48, 17, 49, 24, 15, 16, 18, 19, 50, 26, 27, 28, 29, 51, 52, 53, 54, 55, 56, 57, 58, 59, 60, 61, 62, 63, 64, 65, 66, 67, 68, 69, 70, 71, 72, 73, 74, 75, 76, 77, 78, 79, 80, 81, 82, 83, 84, 85, 86, 87, 88, 89, 25, 90, 91, 92, 93, 94, 95, 96, 97, 98, 99, 100, 101, 102, 103, 104, 105, 106, 107, 108, 109, 110, 111, 112, 113, 114, 115, 116, 117, 118, 119, 120, 121, 122, 123, 124, 125, 126, 127, 128, 129, 130, 131, 132, 133, 134, 135, 136, 137, 138, 139, 140, 141, 142, 143, 144, 145, 146, 147, 148, 149, 150, 151, 152, 153, 154, 155, 156, 157, 158, 159, 160, 161, 162, 163, 164, 165, 166, 167, 168, 169, 170, 171, 172, 173, 174, 175, 176, 177, 178, 179, 180, 181, 182, 183, 184, 185, 186, 187, 188, 189, 190, 191, 192, 193, 194, 195, 196, 197, 198, 199, 200, 201, 202, 203, 204, 205, 206, 207, 208, 209, 210, 211, 212, 213, 214, 215, 216, 217, 218, 219, 220, 221, 222, 223, 224, 225, 226, 227, 38, 228, 1, 2, 3, 5, 8, 9, 10, 11, 13, 14, 20, 21, 22, 23, 30, 31, 32, 33, 34, 35, 278, 279, 280, 281, 282, 283, 284, 285, 286, 287, 288, 292, 293, 294, 295, 296, 297, 298, 299, 289, 290, 291] rfl (by decide +kernel)) (goodIn_sub (fun _ h => List.mem_cons_of_mem _ (List.mem_append_right _ h)) (by decide +kernel))) (goodIn_sub (fun _ h => List.mem_cons_of_mem _ (List.mem_append_left _ (List.mem_append_right _ h))) (by decide +kernel))
set_option maxRecDepth 20000 in
theorem gL_holds_L_isArmy : GoodIn wsL_holds (va_wsS RL 70 yL_isArmy wsL_isArmy) := goodIn_app (goodIn_of _ (by decide +kernel)) ggL_holds_L_isArmy
set_option maxRecDepth 20000 in
theorem ggL_holds_X4_armyOf : GoodIn wsL_holds wsX4_armyOf := goodIn_ca (goodIn_ca (goodIn_r _ [43, 44, 45, 6, 7, 12, 46, 47, 48, 17, 49, 24, 15, 16, 18, 19, 50, 26, 27, 28, 29, 278, 279, 280, 281, 282, 283, 284, 285, 286, 287, 288] rfl (by decide +kernel)) (goodIn_sub (fun _ h => List.mem_cons_of_mem _ (List.mem_append_right _ h)) (by decide +kernel))) (goodIn_sub (fun _ h => List.mem_cons_of_mem _ (List.mem_append_left _ (List.mem_append_right _ h))) (by decide +kernel))
set_option maxRecDepth 20000 in
theorem gL_holds_X4_armyOf : GoodIn wsL_holds (wsV RL 21 RX4 yX4_armyOf wsX4_armyOf) := goodIn_app (goodIn_of _ (by decide +kernel)) ggL_holds_X4_armyOf
set_option maxRecDepth 20000 in
theorem ggL_holds_X4_ifOpened : GoodIn wsL_holds wsX4_ifOpened := goodIn_ca (goodIn_ca (goodIn_r _ [54, 44, 45, 6, 7, 12, 55, 46, 47, 48, 17, 49, 24, 15, 16, 18, 19, 56, 57, 58, 59, 60, 61, 62, 63, 64, 65, 66, 67, 68, 69, 70, 71, 72, 73, 26, 27, 28, 29, 74, 75, 76, 77, 78, 79, 80, 81, 82, 83, 84, 85, 86, 87, 88, 89, 25, 90, 4, 91, 92, 93, 94, 95, 96, 97, 98, 99, 100, 101, 102, 103, 104, 105, 106, 107, 108, 109, 110, 111, 112, 113, 114, 115, 116, 117, 118, 119, 120, 121, 122, 123, 124, 125, 126, 127, 128, 129, 130, 131, 132, 133, 134, 135, 136, 137, 138, 139, 140, 141, 142, 143, 144, 145, 146, 147, 148, 149, 150, 151, 152, 153, 154, 155, 156, 157, 158, 159, 160, 161, 162, 163, 164, 278, 279, 280, 281, 282, 283, 284, 285, 286, 287, 288, 292, 293, 294, 295, 296, 297, 298, 299] rfl (by decide +kernel)) (goodIn_sub (fun _ h => List.mem_cons_of_mem _ (List.mem_append_right _ h)) (by decide +kernel))) (goodIn_sub (fun _ h => List.mem_cons_of_mem _ (List.mem_append_left _ (List.mem_append_right _ h))) (by decide +kernel))
set_option maxRecDepth 20000 in
theorem gL_holds_X4_ifOpened : GoodIn wsL_holds (wsV RL 53 RX4 yX4_ifOpened wsX4_ifOpened) := goodIn_app (goodIn_of _ (by decide +kernel)) ggL_holds_X4_ifOpened
set_option maxRecDepth 20000 in
theorem ggL_holds_X4_field : GoodIn wsL_holds wsX4_field := goodIn_ca (goodIn_ca (goodIn_r _ [168, 44, 45, 6, 7, 169, 170, 4, 171, 172, 173, 174, 175, 12, 176, 87, 88, 17, 89, 24, 15, 16, 18, 19, 25, 26, 27, 28, 29, 177, 178, 179, 180, 181, 182, 183, 184, 185, 186, 187, 188, 151, 152, 189, 190, 191, 192, 278, 279, 280, 281, 282, 283, 284, 285, 286, 287, 288] rfl (by decide +kernel)) (goodIn_sub (fun _ h => List.mem_cons_of_mem _ (List.mem_append_right _ h)) (by decide +kernel))) (goodIn_sub (fun _ h => List.mem_cons_of_mem _ (List.mem_append_left _ (List.mem_append_right _ h))) (by decide +kernel))
set_option maxRecDepth 20000 in
theorem gL_holds_X4_field : GoodIn wsL_holds (wsV RL 27 RX4 yX4_field wsX4_field) := goodIn_app (goodIn_of _ (by decide +kernel)) ggL_holds_X4_field
set_option maxRecDepth 20000 in
theorem ggL_holds_X4_seat : GoodIn wsL_holds wsX4_seat := goodIn_ca (goodIn_ca (goodIn_r _ [232, 44, 45, 6, 7, 233, 234, 4, 235, 236, 237, 238, 239, 12, 240, 241, 242, 17, 243, 24, 15, 16, 18, 19, 25, 26, 27, 28, 29, 244, 245, 246, 247, 248, 181, 182, 183, 184, 249, 250, 251, 252, 190, 191, 192, 151, 152, 253, 254, 255, 256, 257, 258, 259, 260, 261, 278, 279, 280, 281, 282, 283, 284, 285, 286, 287, 288] rfl (by decide +kernel)) (goodIn_sub (fun _ h => List.mem_cons_of_mem _ (List.mem_append_right _ h)) (by decide +kernel))) (goodIn_sub (fun _ h => List.mem_cons_of_mem _ (List.mem_append_left _ (List.mem_append_right _ h))) (by decide +kernel))
set_option maxRecDepth 20000 in
theorem gL_holds_X4_seat : GoodIn wsL_holds (wsV RL 60 RX4 yX4_seat wsX4_seat) := goodIn_app (goodIn_of _ (by decide +kernel)) ggL_holds_X4_seat
set_option maxRecDepth 20000 in
theorem ggL_holds_X4_danger : GoodIn wsL_holds wsX4_danger := goodIn_r _ [265, 55, 56, 57, 58, 59, 60, 61, 62, 63, 64, 65, 66, 67, 68, 69, 70, 71, 72, 15, 16, 17, 18, 19, 73, 26, 27, 28, 29, 74, 75, 76, 77, 78, 79, 80, 81, 82, 83, 84, 85, 86, 87, 88, 89, 24, 25, 90, 4, 91, 92, 93, 94, 95, 96, 97, 98, 99, 100, 101, 102, 103, 104, 105, 106, 107, 108, 109, 110, 111, 112, 113, 114, 115, 116, 117, 118, 119, 120, 121, 122, 123, 124, 125, 126, 127, 128, 129, 130, 131, 132, 133, 134, 135, 136, 137, 138, 139, 140, 141, 142, 143, 144, 145, 146, 147, 148, 149, 150, 151, 152, 153, 154, 155, 156, 157, 158, 159, 160, 266, 267, 268, 269, 278, 279, 280, 281, 282, 283, 284, 285, 292, 293, 294, 295, 296, 297, 298, 299, 286, 287, 288] rfl (by decide +kernel)
set_option maxRecDepth 20000 in
theorem gL_holds_X4_danger : GoodIn wsL_holds (wsV RL 74 RX4 yX4_danger wsX4_danger) := goodIn_app (goodIn_of _ (by decide +kernel)) ggL_holds_X4_danger
set_option maxRecDepth 20000 in
theorem ggL_holds_X4_success : GoodIn wsL_holds wsX4_success := goodIn_r _ [273, 274, 275, 276, 4, 277, 12, 14, 15, 16, 17, 18, 19, 278, 279, 280, 281, 282, 283, 284, 285, 286, 287, 288] rfl (by decide +kernel)
set_option maxRecDepth 20000 in
theorem gL_holds_X4_success : GoodIn wsL_holds (wsV RL 77 RX4 yX4_success wsX4_success) := goodIn_app (goodIn_of _ (by decide +kernel)) ggL_holds_X4_success
theorem dL_holds_0 : decode cL_holds 0 = .ok (.aload_n 0, 1) := by decide +kernel
theorem dL_holds_1 : decode cL_holds 1 = .ok (.iconst 0, 1) := by decide +kernel
theorem dL_holds_2 : decode cL_holds 2 = .ok (.invokevirtual 9, 3) := by decide +kernel
theorem dL_holds_5 : decode cL_holds 5 = .ok (.istore_n 1, 1) := by decide +kernel
theorem dL_holds_6 : decode cL_holds 6 = .ok (.iconst 0, 1) := by decide +kernel
theorem dL_holds_7 : decode cL_holds 7 = .ok (.istore_n 2, 1) := by decide +kernel
theorem dL_holds_8 : decode cL_holds 8 = .ok (.iconst 0, 1) := by decide +kernel
theorem dL_holds_9 : decode cL_holds 9 = .ok (.istore_n 3, 1) := by decide +kernel
theorem dL_holds_10 : decode cL_holds 10 = .ok (.iconst 0, 1) := by decide +kernel
theorem dL_holds_11 : decode cL_holds 11 = .ok (.istore 4, 2) := by decide +kernel
theorem dL_holds_13 : decode cL_holds 13 = .ok (.iconst 1, 1) := by decide +kernel
theorem dL_holds_14 : decode cL_holds 14 = .ok (.istore 5, 2) := by decide +kernel
theorem dL_holds_16 : decode cL_holds 16 = .ok (.iconst 0, 1) := by decide +kernel
theorem dL_holds_17 : decode cL_holds 17 = .ok (.istore 6, 2) := by decide +kernel
theorem dL_holds_19 : decode cL_holds 19 = .ok (.iload 6, 2) := by decide +kernel
theorem dL_holds_21 : decode cL_holds 21 = .ok (.iload_n 1, 1) := by decide +kernel
theorem dL_holds_22 : decode cL_holds 22 = .ok (.if_icmp .ge 72, 3) := by decide +kernel
theorem dL_holds_25 : decode cL_holds 25 = .ok (.iload 5, 2) := by decide +kernel
theorem dL_holds_27 : decode cL_holds 27 = .ok (.ifCond .eq 67, 3) := by decide +kernel
theorem dL_holds_30 : decode cL_holds 30 = .ok (.aload_n 0, 1) := by decide +kernel
theorem dL_holds_31 : decode cL_holds 31 = .ok (.iload 6, 2) := by decide +kernel
theorem dL_holds_33 : decode cL_holds 33 = .ok (.invokestatic 70, 3) := by decide +kernel
theorem dL_holds_36 : decode cL_holds 36 = .ok (.istore 5, 2) := by decide +kernel
theorem dL_holds_38 : decode cL_holds 38 = .ok (.iload_n 2, 1) := by decide +kernel
theorem dL_holds_39 : decode cL_holds 39 = .ok (.aload_n 0, 1) := by decide +kernel
theorem dL_holds_40 : decode cL_holds 40 = .ok (.iload 6, 2) := by decide +kernel
theorem dL_holds_42 : decode cL_holds 42 = .ok (.iconst 2, 1) := by decide +kernel
theorem dL_holds_43 : decode cL_holds 43 = .ok (.invokevirtual 21, 3) := by decide +kernel
theorem dL_holds_46 : decode cL_holds 46 = .ok (.iconst 1, 1) := by decide +kernel
theorem dL_holds_47 : decode cL_holds 47 = .ok (.if_icmp .ne 7, 3) := by decide +kernel
theorem dL_holds_50 : decode cL_holds 50 = .ok (.iconst 1, 1) := by decide +kernel
theorem dL_holds_51 : decode cL_holds 51 = .ok (.goto 4, 3) := by decide +kernel
theorem dL_holds_54 : decode cL_holds 54 = .ok (.iconst 0, 1) := by decide +kernel
theorem dL_holds_55 : decode cL_holds 55 = .ok (.iadd, 1) := by decide +kernel
theorem dL_holds_56 : decode cL_holds 56 = .ok (.istore_n 2, 1) := by decide +kernel
theorem dL_holds_57 : decode cL_holds 57 = .ok (.iload_n 3, 1) := by decide +kernel
theorem dL_holds_58 : decode cL_holds 58 = .ok (.aload_n 0, 1) := by decide +kernel
theorem dL_holds_59 : decode cL_holds 59 = .ok (.iload 6, 2) := by decide +kernel
theorem dL_holds_61 : decode cL_holds 61 = .ok (.iconst 2, 1) := by decide +kernel
theorem dL_holds_62 : decode cL_holds 62 = .ok (.invokevirtual 21, 3) := by decide +kernel
theorem dL_holds_65 : decode cL_holds 65 = .ok (.iconst 2, 1) := by decide +kernel
theorem dL_holds_66 : decode cL_holds 66 = .ok (.if_icmp .ne 7, 3) := by decide +kernel
theorem dL_holds_69 : decode cL_holds 69 = .ok (.iconst 1, 1) := by decide +kernel
theorem dL_holds_70 : decode cL_holds 70 = .ok (.goto 4, 3) := by decide +kernel
theorem dL_holds_73 : decode cL_holds 73 = .ok (.iconst 0, 1) := by decide +kernel
theorem dL_holds_74 : decode cL_holds 74 = .ok (.iadd, 1) := by decide +kernel
theorem dL_holds_75 : decode cL_holds 75 = .ok (.istore_n 3, 1) := by decide +kernel
theorem dL_holds_76 : decode cL_holds 76 = .ok (.iload 4, 2) := by decide +kernel
theorem dL_holds_78 : decode cL_holds 78 = .ok (.aload_n 0, 1) := by decide +kernel
theorem dL_holds_79 : decode cL_holds 79 = .ok (.iload 6, 2) := by decide +kernel
theorem dL_holds_81 : decode cL_holds 81 = .ok (.iconst 3, 1) := by decide +kernel
theorem dL_holds_82 : decode cL_holds 82 = .ok (.invokevirtual 53, 3) := by decide +kernel
theorem dL_holds_85 : decode cL_holds 85 = .ok (.iadd, 1) := by decide +kernel
theorem dL_holds_86 : decode cL_holds 86 = .ok (.istore 4, 2) := by decide +kernel
theorem dL_holds_88 : decode cL_holds 88 = .ok (.iinc 6 1, 3) := by decide +kernel
theorem dL_holds_91 : decode cL_holds 91 = .ok (.goto (-72), 3) := by decide +kernel
theorem dL_holds_94 : decode cL_holds 94 = .ok (.iconst 0, 1) := by decide +kernel
theorem dL_holds_95 : decode cL_holds 95 = .ok (.istore 6, 2) := by decide +kernel
theorem dL_holds_97 : decode cL_holds 97 = .ok (.iconst 0, 1) := by decide +kernel
theorem dL_holds_98 : decode cL_holds 98 = .ok (.istore 7, 2) := by decide +kernel
theorem dL_holds_100 : decode cL_holds 100 = .ok (.iload 7, 2) := by decide +kernel
theorem dL_holds_102 : decode cL_holds 102 = .ok (.iconst 3, 1) := by decide +kernel
theorem dL_holds_103 : decode cL_holds 103 = .ok (.if_icmp .ge 118, 3) := by decide +kernel
theorem dL_holds_106 : decode cL_holds 106 = .ok (.iload 5, 2) := by decide +kernel
theorem dL_holds_108 : decode cL_holds 108 = .ok (.ifCond .eq 113, 3) := by decide +kernel
theorem dL_holds_111 : decode cL_holds 111 = .ok (.iconst 0, 1) := by decide +kernel
theorem dL_holds_112 : decode cL_holds 112 = .ok (.istore 8, 2) := by decide +kernel
theorem dL_holds_114 : decode cL_holds 114 = .ok (.iconst 0, 1) := by decide +kernel
theorem dL_holds_115 : decode cL_holds 115 = .ok (.istore 9, 2) := by decide +kernel
theorem dL_holds_117 : decode cL_holds 117 = .ok (.iload 9, 2) := by decide +kernel
theorem dL_holds_119 : decode cL_holds 119 = .ok (.bipush 12, 2) := by decide +kernel
theorem dL_holds_121 : decode cL_holds 121 = .ok (.if_icmp .ge 29, 3) := by decide +kernel
theorem dL_holds_124 : decode cL_holds 124 = .ok (.iload 8, 2) := by decide +kernel
theorem dL_holds_126 : decode cL_holds 126 = .ok (.aload_n 0, 1) := by decide +kernel
theorem dL_holds_127 : decode cL_holds 127 = .ok (.iload 9, 2) := by decide +kernel
theorem dL_holds_129 : decode cL_holds 129 = .ok (.iconst 3, 1) := by decide +kernel
theorem dL_holds_130 : decode cL_holds 130 = .ok (.invokevirtual 27, 3) := by decide +kernel
theorem dL_holds_133 : decode cL_holds 133 = .ok (.iload 7, 2) := by decide +kernel
theorem dL_holds_135 : decode cL_holds 135 = .ok (.ishr, 1) := by decide +kernel
theorem dL_holds_136 : decode cL_holds 136 = .ok (.iconst 1, 1) := by decide +kernel
theorem dL_holds_137 : decode cL_holds 137 = .ok (.iand, 1) := by decide +kernel
theorem dL_holds_138 : decode cL_holds 138 = .ok (.iload 9, 2) := by decide +kernel
theorem dL_holds_140 : decode cL_holds 140 = .ok (.ishl, 1) := by decide +kernel
theorem dL_holds_141 : decode cL_holds 141 = .ok (.ior, 1) := by decide +kernel
theorem dL_holds_142 : decode cL_holds 142 = .ok (.istore 8, 2) := by decide +kernel
theorem dL_holds_144 : decode cL_holds 144 = .ok (.iinc 9 1, 3) := by decide +kernel
theorem dL_holds_147 : decode cL_holds 147 = .ok (.goto (-30), 3) := by decide +kernel
theorem dL_holds_150 : decode cL_holds 150 = .ok (.iload 6, 2) := by decide +kernel
theorem dL_holds_152 : decode cL_holds 152 = .ok (.aload_n 0, 1) := by decide +kernel
theorem dL_holds_153 : decode cL_holds 153 = .ok (.iload 7, 2) := by decide +kernel
theorem dL_holds_155 : decode cL_holds 155 = .ok (.iconst 0, 1) := by decide +kernel
theorem dL_holds_156 : decode cL_holds 156 = .ok (.invokevirtual 60, 3) := by decide +kernel
