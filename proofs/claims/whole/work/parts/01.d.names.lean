theorem dX2_supportsOf_38 : decode cX2_supportsOf 38 = .ok (.iconst 3, 1) := by decide +kernel
theorem dX2_supportsOf_39 : decode cX2_supportsOf 39 = .ok (.invokevirtual 65, 3) := by decide +kernel
theorem dX2_supportsOf_42 : decode cX2_supportsOf 42 = .ok (.iload_n 2, 1) := by decide +kernel
theorem dX2_supportsOf_43 : decode cX2_supportsOf 43 = .ok (.if_icmp .ne 7, 3) := by decide +kernel
theorem dX2_supportsOf_46 : decode cX2_supportsOf 46 = .ok (.iconst 1, 1) := by decide +kernel
theorem dX2_supportsOf_47 : decode cX2_supportsOf 47 = .ok (.goto 4, 3) := by decide +kernel
theorem dX2_supportsOf_50 : decode cX2_supportsOf 50 = .ok (.iconst 0, 1) := by decide +kernel
theorem dX2_supportsOf_51 : decode cX2_supportsOf 51 = .ok (.istore 5, 2) := by decide +kernel
theorem dX2_supportsOf_53 : decode cX2_supportsOf 53 = .ok (.iload_n 3, 1) := by decide +kernel
theorem dX2_supportsOf_54 : decode cX2_supportsOf 54 = .ok (.iload 5, 2) := by decide +kernel
theorem dX2_supportsOf_56 : decode cX2_supportsOf 56 = .ok (.ifCond .eq 20, 3) := by decide +kernel
theorem dX2_supportsOf_59 : decode cX2_supportsOf 59 = .ok (.aload_n 0, 1) := by decide +kernel
theorem dX2_supportsOf_60 : decode cX2_supportsOf 60 = .ok (.getfield 22, 3) := by decide +kernel
theorem dX2_supportsOf_63 : decode cX2_supportsOf 63 = .ok (.iload 4, 2) := by decide +kernel
theorem dX2_supportsOf_65 : decode cX2_supportsOf 65 = .ok (.invokestatic 89, 3) := by decide +kernel
theorem dX2_supportsOf_68 : decode cX2_supportsOf 68 = .ok (.iconst 1, 1) := by decide +kernel
theorem dX2_supportsOf_69 : decode cX2_supportsOf 69 = .ok (.if_icmp .ne 7, 3) := by decide +kernel
theorem dX2_supportsOf_72 : decode cX2_supportsOf 72 = .ok (.iconst 1, 1) := by decide +kernel
theorem dX2_supportsOf_73 : decode cX2_supportsOf 73 = .ok (.goto 4, 3) := by decide +kernel
theorem dX2_supportsOf_76 : decode cX2_supportsOf 76 = .ok (.iconst 0, 1) := by decide +kernel
theorem dX2_supportsOf_77 : decode cX2_supportsOf 77 = .ok (.iadd, 1) := by decide +kernel
theorem dX2_supportsOf_78 : decode cX2_supportsOf 78 = .ok (.istore_n 3, 1) := by decide +kernel
theorem dX2_supportsOf_79 : decode cX2_supportsOf 79 = .ok (.iinc 4 1, 3) := by decide +kernel
theorem dX2_supportsOf_82 : decode cX2_supportsOf 82 = .ok (.goto (-77), 3) := by decide +kernel
theorem dX2_supportsOf_85 : decode cX2_supportsOf 85 = .ok (.iload_n 3, 1) := by decide +kernel
theorem dX2_supportsOf_86 : decode cX2_supportsOf 86 = .ok (.ireturn, 1) := by decide +kernel
set_option maxRecDepth 20000 in
theorem ggX2_failAgainstMoves_X0_number : GoodIn wsX2_failAgainstMoves wsX0_number := goodIn_r _ [7, 8, 47, 48, 49] (by decide +kernel) (by decide +kernel)
set_option maxRecDepth 20000 in
theorem gX2_failAgainstMoves_X0_number : GoodIn wsX2_failAgainstMoves (wsV RX2 61 RX0 yX0_number wsX0_number) := goodIn_app (goodIn_of _ (by decide +kernel)) ggX2_failAgainstMoves_X0_number
set_option maxRecDepth 20000 in
theorem ggX2_failAgainstMoves_X2_moves : GoodIn wsX2_failAgainstMoves wsX2_moves := goodIn_r _ [13, 1, 14, 15, 16, 6, 17, 18, 39, 40, 41, 42, 43, 44, 45, 46, 47, 48, 49] (by decide +kernel) (by decide +kernel)
set_option maxRecDepth 20000 in
theorem gX2_failAgainstMoves_X2_moves : GoodIn wsX2_failAgainstMoves (wsV RX2 80 RX2 yX2_moves wsX2_moves) := goodIn_app (goodIn_of _ (by decide +kernel)) ggX2_failAgainstMoves_X2_moves
set_option maxRecDepth 20000 in
theorem ggX2_failAgainstMoves_X2_hasRival : GoodIn wsX2_failAgainstMoves wsX2_hasRival := goodIn_r _ [22, 1, 23, 3, 4, 5, 6, 7, 8, 9, 10, 11, 12, 13, 14, 15, 16, 17, 18, 24, 25, 26, 39, 40, 41, 42, 43, 44, 45, 46, 47, 48, 49] (by decide +kernel) (by decide +kernel)
set_option maxRecDepth 20000 in
theorem gX2_failAgainstMoves_X2_hasRival : GoodIn wsX2_failAgainstMoves (wsV RX2 93 RX2 yX2_hasRival wsX2_hasRival) := goodIn_app (goodIn_of _ (by decide +kernel)) ggX2_failAgainstMoves_X2_hasRival
set_option maxRecDepth 20000 in
theorem ggX2_failAgainstMoves_X2_losesSwap : GoodIn wsX2_failAgainstMoves wsX2_losesSwap := goodIn_r _ [30, 1, 23, 14, 15, 16, 6, 17, 18, 31, 32, 33, 34, 35, 4, 5, 7, 8, 36, 9, 10, 11, 12, 13, 24, 25, 26, 39, 40, 41, 42, 43, 44, 45, 46, 47, 48, 49] (by decide +kernel) (by decide +kernel)
set_option maxRecDepth 20000 in
theorem gX2_failAgainstMoves_X2_losesSwap : GoodIn wsX2_failAgainstMoves (wsV RX2 96 RX2 yX2_losesSwap wsX2_losesSwap) := goodIn_app (goodIn_of _ (by decide +kernel)) ggX2_failAgainstMoves_X2_losesSwap
set_option maxRecDepth 20000 in
theorem ggX2_failAgainstMoves_X4_enter : GoodIn wsX2_failAgainstMoves wsX4_enter := goodIn_r _ [38] (by decide +kernel) (by decide +kernel)
set_option maxRecDepth 20000 in
theorem gX2_failAgainstMoves_X4_enter_n76 : GoodIn wsX2_failAgainstMoves (wsX4_enter) := ggX2_failAgainstMoves_X4_enter
theorem dX2_failAgainstMoves_0 : decode cX2_failAgainstMoves 0 = .ok (.iconst 0, 1) := by decide +kernel
theorem dX2_failAgainstMoves_1 : decode cX2_failAgainstMoves 1 = .ok (.istore_n 1, 1) := by decide +kernel
theorem dX2_failAgainstMoves_2 : decode cX2_failAgainstMoves 2 = .ok (.iload_n 1, 1) := by decide +kernel
theorem dX2_failAgainstMoves_3 : decode cX2_failAgainstMoves 3 = .ok (.aload_n 0, 1) := by decide +kernel
theorem dX2_failAgainstMoves_4 : decode cX2_failAgainstMoves 4 = .ok (.getfield 12, 3) := by decide +kernel
theorem dX2_failAgainstMoves_7 : decode cX2_failAgainstMoves 7 = .ok (.iconst 0, 1) := by decide +kernel
theorem dX2_failAgainstMoves_8 : decode cX2_failAgainstMoves 8 = .ok (.invokevirtual 61, 3) := by decide +kernel
theorem dX2_failAgainstMoves_11 : decode cX2_failAgainstMoves 11 = .ok (.if_icmp .ge 54, 3) := by decide +kernel
theorem dX2_failAgainstMoves_14 : decode cX2_failAgainstMoves 14 = .ok (.iconst 0, 1) := by decide +kernel
theorem dX2_failAgainstMoves_15 : decode cX2_failAgainstMoves 15 = .ok (.istore_n 2, 1) := by decide +kernel
theorem dX2_failAgainstMoves_16 : decode cX2_failAgainstMoves 16 = .ok (.aload_n 0, 1) := by decide +kernel
theorem dX2_failAgainstMoves_17 : decode cX2_failAgainstMoves 17 = .ok (.iload_n 1, 1) := by decide +kernel
theorem dX2_failAgainstMoves_18 : decode cX2_failAgainstMoves 18 = .ok (.invokevirtual 80, 3) := by decide +kernel
theorem dX2_failAgainstMoves_21 : decode cX2_failAgainstMoves 21 = .ok (.ifCond .eq 29, 3) := by decide +kernel
theorem dX2_failAgainstMoves_24 : decode cX2_failAgainstMoves 24 = .ok (.aload_n 0, 1) := by decide +kernel
theorem dX2_failAgainstMoves_25 : decode cX2_failAgainstMoves 25 = .ok (.iload_n 1, 1) := by decide +kernel
theorem dX2_failAgainstMoves_26 : decode cX2_failAgainstMoves 26 = .ok (.invokevirtual 93, 3) := by decide +kernel
theorem dX2_failAgainstMoves_29 : decode cX2_failAgainstMoves 29 = .ok (.ifCond .eq 7, 3) := by decide +kernel
theorem dX2_failAgainstMoves_32 : decode cX2_failAgainstMoves 32 = .ok (.iconst 1, 1) := by decide +kernel
theorem dX2_failAgainstMoves_33 : decode cX2_failAgainstMoves 33 = .ok (.goto 16, 3) := by decide +kernel
theorem dX2_failAgainstMoves_36 : decode cX2_failAgainstMoves 36 = .ok (.aload_n 0, 1) := by decide +kernel
theorem dX2_failAgainstMoves_37 : decode cX2_failAgainstMoves 37 = .ok (.iload_n 1, 1) := by decide +kernel
theorem dX2_failAgainstMoves_38 : decode cX2_failAgainstMoves 38 = .ok (.invokevirtual 96, 3) := by decide +kernel
theorem dX2_failAgainstMoves_41 : decode cX2_failAgainstMoves 41 = .ok (.ifCond .eq 7, 3) := by decide +kernel
theorem dX2_failAgainstMoves_44 : decode cX2_failAgainstMoves 44 = .ok (.iconst 2, 1) := by decide +kernel
theorem dX2_failAgainstMoves_45 : decode cX2_failAgainstMoves 45 = .ok (.goto 4, 3) := by decide +kernel
theorem dX2_failAgainstMoves_48 : decode cX2_failAgainstMoves 48 = .ok (.iconst 0, 1) := by decide +kernel
theorem dX2_failAgainstMoves_49 : decode cX2_failAgainstMoves 49 = .ok (.istore_n 2, 1) := by decide +kernel
theorem dX2_failAgainstMoves_50 : decode cX2_failAgainstMoves 50 = .ok (.aload_n 0, 1) := by decide +kernel
theorem dX2_failAgainstMoves_51 : decode cX2_failAgainstMoves 51 = .ok (.getfield 28, 3) := by decide +kernel
theorem dX2_failAgainstMoves_54 : decode cX2_failAgainstMoves 54 = .ok (.iload_n 1, 1) := by decide +kernel
theorem dX2_failAgainstMoves_55 : decode cX2_failAgainstMoves 55 = .ok (.iload_n 2, 1) := by decide +kernel
theorem dX2_failAgainstMoves_56 : decode cX2_failAgainstMoves 56 = .ok (.invokestatic 76, 3) := by decide +kernel
theorem dX2_failAgainstMoves_59 : decode cX2_failAgainstMoves 59 = .ok (.iinc 1 1, 3) := by decide +kernel
theorem dX2_failAgainstMoves_62 : decode cX2_failAgainstMoves 62 = .ok (.goto (-60), 3) := by decide +kernel
theorem dX2_failAgainstMoves_65 : decode cX2_failAgainstMoves 65 = .ok (.return_, 1) := by decide +kernel
set_option maxRecDepth 20000 in
theorem ggX2_failAgainstArmies_X0_number : GoodIn wsX2_failAgainstArmies wsX0_number := goodIn_r _ [7, 8, 47, 48, 49] (by decide +kernel) (by decide +kernel)
set_option maxRecDepth 20000 in
theorem gX2_failAgainstArmies_X0_number : GoodIn wsX2_failAgainstArmies (wsV RX2 61 RX0 yX0_number wsX0_number) := goodIn_app (goodIn_of _ (by decide +kernel)) ggX2_failAgainstArmies_X0_number
set_option maxRecDepth 20000 in
theorem ggX2_failAgainstArmies_X2_goes : GoodIn wsX2_failAgainstArmies wsX2_goes := goodIn_r _ [13, 1, 2, 14, 15, 16, 6, 17, 18, 19, 20, 21, 39, 40, 41, 42, 43, 44, 45, 46, 47, 48, 49] (by decide +kernel) (by decide +kernel)
set_option maxRecDepth 20000 in
theorem gX2_failAgainstArmies_X2_goes : GoodIn wsX2_failAgainstArmies (wsV RX2 99 RX2 yX2_goes wsX2_goes) := goodIn_app (goodIn_of _ (by decide +kernel)) ggX2_failAgainstArmies_X2_goes
set_option maxRecDepth 20000 in
theorem ggX2_failAgainstArmies_X2_blockOf : GoodIn wsX2_failAgainstArmies wsX2_blockOf := goodIn_r _ [25, 1, 26, 14, 15, 16, 6, 17, 18, 27, 28, 29, 30, 31, 4, 5, 7, 8, 32, 9, 10, 11, 12, 13, 2, 19, 20, 21, 33, 34, 35, 36, 39, 40, 41, 42, 43, 44, 45, 46, 47, 48, 49] (by decide +kernel) (by decide +kernel)
set_option maxRecDepth 20000 in
theorem gX2_failAgainstArmies_X2_blockOf : GoodIn wsX2_failAgainstArmies (wsV RX2 102 RX2 yX2_blockOf wsX2_blockOf) := goodIn_app (goodIn_of _ (by decide +kernel)) ggX2_failAgainstArmies_X2_blockOf
set_option maxRecDepth 20000 in
theorem ggX2_failAgainstArmies_X4_enter : GoodIn wsX2_failAgainstArmies wsX4_enter := goodIn_r _ [38] (by decide +kernel) (by decide +kernel)
set_option maxRecDepth 20000 in
theorem gX2_failAgainstArmies_X4_enter_n76 : GoodIn wsX2_failAgainstArmies (wsX4_enter) := ggX2_failAgainstArmies_X4_enter
theorem dX2_failAgainstArmies_0 : decode cX2_failAgainstArmies 0 = .ok (.iconst 1, 1) := by decide +kernel
theorem dX2_failAgainstArmies_1 : decode cX2_failAgainstArmies 1 = .ok (.istore_n 1, 1) := by decide +kernel
theorem dX2_failAgainstArmies_2 : decode cX2_failAgainstArmies 2 = .ok (.iconst 0, 1) := by decide +kernel
theorem dX2_failAgainstArmies_3 : decode cX2_failAgainstArmies 3 = .ok (.istore_n 2, 1) := by decide +kernel
theorem dX2_failAgainstArmies_4 : decode cX2_failAgainstArmies 4 = .ok (.iload_n 2, 1) := by decide +kernel
theorem dX2_failAgainstArmies_5 : decode cX2_failAgainstArmies 5 = .ok (.bipush 9, 2) := by decide +kernel
theorem dX2_failAgainstArmies_7 : decode cX2_failAgainstArmies 7 = .ok (.if_icmp .gt 71, 3) := by decide +kernel
theorem dX2_failAgainstArmies_10 : decode cX2_failAgainstArmies 10 = .ok (.iload_n 1, 1) := by decide +kernel
theorem dX2_failAgainstArmies_11 : decode cX2_failAgainstArmies 11 = .ok (.ifCond .eq 67, 3) := by decide +kernel
theorem dX2_failAgainstArmies_14 : decode cX2_failAgainstArmies 14 = .ok (.iconst 0, 1) := by decide +kernel
theorem dX2_failAgainstArmies_15 : decode cX2_failAgainstArmies 15 = .ok (.istore_n 1, 1) := by decide +kernel
theorem dX2_failAgainstArmies_16 : decode cX2_failAgainstArmies 16 = .ok (.iconst 0, 1) := by decide +kernel
theorem dX2_failAgainstArmies_17 : decode cX2_failAgainstArmies 17 = .ok (.istore_n 3, 1) := by decide +kernel
theorem dX2_failAgainstArmies_18 : decode cX2_failAgainstArmies 18 = .ok (.iload_n 3, 1) := by decide +kernel
theorem dX2_failAgainstArmies_19 : decode cX2_failAgainstArmies 19 = .ok (.aload_n 0, 1) := by decide +kernel
theorem dX2_failAgainstArmies_20 : decode cX2_failAgainstArmies 20 = .ok (.getfield 12, 3) := by decide +kernel
theorem dX2_failAgainstArmies_23 : decode cX2_failAgainstArmies 23 = .ok (.iconst 0, 1) := by decide +kernel
theorem dX2_failAgainstArmies_24 : decode cX2_failAgainstArmies 24 = .ok (.invokevirtual 61, 3) := by decide +kernel
theorem dX2_failAgainstArmies_27 : decode cX2_failAgainstArmies 27 = .ok (.if_icmp .ge 45, 3) := by decide +kernel
theorem dX2_failAgainstArmies_30 : decode cX2_failAgainstArmies 30 = .ok (.aload_n 0, 1) := by decide +kernel
theorem dX2_failAgainstArmies_31 : decode cX2_failAgainstArmies 31 = .ok (.iload_n 3, 1) := by decide +kernel
theorem dX2_failAgainstArmies_32 : decode cX2_failAgainstArmies 32 = .ok (.invokevirtual 99, 3) := by decide +kernel
theorem dX2_failAgainstArmies_35 : decode cX2_failAgainstArmies 35 = .ok (.ifCond .eq 11, 3) := by decide +kernel
theorem dX2_failAgainstArmies_38 : decode cX2_failAgainstArmies 38 = .ok (.aload_n 0, 1) := by decide +kernel
theorem dX2_failAgainstArmies_39 : decode cX2_failAgainstArmies 39 = .ok (.iload_n 3, 1) := by decide +kernel
theorem dX2_failAgainstArmies_40 : decode cX2_failAgainstArmies 40 = .ok (.invokevirtual 102, 3) := by decide +kernel
theorem dX2_failAgainstArmies_43 : decode cX2_failAgainstArmies 43 = .ok (.goto 4, 3) := by decide +kernel
theorem dX2_failAgainstArmies_46 : decode cX2_failAgainstArmies 46 = .ok (.iconst 0, 1) := by decide +kernel
theorem dX2_failAgainstArmies_47 : decode cX2_failAgainstArmies 47 = .ok (.istore 4, 2) := by decide +kernel
theorem dX2_failAgainstArmies_49 : decode cX2_failAgainstArmies 49 = .ok (.iload 4, 2) := by decide +kernel
theorem dX2_failAgainstArmies_51 : decode cX2_failAgainstArmies 51 = .ok (.ifCond .eq 15, 3) := by decide +kernel
theorem dX2_failAgainstArmies_54 : decode cX2_failAgainstArmies 54 = .ok (.aload_n 0, 1) := by decide +kernel
theorem dX2_failAgainstArmies_55 : decode cX2_failAgainstArmies 55 = .ok (.getfield 28, 3) := by decide +kernel
theorem dX2_failAgainstArmies_58 : decode cX2_failAgainstArmies 58 = .ok (.iload_n 3, 1) := by decide +kernel
theorem dX2_failAgainstArmies_59 : decode cX2_failAgainstArmies 59 = .ok (.iload 4, 2) := by decide +kernel
theorem dX2_failAgainstArmies_61 : decode cX2_failAgainstArmies 61 = .ok (.invokestatic 76, 3) := by decide +kernel
theorem dX2_failAgainstArmies_64 : decode cX2_failAgainstArmies 64 = .ok (.iconst 1, 1) := by decide +kernel
theorem dX2_failAgainstArmies_65 : decode cX2_failAgainstArmies 65 = .ok (.istore_n 1, 1) := by decide +kernel
theorem dX2_failAgainstArmies_66 : decode cX2_failAgainstArmies 66 = .ok (.iinc 3 1, 3) := by decide +kernel
theorem dX2_failAgainstArmies_69 : decode cX2_failAgainstArmies 69 = .ok (.goto (-51), 3) := by decide +kernel
theorem dX2_failAgainstArmies_72 : decode cX2_failAgainstArmies 72 = .ok (.iinc 2 1, 3) := by decide +kernel
theorem dX2_failAgainstArmies_75 : decode cX2_failAgainstArmies 75 = .ok (.goto (-71), 3) := by decide +kernel
theorem dX2_failAgainstArmies_78 : decode cX2_failAgainstArmies 78 = .ok (.return_, 1) := by decide +kernel
set_option maxRecDepth 20000 in
theorem ggX2_moves_X0_of : GoodIn wsX2_moves wsX0_of := goodIn_r _ [6, 7, 16, 17, 18] (by decide +kernel) (by decide +kernel)
set_option maxRecDepth 20000 in
theorem gX2_moves_X0_of : GoodIn wsX2_moves (wsV RX2 65 RX0 yX0_of wsX0_of) := goodIn_app (goodIn_of _ (by decide +kernel)) ggX2_moves_X0_of
theorem dX2_moves_0 : decode cX2_moves 0 = .ok (.aload_n 0, 1) := by decide +kernel
theorem dX2_moves_1 : decode cX2_moves 1 = .ok (.getfield 12, 3) := by decide +kernel
theorem dX2_moves_4 : decode cX2_moves 4 = .ok (.iload_n 1, 1) := by decide +kernel
theorem dX2_moves_5 : decode cX2_moves 5 = .ok (.iconst 2, 1) := by decide +kernel
theorem dX2_moves_6 : decode cX2_moves 6 = .ok (.invokevirtual 65, 3) := by decide +kernel
theorem dX2_moves_9 : decode cX2_moves 9 = .ok (.iconst 1, 1) := by decide +kernel
theorem dX2_moves_10 : decode cX2_moves 10 = .ok (.if_icmp .ne 7, 3) := by decide +kernel
theorem dX2_moves_13 : decode cX2_moves 13 = .ok (.iconst 1, 1) := by decide +kernel
theorem dX2_moves_14 : decode cX2_moves 14 = .ok (.goto 4, 3) := by decide +kernel
theorem dX2_moves_17 : decode cX2_moves 17 = .ok (.iconst 0, 1) := by decide +kernel
theorem dX2_moves_18 : decode cX2_moves 18 = .ok (.ireturn, 1) := by decide +kernel
set_option maxRecDepth 20000 in
theorem ggX2_goes_X0_of : GoodIn wsX2_goes wsX0_of := goodIn_r _ [7, 8, 20, 21, 22] (by decide +kernel) (by decide +kernel)
set_option maxRecDepth 20000 in
theorem gX2_goes_X0_of : GoodIn wsX2_goes (wsV RX2 65 RX0 yX0_of wsX0_of) := goodIn_app (goodIn_of _ (by decide +kernel)) ggX2_goes_X0_of
set_option maxRecDepth 20000 in
theorem ggX2_goes_X4_entry : GoodIn wsX2_goes wsX4_entry := goodIn_r _ [11] (by decide +kernel) (by decide +kernel)
set_option maxRecDepth 20000 in
theorem gX2_goes_X4_entry_n89 : GoodIn wsX2_goes (wsX4_entry) := ggX2_goes_X4_entry
theorem dX2_goes_0 : decode cX2_goes 0 = .ok (.aload_n 0, 1) := by decide +kernel
theorem dX2_goes_1 : decode cX2_goes 1 = .ok (.getfield 12, 3) := by decide +kernel
theorem dX2_goes_4 : decode cX2_goes 4 = .ok (.iload_n 1, 1) := by decide +kernel
theorem dX2_goes_5 : decode cX2_goes 5 = .ok (.iconst 2, 1) := by decide +kernel
theorem dX2_goes_6 : decode cX2_goes 6 = .ok (.invokevirtual 65, 3) := by decide +kernel
theorem dX2_goes_9 : decode cX2_goes 9 = .ok (.iconst 1, 1) := by decide +kernel
theorem dX2_goes_10 : decode cX2_goes 10 = .ok (.if_icmp .ne 18, 3) := by decide +kernel
theorem dX2_goes_13 : decode cX2_goes 13 = .ok (.aload_n 0, 1) := by decide +kernel
theorem dX2_goes_14 : decode cX2_goes 14 = .ok (.getfield 28, 3) := by decide +kernel
theorem dX2_goes_17 : decode cX2_goes 17 = .ok (.iload_n 1, 1) := by decide +kernel
theorem dX2_goes_18 : decode cX2_goes 18 = .ok (.invokestatic 89, 3) := by decide +kernel
theorem dX2_goes_21 : decode cX2_goes 21 = .ok (.ifCond .ne 7, 3) := by decide +kernel
theorem dX2_goes_24 : decode cX2_goes 24 = .ok (.iconst 1, 1) := by decide +kernel
theorem dX2_goes_25 : decode cX2_goes 25 = .ok (.goto 4, 3) := by decide +kernel
theorem dX2_goes_28 : decode cX2_goes 28 = .ok (.iconst 0, 1) := by decide +kernel
theorem dX2_goes_29 : decode cX2_goes 29 = .ok (.ireturn, 1) := by decide +kernel
set_option maxRecDepth 20000 in
theorem ggX2_hasRival_X0_number : GoodIn wsX2_hasRival wsX0_number := goodIn_r _ [7, 8, 30, 31, 32] (by decide +kernel) (by decide +kernel)
set_option maxRecDepth 20000 in
theorem gX2_hasRival_X0_number : GoodIn wsX2_hasRival (wsV RX2 61 RX0 yX0_number wsX0_number) := goodIn_app (goodIn_of _ (by decide +kernel)) ggX2_hasRival_X0_number
set_option maxRecDepth 20000 in
theorem ggX2_hasRival_X2_moves : GoodIn wsX2_hasRival wsX2_moves := goodIn_r _ [13, 1, 14, 15, 16, 6, 17, 18, 22, 23, 24, 25, 26, 27, 28, 29, 30, 31, 32] (by decide +kernel) (by decide +kernel)
set_option maxRecDepth 20000 in
theorem gX2_hasRival_X2_moves : GoodIn wsX2_hasRival (wsV RX2 80 RX2 yX2_moves wsX2_moves) := goodIn_app (goodIn_of _ (by decide +kernel)) ggX2_hasRival_X2_moves
set_option maxRecDepth 20000 in
theorem ggX2_hasRival_X0_of : GoodIn wsX2_hasRival wsX0_of := goodIn_r _ [17, 18, 30, 31, 32] (by decide +kernel) (by decide +kernel)
set_option maxRecDepth 20000 in
theorem gX2_hasRival_X0_of : GoodIn wsX2_hasRival (wsV RX2 65 RX0 yX0_of wsX0_of) := goodIn_app (goodIn_of _ (by decide +kernel)) ggX2_hasRival_X0_of
set_option maxRecDepth 20000 in
theorem ggX2_hasRival_X4_entry : GoodIn wsX2_hasRival wsX4_entry := goodIn_r _ [21] (by decide +kernel) (by decide +kernel)
set_option maxRecDepth 20000 in
theorem gX2_hasRival_X4_entry_n89 : GoodIn wsX2_hasRival (wsX4_entry) := ggX2_hasRival_X4_entry
theorem dX2_hasRival_0 : decode cX2_hasRival 0 = .ok (.iconst 0, 1) := by decide +kernel
theorem dX2_hasRival_1 : decode cX2_hasRival 1 = .ok (.istore_n 2, 1) := by decide +kernel
theorem dX2_hasRival_2 : decode cX2_hasRival 2 = .ok (.iload_n 2, 1) := by decide +kernel
theorem dX2_hasRival_3 : decode cX2_hasRival 3 = .ok (.aload_n 0, 1) := by decide +kernel
theorem dX2_hasRival_4 : decode cX2_hasRival 4 = .ok (.getfield 12, 3) := by decide +kernel
theorem dX2_hasRival_7 : decode cX2_hasRival 7 = .ok (.iconst 0, 1) := by decide +kernel
theorem dX2_hasRival_8 : decode cX2_hasRival 8 = .ok (.invokevirtual 61, 3) := by decide +kernel
theorem dX2_hasRival_11 : decode cX2_hasRival 11 = .ok (.if_icmp .ge 64, 3) := by decide +kernel
theorem dX2_hasRival_14 : decode cX2_hasRival 14 = .ok (.iload_n 2, 1) := by decide +kernel
theorem dX2_hasRival_15 : decode cX2_hasRival 15 = .ok (.iload_n 1, 1) := by decide +kernel
theorem dX2_hasRival_16 : decode cX2_hasRival 16 = .ok (.if_icmp .eq 53, 3) := by decide +kernel
theorem dX2_hasRival_19 : decode cX2_hasRival 19 = .ok (.aload_n 0, 1) := by decide +kernel
theorem dX2_hasRival_20 : decode cX2_hasRival 20 = .ok (.iload_n 2, 1) := by decide +kernel
theorem dX2_hasRival_21 : decode cX2_hasRival 21 = .ok (.invokevirtual 80, 3) := by decide +kernel
theorem dX2_hasRival_24 : decode cX2_hasRival 24 = .ok (.ifCond .eq 45, 3) := by decide +kernel
theorem dX2_hasRival_27 : decode cX2_hasRival 27 = .ok (.aload_n 0, 1) := by decide +kernel
theorem dX2_hasRival_28 : decode cX2_hasRival 28 = .ok (.getfield 12, 3) := by decide +kernel
theorem dX2_hasRival_31 : decode cX2_hasRival 31 = .ok (.iload_n 2, 1) := by decide +kernel
theorem dX2_hasRival_32 : decode cX2_hasRival 32 = .ok (.iconst 3, 1) := by decide +kernel
theorem dX2_hasRival_33 : decode cX2_hasRival 33 = .ok (.invokevirtual 65, 3) := by decide +kernel
theorem dX2_hasRival_36 : decode cX2_hasRival 36 = .ok (.aload_n 0, 1) := by decide +kernel
theorem dX2_hasRival_37 : decode cX2_hasRival 37 = .ok (.getfield 12, 3) := by decide +kernel
theorem dX2_hasRival_40 : decode cX2_hasRival 40 = .ok (.iload_n 1, 1) := by decide +kernel
theorem dX2_hasRival_41 : decode cX2_hasRival 41 = .ok (.iconst 3, 1) := by decide +kernel
theorem dX2_hasRival_42 : decode cX2_hasRival 42 = .ok (.invokevirtual 65, 3) := by decide +kernel
theorem dX2_hasRival_45 : decode cX2_hasRival 45 = .ok (.if_icmp .ne 24, 3) := by decide +kernel
theorem dX2_hasRival_48 : decode cX2_hasRival 48 = .ok (.aload_n 0, 1) := by decide +kernel
theorem dX2_hasRival_49 : decode cX2_hasRival 49 = .ok (.getfield 25, 3) := by decide +kernel
theorem dX2_hasRival_52 : decode cX2_hasRival 52 = .ok (.iload_n 2, 1) := by decide +kernel
theorem dX2_hasRival_53 : decode cX2_hasRival 53 = .ok (.invokestatic 89, 3) := by decide +kernel
theorem dX2_hasRival_56 : decode cX2_hasRival 56 = .ok (.aload_n 0, 1) := by decide +kernel
theorem dX2_hasRival_57 : decode cX2_hasRival 57 = .ok (.getfield 25, 3) := by decide +kernel
theorem dX2_hasRival_60 : decode cX2_hasRival 60 = .ok (.iload_n 1, 1) := by decide +kernel
theorem dX2_hasRival_61 : decode cX2_hasRival 61 = .ok (.invokestatic 89, 3) := by decide +kernel
theorem dX2_hasRival_64 : decode cX2_hasRival 64 = .ok (.if_icmp .lt 5, 3) := by decide +kernel
theorem dX2_hasRival_67 : decode cX2_hasRival 67 = .ok (.iconst 1, 1) := by decide +kernel
theorem dX2_hasRival_68 : decode cX2_hasRival 68 = .ok (.ireturn, 1) := by decide +kernel
theorem dX2_hasRival_69 : decode cX2_hasRival 69 = .ok (.iinc 2 1, 3) := by decide +kernel
theorem dX2_hasRival_72 : decode cX2_hasRival 72 = .ok (.goto (-70), 3) := by decide +kernel
theorem dX2_hasRival_75 : decode cX2_hasRival 75 = .ok (.iconst 0, 1) := by decide +kernel
theorem dX2_hasRival_76 : decode cX2_hasRival 76 = .ok (.ireturn, 1) := by decide +kernel
set_option maxRecDepth 20000 in
theorem ggX2_losesSwap_X0_of : GoodIn wsX2_losesSwap wsX0_of := goodIn_r _ [7, 8, 35, 36, 37] (by decide +kernel) (by decide +kernel)
set_option maxRecDepth 20000 in
theorem gX2_losesSwap_X0_of : GoodIn wsX2_losesSwap (wsV RX2 65 RX0 yX0_of wsX0_of) := goodIn_app (goodIn_of _ (by decide +kernel)) ggX2_losesSwap_X0_of
set_option maxRecDepth 20000 in
theorem ggX2_losesSwap_X0_armyOn : GoodIn wsX2_losesSwap wsX0_armyOn := goodIn_r _ [12, 13, 14, 15, 6, 16, 17, 18, 4, 5, 7, 8, 35, 36, 37] (by decide +kernel) (by decide +kernel)
set_option maxRecDepth 20000 in
theorem gX2_losesSwap_X0_armyOn : GoodIn wsX2_losesSwap (wsV RX2 83 RX0 yX0_armyOn wsX0_armyOn) := goodIn_app (goodIn_of _ (by decide +kernel)) ggX2_losesSwap_X0_armyOn
set_option maxRecDepth 20000 in
theorem ggX2_losesSwap_X2_moves : GoodIn wsX2_losesSwap wsX2_moves := goodIn_r _ [23, 1, 3, 4, 5, 6, 7, 8, 27, 28, 29, 30, 31, 32, 33, 34, 35, 36, 37] (by decide +kernel) (by decide +kernel)
set_option maxRecDepth 20000 in
theorem gX2_losesSwap_X2_moves : GoodIn wsX2_losesSwap (wsV RX2 80 RX2 yX2_moves wsX2_moves) := goodIn_app (goodIn_of _ (by decide +kernel)) ggX2_losesSwap_X2_moves
set_option maxRecDepth 20000 in
theorem ggX2_losesSwap_X4_entry : GoodIn wsX2_losesSwap wsX4_entry := goodIn_r _ [26] (by decide +kernel) (by decide +kernel)
set_option maxRecDepth 20000 in
theorem gX2_losesSwap_X4_entry_n89 : GoodIn wsX2_losesSwap (wsX4_entry) := ggX2_losesSwap_X4_entry
theorem dX2_losesSwap_0 : decode cX2_losesSwap 0 = .ok (.aload_n 0, 1) := by decide +kernel
theorem dX2_losesSwap_1 : decode cX2_losesSwap 1 = .ok (.getfield 12, 3) := by decide +kernel
theorem dX2_losesSwap_4 : decode cX2_losesSwap 4 = .ok (.aload_n 0, 1) := by decide +kernel
theorem dX2_losesSwap_5 : decode cX2_losesSwap 5 = .ok (.getfield 12, 3) := by decide +kernel
theorem dX2_losesSwap_8 : decode cX2_losesSwap 8 = .ok (.iload_n 1, 1) := by decide +kernel
theorem dX2_losesSwap_9 : decode cX2_losesSwap 9 = .ok (.iconst 3, 1) := by decide +kernel
theorem dX2_losesSwap_10 : decode cX2_losesSwap 10 = .ok (.invokevirtual 65, 3) := by decide +kernel
theorem dX2_losesSwap_13 : decode cX2_losesSwap 13 = .ok (.invokevirtual 83, 3) := by decide +kernel
theorem dX2_losesSwap_16 : decode cX2_losesSwap 16 = .ok (.istore_n 2, 1) := by decide +kernel
theorem dX2_losesSwap_17 : decode cX2_losesSwap 17 = .ok (.iload_n 2, 1) := by decide +kernel
theorem dX2_losesSwap_18 : decode cX2_losesSwap 18 = .ok (.iconst (-1), 1) := by decide +kernel
theorem dX2_losesSwap_19 : decode cX2_losesSwap 19 = .ok (.if_icmp .eq 55, 3) := by decide +kernel
theorem dX2_losesSwap_22 : decode cX2_losesSwap 22 = .ok (.aload_n 0, 1) := by decide +kernel
theorem dX2_losesSwap_23 : decode cX2_losesSwap 23 = .ok (.iload_n 2, 1) := by decide +kernel
theorem dX2_losesSwap_24 : decode cX2_losesSwap 24 = .ok (.invokevirtual 80, 3) := by decide +kernel
theorem dX2_losesSwap_27 : decode cX2_losesSwap 27 = .ok (.ifCond .eq 47, 3) := by decide +kernel
theorem dX2_losesSwap_30 : decode cX2_losesSwap 30 = .ok (.aload_n 0, 1) := by decide +kernel
theorem dX2_losesSwap_31 : decode cX2_losesSwap 31 = .ok (.getfield 12, 3) := by decide +kernel
theorem dX2_losesSwap_34 : decode cX2_losesSwap 34 = .ok (.iload_n 2, 1) := by decide +kernel
theorem dX2_losesSwap_35 : decode cX2_losesSwap 35 = .ok (.iconst 3, 1) := by decide +kernel
theorem dX2_losesSwap_36 : decode cX2_losesSwap 36 = .ok (.invokevirtual 65, 3) := by decide +kernel
theorem dX2_losesSwap_39 : decode cX2_losesSwap 39 = .ok (.aload_n 0, 1) := by decide +kernel
theorem dX2_losesSwap_40 : decode cX2_losesSwap 40 = .ok (.getfield 12, 3) := by decide +kernel
theorem dX2_losesSwap_43 : decode cX2_losesSwap 43 = .ok (.iload_n 1, 1) := by decide +kernel
theorem dX2_losesSwap_44 : decode cX2_losesSwap 44 = .ok (.iconst 1, 1) := by decide +kernel
theorem dX2_losesSwap_45 : decode cX2_losesSwap 45 = .ok (.invokevirtual 65, 3) := by decide +kernel
theorem dX2_losesSwap_48 : decode cX2_losesSwap 48 = .ok (.if_icmp .ne 26, 3) := by decide +kernel
theorem dX2_losesSwap_51 : decode cX2_losesSwap 51 = .ok (.aload_n 0, 1) := by decide +kernel
theorem dX2_losesSwap_52 : decode cX2_losesSwap 52 = .ok (.getfield 25, 3) := by decide +kernel
theorem dX2_losesSwap_55 : decode cX2_losesSwap 55 = .ok (.iload_n 2, 1) := by decide +kernel
theorem dX2_losesSwap_56 : decode cX2_losesSwap 56 = .ok (.invokestatic 89, 3) := by decide +kernel
theorem dX2_losesSwap_59 : decode cX2_losesSwap 59 = .ok (.aload_n 0, 1) := by decide +kernel
theorem dX2_losesSwap_60 : decode cX2_losesSwap 60 = .ok (.getfield 25, 3) := by decide +kernel
theorem dX2_losesSwap_63 : decode cX2_losesSwap 63 = .ok (.iload_n 1, 1) := by decide +kernel
theorem dX2_losesSwap_64 : decode cX2_losesSwap 64 = .ok (.invokestatic 89, 3) := by decide +kernel
theorem dX2_losesSwap_67 : decode cX2_losesSwap 67 = .ok (.if_icmp .lt 7, 3) := by decide +kernel
theorem dX2_losesSwap_70 : decode cX2_losesSwap 70 = .ok (.iconst 1, 1) := by decide +kernel
theorem dX2_losesSwap_71 : decode cX2_losesSwap 71 = .ok (.goto 4, 3) := by decide +kernel
theorem dX2_losesSwap_74 : decode cX2_losesSwap 74 = .ok (.iconst 0, 1) := by decide +kernel
theorem dX2_losesSwap_75 : decode cX2_losesSwap 75 = .ok (.ireturn, 1) := by decide +kernel
set_option maxRecDepth 20000 in
theorem ggX2_blockOf_X0_of : GoodIn wsX2_blockOf wsX0_of := goodIn_r _ [7, 8, 40, 41, 42] (by decide +kernel) (by decide +kernel)
set_option maxRecDepth 20000 in
theorem gX2_blockOf_X0_of : GoodIn wsX2_blockOf (wsV RX2 65 RX0 yX0_of wsX0_of) := goodIn_app (goodIn_of _ (by decide +kernel)) ggX2_blockOf_X0_of
set_option maxRecDepth 20000 in
theorem ggX2_blockOf_X0_armyOn : GoodIn wsX2_blockOf wsX0_armyOn := goodIn_r _ [12, 13, 14, 15, 6, 16, 17, 18, 4, 5, 7, 8, 40, 41, 42] (by decide +kernel) (by decide +kernel)
set_option maxRecDepth 20000 in
theorem gX2_blockOf_X0_armyOn : GoodIn wsX2_blockOf (wsV RX2 83 RX0 yX0_armyOn wsX0_armyOn) := goodIn_app (goodIn_of _ (by decide +kernel)) ggX2_blockOf_X0_armyOn
set_option maxRecDepth 20000 in
theorem ggX2_blockOf_X2_goes : GoodIn wsX2_blockOf wsX2_goes := goodIn_r _ [23, 1, 24, 3, 4, 5, 6, 7, 8, 25, 26, 27, 32, 33, 34, 35, 36, 37, 38, 39, 40, 41, 42] (by decide +kernel) (by decide +kernel)
set_option maxRecDepth 20000 in
theorem gX2_blockOf_X2_goes : GoodIn wsX2_blockOf (wsV RX2 99 RX2 yX2_goes wsX2_goes) := goodIn_app (goodIn_of _ (by decide +kernel)) ggX2_blockOf_X2_goes
set_option maxRecDepth 20000 in
theorem ggX2_blockOf_X2_moves : GoodIn wsX2_blockOf wsX2_moves := goodIn_r _ [31, 1, 3, 4, 5, 6, 7, 8, 32, 33, 34, 35, 36, 37, 38, 39, 40, 41, 42] (by decide +kernel) (by decide +kernel)
set_option maxRecDepth 20000 in
theorem gX2_blockOf_X2_moves : GoodIn wsX2_blockOf (wsV RX2 80 RX2 yX2_moves wsX2_moves) := goodIn_app (goodIn_of _ (by decide +kernel)) ggX2_blockOf_X2_moves
set_option maxRecDepth 20000 in
theorem ggX2_blockOf_X4_entry : GoodIn wsX2_blockOf wsX4_entry := goodIn_r _ [27] (by decide +kernel) (by decide +kernel)
set_option maxRecDepth 20000 in
theorem gX2_blockOf_X4_entry_n89 : GoodIn wsX2_blockOf (wsX4_entry) := ggX2_blockOf_X4_entry
theorem dX2_blockOf_0 : decode cX2_blockOf 0 = .ok (.aload_n 0, 1) := by decide +kernel
theorem dX2_blockOf_1 : decode cX2_blockOf 1 = .ok (.getfield 12, 3) := by decide +kernel
theorem dX2_blockOf_4 : decode cX2_blockOf 4 = .ok (.aload_n 0, 1) := by decide +kernel
theorem dX2_blockOf_5 : decode cX2_blockOf 5 = .ok (.getfield 12, 3) := by decide +kernel
theorem dX2_blockOf_8 : decode cX2_blockOf 8 = .ok (.iload_n 1, 1) := by decide +kernel
theorem dX2_blockOf_9 : decode cX2_blockOf 9 = .ok (.iconst 3, 1) := by decide +kernel
theorem dX2_blockOf_10 : decode cX2_blockOf 10 = .ok (.invokevirtual 65, 3) := by decide +kernel
theorem dX2_blockOf_13 : decode cX2_blockOf 13 = .ok (.invokevirtual 83, 3) := by decide +kernel
theorem dX2_blockOf_16 : decode cX2_blockOf 16 = .ok (.istore_n 2, 1) := by decide +kernel
theorem dX2_blockOf_17 : decode cX2_blockOf 17 = .ok (.iload_n 2, 1) := by decide +kernel
theorem dX2_blockOf_18 : decode cX2_blockOf 18 = .ok (.iconst (-1), 1) := by decide +kernel
theorem dX2_blockOf_19 : decode cX2_blockOf 19 = .ok (.if_icmp .eq 11, 3) := by decide +kernel
theorem dX2_blockOf_22 : decode cX2_blockOf 22 = .ok (.aload_n 0, 1) := by decide +kernel
theorem dX2_blockOf_23 : decode cX2_blockOf 23 = .ok (.iload_n 2, 1) := by decide +kernel
theorem dX2_blockOf_24 : decode cX2_blockOf 24 = .ok (.invokevirtual 99, 3) := by decide +kernel
theorem dX2_blockOf_27 : decode cX2_blockOf 27 = .ok (.ifCond .eq 5, 3) := by decide +kernel
theorem dX2_blockOf_30 : decode cX2_blockOf 30 = .ok (.iconst 0, 1) := by decide +kernel
theorem dX2_blockOf_31 : decode cX2_blockOf 31 = .ok (.ireturn, 1) := by decide +kernel
theorem dX2_blockOf_32 : decode cX2_blockOf 32 = .ok (.aload_n 0, 1) := by decide +kernel
theorem dX2_blockOf_33 : decode cX2_blockOf 33 = .ok (.getfield 12, 3) := by decide +kernel
theorem dX2_blockOf_36 : decode cX2_blockOf 36 = .ok (.iload_n 2, 1) := by decide +kernel
theorem dX2_blockOf_37 : decode cX2_blockOf 37 = .ok (.iconst 0, 1) := by decide +kernel
theorem dX2_blockOf_38 : decode cX2_blockOf 38 = .ok (.invokevirtual 65, 3) := by decide +kernel
theorem dX2_blockOf_41 : decode cX2_blockOf 41 = .ok (.aload_n 0, 1) := by decide +kernel
theorem dX2_blockOf_42 : decode cX2_blockOf 42 = .ok (.getfield 12, 3) := by decide +kernel
theorem dX2_blockOf_45 : decode cX2_blockOf 45 = .ok (.iload_n 1, 1) := by decide +kernel
theorem dX2_blockOf_46 : decode cX2_blockOf 46 = .ok (.iconst 0, 1) := by decide +kernel
theorem dX2_blockOf_47 : decode cX2_blockOf 47 = .ok (.invokevirtual 65, 3) := by decide +kernel
theorem dX2_blockOf_50 : decode cX2_blockOf 50 = .ok (.if_icmp .ne 5, 3) := by decide +kernel
theorem dX2_blockOf_53 : decode cX2_blockOf 53 = .ok (.iconst 3, 1) := by decide +kernel
theorem dX2_blockOf_54 : decode cX2_blockOf 54 = .ok (.ireturn, 1) := by decide +kernel
theorem dX2_blockOf_55 : decode cX2_blockOf 55 = .ok (.aload_n 0, 1) := by decide +kernel
theorem dX2_blockOf_56 : decode cX2_blockOf 56 = .ok (.iload_n 2, 1) := by decide +kernel
theorem dX2_blockOf_57 : decode cX2_blockOf 57 = .ok (.invokevirtual 80, 3) := by decide +kernel
theorem dX2_blockOf_60 : decode cX2_blockOf 60 = .ok (.ifCond .eq 7, 3) := by decide +kernel
theorem dX2_blockOf_63 : decode cX2_blockOf 63 = .ok (.iconst 1, 1) := by decide +kernel
theorem dX2_blockOf_64 : decode cX2_blockOf 64 = .ok (.goto 11, 3) := by decide +kernel
theorem dX2_blockOf_67 : decode cX2_blockOf 67 = .ok (.aload_n 0, 1) := by decide +kernel
theorem dX2_blockOf_68 : decode cX2_blockOf 68 = .ok (.getfield 25, 3) := by decide +kernel
theorem dX2_blockOf_71 : decode cX2_blockOf 71 = .ok (.iload_n 2, 1) := by decide +kernel
theorem dX2_blockOf_72 : decode cX2_blockOf 72 = .ok (.invokestatic 89, 3) := by decide +kernel
theorem dX2_blockOf_75 : decode cX2_blockOf 75 = .ok (.istore_n 3, 1) := by decide +kernel
theorem dX2_blockOf_76 : decode cX2_blockOf 76 = .ok (.iload_n 3, 1) := by decide +kernel
theorem dX2_blockOf_77 : decode cX2_blockOf 77 = .ok (.aload_n 0, 1) := by decide +kernel
theorem dX2_blockOf_78 : decode cX2_blockOf 78 = .ok (.getfield 25, 3) := by decide +kernel
theorem dX2_blockOf_81 : decode cX2_blockOf 81 = .ok (.iload_n 1, 1) := by decide +kernel
theorem dX2_blockOf_82 : decode cX2_blockOf 82 = .ok (.invokestatic 89, 3) := by decide +kernel
theorem dX2_blockOf_85 : decode cX2_blockOf 85 = .ok (.if_icmp .lt 7, 3) := by decide +kernel
theorem dX2_blockOf_88 : decode cX2_blockOf 88 = .ok (.iconst 4, 1) := by decide +kernel
theorem dX2_blockOf_89 : decode cX2_blockOf 89 = .ok (.goto 4, 3) := by decide +kernel
theorem dX2_blockOf_92 : decode cX2_blockOf 92 = .ok (.iconst 0, 1) := by decide +kernel
theorem dX2_blockOf_93 : decode cX2_blockOf 93 = .ok (.ireturn, 1) := by decide +kernel
set_option maxRecDepth 20000 in
theorem ggX2_comeToFields_X0_number : GoodIn wsX2_comeToFields wsX0_number := goodIn_r _ [9, 10, 39, 40, 41] (by decide +kernel) (by decide +kernel)
set_option maxRecDepth 20000 in
theorem gX2_comeToFields_X0_number : GoodIn wsX2_comeToFields (wsV RX2 61 RX0 yX0_number wsX0_number) := goodIn_app (goodIn_of _ (by decide +kernel)) ggX2_comeToFields_X0_number
set_option maxRecDepth 20000 in
theorem ggX2_comeToFields_X2_goes : GoodIn wsX2_comeToFields wsX2_goes := goodIn_r _ [15, 1, 16, 17, 18, 19, 8, 20, 21, 22, 23, 24, 31, 32, 33, 34, 35, 36, 37, 38, 39, 40, 41] (by decide +kernel) (by decide +kernel)
set_option maxRecDepth 20000 in
theorem gX2_comeToFields_X2_goes : GoodIn wsX2_comeToFields (wsV RX2 99 RX2 yX2_goes wsX2_goes) := goodIn_app (goodIn_of _ (by decide +kernel)) ggX2_comeToFields_X2_goes
set_option maxRecDepth 20000 in
theorem ggX2_comeToFields_X0_of : GoodIn wsX2_comeToFields wsX0_of := goodIn_r _ [20, 21, 39, 40, 41] (by decide +kernel) (by decide +kernel)
set_option maxRecDepth 20000 in
theorem gX2_comeToFields_X0_of : GoodIn wsX2_comeToFields (wsV RX2 65 RX0 yX0_of wsX0_of) := goodIn_app (goodIn_of _ (by decide +kernel)) ggX2_comeToFields_X0_of
set_option maxRecDepth 20000 in
theorem ggX2_comeToFields_X2_comerTo : GoodIn wsX2_comeToFields wsX2_comerTo := goodIn_r _ [28, 1, 5, 6, 7, 8, 9, 10, 11, 12, 13, 14, 15, 16, 17, 18, 19, 20, 21, 22, 23, 24, 31, 32, 33, 34, 35, 36, 37, 38, 39, 40, 41] (by decide +kernel) (by decide +kernel)
set_option maxRecDepth 20000 in
theorem gX2_comeToFields_X2_comerTo : GoodIn wsX2_comeToFields (wsV RX2 105 RX2 yX2_comerTo wsX2_comerTo) := goodIn_app (goodIn_of _ (by decide +kernel)) ggX2_comeToFields_X2_comerTo
set_option maxRecDepth 20000 in
theorem ggX2_comeToFields_X4_enter : GoodIn wsX2_comeToFields wsX4_enter := goodIn_r _ [30] (by decide +kernel) (by decide +kernel)
set_option maxRecDepth 20000 in
theorem gX2_comeToFields_X4_enter_n76 : GoodIn wsX2_comeToFields (wsX4_enter) := ggX2_comeToFields_X4_enter
theorem dX2_comeToFields_0 : decode cX2_comeToFields 0 = .ok (.iconst 0, 1) := by decide +kernel
theorem dX2_comeToFields_1 : decode cX2_comeToFields 1 = .ok (.istore_n 1, 1) := by decide +kernel
theorem dX2_comeToFields_2 : decode cX2_comeToFields 2 = .ok (.iload_n 1, 1) := by decide +kernel
theorem dX2_comeToFields_3 : decode cX2_comeToFields 3 = .ok (.aload_n 0, 1) := by decide +kernel
theorem dX2_comeToFields_4 : decode cX2_comeToFields 4 = .ok (.getfield 12, 3) := by decide +kernel
theorem dX2_comeToFields_7 : decode cX2_comeToFields 7 = .ok (.iconst 0, 1) := by decide +kernel
theorem dX2_comeToFields_8 : decode cX2_comeToFields 8 = .ok (.invokevirtual 61, 3) := by decide +kernel
theorem dX2_comeToFields_11 : decode cX2_comeToFields 11 = .ok (.if_icmp .ge 110, 3) := by decide +kernel
theorem dX2_comeToFields_14 : decode cX2_comeToFields 14 = .ok (.aload_n 0, 1) := by decide +kernel
theorem dX2_comeToFields_15 : decode cX2_comeToFields 15 = .ok (.iload_n 1, 1) := by decide +kernel
theorem dX2_comeToFields_16 : decode cX2_comeToFields 16 = .ok (.invokevirtual 99, 3) := by decide +kernel
theorem dX2_comeToFields_19 : decode cX2_comeToFields 19 = .ok (.ifCond .eq 7, 3) := by decide +kernel
theorem dX2_comeToFields_22 : decode cX2_comeToFields 22 = .ok (.iconst (-1), 1) := by decide +kernel
theorem dX2_comeToFields_23 : decode cX2_comeToFields 23 = .ok (.goto 16, 3) := by decide +kernel
theorem dX2_comeToFields_26 : decode cX2_comeToFields 26 = .ok (.aload_n 0, 1) := by decide +kernel
theorem dX2_comeToFields_27 : decode cX2_comeToFields 27 = .ok (.aload_n 0, 1) := by decide +kernel
theorem dX2_comeToFields_28 : decode cX2_comeToFields 28 = .ok (.getfield 12, 3) := by decide +kernel
theorem dX2_comeToFields_31 : decode cX2_comeToFields 31 = .ok (.iload_n 1, 1) := by decide +kernel
theorem dX2_comeToFields_32 : decode cX2_comeToFields 32 = .ok (.iconst 1, 1) := by decide +kernel
theorem dX2_comeToFields_33 : decode cX2_comeToFields 33 = .ok (.invokevirtual 65, 3) := by decide +kernel
theorem dX2_comeToFields_36 : decode cX2_comeToFields 36 = .ok (.invokevirtual 105, 3) := by decide +kernel
theorem dX2_comeToFields_39 : decode cX2_comeToFields 39 = .ok (.istore_n 2, 1) := by decide +kernel
theorem dX2_comeToFields_40 : decode cX2_comeToFields 40 = .ok (.aload_n 0, 1) := by decide +kernel
theorem dX2_comeToFields_41 : decode cX2_comeToFields 41 = .ok (.getfield 31, 3) := by decide +kernel
theorem dX2_comeToFields_44 : decode cX2_comeToFields 44 = .ok (.iload_n 1, 1) := by decide +kernel
theorem dX2_comeToFields_45 : decode cX2_comeToFields 45 = .ok (.iload_n 2, 1) := by decide +kernel
theorem dX2_comeToFields_46 : decode cX2_comeToFields 46 = .ok (.invokestatic 76, 3) := by decide +kernel
theorem dX2_comeToFields_49 : decode cX2_comeToFields 49 = .ok (.aload_n 0, 1) := by decide +kernel
theorem dX2_comeToFields_50 : decode cX2_comeToFields 50 = .ok (.getfield 34, 3) := by decide +kernel
theorem dX2_comeToFields_53 : decode cX2_comeToFields 53 = .ok (.iload_n 1, 1) := by decide +kernel
theorem dX2_comeToFields_54 : decode cX2_comeToFields 54 = .ok (.iload_n 2, 1) := by decide +kernel
theorem dX2_comeToFields_55 : decode cX2_comeToFields 55 = .ok (.iconst (-1), 1) := by decide +kernel
theorem dX2_comeToFields_56 : decode cX2_comeToFields 56 = .ok (.if_icmp .ne 7, 3) := by decide +kernel
theorem dX2_comeToFields_59 : decode cX2_comeToFields 59 = .ok (.iconst 0, 1) := by decide +kernel
theorem dX2_comeToFields_60 : decode cX2_comeToFields 60 = .ok (.goto 4, 3) := by decide +kernel
theorem dX2_comeToFields_63 : decode cX2_comeToFields 63 = .ok (.iconst 1, 1) := by decide +kernel
theorem dX2_comeToFields_64 : decode cX2_comeToFields 64 = .ok (.invokestatic 76, 3) := by decide +kernel
theorem dX2_comeToFields_67 : decode cX2_comeToFields 67 = .ok (.aload_n 0, 1) := by decide +kernel
theorem dX2_comeToFields_68 : decode cX2_comeToFields 68 = .ok (.iload_n 1, 1) := by decide +kernel
theorem dX2_comeToFields_69 : decode cX2_comeToFields 69 = .ok (.invokevirtual 99, 3) := by decide +kernel
theorem dX2_comeToFields_72 : decode cX2_comeToFields 72 = .ok (.ifCond .eq 15, 3) := by decide +kernel
theorem dX2_comeToFields_75 : decode cX2_comeToFields 75 = .ok (.aload_n 0, 1) := by decide +kernel
theorem dX2_comeToFields_76 : decode cX2_comeToFields 76 = .ok (.getfield 12, 3) := by decide +kernel
theorem dX2_comeToFields_79 : decode cX2_comeToFields 79 = .ok (.iload_n 1, 1) := by decide +kernel
theorem dX2_comeToFields_80 : decode cX2_comeToFields 80 = .ok (.iconst 3, 1) := by decide +kernel
theorem dX2_comeToFields_81 : decode cX2_comeToFields 81 = .ok (.invokevirtual 65, 3) := by decide +kernel
theorem dX2_comeToFields_84 : decode cX2_comeToFields 84 = .ok (.goto 12, 3) := by decide +kernel
theorem dX2_comeToFields_87 : decode cX2_comeToFields 87 = .ok (.aload_n 0, 1) := by decide +kernel
theorem dX2_comeToFields_88 : decode cX2_comeToFields 88 = .ok (.getfield 12, 3) := by decide +kernel
theorem dX2_comeToFields_91 : decode cX2_comeToFields 91 = .ok (.iload_n 1, 1) := by decide +kernel
theorem dX2_comeToFields_92 : decode cX2_comeToFields 92 = .ok (.iconst 1, 1) := by decide +kernel
theorem dX2_comeToFields_93 : decode cX2_comeToFields 93 = .ok (.invokevirtual 65, 3) := by decide +kernel
theorem dX2_comeToFields_96 : decode cX2_comeToFields 96 = .ok (.istore_n 3, 1) := by decide +kernel
theorem dX2_comeToFields_97 : decode cX2_comeToFields 97 = .ok (.aload_n 0, 1) := by decide +kernel
theorem dX2_comeToFields_98 : decode cX2_comeToFields 98 = .ok (.getfield 37, 3) := by decide +kernel
theorem dX2_comeToFields_101 : decode cX2_comeToFields 101 = .ok (.iload_n 1, 1) := by decide +kernel
theorem dX2_comeToFields_102 : decode cX2_comeToFields 102 = .ok (.iload_n 2, 1) := by decide +kernel
theorem dX2_comeToFields_103 : decode cX2_comeToFields 103 = .ok (.iconst (-1), 1) := by decide +kernel
theorem dX2_comeToFields_104 : decode cX2_comeToFields 104 = .ok (.if_icmp .ne 7, 3) := by decide +kernel
theorem dX2_comeToFields_107 : decode cX2_comeToFields 107 = .ok (.iload_n 3, 1) := by decide +kernel
theorem dX2_comeToFields_108 : decode cX2_comeToFields 108 = .ok (.goto 4, 3) := by decide +kernel
theorem dX2_comeToFields_111 : decode cX2_comeToFields 111 = .ok (.iconst (-1), 1) := by decide +kernel
theorem dX2_comeToFields_112 : decode cX2_comeToFields 112 = .ok (.invokestatic 76, 3) := by decide +kernel
theorem dX2_comeToFields_115 : decode cX2_comeToFields 115 = .ok (.iinc 1 1, 3) := by decide +kernel
theorem dX2_comeToFields_118 : decode cX2_comeToFields 118 = .ok (.goto (-116), 3) := by decide +kernel
theorem dX2_comeToFields_121 : decode cX2_comeToFields 121 = .ok (.return_, 1) := by decide +kernel
set_option maxRecDepth 20000 in
theorem ggX2_comerTo_X0_number : GoodIn wsX2_comerTo wsX0_number := goodIn_r _ [6, 7, 30, 31, 32] (by decide +kernel) (by decide +kernel)
set_option maxRecDepth 20000 in
theorem gX2_comerTo_X0_number : GoodIn wsX2_comerTo (wsV RX2 61 RX0 yX0_number wsX0_number) := goodIn_app (goodIn_of _ (by decide +kernel)) ggX2_comerTo_X0_number
set_option maxRecDepth 20000 in
theorem ggX2_comerTo_X2_goes : GoodIn wsX2_comerTo wsX2_goes := goodIn_r _ [12, 1, 13, 14, 15, 16, 5, 17, 18, 19, 20, 21, 22, 23, 24, 25, 26, 27, 28, 29, 30, 31, 32] (by decide +kernel) (by decide +kernel)
set_option maxRecDepth 20000 in
theorem gX2_comerTo_X2_goes : GoodIn wsX2_comerTo (wsV RX2 99 RX2 yX2_goes wsX2_goes) := goodIn_app (goodIn_of _ (by decide +kernel)) ggX2_comerTo_X2_goes
set_option maxRecDepth 20000 in
theorem ggX2_comerTo_X0_of : GoodIn wsX2_comerTo wsX0_of := goodIn_r _ [17, 18, 30, 31, 32] (by decide +kernel) (by decide +kernel)
set_option maxRecDepth 20000 in
theorem gX2_comerTo_X0_of : GoodIn wsX2_comerTo (wsV RX2 65 RX0 yX0_of wsX0_of) := goodIn_app (goodIn_of _ (by decide +kernel)) ggX2_comerTo_X0_of
theorem dX2_comerTo_0 : decode cX2_comerTo 0 = .ok (.iconst 0, 1) := by decide +kernel
theorem dX2_comerTo_1 : decode cX2_comerTo 1 = .ok (.istore_n 2, 1) := by decide +kernel
theorem dX2_comerTo_2 : decode cX2_comerTo 2 = .ok (.iload_n 2, 1) := by decide +kernel
theorem dX2_comerTo_3 : decode cX2_comerTo 3 = .ok (.aload_n 0, 1) := by decide +kernel
theorem dX2_comerTo_4 : decode cX2_comerTo 4 = .ok (.getfield 12, 3) := by decide +kernel
theorem dX2_comerTo_7 : decode cX2_comerTo 7 = .ok (.iconst 0, 1) := by decide +kernel
theorem dX2_comerTo_8 : decode cX2_comerTo 8 = .ok (.invokevirtual 61, 3) := by decide +kernel
theorem dX2_comerTo_11 : decode cX2_comerTo 11 = .ok (.if_icmp .ge 32, 3) := by decide +kernel
theorem dX2_comerTo_14 : decode cX2_comerTo 14 = .ok (.aload_n 0, 1) := by decide +kernel
theorem dX2_comerTo_15 : decode cX2_comerTo 15 = .ok (.iload_n 2, 1) := by decide +kernel
theorem dX2_comerTo_16 : decode cX2_comerTo 16 = .ok (.invokevirtual 99, 3) := by decide +kernel
theorem dX2_comerTo_19 : decode cX2_comerTo 19 = .ok (.ifCond .eq 18, 3) := by decide +kernel
theorem dX2_comerTo_22 : decode cX2_comerTo 22 = .ok (.aload_n 0, 1) := by decide +kernel
theorem dX2_comerTo_23 : decode cX2_comerTo 23 = .ok (.getfield 12, 3) := by decide +kernel
theorem dX2_comerTo_26 : decode cX2_comerTo 26 = .ok (.iload_n 2, 1) := by decide +kernel
theorem dX2_comerTo_27 : decode cX2_comerTo 27 = .ok (.iconst 3, 1) := by decide +kernel
theorem dX2_comerTo_28 : decode cX2_comerTo 28 = .ok (.invokevirtual 65, 3) := by decide +kernel
theorem dX2_comerTo_31 : decode cX2_comerTo 31 = .ok (.iload_n 1, 1) := by decide +kernel
theorem dX2_comerTo_32 : decode cX2_comerTo 32 = .ok (.if_icmp .ne 5, 3) := by decide +kernel
theorem dX2_comerTo_35 : decode cX2_comerTo 35 = .ok (.iload_n 2, 1) := by decide +kernel
theorem dX2_comerTo_36 : decode cX2_comerTo 36 = .ok (.ireturn, 1) := by decide +kernel
theorem dX2_comerTo_37 : decode cX2_comerTo 37 = .ok (.iinc 2 1, 3) := by decide +kernel
theorem dX2_comerTo_40 : decode cX2_comerTo 40 = .ok (.goto (-38), 3) := by decide +kernel
theorem dX2_comerTo_43 : decode cX2_comerTo 43 = .ok (.iconst (-1), 1) := by decide +kernel
theorem dX2_comerTo_44 : decode cX2_comerTo 44 = .ok (.ireturn, 1) := by decide +kernel
set_option maxRecDepth 20000 in
theorem ggX2_retreatAll_X0_number : GoodIn wsX2_retreatAll wsX0_number := goodIn_r _ [8, 9, 50, 51, 52] (by decide +kernel) (by decide +kernel)
set_option maxRecDepth 20000 in
theorem gX2_retreatAll_X0_number : GoodIn wsX2_retreatAll (wsV RX2 61 RX0 yX0_number wsX0_number) := goodIn_app (goodIn_of _ (by decide +kernel)) ggX2_retreatAll_X0_number
set_option maxRecDepth 20000 in
theorem ggX2_retreatAll_X2_strongestDriven : GoodIn wsX2_retreatAll wsX2_strongestDriven := goodIn_r _ [14, 1, 15, 3, 16, 4, 5, 6, 7, 8, 9, 17, 18, 19, 42, 43, 44, 45, 46, 47, 48, 49, 50, 51, 52] (by decide +kernel) (by decide +kernel)
set_option maxRecDepth 20000 in
theorem gX2_retreatAll_X2_strongestDriven : GoodIn wsX2_retreatAll (wsV RX2 108 RX2 yX2_strongestDriven wsX2_strongestDriven) := goodIn_app (goodIn_of _ (by decide +kernel)) ggX2_retreatAll_X2_strongestDriven
set_option maxRecDepth 20000 in
theorem ggX2_retreatAll_X2_retreatField : GoodIn wsX2_retreatAll wsX2_retreatField := goodIn_r _ [23, 1, 15, 17, 18, 19, 24, 25, 26, 7, 27, 28, 29, 30, 31, 32, 33, 13, 34, 2, 4, 5, 6, 8, 9, 35, 36, 37, 38, 39, 42, 43, 44, 45, 46, 47, 48, 49, 50, 51, 52] (by decide +kernel) (by decide +kernel)
set_option maxRecDepth 20000 in
theorem gX2_retreatAll_X2_retreatField : GoodIn wsX2_retreatAll (wsV RX2 112 RX2 yX2_retreatField wsX2_retreatField) := goodIn_app (goodIn_of _ (by decide +kernel)) ggX2_retreatAll_X2_retreatField
set_option maxRecDepth 20000 in
theorem ggX2_retreatAll_X4_enter : GoodIn wsX2_retreatAll wsX4_enter := goodIn_r _ [41] (by decide +kernel) (by decide +kernel)
set_option maxRecDepth 20000 in
theorem gX2_retreatAll_X4_enter_n76 : GoodIn wsX2_retreatAll (wsX4_enter) := ggX2_retreatAll_X4_enter
theorem dX2_retreatAll_0 : decode cX2_retreatAll 0 = .ok (.iconst 0, 1) := by decide +kernel
theorem dX2_retreatAll_1 : decode cX2_retreatAll 1 = .ok (.istore_n 1, 1) := by decide +kernel
theorem dX2_retreatAll_2 : decode cX2_retreatAll 2 = .ok (.iload_n 1, 1) := by decide +kernel
theorem dX2_retreatAll_3 : decode cX2_retreatAll 3 = .ok (.aload_n 0, 1) := by decide +kernel
theorem dX2_retreatAll_4 : decode cX2_retreatAll 4 = .ok (.getfield 12, 3) := by decide +kernel
theorem dX2_retreatAll_7 : decode cX2_retreatAll 7 = .ok (.iconst 0, 1) := by decide +kernel
theorem dX2_retreatAll_8 : decode cX2_retreatAll 8 = .ok (.invokevirtual 61, 3) := by decide +kernel
theorem dX2_retreatAll_11 : decode cX2_retreatAll 11 = .ok (.if_icmp .ge 43, 3) := by decide +kernel
theorem dX2_retreatAll_14 : decode cX2_retreatAll 14 = .ok (.aload_n 0, 1) := by decide +kernel
theorem dX2_retreatAll_15 : decode cX2_retreatAll 15 = .ok (.iconst 1, 1) := by decide +kernel
theorem dX2_retreatAll_16 : decode cX2_retreatAll 16 = .ok (.invokevirtual 108, 3) := by decide +kernel
theorem dX2_retreatAll_19 : decode cX2_retreatAll 19 = .ok (.istore_n 2, 1) := by decide +kernel
theorem dX2_retreatAll_20 : decode cX2_retreatAll 20 = .ok (.iload_n 2, 1) := by decide +kernel
theorem dX2_retreatAll_21 : decode cX2_retreatAll 21 = .ok (.iconst (-1), 1) := by decide +kernel
theorem dX2_retreatAll_22 : decode cX2_retreatAll 22 = .ok (.if_icmp .ne 4, 3) := by decide +kernel
theorem dX2_retreatAll_25 : decode cX2_retreatAll 25 = .ok (.return_, 1) := by decide +kernel
theorem dX2_retreatAll_26 : decode cX2_retreatAll 26 = .ok (.aload_n 0, 1) := by decide +kernel
theorem dX2_retreatAll_27 : decode cX2_retreatAll 27 = .ok (.getfield 37, 3) := by decide +kernel
theorem dX2_retreatAll_30 : decode cX2_retreatAll 30 = .ok (.iload_n 2, 1) := by decide +kernel
theorem dX2_retreatAll_31 : decode cX2_retreatAll 31 = .ok (.aload_n 0, 1) := by decide +kernel
theorem dX2_retreatAll_32 : decode cX2_retreatAll 32 = .ok (.iload_n 2, 1) := by decide +kernel
theorem dX2_retreatAll_33 : decode cX2_retreatAll 33 = .ok (.invokevirtual 112, 3) := by decide +kernel
theorem dX2_retreatAll_36 : decode cX2_retreatAll 36 = .ok (.invokestatic 76, 3) := by decide +kernel
theorem dX2_retreatAll_39 : decode cX2_retreatAll 39 = .ok (.aload_n 0, 1) := by decide +kernel
theorem dX2_retreatAll_40 : decode cX2_retreatAll 40 = .ok (.getfield 34, 3) := by decide +kernel
theorem dX2_retreatAll_43 : decode cX2_retreatAll 43 = .ok (.iload_n 2, 1) := by decide +kernel
theorem dX2_retreatAll_44 : decode cX2_retreatAll 44 = .ok (.iconst 0, 1) := by decide +kernel
theorem dX2_retreatAll_45 : decode cX2_retreatAll 45 = .ok (.invokestatic 76, 3) := by decide +kernel
theorem dX2_retreatAll_48 : decode cX2_retreatAll 48 = .ok (.iinc 1 1, 3) := by decide +kernel
theorem dX2_retreatAll_51 : decode cX2_retreatAll 51 = .ok (.goto (-49), 3) := by decide +kernel
theorem dX2_retreatAll_54 : decode cX2_retreatAll 54 = .ok (.return_, 1) := by decide +kernel
set_option maxRecDepth 20000 in
theorem ggX2_strongestDriven_X0_number : GoodIn wsX2_strongestDriven wsX0_number := goodIn_r _ [9, 10, 22, 23, 24] (by decide +kernel) (by decide +kernel)
set_option maxRecDepth 20000 in
theorem gX2_strongestDriven_X0_number : GoodIn wsX2_strongestDriven (wsV RX2 61 RX0 yX0_number wsX0_number) := goodIn_app (goodIn_of _ (by decide +kernel)) ggX2_strongestDriven_X0_number
set_option maxRecDepth 20000 in
theorem ggX2_strongestDriven_X4_entry : GoodIn wsX2_strongestDriven wsX4_entry := goodIn_r _ [13] (by decide +kernel) (by decide +kernel)
set_option maxRecDepth 20000 in
theorem gX2_strongestDriven_X4_entry_n89 : GoodIn wsX2_strongestDriven (wsX4_entry) := ggX2_strongestDriven_X4_entry
theorem dX2_strongestDriven_0 : decode cX2_strongestDriven 0 = .ok (.iconst (-1), 1) := by decide +kernel
theorem dX2_strongestDriven_1 : decode cX2_strongestDriven 1 = .ok (.istore_n 2, 1) := by decide +kernel
theorem dX2_strongestDriven_2 : decode cX2_strongestDriven 2 = .ok (.iconst 0, 1) := by decide +kernel
theorem dX2_strongestDriven_3 : decode cX2_strongestDriven 3 = .ok (.istore_n 3, 1) := by decide +kernel
theorem dX2_strongestDriven_4 : decode cX2_strongestDriven 4 = .ok (.iconst 0, 1) := by decide +kernel
theorem dX2_strongestDriven_5 : decode cX2_strongestDriven 5 = .ok (.istore 4, 2) := by decide +kernel
theorem dX2_strongestDriven_7 : decode cX2_strongestDriven 7 = .ok (.iload 4, 2) := by decide +kernel
theorem dX2_strongestDriven_9 : decode cX2_strongestDriven 9 = .ok (.aload_n 0, 1) := by decide +kernel
theorem dX2_strongestDriven_10 : decode cX2_strongestDriven 10 = .ok (.getfield 12, 3) := by decide +kernel
theorem dX2_strongestDriven_13 : decode cX2_strongestDriven 13 = .ok (.iconst 0, 1) := by decide +kernel
theorem dX2_strongestDriven_14 : decode cX2_strongestDriven 14 = .ok (.invokevirtual 61, 3) := by decide +kernel
theorem dX2_strongestDriven_17 : decode cX2_strongestDriven 17 = .ok (.if_icmp .ge 81, 3) := by decide +kernel
theorem dX2_strongestDriven_20 : decode cX2_strongestDriven 20 = .ok (.aload_n 0, 1) := by decide +kernel
theorem dX2_strongestDriven_21 : decode cX2_strongestDriven 21 = .ok (.getfield 31, 3) := by decide +kernel
theorem dX2_strongestDriven_24 : decode cX2_strongestDriven 24 = .ok (.iload 4, 2) := by decide +kernel
theorem dX2_strongestDriven_26 : decode cX2_strongestDriven 26 = .ok (.invokestatic 89, 3) := by decide +kernel
theorem dX2_strongestDriven_29 : decode cX2_strongestDriven 29 = .ok (.istore 5, 2) := by decide +kernel
theorem dX2_strongestDriven_31 : decode cX2_strongestDriven 31 = .ok (.iload 5, 2) := by decide +kernel
theorem dX2_strongestDriven_33 : decode cX2_strongestDriven 33 = .ok (.iconst (-1), 1) := by decide +kernel
theorem dX2_strongestDriven_34 : decode cX2_strongestDriven 34 = .ok (.if_icmp .eq 24, 3) := by decide +kernel
theorem dX2_strongestDriven_37 : decode cX2_strongestDriven 37 = .ok (.iload_n 1, 1) := by decide +kernel
theorem dX2_strongestDriven_38 : decode cX2_strongestDriven 38 = .ok (.ifCond .eq 16, 3) := by decide +kernel
theorem dX2_strongestDriven_41 : decode cX2_strongestDriven 41 = .ok (.aload_n 0, 1) := by decide +kernel
theorem dX2_strongestDriven_42 : decode cX2_strongestDriven 42 = .ok (.getfield 34, 3) := by decide +kernel
theorem dX2_strongestDriven_45 : decode cX2_strongestDriven 45 = .ok (.iload 4, 2) := by decide +kernel
theorem dX2_strongestDriven_47 : decode cX2_strongestDriven 47 = .ok (.invokestatic 89, 3) := by decide +kernel
theorem dX2_strongestDriven_50 : decode cX2_strongestDriven 50 = .ok (.iconst 1, 1) := by decide +kernel
theorem dX2_strongestDriven_51 : decode cX2_strongestDriven 51 = .ok (.if_icmp .ne 7, 3) := by decide +kernel
theorem dX2_strongestDriven_54 : decode cX2_strongestDriven 54 = .ok (.iconst 1, 1) := by decide +kernel
theorem dX2_strongestDriven_55 : decode cX2_strongestDriven 55 = .ok (.goto 4, 3) := by decide +kernel
theorem dX2_strongestDriven_58 : decode cX2_strongestDriven 58 = .ok (.iconst 0, 1) := by decide +kernel
theorem dX2_strongestDriven_59 : decode cX2_strongestDriven 59 = .ok (.istore 6, 2) := by decide +kernel
theorem dX2_strongestDriven_61 : decode cX2_strongestDriven 61 = .ok (.iload 6, 2) := by decide +kernel
theorem dX2_strongestDriven_63 : decode cX2_strongestDriven 63 = .ok (.ifCond .eq 29, 3) := by decide +kernel
theorem dX2_strongestDriven_66 : decode cX2_strongestDriven 66 = .ok (.aload_n 0, 1) := by decide +kernel
theorem dX2_strongestDriven_67 : decode cX2_strongestDriven 67 = .ok (.getfield 25, 3) := by decide +kernel
theorem dX2_strongestDriven_70 : decode cX2_strongestDriven 70 = .ok (.iload 5, 2) := by decide +kernel
theorem dX2_strongestDriven_72 : decode cX2_strongestDriven 72 = .ok (.invokestatic 89, 3) := by decide +kernel
theorem dX2_strongestDriven_75 : decode cX2_strongestDriven 75 = .ok (.iload_n 3, 1) := by decide +kernel
theorem dX2_strongestDriven_76 : decode cX2_strongestDriven 76 = .ok (.if_icmp .le 16, 3) := by decide +kernel
theorem dX2_strongestDriven_79 : decode cX2_strongestDriven 79 = .ok (.iload 4, 2) := by decide +kernel
theorem dX2_strongestDriven_81 : decode cX2_strongestDriven 81 = .ok (.istore_n 2, 1) := by decide +kernel
theorem dX2_strongestDriven_82 : decode cX2_strongestDriven 82 = .ok (.aload_n 0, 1) := by decide +kernel
theorem dX2_strongestDriven_83 : decode cX2_strongestDriven 83 = .ok (.getfield 25, 3) := by decide +kernel
theorem dX2_strongestDriven_86 : decode cX2_strongestDriven 86 = .ok (.iload 5, 2) := by decide +kernel
theorem dX2_strongestDriven_88 : decode cX2_strongestDriven 88 = .ok (.invokestatic 89, 3) := by decide +kernel
theorem dX2_strongestDriven_91 : decode cX2_strongestDriven 91 = .ok (.istore_n 3, 1) := by decide +kernel
theorem dX2_strongestDriven_92 : decode cX2_strongestDriven 92 = .ok (.iinc 4 1, 3) := by decide +kernel
theorem dX2_strongestDriven_95 : decode cX2_strongestDriven 95 = .ok (.goto (-88), 3) := by decide +kernel
theorem dX2_strongestDriven_98 : decode cX2_strongestDriven 98 = .ok (.iload_n 2, 1) := by decide +kernel
theorem dX2_strongestDriven_99 : decode cX2_strongestDriven 99 = .ok (.ireturn, 1) := by decide +kernel
set_option maxRecDepth 20000 in
theorem ggX2_retreatField_X4_entry : GoodIn wsX2_retreatField wsX4_entry := goodIn_r _ [5] (by decide +kernel) (by decide +kernel)
set_option maxRecDepth 20000 in
theorem gX2_retreatField_X4_entry_n89 : GoodIn wsX2_retreatField (wsX4_entry) := ggX2_retreatField_X4_entry
set_option maxRecDepth 20000 in
theorem ggX2_retreatField_X0_of : GoodIn wsX2_retreatField wsX0_of := goodIn_r _ [10, 11, 38, 39, 40] (by decide +kernel) (by decide +kernel)
set_option maxRecDepth 20000 in
theorem gX2_retreatField_X0_of : GoodIn wsX2_retreatField (wsV RX2 65 RX0 yX0_of wsX0_of) := goodIn_app (goodIn_of _ (by decide +kernel)) ggX2_retreatField_X0_of
set_option maxRecDepth 20000 in
theorem ggX2_retreatField_X4_areNeighbours : GoodIn wsX2_retreatField wsX4_areNeighbours := goodIn_r _ [13] (by decide +kernel) (by decide +kernel)
set_option maxRecDepth 20000 in
theorem gX2_retreatField_X4_areNeighbours_n115 : GoodIn wsX2_retreatField (wsX4_areNeighbours) := ggX2_retreatField_X4_areNeighbours
set_option maxRecDepth 20000 in
theorem ggX2_retreatField_X2_isTaken : GoodIn wsX2_retreatField wsX2_isTaken := goodIn_r _ [18, 1, 19, 20, 21, 22, 9, 23, 24, 3, 4, 5, 30, 31, 32, 33, 34, 35, 36, 37, 38, 39, 40] (by decide +kernel) (by decide +kernel)
set_option maxRecDepth 20000 in
theorem gX2_retreatField_X2_isTaken : GoodIn wsX2_retreatField (wsV RX2 119 RX2 yX2_isTaken wsX2_isTaken) := goodIn_app (goodIn_of _ (by decide +kernel)) ggX2_retreatField_X2_isTaken
set_option maxRecDepth 20000 in
theorem ggX2_retreatField_X2_wasFoughtFor : GoodIn wsX2_retreatField wsX2_wasFoughtFor := goodIn_r _ [28, 1, 29, 20, 21, 22, 9, 23, 24, 3, 4, 5, 6, 7, 8, 10, 11, 30, 31, 32, 33, 34, 35, 36, 37, 38, 39, 40] (by decide +kernel) (by decide +kernel)
set_option maxRecDepth 20000 in
theorem gX2_retreatField_X2_wasFoughtFor : GoodIn wsX2_retreatField (wsV RX2 122 RX2 yX2_wasFoughtFor wsX2_wasFoughtFor) := goodIn_app (goodIn_of _ (by decide +kernel)) ggX2_retreatField_X2_wasFoughtFor
theorem dX2_retreatField_0 : decode cX2_retreatField 0 = .ok (.aload_n 0, 1) := by decide +kernel
theorem dX2_retreatField_1 : decode cX2_retreatField 1 = .ok (.getfield 12, 3) := by decide +kernel
theorem dX2_retreatField_4 : decode cX2_retreatField 4 = .ok (.aload_n 0, 1) := by decide +kernel
theorem dX2_retreatField_5 : decode cX2_retreatField 5 = .ok (.getfield 31, 3) := by decide +kernel
theorem dX2_retreatField_8 : decode cX2_retreatField 8 = .ok (.iload_n 1, 1) := by decide +kernel
theorem dX2_retreatField_9 : decode cX2_retreatField 9 = .ok (.invokestatic 89, 3) := by decide +kernel
theorem dX2_retreatField_12 : decode cX2_retreatField 12 = .ok (.iconst 1, 1) := by decide +kernel
theorem dX2_retreatField_13 : decode cX2_retreatField 13 = .ok (.invokevirtual 65, 3) := by decide +kernel
theorem dX2_retreatField_16 : decode cX2_retreatField 16 = .ok (.istore_n 2, 1) := by decide +kernel
theorem dX2_retreatField_17 : decode cX2_retreatField 17 = .ok (.iconst 0, 1) := by decide +kernel
theorem dX2_retreatField_18 : decode cX2_retreatField 18 = .ok (.istore_n 3, 1) := by decide +kernel
theorem dX2_retreatField_19 : decode cX2_retreatField 19 = .ok (.iload_n 3, 1) := by decide +kernel
theorem dX2_retreatField_20 : decode cX2_retreatField 20 = .ok (.bipush 12, 2) := by decide +kernel
theorem dX2_retreatField_22 : decode cX2_retreatField 22 = .ok (.if_icmp .ge 48, 3) := by decide +kernel
theorem dX2_retreatField_25 : decode cX2_retreatField 25 = .ok (.aload_n 0, 1) := by decide +kernel
theorem dX2_retreatField_26 : decode cX2_retreatField 26 = .ok (.getfield 12, 3) := by decide +kernel
theorem dX2_retreatField_29 : decode cX2_retreatField 29 = .ok (.iload_n 1, 1) := by decide +kernel
theorem dX2_retreatField_30 : decode cX2_retreatField 30 = .ok (.iconst 1, 1) := by decide +kernel
theorem dX2_retreatField_31 : decode cX2_retreatField 31 = .ok (.invokevirtual 65, 3) := by decide +kernel
theorem dX2_retreatField_34 : decode cX2_retreatField 34 = .ok (.iload_n 3, 1) := by decide +kernel
theorem dX2_retreatField_35 : decode cX2_retreatField 35 = .ok (.invokestatic 115, 3) := by decide +kernel
theorem dX2_retreatField_38 : decode cX2_retreatField 38 = .ok (.ifCond .eq 26, 3) := by decide +kernel
theorem dX2_retreatField_41 : decode cX2_retreatField 41 = .ok (.iload_n 3, 1) := by decide +kernel
theorem dX2_retreatField_42 : decode cX2_retreatField 42 = .ok (.iload_n 2, 1) := by decide +kernel
theorem dX2_retreatField_43 : decode cX2_retreatField 43 = .ok (.if_icmp .eq 21, 3) := by decide +kernel
theorem dX2_retreatField_46 : decode cX2_retreatField 46 = .ok (.aload_n 0, 1) := by decide +kernel
theorem dX2_retreatField_47 : decode cX2_retreatField 47 = .ok (.iload_n 3, 1) := by decide +kernel
theorem dX2_retreatField_48 : decode cX2_retreatField 48 = .ok (.invokevirtual 119, 3) := by decide +kernel
theorem dX2_retreatField_51 : decode cX2_retreatField 51 = .ok (.ifCond .ne 13, 3) := by decide +kernel
theorem dX2_retreatField_54 : decode cX2_retreatField 54 = .ok (.aload_n 0, 1) := by decide +kernel
theorem dX2_retreatField_55 : decode cX2_retreatField 55 = .ok (.iload_n 3, 1) := by decide +kernel
theorem dX2_retreatField_56 : decode cX2_retreatField 56 = .ok (.invokevirtual 122, 3) := by decide +kernel
theorem dX2_retreatField_59 : decode cX2_retreatField 59 = .ok (.ifCond .ne 5, 3) := by decide +kernel
theorem dX2_retreatField_62 : decode cX2_retreatField 62 = .ok (.iload_n 3, 1) := by decide +kernel
theorem dX2_retreatField_63 : decode cX2_retreatField 63 = .ok (.ireturn, 1) := by decide +kernel
theorem dX2_retreatField_64 : decode cX2_retreatField 64 = .ok (.iinc 3 1, 3) := by decide +kernel
theorem dX2_retreatField_67 : decode cX2_retreatField 67 = .ok (.goto (-48), 3) := by decide +kernel
theorem dX2_retreatField_70 : decode cX2_retreatField 70 = .ok (.iconst (-1), 1) := by decide +kernel
theorem dX2_retreatField_71 : decode cX2_retreatField 71 = .ok (.ireturn, 1) := by decide +kernel
set_option maxRecDepth 20000 in
theorem ggX2_isTaken_X0_number : GoodIn wsX2_isTaken wsX0_number := goodIn_r _ [7, 8, 20, 21, 22] (by decide +kernel) (by decide +kernel)
set_option maxRecDepth 20000 in
theorem gX2_isTaken_X0_number : GoodIn wsX2_isTaken (wsV RX2 61 RX0 yX0_number wsX0_number) := goodIn_app (goodIn_of _ (by decide +kernel)) ggX2_isTaken_X0_number
set_option maxRecDepth 20000 in
theorem ggX2_isTaken_X4_entry : GoodIn wsX2_isTaken wsX4_entry := goodIn_r _ [11] (by decide +kernel) (by decide +kernel)
set_option maxRecDepth 20000 in
theorem gX2_isTaken_X4_entry_n89 : GoodIn wsX2_isTaken (wsX4_entry) := ggX2_isTaken_X4_entry
theorem dX2_isTaken_0 : decode cX2_isTaken 0 = .ok (.iconst 0, 1) := by decide +kernel
theorem dX2_isTaken_1 : decode cX2_isTaken 1 = .ok (.istore_n 2, 1) := by decide +kernel
theorem dX2_isTaken_2 : decode cX2_isTaken 2 = .ok (.iload_n 2, 1) := by decide +kernel
theorem dX2_isTaken_3 : decode cX2_isTaken 3 = .ok (.aload_n 0, 1) := by decide +kernel
theorem dX2_isTaken_4 : decode cX2_isTaken 4 = .ok (.getfield 12, 3) := by decide +kernel
theorem dX2_isTaken_7 : decode cX2_isTaken 7 = .ok (.iconst 0, 1) := by decide +kernel
theorem dX2_isTaken_8 : decode cX2_isTaken 8 = .ok (.invokevirtual 61, 3) := by decide +kernel
theorem dX2_isTaken_11 : decode cX2_isTaken 11 = .ok (.if_icmp .ge 23, 3) := by decide +kernel
theorem dX2_isTaken_14 : decode cX2_isTaken 14 = .ok (.aload_n 0, 1) := by decide +kernel
theorem dX2_isTaken_15 : decode cX2_isTaken 15 = .ok (.getfield 37, 3) := by decide +kernel
theorem dX2_isTaken_18 : decode cX2_isTaken 18 = .ok (.iload_n 2, 1) := by decide +kernel
theorem dX2_isTaken_19 : decode cX2_isTaken 19 = .ok (.invokestatic 89, 3) := by decide +kernel
theorem dX2_isTaken_22 : decode cX2_isTaken 22 = .ok (.iload_n 1, 1) := by decide +kernel
theorem dX2_isTaken_23 : decode cX2_isTaken 23 = .ok (.if_icmp .ne 5, 3) := by decide +kernel
theorem dX2_isTaken_26 : decode cX2_isTaken 26 = .ok (.iconst 1, 1) := by decide +kernel
theorem dX2_isTaken_27 : decode cX2_isTaken 27 = .ok (.ireturn, 1) := by decide +kernel
theorem dX2_isTaken_28 : decode cX2_isTaken 28 = .ok (.iinc 2 1, 3) := by decide +kernel
theorem dX2_isTaken_31 : decode cX2_isTaken 31 = .ok (.goto (-29), 3) := by decide +kernel
theorem dX2_isTaken_34 : decode cX2_isTaken 34 = .ok (.iconst 0, 1) := by decide +kernel
theorem dX2_isTaken_35 : decode cX2_isTaken 35 = .ok (.ireturn, 1) := by decide +kernel
set_option maxRecDepth 20000 in
theorem ggX2_wasFoughtFor_X0_number : GoodIn wsX2_wasFoughtFor wsX0_number := goodIn_r _ [7, 8, 25, 26, 27] (by decide +kernel) (by decide +kernel)
set_option maxRecDepth 20000 in
theorem gX2_wasFoughtFor_X0_number : GoodIn wsX2_wasFoughtFor (wsV RX2 61 RX0 yX0_number wsX0_number) := goodIn_app (goodIn_of _ (by decide +kernel)) ggX2_wasFoughtFor_X0_number
set_option maxRecDepth 20000 in
theorem ggX2_wasFoughtFor_X4_entry : GoodIn wsX2_wasFoughtFor wsX4_entry := goodIn_r _ [11] (by decide +kernel) (by decide +kernel)
set_option maxRecDepth 20000 in
theorem gX2_wasFoughtFor_X4_entry_n89 : GoodIn wsX2_wasFoughtFor (wsX4_entry) := ggX2_wasFoughtFor_X4_entry
set_option maxRecDepth 20000 in
theorem ggX2_wasFoughtFor_X0_of : GoodIn wsX2_wasFoughtFor wsX0_of := goodIn_r _ [15, 16, 25, 26, 27] (by decide +kernel) (by decide +kernel)
set_option maxRecDepth 20000 in
theorem gX2_wasFoughtFor_X0_of : GoodIn wsX2_wasFoughtFor (wsV RX2 65 RX0 yX0_of wsX0_of) := goodIn_app (goodIn_of _ (by decide +kernel)) ggX2_wasFoughtFor_X0_of
theorem dX2_wasFoughtFor_0 : decode cX2_wasFoughtFor 0 = .ok (.iconst 0, 1) := by decide +kernel
theorem dX2_wasFoughtFor_1 : decode cX2_wasFoughtFor 1 = .ok (.istore_n 2, 1) := by decide +kernel
theorem dX2_wasFoughtFor_2 : decode cX2_wasFoughtFor 2 = .ok (.iload_n 2, 1) := by decide +kernel
theorem dX2_wasFoughtFor_3 : decode cX2_wasFoughtFor 3 = .ok (.aload_n 0, 1) := by decide +kernel
theorem dX2_wasFoughtFor_4 : decode cX2_wasFoughtFor 4 = .ok (.getfield 12, 3) := by decide +kernel
theorem dX2_wasFoughtFor_7 : decode cX2_wasFoughtFor 7 = .ok (.iconst 0, 1) := by decide +kernel
theorem dX2_wasFoughtFor_8 : decode cX2_wasFoughtFor 8 = .ok (.invokevirtual 61, 3) := by decide +kernel
theorem dX2_wasFoughtFor_11 : decode cX2_wasFoughtFor 11 = .ok (.if_icmp .ge 36, 3) := by decide +kernel
theorem dX2_wasFoughtFor_14 : decode cX2_wasFoughtFor 14 = .ok (.aload_n 0, 1) := by decide +kernel
theorem dX2_wasFoughtFor_15 : decode cX2_wasFoughtFor 15 = .ok (.getfield 28, 3) := by decide +kernel
theorem dX2_wasFoughtFor_18 : decode cX2_wasFoughtFor 18 = .ok (.iload_n 2, 1) := by decide +kernel
theorem dX2_wasFoughtFor_19 : decode cX2_wasFoughtFor 19 = .ok (.invokestatic 89, 3) := by decide +kernel
theorem dX2_wasFoughtFor_22 : decode cX2_wasFoughtFor 22 = .ok (.iconst 1, 1) := by decide +kernel
theorem dX2_wasFoughtFor_23 : decode cX2_wasFoughtFor 23 = .ok (.if_icmp .ne 18, 3) := by decide +kernel
theorem dX2_wasFoughtFor_26 : decode cX2_wasFoughtFor 26 = .ok (.aload_n 0, 1) := by decide +kernel
theorem dX2_wasFoughtFor_27 : decode cX2_wasFoughtFor 27 = .ok (.getfield 12, 3) := by decide +kernel
theorem dX2_wasFoughtFor_30 : decode cX2_wasFoughtFor 30 = .ok (.iload_n 2, 1) := by decide +kernel
theorem dX2_wasFoughtFor_31 : decode cX2_wasFoughtFor 31 = .ok (.iconst 3, 1) := by decide +kernel
theorem dX2_wasFoughtFor_32 : decode cX2_wasFoughtFor 32 = .ok (.invokevirtual 65, 3) := by decide +kernel
theorem dX2_wasFoughtFor_35 : decode cX2_wasFoughtFor 35 = .ok (.iload_n 1, 1) := by decide +kernel
theorem dX2_wasFoughtFor_36 : decode cX2_wasFoughtFor 36 = .ok (.if_icmp .ne 5, 3) := by decide +kernel
theorem dX2_wasFoughtFor_39 : decode cX2_wasFoughtFor 39 = .ok (.iconst 1, 1) := by decide +kernel
theorem dX2_wasFoughtFor_40 : decode cX2_wasFoughtFor 40 = .ok (.ireturn, 1) := by decide +kernel
theorem dX2_wasFoughtFor_41 : decode cX2_wasFoughtFor 41 = .ok (.iinc 2 1, 3) := by decide +kernel
theorem dX2_wasFoughtFor_44 : decode cX2_wasFoughtFor 44 = .ok (.goto (-42), 3) := by decide +kernel
theorem dX2_wasFoughtFor_47 : decode cX2_wasFoughtFor 47 = .ok (.iconst 0, 1) := by decide +kernel
theorem dX2_wasFoughtFor_48 : decode cX2_wasFoughtFor 48 = .ok (.ireturn, 1) := by decide +kernel
set_option maxRecDepth 20000 in
theorem ggX2_outcome_X4_entry : GoodIn wsX2_outcome wsX4_entry := goodIn_r _ [9] (by decide +kernel) (by decide +kernel)
set_option maxRecDepth 20000 in
theorem gX2_outcome_X4_entry_n89 : GoodIn wsX2_outcome (wsX4_entry) := ggX2_outcome_X4_entry
theorem dX2_outcome_0 : decode cX2_outcome 0 = .ok (.iload_n 2, 1) := by decide +kernel
theorem dX2_outcome_1 : decode cX2_outcome 1 = .ok (.tableswitch 89 0 4 #[35, 44, 53, 62, 80], 35) := by decide +kernel
theorem dX2_outcome_36 : decode cX2_outcome 36 = .ok (.aload_n 0, 1) := by decide +kernel
theorem dX2_outcome_37 : decode cX2_outcome 37 = .ok (.getfield 37, 3) := by decide +kernel
theorem dX2_outcome_40 : decode cX2_outcome 40 = .ok (.iload_n 1, 1) := by decide +kernel
theorem dX2_outcome_41 : decode cX2_outcome 41 = .ok (.invokestatic 89, 3) := by decide +kernel
theorem dX2_outcome_44 : decode cX2_outcome 44 = .ok (.ireturn, 1) := by decide +kernel
theorem dX2_outcome_45 : decode cX2_outcome 45 = .ok (.aload_n 0, 1) := by decide +kernel
theorem dX2_outcome_46 : decode cX2_outcome 46 = .ok (.getfield 25, 3) := by decide +kernel
theorem dX2_outcome_49 : decode cX2_outcome 49 = .ok (.iload_n 1, 1) := by decide +kernel
theorem dX2_outcome_50 : decode cX2_outcome 50 = .ok (.invokestatic 89, 3) := by decide +kernel
theorem dX2_outcome_53 : decode cX2_outcome 53 = .ok (.ireturn, 1) := by decide +kernel
theorem dX2_outcome_54 : decode cX2_outcome 54 = .ok (.aload_n 0, 1) := by decide +kernel
theorem dX2_outcome_55 : decode cX2_outcome 55 = .ok (.getfield 28, 3) := by decide +kernel
theorem dX2_outcome_58 : decode cX2_outcome 58 = .ok (.iload_n 1, 1) := by decide +kernel
theorem dX2_outcome_59 : decode cX2_outcome 59 = .ok (.invokestatic 89, 3) := by decide +kernel
theorem dX2_outcome_62 : decode cX2_outcome 62 = .ok (.ireturn, 1) := by decide +kernel
theorem dX2_outcome_63 : decode cX2_outcome 63 = .ok (.aload_n 0, 1) := by decide +kernel
theorem dX2_outcome_64 : decode cX2_outcome 64 = .ok (.getfield 31, 3) := by decide +kernel
theorem dX2_outcome_67 : decode cX2_outcome 67 = .ok (.iload_n 1, 1) := by decide +kernel
theorem dX2_outcome_68 : decode cX2_outcome 68 = .ok (.invokestatic 89, 3) := by decide +kernel
theorem dX2_outcome_71 : decode cX2_outcome 71 = .ok (.iconst (-1), 1) := by decide +kernel
theorem dX2_outcome_72 : decode cX2_outcome 72 = .ok (.if_icmp .ne 7, 3) := by decide +kernel
theorem dX2_outcome_75 : decode cX2_outcome 75 = .ok (.iconst 0, 1) := by decide +kernel
theorem dX2_outcome_76 : decode cX2_outcome 76 = .ok (.goto 4, 3) := by decide +kernel
theorem dX2_outcome_79 : decode cX2_outcome 79 = .ok (.iconst 1, 1) := by decide +kernel
theorem dX2_outcome_80 : decode cX2_outcome 80 = .ok (.ireturn, 1) := by decide +kernel
theorem dX2_outcome_81 : decode cX2_outcome 81 = .ok (.aload_n 0, 1) := by decide +kernel
theorem dX2_outcome_82 : decode cX2_outcome 82 = .ok (.getfield 22, 3) := by decide +kernel
theorem dX2_outcome_85 : decode cX2_outcome 85 = .ok (.iload_n 1, 1) := by decide +kernel
theorem dX2_outcome_86 : decode cX2_outcome 86 = .ok (.invokestatic 89, 3) := by decide +kernel
theorem dX2_outcome_89 : decode cX2_outcome 89 = .ok (.ireturn, 1) := by decide +kernel
theorem dX2_outcome_90 : decode cX2_outcome 90 = .ok (.aload_n 0, 1) := by decide +kernel
theorem dX2_outcome_91 : decode cX2_outcome 91 = .ok (.getfield 18, 3) := by decide +kernel
theorem dX2_outcome_94 : decode cX2_outcome 94 = .ok (.iload_n 1, 1) := by decide +kernel
theorem dX2_outcome_95 : decode cX2_outcome 95 = .ok (.invokestatic 89, 3) := by decide +kernel
theorem dX2_outcome_98 : decode cX2_outcome 98 = .ok (.ireturn, 1) := by decide +kernel
set_option maxRecDepth 20000 in
theorem ggX2_mostInDanger_X2_strongestDriven : GoodIn wsX2_mostInDanger wsX2_strongestDriven := goodIn_r _ [5, 6, 7, 8, 9, 10, 11, 12, 13, 14, 15, 16, 17, 18, 19, 20, 21, 22, 23, 24, 25, 26, 27, 28, 29] (by decide +kernel) (by decide +kernel)
set_option maxRecDepth 20000 in
theorem gX2_mostInDanger_X2_strongestDriven : GoodIn wsX2_mostInDanger (wsV RX2 108 RX2 yX2_strongestDriven wsX2_strongestDriven) := goodIn_app (goodIn_of _ (by decide +kernel)) ggX2_mostInDanger_X2_strongestDriven
theorem dX2_mostInDanger_0 : decode cX2_mostInDanger 0 = .ok (.aload_n 0, 1) := by decide +kernel
theorem dX2_mostInDanger_1 : decode cX2_mostInDanger 1 = .ok (.iconst 0, 1) := by decide +kernel
theorem dX2_mostInDanger_2 : decode cX2_mostInDanger 2 = .ok (.invokevirtual 108, 3) := by decide +kernel
theorem dX2_mostInDanger_5 : decode cX2_mostInDanger 5 = .ok (.ireturn, 1) := by decide +kernel
set_option maxRecDepth 20000 in
theorem ggX2_centresThen_X4_isCentre : GoodIn wsX2_centresThen wsX4_isCentre := goodIn_r _ [3] (by decide +kernel) (by decide +kernel)
set_option maxRecDepth 20000 in
theorem gX2_centresThen_X4_isCentre_n125 : GoodIn wsX2_centresThen (wsX4_isCentre) := ggX2_centresThen_X4_isCentre
set_option maxRecDepth 20000 in
theorem ggX2_centresThen_X2_ownerThen : GoodIn wsX2_centresThen wsX2_ownerThen := goodIn_r _ [8, 9, 10, 11, 12, 13, 14, 15, 16, 17, 2, 18, 19, 20, 21, 22, 23, 24, 25, 26, 27, 28, 29, 30, 31, 32, 33, 34, 35, 36, 37, 38, 39] (by decide +kernel) (by decide +kernel)
set_option maxRecDepth 20000 in
theorem gX2_centresThen_X2_ownerThen : GoodIn wsX2_centresThen (wsV RX2 128 RX2 yX2_ownerThen wsX2_ownerThen) := goodIn_app (goodIn_of _ (by decide +kernel)) ggX2_centresThen_X2_ownerThen
theorem dX2_centresThen_0 : decode cX2_centresThen 0 = .ok (.iconst 0, 1) := by decide +kernel
theorem dX2_centresThen_1 : decode cX2_centresThen 1 = .ok (.istore_n 2, 1) := by decide +kernel
theorem dX2_centresThen_2 : decode cX2_centresThen 2 = .ok (.iconst 0, 1) := by decide +kernel
theorem dX2_centresThen_3 : decode cX2_centresThen 3 = .ok (.istore_n 3, 1) := by decide +kernel
theorem dX2_centresThen_4 : decode cX2_centresThen 4 = .ok (.iload_n 3, 1) := by decide +kernel
theorem dX2_centresThen_5 : decode cX2_centresThen 5 = .ok (.bipush 12, 2) := by decide +kernel
theorem dX2_centresThen_7 : decode cX2_centresThen 7 = .ok (.if_icmp .ge 33, 3) := by decide +kernel
theorem dX2_centresThen_10 : decode cX2_centresThen 10 = .ok (.iload_n 2, 1) := by decide +kernel
theorem dX2_centresThen_11 : decode cX2_centresThen 11 = .ok (.iload_n 3, 1) := by decide +kernel
theorem dX2_centresThen_12 : decode cX2_centresThen 12 = .ok (.invokestatic 125, 3) := by decide +kernel
theorem dX2_centresThen_15 : decode cX2_centresThen 15 = .ok (.ifCond .eq 16, 3) := by decide +kernel
theorem dX2_centresThen_18 : decode cX2_centresThen 18 = .ok (.aload_n 0, 1) := by decide +kernel
theorem dX2_centresThen_19 : decode cX2_centresThen 19 = .ok (.iload_n 3, 1) := by decide +kernel
theorem dX2_centresThen_20 : decode cX2_centresThen 20 = .ok (.invokevirtual 128, 3) := by decide +kernel
theorem dX2_centresThen_23 : decode cX2_centresThen 23 = .ok (.iload_n 1, 1) := by decide +kernel
theorem dX2_centresThen_24 : decode cX2_centresThen 24 = .ok (.if_icmp .ne 7, 3) := by decide +kernel
theorem dX2_centresThen_27 : decode cX2_centresThen 27 = .ok (.iconst 1, 1) := by decide +kernel
theorem dX2_centresThen_28 : decode cX2_centresThen 28 = .ok (.goto 4, 3) := by decide +kernel
theorem dX2_centresThen_31 : decode cX2_centresThen 31 = .ok (.iconst 0, 1) := by decide +kernel
theorem dX2_centresThen_32 : decode cX2_centresThen 32 = .ok (.iadd, 1) := by decide +kernel
theorem dX2_centresThen_33 : decode cX2_centresThen 33 = .ok (.istore_n 2, 1) := by decide +kernel
theorem dX2_centresThen_34 : decode cX2_centresThen 34 = .ok (.iinc 3 1, 3) := by decide +kernel
theorem dX2_centresThen_37 : decode cX2_centresThen 37 = .ok (.goto (-33), 3) := by decide +kernel
theorem dX2_centresThen_40 : decode cX2_centresThen 40 = .ok (.iload_n 2, 1) := by decide +kernel
theorem dX2_centresThen_41 : decode cX2_centresThen 41 = .ok (.ireturn, 1) := by decide +kernel
set_option maxRecDepth 20000 in
theorem ggX2_ownerThen_X0_number : GoodIn wsX2_ownerThen wsX0_number := goodIn_r _ [7, 8, 30, 31, 32] (by decide +kernel) (by decide +kernel)
set_option maxRecDepth 20000 in
theorem gX2_ownerThen_X0_number : GoodIn wsX2_ownerThen (wsV RX2 61 RX0 yX0_number wsX0_number) := goodIn_app (goodIn_of _ (by decide +kernel)) ggX2_ownerThen_X0_number
set_option maxRecDepth 20000 in
theorem ggX2_ownerThen_X4_entry : GoodIn wsX2_ownerThen wsX4_entry := goodIn_r _ [11] (by decide +kernel) (by decide +kernel)
set_option maxRecDepth 20000 in
theorem gX2_ownerThen_X4_entry_n89 : GoodIn wsX2_ownerThen (wsX4_entry) := ggX2_ownerThen_X4_entry
set_option maxRecDepth 20000 in
theorem ggX2_ownerThen_X0_of : GoodIn wsX2_ownerThen wsX0_of := goodIn_r _ [15, 16, 30, 31, 32] (by decide +kernel) (by decide +kernel)
set_option maxRecDepth 20000 in
theorem gX2_ownerThen_X0_of : GoodIn wsX2_ownerThen (wsV RX2 65 RX0 yX0_of wsX0_of) := goodIn_app (goodIn_of _ (by decide +kernel)) ggX2_ownerThen_X0_of
set_option maxRecDepth 20000 in
theorem ggX2_ownerThen_X0_owner : GoodIn wsX2_ownerThen wsX0_owner := goodIn_r _ [20, 21, 30, 31, 32] (by decide +kernel) (by decide +kernel)
set_option maxRecDepth 20000 in
theorem gX2_ownerThen_X0_owner : GoodIn wsX2_ownerThen (wsV RX2 131 RX0 yX0_owner wsX0_owner) := goodIn_app (goodIn_of _ (by decide +kernel)) ggX2_ownerThen_X0_owner
theorem dX2_ownerThen_0 : decode cX2_ownerThen 0 = .ok (.iconst 0, 1) := by decide +kernel
theorem dX2_ownerThen_1 : decode cX2_ownerThen 1 = .ok (.istore_n 2, 1) := by decide +kernel
theorem dX2_ownerThen_2 : decode cX2_ownerThen 2 = .ok (.iload_n 2, 1) := by decide +kernel
theorem dX2_ownerThen_3 : decode cX2_ownerThen 3 = .ok (.aload_n 0, 1) := by decide +kernel
theorem dX2_ownerThen_4 : decode cX2_ownerThen 4 = .ok (.getfield 12, 3) := by decide +kernel
theorem dX2_ownerThen_7 : decode cX2_ownerThen 7 = .ok (.iconst 0, 1) := by decide +kernel
theorem dX2_ownerThen_8 : decode cX2_ownerThen 8 = .ok (.invokevirtual 61, 3) := by decide +kernel
theorem dX2_ownerThen_11 : decode cX2_ownerThen 11 = .ok (.if_icmp .ge 31, 3) := by decide +kernel
theorem dX2_ownerThen_14 : decode cX2_ownerThen 14 = .ok (.aload_n 0, 1) := by decide +kernel
theorem dX2_ownerThen_15 : decode cX2_ownerThen 15 = .ok (.getfield 37, 3) := by decide +kernel
theorem dX2_ownerThen_18 : decode cX2_ownerThen 18 = .ok (.iload_n 2, 1) := by decide +kernel
theorem dX2_ownerThen_19 : decode cX2_ownerThen 19 = .ok (.invokestatic 89, 3) := by decide +kernel
theorem dX2_ownerThen_22 : decode cX2_ownerThen 22 = .ok (.iload_n 1, 1) := by decide +kernel
theorem dX2_ownerThen_23 : decode cX2_ownerThen 23 = .ok (.if_icmp .ne 13, 3) := by decide +kernel
theorem dX2_ownerThen_26 : decode cX2_ownerThen 26 = .ok (.aload_n 0, 1) := by decide +kernel
theorem dX2_ownerThen_27 : decode cX2_ownerThen 27 = .ok (.getfield 12, 3) := by decide +kernel
theorem dX2_ownerThen_30 : decode cX2_ownerThen 30 = .ok (.iload_n 2, 1) := by decide +kernel
theorem dX2_ownerThen_31 : decode cX2_ownerThen 31 = .ok (.iconst 0, 1) := by decide +kernel
theorem dX2_ownerThen_32 : decode cX2_ownerThen 32 = .ok (.invokevirtual 65, 3) := by decide +kernel
theorem dX2_ownerThen_35 : decode cX2_ownerThen 35 = .ok (.ireturn, 1) := by decide +kernel
theorem dX2_ownerThen_36 : decode cX2_ownerThen 36 = .ok (.iinc 2 1, 3) := by decide +kernel
theorem dX2_ownerThen_39 : decode cX2_ownerThen 39 = .ok (.goto (-37), 3) := by decide +kernel
theorem dX2_ownerThen_42 : decode cX2_ownerThen 42 = .ok (.aload_n 0, 1) := by decide +kernel
theorem dX2_ownerThen_43 : decode cX2_ownerThen 43 = .ok (.getfield 12, 3) := by decide +kernel
theorem dX2_ownerThen_46 : decode cX2_ownerThen 46 = .ok (.iload_n 1, 1) := by decide +kernel
theorem dX2_ownerThen_47 : decode cX2_ownerThen 47 = .ok (.invokevirtual 131, 3) := by decide +kernel
theorem dX2_ownerThen_50 : decode cX2_ownerThen 50 = .ok (.ireturn, 1) := by decide +kernel
set_option maxRecDepth 20000 in
theorem ggX2_carryOut_X0_number : GoodIn wsX2_carryOut wsX0_number := goodIn_r _ [7, 8, 110, 111, 112] (by decide +kernel) (by decide +kernel)
set_option maxRecDepth 20000 in
theorem gX2_carryOut_X0_number : GoodIn wsX2_carryOut (wsV RX2 61 RX0 yX0_number wsX0_number) := goodIn_app (goodIn_of _ (by decide +kernel)) ggX2_carryOut_X0_number
set_option maxRecDepth 20000 in
theorem ggX2_carryOut_X2_moves : GoodIn wsX2_carryOut wsX2_moves := goodIn_r _ [13, 1, 14, 15, 16, 6, 17, 18, 102, 103, 104, 105, 106, 107, 108, 109, 110, 111, 112] (by decide +kernel) (by decide +kernel)
set_option maxRecDepth 20000 in
theorem gX2_carryOut_X2_moves : GoodIn wsX2_carryOut (wsV RX2 80 RX2 yX2_moves wsX2_moves) := goodIn_app (goodIn_of _ (by decide +kernel)) ggX2_carryOut_X2_moves
set_option maxRecDepth 20000 in
theorem ggX2_carryOut_X2_goes : GoodIn wsX2_carryOut wsX2_goes := goodIn_r _ [22, 1, 23, 14, 15, 16, 6, 17, 18, 24, 25, 26, 102, 103, 104, 105, 106, 107, 108, 109, 110, 111, 112] (by decide +kernel) (by decide +kernel)
set_option maxRecDepth 20000 in
theorem gX2_carryOut_X2_goes : GoodIn wsX2_carryOut (wsV RX2 99 RX2 yX2_goes wsX2_goes) := goodIn_app (goodIn_of _ (by decide +kernel)) ggX2_carryOut_X2_goes
set_option maxRecDepth 20000 in
theorem ggX2_carryOut_X2_countMove : GoodIn wsX2_carryOut wsX2_countMove := goodIn_r _ [30, 1, 14, 15, 16, 6, 17, 18, 31, 32, 33, 34, 35, 36, 37, 38, 8, 39, 4, 5, 7, 40, 25, 41, 102, 103, 104, 105, 106, 107, 108, 109, 110, 111, 112] (by decide +kernel) (by decide +kernel)
set_option maxRecDepth 20000 in
theorem gX2_carryOut_X2_countMove : GoodIn wsX2_carryOut (wsV RX2 134 RX2 yX2_countMove wsX2_countMove) := goodIn_app (goodIn_of _ (by decide +kernel)) ggX2_carryOut_X2_countMove
set_option maxRecDepth 20000 in
theorem ggX2_carryOut_X4_entry : GoodIn wsX2_carryOut wsX4_entry := goodIn_r _ [26] (by decide +kernel) (by decide +kernel)
set_option maxRecDepth 20000 in
theorem gX2_carryOut_X4_entry_n89 : GoodIn wsX2_carryOut (wsX4_entry) := ggX2_carryOut_X4_entry
set_option maxRecDepth 20000 in
theorem ggX2_carryOut_X0_countOne : GoodIn wsX2_carryOut wsX0_countOne := goodIn_r _ [38, 8, 39, 4, 5, 6, 7, 40, 25, 41, 110, 111, 112] (by decide +kernel) (by decide +kernel)
set_option maxRecDepth 20000 in
theorem gX2_carryOut_X0_countOne : GoodIn wsX2_carryOut (wsV RX2 138 RX0 yX0_countOne wsX0_countOne) := goodIn_app (goodIn_of _ (by decide +kernel)) ggX2_carryOut_X0_countOne
set_option maxRecDepth 20000 in
theorem ggX2_carryOut_X2_settle : GoodIn wsX2_carryOut wsX2_settle := goodIn_r _ [45, 1, 46, 3, 4, 5, 6, 7, 8, 24, 25, 26, 31, 32, 33, 34, 18, 47, 48, 49, 50, 51, 15, 16, 17, 52, 53, 54, 55, 56, 39, 40, 41, 35, 36, 37, 38, 102, 103, 104, 105, 106, 107, 108, 109, 110, 111, 112] (by decide +kernel) (by decide +kernel)
set_option maxRecDepth 20000 in
theorem gX2_carryOut_X2_settle : GoodIn wsX2_carryOut (wsV RX2 142 RX2 yX2_settle wsX2_settle) := goodIn_app (goodIn_of _ (by decide +kernel)) ggX2_carryOut_X2_settle
set_option maxRecDepth 20000 in
theorem ggX2_carryOut_X0_beginNextSeason : GoodIn wsX2_carryOut wsX0_beginNextSeason := goodIn_r _ [60, 8, 39, 4, 5, 6, 7, 40, 25, 41, 61, 62, 63, 64, 65, 66, 67, 68, 69, 51, 15, 16, 17, 18, 70, 71, 72, 73, 74, 75, 76, 77, 78, 79, 80, 81, 82, 83, 84, 85, 86, 87, 88, 54, 55, 56, 52, 32, 33, 34, 89, 36, 37, 38, 90, 91, 92, 93, 94, 95, 96, 97, 98, 99, 100, 101, 110, 111, 112] (by decide +kernel) (by decide +kernel)
set_option maxRecDepth 20000 in
theorem gX2_carryOut_X0_beginNextSeason : GoodIn wsX2_carryOut (wsV RX2 145 RX0 yX0_beginNextSeason wsX0_beginNextSeason) := goodIn_app (goodIn_of _ (by decide +kernel)) ggX2_carryOut_X0_beginNextSeason
theorem dX2_carryOut_0 : decode cX2_carryOut 0 = .ok (.iconst 0, 1) := by decide +kernel
theorem dX2_carryOut_1 : decode cX2_carryOut 1 = .ok (.istore_n 1, 1) := by decide +kernel
theorem dX2_carryOut_2 : decode cX2_carryOut 2 = .ok (.iconst 0, 1) := by decide +kernel
theorem dX2_carryOut_3 : decode cX2_carryOut 3 = .ok (.istore_n 2, 1) := by decide +kernel
theorem dX2_carryOut_4 : decode cX2_carryOut 4 = .ok (.iload_n 2, 1) := by decide +kernel
theorem dX2_carryOut_5 : decode cX2_carryOut 5 = .ok (.aload_n 0, 1) := by decide +kernel
theorem dX2_carryOut_6 : decode cX2_carryOut 6 = .ok (.getfield 12, 3) := by decide +kernel
theorem dX2_carryOut_9 : decode cX2_carryOut 9 = .ok (.iconst 0, 1) := by decide +kernel
theorem dX2_carryOut_10 : decode cX2_carryOut 10 = .ok (.invokevirtual 61, 3) := by decide +kernel
theorem dX2_carryOut_13 : decode cX2_carryOut 13 = .ok (.if_icmp .ge 64, 3) := by decide +kernel
theorem dX2_carryOut_16 : decode cX2_carryOut 16 = .ok (.aload_n 0, 1) := by decide +kernel
theorem dX2_carryOut_17 : decode cX2_carryOut 17 = .ok (.iload_n 2, 1) := by decide +kernel
theorem dX2_carryOut_18 : decode cX2_carryOut 18 = .ok (.invokevirtual 80, 3) := by decide +kernel
theorem dX2_carryOut_21 : decode cX2_carryOut 21 = .ok (.ifCond .eq 29, 3) := by decide +kernel
theorem dX2_carryOut_24 : decode cX2_carryOut 24 = .ok (.iload_n 1, 1) := by decide +kernel
theorem dX2_carryOut_25 : decode cX2_carryOut 25 = .ok (.aload_n 0, 1) := by decide +kernel
theorem dX2_carryOut_26 : decode cX2_carryOut 26 = .ok (.iload_n 2, 1) := by decide +kernel
theorem dX2_carryOut_27 : decode cX2_carryOut 27 = .ok (.invokevirtual 99, 3) := by decide +kernel
theorem dX2_carryOut_30 : decode cX2_carryOut 30 = .ok (.ifCond .eq 7, 3) := by decide +kernel
theorem dX2_carryOut_33 : decode cX2_carryOut 33 = .ok (.iconst 0, 1) := by decide +kernel
theorem dX2_carryOut_34 : decode cX2_carryOut 34 = .ok (.goto 4, 3) := by decide +kernel
theorem dX2_carryOut_37 : decode cX2_carryOut 37 = .ok (.iconst 1, 1) := by decide +kernel
theorem dX2_carryOut_38 : decode cX2_carryOut 38 = .ok (.iadd, 1) := by decide +kernel
theorem dX2_carryOut_39 : decode cX2_carryOut 39 = .ok (.istore_n 1, 1) := by decide +kernel
theorem dX2_carryOut_40 : decode cX2_carryOut 40 = .ok (.aload_n 0, 1) := by decide +kernel
theorem dX2_carryOut_41 : decode cX2_carryOut 41 = .ok (.iload_n 2, 1) := by decide +kernel
theorem dX2_carryOut_42 : decode cX2_carryOut 42 = .ok (.aload_n 0, 1) := by decide +kernel
theorem dX2_carryOut_43 : decode cX2_carryOut 43 = .ok (.iload_n 2, 1) := by decide +kernel
theorem dX2_carryOut_44 : decode cX2_carryOut 44 = .ok (.invokevirtual 99, 3) := by decide +kernel
theorem dX2_carryOut_47 : decode cX2_carryOut 47 = .ok (.invokevirtual 134, 3) := by decide +kernel
theorem dX2_carryOut_50 : decode cX2_carryOut 50 = .ok (.aload_n 0, 1) := by decide +kernel
theorem dX2_carryOut_51 : decode cX2_carryOut 51 = .ok (.getfield 31, 3) := by decide +kernel
theorem dX2_carryOut_54 : decode cX2_carryOut 54 = .ok (.iload_n 2, 1) := by decide +kernel
theorem dX2_carryOut_55 : decode cX2_carryOut 55 = .ok (.invokestatic 89, 3) := by decide +kernel
theorem dX2_carryOut_58 : decode cX2_carryOut 58 = .ok (.iconst (-1), 1) := by decide +kernel
theorem dX2_carryOut_59 : decode cX2_carryOut 59 = .ok (.if_icmp .eq 12, 3) := by decide +kernel
theorem dX2_carryOut_62 : decode cX2_carryOut 62 = .ok (.aload_n 0, 1) := by decide +kernel
theorem dX2_carryOut_63 : decode cX2_carryOut 63 = .ok (.getfield 12, 3) := by decide +kernel
theorem dX2_carryOut_66 : decode cX2_carryOut 66 = .ok (.bipush 6, 2) := by decide +kernel
theorem dX2_carryOut_68 : decode cX2_carryOut 68 = .ok (.invokevirtual 138, 3) := by decide +kernel
theorem dX2_carryOut_71 : decode cX2_carryOut 71 = .ok (.iinc 2 1, 3) := by decide +kernel
theorem dX2_carryOut_74 : decode cX2_carryOut 74 = .ok (.goto (-70), 3) := by decide +kernel
theorem dX2_carryOut_77 : decode cX2_carryOut 77 = .ok (.aload_n 0, 1) := by decide +kernel
theorem dX2_carryOut_78 : decode cX2_carryOut 78 = .ok (.invokevirtual 142, 3) := by decide +kernel
theorem dX2_carryOut_81 : decode cX2_carryOut 81 = .ok (.aload_n 0, 1) := by decide +kernel
theorem dX2_carryOut_82 : decode cX2_carryOut 82 = .ok (.getfield 12, 3) := by decide +kernel
theorem dX2_carryOut_85 : decode cX2_carryOut 85 = .ok (.iconst 3, 1) := by decide +kernel
theorem dX2_carryOut_86 : decode cX2_carryOut 86 = .ok (.invokevirtual 138, 3) := by decide +kernel
theorem dX2_carryOut_89 : decode cX2_carryOut 89 = .ok (.aload_n 0, 1) := by decide +kernel
theorem dX2_carryOut_90 : decode cX2_carryOut 90 = .ok (.getfield 12, 3) := by decide +kernel
theorem dX2_carryOut_93 : decode cX2_carryOut 93 = .ok (.invokevirtual 145, 3) := by decide +kernel
theorem dX2_carryOut_96 : decode cX2_carryOut 96 = .ok (.iload_n 1, 1) := by decide +kernel
theorem dX2_carryOut_97 : decode cX2_carryOut 97 = .ok (.ireturn, 1) := by decide +kernel
set_option maxRecDepth 20000 in
theorem ggX2_countMove_X0_of : GoodIn wsX2_countMove wsX0_of := goodIn_r _ [6, 7, 32, 33, 34] (by decide +kernel) (by decide +kernel)
set_option maxRecDepth 20000 in
theorem gX2_countMove_X0_of : GoodIn wsX2_countMove (wsV RX2 65 RX0 yX0_of wsX0_of) := goodIn_app (goodIn_of _ (by decide +kernel)) ggX2_countMove_X0_of
set_option maxRecDepth 20000 in
theorem ggX2_countMove_X0_put : GoodIn wsX2_countMove wsX0_put := goodIn_r _ [11, 7, 32, 33, 34] (by decide +kernel) (by decide +kernel)
set_option maxRecDepth 20000 in
theorem gX2_countMove_X0_put : GoodIn wsX2_countMove (wsV RX2 148 RX0 yX0_put wsX0_put) := goodIn_app (goodIn_of _ (by decide +kernel)) ggX2_countMove_X0_put
set_option maxRecDepth 20000 in
theorem ggX2_countMove_X0_countOne : GoodIn wsX2_countMove wsX0_countOne := goodIn_r _ [15, 16, 17, 18, 19, 5, 20, 21, 22, 23, 32, 33, 34] (by decide +kernel) (by decide +kernel)
set_option maxRecDepth 20000 in
theorem gX2_countMove_X0_countOne : GoodIn wsX2_countMove (wsV RX2 138 RX0 yX0_countOne wsX0_countOne) := goodIn_app (goodIn_of _ (by decide +kernel)) ggX2_countMove_X0_countOne
theorem dX2_countMove_0 : decode cX2_countMove 0 = .ok (.iload_n 2, 1) := by decide +kernel
theorem dX2_countMove_1 : decode cX2_countMove 1 = .ok (.ifCond .eq 7, 3) := by decide +kernel
theorem dX2_countMove_4 : decode cX2_countMove 4 = .ok (.iconst 5, 1) := by decide +kernel
theorem dX2_countMove_5 : decode cX2_countMove 5 = .ok (.goto 5, 3) := by decide +kernel
theorem dX2_countMove_8 : decode cX2_countMove 8 = .ok (.bipush 6, 2) := by decide +kernel
theorem dX2_countMove_10 : decode cX2_countMove 10 = .ok (.istore_n 3, 1) := by decide +kernel
theorem dX2_countMove_11 : decode cX2_countMove 11 = .ok (.aload_n 0, 1) := by decide +kernel
theorem dX2_countMove_12 : decode cX2_countMove 12 = .ok (.getfield 12, 3) := by decide +kernel
theorem dX2_countMove_15 : decode cX2_countMove 15 = .ok (.iload_n 1, 1) := by decide +kernel
theorem dX2_countMove_16 : decode cX2_countMove 16 = .ok (.iload_n 3, 1) := by decide +kernel
theorem dX2_countMove_17 : decode cX2_countMove 17 = .ok (.aload_n 0, 1) := by decide +kernel
theorem dX2_countMove_18 : decode cX2_countMove 18 = .ok (.getfield 12, 3) := by decide +kernel
theorem dX2_countMove_21 : decode cX2_countMove 21 = .ok (.iload_n 1, 1) := by decide +kernel
theorem dX2_countMove_22 : decode cX2_countMove 22 = .ok (.iload_n 3, 1) := by decide +kernel
theorem dX2_countMove_23 : decode cX2_countMove 23 = .ok (.invokevirtual 65, 3) := by decide +kernel
theorem dX2_countMove_26 : decode cX2_countMove 26 = .ok (.iconst 1, 1) := by decide +kernel
theorem dX2_countMove_27 : decode cX2_countMove 27 = .ok (.iadd, 1) := by decide +kernel
theorem dX2_countMove_28 : decode cX2_countMove 28 = .ok (.invokevirtual 148, 3) := by decide +kernel
theorem dX2_countMove_31 : decode cX2_countMove 31 = .ok (.aload_n 0, 1) := by decide +kernel
theorem dX2_countMove_32 : decode cX2_countMove 32 = .ok (.getfield 12, 3) := by decide +kernel
theorem dX2_countMove_35 : decode cX2_countMove 35 = .ok (.iload_n 2, 1) := by decide +kernel
theorem dX2_countMove_36 : decode cX2_countMove 36 = .ok (.ifCond .eq 7, 3) := by decide +kernel
theorem dX2_countMove_39 : decode cX2_countMove 39 = .ok (.iconst 4, 1) := by decide +kernel
theorem dX2_countMove_40 : decode cX2_countMove 40 = .ok (.goto 4, 3) := by decide +kernel
theorem dX2_countMove_43 : decode cX2_countMove 43 = .ok (.iconst 5, 1) := by decide +kernel
theorem dX2_countMove_44 : decode cX2_countMove 44 = .ok (.invokevirtual 138, 3) := by decide +kernel
theorem dX2_countMove_47 : decode cX2_countMove 47 = .ok (.return_, 1) := by decide +kernel
set_option maxRecDepth 20000 in
theorem ggX2_settle_X0_number : GoodIn wsX2_settle wsX0_number := goodIn_r _ [7, 8, 45, 46, 47] (by decide +kernel) (by decide +kernel)
set_option maxRecDepth 20000 in
theorem gX2_settle_X0_number : GoodIn wsX2_settle (wsV RX2 61 RX0 yX0_number wsX0_number) := goodIn_app (goodIn_of _ (by decide +kernel)) ggX2_settle_X0_number
set_option maxRecDepth 20000 in
theorem ggX2_settle_X4_entry : GoodIn wsX2_settle wsX4_entry := goodIn_r _ [11] (by decide +kernel) (by decide +kernel)
set_option maxRecDepth 20000 in
theorem gX2_settle_X4_entry_n89 : GoodIn wsX2_settle (wsX4_entry) := ggX2_settle_X4_entry
set_option maxRecDepth 20000 in
theorem ggX2_settle_X0_put : GoodIn wsX2_settle wsX0_put := goodIn_r _ [15, 16, 45, 46, 47] (by decide +kernel) (by decide +kernel)
set_option maxRecDepth 20000 in
theorem gX2_settle_X0_put : GoodIn wsX2_settle (wsV RX2 148 RX0 yX0_put wsX0_put) := goodIn_app (goodIn_of _ (by decide +kernel)) ggX2_settle_X0_put
set_option maxRecDepth 20000 in
theorem ggX2_settle_X0_give : GoodIn wsX2_settle wsX0_give := goodIn_r _ [20, 21, 22, 23, 6, 24, 16, 25, 13, 14, 15, 45, 46, 47] (by decide +kernel) (by decide +kernel)
set_option maxRecDepth 20000 in
theorem gX2_settle_X0_give : GoodIn wsX2_settle (wsV RX2 152 RX0 yX0_give wsX0_give) := goodIn_app (goodIn_of _ (by decide +kernel)) ggX2_settle_X0_give
set_option maxRecDepth 20000 in
theorem ggX2_settle_X0_remove : GoodIn wsX2_settle wsX0_remove := goodIn_r _ [29, 8, 30, 4, 5, 6, 7, 21, 22, 23, 24, 16, 25, 13, 14, 15, 31, 10, 32, 45, 46, 47] (by decide +kernel) (by decide +kernel)
set_option maxRecDepth 20000 in
theorem gX2_settle_X0_remove : GoodIn wsX2_settle (wsV RX2 156 RX0 yX0_remove wsX0_remove) := goodIn_app (goodIn_of _ (by decide +kernel)) ggX2_settle_X0_remove
set_option maxRecDepth 20000 in
theorem ggX2_settle_X0_countOne : GoodIn wsX2_settle wsX0_countOne := goodIn_r _ [36, 8, 30, 4, 5, 6, 7, 31, 10, 32, 45, 46, 47] (by decide +kernel) (by decide +kernel)
set_option maxRecDepth 20000 in
theorem gX2_settle_X0_countOne : GoodIn wsX2_settle (wsV RX2 138 RX0 yX0_countOne wsX0_countOne) := goodIn_app (goodIn_of _ (by decide +kernel)) ggX2_settle_X0_countOne
theorem dX2_settle_0 : decode cX2_settle 0 = .ok (.aload_n 0, 1) := by decide +kernel
theorem dX2_settle_1 : decode cX2_settle 1 = .ok (.getfield 12, 3) := by decide +kernel
theorem dX2_settle_4 : decode cX2_settle 4 = .ok (.iconst 0, 1) := by decide +kernel
theorem dX2_settle_5 : decode cX2_settle 5 = .ok (.invokevirtual 61, 3) := by decide +kernel
theorem dX2_settle_8 : decode cX2_settle 8 = .ok (.iconst 1, 1) := by decide +kernel
theorem dX2_settle_9 : decode cX2_settle 9 = .ok (.isub, 1) := by decide +kernel
theorem dX2_settle_10 : decode cX2_settle 10 = .ok (.istore_n 1, 1) := by decide +kernel
theorem dX2_settle_11 : decode cX2_settle 11 = .ok (.iload_n 1, 1) := by decide +kernel
theorem dX2_settle_12 : decode cX2_settle 12 = .ok (.ifCond .lt 67, 3) := by decide +kernel
theorem dX2_settle_15 : decode cX2_settle 15 = .ok (.aload_n 0, 1) := by decide +kernel
theorem dX2_settle_16 : decode cX2_settle 16 = .ok (.getfield 12, 3) := by decide +kernel
theorem dX2_settle_19 : decode cX2_settle 19 = .ok (.iload_n 1, 1) := by decide +kernel
theorem dX2_settle_20 : decode cX2_settle 20 = .ok (.iconst 1, 1) := by decide +kernel
theorem dX2_settle_21 : decode cX2_settle 21 = .ok (.aload_n 0, 1) := by decide +kernel
theorem dX2_settle_22 : decode cX2_settle 22 = .ok (.getfield 37, 3) := by decide +kernel
theorem dX2_settle_25 : decode cX2_settle 25 = .ok (.iload_n 1, 1) := by decide +kernel
theorem dX2_settle_26 : decode cX2_settle 26 = .ok (.invokestatic 89, 3) := by decide +kernel
theorem dX2_settle_29 : decode cX2_settle 29 = .ok (.invokevirtual 148, 3) := by decide +kernel
theorem dX2_settle_32 : decode cX2_settle 32 = .ok (.aload_n 0, 1) := by decide +kernel
theorem dX2_settle_33 : decode cX2_settle 33 = .ok (.getfield 12, 3) := by decide +kernel
theorem dX2_settle_36 : decode cX2_settle 36 = .ok (.iload_n 1, 1) := by decide +kernel
theorem dX2_settle_37 : decode cX2_settle 37 = .ok (.iconst 0, 1) := by decide +kernel
theorem dX2_settle_38 : decode cX2_settle 38 = .ok (.iconst (-1), 1) := by decide +kernel
theorem dX2_settle_39 : decode cX2_settle 39 = .ok (.iconst (-1), 1) := by decide +kernel
theorem dX2_settle_40 : decode cX2_settle 40 = .ok (.invokevirtual 152, 3) := by decide +kernel
theorem dX2_settle_43 : decode cX2_settle 43 = .ok (.pop, 1) := by decide +kernel
theorem dX2_settle_44 : decode cX2_settle 44 = .ok (.aload_n 0, 1) := by decide +kernel
theorem dX2_settle_45 : decode cX2_settle 45 = .ok (.getfield 37, 3) := by decide +kernel
theorem dX2_settle_48 : decode cX2_settle 48 = .ok (.iload_n 1, 1) := by decide +kernel
theorem dX2_settle_49 : decode cX2_settle 49 = .ok (.invokestatic 89, 3) := by decide +kernel
theorem dX2_settle_52 : decode cX2_settle 52 = .ok (.iconst (-1), 1) := by decide +kernel
theorem dX2_settle_53 : decode cX2_settle 53 = .ok (.if_icmp .ne 20, 3) := by decide +kernel
theorem dX2_settle_56 : decode cX2_settle 56 = .ok (.aload_n 0, 1) := by decide +kernel
theorem dX2_settle_57 : decode cX2_settle 57 = .ok (.getfield 12, 3) := by decide +kernel
theorem dX2_settle_60 : decode cX2_settle 60 = .ok (.iload_n 1, 1) := by decide +kernel
theorem dX2_settle_61 : decode cX2_settle 61 = .ok (.invokevirtual 156, 3) := by decide +kernel
theorem dX2_settle_64 : decode cX2_settle 64 = .ok (.aload_n 0, 1) := by decide +kernel
theorem dX2_settle_65 : decode cX2_settle 65 = .ok (.getfield 12, 3) := by decide +kernel
theorem dX2_settle_68 : decode cX2_settle 68 = .ok (.bipush 7, 2) := by decide +kernel
theorem dX2_settle_70 : decode cX2_settle 70 = .ok (.invokevirtual 138, 3) := by decide +kernel
theorem dX2_settle_73 : decode cX2_settle 73 = .ok (.iinc 1 (-1), 3) := by decide +kernel
theorem dX2_settle_76 : decode cX2_settle 76 = .ok (.goto (-65), 3) := by decide +kernel
theorem dX2_settle_79 : decode cX2_settle 79 = .ok (.return_, 1) := by decide +kernel
theorem dX3_init_0 : decode cX3_init 0 = .ok (.aload_n 0, 1) := by decide +kernel
theorem dX3_init_1 : decode cX3_init 1 = .ok (.invokespecial 3, 3) := by decide +kernel
theorem dX3_init_4 : decode cX3_init 4 = .ok (.aload_n 0, 1) := by decide +kernel
theorem dX3_init_5 : decode cX3_init 5 = .ok (.bipush 60, 2) := by decide +kernel
theorem dX3_init_7 : decode cX3_init 7 = .ok (.newarray .int, 2) := by decide +kernel
theorem dX3_init_9 : decode cX3_init 9 = .ok (.putfield 9, 3) := by decide +kernel
theorem dX3_init_12 : decode cX3_init 12 = .ok (.aload_n 0, 1) := by decide +kernel
theorem dX3_init_13 : decode cX3_init 13 = .ok (.iconst 0, 1) := by decide +kernel
theorem dX3_init_14 : decode cX3_init 14 = .ok (.putfield 15, 3) := by decide +kernel
theorem dX3_init_17 : decode cX3_init 17 = .ok (.aload_n 0, 1) := by decide +kernel
theorem dX3_init_18 : decode cX3_init 18 = .ok (.iconst 0, 1) := by decide +kernel
theorem dX3_init_19 : decode cX3_init 19 = .ok (.putfield 19, 3) := by decide +kernel
theorem dX3_init_22 : decode cX3_init 22 = .ok (.aload_n 0, 1) := by decide +kernel
theorem dX3_init_23 : decode cX3_init 23 = .ok (.iconst 0, 1) := by decide +kernel
theorem dX3_init_24 : decode cX3_init 24 = .ok (.putfield 22, 3) := by decide +kernel
theorem dX3_init_27 : decode cX3_init 27 = .ok (.aload_n 0, 1) := by decide +kernel
theorem dX3_init_28 : decode cX3_init 28 = .ok (.iconst 0, 1) := by decide +kernel
theorem dX3_init_29 : decode cX3_init 29 = .ok (.putfield 25, 3) := by decide +kernel
theorem dX3_init_32 : decode cX3_init 32 = .ok (.aload_n 0, 1) := by decide +kernel
theorem dX3_init_33 : decode cX3_init 33 = .ok (.iconst 0, 1) := by decide +kernel
theorem dX3_init_34 : decode cX3_init 34 = .ok (.putfield 28, 3) := by decide +kernel
theorem dX3_init_37 : decode cX3_init 37 = .ok (.return_, 1) := by decide +kernel
theorem dX3_size_0 : decode cX3_size 0 = .ok (.aload_n 0, 1) := by decide +kernel
theorem dX3_size_1 : decode cX3_size 1 = .ok (.getfield 15, 3) := by decide +kernel
theorem dX3_size_4 : decode cX3_size 4 = .ok (.ireturn, 1) := by decide +kernel
set_option maxRecDepth 20000 in
theorem ggX3_codeAt_X4_entry : GoodIn wsX3_codeAt wsX4_entry := goodIn_r _ [5] (by decide +kernel) (by decide +kernel)
set_option maxRecDepth 20000 in
theorem gX3_codeAt_X4_entry_n31 : GoodIn wsX3_codeAt (wsX4_entry) := ggX3_codeAt_X4_entry
theorem dX3_codeAt_0 : decode cX3_codeAt 0 = .ok (.iload_n 1, 1) := by decide +kernel
theorem dX3_codeAt_1 : decode cX3_codeAt 1 = .ok (.aload_n 0, 1) := by decide +kernel
theorem dX3_codeAt_2 : decode cX3_codeAt 2 = .ok (.getfield 15, 3) := by decide +kernel
theorem dX3_codeAt_5 : decode cX3_codeAt 5 = .ok (.if_icmp .ge 14, 3) := by decide +kernel
theorem dX3_codeAt_8 : decode cX3_codeAt 8 = .ok (.aload_n 0, 1) := by decide +kernel
theorem dX3_codeAt_9 : decode cX3_codeAt 9 = .ok (.getfield 9, 3) := by decide +kernel
theorem dX3_codeAt_12 : decode cX3_codeAt 12 = .ok (.iload_n 1, 1) := by decide +kernel
theorem dX3_codeAt_13 : decode cX3_codeAt 13 = .ok (.invokestatic 31, 3) := by decide +kernel
theorem dX3_codeAt_16 : decode cX3_codeAt 16 = .ok (.goto 4, 3) := by decide +kernel
theorem dX3_codeAt_19 : decode cX3_codeAt 19 = .ok (.iconst (-1), 1) := by decide +kernel
theorem dX3_codeAt_20 : decode cX3_codeAt 20 = .ok (.ireturn, 1) := by decide +kernel
set_option maxRecDepth 20000 in
theorem ggX3_add_X4_enter : GoodIn wsX3_add wsX4_enter := goodIn_r _ [5] (by decide +kernel) (by decide +kernel)
set_option maxRecDepth 20000 in
theorem gX3_add_X4_enter_n35 : GoodIn wsX3_add (wsX4_enter) := ggX3_add_X4_enter
theorem dX3_add_0 : decode cX3_add 0 = .ok (.aload_n 0, 1) := by decide +kernel
theorem dX3_add_1 : decode cX3_add 1 = .ok (.getfield 15, 3) := by decide +kernel
theorem dX3_add_4 : decode cX3_add 4 = .ok (.bipush 60, 2) := by decide +kernel
theorem dX3_add_6 : decode cX3_add 6 = .ok (.if_icmp .ge 25, 3) := by decide +kernel
theorem dX3_add_9 : decode cX3_add 9 = .ok (.aload_n 0, 1) := by decide +kernel
theorem dX3_add_10 : decode cX3_add 10 = .ok (.getfield 9, 3) := by decide +kernel
theorem dX3_add_13 : decode cX3_add 13 = .ok (.aload_n 0, 1) := by decide +kernel
theorem dX3_add_14 : decode cX3_add 14 = .ok (.getfield 15, 3) := by decide +kernel
theorem dX3_add_17 : decode cX3_add 17 = .ok (.iload_n 1, 1) := by decide +kernel
theorem dX3_add_18 : decode cX3_add 18 = .ok (.invokestatic 35, 3) := by decide +kernel
theorem dX3_add_21 : decode cX3_add 21 = .ok (.aload_n 0, 1) := by decide +kernel
theorem dX3_add_22 : decode cX3_add 22 = .ok (.dup, 1) := by decide +kernel
theorem dX3_add_23 : decode cX3_add 23 = .ok (.getfield 15, 3) := by decide +kernel
theorem dX3_add_26 : decode cX3_add 26 = .ok (.iconst 1, 1) := by decide +kernel
theorem dX3_add_27 : decode cX3_add 27 = .ok (.iadd, 1) := by decide +kernel
theorem dX3_add_28 : decode cX3_add 28 = .ok (.putfield 15, 3) := by decide +kernel
theorem dX3_add_31 : decode cX3_add 31 = .ok (.return_, 1) := by decide +kernel
theorem dX3_empty_0 : decode cX3_empty 0 = .ok (.aload_n 0, 1) := by decide +kernel
theorem dX3_empty_1 : decode cX3_empty 1 = .ok (.iconst 0, 1) := by decide +kernel
theorem dX3_empty_2 : decode cX3_empty 2 = .ok (.putfield 15, 3) := by decide +kernel
theorem dX3_empty_5 : decode cX3_empty 5 = .ok (.return_, 1) := by decide +kernel
set_option maxRecDepth 20000 in
theorem ggX3_errorIndex_X3_codeAt : GoodIn wsX3_errorIndex wsX3_codeAt := goodIn_r _ [6, 1, 7, 8, 9, 10, 29, 30, 31, 32, 33, 34] (by decide +kernel) (by decide +kernel)
set_option maxRecDepth 20000 in
theorem gX3_errorIndex_X3_codeAt : GoodIn wsX3_errorIndex (wsV RX3 39 RX3 yX3_codeAt wsX3_codeAt) := goodIn_app (goodIn_of _ (by decide +kernel)) ggX3_errorIndex_X3_codeAt
set_option maxRecDepth 20000 in
theorem ggX3_errorIndex_X3_stateBehind : GoodIn wsX3_errorIndex wsX3_stateBehind := goodIn_r _ [13, 14, 15, 5, 16, 17, 18, 19, 20, 21, 22, 23, 24, 25, 26, 27, 28] (by decide +kernel) (by decide +kernel)
set_option maxRecDepth 20000 in
theorem gX3_errorIndex_X3_stateBehind : GoodIn wsX3_errorIndex (va_wsS RX3 43 yX3_stateBehind wsX3_stateBehind) := goodIn_app (goodIn_of _ (by decide +kernel)) ggX3_errorIndex_X3_stateBehind
theorem dX3_errorIndex_0 : decode cX3_errorIndex 0 = .ok (.iconst 0, 1) := by decide +kernel
theorem dX3_errorIndex_1 : decode cX3_errorIndex 1 = .ok (.istore_n 1, 1) := by decide +kernel
theorem dX3_errorIndex_2 : decode cX3_errorIndex 2 = .ok (.iconst 0, 1) := by decide +kernel
theorem dX3_errorIndex_3 : decode cX3_errorIndex 3 = .ok (.istore_n 2, 1) := by decide +kernel
theorem dX3_errorIndex_4 : decode cX3_errorIndex 4 = .ok (.iload_n 2, 1) := by decide +kernel
theorem dX3_errorIndex_5 : decode cX3_errorIndex 5 = .ok (.aload_n 0, 1) := by decide +kernel
theorem dX3_errorIndex_6 : decode cX3_errorIndex 6 = .ok (.getfield 15, 3) := by decide +kernel
theorem dX3_errorIndex_9 : decode cX3_errorIndex 9 = .ok (.if_icmp .ge 26, 3) := by decide +kernel
theorem dX3_errorIndex_12 : decode cX3_errorIndex 12 = .ok (.iload_n 1, 1) := by decide +kernel
theorem dX3_errorIndex_13 : decode cX3_errorIndex 13 = .ok (.aload_n 0, 1) := by decide +kernel
theorem dX3_errorIndex_14 : decode cX3_errorIndex 14 = .ok (.iload_n 2, 1) := by decide +kernel
theorem dX3_errorIndex_15 : decode cX3_errorIndex 15 = .ok (.invokevirtual 39, 3) := by decide +kernel
theorem dX3_errorIndex_18 : decode cX3_errorIndex 18 = .ok (.invokestatic 43, 3) := by decide +kernel
theorem dX3_errorIndex_21 : decode cX3_errorIndex 21 = .ok (.istore_n 1, 1) := by decide +kernel
theorem dX3_errorIndex_22 : decode cX3_errorIndex 22 = .ok (.iload_n 1, 1) := by decide +kernel
theorem dX3_errorIndex_23 : decode cX3_errorIndex 23 = .ok (.iconst (-1), 1) := by decide +kernel
theorem dX3_errorIndex_24 : decode cX3_errorIndex 24 = .ok (.if_icmp .ne 5, 3) := by decide +kernel
theorem dX3_errorIndex_27 : decode cX3_errorIndex 27 = .ok (.iload_n 2, 1) := by decide +kernel
theorem dX3_errorIndex_28 : decode cX3_errorIndex 28 = .ok (.ireturn, 1) := by decide +kernel
theorem dX3_errorIndex_29 : decode cX3_errorIndex 29 = .ok (.iinc 2 1, 3) := by decide +kernel
theorem dX3_errorIndex_32 : decode cX3_errorIndex 32 = .ok (.goto (-28), 3) := by decide +kernel
theorem dX3_errorIndex_35 : decode cX3_errorIndex 35 = .ok (.aload_n 0, 1) := by decide +kernel
theorem dX3_errorIndex_36 : decode cX3_errorIndex 36 = .ok (.getfield 15, 3) := by decide +kernel
theorem dX3_errorIndex_39 : decode cX3_errorIndex 39 = .ok (.ireturn, 1) := by decide +kernel
set_option maxRecDepth 20000 in
theorem ggX3_isComplete_X3_codeAt : GoodIn wsX3_isComplete wsX3_codeAt := goodIn_r _ [6, 1, 7, 8, 9, 10, 29, 30, 31, 32, 33, 34] (by decide +kernel) (by decide +kernel)
set_option maxRecDepth 20000 in
theorem gX3_isComplete_X3_codeAt : GoodIn wsX3_isComplete (wsV RX3 39 RX3 yX3_codeAt wsX3_codeAt) := goodIn_app (goodIn_of _ (by decide +kernel)) ggX3_isComplete_X3_codeAt
set_option maxRecDepth 20000 in
theorem ggX3_isComplete_X3_stateBehind : GoodIn wsX3_isComplete wsX3_stateBehind := goodIn_r _ [13, 14, 15, 5, 16, 17, 18, 19, 20, 21, 22, 23, 24, 25, 26, 27, 28] (by decide +kernel) (by decide +kernel)
set_option maxRecDepth 20000 in
theorem gX3_isComplete_X3_stateBehind : GoodIn wsX3_isComplete (va_wsS RX3 43 yX3_stateBehind wsX3_stateBehind) := goodIn_app (goodIn_of _ (by decide +kernel)) ggX3_isComplete_X3_stateBehind
theorem dX3_isComplete_0 : decode cX3_isComplete 0 = .ok (.iconst 0, 1) := by decide +kernel
theorem dX3_isComplete_1 : decode cX3_isComplete 1 = .ok (.istore_n 1, 1) := by decide +kernel
theorem dX3_isComplete_2 : decode cX3_isComplete 2 = .ok (.iconst 0, 1) := by decide +kernel
theorem dX3_isComplete_3 : decode cX3_isComplete 3 = .ok (.istore_n 2, 1) := by decide +kernel
theorem dX3_isComplete_4 : decode cX3_isComplete 4 = .ok (.iload_n 2, 1) := by decide +kernel
theorem dX3_isComplete_5 : decode cX3_isComplete 5 = .ok (.aload_n 0, 1) := by decide +kernel
theorem dX3_isComplete_6 : decode cX3_isComplete 6 = .ok (.getfield 15, 3) := by decide +kernel
theorem dX3_isComplete_9 : decode cX3_isComplete 9 = .ok (.if_icmp .ge 19, 3) := by decide +kernel
theorem dX3_isComplete_12 : decode cX3_isComplete 12 = .ok (.iload_n 1, 1) := by decide +kernel
theorem dX3_isComplete_13 : decode cX3_isComplete 13 = .ok (.aload_n 0, 1) := by decide +kernel
theorem dX3_isComplete_14 : decode cX3_isComplete 14 = .ok (.iload_n 2, 1) := by decide +kernel
theorem dX3_isComplete_15 : decode cX3_isComplete 15 = .ok (.invokevirtual 39, 3) := by decide +kernel
theorem dX3_isComplete_18 : decode cX3_isComplete 18 = .ok (.invokestatic 43, 3) := by decide +kernel
theorem dX3_isComplete_21 : decode cX3_isComplete 21 = .ok (.istore_n 1, 1) := by decide +kernel
theorem dX3_isComplete_22 : decode cX3_isComplete 22 = .ok (.iinc 2 1, 3) := by decide +kernel
theorem dX3_isComplete_25 : decode cX3_isComplete 25 = .ok (.goto (-21), 3) := by decide +kernel
theorem dX3_isComplete_28 : decode cX3_isComplete 28 = .ok (.iload_n 1, 1) := by decide +kernel
theorem dX3_isComplete_29 : decode cX3_isComplete 29 = .ok (.bipush 7, 2) := by decide +kernel
theorem dX3_isComplete_31 : decode cX3_isComplete 31 = .ok (.if_icmp .eq 9, 3) := by decide +kernel
theorem dX3_isComplete_34 : decode cX3_isComplete 34 = .ok (.iload_n 1, 1) := by decide +kernel
theorem dX3_isComplete_35 : decode cX3_isComplete 35 = .ok (.bipush 6, 2) := by decide +kernel
theorem dX3_isComplete_37 : decode cX3_isComplete 37 = .ok (.if_icmp .ne 7, 3) := by decide +kernel
theorem dX3_isComplete_40 : decode cX3_isComplete 40 = .ok (.iconst 1, 1) := by decide +kernel
theorem dX3_isComplete_41 : decode cX3_isComplete 41 = .ok (.goto 4, 3) := by decide +kernel
theorem dX3_isComplete_44 : decode cX3_isComplete 44 = .ok (.iconst 0, 1) := by decide +kernel
theorem dX3_isComplete_45 : decode cX3_isComplete 45 = .ok (.ireturn, 1) := by decide +kernel
set_option maxRecDepth 20000 in
theorem ggX3_stateBehind_X3_stateBehindLetter : GoodIn wsX3_stateBehind wsX3_stateBehindLetter := goodIn_r _ [4] (by decide +kernel) (by decide +kernel)
set_option maxRecDepth 20000 in
theorem gX3_stateBehind_X3_stateBehindLetter : GoodIn wsX3_stateBehind (va_wsS RX3 47 yX3_stateBehindLetter wsX3_stateBehindLetter) := goodIn_app (goodIn_of _ (by decide +kernel)) ggX3_stateBehind_X3_stateBehindLetter
set_option maxRecDepth 20000 in
theorem ggX3_stateBehind_X3_stateBehindDigit : GoodIn wsX3_stateBehind wsX3_stateBehindDigit := goodIn_r _ [7, 8, 9, 3, 10] (by decide +kernel) (by decide +kernel)
set_option maxRecDepth 20000 in
theorem gX3_stateBehind_X3_stateBehindDigit : GoodIn wsX3_stateBehind (va_wsS RX3 50 yX3_stateBehindDigit wsX3_stateBehindDigit) := goodIn_app (goodIn_of _ (by decide +kernel)) ggX3_stateBehind_X3_stateBehindDigit
set_option maxRecDepth 20000 in
theorem ggX3_stateBehind_X3_stateBehindDash : GoodIn wsX3_stateBehind wsX3_stateBehindDash := goodIn_r _ [13] (by decide +kernel) (by decide +kernel)
set_option maxRecDepth 20000 in
theorem gX3_stateBehind_X3_stateBehindDash : GoodIn wsX3_stateBehind (va_wsS RX3 54 yX3_stateBehindDash wsX3_stateBehindDash) := goodIn_app (goodIn_of _ (by decide +kernel)) ggX3_stateBehind_X3_stateBehindDash
set_option maxRecDepth 20000 in
theorem ggX3_stateBehind_X3_stateBehindPart : GoodIn wsX3_stateBehind wsX3_stateBehindPart := goodIn_r _ [16] (by decide +kernel) (by decide +kernel)
set_option maxRecDepth 20000 in
theorem gX3_stateBehind_X3_stateBehindPart : GoodIn wsX3_stateBehind (va_wsS RX3 57 yX3_stateBehindPart wsX3_stateBehindPart) := goodIn_app (goodIn_of _ (by decide +kernel)) ggX3_stateBehind_X3_stateBehindPart
theorem dX3_stateBehind_0 : decode cX3_stateBehind 0 = .ok (.iload_n 0, 1) := by decide +kernel
theorem dX3_stateBehind_1 : decode cX3_stateBehind 1 = .ok (.tableswitch 139 0 7 #[47, 65, 70, 77, 98, 103, 112, 134], 47) := by decide +kernel
theorem dX3_stateBehind_48 : decode cX3_stateBehind 48 = .ok (.iload_n 1, 1) := by decide +kernel
theorem dX3_stateBehind_49 : decode cX3_stateBehind 49 = .ok (.bipush 48, 2) := by decide +kernel
theorem dX3_stateBehind_51 : decode cX3_stateBehind 51 = .ok (.if_icmp .lt 13, 3) := by decide +kernel
theorem dX3_stateBehind_54 : decode cX3_stateBehind 54 = .ok (.iload_n 1, 1) := by decide +kernel
theorem dX3_stateBehind_55 : decode cX3_stateBehind 55 = .ok (.bipush 56, 2) := by decide +kernel
theorem dX3_stateBehind_57 : decode cX3_stateBehind 57 = .ok (.if_icmp .gt 7, 3) := by decide +kernel
theorem dX3_stateBehind_60 : decode cX3_stateBehind 60 = .ok (.iconst 1, 1) := by decide +kernel
theorem dX3_stateBehind_61 : decode cX3_stateBehind 61 = .ok (.goto 4, 3) := by decide +kernel
theorem dX3_stateBehind_64 : decode cX3_stateBehind 64 = .ok (.iconst (-1), 1) := by decide +kernel
theorem dX3_stateBehind_65 : decode cX3_stateBehind 65 = .ok (.ireturn, 1) := by decide +kernel
theorem dX3_stateBehind_66 : decode cX3_stateBehind 66 = .ok (.iload_n 1, 1) := by decide +kernel
theorem dX3_stateBehind_67 : decode cX3_stateBehind 67 = .ok (.invokestatic 47, 3) := by decide +kernel
theorem dX3_stateBehind_70 : decode cX3_stateBehind 70 = .ok (.ireturn, 1) := by decide +kernel
theorem dX3_stateBehind_71 : decode cX3_stateBehind 71 = .ok (.iload_n 1, 1) := by decide +kernel
theorem dX3_stateBehind_72 : decode cX3_stateBehind 72 = .ok (.iconst 3, 1) := by decide +kernel
theorem dX3_stateBehind_73 : decode cX3_stateBehind 73 = .ok (.iconst 4, 1) := by decide +kernel
theorem dX3_stateBehind_74 : decode cX3_stateBehind 74 = .ok (.invokestatic 50, 3) := by decide +kernel
theorem dX3_stateBehind_77 : decode cX3_stateBehind 77 = .ok (.ireturn, 1) := by decide +kernel
theorem dX3_stateBehind_78 : decode cX3_stateBehind 78 = .ok (.iload_n 1, 1) := by decide +kernel
theorem dX3_stateBehind_79 : decode cX3_stateBehind 79 = .ok (.bipush 48, 2) := by decide +kernel
theorem dX3_stateBehind_81 : decode cX3_stateBehind 81 = .ok (.if_icmp .eq 9, 3) := by decide +kernel
theorem dX3_stateBehind_84 : decode cX3_stateBehind 84 = .ok (.iload_n 1, 1) := by decide +kernel
theorem dX3_stateBehind_85 : decode cX3_stateBehind 85 = .ok (.bipush 49, 2) := by decide +kernel
theorem dX3_stateBehind_87 : decode cX3_stateBehind 87 = .ok (.if_icmp .ne 7, 3) := by decide +kernel
theorem dX3_stateBehind_90 : decode cX3_stateBehind 90 = .ok (.iconst 4, 1) := by decide +kernel
theorem dX3_stateBehind_91 : decode cX3_stateBehind 91 = .ok (.goto 7, 3) := by decide +kernel
theorem dX3_stateBehind_94 : decode cX3_stateBehind 94 = .ok (.iload_n 1, 1) := by decide +kernel
theorem dX3_stateBehind_95 : decode cX3_stateBehind 95 = .ok (.invokestatic 54, 3) := by decide +kernel
theorem dX3_stateBehind_98 : decode cX3_stateBehind 98 = .ok (.ireturn, 1) := by decide +kernel
theorem dX3_stateBehind_99 : decode cX3_stateBehind 99 = .ok (.iload_n 1, 1) := by decide +kernel
theorem dX3_stateBehind_100 : decode cX3_stateBehind 100 = .ok (.invokestatic 54, 3) := by decide +kernel
theorem dX3_stateBehind_103 : decode cX3_stateBehind 103 = .ok (.ireturn, 1) := by decide +kernel
theorem dX3_stateBehind_104 : decode cX3_stateBehind 104 = .ok (.iload_n 1, 1) := by decide +kernel
theorem dX3_stateBehind_105 : decode cX3_stateBehind 105 = .ok (.bipush 6, 2) := by decide +kernel
theorem dX3_stateBehind_107 : decode cX3_stateBehind 107 = .ok (.bipush 7, 2) := by decide +kernel
theorem dX3_stateBehind_109 : decode cX3_stateBehind 109 = .ok (.invokestatic 50, 3) := by decide +kernel
theorem dX3_stateBehind_112 : decode cX3_stateBehind 112 = .ok (.ireturn, 1) := by decide +kernel
theorem dX3_stateBehind_113 : decode cX3_stateBehind 113 = .ok (.iload_n 1, 1) := by decide +kernel
theorem dX3_stateBehind_114 : decode cX3_stateBehind 114 = .ok (.bipush 48, 2) := by decide +kernel
theorem dX3_stateBehind_116 : decode cX3_stateBehind 116 = .ok (.if_icmp .eq 9, 3) := by decide +kernel
theorem dX3_stateBehind_119 : decode cX3_stateBehind 119 = .ok (.iload_n 1, 1) := by decide +kernel
theorem dX3_stateBehind_120 : decode cX3_stateBehind 120 = .ok (.bipush 49, 2) := by decide +kernel
theorem dX3_stateBehind_122 : decode cX3_stateBehind 122 = .ok (.if_icmp .ne 8, 3) := by decide +kernel
theorem dX3_stateBehind_125 : decode cX3_stateBehind 125 = .ok (.bipush 7, 2) := by decide +kernel
theorem dX3_stateBehind_127 : decode cX3_stateBehind 127 = .ok (.goto 7, 3) := by decide +kernel
theorem dX3_stateBehind_130 : decode cX3_stateBehind 130 = .ok (.iload_n 1, 1) := by decide +kernel
theorem dX3_stateBehind_131 : decode cX3_stateBehind 131 = .ok (.invokestatic 57, 3) := by decide +kernel
theorem dX3_stateBehind_134 : decode cX3_stateBehind 134 = .ok (.ireturn, 1) := by decide +kernel
theorem dX3_stateBehind_135 : decode cX3_stateBehind 135 = .ok (.iload_n 1, 1) := by decide +kernel
theorem dX3_stateBehind_136 : decode cX3_stateBehind 136 = .ok (.invokestatic 57, 3) := by decide +kernel
theorem dX3_stateBehind_139 : decode cX3_stateBehind 139 = .ok (.ireturn, 1) := by decide +kernel
theorem dX3_stateBehind_140 : decode cX3_stateBehind 140 = .ok (.iconst (-1), 1) := by decide +kernel
theorem dX3_stateBehind_141 : decode cX3_stateBehind 141 = .ok (.ireturn, 1) := by decide +kernel
theorem dX3_stateBehindLetter_0 : decode cX3_stateBehindLetter 0 = .ok (.iload_n 0, 1) := by decide +kernel
theorem dX3_stateBehindLetter_1 : decode cX3_stateBehindLetter 1 = .ok (.lookupswitch 42 #[(104, 35), (109, 38), (115, 40)], 35) := by decide +kernel
theorem dX3_stateBehindLetter_36 : decode cX3_stateBehindLetter 36 = .ok (.bipush 7, 2) := by decide +kernel
theorem dX3_stateBehindLetter_38 : decode cX3_stateBehindLetter 38 = .ok (.ireturn, 1) := by decide +kernel
theorem dX3_stateBehindLetter_39 : decode cX3_stateBehindLetter 39 = .ok (.iconst 5, 1) := by decide +kernel
theorem dX3_stateBehindLetter_40 : decode cX3_stateBehindLetter 40 = .ok (.ireturn, 1) := by decide +kernel
theorem dX3_stateBehindLetter_41 : decode cX3_stateBehindLetter 41 = .ok (.iconst 2, 1) := by decide +kernel
theorem dX3_stateBehindLetter_42 : decode cX3_stateBehindLetter 42 = .ok (.ireturn, 1) := by decide +kernel
theorem dX3_stateBehindLetter_43 : decode cX3_stateBehindLetter 43 = .ok (.iconst (-1), 1) := by decide +kernel
theorem dX3_stateBehindLetter_44 : decode cX3_stateBehindLetter 44 = .ok (.ireturn, 1) := by decide +kernel
set_option maxRecDepth 20000 in
theorem ggX3_stateBehindDigit_X3_isDigit : GoodIn wsX3_stateBehindDigit wsX3_isDigit := goodIn_r _ [4] (by decide +kernel) (by decide +kernel)
set_option maxRecDepth 20000 in
theorem gX3_stateBehindDigit_X3_isDigit : GoodIn wsX3_stateBehindDigit (va_wsS RX3 60 yX3_isDigit wsX3_isDigit) := goodIn_app (goodIn_of _ (by decide +kernel)) ggX3_stateBehindDigit_X3_isDigit
theorem dX3_stateBehindDigit_0 : decode cX3_stateBehindDigit 0 = .ok (.iload_n 0, 1) := by decide +kernel
theorem dX3_stateBehindDigit_1 : decode cX3_stateBehindDigit 1 = .ok (.invokestatic 60, 3) := by decide +kernel
theorem dX3_stateBehindDigit_4 : decode cX3_stateBehindDigit 4 = .ok (.ifCond .ne 5, 3) := by decide +kernel
theorem dX3_stateBehindDigit_7 : decode cX3_stateBehindDigit 7 = .ok (.iconst (-1), 1) := by decide +kernel
theorem dX3_stateBehindDigit_8 : decode cX3_stateBehindDigit 8 = .ok (.ireturn, 1) := by decide +kernel
theorem dX3_stateBehindDigit_9 : decode cX3_stateBehindDigit 9 = .ok (.iload_n 0, 1) := by decide +kernel
theorem dX3_stateBehindDigit_10 : decode cX3_stateBehindDigit 10 = .ok (.bipush 49, 2) := by decide +kernel
theorem dX3_stateBehindDigit_12 : decode cX3_stateBehindDigit 12 = .ok (.if_icmp .ne 7, 3) := by decide +kernel
theorem dX3_stateBehindDigit_15 : decode cX3_stateBehindDigit 15 = .ok (.iload_n 1, 1) := by decide +kernel
theorem dX3_stateBehindDigit_16 : decode cX3_stateBehindDigit 16 = .ok (.goto 4, 3) := by decide +kernel
theorem dX3_stateBehindDigit_19 : decode cX3_stateBehindDigit 19 = .ok (.iload_n 2, 1) := by decide +kernel
theorem dX3_stateBehindDigit_20 : decode cX3_stateBehindDigit 20 = .ok (.ireturn, 1) := by decide +kernel
theorem dX3_stateBehindDash_0 : decode cX3_stateBehindDash 0 = .ok (.iload_n 0, 1) := by decide +kernel
theorem dX3_stateBehindDash_1 : decode cX3_stateBehindDash 1 = .ok (.bipush 45, 2) := by decide +kernel
theorem dX3_stateBehindDash_3 : decode cX3_stateBehindDash 3 = .ok (.if_icmp .ne 7, 3) := by decide +kernel
theorem dX3_stateBehindDash_6 : decode cX3_stateBehindDash 6 = .ok (.iconst 5, 1) := by decide +kernel
theorem dX3_stateBehindDash_7 : decode cX3_stateBehindDash 7 = .ok (.goto 4, 3) := by decide +kernel
theorem dX3_stateBehindDash_10 : decode cX3_stateBehindDash 10 = .ok (.iconst (-1), 1) := by decide +kernel
theorem dX3_stateBehindDash_11 : decode cX3_stateBehindDash 11 = .ok (.ireturn, 1) := by decide +kernel
theorem dX3_stateBehindPart_0 : decode cX3_stateBehindPart 0 = .ok (.iload_n 0, 1) := by decide +kernel
theorem dX3_stateBehindPart_1 : decode cX3_stateBehindPart 1 = .ok (.bipush 59, 2) := by decide +kernel
theorem dX3_stateBehindPart_3 : decode cX3_stateBehindPart 3 = .ok (.if_icmp .ne 7, 3) := by decide +kernel
theorem dX3_stateBehindPart_6 : decode cX3_stateBehindPart 6 = .ok (.iconst 0, 1) := by decide +kernel
theorem dX3_stateBehindPart_7 : decode cX3_stateBehindPart 7 = .ok (.goto 4, 3) := by decide +kernel
theorem dX3_stateBehindPart_10 : decode cX3_stateBehindPart 10 = .ok (.iconst (-1), 1) := by decide +kernel
theorem dX3_stateBehindPart_11 : decode cX3_stateBehindPart 11 = .ok (.ireturn, 1) := by decide +kernel
theorem dX3_isDigit_0 : decode cX3_isDigit 0 = .ok (.iload_n 0, 1) := by decide +kernel
theorem dX3_isDigit_1 : decode cX3_isDigit 1 = .ok (.bipush 48, 2) := by decide +kernel
theorem dX3_isDigit_3 : decode cX3_isDigit 3 = .ok (.if_icmp .lt 13, 3) := by decide +kernel
theorem dX3_isDigit_6 : decode cX3_isDigit 6 = .ok (.iload_n 0, 1) := by decide +kernel
theorem dX3_isDigit_7 : decode cX3_isDigit 7 = .ok (.bipush 57, 2) := by decide +kernel
theorem dX3_isDigit_9 : decode cX3_isDigit 9 = .ok (.if_icmp .gt 7, 3) := by decide +kernel
theorem dX3_isDigit_12 : decode cX3_isDigit 12 = .ok (.iconst 1, 1) := by decide +kernel
theorem dX3_isDigit_13 : decode cX3_isDigit 13 = .ok (.goto 4, 3) := by decide +kernel
theorem dX3_isDigit_16 : decode cX3_isDigit 16 = .ok (.iconst 0, 1) := by decide +kernel
theorem dX3_isDigit_17 : decode cX3_isDigit 17 = .ok (.ireturn, 1) := by decide +kernel
set_option maxRecDepth 20000 in
theorem ggX3_endsPart_X3_codeAt : GoodIn wsX3_endsPart wsX3_codeAt := goodIn_r _ [6, 1, 7, 8, 9, 10, 11, 12, 13, 14, 15, 16] (by decide +kernel) (by decide +kernel)
set_option maxRecDepth 20000 in
theorem gX3_endsPart_X3_codeAt : GoodIn wsX3_endsPart (wsV RX3 39 RX3 yX3_codeAt wsX3_codeAt) := goodIn_app (goodIn_of _ (by decide +kernel)) ggX3_endsPart_X3_codeAt
theorem dX3_endsPart_0 : decode cX3_endsPart 0 = .ok (.aload_n 0, 1) := by decide +kernel
theorem dX3_endsPart_1 : decode cX3_endsPart 1 = .ok (.iload_n 1, 1) := by decide +kernel
theorem dX3_endsPart_2 : decode cX3_endsPart 2 = .ok (.invokevirtual 39, 3) := by decide +kernel
theorem dX3_endsPart_5 : decode cX3_endsPart 5 = .ok (.bipush 59, 2) := by decide +kernel
theorem dX3_endsPart_7 : decode cX3_endsPart 7 = .ok (.if_icmp .eq 29, 3) := by decide +kernel
theorem dX3_endsPart_10 : decode cX3_endsPart 10 = .ok (.iload_n 1, 1) := by decide +kernel
theorem dX3_endsPart_11 : decode cX3_endsPart 11 = .ok (.iconst 1, 1) := by decide +kernel
theorem dX3_endsPart_12 : decode cX3_endsPart 12 = .ok (.iadd, 1) := by decide +kernel
