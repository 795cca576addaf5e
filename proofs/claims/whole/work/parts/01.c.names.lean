theorem dX0_of_7 : decode cX0_of 7 = .ok (.iload_n 3, 1) := by decide +kernel
theorem dX0_of_8 : decode cX0_of 8 = .ok (.ifCond .lt 21, 3) := by decide +kernel
theorem dX0_of_11 : decode cX0_of 11 = .ok (.iload_n 3, 1) := by decide +kernel
theorem dX0_of_12 : decode cX0_of 12 = .ok (.aload_n 0, 1) := by decide +kernel
theorem dX0_of_13 : decode cX0_of 13 = .ok (.getfield 18, 3) := by decide +kernel
theorem dX0_of_16 : decode cX0_of 16 = .ok (.arraylength, 1) := by decide +kernel
theorem dX0_of_17 : decode cX0_of 17 = .ok (.if_icmp .ge 12, 3) := by decide +kernel
theorem dX0_of_20 : decode cX0_of 20 = .ok (.aload_n 0, 1) := by decide +kernel
theorem dX0_of_21 : decode cX0_of 21 = .ok (.getfield 18, 3) := by decide +kernel
theorem dX0_of_24 : decode cX0_of 24 = .ok (.iload_n 3, 1) := by decide +kernel
theorem dX0_of_25 : decode cX0_of 25 = .ok (.iaload, 1) := by decide +kernel
theorem dX0_of_26 : decode cX0_of 26 = .ok (.goto 4, 3) := by decide +kernel
theorem dX0_of_29 : decode cX0_of 29 = .ok (.iconst (-1), 1) := by decide +kernel
theorem dX0_of_30 : decode cX0_of 30 = .ok (.ireturn, 1) := by decide +kernel
theorem dX0_put_0 : decode cX0_put 0 = .ok (.iload_n 1, 1) := by decide +kernel
theorem dX0_put_1 : decode cX0_put 1 = .ok (.bipush 7, 2) := by decide +kernel
theorem dX0_put_3 : decode cX0_put 3 = .ok (.imul, 1) := by decide +kernel
theorem dX0_put_4 : decode cX0_put 4 = .ok (.iload_n 2, 1) := by decide +kernel
theorem dX0_put_5 : decode cX0_put 5 = .ok (.iadd, 1) := by decide +kernel
theorem dX0_put_6 : decode cX0_put 6 = .ok (.istore 4, 2) := by decide +kernel
theorem dX0_put_8 : decode cX0_put 8 = .ok (.iload 4, 2) := by decide +kernel
theorem dX0_put_10 : decode cX0_put 10 = .ok (.ifCond .lt 21, 3) := by decide +kernel
theorem dX0_put_13 : decode cX0_put 13 = .ok (.iload 4, 2) := by decide +kernel
theorem dX0_put_15 : decode cX0_put 15 = .ok (.aload_n 0, 1) := by decide +kernel
theorem dX0_put_16 : decode cX0_put 16 = .ok (.getfield 18, 3) := by decide +kernel
theorem dX0_put_19 : decode cX0_put 19 = .ok (.arraylength, 1) := by decide +kernel
theorem dX0_put_20 : decode cX0_put 20 = .ok (.if_icmp .ge 11, 3) := by decide +kernel
theorem dX0_put_23 : decode cX0_put 23 = .ok (.aload_n 0, 1) := by decide +kernel
theorem dX0_put_24 : decode cX0_put 24 = .ok (.getfield 18, 3) := by decide +kernel
theorem dX0_put_27 : decode cX0_put 27 = .ok (.iload 4, 2) := by decide +kernel
theorem dX0_put_29 : decode cX0_put 29 = .ok (.iload_n 3, 1) := by decide +kernel
theorem dX0_put_30 : decode cX0_put 30 = .ok (.iastore, 1) := by decide +kernel
theorem dX0_put_31 : decode cX0_put 31 = .ok (.return_, 1) := by decide +kernel
set_option maxRecDepth 20000 in
theorem ggX0_armyOn_X0_number : GoodIn wsX0_armyOn wsX0_number := goodIn_r _ [5, 6, 12, 13, 14] (by decide +kernel) (by decide +kernel)
set_option maxRecDepth 20000 in
theorem gX0_armyOn_X0_number : GoodIn wsX0_armyOn (wsV RX0 33 RX0 yX0_number wsX0_number) := goodIn_app (goodIn_of _ (by decide +kernel)) ggX0_armyOn_X0_number
set_option maxRecDepth 20000 in
theorem ggX0_armyOn_X0_of : GoodIn wsX0_armyOn wsX0_of := goodIn_r _ [10, 11, 12, 13, 14] (by decide +kernel) (by decide +kernel)
set_option maxRecDepth 20000 in
theorem gX0_armyOn_X0_of : GoodIn wsX0_armyOn (wsV RX0 41 RX0 yX0_of wsX0_of) := goodIn_app (goodIn_of _ (by decide +kernel)) ggX0_armyOn_X0_of
theorem dX0_armyOn_0 : decode cX0_armyOn 0 = .ok (.iconst 0, 1) := by decide +kernel
theorem dX0_armyOn_1 : decode cX0_armyOn 1 = .ok (.istore_n 2, 1) := by decide +kernel
theorem dX0_armyOn_2 : decode cX0_armyOn 2 = .ok (.iload_n 2, 1) := by decide +kernel
theorem dX0_armyOn_3 : decode cX0_armyOn 3 = .ok (.aload_n 0, 1) := by decide +kernel
theorem dX0_armyOn_4 : decode cX0_armyOn 4 = .ok (.iconst 0, 1) := by decide +kernel
theorem dX0_armyOn_5 : decode cX0_armyOn 5 = .ok (.invokevirtual 33, 3) := by decide +kernel
theorem dX0_armyOn_8 : decode cX0_armyOn 8 = .ok (.if_icmp .ge 21, 3) := by decide +kernel
theorem dX0_armyOn_11 : decode cX0_armyOn 11 = .ok (.aload_n 0, 1) := by decide +kernel
theorem dX0_armyOn_12 : decode cX0_armyOn 12 = .ok (.iload_n 2, 1) := by decide +kernel
theorem dX0_armyOn_13 : decode cX0_armyOn 13 = .ok (.iconst 1, 1) := by decide +kernel
theorem dX0_armyOn_14 : decode cX0_armyOn 14 = .ok (.invokevirtual 41, 3) := by decide +kernel
theorem dX0_armyOn_17 : decode cX0_armyOn 17 = .ok (.iload_n 1, 1) := by decide +kernel
theorem dX0_armyOn_18 : decode cX0_armyOn 18 = .ok (.if_icmp .ne 5, 3) := by decide +kernel
theorem dX0_armyOn_21 : decode cX0_armyOn 21 = .ok (.iload_n 2, 1) := by decide +kernel
theorem dX0_armyOn_22 : decode cX0_armyOn 22 = .ok (.ireturn, 1) := by decide +kernel
theorem dX0_armyOn_23 : decode cX0_armyOn 23 = .ok (.iinc 2 1, 3) := by decide +kernel
theorem dX0_armyOn_26 : decode cX0_armyOn 26 = .ok (.goto (-24), 3) := by decide +kernel
theorem dX0_armyOn_29 : decode cX0_armyOn 29 = .ok (.iconst (-1), 1) := by decide +kernel
theorem dX0_armyOn_30 : decode cX0_armyOn 30 = .ok (.ireturn, 1) := by decide +kernel
set_option maxRecDepth 20000 in
theorem ggX0_setUp_X0_number : GoodIn wsX0_setUp wsX0_number := goodIn_r _ [6, 1, 15, 16, 17] (by decide +kernel) (by decide +kernel)
set_option maxRecDepth 20000 in
theorem gX0_setUp_X0_number : GoodIn wsX0_setUp (wsV RX0 33 RX0 yX0_number wsX0_number) := goodIn_app (goodIn_of _ (by decide +kernel)) ggX0_setUp_X0_number
set_option maxRecDepth 20000 in
theorem ggX0_setUp_X0_put : GoodIn wsX0_setUp wsX0_put := goodIn_r _ [10, 11, 15, 16, 17] (by decide +kernel) (by decide +kernel)
set_option maxRecDepth 20000 in
theorem gX0_setUp_X0_put : GoodIn wsX0_setUp (wsV RX0 45 RX0 yX0_put wsX0_put) := goodIn_app (goodIn_of _ (by decide +kernel)) ggX0_setUp_X0_put
set_option maxRecDepth 20000 in
theorem ggX0_setUp_X4_enter : GoodIn wsX0_setUp wsX4_enter := goodIn_r _ [14] (by decide +kernel) (by decide +kernel)
set_option maxRecDepth 20000 in
theorem gX0_setUp_X4_enter_n37 : GoodIn wsX0_setUp (wsX4_enter) := ggX0_setUp_X4_enter
theorem dX0_setUp_0 : decode cX0_setUp 0 = .ok (.aload_n 0, 1) := by decide +kernel
theorem dX0_setUp_1 : decode cX0_setUp 1 = .ok (.iconst 0, 1) := by decide +kernel
theorem dX0_setUp_2 : decode cX0_setUp 2 = .ok (.invokevirtual 33, 3) := by decide +kernel
theorem dX0_setUp_5 : decode cX0_setUp 5 = .ok (.istore_n 3, 1) := by decide +kernel
theorem dX0_setUp_6 : decode cX0_setUp 6 = .ok (.aload_n 0, 1) := by decide +kernel
theorem dX0_setUp_7 : decode cX0_setUp 7 = .ok (.iload_n 3, 1) := by decide +kernel
theorem dX0_setUp_8 : decode cX0_setUp 8 = .ok (.iconst 0, 1) := by decide +kernel
theorem dX0_setUp_9 : decode cX0_setUp 9 = .ok (.iload_n 1, 1) := by decide +kernel
theorem dX0_setUp_10 : decode cX0_setUp 10 = .ok (.invokevirtual 45, 3) := by decide +kernel
theorem dX0_setUp_13 : decode cX0_setUp 13 = .ok (.aload_n 0, 1) := by decide +kernel
theorem dX0_setUp_14 : decode cX0_setUp 14 = .ok (.iload_n 3, 1) := by decide +kernel
theorem dX0_setUp_15 : decode cX0_setUp 15 = .ok (.iconst 1, 1) := by decide +kernel
theorem dX0_setUp_16 : decode cX0_setUp 16 = .ok (.iload_n 2, 1) := by decide +kernel
theorem dX0_setUp_17 : decode cX0_setUp 17 = .ok (.invokevirtual 45, 3) := by decide +kernel
theorem dX0_setUp_20 : decode cX0_setUp 20 = .ok (.aload_n 0, 1) := by decide +kernel
theorem dX0_setUp_21 : decode cX0_setUp 21 = .ok (.iload_n 3, 1) := by decide +kernel
theorem dX0_setUp_22 : decode cX0_setUp 22 = .ok (.iconst 2, 1) := by decide +kernel
theorem dX0_setUp_23 : decode cX0_setUp 23 = .ok (.iconst 0, 1) := by decide +kernel
theorem dX0_setUp_24 : decode cX0_setUp 24 = .ok (.invokevirtual 45, 3) := by decide +kernel
theorem dX0_setUp_27 : decode cX0_setUp 27 = .ok (.aload_n 0, 1) := by decide +kernel
theorem dX0_setUp_28 : decode cX0_setUp 28 = .ok (.iload_n 3, 1) := by decide +kernel
theorem dX0_setUp_29 : decode cX0_setUp 29 = .ok (.iconst 3, 1) := by decide +kernel
theorem dX0_setUp_30 : decode cX0_setUp 30 = .ok (.iconst (-1), 1) := by decide +kernel
theorem dX0_setUp_31 : decode cX0_setUp 31 = .ok (.invokevirtual 45, 3) := by decide +kernel
theorem dX0_setUp_34 : decode cX0_setUp 34 = .ok (.aload_n 0, 1) := by decide +kernel
theorem dX0_setUp_35 : decode cX0_setUp 35 = .ok (.iload_n 3, 1) := by decide +kernel
theorem dX0_setUp_36 : decode cX0_setUp 36 = .ok (.iconst 4, 1) := by decide +kernel
theorem dX0_setUp_37 : decode cX0_setUp 37 = .ok (.iconst (-1), 1) := by decide +kernel
theorem dX0_setUp_38 : decode cX0_setUp 38 = .ok (.invokevirtual 45, 3) := by decide +kernel
theorem dX0_setUp_41 : decode cX0_setUp 41 = .ok (.aload_n 0, 1) := by decide +kernel
theorem dX0_setUp_42 : decode cX0_setUp 42 = .ok (.iload_n 3, 1) := by decide +kernel
theorem dX0_setUp_43 : decode cX0_setUp 43 = .ok (.iconst 5, 1) := by decide +kernel
theorem dX0_setUp_44 : decode cX0_setUp 44 = .ok (.iconst 0, 1) := by decide +kernel
theorem dX0_setUp_45 : decode cX0_setUp 45 = .ok (.invokevirtual 45, 3) := by decide +kernel
theorem dX0_setUp_48 : decode cX0_setUp 48 = .ok (.aload_n 0, 1) := by decide +kernel
theorem dX0_setUp_49 : decode cX0_setUp 49 = .ok (.iload_n 3, 1) := by decide +kernel
theorem dX0_setUp_50 : decode cX0_setUp 50 = .ok (.bipush 6, 2) := by decide +kernel
theorem dX0_setUp_52 : decode cX0_setUp 52 = .ok (.iconst 0, 1) := by decide +kernel
theorem dX0_setUp_53 : decode cX0_setUp 53 = .ok (.invokevirtual 45, 3) := by decide +kernel
theorem dX0_setUp_56 : decode cX0_setUp 56 = .ok (.aload_n 0, 1) := by decide +kernel
theorem dX0_setUp_57 : decode cX0_setUp 57 = .ok (.getfield 9, 3) := by decide +kernel
theorem dX0_setUp_60 : decode cX0_setUp 60 = .ok (.iconst 0, 1) := by decide +kernel
theorem dX0_setUp_61 : decode cX0_setUp 61 = .ok (.iload_n 3, 1) := by decide +kernel
theorem dX0_setUp_62 : decode cX0_setUp 62 = .ok (.iconst 1, 1) := by decide +kernel
theorem dX0_setUp_63 : decode cX0_setUp 63 = .ok (.iadd, 1) := by decide +kernel
theorem dX0_setUp_64 : decode cX0_setUp 64 = .ok (.invokestatic 37, 3) := by decide +kernel
theorem dX0_setUp_67 : decode cX0_setUp 67 = .ok (.iload_n 3, 1) := by decide +kernel
theorem dX0_setUp_68 : decode cX0_setUp 68 = .ok (.ireturn, 1) := by decide +kernel
set_option maxRecDepth 20000 in
theorem ggX0_remove_X0_number : GoodIn wsX0_remove wsX0_number := goodIn_r _ [6, 1, 19, 20, 21] (by decide +kernel) (by decide +kernel)
set_option maxRecDepth 20000 in
theorem gX0_remove_X0_number : GoodIn wsX0_remove (wsV RX0 33 RX0 yX0_number wsX0_number) := goodIn_app (goodIn_of _ (by decide +kernel)) ggX0_remove_X0_number
set_option maxRecDepth 20000 in
theorem ggX0_remove_X0_of : GoodIn wsX0_remove wsX0_of := goodIn_r _ [10, 11, 19, 20, 21] (by decide +kernel) (by decide +kernel)
set_option maxRecDepth 20000 in
theorem gX0_remove_X0_of : GoodIn wsX0_remove (wsV RX0 41 RX0 yX0_of wsX0_of) := goodIn_app (goodIn_of _ (by decide +kernel)) ggX0_remove_X0_of
set_option maxRecDepth 20000 in
theorem ggX0_remove_X0_put : GoodIn wsX0_remove wsX0_put := goodIn_r _ [15, 11, 19, 20, 21] (by decide +kernel) (by decide +kernel)
set_option maxRecDepth 20000 in
theorem gX0_remove_X0_put : GoodIn wsX0_remove (wsV RX0 45 RX0 yX0_put wsX0_put) := goodIn_app (goodIn_of _ (by decide +kernel)) ggX0_remove_X0_put
set_option maxRecDepth 20000 in
theorem ggX0_remove_X4_enter : GoodIn wsX0_remove wsX4_enter := goodIn_r _ [18] (by decide +kernel) (by decide +kernel)
set_option maxRecDepth 20000 in
theorem gX0_remove_X4_enter_n37 : GoodIn wsX0_remove (wsX4_enter) := ggX0_remove_X4_enter
theorem dX0_remove_0 : decode cX0_remove 0 = .ok (.iload_n 1, 1) := by decide +kernel
theorem dX0_remove_1 : decode cX0_remove 1 = .ok (.iconst 1, 1) := by decide +kernel
theorem dX0_remove_2 : decode cX0_remove 2 = .ok (.iadd, 1) := by decide +kernel
theorem dX0_remove_3 : decode cX0_remove 3 = .ok (.istore_n 2, 1) := by decide +kernel
theorem dX0_remove_4 : decode cX0_remove 4 = .ok (.iload_n 2, 1) := by decide +kernel
theorem dX0_remove_5 : decode cX0_remove 5 = .ok (.aload_n 0, 1) := by decide +kernel
theorem dX0_remove_6 : decode cX0_remove 6 = .ok (.iconst 0, 1) := by decide +kernel
theorem dX0_remove_7 : decode cX0_remove 7 = .ok (.invokevirtual 33, 3) := by decide +kernel
theorem dX0_remove_10 : decode cX0_remove 10 = .ok (.if_icmp .ge 37, 3) := by decide +kernel
theorem dX0_remove_13 : decode cX0_remove 13 = .ok (.iconst 0, 1) := by decide +kernel
theorem dX0_remove_14 : decode cX0_remove 14 = .ok (.istore_n 3, 1) := by decide +kernel
theorem dX0_remove_15 : decode cX0_remove 15 = .ok (.iload_n 3, 1) := by decide +kernel
theorem dX0_remove_16 : decode cX0_remove 16 = .ok (.bipush 7, 2) := by decide +kernel
theorem dX0_remove_18 : decode cX0_remove 18 = .ok (.if_icmp .ge 23, 3) := by decide +kernel
theorem dX0_remove_21 : decode cX0_remove 21 = .ok (.aload_n 0, 1) := by decide +kernel
theorem dX0_remove_22 : decode cX0_remove 22 = .ok (.iload_n 2, 1) := by decide +kernel
theorem dX0_remove_23 : decode cX0_remove 23 = .ok (.iconst 1, 1) := by decide +kernel
theorem dX0_remove_24 : decode cX0_remove 24 = .ok (.isub, 1) := by decide +kernel
theorem dX0_remove_25 : decode cX0_remove 25 = .ok (.iload_n 3, 1) := by decide +kernel
theorem dX0_remove_26 : decode cX0_remove 26 = .ok (.aload_n 0, 1) := by decide +kernel
theorem dX0_remove_27 : decode cX0_remove 27 = .ok (.iload_n 2, 1) := by decide +kernel
theorem dX0_remove_28 : decode cX0_remove 28 = .ok (.iload_n 3, 1) := by decide +kernel
theorem dX0_remove_29 : decode cX0_remove 29 = .ok (.invokevirtual 41, 3) := by decide +kernel
theorem dX0_remove_32 : decode cX0_remove 32 = .ok (.invokevirtual 45, 3) := by decide +kernel
theorem dX0_remove_35 : decode cX0_remove 35 = .ok (.iinc 3 1, 3) := by decide +kernel
theorem dX0_remove_38 : decode cX0_remove 38 = .ok (.goto (-23), 3) := by decide +kernel
theorem dX0_remove_41 : decode cX0_remove 41 = .ok (.iinc 2 1, 3) := by decide +kernel
theorem dX0_remove_44 : decode cX0_remove 44 = .ok (.goto (-40), 3) := by decide +kernel
theorem dX0_remove_47 : decode cX0_remove 47 = .ok (.aload_n 0, 1) := by decide +kernel
theorem dX0_remove_48 : decode cX0_remove 48 = .ok (.getfield 9, 3) := by decide +kernel
theorem dX0_remove_51 : decode cX0_remove 51 = .ok (.iconst 0, 1) := by decide +kernel
theorem dX0_remove_52 : decode cX0_remove 52 = .ok (.aload_n 0, 1) := by decide +kernel
theorem dX0_remove_53 : decode cX0_remove 53 = .ok (.iconst 0, 1) := by decide +kernel
theorem dX0_remove_54 : decode cX0_remove 54 = .ok (.invokevirtual 33, 3) := by decide +kernel
theorem dX0_remove_57 : decode cX0_remove 57 = .ok (.iconst 1, 1) := by decide +kernel
theorem dX0_remove_58 : decode cX0_remove 58 = .ok (.isub, 1) := by decide +kernel
theorem dX0_remove_59 : decode cX0_remove 59 = .ok (.invokestatic 37, 3) := by decide +kernel
theorem dX0_remove_62 : decode cX0_remove 62 = .ok (.return_, 1) := by decide +kernel
set_option maxRecDepth 20000 in
theorem ggX0_canBeGiven_X0_hasArmy : GoodIn wsX0_canBeGiven wsX0_hasArmy := goodIn_r _ [5, 6, 7, 8, 4, 9, 10, 19, 20, 21] (by decide +kernel) (by decide +kernel)
set_option maxRecDepth 20000 in
theorem gX0_canBeGiven_X0_hasArmy : GoodIn wsX0_canBeGiven (wsV RX0 49 RX0 yX0_hasArmy wsX0_hasArmy) := goodIn_app (goodIn_of _ (by decide +kernel)) ggX0_canBeGiven_X0_hasArmy
set_option maxRecDepth 20000 in
theorem ggX0_canBeGiven_X0_of : GoodIn wsX0_canBeGiven wsX0_of := goodIn_r _ [14, 15, 19, 20, 21] (by decide +kernel) (by decide +kernel)
set_option maxRecDepth 20000 in
theorem gX0_canBeGiven_X0_of : GoodIn wsX0_canBeGiven (wsV RX0 41 RX0 yX0_of wsX0_of) := goodIn_app (goodIn_of _ (by decide +kernel)) ggX0_canBeGiven_X0_of
set_option maxRecDepth 20000 in
theorem ggX0_canBeGiven_X4_areNeighbours : GoodIn wsX0_canBeGiven wsX4_areNeighbours := goodIn_r _ [18] (by decide +kernel) (by decide +kernel)
set_option maxRecDepth 20000 in
theorem gX0_canBeGiven_X4_areNeighbours_n53 : GoodIn wsX0_canBeGiven (wsX4_areNeighbours) := ggX0_canBeGiven_X4_areNeighbours
theorem dX0_canBeGiven_0 : decode cX0_canBeGiven 0 = .ok (.aload_n 0, 1) := by decide +kernel
theorem dX0_canBeGiven_1 : decode cX0_canBeGiven 1 = .ok (.iload_n 1, 1) := by decide +kernel
theorem dX0_canBeGiven_2 : decode cX0_canBeGiven 2 = .ok (.invokevirtual 49, 3) := by decide +kernel
theorem dX0_canBeGiven_5 : decode cX0_canBeGiven 5 = .ok (.ifCond .ne 5, 3) := by decide +kernel
theorem dX0_canBeGiven_8 : decode cX0_canBeGiven 8 = .ok (.iconst 0, 1) := by decide +kernel
theorem dX0_canBeGiven_9 : decode cX0_canBeGiven 9 = .ok (.ireturn, 1) := by decide +kernel
theorem dX0_canBeGiven_10 : decode cX0_canBeGiven 10 = .ok (.iload_n 2, 1) := by decide +kernel
theorem dX0_canBeGiven_11 : decode cX0_canBeGiven 11 = .ok (.ifCond .ne 5, 3) := by decide +kernel
theorem dX0_canBeGiven_14 : decode cX0_canBeGiven 14 = .ok (.iconst 1, 1) := by decide +kernel
theorem dX0_canBeGiven_15 : decode cX0_canBeGiven 15 = .ok (.ireturn, 1) := by decide +kernel
theorem dX0_canBeGiven_16 : decode cX0_canBeGiven 16 = .ok (.aload_n 0, 1) := by decide +kernel
theorem dX0_canBeGiven_17 : decode cX0_canBeGiven 17 = .ok (.iload_n 1, 1) := by decide +kernel
theorem dX0_canBeGiven_18 : decode cX0_canBeGiven 18 = .ok (.iconst 1, 1) := by decide +kernel
theorem dX0_canBeGiven_19 : decode cX0_canBeGiven 19 = .ok (.invokevirtual 41, 3) := by decide +kernel
theorem dX0_canBeGiven_22 : decode cX0_canBeGiven 22 = .ok (.iload 4, 2) := by decide +kernel
theorem dX0_canBeGiven_24 : decode cX0_canBeGiven 24 = .ok (.invokestatic 53, 3) := by decide +kernel
theorem dX0_canBeGiven_27 : decode cX0_canBeGiven 27 = .ok (.ifCond .ne 5, 3) := by decide +kernel
theorem dX0_canBeGiven_30 : decode cX0_canBeGiven 30 = .ok (.iconst 0, 1) := by decide +kernel
theorem dX0_canBeGiven_31 : decode cX0_canBeGiven 31 = .ok (.ireturn, 1) := by decide +kernel
theorem dX0_canBeGiven_32 : decode cX0_canBeGiven 32 = .ok (.iload_n 2, 1) := by decide +kernel
theorem dX0_canBeGiven_33 : decode cX0_canBeGiven 33 = .ok (.iconst 1, 1) := by decide +kernel
theorem dX0_canBeGiven_34 : decode cX0_canBeGiven 34 = .ok (.if_icmp .eq 18, 3) := by decide +kernel
theorem dX0_canBeGiven_37 : decode cX0_canBeGiven 37 = .ok (.iload_n 3, 1) := by decide +kernel
theorem dX0_canBeGiven_38 : decode cX0_canBeGiven 38 = .ok (.iload 4, 2) := by decide +kernel
theorem dX0_canBeGiven_40 : decode cX0_canBeGiven 40 = .ok (.if_icmp .eq 12, 3) := by decide +kernel
theorem dX0_canBeGiven_43 : decode cX0_canBeGiven 43 = .ok (.iload_n 3, 1) := by decide +kernel
theorem dX0_canBeGiven_44 : decode cX0_canBeGiven 44 = .ok (.iload 4, 2) := by decide +kernel
theorem dX0_canBeGiven_46 : decode cX0_canBeGiven 46 = .ok (.invokestatic 53, 3) := by decide +kernel
theorem dX0_canBeGiven_49 : decode cX0_canBeGiven 49 = .ok (.ifCond .eq 7, 3) := by decide +kernel
theorem dX0_canBeGiven_52 : decode cX0_canBeGiven 52 = .ok (.iconst 1, 1) := by decide +kernel
theorem dX0_canBeGiven_53 : decode cX0_canBeGiven 53 = .ok (.goto 4, 3) := by decide +kernel
theorem dX0_canBeGiven_56 : decode cX0_canBeGiven 56 = .ok (.iconst 0, 1) := by decide +kernel
theorem dX0_canBeGiven_57 : decode cX0_canBeGiven 57 = .ok (.ireturn, 1) := by decide +kernel
set_option maxRecDepth 20000 in
theorem ggX0_give_X0_of : GoodIn wsX0_give wsX0_of := goodIn_r _ [5, 6, 11, 12, 13] (by decide +kernel) (by decide +kernel)
set_option maxRecDepth 20000 in
theorem gX0_give_X0_of : GoodIn wsX0_give (wsV RX0 41 RX0 yX0_of wsX0_of) := goodIn_app (goodIn_of _ (by decide +kernel)) ggX0_give_X0_of
set_option maxRecDepth 20000 in
theorem ggX0_give_X0_put : GoodIn wsX0_give wsX0_put := goodIn_r _ [10, 6, 11, 12, 13] (by decide +kernel) (by decide +kernel)
set_option maxRecDepth 20000 in
theorem gX0_give_X0_put : GoodIn wsX0_give (wsV RX0 45 RX0 yX0_put wsX0_put) := goodIn_app (goodIn_of _ (by decide +kernel)) ggX0_give_X0_put
theorem dX0_give_0 : decode cX0_give 0 = .ok (.aload_n 0, 1) := by decide +kernel
theorem dX0_give_1 : decode cX0_give 1 = .ok (.iload_n 1, 1) := by decide +kernel
theorem dX0_give_2 : decode cX0_give 2 = .ok (.iconst 2, 1) := by decide +kernel
theorem dX0_give_3 : decode cX0_give 3 = .ok (.invokevirtual 41, 3) := by decide +kernel
theorem dX0_give_6 : decode cX0_give 6 = .ok (.istore 5, 2) := by decide +kernel
theorem dX0_give_8 : decode cX0_give 8 = .ok (.aload_n 0, 1) := by decide +kernel
theorem dX0_give_9 : decode cX0_give 9 = .ok (.iload_n 1, 1) := by decide +kernel
theorem dX0_give_10 : decode cX0_give 10 = .ok (.iconst 2, 1) := by decide +kernel
theorem dX0_give_11 : decode cX0_give 11 = .ok (.iload_n 2, 1) := by decide +kernel
theorem dX0_give_12 : decode cX0_give 12 = .ok (.invokevirtual 45, 3) := by decide +kernel
theorem dX0_give_15 : decode cX0_give 15 = .ok (.aload_n 0, 1) := by decide +kernel
theorem dX0_give_16 : decode cX0_give 16 = .ok (.iload_n 1, 1) := by decide +kernel
theorem dX0_give_17 : decode cX0_give 17 = .ok (.iconst 3, 1) := by decide +kernel
theorem dX0_give_18 : decode cX0_give 18 = .ok (.iload_n 2, 1) := by decide +kernel
theorem dX0_give_19 : decode cX0_give 19 = .ok (.ifCond .ne 7, 3) := by decide +kernel
theorem dX0_give_22 : decode cX0_give 22 = .ok (.iconst (-1), 1) := by decide +kernel
theorem dX0_give_23 : decode cX0_give 23 = .ok (.goto 5, 3) := by decide +kernel
theorem dX0_give_26 : decode cX0_give 26 = .ok (.iload 4, 2) := by decide +kernel
theorem dX0_give_28 : decode cX0_give 28 = .ok (.invokevirtual 45, 3) := by decide +kernel
theorem dX0_give_31 : decode cX0_give 31 = .ok (.aload_n 0, 1) := by decide +kernel
theorem dX0_give_32 : decode cX0_give 32 = .ok (.iload_n 1, 1) := by decide +kernel
theorem dX0_give_33 : decode cX0_give 33 = .ok (.iconst 4, 1) := by decide +kernel
theorem dX0_give_34 : decode cX0_give 34 = .ok (.iload_n 2, 1) := by decide +kernel
theorem dX0_give_35 : decode cX0_give 35 = .ok (.iconst 2, 1) := by decide +kernel
theorem dX0_give_36 : decode cX0_give 36 = .ok (.if_icmp .ne 7, 3) := by decide +kernel
theorem dX0_give_39 : decode cX0_give 39 = .ok (.iload_n 3, 1) := by decide +kernel
theorem dX0_give_40 : decode cX0_give 40 = .ok (.goto 4, 3) := by decide +kernel
theorem dX0_give_43 : decode cX0_give 43 = .ok (.iconst (-1), 1) := by decide +kernel
theorem dX0_give_44 : decode cX0_give 44 = .ok (.invokevirtual 45, 3) := by decide +kernel
theorem dX0_give_47 : decode cX0_give 47 = .ok (.iload 5, 2) := by decide +kernel
theorem dX0_give_49 : decode cX0_give 49 = .ok (.ireturn, 1) := by decide +kernel
set_option maxRecDepth 20000 in
theorem ggX0_ordersOf_X0_number : GoodIn wsX0_ordersOf wsX0_number := goodIn_r _ [5, 6, 12, 13, 14] (by decide +kernel) (by decide +kernel)
set_option maxRecDepth 20000 in
theorem gX0_ordersOf_X0_number : GoodIn wsX0_ordersOf (wsV RX0 33 RX0 yX0_number wsX0_number) := goodIn_app (goodIn_of _ (by decide +kernel)) ggX0_ordersOf_X0_number
set_option maxRecDepth 20000 in
theorem ggX0_ordersOf_X0_of : GoodIn wsX0_ordersOf wsX0_of := goodIn_r _ [10, 11, 12, 13, 14] (by decide +kernel) (by decide +kernel)
set_option maxRecDepth 20000 in
theorem gX0_ordersOf_X0_of : GoodIn wsX0_ordersOf (wsV RX0 41 RX0 yX0_of wsX0_of) := goodIn_app (goodIn_of _ (by decide +kernel)) ggX0_ordersOf_X0_of
theorem dX0_ordersOf_0 : decode cX0_ordersOf 0 = .ok (.iconst 0, 1) := by decide +kernel
theorem dX0_ordersOf_1 : decode cX0_ordersOf 1 = .ok (.istore_n 2, 1) := by decide +kernel
theorem dX0_ordersOf_2 : decode cX0_ordersOf 2 = .ok (.iconst 0, 1) := by decide +kernel
theorem dX0_ordersOf_3 : decode cX0_ordersOf 3 = .ok (.istore_n 3, 1) := by decide +kernel
theorem dX0_ordersOf_4 : decode cX0_ordersOf 4 = .ok (.iload_n 3, 1) := by decide +kernel
theorem dX0_ordersOf_5 : decode cX0_ordersOf 5 = .ok (.aload_n 0, 1) := by decide +kernel
theorem dX0_ordersOf_6 : decode cX0_ordersOf 6 = .ok (.iconst 0, 1) := by decide +kernel
theorem dX0_ordersOf_7 : decode cX0_ordersOf 7 = .ok (.invokevirtual 33, 3) := by decide +kernel
theorem dX0_ordersOf_10 : decode cX0_ordersOf 10 = .ok (.if_icmp .ge 27, 3) := by decide +kernel
theorem dX0_ordersOf_13 : decode cX0_ordersOf 13 = .ok (.iload_n 2, 1) := by decide +kernel
theorem dX0_ordersOf_14 : decode cX0_ordersOf 14 = .ok (.aload_n 0, 1) := by decide +kernel
theorem dX0_ordersOf_15 : decode cX0_ordersOf 15 = .ok (.iload_n 3, 1) := by decide +kernel
theorem dX0_ordersOf_16 : decode cX0_ordersOf 16 = .ok (.iconst 2, 1) := by decide +kernel
theorem dX0_ordersOf_17 : decode cX0_ordersOf 17 = .ok (.invokevirtual 41, 3) := by decide +kernel
theorem dX0_ordersOf_20 : decode cX0_ordersOf 20 = .ok (.iload_n 1, 1) := by decide +kernel
theorem dX0_ordersOf_21 : decode cX0_ordersOf 21 = .ok (.if_icmp .ne 7, 3) := by decide +kernel
theorem dX0_ordersOf_24 : decode cX0_ordersOf 24 = .ok (.iconst 1, 1) := by decide +kernel
theorem dX0_ordersOf_25 : decode cX0_ordersOf 25 = .ok (.goto 4, 3) := by decide +kernel
theorem dX0_ordersOf_28 : decode cX0_ordersOf 28 = .ok (.iconst 0, 1) := by decide +kernel
theorem dX0_ordersOf_29 : decode cX0_ordersOf 29 = .ok (.iadd, 1) := by decide +kernel
theorem dX0_ordersOf_30 : decode cX0_ordersOf 30 = .ok (.istore_n 2, 1) := by decide +kernel
theorem dX0_ordersOf_31 : decode cX0_ordersOf 31 = .ok (.iinc 3 1, 3) := by decide +kernel
theorem dX0_ordersOf_34 : decode cX0_ordersOf 34 = .ok (.goto (-30), 3) := by decide +kernel
theorem dX0_ordersOf_37 : decode cX0_ordersOf 37 = .ok (.iload_n 2, 1) := by decide +kernel
theorem dX0_ordersOf_38 : decode cX0_ordersOf 38 = .ok (.ireturn, 1) := by decide +kernel
set_option maxRecDepth 20000 in
theorem ggX0_armiesOf_X0_number : GoodIn wsX0_armiesOf wsX0_number := goodIn_r _ [5, 6, 12, 13, 14] (by decide +kernel) (by decide +kernel)
set_option maxRecDepth 20000 in
theorem gX0_armiesOf_X0_number : GoodIn wsX0_armiesOf (wsV RX0 33 RX0 yX0_number wsX0_number) := goodIn_app (goodIn_of _ (by decide +kernel)) ggX0_armiesOf_X0_number
set_option maxRecDepth 20000 in
theorem ggX0_armiesOf_X0_of : GoodIn wsX0_armiesOf wsX0_of := goodIn_r _ [10, 11, 12, 13, 14] (by decide +kernel) (by decide +kernel)
set_option maxRecDepth 20000 in
theorem gX0_armiesOf_X0_of : GoodIn wsX0_armiesOf (wsV RX0 41 RX0 yX0_of wsX0_of) := goodIn_app (goodIn_of _ (by decide +kernel)) ggX0_armiesOf_X0_of
theorem dX0_armiesOf_0 : decode cX0_armiesOf 0 = .ok (.iconst 0, 1) := by decide +kernel
theorem dX0_armiesOf_1 : decode cX0_armiesOf 1 = .ok (.istore_n 2, 1) := by decide +kernel
theorem dX0_armiesOf_2 : decode cX0_armiesOf 2 = .ok (.iconst 0, 1) := by decide +kernel
theorem dX0_armiesOf_3 : decode cX0_armiesOf 3 = .ok (.istore_n 3, 1) := by decide +kernel
theorem dX0_armiesOf_4 : decode cX0_armiesOf 4 = .ok (.iload_n 3, 1) := by decide +kernel
theorem dX0_armiesOf_5 : decode cX0_armiesOf 5 = .ok (.aload_n 0, 1) := by decide +kernel
theorem dX0_armiesOf_6 : decode cX0_armiesOf 6 = .ok (.iconst 0, 1) := by decide +kernel
theorem dX0_armiesOf_7 : decode cX0_armiesOf 7 = .ok (.invokevirtual 33, 3) := by decide +kernel
theorem dX0_armiesOf_10 : decode cX0_armiesOf 10 = .ok (.if_icmp .ge 27, 3) := by decide +kernel
theorem dX0_armiesOf_13 : decode cX0_armiesOf 13 = .ok (.iload_n 2, 1) := by decide +kernel
theorem dX0_armiesOf_14 : decode cX0_armiesOf 14 = .ok (.aload_n 0, 1) := by decide +kernel
theorem dX0_armiesOf_15 : decode cX0_armiesOf 15 = .ok (.iload_n 3, 1) := by decide +kernel
theorem dX0_armiesOf_16 : decode cX0_armiesOf 16 = .ok (.iconst 0, 1) := by decide +kernel
theorem dX0_armiesOf_17 : decode cX0_armiesOf 17 = .ok (.invokevirtual 41, 3) := by decide +kernel
theorem dX0_armiesOf_20 : decode cX0_armiesOf 20 = .ok (.iload_n 1, 1) := by decide +kernel
theorem dX0_armiesOf_21 : decode cX0_armiesOf 21 = .ok (.if_icmp .ne 7, 3) := by decide +kernel
theorem dX0_armiesOf_24 : decode cX0_armiesOf 24 = .ok (.iconst 1, 1) := by decide +kernel
theorem dX0_armiesOf_25 : decode cX0_armiesOf 25 = .ok (.goto 4, 3) := by decide +kernel
theorem dX0_armiesOf_28 : decode cX0_armiesOf 28 = .ok (.iconst 0, 1) := by decide +kernel
theorem dX0_armiesOf_29 : decode cX0_armiesOf 29 = .ok (.iadd, 1) := by decide +kernel
theorem dX0_armiesOf_30 : decode cX0_armiesOf 30 = .ok (.istore_n 2, 1) := by decide +kernel
theorem dX0_armiesOf_31 : decode cX0_armiesOf 31 = .ok (.iinc 3 1, 3) := by decide +kernel
theorem dX0_armiesOf_34 : decode cX0_armiesOf 34 = .ok (.goto (-30), 3) := by decide +kernel
theorem dX0_armiesOf_37 : decode cX0_armiesOf 37 = .ok (.iload_n 2, 1) := by decide +kernel
theorem dX0_armiesOf_38 : decode cX0_armiesOf 38 = .ok (.ireturn, 1) := by decide +kernel
set_option maxRecDepth 20000 in
theorem ggX0_centresOf_X0_owner : GoodIn wsX0_centresOf wsX0_owner := goodIn_r _ [5, 6, 7, 8, 9] (by decide +kernel) (by decide +kernel)
set_option maxRecDepth 20000 in
theorem gX0_centresOf_X0_owner : GoodIn wsX0_centresOf (wsV RX0 57 RX0 yX0_owner wsX0_owner) := goodIn_app (goodIn_of _ (by decide +kernel)) ggX0_centresOf_X0_owner
theorem dX0_centresOf_0 : decode cX0_centresOf 0 = .ok (.iconst 0, 1) := by decide +kernel
theorem dX0_centresOf_1 : decode cX0_centresOf 1 = .ok (.istore_n 2, 1) := by decide +kernel
theorem dX0_centresOf_2 : decode cX0_centresOf 2 = .ok (.iconst 0, 1) := by decide +kernel
theorem dX0_centresOf_3 : decode cX0_centresOf 3 = .ok (.istore_n 3, 1) := by decide +kernel
theorem dX0_centresOf_4 : decode cX0_centresOf 4 = .ok (.iload_n 3, 1) := by decide +kernel
theorem dX0_centresOf_5 : decode cX0_centresOf 5 = .ok (.bipush 12, 2) := by decide +kernel
theorem dX0_centresOf_7 : decode cX0_centresOf 7 = .ok (.if_icmp .ge 26, 3) := by decide +kernel
theorem dX0_centresOf_10 : decode cX0_centresOf 10 = .ok (.iload_n 2, 1) := by decide +kernel
theorem dX0_centresOf_11 : decode cX0_centresOf 11 = .ok (.aload_n 0, 1) := by decide +kernel
theorem dX0_centresOf_12 : decode cX0_centresOf 12 = .ok (.iload_n 3, 1) := by decide +kernel
theorem dX0_centresOf_13 : decode cX0_centresOf 13 = .ok (.invokevirtual 57, 3) := by decide +kernel
theorem dX0_centresOf_16 : decode cX0_centresOf 16 = .ok (.iload_n 1, 1) := by decide +kernel
theorem dX0_centresOf_17 : decode cX0_centresOf 17 = .ok (.if_icmp .ne 7, 3) := by decide +kernel
theorem dX0_centresOf_20 : decode cX0_centresOf 20 = .ok (.iconst 1, 1) := by decide +kernel
theorem dX0_centresOf_21 : decode cX0_centresOf 21 = .ok (.goto 4, 3) := by decide +kernel
theorem dX0_centresOf_24 : decode cX0_centresOf 24 = .ok (.iconst 0, 1) := by decide +kernel
theorem dX0_centresOf_25 : decode cX0_centresOf 25 = .ok (.iadd, 1) := by decide +kernel
theorem dX0_centresOf_26 : decode cX0_centresOf 26 = .ok (.istore_n 2, 1) := by decide +kernel
theorem dX0_centresOf_27 : decode cX0_centresOf 27 = .ok (.iinc 3 1, 3) := by decide +kernel
theorem dX0_centresOf_30 : decode cX0_centresOf 30 = .ok (.goto (-26), 3) := by decide +kernel
theorem dX0_centresOf_33 : decode cX0_centresOf 33 = .ok (.iload_n 2, 1) := by decide +kernel
theorem dX0_centresOf_34 : decode cX0_centresOf 34 = .ok (.ireturn, 1) := by decide +kernel
set_option maxRecDepth 20000 in
theorem ggX0_seenMask_X0_number : GoodIn wsX0_seenMask wsX0_number := goodIn_r _ [5, 6, 18, 19, 20] (by decide +kernel) (by decide +kernel)
set_option maxRecDepth 20000 in
theorem gX0_seenMask_X0_number : GoodIn wsX0_seenMask (wsV RX0 33 RX0 yX0_number wsX0_number) := goodIn_app (goodIn_of _ (by decide +kernel)) ggX0_seenMask_X0_number
set_option maxRecDepth 20000 in
theorem ggX0_seenMask_X0_of : GoodIn wsX0_seenMask wsX0_of := goodIn_r _ [10, 11, 18, 19, 20] (by decide +kernel) (by decide +kernel)
set_option maxRecDepth 20000 in
theorem gX0_seenMask_X0_of : GoodIn wsX0_seenMask (wsV RX0 41 RX0 yX0_of wsX0_of) := goodIn_app (goodIn_of _ (by decide +kernel)) ggX0_seenMask_X0_of
set_option maxRecDepth 20000 in
theorem ggX0_seenMask_X4_neighbourMask : GoodIn wsX0_seenMask wsX4_neighbourMask := goodIn_r _ [14, 15, 16, 13, 17] (by decide +kernel) (by decide +kernel)
set_option maxRecDepth 20000 in
theorem gX0_seenMask_X4_neighbourMask_n60 : GoodIn wsX0_seenMask (wsX4_neighbourMask) := ggX0_seenMask_X4_neighbourMask
theorem dX0_seenMask_0 : decode cX0_seenMask 0 = .ok (.iconst 0, 1) := by decide +kernel
theorem dX0_seenMask_1 : decode cX0_seenMask 1 = .ok (.istore_n 2, 1) := by decide +kernel
theorem dX0_seenMask_2 : decode cX0_seenMask 2 = .ok (.iconst 0, 1) := by decide +kernel
theorem dX0_seenMask_3 : decode cX0_seenMask 3 = .ok (.istore_n 3, 1) := by decide +kernel
theorem dX0_seenMask_4 : decode cX0_seenMask 4 = .ok (.iload_n 3, 1) := by decide +kernel
theorem dX0_seenMask_5 : decode cX0_seenMask 5 = .ok (.aload_n 0, 1) := by decide +kernel
theorem dX0_seenMask_6 : decode cX0_seenMask 6 = .ok (.iconst 0, 1) := by decide +kernel
theorem dX0_seenMask_7 : decode cX0_seenMask 7 = .ok (.invokevirtual 33, 3) := by decide +kernel
theorem dX0_seenMask_10 : decode cX0_seenMask 10 = .ok (.if_icmp .ge 40, 3) := by decide +kernel
theorem dX0_seenMask_13 : decode cX0_seenMask 13 = .ok (.aload_n 0, 1) := by decide +kernel
theorem dX0_seenMask_14 : decode cX0_seenMask 14 = .ok (.iload_n 3, 1) := by decide +kernel
theorem dX0_seenMask_15 : decode cX0_seenMask 15 = .ok (.iconst 0, 1) := by decide +kernel
theorem dX0_seenMask_16 : decode cX0_seenMask 16 = .ok (.invokevirtual 41, 3) := by decide +kernel
theorem dX0_seenMask_19 : decode cX0_seenMask 19 = .ok (.iload_n 1, 1) := by decide +kernel
theorem dX0_seenMask_20 : decode cX0_seenMask 20 = .ok (.if_icmp .ne 24, 3) := by decide +kernel
theorem dX0_seenMask_23 : decode cX0_seenMask 23 = .ok (.iload_n 2, 1) := by decide +kernel
theorem dX0_seenMask_24 : decode cX0_seenMask 24 = .ok (.iconst 1, 1) := by decide +kernel
theorem dX0_seenMask_25 : decode cX0_seenMask 25 = .ok (.aload_n 0, 1) := by decide +kernel
theorem dX0_seenMask_26 : decode cX0_seenMask 26 = .ok (.iload_n 3, 1) := by decide +kernel
theorem dX0_seenMask_27 : decode cX0_seenMask 27 = .ok (.iconst 1, 1) := by decide +kernel
theorem dX0_seenMask_28 : decode cX0_seenMask 28 = .ok (.invokevirtual 41, 3) := by decide +kernel
theorem dX0_seenMask_31 : decode cX0_seenMask 31 = .ok (.ishl, 1) := by decide +kernel
theorem dX0_seenMask_32 : decode cX0_seenMask 32 = .ok (.aload_n 0, 1) := by decide +kernel
theorem dX0_seenMask_33 : decode cX0_seenMask 33 = .ok (.iload_n 3, 1) := by decide +kernel
theorem dX0_seenMask_34 : decode cX0_seenMask 34 = .ok (.iconst 1, 1) := by decide +kernel
theorem dX0_seenMask_35 : decode cX0_seenMask 35 = .ok (.invokevirtual 41, 3) := by decide +kernel
theorem dX0_seenMask_38 : decode cX0_seenMask 38 = .ok (.invokestatic 60, 3) := by decide +kernel
theorem dX0_seenMask_41 : decode cX0_seenMask 41 = .ok (.ior, 1) := by decide +kernel
theorem dX0_seenMask_42 : decode cX0_seenMask 42 = .ok (.ior, 1) := by decide +kernel
theorem dX0_seenMask_43 : decode cX0_seenMask 43 = .ok (.istore_n 2, 1) := by decide +kernel
theorem dX0_seenMask_44 : decode cX0_seenMask 44 = .ok (.iinc 3 1, 3) := by decide +kernel
theorem dX0_seenMask_47 : decode cX0_seenMask 47 = .ok (.goto (-43), 3) := by decide +kernel
theorem dX0_seenMask_50 : decode cX0_seenMask 50 = .ok (.iload_n 2, 1) := by decide +kernel
theorem dX0_seenMask_51 : decode cX0_seenMask 51 = .ok (.ireturn, 1) := by decide +kernel
set_option maxRecDepth 20000 in
theorem ggX0_seatsSeeing_X0_number : GoodIn wsX0_seatsSeeing wsX0_number := goodIn_r _ [5, 6, 15, 16, 17] (by decide +kernel) (by decide +kernel)
set_option maxRecDepth 20000 in
theorem gX0_seatsSeeing_X0_number : GoodIn wsX0_seatsSeeing (wsV RX0 33 RX0 yX0_number wsX0_number) := goodIn_app (goodIn_of _ (by decide +kernel)) ggX0_seatsSeeing_X0_number
set_option maxRecDepth 20000 in
theorem ggX0_seatsSeeing_X0_of : GoodIn wsX0_seatsSeeing wsX0_of := goodIn_r _ [10, 11, 15, 16, 17] (by decide +kernel) (by decide +kernel)
set_option maxRecDepth 20000 in
theorem gX0_seatsSeeing_X0_of : GoodIn wsX0_seatsSeeing (wsV RX0 41 RX0 yX0_of wsX0_of) := goodIn_app (goodIn_of _ (by decide +kernel)) ggX0_seatsSeeing_X0_of
set_option maxRecDepth 20000 in
theorem ggX0_seatsSeeing_X4_areNeighbours : GoodIn wsX0_seatsSeeing wsX4_areNeighbours := goodIn_r _ [14] (by decide +kernel) (by decide +kernel)
set_option maxRecDepth 20000 in
theorem gX0_seatsSeeing_X4_areNeighbours_n53 : GoodIn wsX0_seatsSeeing (wsX4_areNeighbours) := ggX0_seatsSeeing_X4_areNeighbours
theorem dX0_seatsSeeing_0 : decode cX0_seatsSeeing 0 = .ok (.iconst 0, 1) := by decide +kernel
theorem dX0_seatsSeeing_1 : decode cX0_seatsSeeing 1 = .ok (.istore_n 2, 1) := by decide +kernel
theorem dX0_seatsSeeing_2 : decode cX0_seatsSeeing 2 = .ok (.iconst 0, 1) := by decide +kernel
theorem dX0_seatsSeeing_3 : decode cX0_seatsSeeing 3 = .ok (.istore_n 3, 1) := by decide +kernel
theorem dX0_seatsSeeing_4 : decode cX0_seatsSeeing 4 = .ok (.iload_n 3, 1) := by decide +kernel
theorem dX0_seatsSeeing_5 : decode cX0_seatsSeeing 5 = .ok (.aload_n 0, 1) := by decide +kernel
theorem dX0_seatsSeeing_6 : decode cX0_seatsSeeing 6 = .ok (.iconst 0, 1) := by decide +kernel
theorem dX0_seatsSeeing_7 : decode cX0_seatsSeeing 7 = .ok (.invokevirtual 33, 3) := by decide +kernel
theorem dX0_seatsSeeing_10 : decode cX0_seatsSeeing 10 = .ok (.if_icmp .ge 59, 3) := by decide +kernel
theorem dX0_seatsSeeing_13 : decode cX0_seatsSeeing 13 = .ok (.aload_n 0, 1) := by decide +kernel
theorem dX0_seatsSeeing_14 : decode cX0_seatsSeeing 14 = .ok (.iload_n 3, 1) := by decide +kernel
theorem dX0_seatsSeeing_15 : decode cX0_seatsSeeing 15 = .ok (.iconst 1, 1) := by decide +kernel
theorem dX0_seatsSeeing_16 : decode cX0_seatsSeeing 16 = .ok (.invokevirtual 41, 3) := by decide +kernel
theorem dX0_seatsSeeing_19 : decode cX0_seatsSeeing 19 = .ok (.iload_n 1, 1) := by decide +kernel
theorem dX0_seatsSeeing_20 : decode cX0_seatsSeeing 20 = .ok (.if_icmp .eq 16, 3) := by decide +kernel
theorem dX0_seatsSeeing_23 : decode cX0_seatsSeeing 23 = .ok (.aload_n 0, 1) := by decide +kernel
theorem dX0_seatsSeeing_24 : decode cX0_seatsSeeing 24 = .ok (.iload_n 3, 1) := by decide +kernel
theorem dX0_seatsSeeing_25 : decode cX0_seatsSeeing 25 = .ok (.iconst 1, 1) := by decide +kernel
theorem dX0_seatsSeeing_26 : decode cX0_seatsSeeing 26 = .ok (.invokevirtual 41, 3) := by decide +kernel
theorem dX0_seatsSeeing_29 : decode cX0_seatsSeeing 29 = .ok (.iload_n 1, 1) := by decide +kernel
theorem dX0_seatsSeeing_30 : decode cX0_seatsSeeing 30 = .ok (.invokestatic 53, 3) := by decide +kernel
theorem dX0_seatsSeeing_33 : decode cX0_seatsSeeing 33 = .ok (.ifCond .eq 7, 3) := by decide +kernel
theorem dX0_seatsSeeing_36 : decode cX0_seatsSeeing 36 = .ok (.iconst 1, 1) := by decide +kernel
theorem dX0_seatsSeeing_37 : decode cX0_seatsSeeing 37 = .ok (.goto 4, 3) := by decide +kernel
theorem dX0_seatsSeeing_40 : decode cX0_seatsSeeing 40 = .ok (.iconst 0, 1) := by decide +kernel
theorem dX0_seatsSeeing_41 : decode cX0_seatsSeeing 41 = .ok (.istore 4, 2) := by decide +kernel
theorem dX0_seatsSeeing_43 : decode cX0_seatsSeeing 43 = .ok (.iload_n 2, 1) := by decide +kernel
theorem dX0_seatsSeeing_44 : decode cX0_seatsSeeing 44 = .ok (.iload 4, 2) := by decide +kernel
theorem dX0_seatsSeeing_46 : decode cX0_seatsSeeing 46 = .ok (.ifCond .eq 14, 3) := by decide +kernel
theorem dX0_seatsSeeing_49 : decode cX0_seatsSeeing 49 = .ok (.iconst 1, 1) := by decide +kernel
theorem dX0_seatsSeeing_50 : decode cX0_seatsSeeing 50 = .ok (.aload_n 0, 1) := by decide +kernel
theorem dX0_seatsSeeing_51 : decode cX0_seatsSeeing 51 = .ok (.iload_n 3, 1) := by decide +kernel
theorem dX0_seatsSeeing_52 : decode cX0_seatsSeeing 52 = .ok (.iconst 0, 1) := by decide +kernel
theorem dX0_seatsSeeing_53 : decode cX0_seatsSeeing 53 = .ok (.invokevirtual 41, 3) := by decide +kernel
theorem dX0_seatsSeeing_56 : decode cX0_seatsSeeing 56 = .ok (.ishl, 1) := by decide +kernel
theorem dX0_seatsSeeing_57 : decode cX0_seatsSeeing 57 = .ok (.goto 4, 3) := by decide +kernel
theorem dX0_seatsSeeing_60 : decode cX0_seatsSeeing 60 = .ok (.iconst 0, 1) := by decide +kernel
theorem dX0_seatsSeeing_61 : decode cX0_seatsSeeing 61 = .ok (.ior, 1) := by decide +kernel
theorem dX0_seatsSeeing_62 : decode cX0_seatsSeeing 62 = .ok (.istore_n 2, 1) := by decide +kernel
theorem dX0_seatsSeeing_63 : decode cX0_seatsSeeing 63 = .ok (.iinc 3 1, 3) := by decide +kernel
theorem dX0_seatsSeeing_66 : decode cX0_seatsSeeing 66 = .ok (.goto (-62), 3) := by decide +kernel
theorem dX0_seatsSeeing_69 : decode cX0_seatsSeeing 69 = .ok (.iload_n 2, 1) := by decide +kernel
theorem dX0_seatsSeeing_70 : decode cX0_seatsSeeing 70 = .ok (.ireturn, 1) := by decide +kernel
set_option maxRecDepth 20000 in
theorem ggX0_lowestFieldOf_X0_number : GoodIn wsX0_lowestFieldOf wsX0_number := goodIn_r _ [5, 6, 12, 13, 14] (by decide +kernel) (by decide +kernel)
set_option maxRecDepth 20000 in
theorem gX0_lowestFieldOf_X0_number : GoodIn wsX0_lowestFieldOf (wsV RX0 33 RX0 yX0_number wsX0_number) := goodIn_app (goodIn_of _ (by decide +kernel)) ggX0_lowestFieldOf_X0_number
set_option maxRecDepth 20000 in
theorem ggX0_lowestFieldOf_X0_of : GoodIn wsX0_lowestFieldOf wsX0_of := goodIn_r _ [10, 11, 12, 13, 14] (by decide +kernel) (by decide +kernel)
set_option maxRecDepth 20000 in
theorem gX0_lowestFieldOf_X0_of : GoodIn wsX0_lowestFieldOf (wsV RX0 41 RX0 yX0_of wsX0_of) := goodIn_app (goodIn_of _ (by decide +kernel)) ggX0_lowestFieldOf_X0_of
theorem dX0_lowestFieldOf_0 : decode cX0_lowestFieldOf 0 = .ok (.iconst (-1), 1) := by decide +kernel
theorem dX0_lowestFieldOf_1 : decode cX0_lowestFieldOf 1 = .ok (.istore_n 2, 1) := by decide +kernel
theorem dX0_lowestFieldOf_2 : decode cX0_lowestFieldOf 2 = .ok (.iconst 0, 1) := by decide +kernel
theorem dX0_lowestFieldOf_3 : decode cX0_lowestFieldOf 3 = .ok (.istore_n 3, 1) := by decide +kernel
theorem dX0_lowestFieldOf_4 : decode cX0_lowestFieldOf 4 = .ok (.iload_n 3, 1) := by decide +kernel
theorem dX0_lowestFieldOf_5 : decode cX0_lowestFieldOf 5 = .ok (.aload_n 0, 1) := by decide +kernel
theorem dX0_lowestFieldOf_6 : decode cX0_lowestFieldOf 6 = .ok (.iconst 0, 1) := by decide +kernel
theorem dX0_lowestFieldOf_7 : decode cX0_lowestFieldOf 7 = .ok (.invokevirtual 33, 3) := by decide +kernel
theorem dX0_lowestFieldOf_10 : decode cX0_lowestFieldOf 10 = .ok (.if_icmp .ge 41, 3) := by decide +kernel
theorem dX0_lowestFieldOf_13 : decode cX0_lowestFieldOf 13 = .ok (.aload_n 0, 1) := by decide +kernel
theorem dX0_lowestFieldOf_14 : decode cX0_lowestFieldOf 14 = .ok (.iload_n 3, 1) := by decide +kernel
theorem dX0_lowestFieldOf_15 : decode cX0_lowestFieldOf 15 = .ok (.iconst 1, 1) := by decide +kernel
theorem dX0_lowestFieldOf_16 : decode cX0_lowestFieldOf 16 = .ok (.invokevirtual 41, 3) := by decide +kernel
theorem dX0_lowestFieldOf_19 : decode cX0_lowestFieldOf 19 = .ok (.istore 4, 2) := by decide +kernel
theorem dX0_lowestFieldOf_21 : decode cX0_lowestFieldOf 21 = .ok (.aload_n 0, 1) := by decide +kernel
theorem dX0_lowestFieldOf_22 : decode cX0_lowestFieldOf 22 = .ok (.iload_n 3, 1) := by decide +kernel
theorem dX0_lowestFieldOf_23 : decode cX0_lowestFieldOf 23 = .ok (.iconst 0, 1) := by decide +kernel
theorem dX0_lowestFieldOf_24 : decode cX0_lowestFieldOf 24 = .ok (.invokevirtual 41, 3) := by decide +kernel
theorem dX0_lowestFieldOf_27 : decode cX0_lowestFieldOf 27 = .ok (.iload_n 1, 1) := by decide +kernel
theorem dX0_lowestFieldOf_28 : decode cX0_lowestFieldOf 28 = .ok (.if_icmp .ne 17, 3) := by decide +kernel
theorem dX0_lowestFieldOf_31 : decode cX0_lowestFieldOf 31 = .ok (.iload_n 2, 1) := by decide +kernel
theorem dX0_lowestFieldOf_32 : decode cX0_lowestFieldOf 32 = .ok (.iconst (-1), 1) := by decide +kernel
theorem dX0_lowestFieldOf_33 : decode cX0_lowestFieldOf 33 = .ok (.if_icmp .eq 9, 3) := by decide +kernel
theorem dX0_lowestFieldOf_36 : decode cX0_lowestFieldOf 36 = .ok (.iload 4, 2) := by decide +kernel
theorem dX0_lowestFieldOf_38 : decode cX0_lowestFieldOf 38 = .ok (.iload_n 2, 1) := by decide +kernel
theorem dX0_lowestFieldOf_39 : decode cX0_lowestFieldOf 39 = .ok (.if_icmp .ge 6, 3) := by decide +kernel
theorem dX0_lowestFieldOf_42 : decode cX0_lowestFieldOf 42 = .ok (.iload 4, 2) := by decide +kernel
theorem dX0_lowestFieldOf_44 : decode cX0_lowestFieldOf 44 = .ok (.istore_n 2, 1) := by decide +kernel
theorem dX0_lowestFieldOf_45 : decode cX0_lowestFieldOf 45 = .ok (.iinc 3 1, 3) := by decide +kernel
theorem dX0_lowestFieldOf_48 : decode cX0_lowestFieldOf 48 = .ok (.goto (-44), 3) := by decide +kernel
theorem dX0_lowestFieldOf_51 : decode cX0_lowestFieldOf 51 = .ok (.iload_n 2, 1) := by decide +kernel
theorem dX0_lowestFieldOf_52 : decode cX0_lowestFieldOf 52 = .ok (.ireturn, 1) := by decide +kernel
set_option maxRecDepth 20000 in
theorem ggX0_othersSeen_X0_seenMask : GoodIn wsX0_othersSeen wsX0_seenMask := goodIn_r _ [5, 6, 7, 8, 4, 9, 10, 11, 12, 13, 14, 15, 16, 17, 18, 19, 20, 21, 22, 23, 24] (by decide +kernel) (by decide +kernel)
set_option maxRecDepth 20000 in
theorem gX0_othersSeen_X0_seenMask : GoodIn wsX0_othersSeen (wsV RX0 63 RX0 yX0_seenMask wsX0_seenMask) := goodIn_app (goodIn_of _ (by decide +kernel)) ggX0_othersSeen_X0_seenMask
set_option maxRecDepth 20000 in
theorem ggX0_othersSeen_X0_number : GoodIn wsX0_othersSeen wsX0_number := goodIn_r _ [9, 10, 22, 23, 24] (by decide +kernel) (by decide +kernel)
set_option maxRecDepth 20000 in
theorem gX0_othersSeen_X0_number : GoodIn wsX0_othersSeen (wsV RX0 33 RX0 yX0_number wsX0_number) := goodIn_app (goodIn_of _ (by decide +kernel)) ggX0_othersSeen_X0_number
set_option maxRecDepth 20000 in
theorem ggX0_othersSeen_X0_of : GoodIn wsX0_othersSeen wsX0_of := goodIn_r _ [14, 15, 22, 23, 24] (by decide +kernel) (by decide +kernel)
set_option maxRecDepth 20000 in
theorem gX0_othersSeen_X0_of : GoodIn wsX0_othersSeen (wsV RX0 41 RX0 yX0_of wsX0_of) := goodIn_app (goodIn_of _ (by decide +kernel)) ggX0_othersSeen_X0_of
theorem dX0_othersSeen_0 : decode cX0_othersSeen 0 = .ok (.aload_n 0, 1) := by decide +kernel
theorem dX0_othersSeen_1 : decode cX0_othersSeen 1 = .ok (.iload_n 1, 1) := by decide +kernel
theorem dX0_othersSeen_2 : decode cX0_othersSeen 2 = .ok (.invokevirtual 63, 3) := by decide +kernel
theorem dX0_othersSeen_5 : decode cX0_othersSeen 5 = .ok (.istore_n 2, 1) := by decide +kernel
theorem dX0_othersSeen_6 : decode cX0_othersSeen 6 = .ok (.iconst 0, 1) := by decide +kernel
theorem dX0_othersSeen_7 : decode cX0_othersSeen 7 = .ok (.istore_n 3, 1) := by decide +kernel
theorem dX0_othersSeen_8 : decode cX0_othersSeen 8 = .ok (.iconst 0, 1) := by decide +kernel
theorem dX0_othersSeen_9 : decode cX0_othersSeen 9 = .ok (.istore 4, 2) := by decide +kernel
theorem dX0_othersSeen_11 : decode cX0_othersSeen 11 = .ok (.iload 4, 2) := by decide +kernel
theorem dX0_othersSeen_13 : decode cX0_othersSeen 13 = .ok (.aload_n 0, 1) := by decide +kernel
theorem dX0_othersSeen_14 : decode cX0_othersSeen 14 = .ok (.iconst 0, 1) := by decide +kernel
theorem dX0_othersSeen_15 : decode cX0_othersSeen 15 = .ok (.invokevirtual 33, 3) := by decide +kernel
theorem dX0_othersSeen_18 : decode cX0_othersSeen 18 = .ok (.if_icmp .ge 50, 3) := by decide +kernel
theorem dX0_othersSeen_21 : decode cX0_othersSeen 21 = .ok (.aload_n 0, 1) := by decide +kernel
theorem dX0_othersSeen_22 : decode cX0_othersSeen 22 = .ok (.iload 4, 2) := by decide +kernel
theorem dX0_othersSeen_24 : decode cX0_othersSeen 24 = .ok (.iconst 0, 1) := by decide +kernel
theorem dX0_othersSeen_25 : decode cX0_othersSeen 25 = .ok (.invokevirtual 41, 3) := by decide +kernel
theorem dX0_othersSeen_28 : decode cX0_othersSeen 28 = .ok (.iload_n 1, 1) := by decide +kernel
theorem dX0_othersSeen_29 : decode cX0_othersSeen 29 = .ok (.if_icmp .eq 7, 3) := by decide +kernel
theorem dX0_othersSeen_32 : decode cX0_othersSeen 32 = .ok (.iconst 1, 1) := by decide +kernel
theorem dX0_othersSeen_33 : decode cX0_othersSeen 33 = .ok (.goto 4, 3) := by decide +kernel
theorem dX0_othersSeen_36 : decode cX0_othersSeen 36 = .ok (.iconst 0, 1) := by decide +kernel
theorem dX0_othersSeen_37 : decode cX0_othersSeen 37 = .ok (.istore 5, 2) := by decide +kernel
theorem dX0_othersSeen_39 : decode cX0_othersSeen 39 = .ok (.iload_n 3, 1) := by decide +kernel
theorem dX0_othersSeen_40 : decode cX0_othersSeen 40 = .ok (.iload 5, 2) := by decide +kernel
theorem dX0_othersSeen_42 : decode cX0_othersSeen 42 = .ok (.ifCond .eq 17, 3) := by decide +kernel
theorem dX0_othersSeen_45 : decode cX0_othersSeen 45 = .ok (.iload_n 2, 1) := by decide +kernel
theorem dX0_othersSeen_46 : decode cX0_othersSeen 46 = .ok (.aload_n 0, 1) := by decide +kernel
theorem dX0_othersSeen_47 : decode cX0_othersSeen 47 = .ok (.iload 4, 2) := by decide +kernel
theorem dX0_othersSeen_49 : decode cX0_othersSeen 49 = .ok (.iconst 1, 1) := by decide +kernel
theorem dX0_othersSeen_50 : decode cX0_othersSeen 50 = .ok (.invokevirtual 41, 3) := by decide +kernel
theorem dX0_othersSeen_53 : decode cX0_othersSeen 53 = .ok (.ishr, 1) := by decide +kernel
theorem dX0_othersSeen_54 : decode cX0_othersSeen 54 = .ok (.iconst 1, 1) := by decide +kernel
theorem dX0_othersSeen_55 : decode cX0_othersSeen 55 = .ok (.iand, 1) := by decide +kernel
theorem dX0_othersSeen_56 : decode cX0_othersSeen 56 = .ok (.goto 4, 3) := by decide +kernel
theorem dX0_othersSeen_59 : decode cX0_othersSeen 59 = .ok (.iconst 0, 1) := by decide +kernel
theorem dX0_othersSeen_60 : decode cX0_othersSeen 60 = .ok (.iadd, 1) := by decide +kernel
theorem dX0_othersSeen_61 : decode cX0_othersSeen 61 = .ok (.istore_n 3, 1) := by decide +kernel
theorem dX0_othersSeen_62 : decode cX0_othersSeen 62 = .ok (.iinc 4 1, 3) := by decide +kernel
theorem dX0_othersSeen_65 : decode cX0_othersSeen 65 = .ok (.goto (-54), 3) := by decide +kernel
theorem dX0_othersSeen_68 : decode cX0_othersSeen 68 = .ok (.iload_n 3, 1) := by decide +kernel
theorem dX0_othersSeen_69 : decode cX0_othersSeen 69 = .ok (.ireturn, 1) := by decide +kernel
set_option maxRecDepth 20000 in
theorem ggX0_beginNextSeason_X0_number : GoodIn wsX0_beginNextSeason wsX0_number := goodIn_r _ [6, 1, 66, 67, 68] (by decide +kernel) (by decide +kernel)
set_option maxRecDepth 20000 in
theorem gX0_beginNextSeason_X0_number : GoodIn wsX0_beginNextSeason (wsV RX0 33 RX0 yX0_number wsX0_number) := goodIn_app (goodIn_of _ (by decide +kernel)) ggX0_beginNextSeason_X0_number
set_option maxRecDepth 20000 in
theorem ggX0_beginNextSeason_X4_enter : GoodIn wsX0_beginNextSeason wsX4_enter := goodIn_r _ [9] (by decide +kernel) (by decide +kernel)
set_option maxRecDepth 20000 in
theorem gX0_beginNextSeason_X4_enter_n37 : GoodIn wsX0_beginNextSeason (wsX4_enter) := ggX0_beginNextSeason_X4_enter
set_option maxRecDepth 20000 in
theorem ggX0_beginNextSeason_X0_endYear : GoodIn wsX0_beginNextSeason wsX0_endYear := goodIn_r _ [13, 14, 15, 16, 5, 17, 18, 2, 3, 4, 6, 1, 19, 20, 21, 22, 23, 24, 8, 25, 7, 9, 26, 27, 28, 29, 30, 31, 32, 33, 34, 35, 36, 37, 38, 39, 40, 41, 42, 43, 44, 45, 46, 47, 48, 49, 50, 51, 52, 53, 54, 55, 56, 57, 58, 59, 60, 61, 62, 63, 64, 65, 66, 67, 68] (by decide +kernel) (by decide +kernel)
set_option maxRecDepth 20000 in
theorem gX0_beginNextSeason_X0_endYear : GoodIn wsX0_beginNextSeason (wsV RX0 66 RX0 yX0_endYear wsX0_endYear) := goodIn_app (goodIn_of _ (by decide +kernel)) ggX0_beginNextSeason_X0_endYear
set_option maxRecDepth 20000 in
theorem ggX0_beginNextSeason_X0_countOne : GoodIn wsX0_beginNextSeason wsX0_countOne := goodIn_r _ [53, 1, 2, 3, 4, 5, 6, 7, 8, 9, 66, 67, 68] (by decide +kernel) (by decide +kernel)
set_option maxRecDepth 20000 in
theorem gX0_beginNextSeason_X0_countOne : GoodIn wsX0_beginNextSeason (wsV RX0 69 RX0 yX0_countOne wsX0_countOne) := goodIn_app (goodIn_of _ (by decide +kernel)) ggX0_beginNextSeason_X0_countOne
theorem dX0_beginNextSeason_0 : decode cX0_beginNextSeason 0 = .ok (.aload_n 0, 1) := by decide +kernel
theorem dX0_beginNextSeason_1 : decode cX0_beginNextSeason 1 = .ok (.iconst 2, 1) := by decide +kernel
theorem dX0_beginNextSeason_2 : decode cX0_beginNextSeason 2 = .ok (.invokevirtual 33, 3) := by decide +kernel
theorem dX0_beginNextSeason_5 : decode cX0_beginNextSeason 5 = .ok (.ifCond .ne 13, 3) := by decide +kernel
theorem dX0_beginNextSeason_8 : decode cX0_beginNextSeason 8 = .ok (.aload_n 0, 1) := by decide +kernel
theorem dX0_beginNextSeason_9 : decode cX0_beginNextSeason 9 = .ok (.getfield 9, 3) := by decide +kernel
theorem dX0_beginNextSeason_12 : decode cX0_beginNextSeason 12 = .ok (.iconst 2, 1) := by decide +kernel
theorem dX0_beginNextSeason_13 : decode cX0_beginNextSeason 13 = .ok (.iconst 1, 1) := by decide +kernel
theorem dX0_beginNextSeason_14 : decode cX0_beginNextSeason 14 = .ok (.invokestatic 37, 3) := by decide +kernel
theorem dX0_beginNextSeason_17 : decode cX0_beginNextSeason 17 = .ok (.return_, 1) := by decide +kernel
theorem dX0_beginNextSeason_18 : decode cX0_beginNextSeason 18 = .ok (.aload_n 0, 1) := by decide +kernel
theorem dX0_beginNextSeason_19 : decode cX0_beginNextSeason 19 = .ok (.invokevirtual 66, 3) := by decide +kernel
theorem dX0_beginNextSeason_22 : decode cX0_beginNextSeason 22 = .ok (.aload_n 0, 1) := by decide +kernel
theorem dX0_beginNextSeason_23 : decode cX0_beginNextSeason 23 = .ok (.getfield 9, 3) := by decide +kernel
theorem dX0_beginNextSeason_26 : decode cX0_beginNextSeason 26 = .ok (.iconst 2, 1) := by decide +kernel
theorem dX0_beginNextSeason_27 : decode cX0_beginNextSeason 27 = .ok (.iconst 0, 1) := by decide +kernel
theorem dX0_beginNextSeason_28 : decode cX0_beginNextSeason 28 = .ok (.invokestatic 37, 3) := by decide +kernel
theorem dX0_beginNextSeason_31 : decode cX0_beginNextSeason 31 = .ok (.aload_n 0, 1) := by decide +kernel
theorem dX0_beginNextSeason_32 : decode cX0_beginNextSeason 32 = .ok (.iconst 1, 1) := by decide +kernel
theorem dX0_beginNextSeason_33 : decode cX0_beginNextSeason 33 = .ok (.invokevirtual 69, 3) := by decide +kernel
theorem dX0_beginNextSeason_36 : decode cX0_beginNextSeason 36 = .ok (.return_, 1) := by decide +kernel
set_option maxRecDepth 20000 in
theorem ggX0_endYear_X0_claimCentres : GoodIn wsX0_endYear wsX0_claimCentres := goodIn_r _ [5, 6, 7, 8, 9, 4, 10, 11, 12, 13, 14, 15, 16, 17, 18, 19, 20, 21, 62, 63, 64] (by decide +kernel) (by decide +kernel)
set_option maxRecDepth 20000 in
theorem gX0_endYear_X0_claimCentres : GoodIn wsX0_endYear (wsV RX0 73 RX0 yX0_claimCentres wsX0_claimCentres) := goodIn_app (goodIn_of _ (by decide +kernel)) ggX0_endYear_X0_claimCentres
set_option maxRecDepth 20000 in
theorem ggX0_endYear_X0_centresOf : GoodIn wsX0_endYear wsX0_centresOf := goodIn_r _ [25, 26, 27, 28, 4, 29, 6, 62, 63, 64] (by decide +kernel) (by decide +kernel)
set_option maxRecDepth 20000 in
theorem gX0_endYear_X0_centresOf : GoodIn wsX0_endYear (wsV RX0 76 RX0 yX0_centresOf wsX0_centresOf) := goodIn_app (goodIn_of _ (by decide +kernel)) ggX0_endYear_X0_centresOf
set_option maxRecDepth 20000 in
theorem ggX0_endYear_X0_armiesOf : GoodIn wsX0_endYear wsX0_armiesOf := goodIn_r _ [33, 7, 8, 9, 4, 10, 11, 12, 13, 14, 15, 16, 62, 63, 64] (by decide +kernel) (by decide +kernel)
set_option maxRecDepth 20000 in
theorem gX0_endYear_X0_armiesOf : GoodIn wsX0_endYear (wsV RX0 79 RX0 yX0_armiesOf wsX0_armiesOf) := goodIn_app (goodIn_of _ (by decide +kernel)) ggX0_endYear_X0_armiesOf
set_option maxRecDepth 20000 in
theorem ggX0_endYear_X0_takeOff : GoodIn wsX0_endYear wsX0_takeOff := goodIn_r _ [37, 7, 8, 9, 4, 10, 11, 12, 13, 14, 15, 16, 38, 39, 40, 41, 42, 43, 44, 45, 20, 18, 21, 46, 47, 48, 49, 62, 63, 64] (by decide +kernel) (by decide +kernel)
set_option maxRecDepth 20000 in
theorem gX0_endYear_X0_takeOff : GoodIn wsX0_endYear (wsV RX0 82 RX0 yX0_takeOff wsX0_takeOff) := goodIn_app (goodIn_of _ (by decide +kernel)) ggX0_endYear_X0_takeOff
set_option maxRecDepth 20000 in
theorem ggX0_endYear_X0_build : GoodIn wsX0_endYear wsX0_build := goodIn_r _ [53, 7, 8, 9, 4, 10, 11, 26, 27, 28, 29, 6, 54, 55, 56, 57, 12, 13, 14, 15, 16, 58, 59, 60, 61, 42, 43, 44, 45, 20, 18, 21, 46, 47, 48, 49, 62, 63, 64] (by decide +kernel) (by decide +kernel)
set_option maxRecDepth 20000 in
theorem gX0_endYear_X0_build : GoodIn wsX0_endYear (wsV RX0 86 RX0 yX0_build wsX0_build) := goodIn_app (goodIn_of _ (by decide +kernel)) ggX0_endYear_X0_build
theorem dX0_endYear_0 : decode cX0_endYear 0 = .ok (.aload_n 0, 1) := by decide +kernel
theorem dX0_endYear_1 : decode cX0_endYear 1 = .ok (.invokevirtual 73, 3) := by decide +kernel
theorem dX0_endYear_4 : decode cX0_endYear 4 = .ok (.iconst 0, 1) := by decide +kernel
theorem dX0_endYear_5 : decode cX0_endYear 5 = .ok (.istore_n 1, 1) := by decide +kernel
theorem dX0_endYear_6 : decode cX0_endYear 6 = .ok (.iload_n 1, 1) := by decide +kernel
theorem dX0_endYear_7 : decode cX0_endYear 7 = .ok (.iconst 3, 1) := by decide +kernel
theorem dX0_endYear_8 : decode cX0_endYear 8 = .ok (.if_icmp .ge 59, 3) := by decide +kernel
theorem dX0_endYear_11 : decode cX0_endYear 11 = .ok (.aload_n 0, 1) := by decide +kernel
theorem dX0_endYear_12 : decode cX0_endYear 12 = .ok (.iload_n 1, 1) := by decide +kernel
theorem dX0_endYear_13 : decode cX0_endYear 13 = .ok (.invokevirtual 76, 3) := by decide +kernel
theorem dX0_endYear_16 : decode cX0_endYear 16 = .ok (.iconst 1, 1) := by decide +kernel
theorem dX0_endYear_17 : decode cX0_endYear 17 = .ok (.iadd, 1) := by decide +kernel
theorem dX0_endYear_18 : decode cX0_endYear 18 = .ok (.istore_n 2, 1) := by decide +kernel
theorem dX0_endYear_19 : decode cX0_endYear 19 = .ok (.aload_n 0, 1) := by decide +kernel
theorem dX0_endYear_20 : decode cX0_endYear 20 = .ok (.iload_n 1, 1) := by decide +kernel
theorem dX0_endYear_21 : decode cX0_endYear 21 = .ok (.invokevirtual 79, 3) := by decide +kernel
theorem dX0_endYear_24 : decode cX0_endYear 24 = .ok (.iload_n 2, 1) := by decide +kernel
theorem dX0_endYear_25 : decode cX0_endYear 25 = .ok (.if_icmp .le 18, 3) := by decide +kernel
theorem dX0_endYear_28 : decode cX0_endYear 28 = .ok (.aload_n 0, 1) := by decide +kernel
theorem dX0_endYear_29 : decode cX0_endYear 29 = .ok (.iload_n 1, 1) := by decide +kernel
theorem dX0_endYear_30 : decode cX0_endYear 30 = .ok (.aload_n 0, 1) := by decide +kernel
theorem dX0_endYear_31 : decode cX0_endYear 31 = .ok (.iload_n 1, 1) := by decide +kernel
theorem dX0_endYear_32 : decode cX0_endYear 32 = .ok (.invokevirtual 79, 3) := by decide +kernel
theorem dX0_endYear_35 : decode cX0_endYear 35 = .ok (.iload_n 2, 1) := by decide +kernel
theorem dX0_endYear_36 : decode cX0_endYear 36 = .ok (.isub, 1) := by decide +kernel
theorem dX0_endYear_37 : decode cX0_endYear 37 = .ok (.invokevirtual 82, 3) := by decide +kernel
theorem dX0_endYear_40 : decode cX0_endYear 40 = .ok (.goto 21, 3) := by decide +kernel
theorem dX0_endYear_43 : decode cX0_endYear 43 = .ok (.aload_n 0, 1) := by decide +kernel
theorem dX0_endYear_44 : decode cX0_endYear 44 = .ok (.iload_n 1, 1) := by decide +kernel
theorem dX0_endYear_45 : decode cX0_endYear 45 = .ok (.invokevirtual 79, 3) := by decide +kernel
theorem dX0_endYear_48 : decode cX0_endYear 48 = .ok (.aload_n 0, 1) := by decide +kernel
theorem dX0_endYear_49 : decode cX0_endYear 49 = .ok (.iload_n 1, 1) := by decide +kernel
theorem dX0_endYear_50 : decode cX0_endYear 50 = .ok (.invokevirtual 76, 3) := by decide +kernel
theorem dX0_endYear_53 : decode cX0_endYear 53 = .ok (.if_icmp .ge 8, 3) := by decide +kernel
theorem dX0_endYear_56 : decode cX0_endYear 56 = .ok (.aload_n 0, 1) := by decide +kernel
theorem dX0_endYear_57 : decode cX0_endYear 57 = .ok (.iload_n 1, 1) := by decide +kernel
theorem dX0_endYear_58 : decode cX0_endYear 58 = .ok (.invokevirtual 86, 3) := by decide +kernel
theorem dX0_endYear_61 : decode cX0_endYear 61 = .ok (.iinc 1 1, 3) := by decide +kernel
theorem dX0_endYear_64 : decode cX0_endYear 64 = .ok (.goto (-58), 3) := by decide +kernel
theorem dX0_endYear_67 : decode cX0_endYear 67 = .ok (.return_, 1) := by decide +kernel
set_option maxRecDepth 20000 in
theorem ggX0_claimCentres_X0_number : GoodIn wsX0_claimCentres wsX0_number := goodIn_r _ [6, 7, 18, 19, 20] (by decide +kernel) (by decide +kernel)
set_option maxRecDepth 20000 in
theorem gX0_claimCentres_X0_number : GoodIn wsX0_claimCentres (wsV RX0 33 RX0 yX0_number wsX0_number) := goodIn_app (goodIn_of _ (by decide +kernel)) ggX0_claimCentres_X0_number
set_option maxRecDepth 20000 in
theorem ggX0_claimCentres_X0_of : GoodIn wsX0_claimCentres wsX0_of := goodIn_r _ [11, 12, 18, 19, 20] (by decide +kernel) (by decide +kernel)
set_option maxRecDepth 20000 in
theorem gX0_claimCentres_X0_of : GoodIn wsX0_claimCentres (wsV RX0 41 RX0 yX0_of wsX0_of) := goodIn_app (goodIn_of _ (by decide +kernel)) ggX0_claimCentres_X0_of
set_option maxRecDepth 20000 in
theorem ggX0_claimCentres_X4_isCentre : GoodIn wsX0_claimCentres wsX4_isCentre := goodIn_r _ [15] (by decide +kernel) (by decide +kernel)
set_option maxRecDepth 20000 in
theorem gX0_claimCentres_X4_isCentre_n89 : GoodIn wsX0_claimCentres (wsX4_isCentre) := ggX0_claimCentres_X4_isCentre
set_option maxRecDepth 20000 in
theorem ggX0_claimCentres_X4_enter : GoodIn wsX0_claimCentres wsX4_enter := goodIn_r _ [17] (by decide +kernel) (by decide +kernel)
set_option maxRecDepth 20000 in
theorem gX0_claimCentres_X4_enter_n37 : GoodIn wsX0_claimCentres (wsX4_enter) := ggX0_claimCentres_X4_enter
theorem dX0_claimCentres_0 : decode cX0_claimCentres 0 = .ok (.iconst 0, 1) := by decide +kernel
theorem dX0_claimCentres_1 : decode cX0_claimCentres 1 = .ok (.istore_n 1, 1) := by decide +kernel
theorem dX0_claimCentres_2 : decode cX0_claimCentres 2 = .ok (.iload_n 1, 1) := by decide +kernel
theorem dX0_claimCentres_3 : decode cX0_claimCentres 3 = .ok (.aload_n 0, 1) := by decide +kernel
theorem dX0_claimCentres_4 : decode cX0_claimCentres 4 = .ok (.iconst 0, 1) := by decide +kernel
theorem dX0_claimCentres_5 : decode cX0_claimCentres 5 = .ok (.invokevirtual 33, 3) := by decide +kernel
theorem dX0_claimCentres_8 : decode cX0_claimCentres 8 = .ok (.if_icmp .ge 40, 3) := by decide +kernel
theorem dX0_claimCentres_11 : decode cX0_claimCentres 11 = .ok (.aload_n 0, 1) := by decide +kernel
theorem dX0_claimCentres_12 : decode cX0_claimCentres 12 = .ok (.iload_n 1, 1) := by decide +kernel
theorem dX0_claimCentres_13 : decode cX0_claimCentres 13 = .ok (.iconst 1, 1) := by decide +kernel
theorem dX0_claimCentres_14 : decode cX0_claimCentres 14 = .ok (.invokevirtual 41, 3) := by decide +kernel
theorem dX0_claimCentres_17 : decode cX0_claimCentres 17 = .ok (.invokestatic 89, 3) := by decide +kernel
theorem dX0_claimCentres_20 : decode cX0_claimCentres 20 = .ok (.ifCond .eq 22, 3) := by decide +kernel
theorem dX0_claimCentres_23 : decode cX0_claimCentres 23 = .ok (.aload_n 0, 1) := by decide +kernel
theorem dX0_claimCentres_24 : decode cX0_claimCentres 24 = .ok (.getfield 15, 3) := by decide +kernel
theorem dX0_claimCentres_27 : decode cX0_claimCentres 27 = .ok (.aload_n 0, 1) := by decide +kernel
theorem dX0_claimCentres_28 : decode cX0_claimCentres 28 = .ok (.iload_n 1, 1) := by decide +kernel
theorem dX0_claimCentres_29 : decode cX0_claimCentres 29 = .ok (.iconst 1, 1) := by decide +kernel
theorem dX0_claimCentres_30 : decode cX0_claimCentres 30 = .ok (.invokevirtual 41, 3) := by decide +kernel
theorem dX0_claimCentres_33 : decode cX0_claimCentres 33 = .ok (.aload_n 0, 1) := by decide +kernel
theorem dX0_claimCentres_34 : decode cX0_claimCentres 34 = .ok (.iload_n 1, 1) := by decide +kernel
theorem dX0_claimCentres_35 : decode cX0_claimCentres 35 = .ok (.iconst 0, 1) := by decide +kernel
theorem dX0_claimCentres_36 : decode cX0_claimCentres 36 = .ok (.invokevirtual 41, 3) := by decide +kernel
theorem dX0_claimCentres_39 : decode cX0_claimCentres 39 = .ok (.invokestatic 37, 3) := by decide +kernel
theorem dX0_claimCentres_42 : decode cX0_claimCentres 42 = .ok (.iinc 1 1, 3) := by decide +kernel
theorem dX0_claimCentres_45 : decode cX0_claimCentres 45 = .ok (.goto (-43), 3) := by decide +kernel
theorem dX0_claimCentres_48 : decode cX0_claimCentres 48 = .ok (.return_, 1) := by decide +kernel
set_option maxRecDepth 20000 in
theorem ggX0_takeOff_X0_number : GoodIn wsX0_takeOff wsX0_number := goodIn_r _ [5, 6, 27, 28, 29] (by decide +kernel) (by decide +kernel)
set_option maxRecDepth 20000 in
theorem gX0_takeOff_X0_number : GoodIn wsX0_takeOff (wsV RX0 33 RX0 yX0_number wsX0_number) := goodIn_app (goodIn_of _ (by decide +kernel)) ggX0_takeOff_X0_number
set_option maxRecDepth 20000 in
theorem ggX0_takeOff_X0_of : GoodIn wsX0_takeOff wsX0_of := goodIn_r _ [10, 11, 27, 28, 29] (by decide +kernel) (by decide +kernel)
set_option maxRecDepth 20000 in
theorem gX0_takeOff_X0_of : GoodIn wsX0_takeOff (wsV RX0 41 RX0 yX0_of wsX0_of) := goodIn_app (goodIn_of _ (by decide +kernel)) ggX0_takeOff_X0_of
set_option maxRecDepth 20000 in
theorem ggX0_takeOff_X0_remove : GoodIn wsX0_takeOff wsX0_remove := goodIn_r _ [15, 6, 1, 2, 3, 4, 5, 7, 8, 9, 10, 11, 16, 17, 18, 19, 20, 21, 22, 27, 28, 29] (by decide +kernel) (by decide +kernel)
set_option maxRecDepth 20000 in
theorem gX0_takeOff_X0_remove : GoodIn wsX0_takeOff (wsV RX0 92 RX0 yX0_remove wsX0_remove) := goodIn_app (goodIn_of _ (by decide +kernel)) ggX0_takeOff_X0_remove
set_option maxRecDepth 20000 in
theorem ggX0_takeOff_X0_countOne : GoodIn wsX0_takeOff wsX0_countOne := goodIn_r _ [26, 6, 1, 2, 3, 4, 5, 20, 21, 22, 27, 28, 29] (by decide +kernel) (by decide +kernel)
set_option maxRecDepth 20000 in
theorem gX0_takeOff_X0_countOne : GoodIn wsX0_takeOff (wsV RX0 69 RX0 yX0_countOne wsX0_countOne) := goodIn_app (goodIn_of _ (by decide +kernel)) ggX0_takeOff_X0_countOne
theorem dX0_takeOff_0 : decode cX0_takeOff 0 = .ok (.iload_n 2, 1) := by decide +kernel
theorem dX0_takeOff_1 : decode cX0_takeOff 1 = .ok (.istore_n 3, 1) := by decide +kernel
theorem dX0_takeOff_2 : decode cX0_takeOff 2 = .ok (.aload_n 0, 1) := by decide +kernel
theorem dX0_takeOff_3 : decode cX0_takeOff 3 = .ok (.iconst 0, 1) := by decide +kernel
theorem dX0_takeOff_4 : decode cX0_takeOff 4 = .ok (.invokevirtual 33, 3) := by decide +kernel
theorem dX0_takeOff_7 : decode cX0_takeOff 7 = .ok (.iconst 1, 1) := by decide +kernel
theorem dX0_takeOff_8 : decode cX0_takeOff 8 = .ok (.isub, 1) := by decide +kernel
theorem dX0_takeOff_9 : decode cX0_takeOff 9 = .ok (.istore 4, 2) := by decide +kernel
theorem dX0_takeOff_11 : decode cX0_takeOff 11 = .ok (.iload 4, 2) := by decide +kernel
theorem dX0_takeOff_13 : decode cX0_takeOff 13 = .ok (.ifCond .lt 39, 3) := by decide +kernel
theorem dX0_takeOff_16 : decode cX0_takeOff 16 = .ok (.iload_n 3, 1) := by decide +kernel
theorem dX0_takeOff_17 : decode cX0_takeOff 17 = .ok (.ifCond .le 35, 3) := by decide +kernel
theorem dX0_takeOff_20 : decode cX0_takeOff 20 = .ok (.aload_n 0, 1) := by decide +kernel
theorem dX0_takeOff_21 : decode cX0_takeOff 21 = .ok (.iload 4, 2) := by decide +kernel
theorem dX0_takeOff_23 : decode cX0_takeOff 23 = .ok (.iconst 0, 1) := by decide +kernel
theorem dX0_takeOff_24 : decode cX0_takeOff 24 = .ok (.invokevirtual 41, 3) := by decide +kernel
theorem dX0_takeOff_27 : decode cX0_takeOff 27 = .ok (.iload_n 1, 1) := by decide +kernel
theorem dX0_takeOff_28 : decode cX0_takeOff 28 = .ok (.if_icmp .ne 18, 3) := by decide +kernel
theorem dX0_takeOff_31 : decode cX0_takeOff 31 = .ok (.aload_n 0, 1) := by decide +kernel
theorem dX0_takeOff_32 : decode cX0_takeOff 32 = .ok (.iload 4, 2) := by decide +kernel
theorem dX0_takeOff_34 : decode cX0_takeOff 34 = .ok (.invokevirtual 92, 3) := by decide +kernel
theorem dX0_takeOff_37 : decode cX0_takeOff 37 = .ok (.aload_n 0, 1) := by decide +kernel
theorem dX0_takeOff_38 : decode cX0_takeOff 38 = .ok (.bipush 9, 2) := by decide +kernel
theorem dX0_takeOff_40 : decode cX0_takeOff 40 = .ok (.invokevirtual 69, 3) := by decide +kernel
theorem dX0_takeOff_43 : decode cX0_takeOff 43 = .ok (.iinc 3 (-1), 3) := by decide +kernel
theorem dX0_takeOff_46 : decode cX0_takeOff 46 = .ok (.iinc 4 (-1), 3) := by decide +kernel
theorem dX0_takeOff_49 : decode cX0_takeOff 49 = .ok (.goto (-38), 3) := by decide +kernel
theorem dX0_takeOff_52 : decode cX0_takeOff 52 = .ok (.return_, 1) := by decide +kernel
set_option maxRecDepth 20000 in
theorem ggX0_build_X0_number : GoodIn wsX0_build wsX0_number := goodIn_r _ [5, 6, 36, 37, 38] (by decide +kernel) (by decide +kernel)
set_option maxRecDepth 20000 in
theorem gX0_build_X0_number : GoodIn wsX0_build (wsV RX0 33 RX0 yX0_number wsX0_number) := goodIn_app (goodIn_of _ (by decide +kernel)) ggX0_build_X0_number
set_option maxRecDepth 20000 in
theorem ggX0_build_X0_owner : GoodIn wsX0_build wsX0_owner := goodIn_r _ [10, 11, 36, 37, 38] (by decide +kernel) (by decide +kernel)
set_option maxRecDepth 20000 in
theorem gX0_build_X0_owner : GoodIn wsX0_build (wsV RX0 57 RX0 yX0_owner wsX0_owner) := goodIn_app (goodIn_of _ (by decide +kernel)) ggX0_build_X0_owner
set_option maxRecDepth 20000 in
theorem ggX0_build_X0_armyOn : GoodIn wsX0_build wsX0_armyOn := goodIn_r _ [15, 1, 2, 3, 4, 5, 6, 16, 17, 18, 19, 20, 36, 37, 38] (by decide +kernel) (by decide +kernel)
set_option maxRecDepth 20000 in
theorem gX0_build_X0_armyOn : GoodIn wsX0_build (wsV RX0 95 RX0 yX0_armyOn wsX0_armyOn) := goodIn_app (goodIn_of _ (by decide +kernel)) ggX0_build_X0_armyOn
set_option maxRecDepth 20000 in
theorem ggX0_build_X0_setUp : GoodIn wsX0_build wsX0_setUp := goodIn_r _ [24, 6, 1, 2, 3, 4, 5, 25, 26, 27, 28, 20, 29, 30, 31, 36, 37, 38] (by decide +kernel) (by decide +kernel)
set_option maxRecDepth 20000 in
theorem gX0_build_X0_setUp : GoodIn wsX0_build (wsV RX0 98 RX0 yX0_setUp wsX0_setUp) := goodIn_app (goodIn_of _ (by decide +kernel)) ggX0_build_X0_setUp
set_option maxRecDepth 20000 in
theorem ggX0_build_X0_countOne : GoodIn wsX0_build wsX0_countOne := goodIn_r _ [35, 6, 1, 2, 3, 4, 5, 29, 30, 31, 36, 37, 38] (by decide +kernel) (by decide +kernel)
set_option maxRecDepth 20000 in
theorem gX0_build_X0_countOne : GoodIn wsX0_build (wsV RX0 69 RX0 yX0_countOne wsX0_countOne) := goodIn_app (goodIn_of _ (by decide +kernel)) ggX0_build_X0_countOne
theorem dX0_build_0 : decode cX0_build 0 = .ok (.aload_n 0, 1) := by decide +kernel
theorem dX0_build_1 : decode cX0_build 1 = .ok (.iconst 0, 1) := by decide +kernel
theorem dX0_build_2 : decode cX0_build 2 = .ok (.invokevirtual 33, 3) := by decide +kernel
theorem dX0_build_5 : decode cX0_build 5 = .ok (.bipush 9, 2) := by decide +kernel
theorem dX0_build_7 : decode cX0_build 7 = .ok (.if_icmp .lt 4, 3) := by decide +kernel
theorem dX0_build_10 : decode cX0_build 10 = .ok (.return_, 1) := by decide +kernel
theorem dX0_build_11 : decode cX0_build 11 = .ok (.iconst 0, 1) := by decide +kernel
theorem dX0_build_12 : decode cX0_build 12 = .ok (.istore_n 2, 1) := by decide +kernel
theorem dX0_build_13 : decode cX0_build 13 = .ok (.iload_n 2, 1) := by decide +kernel
theorem dX0_build_14 : decode cX0_build 14 = .ok (.bipush 12, 2) := by decide +kernel
theorem dX0_build_16 : decode cX0_build 16 = .ok (.if_icmp .ge 41, 3) := by decide +kernel
theorem dX0_build_19 : decode cX0_build 19 = .ok (.aload_n 0, 1) := by decide +kernel
theorem dX0_build_20 : decode cX0_build 20 = .ok (.iload_n 2, 1) := by decide +kernel
theorem dX0_build_21 : decode cX0_build 21 = .ok (.invokevirtual 57, 3) := by decide +kernel
theorem dX0_build_24 : decode cX0_build 24 = .ok (.iload_n 1, 1) := by decide +kernel
theorem dX0_build_25 : decode cX0_build 25 = .ok (.if_icmp .ne 26, 3) := by decide +kernel
theorem dX0_build_28 : decode cX0_build 28 = .ok (.aload_n 0, 1) := by decide +kernel
theorem dX0_build_29 : decode cX0_build 29 = .ok (.iload_n 2, 1) := by decide +kernel
theorem dX0_build_30 : decode cX0_build 30 = .ok (.invokevirtual 95, 3) := by decide +kernel
theorem dX0_build_33 : decode cX0_build 33 = .ok (.iconst (-1), 1) := by decide +kernel
theorem dX0_build_34 : decode cX0_build 34 = .ok (.if_icmp .ne 17, 3) := by decide +kernel
theorem dX0_build_37 : decode cX0_build 37 = .ok (.aload_n 0, 1) := by decide +kernel
theorem dX0_build_38 : decode cX0_build 38 = .ok (.iload_n 1, 1) := by decide +kernel
theorem dX0_build_39 : decode cX0_build 39 = .ok (.iload_n 2, 1) := by decide +kernel
theorem dX0_build_40 : decode cX0_build 40 = .ok (.invokevirtual 98, 3) := by decide +kernel
theorem dX0_build_43 : decode cX0_build 43 = .ok (.pop, 1) := by decide +kernel
theorem dX0_build_44 : decode cX0_build 44 = .ok (.aload_n 0, 1) := by decide +kernel
theorem dX0_build_45 : decode cX0_build 45 = .ok (.bipush 8, 2) := by decide +kernel
theorem dX0_build_47 : decode cX0_build 47 = .ok (.invokevirtual 69, 3) := by decide +kernel
theorem dX0_build_50 : decode cX0_build 50 = .ok (.return_, 1) := by decide +kernel
theorem dX0_build_51 : decode cX0_build 51 = .ok (.iinc 2 1, 3) := by decide +kernel
theorem dX0_build_54 : decode cX0_build 54 = .ok (.goto (-41), 3) := by decide +kernel
theorem dX0_build_57 : decode cX0_build 57 = .ok (.return_, 1) := by decide +kernel
set_option maxRecDepth 20000 in
theorem ggX1_init_X0_init : GoodIn wsX1_init wsX0_init := goodIn_r _ [12, 13, 2, 3, 14, 15, 16, 17, 18, 19, 20, 21, 25, 26, 27] (by decide +kernel) (by decide +kernel)
set_option maxRecDepth 20000 in
theorem gX1_init_X0_init : GoodIn wsX1_init (wsX0_init) := ggX1_init_X0_init
theorem dX1_init_0 : decode cX1_init 0 = .ok (.aload_n 0, 1) := by decide +kernel
theorem dX1_init_1 : decode cX1_init 1 = .ok (.invokespecial 3, 3) := by decide +kernel
theorem dX1_init_4 : decode cX1_init 4 = .ok (.aload_n 0, 1) := by decide +kernel
theorem dX1_init_5 : decode cX1_init 5 = .ok (.bipush 6, 2) := by decide +kernel
theorem dX1_init_7 : decode cX1_init 7 = .ok (.anewarray 9, 3) := by decide +kernel
theorem dX1_init_10 : decode cX1_init 10 = .ok (.putfield 11, 3) := by decide +kernel
theorem dX1_init_13 : decode cX1_init 13 = .ok (.aload_n 0, 1) := by decide +kernel
theorem dX1_init_14 : decode cX1_init 14 = .ok (.iconst 0, 1) := by decide +kernel
theorem dX1_init_15 : decode cX1_init 15 = .ok (.putfield 17, 3) := by decide +kernel
theorem dX1_init_18 : decode cX1_init 18 = .ok (.aload_n 0, 1) := by decide +kernel
theorem dX1_init_19 : decode cX1_init 19 = .ok (.iconst 0, 1) := by decide +kernel
theorem dX1_init_20 : decode cX1_init 20 = .ok (.putfield 21, 3) := by decide +kernel
theorem dX1_init_23 : decode cX1_init 23 = .ok (.iconst 0, 1) := by decide +kernel
theorem dX1_init_24 : decode cX1_init 24 = .ok (.istore_n 1, 1) := by decide +kernel
theorem dX1_init_25 : decode cX1_init 25 = .ok (.iload_n 1, 1) := by decide +kernel
theorem dX1_init_26 : decode cX1_init 26 = .ok (.aload_n 0, 1) := by decide +kernel
theorem dX1_init_27 : decode cX1_init 27 = .ok (.getfield 11, 3) := by decide +kernel
theorem dX1_init_30 : decode cX1_init 30 = .ok (.arraylength, 1) := by decide +kernel
theorem dX1_init_31 : decode cX1_init 31 = .ok (.if_icmp .ge 22, 3) := by decide +kernel
theorem dX1_init_34 : decode cX1_init 34 = .ok (.aload_n 0, 1) := by decide +kernel
theorem dX1_init_35 : decode cX1_init 35 = .ok (.getfield 11, 3) := by decide +kernel
theorem dX1_init_38 : decode cX1_init 38 = .ok (.iload_n 1, 1) := by decide +kernel
theorem dX1_init_39 : decode cX1_init 39 = .ok (.new 9, 3) := by decide +kernel
theorem dX1_init_42 : decode cX1_init 42 = .ok (.dup, 1) := by decide +kernel
theorem dX1_init_43 : decode cX1_init 43 = .ok (.invokespecial 24, 3) := by decide +kernel
theorem dX1_init_46 : decode cX1_init 46 = .ok (.aastore, 1) := by decide +kernel
theorem dX1_init_47 : decode cX1_init 47 = .ok (.iinc 1 1, 3) := by decide +kernel
theorem dX1_init_50 : decode cX1_init 50 = .ok (.goto (-25), 3) := by decide +kernel
theorem dX1_init_53 : decode cX1_init 53 = .ok (.return_, 1) := by decide +kernel
theorem dX1_size_0 : decode cX1_size 0 = .ok (.aload_n 0, 1) := by decide +kernel
theorem dX1_size_1 : decode cX1_size 1 = .ok (.getfield 21, 3) := by decide +kernel
theorem dX1_size_4 : decode cX1_size 4 = .ok (.ireturn, 1) := by decide +kernel
set_option maxRecDepth 20000 in
theorem ggX1_save_X1_placeOf : GoodIn wsX1_save wsX1_placeOf := goodIn_r _ [7, 2, 8, 21, 22, 23] (by decide +kernel) (by decide +kernel)
set_option maxRecDepth 20000 in
theorem gX1_save_X1_placeOf : GoodIn wsX1_save (wsV RX1 25 RX1 yX1_placeOf wsX1_placeOf) := goodIn_app (goodIn_of _ (by decide +kernel)) ggX1_save_X1_placeOf
set_option maxRecDepth 20000 in
theorem ggX1_save_X0_copyFrom : GoodIn wsX1_save wsX0_copyFrom := goodIn_r _ [13, 14, 15, 16, 17, 18, 19, 20, 24, 25, 26] (by decide +kernel) (by decide +kernel)
set_option maxRecDepth 20000 in
theorem gX1_save_X0_copyFrom : GoodIn wsX1_save (wsV RX1 29 RX0 yX0_copyFrom wsX0_copyFrom) := goodIn_app (goodIn_of _ (by decide +kernel)) ggX1_save_X0_copyFrom
theorem dX1_save_0 : decode cX1_save 0 = .ok (.aload_n 0, 1) := by decide +kernel
theorem dX1_save_1 : decode cX1_save 1 = .ok (.getfield 21, 3) := by decide +kernel
theorem dX1_save_4 : decode cX1_save 4 = .ok (.bipush 6, 2) := by decide +kernel
theorem dX1_save_6 : decode cX1_save 6 = .ok (.if_icmp .ne 26, 3) := by decide +kernel
theorem dX1_save_9 : decode cX1_save 9 = .ok (.aload_n 0, 1) := by decide +kernel
theorem dX1_save_10 : decode cX1_save 10 = .ok (.aload_n 0, 1) := by decide +kernel
theorem dX1_save_11 : decode cX1_save 11 = .ok (.getfield 17, 3) := by decide +kernel
theorem dX1_save_14 : decode cX1_save 14 = .ok (.iconst 1, 1) := by decide +kernel
theorem dX1_save_15 : decode cX1_save 15 = .ok (.iadd, 1) := by decide +kernel
theorem dX1_save_16 : decode cX1_save 16 = .ok (.bipush 6, 2) := by decide +kernel
theorem dX1_save_18 : decode cX1_save 18 = .ok (.irem, 1) := by decide +kernel
theorem dX1_save_19 : decode cX1_save 19 = .ok (.putfield 17, 3) := by decide +kernel
theorem dX1_save_22 : decode cX1_save 22 = .ok (.aload_n 0, 1) := by decide +kernel
theorem dX1_save_23 : decode cX1_save 23 = .ok (.dup, 1) := by decide +kernel
theorem dX1_save_24 : decode cX1_save 24 = .ok (.getfield 21, 3) := by decide +kernel
theorem dX1_save_27 : decode cX1_save 27 = .ok (.iconst 1, 1) := by decide +kernel
theorem dX1_save_28 : decode cX1_save 28 = .ok (.isub, 1) := by decide +kernel
theorem dX1_save_29 : decode cX1_save 29 = .ok (.putfield 21, 3) := by decide +kernel
theorem dX1_save_32 : decode cX1_save 32 = .ok (.aload_n 0, 1) := by decide +kernel
theorem dX1_save_33 : decode cX1_save 33 = .ok (.aload_n 0, 1) := by decide +kernel
theorem dX1_save_34 : decode cX1_save 34 = .ok (.getfield 21, 3) := by decide +kernel
theorem dX1_save_37 : decode cX1_save 37 = .ok (.invokevirtual 25, 3) := by decide +kernel
theorem dX1_save_40 : decode cX1_save 40 = .ok (.astore_n 2, 1) := by decide +kernel
theorem dX1_save_41 : decode cX1_save 41 = .ok (.aload_n 2, 1) := by decide +kernel
theorem dX1_save_42 : decode cX1_save 42 = .ok (.ifnull 18, 3) := by decide +kernel
theorem dX1_save_45 : decode cX1_save 45 = .ok (.aload_n 2, 1) := by decide +kernel
theorem dX1_save_46 : decode cX1_save 46 = .ok (.aload_n 1, 1) := by decide +kernel
theorem dX1_save_47 : decode cX1_save 47 = .ok (.invokevirtual 29, 3) := by decide +kernel
theorem dX1_save_50 : decode cX1_save 50 = .ok (.aload_n 0, 1) := by decide +kernel
theorem dX1_save_51 : decode cX1_save 51 = .ok (.dup, 1) := by decide +kernel
theorem dX1_save_52 : decode cX1_save 52 = .ok (.getfield 21, 3) := by decide +kernel
theorem dX1_save_55 : decode cX1_save 55 = .ok (.iconst 1, 1) := by decide +kernel
theorem dX1_save_56 : decode cX1_save 56 = .ok (.iadd, 1) := by decide +kernel
theorem dX1_save_57 : decode cX1_save 57 = .ok (.putfield 21, 3) := by decide +kernel
theorem dX1_save_60 : decode cX1_save 60 = .ok (.return_, 1) := by decide +kernel
set_option maxRecDepth 20000 in
theorem ggX1_takeBack_X1_placeOf : GoodIn wsX1_takeBack wsX1_placeOf := goodIn_r _ [6, 7, 8, 21, 22, 23] (by decide +kernel) (by decide +kernel)
set_option maxRecDepth 20000 in
theorem gX1_takeBack_X1_placeOf : GoodIn wsX1_takeBack (wsV RX1 25 RX1 yX1_placeOf wsX1_placeOf) := goodIn_app (goodIn_of _ (by decide +kernel)) ggX1_takeBack_X1_placeOf
set_option maxRecDepth 20000 in
theorem ggX1_takeBack_X0_copyFrom : GoodIn wsX1_takeBack wsX0_copyFrom := goodIn_r _ [13, 14, 15, 16, 17, 18, 19, 20, 24, 25, 26] (by decide +kernel) (by decide +kernel)
set_option maxRecDepth 20000 in
theorem gX1_takeBack_X0_copyFrom : GoodIn wsX1_takeBack (wsV RX1 29 RX0 yX0_copyFrom wsX0_copyFrom) := goodIn_app (goodIn_of _ (by decide +kernel)) ggX1_takeBack_X0_copyFrom
theorem dX1_takeBack_0 : decode cX1_takeBack 0 = .ok (.aload_n 0, 1) := by decide +kernel
theorem dX1_takeBack_1 : decode cX1_takeBack 1 = .ok (.aload_n 0, 1) := by decide +kernel
theorem dX1_takeBack_2 : decode cX1_takeBack 2 = .ok (.getfield 21, 3) := by decide +kernel
theorem dX1_takeBack_5 : decode cX1_takeBack 5 = .ok (.iconst 1, 1) := by decide +kernel
theorem dX1_takeBack_6 : decode cX1_takeBack 6 = .ok (.isub, 1) := by decide +kernel
theorem dX1_takeBack_7 : decode cX1_takeBack 7 = .ok (.invokevirtual 25, 3) := by decide +kernel
theorem dX1_takeBack_10 : decode cX1_takeBack 10 = .ok (.astore_n 2, 1) := by decide +kernel
theorem dX1_takeBack_11 : decode cX1_takeBack 11 = .ok (.aload_n 2, 1) := by decide +kernel
theorem dX1_takeBack_12 : decode cX1_takeBack 12 = .ok (.ifnull 18, 3) := by decide +kernel
theorem dX1_takeBack_15 : decode cX1_takeBack 15 = .ok (.aload_n 1, 1) := by decide +kernel
theorem dX1_takeBack_16 : decode cX1_takeBack 16 = .ok (.aload_n 2, 1) := by decide +kernel
theorem dX1_takeBack_17 : decode cX1_takeBack 17 = .ok (.invokevirtual 29, 3) := by decide +kernel
theorem dX1_takeBack_20 : decode cX1_takeBack 20 = .ok (.aload_n 0, 1) := by decide +kernel
theorem dX1_takeBack_21 : decode cX1_takeBack 21 = .ok (.dup, 1) := by decide +kernel
theorem dX1_takeBack_22 : decode cX1_takeBack 22 = .ok (.getfield 21, 3) := by decide +kernel
theorem dX1_takeBack_25 : decode cX1_takeBack 25 = .ok (.iconst 1, 1) := by decide +kernel
theorem dX1_takeBack_26 : decode cX1_takeBack 26 = .ok (.isub, 1) := by decide +kernel
theorem dX1_takeBack_27 : decode cX1_takeBack 27 = .ok (.putfield 21, 3) := by decide +kernel
theorem dX1_takeBack_30 : decode cX1_takeBack 30 = .ok (.return_, 1) := by decide +kernel
theorem dX1_placeOf_0 : decode cX1_placeOf 0 = .ok (.iload_n 1, 1) := by decide +kernel
theorem dX1_placeOf_1 : decode cX1_placeOf 1 = .ok (.ifCond .ge 5, 3) := by decide +kernel
theorem dX1_placeOf_4 : decode cX1_placeOf 4 = .ok (.aconst_null, 1) := by decide +kernel
theorem dX1_placeOf_5 : decode cX1_placeOf 5 = .ok (.areturn, 1) := by decide +kernel
theorem dX1_placeOf_6 : decode cX1_placeOf 6 = .ok (.aload_n 0, 1) := by decide +kernel
theorem dX1_placeOf_7 : decode cX1_placeOf 7 = .ok (.getfield 17, 3) := by decide +kernel
theorem dX1_placeOf_10 : decode cX1_placeOf 10 = .ok (.iload_n 1, 1) := by decide +kernel
theorem dX1_placeOf_11 : decode cX1_placeOf 11 = .ok (.iadd, 1) := by decide +kernel
theorem dX1_placeOf_12 : decode cX1_placeOf 12 = .ok (.bipush 6, 2) := by decide +kernel
theorem dX1_placeOf_14 : decode cX1_placeOf 14 = .ok (.irem, 1) := by decide +kernel
theorem dX1_placeOf_15 : decode cX1_placeOf 15 = .ok (.istore_n 2, 1) := by decide +kernel
theorem dX1_placeOf_16 : decode cX1_placeOf 16 = .ok (.iload_n 2, 1) := by decide +kernel
theorem dX1_placeOf_17 : decode cX1_placeOf 17 = .ok (.ifCond .lt 21, 3) := by decide +kernel
theorem dX1_placeOf_20 : decode cX1_placeOf 20 = .ok (.iload_n 2, 1) := by decide +kernel
theorem dX1_placeOf_21 : decode cX1_placeOf 21 = .ok (.aload_n 0, 1) := by decide +kernel
theorem dX1_placeOf_22 : decode cX1_placeOf 22 = .ok (.getfield 11, 3) := by decide +kernel
theorem dX1_placeOf_25 : decode cX1_placeOf 25 = .ok (.arraylength, 1) := by decide +kernel
theorem dX1_placeOf_26 : decode cX1_placeOf 26 = .ok (.if_icmp .ge 12, 3) := by decide +kernel
theorem dX1_placeOf_29 : decode cX1_placeOf 29 = .ok (.aload_n 0, 1) := by decide +kernel
theorem dX1_placeOf_30 : decode cX1_placeOf 30 = .ok (.getfield 11, 3) := by decide +kernel
theorem dX1_placeOf_33 : decode cX1_placeOf 33 = .ok (.iload_n 2, 1) := by decide +kernel
theorem dX1_placeOf_34 : decode cX1_placeOf 34 = .ok (.aaload, 1) := by decide +kernel
theorem dX1_placeOf_35 : decode cX1_placeOf 35 = .ok (.goto 4, 3) := by decide +kernel
theorem dX1_placeOf_38 : decode cX1_placeOf 38 = .ok (.aconst_null, 1) := by decide +kernel
theorem dX1_placeOf_39 : decode cX1_placeOf 39 = .ok (.areturn, 1) := by decide +kernel
set_option maxRecDepth 20000 in
theorem ggX2_init_X0_init : GoodIn wsX2_init wsX0_init := goodIn_r _ [18, 19, 2, 3, 8, 20, 21, 22, 23, 24, 25, 26, 27, 28, 29] (by decide +kernel) (by decide +kernel)
set_option maxRecDepth 20000 in
theorem gX2_init_X0_init : GoodIn wsX2_init (wsX0_init) := ggX2_init_X0_init
theorem dX2_init_0 : decode cX2_init 0 = .ok (.aload_n 0, 1) := by decide +kernel
theorem dX2_init_1 : decode cX2_init 1 = .ok (.invokespecial 3, 3) := by decide +kernel
theorem dX2_init_4 : decode cX2_init 4 = .ok (.aload_n 0, 1) := by decide +kernel
theorem dX2_init_5 : decode cX2_init 5 = .ok (.new 9, 3) := by decide +kernel
theorem dX2_init_8 : decode cX2_init 8 = .ok (.dup, 1) := by decide +kernel
theorem dX2_init_9 : decode cX2_init 9 = .ok (.invokespecial 11, 3) := by decide +kernel
theorem dX2_init_12 : decode cX2_init 12 = .ok (.putfield 12, 3) := by decide +kernel
theorem dX2_init_15 : decode cX2_init 15 = .ok (.aload_n 0, 1) := by decide +kernel
theorem dX2_init_16 : decode cX2_init 16 = .ok (.bipush 9, 2) := by decide +kernel
theorem dX2_init_18 : decode cX2_init 18 = .ok (.newarray .int, 2) := by decide +kernel
theorem dX2_init_20 : decode cX2_init 20 = .ok (.putfield 18, 3) := by decide +kernel
theorem dX2_init_23 : decode cX2_init 23 = .ok (.aload_n 0, 1) := by decide +kernel
theorem dX2_init_24 : decode cX2_init 24 = .ok (.bipush 9, 2) := by decide +kernel
theorem dX2_init_26 : decode cX2_init 26 = .ok (.newarray .int, 2) := by decide +kernel
theorem dX2_init_28 : decode cX2_init 28 = .ok (.putfield 22, 3) := by decide +kernel
theorem dX2_init_31 : decode cX2_init 31 = .ok (.aload_n 0, 1) := by decide +kernel
theorem dX2_init_32 : decode cX2_init 32 = .ok (.bipush 9, 2) := by decide +kernel
theorem dX2_init_34 : decode cX2_init 34 = .ok (.newarray .int, 2) := by decide +kernel
theorem dX2_init_36 : decode cX2_init 36 = .ok (.putfield 25, 3) := by decide +kernel
theorem dX2_init_39 : decode cX2_init 39 = .ok (.aload_n 0, 1) := by decide +kernel
theorem dX2_init_40 : decode cX2_init 40 = .ok (.bipush 9, 2) := by decide +kernel
theorem dX2_init_42 : decode cX2_init 42 = .ok (.newarray .int, 2) := by decide +kernel
theorem dX2_init_44 : decode cX2_init 44 = .ok (.putfield 28, 3) := by decide +kernel
theorem dX2_init_47 : decode cX2_init 47 = .ok (.aload_n 0, 1) := by decide +kernel
theorem dX2_init_48 : decode cX2_init 48 = .ok (.bipush 9, 2) := by decide +kernel
theorem dX2_init_50 : decode cX2_init 50 = .ok (.newarray .int, 2) := by decide +kernel
theorem dX2_init_52 : decode cX2_init 52 = .ok (.putfield 31, 3) := by decide +kernel
theorem dX2_init_55 : decode cX2_init 55 = .ok (.aload_n 0, 1) := by decide +kernel
theorem dX2_init_56 : decode cX2_init 56 = .ok (.bipush 9, 2) := by decide +kernel
theorem dX2_init_58 : decode cX2_init 58 = .ok (.newarray .int, 2) := by decide +kernel
theorem dX2_init_60 : decode cX2_init 60 = .ok (.putfield 34, 3) := by decide +kernel
theorem dX2_init_63 : decode cX2_init 63 = .ok (.aload_n 0, 1) := by decide +kernel
theorem dX2_init_64 : decode cX2_init 64 = .ok (.bipush 9, 2) := by decide +kernel
theorem dX2_init_66 : decode cX2_init 66 = .ok (.newarray .int, 2) := by decide +kernel
theorem dX2_init_68 : decode cX2_init 68 = .ok (.putfield 37, 3) := by decide +kernel
theorem dX2_init_71 : decode cX2_init 71 = .ok (.return_, 1) := by decide +kernel
set_option maxRecDepth 20000 in
theorem ggX2_study_X2_decideMoves : GoodIn wsX2_study wsX2_decideMoves := goodIn_r _ [5, 6, 7, 8, 4, 9, 10, 11, 12, 13, 14, 15, 16, 17, 18, 19, 20, 21, 22, 23, 24, 25, 26, 27, 28, 29, 30, 31, 32, 33, 34, 35, 36, 37, 38, 39, 40, 41, 42, 43, 44, 45, 46, 47, 48, 49, 50, 51, 52, 53, 54, 55, 56, 57, 58, 59, 60, 61, 62, 63, 64, 65, 66, 67, 68, 69, 70, 71, 72, 73, 74, 75, 76, 77, 78, 79, 80, 114, 115, 116, 117, 118, 119, 120, 121, 122, 123, 124] (by decide +kernel) (by decide +kernel)
set_option maxRecDepth 20000 in
theorem gX2_study_X2_decideMoves : GoodIn wsX2_study (wsV RX2 40 RX2 yX2_decideMoves wsX2_decideMoves) := goodIn_app (goodIn_of _ (by decide +kernel)) ggX2_study_X2_decideMoves
set_option maxRecDepth 20000 in
theorem ggX2_study_X2_comeToFields : GoodIn wsX2_study wsX2_comeToFields := goodIn_r _ [84, 10, 85, 86, 87, 13, 14, 15, 16, 17, 18, 73, 74, 75, 4, 76, 60, 19, 20, 21, 22, 23, 54, 43, 55, 88, 89, 90, 91, 42, 44, 114, 115, 116, 117, 118, 119, 120, 121, 122, 123, 124] (by decide +kernel) (by decide +kernel)
set_option maxRecDepth 20000 in
theorem gX2_study_X2_comeToFields : GoodIn wsX2_study (wsV RX2 43 RX2 yX2_comeToFields wsX2_comeToFields) := goodIn_app (goodIn_of _ (by decide +kernel)) ggX2_study_X2_comeToFields
set_option maxRecDepth 20000 in
theorem ggX2_study_X2_retreatAll : GoodIn wsX2_study wsX2_retreatAll := goodIn_r _ [95, 10, 87, 86, 13, 14, 15, 16, 17, 18, 96, 97, 98, 4, 99, 85, 49, 54, 43, 55, 100, 101, 102, 103, 19, 20, 21, 22, 23, 104, 105, 106, 107, 108, 109, 110, 111, 112, 113, 60, 42, 44, 114, 115, 116, 117, 118, 119, 120, 121, 122, 123, 124] (by decide +kernel) (by decide +kernel)
set_option maxRecDepth 20000 in
theorem gX2_study_X2_retreatAll : GoodIn wsX2_study (wsV RX2 46 RX2 yX2_retreatAll wsX2_retreatAll) := goodIn_app (goodIn_of _ (by decide +kernel)) ggX2_study_X2_retreatAll
theorem dX2_study_0 : decode cX2_study 0 = .ok (.aload_n 0, 1) := by decide +kernel
theorem dX2_study_1 : decode cX2_study 1 = .ok (.invokevirtual 40, 3) := by decide +kernel
theorem dX2_study_4 : decode cX2_study 4 = .ok (.aload_n 0, 1) := by decide +kernel
theorem dX2_study_5 : decode cX2_study 5 = .ok (.invokevirtual 43, 3) := by decide +kernel
theorem dX2_study_8 : decode cX2_study 8 = .ok (.aload_n 0, 1) := by decide +kernel
theorem dX2_study_9 : decode cX2_study 9 = .ok (.invokevirtual 46, 3) := by decide +kernel
theorem dX2_study_12 : decode cX2_study 12 = .ok (.return_, 1) := by decide +kernel
set_option maxRecDepth 20000 in
theorem ggX2_decideMoves_X2_judgeSupports : GoodIn wsX2_decideMoves wsX2_judgeSupports := goodIn_r _ [5, 6, 7, 8, 9, 10, 11, 12, 13, 14, 15, 16, 17, 18, 19, 20, 21, 22, 4, 23, 24, 25, 26, 27, 28, 29, 30, 31, 32, 33, 34, 35, 36, 37, 38, 39, 40, 77, 78, 79, 80, 81, 82, 83, 84, 85, 86, 87] (by decide +kernel) (by decide +kernel)
set_option maxRecDepth 20000 in
theorem gX2_decideMoves_X2_judgeSupports : GoodIn wsX2_decideMoves (wsV RX2 49 RX2 yX2_judgeSupports wsX2_judgeSupports) := goodIn_app (goodIn_of _ (by decide +kernel)) ggX2_decideMoves_X2_judgeSupports
set_option maxRecDepth 20000 in
theorem ggX2_decideMoves_X2_weighOrders : GoodIn wsX2_decideMoves wsX2_weighOrders := goodIn_r _ [44, 6, 45, 9, 10, 11, 12, 13, 14, 15, 16, 17, 18, 19, 24, 25, 26, 4, 27, 46, 47, 48, 49, 8, 50, 39, 51, 38, 40, 77, 78, 79, 80, 81, 82, 83, 84, 85, 86, 87] (by decide +kernel) (by decide +kernel)
set_option maxRecDepth 20000 in
theorem gX2_decideMoves_X2_weighOrders : GoodIn wsX2_decideMoves (wsV RX2 52 RX2 yX2_weighOrders wsX2_weighOrders) := goodIn_app (goodIn_of _ (by decide +kernel)) ggX2_decideMoves_X2_weighOrders
set_option maxRecDepth 20000 in
theorem ggX2_decideMoves_X2_failAgainstMoves : GoodIn wsX2_decideMoves wsX2_failAgainstMoves := goodIn_r _ [55, 6, 56, 9, 10, 11, 12, 13, 14, 24, 25, 26, 4, 27, 15, 16, 17, 18, 19, 57, 58, 59, 60, 45, 50, 39, 51, 61, 62, 63, 64, 32, 33, 34, 35, 36, 37, 38, 40, 77, 78, 79, 80, 81, 82, 83, 84, 85, 86, 87] (by decide +kernel) (by decide +kernel)
set_option maxRecDepth 20000 in
theorem gX2_decideMoves_X2_failAgainstMoves : GoodIn wsX2_decideMoves (wsV RX2 55 RX2 yX2_failAgainstMoves wsX2_failAgainstMoves) := goodIn_app (goodIn_of _ (by decide +kernel)) ggX2_decideMoves_X2_failAgainstMoves
set_option maxRecDepth 20000 in
theorem ggX2_decideMoves_X2_failAgainstArmies : GoodIn wsX2_decideMoves wsX2_failAgainstArmies := goodIn_r _ [68, 6, 56, 9, 10, 11, 12, 13, 14, 69, 70, 71, 4, 72, 15, 16, 17, 18, 19, 50, 39, 51, 73, 74, 75, 76, 45, 32, 33, 34, 35, 36, 37, 24, 25, 26, 27, 38, 40, 77, 78, 79, 80, 81, 82, 83, 84, 85, 86, 87] (by decide +kernel) (by decide +kernel)
set_option maxRecDepth 20000 in
theorem gX2_decideMoves_X2_failAgainstArmies : GoodIn wsX2_decideMoves (wsV RX2 58 RX2 yX2_failAgainstArmies wsX2_failAgainstArmies) := goodIn_app (goodIn_of _ (by decide +kernel)) ggX2_decideMoves_X2_failAgainstArmies
theorem dX2_decideMoves_0 : decode cX2_decideMoves 0 = .ok (.aload_n 0, 1) := by decide +kernel
theorem dX2_decideMoves_1 : decode cX2_decideMoves 1 = .ok (.invokevirtual 49, 3) := by decide +kernel
theorem dX2_decideMoves_4 : decode cX2_decideMoves 4 = .ok (.aload_n 0, 1) := by decide +kernel
theorem dX2_decideMoves_5 : decode cX2_decideMoves 5 = .ok (.invokevirtual 52, 3) := by decide +kernel
theorem dX2_decideMoves_8 : decode cX2_decideMoves 8 = .ok (.aload_n 0, 1) := by decide +kernel
theorem dX2_decideMoves_9 : decode cX2_decideMoves 9 = .ok (.invokevirtual 55, 3) := by decide +kernel
theorem dX2_decideMoves_12 : decode cX2_decideMoves 12 = .ok (.aload_n 0, 1) := by decide +kernel
theorem dX2_decideMoves_13 : decode cX2_decideMoves 13 = .ok (.invokevirtual 58, 3) := by decide +kernel
theorem dX2_decideMoves_16 : decode cX2_decideMoves 16 = .ok (.return_, 1) := by decide +kernel
set_option maxRecDepth 20000 in
theorem ggX2_judgeSupports_X0_number : GoodIn wsX2_judgeSupports wsX0_number := goodIn_r _ [8, 9, 45, 46, 47] (by decide +kernel) (by decide +kernel)
set_option maxRecDepth 20000 in
theorem gX2_judgeSupports_X0_number : GoodIn wsX2_judgeSupports (wsV RX2 61 RX0 yX0_number wsX0_number) := goodIn_app (goodIn_of _ (by decide +kernel)) ggX2_judgeSupports_X0_number
set_option maxRecDepth 20000 in
theorem ggX2_judgeSupports_X0_of : GoodIn wsX2_judgeSupports wsX0_of := goodIn_r _ [13, 14, 45, 46, 47] (by decide +kernel) (by decide +kernel)
set_option maxRecDepth 20000 in
theorem gX2_judgeSupports_X0_of : GoodIn wsX2_judgeSupports (wsV RX2 65 RX0 yX0_of wsX0_of) := goodIn_app (goodIn_of _ (by decide +kernel)) ggX2_judgeSupports_X0_of
set_option maxRecDepth 20000 in
theorem ggX2_judgeSupports_X2_isCutOff : GoodIn wsX2_judgeSupports wsX2_isCutOff := goodIn_r _ [19, 1, 4, 5, 6, 7, 8, 9, 20, 21, 22, 18, 23, 10, 11, 12, 13, 14, 37, 38, 39, 40, 41, 42, 43, 44, 45, 46, 47] (by decide +kernel) (by decide +kernel)
set_option maxRecDepth 20000 in
theorem gX2_judgeSupports_X2_isCutOff : GoodIn wsX2_judgeSupports (wsV RX2 69 RX2 yX2_isCutOff wsX2_isCutOff) := goodIn_app (goodIn_of _ (by decide +kernel)) ggX2_judgeSupports_X2_isCutOff
set_option maxRecDepth 20000 in
theorem ggX2_judgeSupports_X2_hasUse : GoodIn wsX2_judgeSupports wsX2_hasUse := goodIn_r _ [27, 1, 10, 11, 12, 7, 13, 14, 28, 29, 30, 31, 32, 5, 6, 8, 9, 33, 20, 21, 22, 18, 23, 37, 38, 39, 40, 41, 42, 43, 44, 45, 46, 47] (by decide +kernel) (by decide +kernel)
set_option maxRecDepth 20000 in
theorem gX2_judgeSupports_X2_hasUse : GoodIn wsX2_judgeSupports (wsV RX2 73 RX2 yX2_hasUse wsX2_hasUse) := goodIn_app (goodIn_of _ (by decide +kernel)) ggX2_judgeSupports_X2_hasUse
set_option maxRecDepth 20000 in
theorem ggX2_judgeSupports_X4_enter : GoodIn wsX2_judgeSupports wsX4_enter := goodIn_r _ [36] (by decide +kernel) (by decide +kernel)
set_option maxRecDepth 20000 in
theorem gX2_judgeSupports_X4_enter_n76 : GoodIn wsX2_judgeSupports (wsX4_enter) := ggX2_judgeSupports_X4_enter
theorem dX2_judgeSupports_0 : decode cX2_judgeSupports 0 = .ok (.iconst 0, 1) := by decide +kernel
theorem dX2_judgeSupports_1 : decode cX2_judgeSupports 1 = .ok (.istore_n 1, 1) := by decide +kernel
theorem dX2_judgeSupports_2 : decode cX2_judgeSupports 2 = .ok (.iload_n 1, 1) := by decide +kernel
theorem dX2_judgeSupports_3 : decode cX2_judgeSupports 3 = .ok (.aload_n 0, 1) := by decide +kernel
theorem dX2_judgeSupports_4 : decode cX2_judgeSupports 4 = .ok (.getfield 12, 3) := by decide +kernel
theorem dX2_judgeSupports_7 : decode cX2_judgeSupports 7 = .ok (.iconst 0, 1) := by decide +kernel
theorem dX2_judgeSupports_8 : decode cX2_judgeSupports 8 = .ok (.invokevirtual 61, 3) := by decide +kernel
theorem dX2_judgeSupports_11 : decode cX2_judgeSupports 11 = .ok (.if_icmp .ge 104, 3) := by decide +kernel
theorem dX2_judgeSupports_14 : decode cX2_judgeSupports 14 = .ok (.aload_n 0, 1) := by decide +kernel
theorem dX2_judgeSupports_15 : decode cX2_judgeSupports 15 = .ok (.getfield 12, 3) := by decide +kernel
theorem dX2_judgeSupports_18 : decode cX2_judgeSupports 18 = .ok (.iload_n 1, 1) := by decide +kernel
theorem dX2_judgeSupports_19 : decode cX2_judgeSupports 19 = .ok (.iconst 2, 1) := by decide +kernel
theorem dX2_judgeSupports_20 : decode cX2_judgeSupports 20 = .ok (.invokevirtual 65, 3) := by decide +kernel
theorem dX2_judgeSupports_23 : decode cX2_judgeSupports 23 = .ok (.iconst 2, 1) := by decide +kernel
theorem dX2_judgeSupports_24 : decode cX2_judgeSupports 24 = .ok (.if_icmp .ne 7, 3) := by decide +kernel
theorem dX2_judgeSupports_27 : decode cX2_judgeSupports 27 = .ok (.iconst 1, 1) := by decide +kernel
theorem dX2_judgeSupports_28 : decode cX2_judgeSupports 28 = .ok (.goto 4, 3) := by decide +kernel
theorem dX2_judgeSupports_31 : decode cX2_judgeSupports 31 = .ok (.iconst 0, 1) := by decide +kernel
theorem dX2_judgeSupports_32 : decode cX2_judgeSupports 32 = .ok (.istore_n 2, 1) := by decide +kernel
theorem dX2_judgeSupports_33 : decode cX2_judgeSupports 33 = .ok (.iload_n 2, 1) := by decide +kernel
theorem dX2_judgeSupports_34 : decode cX2_judgeSupports 34 = .ok (.ifCond .eq 15, 3) := by decide +kernel
theorem dX2_judgeSupports_37 : decode cX2_judgeSupports 37 = .ok (.aload_n 0, 1) := by decide +kernel
theorem dX2_judgeSupports_38 : decode cX2_judgeSupports 38 = .ok (.iload_n 1, 1) := by decide +kernel
theorem dX2_judgeSupports_39 : decode cX2_judgeSupports 39 = .ok (.invokevirtual 69, 3) := by decide +kernel
theorem dX2_judgeSupports_42 : decode cX2_judgeSupports 42 = .ok (.ifCond .eq 7, 3) := by decide +kernel
theorem dX2_judgeSupports_45 : decode cX2_judgeSupports 45 = .ok (.iconst 1, 1) := by decide +kernel
theorem dX2_judgeSupports_46 : decode cX2_judgeSupports 46 = .ok (.goto 4, 3) := by decide +kernel
theorem dX2_judgeSupports_49 : decode cX2_judgeSupports 49 = .ok (.iconst 0, 1) := by decide +kernel
theorem dX2_judgeSupports_50 : decode cX2_judgeSupports 50 = .ok (.istore_n 3, 1) := by decide +kernel
theorem dX2_judgeSupports_51 : decode cX2_judgeSupports 51 = .ok (.iload_n 2, 1) := by decide +kernel
theorem dX2_judgeSupports_52 : decode cX2_judgeSupports 52 = .ok (.ifCond .eq 15, 3) := by decide +kernel
theorem dX2_judgeSupports_55 : decode cX2_judgeSupports 55 = .ok (.aload_n 0, 1) := by decide +kernel
theorem dX2_judgeSupports_56 : decode cX2_judgeSupports 56 = .ok (.iload_n 1, 1) := by decide +kernel
theorem dX2_judgeSupports_57 : decode cX2_judgeSupports 57 = .ok (.invokevirtual 73, 3) := by decide +kernel
theorem dX2_judgeSupports_60 : decode cX2_judgeSupports 60 = .ok (.ifCond .eq 7, 3) := by decide +kernel
theorem dX2_judgeSupports_63 : decode cX2_judgeSupports 63 = .ok (.iconst 1, 1) := by decide +kernel
theorem dX2_judgeSupports_64 : decode cX2_judgeSupports 64 = .ok (.goto 4, 3) := by decide +kernel
theorem dX2_judgeSupports_67 : decode cX2_judgeSupports 67 = .ok (.iconst 0, 1) := by decide +kernel
theorem dX2_judgeSupports_68 : decode cX2_judgeSupports 68 = .ok (.istore 4, 2) := by decide +kernel
theorem dX2_judgeSupports_70 : decode cX2_judgeSupports 70 = .ok (.aload_n 0, 1) := by decide +kernel
theorem dX2_judgeSupports_71 : decode cX2_judgeSupports 71 = .ok (.getfield 18, 3) := by decide +kernel
theorem dX2_judgeSupports_74 : decode cX2_judgeSupports 74 = .ok (.iload_n 1, 1) := by decide +kernel
theorem dX2_judgeSupports_75 : decode cX2_judgeSupports 75 = .ok (.iload_n 3, 1) := by decide +kernel
theorem dX2_judgeSupports_76 : decode cX2_judgeSupports 76 = .ok (.ifCond .eq 7, 3) := by decide +kernel
theorem dX2_judgeSupports_79 : decode cX2_judgeSupports 79 = .ok (.iconst 1, 1) := by decide +kernel
theorem dX2_judgeSupports_80 : decode cX2_judgeSupports 80 = .ok (.goto 4, 3) := by decide +kernel
theorem dX2_judgeSupports_83 : decode cX2_judgeSupports 83 = .ok (.iconst 0, 1) := by decide +kernel
theorem dX2_judgeSupports_84 : decode cX2_judgeSupports 84 = .ok (.invokestatic 76, 3) := by decide +kernel
theorem dX2_judgeSupports_87 : decode cX2_judgeSupports 87 = .ok (.aload_n 0, 1) := by decide +kernel
theorem dX2_judgeSupports_88 : decode cX2_judgeSupports 88 = .ok (.getfield 22, 3) := by decide +kernel
theorem dX2_judgeSupports_91 : decode cX2_judgeSupports 91 = .ok (.iload_n 1, 1) := by decide +kernel
theorem dX2_judgeSupports_92 : decode cX2_judgeSupports 92 = .ok (.iload 4, 2) := by decide +kernel
theorem dX2_judgeSupports_94 : decode cX2_judgeSupports 94 = .ok (.ifCond .eq 11, 3) := by decide +kernel
theorem dX2_judgeSupports_97 : decode cX2_judgeSupports 97 = .ok (.iload_n 3, 1) := by decide +kernel
theorem dX2_judgeSupports_98 : decode cX2_judgeSupports 98 = .ok (.ifCond .ne 7, 3) := by decide +kernel
theorem dX2_judgeSupports_101 : decode cX2_judgeSupports 101 = .ok (.iconst 1, 1) := by decide +kernel
theorem dX2_judgeSupports_102 : decode cX2_judgeSupports 102 = .ok (.goto 4, 3) := by decide +kernel
theorem dX2_judgeSupports_105 : decode cX2_judgeSupports 105 = .ok (.iconst 0, 1) := by decide +kernel
theorem dX2_judgeSupports_106 : decode cX2_judgeSupports 106 = .ok (.invokestatic 76, 3) := by decide +kernel
theorem dX2_judgeSupports_109 : decode cX2_judgeSupports 109 = .ok (.iinc 1 1, 3) := by decide +kernel
theorem dX2_judgeSupports_112 : decode cX2_judgeSupports 112 = .ok (.goto (-110), 3) := by decide +kernel
theorem dX2_judgeSupports_115 : decode cX2_judgeSupports 115 = .ok (.return_, 1) := by decide +kernel
set_option maxRecDepth 20000 in
theorem ggX2_isCutOff_X0_number : GoodIn wsX2_isCutOff wsX0_number := goodIn_r _ [6, 7, 26, 27, 28] (by decide +kernel) (by decide +kernel)
set_option maxRecDepth 20000 in
theorem gX2_isCutOff_X0_number : GoodIn wsX2_isCutOff (wsV RX2 61 RX0 yX0_number wsX0_number) := goodIn_app (goodIn_of _ (by decide +kernel)) ggX2_isCutOff_X0_number
set_option maxRecDepth 20000 in
theorem ggX2_isCutOff_X2_moves : GoodIn wsX2_isCutOff wsX2_moves := goodIn_r _ [12, 1, 13, 14, 15, 5, 16, 17, 18, 19, 20, 21, 22, 23, 24, 25, 26, 27, 28] (by decide +kernel) (by decide +kernel)
set_option maxRecDepth 20000 in
theorem gX2_isCutOff_X2_moves : GoodIn wsX2_isCutOff (wsV RX2 80 RX2 yX2_moves wsX2_moves) := goodIn_app (goodIn_of _ (by decide +kernel)) ggX2_isCutOff_X2_moves
set_option maxRecDepth 20000 in
theorem ggX2_isCutOff_X0_of : GoodIn wsX2_isCutOff wsX0_of := goodIn_r _ [16, 17, 26, 27, 28] (by decide +kernel) (by decide +kernel)
set_option maxRecDepth 20000 in
theorem gX2_isCutOff_X0_of : GoodIn wsX2_isCutOff (wsV RX2 65 RX0 yX0_of wsX0_of) := goodIn_app (goodIn_of _ (by decide +kernel)) ggX2_isCutOff_X0_of
theorem dX2_isCutOff_0 : decode cX2_isCutOff 0 = .ok (.iconst 0, 1) := by decide +kernel
theorem dX2_isCutOff_1 : decode cX2_isCutOff 1 = .ok (.istore_n 2, 1) := by decide +kernel
theorem dX2_isCutOff_2 : decode cX2_isCutOff 2 = .ok (.iload_n 2, 1) := by decide +kernel
theorem dX2_isCutOff_3 : decode cX2_isCutOff 3 = .ok (.aload_n 0, 1) := by decide +kernel
theorem dX2_isCutOff_4 : decode cX2_isCutOff 4 = .ok (.getfield 12, 3) := by decide +kernel
theorem dX2_isCutOff_7 : decode cX2_isCutOff 7 = .ok (.iconst 0, 1) := by decide +kernel
theorem dX2_isCutOff_8 : decode cX2_isCutOff 8 = .ok (.invokevirtual 61, 3) := by decide +kernel
theorem dX2_isCutOff_11 : decode cX2_isCutOff 11 = .ok (.if_icmp .ge 82, 3) := by decide +kernel
theorem dX2_isCutOff_14 : decode cX2_isCutOff 14 = .ok (.aload_n 0, 1) := by decide +kernel
theorem dX2_isCutOff_15 : decode cX2_isCutOff 15 = .ok (.iload_n 2, 1) := by decide +kernel
theorem dX2_isCutOff_16 : decode cX2_isCutOff 16 = .ok (.invokevirtual 80, 3) := by decide +kernel
theorem dX2_isCutOff_19 : decode cX2_isCutOff 19 = .ok (.ifCond .eq 68, 3) := by decide +kernel
theorem dX2_isCutOff_22 : decode cX2_isCutOff 22 = .ok (.aload_n 0, 1) := by decide +kernel
theorem dX2_isCutOff_23 : decode cX2_isCutOff 23 = .ok (.getfield 12, 3) := by decide +kernel
theorem dX2_isCutOff_26 : decode cX2_isCutOff 26 = .ok (.iload_n 2, 1) := by decide +kernel
theorem dX2_isCutOff_27 : decode cX2_isCutOff 27 = .ok (.iconst 3, 1) := by decide +kernel
theorem dX2_isCutOff_28 : decode cX2_isCutOff 28 = .ok (.invokevirtual 65, 3) := by decide +kernel
theorem dX2_isCutOff_31 : decode cX2_isCutOff 31 = .ok (.aload_n 0, 1) := by decide +kernel
theorem dX2_isCutOff_32 : decode cX2_isCutOff 32 = .ok (.getfield 12, 3) := by decide +kernel
theorem dX2_isCutOff_35 : decode cX2_isCutOff 35 = .ok (.iload_n 1, 1) := by decide +kernel
theorem dX2_isCutOff_36 : decode cX2_isCutOff 36 = .ok (.iconst 1, 1) := by decide +kernel
theorem dX2_isCutOff_37 : decode cX2_isCutOff 37 = .ok (.invokevirtual 65, 3) := by decide +kernel
theorem dX2_isCutOff_40 : decode cX2_isCutOff 40 = .ok (.if_icmp .ne 47, 3) := by decide +kernel
theorem dX2_isCutOff_43 : decode cX2_isCutOff 43 = .ok (.aload_n 0, 1) := by decide +kernel
theorem dX2_isCutOff_44 : decode cX2_isCutOff 44 = .ok (.getfield 12, 3) := by decide +kernel
theorem dX2_isCutOff_47 : decode cX2_isCutOff 47 = .ok (.iload_n 2, 1) := by decide +kernel
theorem dX2_isCutOff_48 : decode cX2_isCutOff 48 = .ok (.iconst 0, 1) := by decide +kernel
theorem dX2_isCutOff_49 : decode cX2_isCutOff 49 = .ok (.invokevirtual 65, 3) := by decide +kernel
theorem dX2_isCutOff_52 : decode cX2_isCutOff 52 = .ok (.aload_n 0, 1) := by decide +kernel
theorem dX2_isCutOff_53 : decode cX2_isCutOff 53 = .ok (.getfield 12, 3) := by decide +kernel
theorem dX2_isCutOff_56 : decode cX2_isCutOff 56 = .ok (.iload_n 1, 1) := by decide +kernel
theorem dX2_isCutOff_57 : decode cX2_isCutOff 57 = .ok (.iconst 0, 1) := by decide +kernel
theorem dX2_isCutOff_58 : decode cX2_isCutOff 58 = .ok (.invokevirtual 65, 3) := by decide +kernel
theorem dX2_isCutOff_61 : decode cX2_isCutOff 61 = .ok (.if_icmp .eq 26, 3) := by decide +kernel
theorem dX2_isCutOff_64 : decode cX2_isCutOff 64 = .ok (.aload_n 0, 1) := by decide +kernel
theorem dX2_isCutOff_65 : decode cX2_isCutOff 65 = .ok (.getfield 12, 3) := by decide +kernel
theorem dX2_isCutOff_68 : decode cX2_isCutOff 68 = .ok (.iload_n 2, 1) := by decide +kernel
theorem dX2_isCutOff_69 : decode cX2_isCutOff 69 = .ok (.iconst 1, 1) := by decide +kernel
theorem dX2_isCutOff_70 : decode cX2_isCutOff 70 = .ok (.invokevirtual 65, 3) := by decide +kernel
theorem dX2_isCutOff_73 : decode cX2_isCutOff 73 = .ok (.aload_n 0, 1) := by decide +kernel
theorem dX2_isCutOff_74 : decode cX2_isCutOff 74 = .ok (.getfield 12, 3) := by decide +kernel
theorem dX2_isCutOff_77 : decode cX2_isCutOff 77 = .ok (.iload_n 1, 1) := by decide +kernel
theorem dX2_isCutOff_78 : decode cX2_isCutOff 78 = .ok (.iconst 3, 1) := by decide +kernel
theorem dX2_isCutOff_79 : decode cX2_isCutOff 79 = .ok (.invokevirtual 65, 3) := by decide +kernel
theorem dX2_isCutOff_82 : decode cX2_isCutOff 82 = .ok (.if_icmp .eq 5, 3) := by decide +kernel
theorem dX2_isCutOff_85 : decode cX2_isCutOff 85 = .ok (.iconst 1, 1) := by decide +kernel
theorem dX2_isCutOff_86 : decode cX2_isCutOff 86 = .ok (.ireturn, 1) := by decide +kernel
theorem dX2_isCutOff_87 : decode cX2_isCutOff 87 = .ok (.iinc 2 1, 3) := by decide +kernel
theorem dX2_isCutOff_90 : decode cX2_isCutOff 90 = .ok (.goto (-88), 3) := by decide +kernel
theorem dX2_isCutOff_93 : decode cX2_isCutOff 93 = .ok (.iconst 0, 1) := by decide +kernel
theorem dX2_isCutOff_94 : decode cX2_isCutOff 94 = .ok (.ireturn, 1) := by decide +kernel
set_option maxRecDepth 20000 in
theorem ggX2_hasUse_X0_of : GoodIn wsX2_hasUse wsX0_of := goodIn_r _ [6, 7, 31, 32, 33] (by decide +kernel) (by decide +kernel)
set_option maxRecDepth 20000 in
theorem gX2_hasUse_X0_of : GoodIn wsX2_hasUse (wsV RX2 65 RX0 yX0_of wsX0_of) := goodIn_app (goodIn_of _ (by decide +kernel)) ggX2_hasUse_X0_of
set_option maxRecDepth 20000 in
theorem ggX2_hasUse_X0_armyOn : GoodIn wsX2_hasUse wsX0_armyOn := goodIn_r _ [11, 12, 13, 14, 5, 15, 16, 17, 3, 4, 6, 7, 31, 32, 33] (by decide +kernel) (by decide +kernel)
set_option maxRecDepth 20000 in
theorem gX2_hasUse_X0_armyOn : GoodIn wsX2_hasUse (wsV RX2 83 RX0 yX0_armyOn wsX0_armyOn) := goodIn_app (goodIn_of _ (by decide +kernel)) ggX2_hasUse_X0_armyOn
set_option maxRecDepth 20000 in
theorem ggX2_hasUse_X2_moves : GoodIn wsX2_hasUse wsX2_moves := goodIn_r _ [22, 1, 2, 3, 4, 5, 6, 7, 23, 24, 25, 26, 27, 28, 29, 30, 31, 32, 33] (by decide +kernel) (by decide +kernel)
set_option maxRecDepth 20000 in
theorem gX2_hasUse_X2_moves : GoodIn wsX2_hasUse (wsV RX2 80 RX2 yX2_moves wsX2_moves) := goodIn_app (goodIn_of _ (by decide +kernel)) ggX2_hasUse_X2_moves
theorem dX2_hasUse_0 : decode cX2_hasUse 0 = .ok (.aload_n 0, 1) := by decide +kernel
theorem dX2_hasUse_1 : decode cX2_hasUse 1 = .ok (.getfield 12, 3) := by decide +kernel
theorem dX2_hasUse_4 : decode cX2_hasUse 4 = .ok (.aload_n 0, 1) := by decide +kernel
theorem dX2_hasUse_5 : decode cX2_hasUse 5 = .ok (.getfield 12, 3) := by decide +kernel
theorem dX2_hasUse_8 : decode cX2_hasUse 8 = .ok (.iload_n 1, 1) := by decide +kernel
theorem dX2_hasUse_9 : decode cX2_hasUse 9 = .ok (.iconst 4, 1) := by decide +kernel
theorem dX2_hasUse_10 : decode cX2_hasUse 10 = .ok (.invokevirtual 65, 3) := by decide +kernel
theorem dX2_hasUse_13 : decode cX2_hasUse 13 = .ok (.invokevirtual 83, 3) := by decide +kernel
theorem dX2_hasUse_16 : decode cX2_hasUse 16 = .ok (.istore_n 2, 1) := by decide +kernel
theorem dX2_hasUse_17 : decode cX2_hasUse 17 = .ok (.iload_n 2, 1) := by decide +kernel
theorem dX2_hasUse_18 : decode cX2_hasUse 18 = .ok (.iconst (-1), 1) := by decide +kernel
theorem dX2_hasUse_19 : decode cX2_hasUse 19 = .ok (.if_icmp .eq 8, 3) := by decide +kernel
theorem dX2_hasUse_22 : decode cX2_hasUse 22 = .ok (.iload_n 2, 1) := by decide +kernel
theorem dX2_hasUse_23 : decode cX2_hasUse 23 = .ok (.iload_n 1, 1) := by decide +kernel
theorem dX2_hasUse_24 : decode cX2_hasUse 24 = .ok (.if_icmp .ne 5, 3) := by decide +kernel
theorem dX2_hasUse_27 : decode cX2_hasUse 27 = .ok (.iconst 0, 1) := by decide +kernel
theorem dX2_hasUse_28 : decode cX2_hasUse 28 = .ok (.ireturn, 1) := by decide +kernel
theorem dX2_hasUse_29 : decode cX2_hasUse 29 = .ok (.aload_n 0, 1) := by decide +kernel
theorem dX2_hasUse_30 : decode cX2_hasUse 30 = .ok (.getfield 12, 3) := by decide +kernel
theorem dX2_hasUse_33 : decode cX2_hasUse 33 = .ok (.iload_n 1, 1) := by decide +kernel
theorem dX2_hasUse_34 : decode cX2_hasUse 34 = .ok (.iconst 4, 1) := by decide +kernel
theorem dX2_hasUse_35 : decode cX2_hasUse 35 = .ok (.invokevirtual 65, 3) := by decide +kernel
theorem dX2_hasUse_38 : decode cX2_hasUse 38 = .ok (.aload_n 0, 1) := by decide +kernel
theorem dX2_hasUse_39 : decode cX2_hasUse 39 = .ok (.getfield 12, 3) := by decide +kernel
theorem dX2_hasUse_42 : decode cX2_hasUse 42 = .ok (.iload_n 1, 1) := by decide +kernel
theorem dX2_hasUse_43 : decode cX2_hasUse 43 = .ok (.iconst 3, 1) := by decide +kernel
theorem dX2_hasUse_44 : decode cX2_hasUse 44 = .ok (.invokevirtual 65, 3) := by decide +kernel
theorem dX2_hasUse_47 : decode cX2_hasUse 47 = .ok (.if_icmp .ne 17, 3) := by decide +kernel
theorem dX2_hasUse_50 : decode cX2_hasUse 50 = .ok (.aload_n 0, 1) := by decide +kernel
theorem dX2_hasUse_51 : decode cX2_hasUse 51 = .ok (.iload_n 2, 1) := by decide +kernel
theorem dX2_hasUse_52 : decode cX2_hasUse 52 = .ok (.invokevirtual 80, 3) := by decide +kernel
theorem dX2_hasUse_55 : decode cX2_hasUse 55 = .ok (.ifCond .ne 7, 3) := by decide +kernel
theorem dX2_hasUse_58 : decode cX2_hasUse 58 = .ok (.iconst 1, 1) := by decide +kernel
theorem dX2_hasUse_59 : decode cX2_hasUse 59 = .ok (.goto 4, 3) := by decide +kernel
theorem dX2_hasUse_62 : decode cX2_hasUse 62 = .ok (.iconst 0, 1) := by decide +kernel
theorem dX2_hasUse_63 : decode cX2_hasUse 63 = .ok (.ireturn, 1) := by decide +kernel
theorem dX2_hasUse_64 : decode cX2_hasUse 64 = .ok (.aload_n 0, 1) := by decide +kernel
theorem dX2_hasUse_65 : decode cX2_hasUse 65 = .ok (.iload_n 2, 1) := by decide +kernel
theorem dX2_hasUse_66 : decode cX2_hasUse 66 = .ok (.invokevirtual 80, 3) := by decide +kernel
theorem dX2_hasUse_69 : decode cX2_hasUse 69 = .ok (.ifCond .eq 28, 3) := by decide +kernel
theorem dX2_hasUse_72 : decode cX2_hasUse 72 = .ok (.aload_n 0, 1) := by decide +kernel
theorem dX2_hasUse_73 : decode cX2_hasUse 73 = .ok (.getfield 12, 3) := by decide +kernel
theorem dX2_hasUse_76 : decode cX2_hasUse 76 = .ok (.iload_n 2, 1) := by decide +kernel
theorem dX2_hasUse_77 : decode cX2_hasUse 77 = .ok (.iconst 3, 1) := by decide +kernel
theorem dX2_hasUse_78 : decode cX2_hasUse 78 = .ok (.invokevirtual 65, 3) := by decide +kernel
theorem dX2_hasUse_81 : decode cX2_hasUse 81 = .ok (.aload_n 0, 1) := by decide +kernel
theorem dX2_hasUse_82 : decode cX2_hasUse 82 = .ok (.getfield 12, 3) := by decide +kernel
theorem dX2_hasUse_85 : decode cX2_hasUse 85 = .ok (.iload_n 1, 1) := by decide +kernel
theorem dX2_hasUse_86 : decode cX2_hasUse 86 = .ok (.iconst 3, 1) := by decide +kernel
theorem dX2_hasUse_87 : decode cX2_hasUse 87 = .ok (.invokevirtual 65, 3) := by decide +kernel
theorem dX2_hasUse_90 : decode cX2_hasUse 90 = .ok (.if_icmp .ne 7, 3) := by decide +kernel
theorem dX2_hasUse_93 : decode cX2_hasUse 93 = .ok (.iconst 1, 1) := by decide +kernel
theorem dX2_hasUse_94 : decode cX2_hasUse 94 = .ok (.goto 4, 3) := by decide +kernel
theorem dX2_hasUse_97 : decode cX2_hasUse 97 = .ok (.iconst 0, 1) := by decide +kernel
theorem dX2_hasUse_98 : decode cX2_hasUse 98 = .ok (.ireturn, 1) := by decide +kernel
set_option maxRecDepth 20000 in
theorem ggX2_weighOrders_X0_number : GoodIn wsX2_weighOrders wsX0_number := goodIn_r _ [7, 8, 37, 38, 39] (by decide +kernel) (by decide +kernel)
set_option maxRecDepth 20000 in
theorem gX2_weighOrders_X0_number : GoodIn wsX2_weighOrders (wsV RX2 61 RX0 yX0_number wsX0_number) := goodIn_app (goodIn_of _ (by decide +kernel)) ggX2_weighOrders_X0_number
set_option maxRecDepth 20000 in
theorem ggX2_weighOrders_X0_of : GoodIn wsX2_weighOrders wsX0_of := goodIn_r _ [12, 13, 37, 38, 39] (by decide +kernel) (by decide +kernel)
set_option maxRecDepth 20000 in
theorem gX2_weighOrders_X0_of : GoodIn wsX2_weighOrders (wsV RX2 65 RX0 yX0_of wsX0_of) := goodIn_app (goodIn_of _ (by decide +kernel)) ggX2_weighOrders_X0_of
set_option maxRecDepth 20000 in
theorem ggX2_weighOrders_X2_moves : GoodIn wsX2_weighOrders wsX2_moves := goodIn_r _ [18, 1, 9, 10, 11, 6, 12, 13, 29, 30, 31, 32, 33, 34, 35, 36, 37, 38, 39] (by decide +kernel) (by decide +kernel)
set_option maxRecDepth 20000 in
theorem gX2_weighOrders_X2_moves : GoodIn wsX2_weighOrders (wsV RX2 80 RX2 yX2_moves wsX2_moves) := goodIn_app (goodIn_of _ (by decide +kernel)) ggX2_weighOrders_X2_moves
set_option maxRecDepth 20000 in
theorem ggX2_weighOrders_X2_supportsOf : GoodIn wsX2_weighOrders wsX2_supportsOf := goodIn_r _ [22, 1, 23, 3, 4, 5, 6, 7, 8, 9, 10, 11, 12, 13, 24, 25, 26, 29, 30, 31, 32, 33, 34, 35, 36, 37, 38, 39] (by decide +kernel) (by decide +kernel)
set_option maxRecDepth 20000 in
theorem gX2_weighOrders_X2_supportsOf : GoodIn wsX2_weighOrders (wsV RX2 86 RX2 yX2_supportsOf wsX2_supportsOf) := goodIn_app (goodIn_of _ (by decide +kernel)) ggX2_weighOrders_X2_supportsOf
set_option maxRecDepth 20000 in
theorem ggX2_weighOrders_X4_enter : GoodIn wsX2_weighOrders wsX4_enter := goodIn_r _ [28] (by decide +kernel) (by decide +kernel)
set_option maxRecDepth 20000 in
theorem gX2_weighOrders_X4_enter_n76 : GoodIn wsX2_weighOrders (wsX4_enter) := ggX2_weighOrders_X4_enter
theorem dX2_weighOrders_0 : decode cX2_weighOrders 0 = .ok (.iconst 0, 1) := by decide +kernel
theorem dX2_weighOrders_1 : decode cX2_weighOrders 1 = .ok (.istore_n 1, 1) := by decide +kernel
theorem dX2_weighOrders_2 : decode cX2_weighOrders 2 = .ok (.iload_n 1, 1) := by decide +kernel
theorem dX2_weighOrders_3 : decode cX2_weighOrders 3 = .ok (.aload_n 0, 1) := by decide +kernel
theorem dX2_weighOrders_4 : decode cX2_weighOrders 4 = .ok (.getfield 12, 3) := by decide +kernel
theorem dX2_weighOrders_7 : decode cX2_weighOrders 7 = .ok (.iconst 0, 1) := by decide +kernel
theorem dX2_weighOrders_8 : decode cX2_weighOrders 8 = .ok (.invokevirtual 61, 3) := by decide +kernel
theorem dX2_weighOrders_11 : decode cX2_weighOrders 11 = .ok (.if_icmp .ge 57, 3) := by decide +kernel
theorem dX2_weighOrders_14 : decode cX2_weighOrders 14 = .ok (.aload_n 0, 1) := by decide +kernel
theorem dX2_weighOrders_15 : decode cX2_weighOrders 15 = .ok (.getfield 12, 3) := by decide +kernel
theorem dX2_weighOrders_18 : decode cX2_weighOrders 18 = .ok (.iload_n 1, 1) := by decide +kernel
theorem dX2_weighOrders_19 : decode cX2_weighOrders 19 = .ok (.iconst 1, 1) := by decide +kernel
theorem dX2_weighOrders_20 : decode cX2_weighOrders 20 = .ok (.invokevirtual 65, 3) := by decide +kernel
theorem dX2_weighOrders_23 : decode cX2_weighOrders 23 = .ok (.istore_n 2, 1) := by decide +kernel
theorem dX2_weighOrders_24 : decode cX2_weighOrders 24 = .ok (.aload_n 0, 1) := by decide +kernel
theorem dX2_weighOrders_25 : decode cX2_weighOrders 25 = .ok (.iload_n 1, 1) := by decide +kernel
theorem dX2_weighOrders_26 : decode cX2_weighOrders 26 = .ok (.invokevirtual 80, 3) := by decide +kernel
theorem dX2_weighOrders_29 : decode cX2_weighOrders 29 = .ok (.ifCond .eq 15, 3) := by decide +kernel
theorem dX2_weighOrders_32 : decode cX2_weighOrders 32 = .ok (.aload_n 0, 1) := by decide +kernel
theorem dX2_weighOrders_33 : decode cX2_weighOrders 33 = .ok (.getfield 12, 3) := by decide +kernel
theorem dX2_weighOrders_36 : decode cX2_weighOrders 36 = .ok (.iload_n 1, 1) := by decide +kernel
theorem dX2_weighOrders_37 : decode cX2_weighOrders 37 = .ok (.iconst 3, 1) := by decide +kernel
theorem dX2_weighOrders_38 : decode cX2_weighOrders 38 = .ok (.invokevirtual 65, 3) := by decide +kernel
theorem dX2_weighOrders_41 : decode cX2_weighOrders 41 = .ok (.goto 4, 3) := by decide +kernel
theorem dX2_weighOrders_44 : decode cX2_weighOrders 44 = .ok (.iload_n 2, 1) := by decide +kernel
theorem dX2_weighOrders_45 : decode cX2_weighOrders 45 = .ok (.istore_n 3, 1) := by decide +kernel
theorem dX2_weighOrders_46 : decode cX2_weighOrders 46 = .ok (.aload_n 0, 1) := by decide +kernel
theorem dX2_weighOrders_47 : decode cX2_weighOrders 47 = .ok (.getfield 25, 3) := by decide +kernel
theorem dX2_weighOrders_50 : decode cX2_weighOrders 50 = .ok (.iload_n 1, 1) := by decide +kernel
theorem dX2_weighOrders_51 : decode cX2_weighOrders 51 = .ok (.iconst 1, 1) := by decide +kernel
theorem dX2_weighOrders_52 : decode cX2_weighOrders 52 = .ok (.aload_n 0, 1) := by decide +kernel
theorem dX2_weighOrders_53 : decode cX2_weighOrders 53 = .ok (.iload_n 2, 1) := by decide +kernel
theorem dX2_weighOrders_54 : decode cX2_weighOrders 54 = .ok (.iload_n 3, 1) := by decide +kernel
theorem dX2_weighOrders_55 : decode cX2_weighOrders 55 = .ok (.invokevirtual 86, 3) := by decide +kernel
theorem dX2_weighOrders_58 : decode cX2_weighOrders 58 = .ok (.iadd, 1) := by decide +kernel
theorem dX2_weighOrders_59 : decode cX2_weighOrders 59 = .ok (.invokestatic 76, 3) := by decide +kernel
theorem dX2_weighOrders_62 : decode cX2_weighOrders 62 = .ok (.iinc 1 1, 3) := by decide +kernel
theorem dX2_weighOrders_65 : decode cX2_weighOrders 65 = .ok (.goto (-63), 3) := by decide +kernel
theorem dX2_weighOrders_68 : decode cX2_weighOrders 68 = .ok (.return_, 1) := by decide +kernel
set_option maxRecDepth 20000 in
theorem ggX2_supportsOf_X0_number : GoodIn wsX2_supportsOf wsX0_number := goodIn_r _ [7, 8, 25, 26, 27] (by decide +kernel) (by decide +kernel)
set_option maxRecDepth 20000 in
theorem gX2_supportsOf_X0_number : GoodIn wsX2_supportsOf (wsV RX2 61 RX0 yX0_number wsX0_number) := goodIn_app (goodIn_of _ (by decide +kernel)) ggX2_supportsOf_X0_number
set_option maxRecDepth 20000 in
theorem ggX2_supportsOf_X0_of : GoodIn wsX2_supportsOf wsX0_of := goodIn_r _ [12, 13, 25, 26, 27] (by decide +kernel) (by decide +kernel)
set_option maxRecDepth 20000 in
theorem gX2_supportsOf_X0_of : GoodIn wsX2_supportsOf (wsV RX2 65 RX0 yX0_of wsX0_of) := goodIn_app (goodIn_of _ (by decide +kernel)) ggX2_supportsOf_X0_of
set_option maxRecDepth 20000 in
theorem ggX2_supportsOf_X4_entry : GoodIn wsX2_supportsOf wsX4_entry := goodIn_r _ [16] (by decide +kernel) (by decide +kernel)
set_option maxRecDepth 20000 in
theorem gX2_supportsOf_X4_entry_n89 : GoodIn wsX2_supportsOf (wsX4_entry) := ggX2_supportsOf_X4_entry
theorem dX2_supportsOf_0 : decode cX2_supportsOf 0 = .ok (.iconst 0, 1) := by decide +kernel
theorem dX2_supportsOf_1 : decode cX2_supportsOf 1 = .ok (.istore_n 3, 1) := by decide +kernel
theorem dX2_supportsOf_2 : decode cX2_supportsOf 2 = .ok (.iconst 0, 1) := by decide +kernel
theorem dX2_supportsOf_3 : decode cX2_supportsOf 3 = .ok (.istore 4, 2) := by decide +kernel
theorem dX2_supportsOf_5 : decode cX2_supportsOf 5 = .ok (.iload 4, 2) := by decide +kernel
theorem dX2_supportsOf_7 : decode cX2_supportsOf 7 = .ok (.aload_n 0, 1) := by decide +kernel
theorem dX2_supportsOf_8 : decode cX2_supportsOf 8 = .ok (.getfield 12, 3) := by decide +kernel
theorem dX2_supportsOf_11 : decode cX2_supportsOf 11 = .ok (.iconst 0, 1) := by decide +kernel
theorem dX2_supportsOf_12 : decode cX2_supportsOf 12 = .ok (.invokevirtual 61, 3) := by decide +kernel
theorem dX2_supportsOf_15 : decode cX2_supportsOf 15 = .ok (.if_icmp .ge 70, 3) := by decide +kernel
theorem dX2_supportsOf_18 : decode cX2_supportsOf 18 = .ok (.aload_n 0, 1) := by decide +kernel
theorem dX2_supportsOf_19 : decode cX2_supportsOf 19 = .ok (.getfield 12, 3) := by decide +kernel
theorem dX2_supportsOf_22 : decode cX2_supportsOf 22 = .ok (.iload 4, 2) := by decide +kernel
theorem dX2_supportsOf_24 : decode cX2_supportsOf 24 = .ok (.iconst 4, 1) := by decide +kernel
theorem dX2_supportsOf_25 : decode cX2_supportsOf 25 = .ok (.invokevirtual 65, 3) := by decide +kernel
theorem dX2_supportsOf_28 : decode cX2_supportsOf 28 = .ok (.iload_n 1, 1) := by decide +kernel
theorem dX2_supportsOf_29 : decode cX2_supportsOf 29 = .ok (.if_icmp .ne 21, 3) := by decide +kernel
theorem dX2_supportsOf_32 : decode cX2_supportsOf 32 = .ok (.aload_n 0, 1) := by decide +kernel
theorem dX2_supportsOf_33 : decode cX2_supportsOf 33 = .ok (.getfield 12, 3) := by decide +kernel
theorem dX2_supportsOf_36 : decode cX2_supportsOf 36 = .ok (.iload 4, 2) := by decide +kernel
