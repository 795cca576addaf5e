set_option maxRecDepth 20000 in
theorem gX2_strongestDriven_X0_number : GoodIn wsX2_strongestDriven (wsV RX2 61 RX0 yX0_number wsX0_number) := goodIn_app (goodIn_of _ (by decide +kernel)) ggX2_strongestDriven_X0_number
set_option maxRecDepth 20000 in
theorem ggX2_strongestDriven_X4_entry : GoodIn wsX2_strongestDriven wsX4_entry := goodIn_r _ [13] (by decide +kernel) (by decide +kernel)
set_option maxRecDepth 20000 in
theorem gX2_strongestDriven_X4_entry_n89 : GoodIn wsX2_strongestDriven (wsX4_entry) := ggX2_strongestDriven_X4_entry
theorem dX2_strongestDriven_0 : decode cX2_strongestDriven 0 = .ok (.iconst (-1), 1) := by decide +kernel
theorem dX2_strongestDriven_1 : decode cX2_strongestDriven 1 = .ok (.istore_n 2, 1) := by decide +kernel
theorem dX2_strongestDriven_2 : decode cX2_strongestDriven 2 = .ok (.iconst 0, 1) := by decide +kernel
theorem dX2_strongestDriven_3 : decode cX2_strongestDriven 3 = .ok (.istore_n 3, 1) := by decide +kernel
theorem dX2_strongestDriven_4 : decode cX2_strongestDriven 4 = .ok (.iconst 0, 1) := by decide +kernel
theorem dX2_strongestDriven_5 : decode cX2_strongestDriven 5 = .ok (.istore 4, 2) := by decide +kernel
theorem dX2_strongestDriven_7 : decode cX2_strongestDriven 7 = .ok (.iload 4, 2) := by decide +kernel
theorem dX2_strongestDriven_9 : decode cX2_strongestDriven 9 = .ok (.aload_n 0, 1) := by decide +kernel
theorem dX2_strongestDriven_10 : decode cX2_strongestDriven 10 = .ok (.getfield 12, 3) := by decide +kernel
theorem dX2_strongestDriven_13 : decode cX2_strongestDriven 13 = .ok (.iconst 0, 1) := by decide +kernel
theorem dX2_strongestDriven_14 : decode cX2_strongestDriven 14 = .ok (.invokevirtual 61, 3) := by decide +kernel
theorem dX2_strongestDriven_17 : decode cX2_strongestDriven 17 = .ok (.if_icmp .ge 81, 3) := by decide +kernel
theorem dX2_strongestDriven_20 : decode cX2_strongestDriven 20 = .ok (.aload_n 0, 1) := by decide +kernel
theorem dX2_strongestDriven_21 : decode cX2_strongestDriven 21 = .ok (.getfield 31, 3) := by decide +kernel
theorem dX2_strongestDriven_24 : decode cX2_strongestDriven 24 = .ok (.iload 4, 2) := by decide +kernel
theorem dX2_strongestDriven_26 : decode cX2_strongestDriven 26 = .ok (.invokestatic 89, 3) := by decide +kernel
theorem dX2_strongestDriven_29 : decode cX2_strongestDriven 29 = .ok (.istore 5, 2) := by decide +kernel
theorem dX2_strongestDriven_31 : decode cX2_strongestDriven 31 = .ok (.iload 5, 2) := by decide +kernel
theorem dX2_strongestDriven_33 : decode cX2_strongestDriven 33 = .ok (.iconst (-1), 1) := by decide +kernel
theorem dX2_strongestDriven_34 : decode cX2_strongestDriven 34 = .ok (.if_icmp .eq 24, 3) := by decide +kernel
theorem dX2_strongestDriven_37 : decode cX2_strongestDriven 37 = .ok (.iload_n 1, 1) := by decide +kernel
theorem dX2_strongestDriven_38 : decode cX2_strongestDriven 38 = .ok (.ifCond .eq 16, 3) := by decide +kernel
theorem dX2_strongestDriven_41 : decode cX2_strongestDriven 41 = .ok (.aload_n 0, 1) := by decide +kernel
theorem dX2_strongestDriven_42 : decode cX2_strongestDriven 42 = .ok (.getfield 34, 3) := by decide +kernel
theorem dX2_strongestDriven_45 : decode cX2_strongestDriven 45 = .ok (.iload 4, 2) := by decide +kernel
theorem dX2_strongestDriven_47 : decode cX2_strongestDriven 47 = .ok (.invokestatic 89, 3) := by decide +kernel
theorem dX2_strongestDriven_50 : decode cX2_strongestDriven 50 = .ok (.iconst 1, 1) := by decide +kernel
theorem dX2_strongestDriven_51 : decode cX2_strongestDriven 51 = .ok (.if_icmp .ne 7, 3) := by decide +kernel
theorem dX2_strongestDriven_54 : decode cX2_strongestDriven 54 = .ok (.iconst 1, 1) := by decide +kernel
theorem dX2_strongestDriven_55 : decode cX2_strongestDriven 55 = .ok (.goto 4, 3) := by decide +kernel
theorem dX2_strongestDriven_58 : decode cX2_strongestDriven 58 = .ok (.iconst 0, 1) := by decide +kernel
theorem dX2_strongestDriven_59 : decode cX2_strongestDriven 59 = .ok (.istore 6, 2) := by decide +kernel
theorem dX2_strongestDriven_61 : decode cX2_strongestDriven 61 = .ok (.iload 6, 2) := by decide +kernel
theorem dX2_strongestDriven_63 : decode cX2_strongestDriven 63 = .ok (.ifCond .eq 29, 3) := by decide +kernel
theorem dX2_strongestDriven_66 : decode cX2_strongestDriven 66 = .ok (.aload_n 0, 1) := by decide +kernel
theorem dX2_strongestDriven_67 : decode cX2_strongestDriven 67 = .ok (.getfield 25, 3) := by decide +kernel
theorem dX2_strongestDriven_70 : decode cX2_strongestDriven 70 = .ok (.iload 5, 2) := by decide +kernel
theorem dX2_strongestDriven_72 : decode cX2_strongestDriven 72 = .ok (.invokestatic 89, 3) := by decide +kernel
theorem dX2_strongestDriven_75 : decode cX2_strongestDriven 75 = .ok (.iload_n 3, 1) := by decide +kernel
theorem dX2_strongestDriven_76 : decode cX2_strongestDriven 76 = .ok (.if_icmp .le 16, 3) := by decide +kernel
theorem dX2_strongestDriven_79 : decode cX2_strongestDriven 79 = .ok (.iload 4, 2) := by decide +kernel
theorem dX2_strongestDriven_81 : decode cX2_strongestDriven 81 = .ok (.istore_n 2, 1) := by decide +kernel
theorem dX2_strongestDriven_82 : decode cX2_strongestDriven 82 = .ok (.aload_n 0, 1) := by decide +kernel
theorem dX2_strongestDriven_83 : decode cX2_strongestDriven 83 = .ok (.getfield 25, 3) := by decide +kernel
theorem dX2_strongestDriven_86 : decode cX2_strongestDriven 86 = .ok (.iload 5, 2) := by decide +kernel
theorem dX2_strongestDriven_88 : decode cX2_strongestDriven 88 = .ok (.invokestatic 89, 3) := by decide +kernel
theorem dX2_strongestDriven_91 : decode cX2_strongestDriven 91 = .ok (.istore_n 3, 1) := by decide +kernel
theorem dX2_strongestDriven_92 : decode cX2_strongestDriven 92 = .ok (.iinc 4 1, 3) := by decide +kernel
theorem dX2_strongestDriven_95 : decode cX2_strongestDriven 95 = .ok (.goto (-88), 3) := by decide +kernel
theorem dX2_strongestDriven_98 : decode cX2_strongestDriven 98 = .ok (.iload_n 2, 1) := by decide +kernel
theorem dX2_strongestDriven_99 : decode cX2_strongestDriven 99 = .ok (.ireturn, 1) := by decide +kernel
set_option maxRecDepth 20000 in
theorem ggX2_retreatField_X4_entry : GoodIn wsX2_retreatField wsX4_entry := goodIn_r _ [5] (by decide +kernel) (by decide +kernel)
set_option maxRecDepth 20000 in
theorem gX2_retreatField_X4_entry_n89 : GoodIn wsX2_retreatField (wsX4_entry) := ggX2_retreatField_X4_entry
set_option maxRecDepth 20000 in
theorem ggX2_retreatField_X0_of : GoodIn wsX2_retreatField wsX0_of := goodIn_r _ [10, 11, 38, 39, 40] (by decide +kernel) (by decide +kernel)
set_option maxRecDepth 20000 in
theorem gX2_retreatField_X0_of : GoodIn wsX2_retreatField (wsV RX2 65 RX0 yX0_of wsX0_of) := goodIn_app (goodIn_of _ (by decide +kernel)) ggX2_retreatField_X0_of
set_option maxRecDepth 20000 in
theorem ggX2_retreatField_X4_areNeighbours : GoodIn wsX2_retreatField wsX4_areNeighbours := goodIn_r _ [13] (by decide +kernel) (by decide +kernel)
set_option maxRecDepth 20000 in
theorem gX2_retreatField_X4_areNeighbours_n115 : GoodIn wsX2_retreatField (wsX4_areNeighbours) := ggX2_retreatField_X4_areNeighbours
set_option maxRecDepth 20000 in
theorem ggX2_retreatField_X2_isTaken : GoodIn wsX2_retreatField wsX2_isTaken := goodIn_r _ [18, 1, 19, 20, 21, 22, 9, 23, 24, 3, 4, 5, 30, 31, 32, 33, 34, 35, 36, 37, 38, 39, 40] (by decide +kernel) (by decide +kernel)
set_option maxRecDepth 20000 in
theorem gX2_retreatField_X2_isTaken : GoodIn wsX2_retreatField (wsV RX2 119 RX2 yX2_isTaken wsX2_isTaken) := goodIn_app (goodIn_of _ (by decide +kernel)) ggX2_retreatField_X2_isTaken
set_option maxRecDepth 20000 in
theorem ggX2_retreatField_X2_wasFoughtFor : GoodIn wsX2_retreatField wsX2_wasFoughtFor := goodIn_r _ [28, 1, 29, 20, 21, 22, 9, 23, 24, 3, 4, 5, 6, 7, 8, 10, 11, 30, 31, 32, 33, 34, 35, 36, 37, 38, 39, 40] (by decide +kernel) (by decide +kernel)
set_option maxRecDepth 20000 in
theorem gX2_retreatField_X2_wasFoughtFor : GoodIn wsX2_retreatField (wsV RX2 122 RX2 yX2_wasFoughtFor wsX2_wasFoughtFor) := goodIn_app (goodIn_of _ (by decide +kernel)) ggX2_retreatField_X2_wasFoughtFor
theorem dX2_retreatField_0 : decode cX2_retreatField 0 = .ok (.aload_n 0, 1) := by decide +kernel
theorem dX2_retreatField_1 : decode cX2_retreatField 1 = .ok (.getfield 12, 3) := by decide +kernel
theorem dX2_retreatField_4 : decode cX2_retreatField 4 = .ok (.aload_n 0, 1) := by decide +kernel
theorem dX2_retreatField_5 : decode cX2_retreatField 5 = .ok (.getfield 31, 3) := by decide +kernel
theorem dX2_retreatField_8 : decode cX2_retreatField 8 = .ok (.iload_n 1, 1) := by decide +kernel
theorem dX2_retreatField_9 : decode cX2_retreatField 9 = .ok (.invokestatic 89, 3) := by decide +kernel
theorem dX2_retreatField_12 : decode cX2_retreatField 12 = .ok (.iconst 1, 1) := by decide +kernel
theorem dX2_retreatField_13 : decode cX2_retreatField 13 = .ok (.invokevirtual 65, 3) := by decide +kernel
theorem dX2_retreatField_16 : decode cX2_retreatField 16 = .ok (.istore_n 2, 1) := by decide +kernel
theorem dX2_retreatField_17 : decode cX2_retreatField 17 = .ok (.iconst 0, 1) := by decide +kernel
theorem dX2_retreatField_18 : decode cX2_retreatField 18 = .ok (.istore_n 3, 1) := by decide +kernel
theorem dX2_retreatField_19 : decode cX2_retreatField 19 = .ok (.iload_n 3, 1) := by decide +kernel
theorem dX2_retreatField_20 : decode cX2_retreatField 20 = .ok (.bipush 12, 2) := by decide +kernel
theorem dX2_retreatField_22 : decode cX2_retreatField 22 = .ok (.if_icmp .ge 48, 3) := by decide +kernel
theorem dX2_retreatField_25 : decode cX2_retreatField 25 = .ok (.aload_n 0, 1) := by decide +kernel
theorem dX2_retreatField_26 : decode cX2_retreatField 26 = .ok (.getfield 12, 3) := by decide +kernel
theorem dX2_retreatField_29 : decode cX2_retreatField 29 = .ok (.iload_n 1, 1) := by decide +kernel
theorem dX2_retreatField_30 : decode cX2_retreatField 30 = .ok (.iconst 1, 1) := by decide +kernel
theorem dX2_retreatField_31 : decode cX2_retreatField 31 = .ok (.invokevirtual 65, 3) := by decide +kernel
theorem dX2_retreatField_34 : decode cX2_retreatField 34 = .ok (.iload_n 3, 1) := by decide +kernel
theorem dX2_retreatField_35 : decode cX2_retreatField 35 = .ok (.invokestatic 115, 3) := by decide +kernel
theorem dX2_retreatField_38 : decode cX2_retreatField 38 = .ok (.ifCond .eq 26, 3) := by decide +kernel
theorem dX2_retreatField_41 : decode cX2_retreatField 41 = .ok (.iload_n 3, 1) := by decide +kernel
theorem dX2_retreatField_42 : decode cX2_retreatField 42 = .ok (.iload_n 2, 1) := by decide +kernel
theorem dX2_retreatField_43 : decode cX2_retreatField 43 = .ok (.if_icmp .eq 21, 3) := by decide +kernel
theorem dX2_retreatField_46 : decode cX2_retreatField 46 = .ok (.aload_n 0, 1) := by decide +kernel
theorem dX2_retreatField_47 : decode cX2_retreatField 47 = .ok (.iload_n 3, 1) := by decide +kernel
theorem dX2_retreatField_48 : decode cX2_retreatField 48 = .ok (.invokevirtual 119, 3) := by decide +kernel
theorem dX2_retreatField_51 : decode cX2_retreatField 51 = .ok (.ifCond .ne 13, 3) := by decide +kernel
theorem dX2_retreatField_54 : decode cX2_retreatField 54 = .ok (.aload_n 0, 1) := by decide +kernel
theorem dX2_retreatField_55 : decode cX2_retreatField 55 = .ok (.iload_n 3, 1) := by decide +kernel
theorem dX2_retreatField_56 : decode cX2_retreatField 56 = .ok (.invokevirtual 122, 3) := by decide +kernel
theorem dX2_retreatField_59 : decode cX2_retreatField 59 = .ok (.ifCond .ne 5, 3) := by decide +kernel
theorem dX2_retreatField_62 : decode cX2_retreatField 62 = .ok (.iload_n 3, 1) := by decide +kernel
theorem dX2_retreatField_63 : decode cX2_retreatField 63 = .ok (.ireturn, 1) := by decide +kernel
theorem dX2_retreatField_64 : decode cX2_retreatField 64 = .ok (.iinc 3 1, 3) := by decide +kernel
theorem dX2_retreatField_67 : decode cX2_retreatField 67 = .ok (.goto (-48), 3) := by decide +kernel
theorem dX2_retreatField_70 : decode cX2_retreatField 70 = .ok (.iconst (-1), 1) := by decide +kernel
theorem dX2_retreatField_71 : decode cX2_retreatField 71 = .ok (.ireturn, 1) := by decide +kernel
set_option maxRecDepth 20000 in
theorem ggX2_isTaken_X0_number : GoodIn wsX2_isTaken wsX0_number := goodIn_r _ [7, 8, 20, 21, 22] (by decide +kernel) (by decide +kernel)
set_option maxRecDepth 20000 in
theorem gX2_isTaken_X0_number : GoodIn wsX2_isTaken (wsV RX2 61 RX0 yX0_number wsX0_number) := goodIn_app (goodIn_of _ (by decide +kernel)) ggX2_isTaken_X0_number
set_option maxRecDepth 20000 in
theorem ggX2_isTaken_X4_entry : GoodIn wsX2_isTaken wsX4_entry := goodIn_r _ [11] (by decide +kernel) (by decide +kernel)
set_option maxRecDepth 20000 in
theorem gX2_isTaken_X4_entry_n89 : GoodIn wsX2_isTaken (wsX4_entry) := ggX2_isTaken_X4_entry
theorem dX2_isTaken_0 : decode cX2_isTaken 0 = .ok (.iconst 0, 1) := by decide +kernel
theorem dX2_isTaken_1 : decode cX2_isTaken 1 = .ok (.istore_n 2, 1) := by decide +kernel
theorem dX2_isTaken_2 : decode cX2_isTaken 2 = .ok (.iload_n 2, 1) := by decide +kernel
theorem dX2_isTaken_3 : decode cX2_isTaken 3 = .ok (.aload_n 0, 1) := by decide +kernel
theorem dX2_isTaken_4 : decode cX2_isTaken 4 = .ok (.getfield 12, 3) := by decide +kernel
theorem dX2_isTaken_7 : decode cX2_isTaken 7 = .ok (.iconst 0, 1) := by decide +kernel
theorem dX2_isTaken_8 : decode cX2_isTaken 8 = .ok (.invokevirtual 61, 3) := by decide +kernel
theorem dX2_isTaken_11 : decode cX2_isTaken 11 = .ok (.if_icmp .ge 23, 3) := by decide +kernel
theorem dX2_isTaken_14 : decode cX2_isTaken 14 = .ok (.aload_n 0, 1) := by decide +kernel
theorem dX2_isTaken_15 : decode cX2_isTaken 15 = .ok (.getfield 37, 3) := by decide +kernel
theorem dX2_isTaken_18 : decode cX2_isTaken 18 = .ok (.iload_n 2, 1) := by decide +kernel
theorem dX2_isTaken_19 : decode cX2_isTaken 19 = .ok (.invokestatic 89, 3) := by decide +kernel
theorem dX2_isTaken_22 : decode cX2_isTaken 22 = .ok (.iload_n 1, 1) := by decide +kernel
theorem dX2_isTaken_23 : decode cX2_isTaken 23 = .ok (.if_icmp .ne 5, 3) := by decide +kernel
theorem dX2_isTaken_26 : decode cX2_isTaken 26 = .ok (.iconst 1, 1) := by decide +kernel
theorem dX2_isTaken_27 : decode cX2_isTaken 27 = .ok (.ireturn, 1) := by decide +kernel
theorem dX2_isTaken_28 : decode cX2_isTaken 28 = .ok (.iinc 2 1, 3) := by decide +kernel
theorem dX2_isTaken_31 : decode cX2_isTaken 31 = .ok (.goto (-29), 3) := by decide +kernel
theorem dX2_isTaken_34 : decode cX2_isTaken 34 = .ok (.iconst 0, 1) := by decide +kernel
theorem dX2_isTaken_35 : decode cX2_isTaken 35 = .ok (.ireturn, 1) := by decide +kernel
set_option maxRecDepth 20000 in
theorem ggX2_wasFoughtFor_X0_number : GoodIn wsX2_wasFoughtFor wsX0_number := goodIn_r _ [7, 8, 25, 26, 27] (by decide +kernel) (by decide +kernel)
set_option maxRecDepth 20000 in
theorem gX2_wasFoughtFor_X0_number : GoodIn wsX2_wasFoughtFor (wsV RX2 61 RX0 yX0_number wsX0_number) := goodIn_app (goodIn_of _ (by decide +kernel)) ggX2_wasFoughtFor_X0_number
set_option maxRecDepth 20000 in
theorem ggX2_wasFoughtFor_X4_entry : GoodIn wsX2_wasFoughtFor wsX4_entry := goodIn_r _ [11] (by decide +kernel) (by decide +kernel)
set_option maxRecDepth 20000 in
theorem gX2_wasFoughtFor_X4_entry_n89 : GoodIn wsX2_wasFoughtFor (wsX4_entry) := ggX2_wasFoughtFor_X4_entry
set_option maxRecDepth 20000 in
theorem ggX2_wasFoughtFor_X0_of : GoodIn wsX2_wasFoughtFor wsX0_of := goodIn_r _ [15, 16, 25, 26, 27] (by decide +kernel) (by decide +kernel)
set_option maxRecDepth 20000 in
theorem gX2_wasFoughtFor_X0_of : GoodIn wsX2_wasFoughtFor (wsV RX2 65 RX0 yX0_of wsX0_of) := goodIn_app (goodIn_of _ (by decide +kernel)) ggX2_wasFoughtFor_X0_of
theorem dX2_wasFoughtFor_0 : decode cX2_wasFoughtFor 0 = .ok (.iconst 0, 1) := by decide +kernel
theorem dX2_wasFoughtFor_1 : decode cX2_wasFoughtFor 1 = .ok (.istore_n 2, 1) := by decide +kernel
theorem dX2_wasFoughtFor_2 : decode cX2_wasFoughtFor 2 = .ok (.iload_n 2, 1) := by decide +kernel
theorem dX2_wasFoughtFor_3 : decode cX2_wasFoughtFor 3 = .ok (.aload_n 0, 1) := by decide +kernel
theorem dX2_wasFoughtFor_4 : decode cX2_wasFoughtFor 4 = .ok (.getfield 12, 3) := by decide +kernel
theorem dX2_wasFoughtFor_7 : decode cX2_wasFoughtFor 7 = .ok (.iconst 0, 1) := by decide +kernel
theorem dX2_wasFoughtFor_8 : decode cX2_wasFoughtFor 8 = .ok (.invokevirtual 61, 3) := by decide +kernel
theorem dX2_wasFoughtFor_11 : decode cX2_wasFoughtFor 11 = .ok (.if_icmp .ge 36, 3) := by decide +kernel
theorem dX2_wasFoughtFor_14 : decode cX2_wasFoughtFor 14 = .ok (.aload_n 0, 1) := by decide +kernel
theorem dX2_wasFoughtFor_15 : decode cX2_wasFoughtFor 15 = .ok (.getfield 28, 3) := by decide +kernel
theorem dX2_wasFoughtFor_18 : decode cX2_wasFoughtFor 18 = .ok (.iload_n 2, 1) := by decide +kernel
theorem dX2_wasFoughtFor_19 : decode cX2_wasFoughtFor 19 = .ok (.invokestatic 89, 3) := by decide +kernel
theorem dX2_wasFoughtFor_22 : decode cX2_wasFoughtFor 22 = .ok (.iconst 1, 1) := by decide +kernel
theorem dX2_wasFoughtFor_23 : decode cX2_wasFoughtFor 23 = .ok (.if_icmp .ne 18, 3) := by decide +kernel
theorem dX2_wasFoughtFor_26 : decode cX2_wasFoughtFor 26 = .ok (.aload_n 0, 1) := by decide +kernel
theorem dX2_wasFoughtFor_27 : decode cX2_wasFoughtFor 27 = .ok (.getfield 12, 3) := by decide +kernel
theorem dX2_wasFoughtFor_30 : decode cX2_wasFoughtFor 30 = .ok (.iload_n 2, 1) := by decide +kernel
theorem dX2_wasFoughtFor_31 : decode cX2_wasFoughtFor 31 = .ok (.iconst 3, 1) := by decide +kernel
theorem dX2_wasFoughtFor_32 : decode cX2_wasFoughtFor 32 = .ok (.invokevirtual 65, 3) := by decide +kernel
theorem dX2_wasFoughtFor_35 : decode cX2_wasFoughtFor 35 = .ok (.iload_n 1, 1) := by decide +kernel
theorem dX2_wasFoughtFor_36 : decode cX2_wasFoughtFor 36 = .ok (.if_icmp .ne 5, 3) := by decide +kernel
theorem dX2_wasFoughtFor_39 : decode cX2_wasFoughtFor 39 = .ok (.iconst 1, 1) := by decide +kernel
theorem dX2_wasFoughtFor_40 : decode cX2_wasFoughtFor 40 = .ok (.ireturn, 1) := by decide +kernel
theorem dX2_wasFoughtFor_41 : decode cX2_wasFoughtFor 41 = .ok (.iinc 2 1, 3) := by decide +kernel
theorem dX2_wasFoughtFor_44 : decode cX2_wasFoughtFor 44 = .ok (.goto (-42), 3) := by decide +kernel
theorem dX2_wasFoughtFor_47 : decode cX2_wasFoughtFor 47 = .ok (.iconst 0, 1) := by decide +kernel
theorem dX2_wasFoughtFor_48 : decode cX2_wasFoughtFor 48 = .ok (.ireturn, 1) := by decide +kernel
set_option maxRecDepth 20000 in
theorem ggX2_outcome_X4_entry : GoodIn wsX2_outcome wsX4_entry := goodIn_r _ [9] (by decide +kernel) (by decide +kernel)
set_option maxRecDepth 20000 in
theorem gX2_outcome_X4_entry_n89 : GoodIn wsX2_outcome (wsX4_entry) := ggX2_outcome_X4_entry
theorem dX2_outcome_0 : decode cX2_outcome 0 = .ok (.iload_n 2, 1) := by decide +kernel
theorem dX2_outcome_1 : decode cX2_outcome 1 = .ok (.tableswitch 89 0 4 #[35, 44, 53, 62, 80], 35) := by decide +kernel
theorem dX2_outcome_36 : decode cX2_outcome 36 = .ok (.aload_n 0, 1) := by decide +kernel
theorem dX2_outcome_37 : decode cX2_outcome 37 = .ok (.getfield 37, 3) := by decide +kernel
theorem dX2_outcome_40 : decode cX2_outcome 40 = .ok (.iload_n 1, 1) := by decide +kernel
theorem dX2_outcome_41 : decode cX2_outcome 41 = .ok (.invokestatic 89, 3) := by decide +kernel
theorem dX2_outcome_44 : decode cX2_outcome 44 = .ok (.ireturn, 1) := by decide +kernel
theorem dX2_outcome_45 : decode cX2_outcome 45 = .ok (.aload_n 0, 1) := by decide +kernel
theorem dX2_outcome_46 : decode cX2_outcome 46 = .ok (.getfield 25, 3) := by decide +kernel
theorem dX2_outcome_49 : decode cX2_outcome 49 = .ok (.iload_n 1, 1) := by decide +kernel
theorem dX2_outcome_50 : decode cX2_outcome 50 = .ok (.invokestatic 89, 3) := by decide +kernel
theorem dX2_outcome_53 : decode cX2_outcome 53 = .ok (.ireturn, 1) := by decide +kernel
theorem dX2_outcome_54 : decode cX2_outcome 54 = .ok (.aload_n 0, 1) := by decide +kernel
theorem dX2_outcome_55 : decode cX2_outcome 55 = .ok (.getfield 28, 3) := by decide +kernel
theorem dX2_outcome_58 : decode cX2_outcome 58 = .ok (.iload_n 1, 1) := by decide +kernel
theorem dX2_outcome_59 : decode cX2_outcome 59 = .ok (.invokestatic 89, 3) := by decide +kernel
theorem dX2_outcome_62 : decode cX2_outcome 62 = .ok (.ireturn, 1) := by decide +kernel
theorem dX2_outcome_63 : decode cX2_outcome 63 = .ok (.aload_n 0, 1) := by decide +kernel
theorem dX2_outcome_64 : decode cX2_outcome 64 = .ok (.getfield 31, 3) := by decide +kernel
theorem dX2_outcome_67 : decode cX2_outcome 67 = .ok (.iload_n 1, 1) := by decide +kernel
theorem dX2_outcome_68 : decode cX2_outcome 68 = .ok (.invokestatic 89, 3) := by decide +kernel
theorem dX2_outcome_71 : decode cX2_outcome 71 = .ok (.iconst (-1), 1) := by decide +kernel
theorem dX2_outcome_72 : decode cX2_outcome 72 = .ok (.if_icmp .ne 7, 3) := by decide +kernel
theorem dX2_outcome_75 : decode cX2_outcome 75 = .ok (.iconst 0, 1) := by decide +kernel
theorem dX2_outcome_76 : decode cX2_outcome 76 = .ok (.goto 4, 3) := by decide +kernel
theorem dX2_outcome_79 : decode cX2_outcome 79 = .ok (.iconst 1, 1) := by decide +kernel
theorem dX2_outcome_80 : decode cX2_outcome 80 = .ok (.ireturn, 1) := by decide +kernel
theorem dX2_outcome_81 : decode cX2_outcome 81 = .ok (.aload_n 0, 1) := by decide +kernel
theorem dX2_outcome_82 : decode cX2_outcome 82 = .ok (.getfield 22, 3) := by decide +kernel
theorem dX2_outcome_85 : decode cX2_outcome 85 = .ok (.iload_n 1, 1) := by decide +kernel
theorem dX2_outcome_86 : decode cX2_outcome 86 = .ok (.invokestatic 89, 3) := by decide +kernel
theorem dX2_outcome_89 : decode cX2_outcome 89 = .ok (.ireturn, 1) := by decide +kernel
theorem dX2_outcome_90 : decode cX2_outcome 90 = .ok (.aload_n 0, 1) := by decide +kernel
theorem dX2_outcome_91 : decode cX2_outcome 91 = .ok (.getfield 18, 3) := by decide +kernel
theorem dX2_outcome_94 : decode cX2_outcome 94 = .ok (.iload_n 1, 1) := by decide +kernel
theorem dX2_outcome_95 : decode cX2_outcome 95 = .ok (.invokestatic 89, 3) := by decide +kernel
theorem dX2_outcome_98 : decode cX2_outcome 98 = .ok (.ireturn, 1) := by decide +kernel
set_option maxRecDepth 20000 in
theorem ggX2_mostInDanger_X2_strongestDriven : GoodIn wsX2_mostInDanger wsX2_strongestDriven := goodIn_r _ [5, 6, 7, 8, 9, 10, 11, 12, 13, 14, 15, 16, 17, 18, 19, 20, 21, 22, 23, 24, 25, 26, 27, 28, 29] (by decide +kernel) (by decide +kernel)
set_option maxRecDepth 20000 in
theorem gX2_mostInDanger_X2_strongestDriven : GoodIn wsX2_mostInDanger (wsV RX2 108 RX2 yX2_strongestDriven wsX2_strongestDriven) := goodIn_app (goodIn_of _ (by decide +kernel)) ggX2_mostInDanger_X2_strongestDriven
theorem dX2_mostInDanger_0 : decode cX2_mostInDanger 0 = .ok (.aload_n 0, 1) := by decide +kernel
theorem dX2_mostInDanger_1 : decode cX2_mostInDanger 1 = .ok (.iconst 0, 1) := by decide +kernel
theorem dX2_mostInDanger_2 : decode cX2_mostInDanger 2 = .ok (.invokevirtual 108, 3) := by decide +kernel
theorem dX2_mostInDanger_5 : decode cX2_mostInDanger 5 = .ok (.ireturn, 1) := by decide +kernel
set_option maxRecDepth 20000 in
theorem ggX2_centresThen_X4_isCentre : GoodIn wsX2_centresThen wsX4_isCentre := goodIn_r _ [3] (by decide +kernel) (by decide +kernel)
set_option maxRecDepth 20000 in
theorem gX2_centresThen_X4_isCentre_n125 : GoodIn wsX2_centresThen (wsX4_isCentre) := ggX2_centresThen_X4_isCentre
set_option maxRecDepth 20000 in
theorem ggX2_centresThen_X2_ownerThen : GoodIn wsX2_centresThen wsX2_ownerThen := goodIn_r _ [8, 9, 10, 11, 12, 13, 14, 15, 16, 17, 2, 18, 19, 20, 21, 22, 23, 24, 25, 26, 27, 28, 29, 30, 31, 32, 33, 34, 35, 36, 37, 38, 39] (by decide +kernel) (by decide +kernel)
set_option maxRecDepth 20000 in
theorem gX2_centresThen_X2_ownerThen : GoodIn wsX2_centresThen (wsV RX2 128 RX2 yX2_ownerThen wsX2_ownerThen) := goodIn_app (goodIn_of _ (by decide +kernel)) ggX2_centresThen_X2_ownerThen
theorem dX2_centresThen_0 : decode cX2_centresThen 0 = .ok (.iconst 0, 1) := by decide +kernel
theorem dX2_centresThen_1 : decode cX2_centresThen 1 = .ok (.istore_n 2, 1) := by decide +kernel
theorem dX2_centresThen_2 : decode cX2_centresThen 2 = .ok (.iconst 0, 1) := by decide +kernel
theorem dX2_centresThen_3 : decode cX2_centresThen 3 = .ok (.istore_n 3, 1) := by decide +kernel
theorem dX2_centresThen_4 : decode cX2_centresThen 4 = .ok (.iload_n 3, 1) := by decide +kernel
theorem dX2_centresThen_5 : decode cX2_centresThen 5 = .ok (.bipush 12, 2) := by decide +kernel
theorem dX2_centresThen_7 : decode cX2_centresThen 7 = .ok (.if_icmp .ge 33, 3) := by decide +kernel
theorem dX2_centresThen_10 : decode cX2_centresThen 10 = .ok (.iload_n 2, 1) := by decide +kernel
theorem dX2_centresThen_11 : decode cX2_centresThen 11 = .ok (.iload_n 3, 1) := by decide +kernel
theorem dX2_centresThen_12 : decode cX2_centresThen 12 = .ok (.invokestatic 125, 3) := by decide +kernel
theorem dX2_centresThen_15 : decode cX2_centresThen 15 = .ok (.ifCond .eq 16, 3) := by decide +kernel
theorem dX2_centresThen_18 : decode cX2_centresThen 18 = .ok (.aload_n 0, 1) := by decide +kernel
theorem dX2_centresThen_19 : decode cX2_centresThen 19 = .ok (.iload_n 3, 1) := by decide +kernel
theorem dX2_centresThen_20 : decode cX2_centresThen 20 = .ok (.invokevirtual 128, 3) := by decide +kernel
theorem dX2_centresThen_23 : decode cX2_centresThen 23 = .ok (.iload_n 1, 1) := by decide +kernel
theorem dX2_centresThen_24 : decode cX2_centresThen 24 = .ok (.if_icmp .ne 7, 3) := by decide +kernel
theorem dX2_centresThen_27 : decode cX2_centresThen 27 = .ok (.iconst 1, 1) := by decide +kernel
theorem dX2_centresThen_28 : decode cX2_centresThen 28 = .ok (.goto 4, 3) := by decide +kernel
theorem dX2_centresThen_31 : decode cX2_centresThen 31 = .ok (.iconst 0, 1) := by decide +kernel
theorem dX2_centresThen_32 : decode cX2_centresThen 32 = .ok (.iadd, 1) := by decide +kernel
theorem dX2_centresThen_33 : decode cX2_centresThen 33 = .ok (.istore_n 2, 1) := by decide +kernel
theorem dX2_centresThen_34 : decode cX2_centresThen 34 = .ok (.iinc 3 1, 3) := by decide +kernel
theorem dX2_centresThen_37 : decode cX2_centresThen 37 = .ok (.goto (-33), 3) := by decide +kernel
theorem dX2_centresThen_40 : decode cX2_centresThen 40 = .ok (.iload_n 2, 1) := by decide +kernel
theorem dX2_centresThen_41 : decode cX2_centresThen 41 = .ok (.ireturn, 1) := by decide +kernel
set_option maxRecDepth 20000 in
theorem ggX2_ownerThen_X0_number : GoodIn wsX2_ownerThen wsX0_number := goodIn_r _ [7, 8, 30, 31, 32] (by decide +kernel) (by decide +kernel)
set_option maxRecDepth 20000 in
theorem gX2_ownerThen_X0_number : GoodIn wsX2_ownerThen (wsV RX2 61 RX0 yX0_number wsX0_number) := goodIn_app (goodIn_of _ (by decide +kernel)) ggX2_ownerThen_X0_number
set_option maxRecDepth 20000 in
theorem ggX2_ownerThen_X4_entry : GoodIn wsX2_ownerThen wsX4_entry := goodIn_r _ [11] (by decide +kernel) (by decide +kernel)
set_option maxRecDepth 20000 in
theorem gX2_ownerThen_X4_entry_n89 : GoodIn wsX2_ownerThen (wsX4_entry) := ggX2_ownerThen_X4_entry
set_option maxRecDepth 20000 in
theorem ggX2_ownerThen_X0_of : GoodIn wsX2_ownerThen wsX0_of := goodIn_r _ [15, 16, 30, 31, 32] (by decide +kernel) (by decide +kernel)
set_option maxRecDepth 20000 in
theorem gX2_ownerThen_X0_of : GoodIn wsX2_ownerThen (wsV RX2 65 RX0 yX0_of wsX0_of) := goodIn_app (goodIn_of _ (by decide +kernel)) ggX2_ownerThen_X0_of
set_option maxRecDepth 20000 in
theorem ggX2_ownerThen_X0_owner : GoodIn wsX2_ownerThen wsX0_owner := goodIn_r _ [20, 21, 30, 31, 32] (by decide +kernel) (by decide +kernel)
set_option maxRecDepth 20000 in
theorem gX2_ownerThen_X0_owner : GoodIn wsX2_ownerThen (wsV RX2 131 RX0 yX0_owner wsX0_owner) := goodIn_app (goodIn_of _ (by decide +kernel)) ggX2_ownerThen_X0_owner
theorem dX2_ownerThen_0 : decode cX2_ownerThen 0 = .ok (.iconst 0, 1) := by decide +kernel
theorem dX2_ownerThen_1 : decode cX2_ownerThen 1 = .ok (.istore_n 2, 1) := by decide +kernel
theorem dX2_ownerThen_2 : decode cX2_ownerThen 2 = .ok (.iload_n 2, 1) := by decide +kernel
theorem dX2_ownerThen_3 : decode cX2_ownerThen 3 = .ok (.aload_n 0, 1) := by decide +kernel
theorem dX2_ownerThen_4 : decode cX2_ownerThen 4 = .ok (.getfield 12, 3) := by decide +kernel
theorem dX2_ownerThen_7 : decode cX2_ownerThen 7 = .ok (.iconst 0, 1) := by decide +kernel
theorem dX2_ownerThen_8 : decode cX2_ownerThen 8 = .ok (.invokevirtual 61, 3) := by decide +kernel
theorem dX2_ownerThen_11 : decode cX2_ownerThen 11 = .ok (.if_icmp .ge 31, 3) := by decide +kernel
theorem dX2_ownerThen_14 : decode cX2_ownerThen 14 = .ok (.aload_n 0, 1) := by decide +kernel
theorem dX2_ownerThen_15 : decode cX2_ownerThen 15 = .ok (.getfield 37, 3) := by decide +kernel
theorem dX2_ownerThen_18 : decode cX2_ownerThen 18 = .ok (.iload_n 2, 1) := by decide +kernel
theorem dX2_ownerThen_19 : decode cX2_ownerThen 19 = .ok (.invokestatic 89, 3) := by decide +kernel
theorem dX2_ownerThen_22 : decode cX2_ownerThen 22 = .ok (.iload_n 1, 1) := by decide +kernel
theorem dX2_ownerThen_23 : decode cX2_ownerThen 23 = .ok (.if_icmp .ne 13, 3) := by decide +kernel
theorem dX2_ownerThen_26 : decode cX2_ownerThen 26 = .ok (.aload_n 0, 1) := by decide +kernel
theorem dX2_ownerThen_27 : decode cX2_ownerThen 27 = .ok (.getfield 12, 3) := by decide +kernel
theorem dX2_ownerThen_30 : decode cX2_ownerThen 30 = .ok (.iload_n 2, 1) := by decide +kernel
theorem dX2_ownerThen_31 : decode cX2_ownerThen 31 = .ok (.iconst 0, 1) := by decide +kernel
theorem dX2_ownerThen_32 : decode cX2_ownerThen 32 = .ok (.invokevirtual 65, 3) := by decide +kernel
theorem dX2_ownerThen_35 : decode cX2_ownerThen 35 = .ok (.ireturn, 1) := by decide +kernel
theorem dX2_ownerThen_36 : decode cX2_ownerThen 36 = .ok (.iinc 2 1, 3) := by decide +kernel
theorem dX2_ownerThen_39 : decode cX2_ownerThen 39 = .ok (.goto (-37), 3) := by decide +kernel
theorem dX2_ownerThen_42 : decode cX2_ownerThen 42 = .ok (.aload_n 0, 1) := by decide +kernel
theorem dX2_ownerThen_43 : decode cX2_ownerThen 43 = .ok (.getfield 12, 3) := by decide +kernel
theorem dX2_ownerThen_46 : decode cX2_ownerThen 46 = .ok (.iload_n 1, 1) := by decide +kernel
theorem dX2_ownerThen_47 : decode cX2_ownerThen 47 = .ok (.invokevirtual 131, 3) := by decide +kernel
theorem dX2_ownerThen_50 : decode cX2_ownerThen 50 = .ok (.ireturn, 1) := by decide +kernel
set_option maxRecDepth 20000 in
theorem ggX2_carryOut_X0_number : GoodIn wsX2_carryOut wsX0_number := goodIn_r _ [7, 8, 110, 111, 112] (by decide +kernel) (by decide +kernel)
set_option maxRecDepth 20000 in
theorem gX2_carryOut_X0_number : GoodIn wsX2_carryOut (wsV RX2 61 RX0 yX0_number wsX0_number) := goodIn_app (goodIn_of _ (by decide +kernel)) ggX2_carryOut_X0_number
set_option maxRecDepth 20000 in
theorem ggX2_carryOut_X2_moves : GoodIn wsX2_carryOut wsX2_moves := goodIn_r _ [13, 1, 14, 15, 16, 6, 17, 18, 102, 103, 104, 105, 106, 107, 108, 109, 110, 111, 112] (by decide +kernel) (by decide +kernel)
set_option maxRecDepth 20000 in
theorem gX2_carryOut_X2_moves : GoodIn wsX2_carryOut (wsV RX2 80 RX2 yX2_moves wsX2_moves) := goodIn_app (goodIn_of _ (by decide +kernel)) ggX2_carryOut_X2_moves
set_option maxRecDepth 20000 in
theorem ggX2_carryOut_X2_goes : GoodIn wsX2_carryOut wsX2_goes := goodIn_r _ [22, 1, 23, 14, 15, 16, 6, 17, 18, 24, 25, 26, 102, 103, 104, 105, 106, 107, 108, 109, 110, 111, 112] (by decide +kernel) (by decide +kernel)
set_option maxRecDepth 20000 in
theorem gX2_carryOut_X2_goes : GoodIn wsX2_carryOut (wsV RX2 99 RX2 yX2_goes wsX2_goes) := goodIn_app (goodIn_of _ (by decide +kernel)) ggX2_carryOut_X2_goes
set_option maxRecDepth 20000 in
theorem ggX2_carryOut_X2_countMove : GoodIn wsX2_carryOut wsX2_countMove := goodIn_r _ [30, 1, 14, 15, 16, 6, 17, 18, 31, 32, 33, 34, 35, 36, 37, 38, 8, 39, 4, 5, 7, 40, 25, 41, 102, 103, 104, 105, 106, 107, 108, 109, 110, 111, 112] (by decide +kernel) (by decide +kernel)
set_option maxRecDepth 20000 in
theorem gX2_carryOut_X2_countMove : GoodIn wsX2_carryOut (wsV RX2 134 RX2 yX2_countMove wsX2_countMove) := goodIn_app (goodIn_of _ (by decide +kernel)) ggX2_carryOut_X2_countMove
set_option maxRecDepth 20000 in
theorem ggX2_carryOut_X4_entry : GoodIn wsX2_carryOut wsX4_entry := goodIn_r _ [26] (by decide +kernel) (by decide +kernel)
set_option maxRecDepth 20000 in
theorem gX2_carryOut_X4_entry_n89 : GoodIn wsX2_carryOut (wsX4_entry) := ggX2_carryOut_X4_entry
set_option maxRecDepth 20000 in
theorem ggX2_carryOut_X0_countOne : GoodIn wsX2_carryOut wsX0_countOne := goodIn_r _ [38, 8, 39, 4, 5, 6, 7, 40, 25, 41, 110, 111, 112] (by decide +kernel) (by decide +kernel)
set_option maxRecDepth 20000 in
theorem gX2_carryOut_X0_countOne : GoodIn wsX2_carryOut (wsV RX2 138 RX0 yX0_countOne wsX0_countOne) := goodIn_app (goodIn_of _ (by decide +kernel)) ggX2_carryOut_X0_countOne
set_option maxRecDepth 20000 in
theorem ggX2_carryOut_X2_settle : GoodIn wsX2_carryOut wsX2_settle := goodIn_r _ [45, 1, 46, 3, 4, 5, 6, 7, 8, 24, 25, 26, 31, 32, 33, 34, 18, 47, 48, 49, 50, 51, 15, 16, 17, 52, 53, 54, 55, 56, 39, 40, 41, 35, 36, 37, 38, 102, 103, 104, 105, 106, 107, 108, 109, 110, 111, 112] (by decide +kernel) (by decide +kernel)
set_option maxRecDepth 20000 in
theorem gX2_carryOut_X2_settle : GoodIn wsX2_carryOut (wsV RX2 142 RX2 yX2_settle wsX2_settle) := goodIn_app (goodIn_of _ (by decide +kernel)) ggX2_carryOut_X2_settle
set_option maxRecDepth 20000 in
theorem ggX2_carryOut_X0_beginNextSeason : GoodIn wsX2_carryOut wsX0_beginNextSeason := goodIn_r _ [60, 8, 39, 4, 5, 6, 7, 40, 25, 41, 61, 62, 63, 64, 65, 66, 67, 68, 69, 51, 15, 16, 17, 18, 70, 71, 72, 73, 74, 75, 76, 77, 78, 79, 80, 81, 82, 83, 84, 85, 86, 87, 88, 54, 55, 56, 52, 32, 33, 34, 89, 36, 37, 38, 90, 91, 92, 93, 94, 95, 96, 97, 98, 99, 100, 101, 110, 111, 112] (by decide +kernel) (by decide +kernel)
set_option maxRecDepth 20000 in
theorem gX2_carryOut_X0_beginNextSeason : GoodIn wsX2_carryOut (wsV RX2 145 RX0 yX0_beginNextSeason wsX0_beginNextSeason) := goodIn_app (goodIn_of _ (by decide +kernel)) ggX2_carryOut_X0_beginNextSeason
theorem dX2_carryOut_0 : decode cX2_carryOut 0 = .ok (.iconst 0, 1) := by decide +kernel
theorem dX2_carryOut_1 : decode cX2_carryOut 1 = .ok (.istore_n 1, 1) := by decide +kernel
theorem dX2_carryOut_2 : decode cX2_carryOut 2 = .ok (.iconst 0, 1) := by decide +kernel
theorem dX2_carryOut_3 : decode cX2_carryOut 3 = .ok (.istore_n 2, 1) := by decide +kernel
theorem dX2_carryOut_4 : decode cX2_carryOut 4 = .ok (.iload_n 2, 1) := by decide +kernel
theorem dX2_carryOut_5 : decode cX2_carryOut 5 = .ok (.aload_n 0, 1) := by decide +kernel
theorem dX2_carryOut_6 : decode cX2_carryOut 6 = .ok (.getfield 12, 3) := by decide +kernel
theorem dX2_carryOut_9 : decode cX2_carryOut 9 = .ok (.iconst 0, 1) := by decide +kernel
theorem dX2_carryOut_10 : decode cX2_carryOut 10 = .ok (.invokevirtual 61, 3) := by decide +kernel
theorem dX2_carryOut_13 : decode cX2_carryOut 13 = .ok (.if_icmp .ge 64, 3) := by decide +kernel
theorem dX2_carryOut_16 : decode cX2_carryOut 16 = .ok (.aload_n 0, 1) := by decide +kernel
theorem dX2_carryOut_17 : decode cX2_carryOut 17 = .ok (.iload_n 2, 1) := by decide +kernel
theorem dX2_carryOut_18 : decode cX2_carryOut 18 = .ok (.invokevirtual 80, 3) := by decide +kernel
theorem dX2_carryOut_21 : decode cX2_carryOut 21 = .ok (.ifCond .eq 29, 3) := by decide +kernel
theorem dX2_carryOut_24 : decode cX2_carryOut 24 = .ok (.iload_n 1, 1) := by decide +kernel
theorem dX2_carryOut_25 : decode cX2_carryOut 25 = .ok (.aload_n 0, 1) := by decide +kernel
theorem dX2_carryOut_26 : decode cX2_carryOut 26 = .ok (.iload_n 2, 1) := by decide +kernel
theorem dX2_carryOut_27 : decode cX2_carryOut 27 = .ok (.invokevirtual 99, 3) := by decide +kernel
theorem dX2_carryOut_30 : decode cX2_carryOut 30 = .ok (.ifCond .eq 7, 3) := by decide +kernel
theorem dX2_carryOut_33 : decode cX2_carryOut 33 = .ok (.iconst 0, 1) := by decide +kernel
theorem dX2_carryOut_34 : decode cX2_carryOut 34 = .ok (.goto 4, 3) := by decide +kernel
theorem dX2_carryOut_37 : decode cX2_carryOut 37 = .ok (.iconst 1, 1) := by decide +kernel
theorem dX2_carryOut_38 : decode cX2_carryOut 38 = .ok (.iadd, 1) := by decide +kernel
theorem dX2_carryOut_39 : decode cX2_carryOut 39 = .ok (.istore_n 1, 1) := by decide +kernel
theorem dX2_carryOut_40 : decode cX2_carryOut 40 = .ok (.aload_n 0, 1) := by decide +kernel
theorem dX2_carryOut_41 : decode cX2_carryOut 41 = .ok (.iload_n 2, 1) := by decide +kernel
theorem dX2_carryOut_42 : decode cX2_carryOut 42 = .ok (.aload_n 0, 1) := by decide +kernel
theorem dX2_carryOut_43 : decode cX2_carryOut 43 = .ok (.iload_n 2, 1) := by decide +kernel
theorem dX2_carryOut_44 : decode cX2_carryOut 44 = .ok (.invokevirtual 99, 3) := by decide +kernel
theorem dX2_carryOut_47 : decode cX2_carryOut 47 = .ok (.invokevirtual 134, 3) := by decide +kernel
theorem dX2_carryOut_50 : decode cX2_carryOut 50 = .ok (.aload_n 0, 1) := by decide +kernel
theorem dX2_carryOut_51 : decode cX2_carryOut 51 = .ok (.getfield 31, 3) := by decide +kernel
theorem dX2_carryOut_54 : decode cX2_carryOut 54 = .ok (.iload_n 2, 1) := by decide +kernel
theorem dX2_carryOut_55 : decode cX2_carryOut 55 = .ok (.invokestatic 89, 3) := by decide +kernel
theorem dX2_carryOut_58 : decode cX2_carryOut 58 = .ok (.iconst (-1), 1) := by decide +kernel
theorem dX2_carryOut_59 : decode cX2_carryOut 59 = .ok (.if_icmp .eq 12, 3) := by decide +kernel
theorem dX2_carryOut_62 : decode cX2_carryOut 62 = .ok (.aload_n 0, 1) := by decide +kernel
theorem dX2_carryOut_63 : decode cX2_carryOut 63 = .ok (.getfield 12, 3) := by decide +kernel
theorem dX2_carryOut_66 : decode cX2_carryOut 66 = .ok (.bipush 6, 2) := by decide +kernel
theorem dX2_carryOut_68 : decode cX2_carryOut 68 = .ok (.invokevirtual 138, 3) := by decide +kernel
theorem dX2_carryOut_71 : decode cX2_carryOut 71 = .ok (.iinc 2 1, 3) := by decide +kernel
theorem dX2_carryOut_74 : decode cX2_carryOut 74 = .ok (.goto (-70), 3) := by decide +kernel
theorem dX2_carryOut_77 : decode cX2_carryOut 77 = .ok (.aload_n 0, 1) := by decide +kernel
theorem dX2_carryOut_78 : decode cX2_carryOut 78 = .ok (.invokevirtual 142, 3) := by decide +kernel
theorem dX2_carryOut_81 : decode cX2_carryOut 81 = .ok (.aload_n 0, 1) := by decide +kernel
theorem dX2_carryOut_82 : decode cX2_carryOut 82 = .ok (.getfield 12, 3) := by decide +kernel
theorem dX2_carryOut_85 : decode cX2_carryOut 85 = .ok (.iconst 3, 1) := by decide +kernel
theorem dX2_carryOut_86 : decode cX2_carryOut 86 = .ok (.invokevirtual 138, 3) := by decide +kernel
theorem dX2_carryOut_89 : decode cX2_carryOut 89 = .ok (.aload_n 0, 1) := by decide +kernel
theorem dX2_carryOut_90 : decode cX2_carryOut 90 = .ok (.getfield 12, 3) := by decide +kernel
theorem dX2_carryOut_93 : decode cX2_carryOut 93 = .ok (.invokevirtual 145, 3) := by decide +kernel
theorem dX2_carryOut_96 : decode cX2_carryOut 96 = .ok (.iload_n 1, 1) := by decide +kernel
theorem dX2_carryOut_97 : decode cX2_carryOut 97 = .ok (.ireturn, 1) := by decide +kernel
set_option maxRecDepth 20000 in
theorem ggX2_countMove_X0_of : GoodIn wsX2_countMove wsX0_of := goodIn_r _ [6, 7, 32, 33, 34] (by decide +kernel) (by decide +kernel)
set_option maxRecDepth 20000 in
theorem gX2_countMove_X0_of : GoodIn wsX2_countMove (wsV RX2 65 RX0 yX0_of wsX0_of) := goodIn_app (goodIn_of _ (by decide +kernel)) ggX2_countMove_X0_of
set_option maxRecDepth 20000 in
theorem ggX2_countMove_X0_put : GoodIn wsX2_countMove wsX0_put := goodIn_r _ [11, 7, 32, 33, 34] (by decide +kernel) (by decide +kernel)
set_option maxRecDepth 20000 in
theorem gX2_countMove_X0_put : GoodIn wsX2_countMove (wsV RX2 148 RX0 yX0_put wsX0_put) := goodIn_app (goodIn_of _ (by decide +kernel)) ggX2_countMove_X0_put
set_option maxRecDepth 20000 in
theorem ggX2_countMove_X0_countOne : GoodIn wsX2_countMove wsX0_countOne := goodIn_r _ [15, 16, 17, 18, 19, 5, 20, 21, 22, 23, 32, 33, 34] (by decide +kernel) (by decide +kernel)
set_option maxRecDepth 20000 in
theorem gX2_countMove_X0_countOne : GoodIn wsX2_countMove (wsV RX2 138 RX0 yX0_countOne wsX0_countOne) := goodIn_app (goodIn_of _ (by decide +kernel)) ggX2_countMove_X0_countOne
theorem dX2_countMove_0 : decode cX2_countMove 0 = .ok (.iload_n 2, 1) := by decide +kernel
theorem dX2_countMove_1 : decode cX2_countMove 1 = .ok (.ifCond .eq 7, 3) := by decide +kernel
theorem dX2_countMove_4 : decode cX2_countMove 4 = .ok (.iconst 5, 1) := by decide +kernel
theorem dX2_countMove_5 : decode cX2_countMove 5 = .ok (.goto 5, 3) := by decide +kernel
theorem dX2_countMove_8 : decode cX2_countMove 8 = .ok (.bipush 6, 2) := by decide +kernel
theorem dX2_countMove_10 : decode cX2_countMove 10 = .ok (.istore_n 3, 1) := by decide +kernel
theorem dX2_countMove_11 : decode cX2_countMove 11 = .ok (.aload_n 0, 1) := by decide +kernel
theorem dX2_countMove_12 : decode cX2_countMove 12 = .ok (.getfield 12, 3) := by decide +kernel
theorem dX2_countMove_15 : decode cX2_countMove 15 = .ok (.iload_n 1, 1) := by decide +kernel
theorem dX2_countMove_16 : decode cX2_countMove 16 = .ok (.iload_n 3, 1) := by decide +kernel
theorem dX2_countMove_17 : decode cX2_countMove 17 = .ok (.aload_n 0, 1) := by decide +kernel
theorem dX2_countMove_18 : decode cX2_countMove 18 = .ok (.getfield 12, 3) := by decide +kernel
theorem dX2_countMove_21 : decode cX2_countMove 21 = .ok (.iload_n 1, 1) := by decide +kernel
theorem dX2_countMove_22 : decode cX2_countMove 22 = .ok (.iload_n 3, 1) := by decide +kernel
theorem dX2_countMove_23 : decode cX2_countMove 23 = .ok (.invokevirtual 65, 3) := by decide +kernel
theorem dX2_countMove_26 : decode cX2_countMove 26 = .ok (.iconst 1, 1) := by decide +kernel
theorem dX2_countMove_27 : decode cX2_countMove 27 = .ok (.iadd, 1) := by decide +kernel
theorem dX2_countMove_28 : decode cX2_countMove 28 = .ok (.invokevirtual 148, 3) := by decide +kernel
theorem dX2_countMove_31 : decode cX2_countMove 31 = .ok (.aload_n 0, 1) := by decide +kernel
theorem dX2_countMove_32 : decode cX2_countMove 32 = .ok (.getfield 12, 3) := by decide +kernel
theorem dX2_countMove_35 : decode cX2_countMove 35 = .ok (.iload_n 2, 1) := by decide +kernel
theorem dX2_countMove_36 : decode cX2_countMove 36 = .ok (.ifCond .eq 7, 3) := by decide +kernel
theorem dX2_countMove_39 : decode cX2_countMove 39 = .ok (.iconst 4, 1) := by decide +kernel
theorem dX2_countMove_40 : decode cX2_countMove 40 = .ok (.goto 4, 3) := by decide +kernel
theorem dX2_countMove_43 : decode cX2_countMove 43 = .ok (.iconst 5, 1) := by decide +kernel
theorem dX2_countMove_44 : decode cX2_countMove 44 = .ok (.invokevirtual 138, 3) := by decide +kernel
theorem dX2_countMove_47 : decode cX2_countMove 47 = .ok (.return_, 1) := by decide +kernel
set_option maxRecDepth 20000 in
theorem ggX2_settle_X0_number : GoodIn wsX2_settle wsX0_number := goodIn_r _ [7, 8, 45, 46, 47] (by decide +kernel) (by decide +kernel)
set_option maxRecDepth 20000 in
theorem gX2_settle_X0_number : GoodIn wsX2_settle (wsV RX2 61 RX0 yX0_number wsX0_number) := goodIn_app (goodIn_of _ (by decide +kernel)) ggX2_settle_X0_number
set_option maxRecDepth 20000 in
theorem ggX2_settle_X4_entry : GoodIn wsX2_settle wsX4_entry := goodIn_r _ [11] (by decide +kernel) (by decide +kernel)
set_option maxRecDepth 20000 in
theorem gX2_settle_X4_entry_n89 : GoodIn wsX2_settle (wsX4_entry) := ggX2_settle_X4_entry
set_option maxRecDepth 20000 in
theorem ggX2_settle_X0_put : GoodIn wsX2_settle wsX0_put := goodIn_r _ [15, 16, 45, 46, 47] (by decide +kernel) (by decide +kernel)
set_option maxRecDepth 20000 in
theorem gX2_settle_X0_put : GoodIn wsX2_settle (wsV RX2 148 RX0 yX0_put wsX0_put) := goodIn_app (goodIn_of _ (by decide +kernel)) ggX2_settle_X0_put
set_option maxRecDepth 20000 in
theorem ggX2_settle_X0_give : GoodIn wsX2_settle wsX0_give := goodIn_r _ [20, 21, 22, 23, 6, 24, 16, 25, 13, 14, 15, 45, 46, 47] (by decide +kernel) (by decide +kernel)
set_option maxRecDepth 20000 in
theorem gX2_settle_X0_give : GoodIn wsX2_settle (wsV RX2 152 RX0 yX0_give wsX0_give) := goodIn_app (goodIn_of _ (by decide +kernel)) ggX2_settle_X0_give
set_option maxRecDepth 20000 in
theorem ggX2_settle_X0_remove : GoodIn wsX2_settle wsX0_remove := goodIn_r _ [29, 8, 30, 4, 5, 6, 7, 21, 22, 23, 24, 16, 25, 13, 14, 15, 31, 10, 32, 45, 46, 47] (by decide +kernel) (by decide +kernel)
set_option maxRecDepth 20000 in
theorem gX2_settle_X0_remove : GoodIn wsX2_settle (wsV RX2 156 RX0 yX0_remove wsX0_remove) := goodIn_app (goodIn_of _ (by decide +kernel)) ggX2_settle_X0_remove
set_option maxRecDepth 20000 in
theorem ggX2_settle_X0_countOne : GoodIn wsX2_settle wsX0_countOne := goodIn_r _ [36, 8, 30, 4, 5, 6, 7, 31, 10, 32, 45, 46, 47] (by decide +kernel) (by decide +kernel)
set_option maxRecDepth 20000 in
theorem gX2_settle_X0_countOne : GoodIn wsX2_settle (wsV RX2 138 RX0 yX0_countOne wsX0_countOne) := goodIn_app (goodIn_of _ (by decide +kernel)) ggX2_settle_X0_countOne
theorem dX2_settle_0 : decode cX2_settle 0 = .ok (.aload_n 0, 1) := by decide +kernel
theorem dX2_settle_1 : decode cX2_settle 1 = .ok (.getfield 12, 3) := by decide +kernel
theorem dX2_settle_4 : decode cX2_settle 4 = .ok (.iconst 0, 1) := by decide +kernel
theorem dX2_settle_5 : decode cX2_settle 5 = .ok (.invokevirtual 61, 3) := by decide +kernel
theorem dX2_settle_8 : decode cX2_settle 8 = .ok (.iconst 1, 1) := by decide +kernel
theorem dX2_settle_9 : decode cX2_settle 9 = .ok (.isub, 1) := by decide +kernel
theorem dX2_settle_10 : decode cX2_settle 10 = .ok (.istore_n 1, 1) := by decide +kernel
theorem dX2_settle_11 : decode cX2_settle 11 = .ok (.iload_n 1, 1) := by decide +kernel
theorem dX2_settle_12 : decode cX2_settle 12 = .ok (.ifCond .lt 67, 3) := by decide +kernel
theorem dX2_settle_15 : decode cX2_settle 15 = .ok (.aload_n 0, 1) := by decide +kernel
theorem dX2_settle_16 : decode cX2_settle 16 = .ok (.getfield 12, 3) := by decide +kernel
theorem dX2_settle_19 : decode cX2_settle 19 = .ok (.iload_n 1, 1) := by decide +kernel
theorem dX2_settle_20 : decode cX2_settle 20 = .ok (.iconst 1, 1) := by decide +kernel
theorem dX2_settle_21 : decode cX2_settle 21 = .ok (.aload_n 0, 1) := by decide +kernel
theorem dX2_settle_22 : decode cX2_settle 22 = .ok (.getfield 37, 3) := by decide +kernel
theorem dX2_settle_25 : decode cX2_settle 25 = .ok (.iload_n 1, 1) := by decide +kernel
theorem dX2_settle_26 : decode cX2_settle 26 = .ok (.invokestatic 89, 3) := by decide +kernel
theorem dX2_settle_29 : decode cX2_settle 29 = .ok (.invokevirtual 148, 3) := by decide +kernel
theorem dX2_settle_32 : decode cX2_settle 32 = .ok (.aload_n 0, 1) := by decide +kernel
theorem dX2_settle_33 : decode cX2_settle 33 = .ok (.getfield 12, 3) := by decide +kernel
theorem dX2_settle_36 : decode cX2_settle 36 = .ok (.iload_n 1, 1) := by decide +kernel
theorem dX2_settle_37 : decode cX2_settle 37 = .ok (.iconst 0, 1) := by decide +kernel
theorem dX2_settle_38 : decode cX2_settle 38 = .ok (.iconst (-1), 1) := by decide +kernel
theorem dX2_settle_39 : decode cX2_settle 39 = .ok (.iconst (-1), 1) := by decide +kernel
theorem dX2_settle_40 : decode cX2_settle 40 = .ok (.invokevirtual 152, 3) := by decide +kernel
theorem dX2_settle_43 : decode cX2_settle 43 = .ok (.pop, 1) := by decide +kernel
theorem dX2_settle_44 : decode cX2_settle 44 = .ok (.aload_n 0, 1) := by decide +kernel
theorem dX2_settle_45 : decode cX2_settle 45 = .ok (.getfield 37, 3) := by decide +kernel
theorem dX2_settle_48 : decode cX2_settle 48 = .ok (.iload_n 1, 1) := by decide +kernel
theorem dX2_settle_49 : decode cX2_settle 49 = .ok (.invokestatic 89, 3) := by decide +kernel
theorem dX2_settle_52 : decode cX2_settle 52 = .ok (.iconst (-1), 1) := by decide +kernel
theorem dX2_settle_53 : decode cX2_settle 53 = .ok (.if_icmp .ne 20, 3) := by decide +kernel
theorem dX2_settle_56 : decode cX2_settle 56 = .ok (.aload_n 0, 1) := by decide +kernel
theorem dX2_settle_57 : decode cX2_settle 57 = .ok (.getfield 12, 3) := by decide +kernel
theorem dX2_settle_60 : decode cX2_settle 60 = .ok (.iload_n 1, 1) := by decide +kernel
theorem dX2_settle_61 : decode cX2_settle 61 = .ok (.invokevirtual 156, 3) := by decide +kernel
theorem dX2_settle_64 : decode cX2_settle 64 = .ok (.aload_n 0, 1) := by decide +kernel
theorem dX2_settle_65 : decode cX2_settle 65 = .ok (.getfield 12, 3) := by decide +kernel
theorem dX2_settle_68 : decode cX2_settle 68 = .ok (.bipush 7, 2) := by decide +kernel
theorem dX2_settle_70 : decode cX2_settle 70 = .ok (.invokevirtual 138, 3) := by decide +kernel
theorem dX2_settle_73 : decode cX2_settle 73 = .ok (.iinc 1 (-1), 3) := by decide +kernel
theorem dX2_settle_76 : decode cX2_settle 76 = .ok (.goto (-65), 3) := by decide +kernel
theorem dX2_settle_79 : decode cX2_settle 79 = .ok (.return_, 1) := by decide +kernel
theorem dX3_init_0 : decode cX3_init 0 = .ok (.aload_n 0, 1) := by decide +kernel
theorem dX3_init_1 : decode cX3_init 1 = .ok (.invokespecial 3, 3) := by decide +kernel
theorem dX3_init_4 : decode cX3_init 4 = .ok (.aload_n 0, 1) := by decide +kernel
theorem dX3_init_5 : decode cX3_init 5 = .ok (.bipush 60, 2) := by decide +kernel
theorem dX3_init_7 : decode cX3_init 7 = .ok (.newarray .int, 2) := by decide +kernel
theorem dX3_init_9 : decode cX3_init 9 = .ok (.putfield 9, 3) := by decide +kernel
theorem dX3_init_12 : decode cX3_init 12 = .ok (.aload_n 0, 1) := by decide +kernel
theorem dX3_init_13 : decode cX3_init 13 = .ok (.iconst 0, 1) := by decide +kernel
theorem dX3_init_14 : decode cX3_init 14 = .ok (.putfield 15, 3) := by decide +kernel
theorem dX3_init_17 : decode cX3_init 17 = .ok (.aload_n 0, 1) := by decide +kernel
theorem dX3_init_18 : decode cX3_init 18 = .ok (.iconst 0, 1) := by decide +kernel
theorem dX3_init_19 : decode cX3_init 19 = .ok (.putfield 19, 3) := by decide +kernel
theorem dX3_init_22 : decode cX3_init 22 = .ok (.aload_n 0, 1) := by decide +kernel
theorem dX3_init_23 : decode cX3_init 23 = .ok (.iconst 0, 1) := by decide +kernel
theorem dX3_init_24 : decode cX3_init 24 = .ok (.putfield 22, 3) := by decide +kernel
theorem dX3_init_27 : decode cX3_init 27 = .ok (.aload_n 0, 1) := by decide +kernel
theorem dX3_init_28 : decode cX3_init 28 = .ok (.iconst 0, 1) := by decide +kernel
theorem dX3_init_29 : decode cX3_init 29 = .ok (.putfield 25, 3) := by decide +kernel
theorem dX3_init_32 : decode cX3_init 32 = .ok (.aload_n 0, 1) := by decide +kernel
theorem dX3_init_33 : decode cX3_init 33 = .ok (.iconst 0, 1) := by decide +kernel
theorem dX3_init_34 : decode cX3_init 34 = .ok (.putfield 28, 3) := by decide +kernel
theorem dX3_init_37 : decode cX3_init 37 = .ok (.return_, 1) := by decide +kernel
set_option maxRecDepth 20000 in
theorem ggX4_init_X2_init : GoodIn wsX4_init wsX2_init := goodIn_r _ [25, 26, 2, 3, 27, 16, 17, 28, 29, 30, 31, 32, 33, 34, 35, 36, 37, 38, 39, 40, 41, 42, 43, 44, 45, 46, 47, 86, 87, 88, 67, 68, 69, 70, 71, 72, 73, 74] (by decide +kernel) (by decide +kernel)
set_option maxRecDepth 20000 in
theorem gX4_init_X2_init_n9 : GoodIn wsX4_init (wsX2_init) := ggX4_init_X2_init
set_option maxRecDepth 20000 in
theorem ggX4_init_X1_init : GoodIn wsX4_init wsX1_init := goodIn_r _ [50, 51, 2, 3, 52, 53, 54, 55, 16, 17, 56, 38, 39, 40, 29, 41, 42, 43, 44, 45, 46, 47, 83, 84, 85, 86, 87, 88] (by decide +kernel) (by decide +kernel)
set_option maxRecDepth 20000 in
theorem gX4_init_X1_init : GoodIn wsX4_init (wsX1_init) := ggX4_init_X1_init
set_option maxRecDepth 20000 in
theorem ggX4_init_X0_init : GoodIn wsX4_init wsX0_init := goodIn_r _ [39, 40, 2, 3, 29, 41, 42, 43, 44, 45, 46, 47, 86, 87, 88] (by decide +kernel) (by decide +kernel)
set_option maxRecDepth 20000 in
theorem gX4_init_X0_init : GoodIn wsX4_init (wsX0_init) := ggX4_init_X0_init
set_option maxRecDepth 20000 in
theorem ggX4_init_X3_init : GoodIn wsX4_init wsX3_init := goodIn_r _ [59, 60, 2, 3, 29, 61, 62, 63, 64, 65, 66, 89, 90, 91, 92, 93, 94] (by decide +kernel) (by decide +kernel)
set_option maxRecDepth 20000 in
theorem gX4_init_X3_init_n46 : GoodIn wsX4_init (wsX3_init) := ggX4_init_X3_init
theorem dX4_init_0 : decode cX4_init 0 = .ok (.aload_n 0, 1) := by decide +kernel
theorem dX4_init_1 : decode cX4_init 1 = .ok (.invokespecial 1, 3) := by decide +kernel
theorem dX4_init_4 : decode cX4_init 4 = .ok (.aload_n 0, 1) := by decide +kernel
theorem dX4_init_5 : decode cX4_init 5 = .ok (.new 7, 3) := by decide +kernel
theorem dX4_init_8 : decode cX4_init 8 = .ok (.dup, 1) := by decide +kernel
theorem dX4_init_9 : decode cX4_init 9 = .ok (.invokespecial 9, 3) := by decide +kernel
theorem dX4_init_12 : decode cX4_init 12 = .ok (.putfield 10, 3) := by decide +kernel
theorem dX4_init_15 : decode cX4_init 15 = .ok (.aload_n 0, 1) := by decide +kernel
theorem dX4_init_16 : decode cX4_init 16 = .ok (.aload_n 0, 1) := by decide +kernel
theorem dX4_init_17 : decode cX4_init 17 = .ok (.getfield 10, 3) := by decide +kernel
theorem dX4_init_20 : decode cX4_init 20 = .ok (.getfield 16, 3) := by decide +kernel
theorem dX4_init_23 : decode cX4_init 23 = .ok (.putfield 20, 3) := by decide +kernel
theorem dX4_init_26 : decode cX4_init 26 = .ok (.aload_n 0, 1) := by decide +kernel
theorem dX4_init_27 : decode cX4_init 27 = .ok (.new 7, 3) := by decide +kernel
theorem dX4_init_30 : decode cX4_init 30 = .ok (.dup, 1) := by decide +kernel
theorem dX4_init_31 : decode cX4_init 31 = .ok (.invokespecial 9, 3) := by decide +kernel
theorem dX4_init_34 : decode cX4_init 34 = .ok (.putfield 21, 3) := by decide +kernel
theorem dX4_init_37 : decode cX4_init 37 = .ok (.aload_n 0, 1) := by decide +kernel
theorem dX4_init_38 : decode cX4_init 38 = .ok (.aload_n 0, 1) := by decide +kernel
theorem dX4_init_39 : decode cX4_init 39 = .ok (.getfield 21, 3) := by decide +kernel
theorem dX4_init_42 : decode cX4_init 42 = .ok (.getfield 16, 3) := by decide +kernel
theorem dX4_init_45 : decode cX4_init 45 = .ok (.putfield 24, 3) := by decide +kernel
theorem dX4_init_48 : decode cX4_init 48 = .ok (.aload_n 0, 1) := by decide +kernel
theorem dX4_init_49 : decode cX4_init 49 = .ok (.new 27, 3) := by decide +kernel
theorem dX4_init_52 : decode cX4_init 52 = .ok (.dup, 1) := by decide +kernel
theorem dX4_init_53 : decode cX4_init 53 = .ok (.invokespecial 29, 3) := by decide +kernel
theorem dX4_init_56 : decode cX4_init 56 = .ok (.putfield 30, 3) := by decide +kernel
theorem dX4_init_59 : decode cX4_init 59 = .ok (.aload_n 0, 1) := by decide +kernel
theorem dX4_init_60 : decode cX4_init 60 = .ok (.new 34, 3) := by decide +kernel
theorem dX4_init_63 : decode cX4_init 63 = .ok (.dup, 1) := by decide +kernel
theorem dX4_init_64 : decode cX4_init 64 = .ok (.invokespecial 36, 3) := by decide +kernel
theorem dX4_init_67 : decode cX4_init 67 = .ok (.putfield 37, 3) := by decide +kernel
theorem dX4_init_70 : decode cX4_init 70 = .ok (.aload_n 0, 1) := by decide +kernel
theorem dX4_init_71 : decode cX4_init 71 = .ok (.iconst 0, 1) := by decide +kernel
theorem dX4_init_72 : decode cX4_init 72 = .ok (.putfield 40, 3) := by decide +kernel
theorem dX4_init_75 : decode cX4_init 75 = .ok (.aload_n 0, 1) := by decide +kernel
theorem dX4_init_76 : decode cX4_init 76 = .ok (.new 44, 3) := by decide +kernel
theorem dX4_init_79 : decode cX4_init 79 = .ok (.dup, 1) := by decide +kernel
theorem dX4_init_80 : decode cX4_init 80 = .ok (.invokespecial 46, 3) := by decide +kernel
theorem dX4_init_83 : decode cX4_init 83 = .ok (.putfield 47, 3) := by decide +kernel
theorem dX4_init_86 : decode cX4_init 86 = .ok (.return_, 1) := by decide +kernel
set_option maxRecDepth 20000 in
theorem ggX4_army_X4_isSeat : GoodIn wsX4_army wsX4_isSeat := goodIn_r _ [10] (by decide +kernel) (by decide +kernel)
set_option maxRecDepth 20000 in
theorem gX4_army_X4_isSeat : GoodIn wsX4_army (va_wsS RX4 51 yX4_isSeat wsX4_isSeat) := goodIn_app (goodIn_of _ (by decide +kernel)) ggX4_army_X4_isSeat
set_option maxRecDepth 20000 in
theorem ggX4_army_X4_isField : GoodIn wsX4_army wsX4_isField := goodIn_r _ [13] (by decide +kernel) (by decide +kernel)
set_option maxRecDepth 20000 in
theorem gX4_army_X4_isField : GoodIn wsX4_army (va_wsS RX4 55 yX4_isField wsX4_isField) := goodIn_app (goodIn_of _ (by decide +kernel)) ggX4_army_X4_isField
set_option maxRecDepth 20000 in
theorem ggX4_army_X0_armyOn : GoodIn wsX4_army wsX0_armyOn := goodIn_r _ [18, 19, 20, 21, 17, 22, 23, 24, 25, 26, 27, 28, 69, 70, 71] (by decide +kernel) (by decide +kernel)
set_option maxRecDepth 20000 in
theorem gX4_army_X0_armyOn : GoodIn wsX4_army (wsV RX4 65 RX0 yX0_armyOn wsX0_armyOn) := goodIn_app (goodIn_of _ (by decide +kernel)) ggX4_army_X0_armyOn
set_option maxRecDepth 20000 in
theorem ggX4_army_X0_number : GoodIn wsX4_army wsX0_number := goodIn_r _ [22, 23, 69, 70, 71] (by decide +kernel) (by decide +kernel)
set_option maxRecDepth 20000 in
theorem gX4_army_X0_number : GoodIn wsX4_army (wsV RX4 69 RX0 yX0_number wsX0_number) := goodIn_app (goodIn_of _ (by decide +kernel)) ggX4_army_X0_number
set_option maxRecDepth 20000 in
theorem ggX4_army_X1_save : GoodIn wsX4_army wsX1_save := goodIn_r _ [34, 35, 36, 37, 38, 39, 33, 40, 41, 42, 43, 44, 17, 45, 23, 46, 47, 48, 49, 50, 28, 72, 73, 74, 69, 70, 71] (by decide +kernel) (by decide +kernel)
set_option maxRecDepth 20000 in
theorem gX4_army_X1_save : GoodIn wsX4_army (wsV RX4 77 RX1 yX1_save wsX1_save) := goodIn_app (goodIn_of _ (by decide +kernel)) ggX4_army_X1_save
set_option maxRecDepth 20000 in
theorem ggX4_army_X0_setUp : GoodIn wsX4_army wsX0_setUp := goodIn_r _ [54, 23, 19, 20, 21, 17, 22, 55, 56, 57, 58, 28, 59, 9, 60, 69, 70, 71] (by decide +kernel) (by decide +kernel)
set_option maxRecDepth 20000 in
theorem gX4_army_X0_setUp : GoodIn wsX4_army (wsV RX4 81 RX0 yX0_setUp wsX0_setUp) := goodIn_app (goodIn_of _ (by decide +kernel)) ggX4_army_X0_setUp
theorem dX4_army_0 : decode cX4_army 0 = .ok (.iload_n 1, 1) := by decide +kernel
theorem dX4_army_1 : decode cX4_army 1 = .ok (.invokestatic 51, 3) := by decide +kernel
theorem dX4_army_4 : decode cX4_army 4 = .ok (.ifCond .eq 10, 3) := by decide +kernel
theorem dX4_army_7 : decode cX4_army 7 = .ok (.iload_n 2, 1) := by decide +kernel
theorem dX4_army_8 : decode cX4_army 8 = .ok (.invokestatic 55, 3) := by decide +kernel
theorem dX4_army_11 : decode cX4_army 11 = .ok (.ifCond .ne 13, 3) := by decide +kernel
theorem dX4_army_14 : decode cX4_army 14 = .ok (.new 58, 3) := by decide +kernel
theorem dX4_army_17 : decode cX4_army 17 = .ok (.dup, 1) := by decide +kernel
theorem dX4_army_18 : decode cX4_army 18 = .ok (.ldc 60, 2) := by decide +kernel
theorem dX4_army_20 : decode cX4_army 20 = .ok (.invokespecial 62, 3) := by decide +kernel
theorem dX4_army_23 : decode cX4_army 23 = .ok (.athrow, 1) := by decide +kernel
theorem dX4_army_24 : decode cX4_army 24 = .ok (.aload_n 0, 1) := by decide +kernel
theorem dX4_army_25 : decode cX4_army 25 = .ok (.getfield 20, 3) := by decide +kernel
theorem dX4_army_28 : decode cX4_army 28 = .ok (.iload_n 2, 1) := by decide +kernel
theorem dX4_army_29 : decode cX4_army 29 = .ok (.invokevirtual 65, 3) := by decide +kernel
theorem dX4_army_32 : decode cX4_army 32 = .ok (.iconst (-1), 1) := by decide +kernel
theorem dX4_army_33 : decode cX4_army 33 = .ok (.if_icmp .ne 16, 3) := by decide +kernel
theorem dX4_army_36 : decode cX4_army 36 = .ok (.aload_n 0, 1) := by decide +kernel
theorem dX4_army_37 : decode cX4_army 37 = .ok (.getfield 20, 3) := by decide +kernel
theorem dX4_army_40 : decode cX4_army 40 = .ok (.iconst 0, 1) := by decide +kernel
theorem dX4_army_41 : decode cX4_army 41 = .ok (.invokevirtual 69, 3) := by decide +kernel
theorem dX4_army_44 : decode cX4_army 44 = .ok (.bipush 9, 2) := by decide +kernel
theorem dX4_army_46 : decode cX4_army 46 = .ok (.if_icmp .lt 13, 3) := by decide +kernel
theorem dX4_army_49 : decode cX4_army 49 = .ok (.new 72, 3) := by decide +kernel
theorem dX4_army_52 : decode cX4_army 52 = .ok (.dup, 1) := by decide +kernel
theorem dX4_army_53 : decode cX4_army 53 = .ok (.ldc 74, 2) := by decide +kernel
theorem dX4_army_55 : decode cX4_army 55 = .ok (.invokespecial 76, 3) := by decide +kernel
theorem dX4_army_58 : decode cX4_army 58 = .ok (.athrow, 1) := by decide +kernel
theorem dX4_army_59 : decode cX4_army 59 = .ok (.aload_n 0, 1) := by decide +kernel
theorem dX4_army_60 : decode cX4_army 60 = .ok (.getfield 30, 3) := by decide +kernel
theorem dX4_army_63 : decode cX4_army 63 = .ok (.aload_n 0, 1) := by decide +kernel
theorem dX4_army_64 : decode cX4_army 64 = .ok (.getfield 20, 3) := by decide +kernel
theorem dX4_army_67 : decode cX4_army 67 = .ok (.invokevirtual 77, 3) := by decide +kernel
theorem dX4_army_70 : decode cX4_army 70 = .ok (.aload_n 0, 1) := by decide +kernel
theorem dX4_army_71 : decode cX4_army 71 = .ok (.getfield 20, 3) := by decide +kernel
theorem dX4_army_74 : decode cX4_army 74 = .ok (.iload_n 1, 1) := by decide +kernel
theorem dX4_army_75 : decode cX4_army 75 = .ok (.iload_n 2, 1) := by decide +kernel
theorem dX4_army_76 : decode cX4_army 76 = .ok (.invokevirtual 81, 3) := by decide +kernel
theorem dX4_army_79 : decode cX4_army 79 = .ok (.ireturn, 1) := by decide +kernel
set_option maxRecDepth 20000 in
theorem ggX4_drop_X0_hasArmy : GoodIn wsX4_drop wsX0_hasArmy := goodIn_r _ [9, 10, 11, 12, 8, 13, 14, 61, 62, 63] (by decide +kernel) (by decide +kernel)
set_option maxRecDepth 20000 in
theorem gX4_drop_X0_hasArmy : GoodIn wsX4_drop (wsV RX4 85 RX0 yX0_hasArmy wsX0_hasArmy) := goodIn_app (goodIn_of _ (by decide +kernel)) ggX4_drop_X0_hasArmy
set_option maxRecDepth 20000 in
theorem ggX4_drop_X1_save : GoodIn wsX4_drop wsX1_save := goodIn_r _ [19, 20, 21, 22, 23, 24, 18, 25, 26, 27, 28, 29, 8, 30, 14, 31, 32, 33, 34, 35, 36, 64, 65, 66, 61, 62, 63] (by decide +kernel) (by decide +kernel)
set_option maxRecDepth 20000 in
theorem gX4_drop_X1_save : GoodIn wsX4_drop (wsV RX4 77 RX1 yX1_save wsX1_save) := goodIn_app (goodIn_of _ (by decide +kernel)) ggX4_drop_X1_save
set_option maxRecDepth 20000 in
theorem ggX4_drop_X0_remove : GoodIn wsX4_drop wsX0_remove := goodIn_r _ [40, 14, 10, 11, 12, 8, 13, 41, 42, 43, 44, 36, 45, 46, 47, 48, 49, 50, 51, 61, 62, 63] (by decide +kernel) (by decide +kernel)
set_option maxRecDepth 20000 in
theorem gX4_drop_X0_remove : GoodIn wsX4_drop (wsV RX4 90 RX0 yX0_remove wsX0_remove) := goodIn_app (goodIn_of _ (by decide +kernel)) ggX4_drop_X0_remove
set_option maxRecDepth 20000 in
theorem ggX4_drop_X0_number : GoodIn wsX4_drop wsX0_number := goodIn_r _ [13, 14, 61, 62, 63] (by decide +kernel) (by decide +kernel)
set_option maxRecDepth 20000 in
theorem gX4_drop_X0_number : GoodIn wsX4_drop (wsV RX4 69 RX0 yX0_number wsX0_number) := goodIn_app (goodIn_of _ (by decide +kernel)) ggX4_drop_X0_number
theorem dX4_drop_0 : decode cX4_drop 0 = .ok (.aload_n 0, 1) := by decide +kernel
theorem dX4_drop_1 : decode cX4_drop 1 = .ok (.getfield 20, 3) := by decide +kernel
theorem dX4_drop_4 : decode cX4_drop 4 = .ok (.iload_n 1, 1) := by decide +kernel
theorem dX4_drop_5 : decode cX4_drop 5 = .ok (.invokevirtual 85, 3) := by decide +kernel
theorem dX4_drop_8 : decode cX4_drop 8 = .ok (.ifCond .ne 13, 3) := by decide +kernel
theorem dX4_drop_11 : decode cX4_drop 11 = .ok (.new 58, 3) := by decide +kernel
theorem dX4_drop_14 : decode cX4_drop 14 = .ok (.dup, 1) := by decide +kernel
theorem dX4_drop_15 : decode cX4_drop 15 = .ok (.ldc 88, 2) := by decide +kernel
theorem dX4_drop_17 : decode cX4_drop 17 = .ok (.invokespecial 62, 3) := by decide +kernel
theorem dX4_drop_20 : decode cX4_drop 20 = .ok (.athrow, 1) := by decide +kernel
theorem dX4_drop_21 : decode cX4_drop 21 = .ok (.aload_n 0, 1) := by decide +kernel
theorem dX4_drop_22 : decode cX4_drop 22 = .ok (.getfield 30, 3) := by decide +kernel
theorem dX4_drop_25 : decode cX4_drop 25 = .ok (.aload_n 0, 1) := by decide +kernel
theorem dX4_drop_26 : decode cX4_drop 26 = .ok (.getfield 20, 3) := by decide +kernel
theorem dX4_drop_29 : decode cX4_drop 29 = .ok (.invokevirtual 77, 3) := by decide +kernel
theorem dX4_drop_32 : decode cX4_drop 32 = .ok (.aload_n 0, 1) := by decide +kernel
theorem dX4_drop_33 : decode cX4_drop 33 = .ok (.getfield 20, 3) := by decide +kernel
theorem dX4_drop_36 : decode cX4_drop 36 = .ok (.iload_n 1, 1) := by decide +kernel
theorem dX4_drop_37 : decode cX4_drop 37 = .ok (.invokevirtual 90, 3) := by decide +kernel
theorem dX4_drop_40 : decode cX4_drop 40 = .ok (.aload_n 0, 1) := by decide +kernel
theorem dX4_drop_41 : decode cX4_drop 41 = .ok (.getfield 20, 3) := by decide +kernel
theorem dX4_drop_44 : decode cX4_drop 44 = .ok (.iconst 0, 1) := by decide +kernel
theorem dX4_drop_45 : decode cX4_drop 45 = .ok (.invokevirtual 69, 3) := by decide +kernel
theorem dX4_drop_48 : decode cX4_drop 48 = .ok (.ireturn, 1) := by decide +kernel
set_option maxRecDepth 20000 in
theorem ggX4_hold_X0_hasArmy : GoodIn wsX4_hold wsX0_hasArmy := goodIn_r _ [9, 10, 11, 12, 8, 13, 14, 57, 58, 59] (by decide +kernel) (by decide +kernel)
set_option maxRecDepth 20000 in
theorem gX4_hold_X0_hasArmy : GoodIn wsX4_hold (wsV RX4 85 RX0 yX0_hasArmy wsX0_hasArmy) := goodIn_app (goodIn_of _ (by decide +kernel)) ggX4_hold_X0_hasArmy
set_option maxRecDepth 20000 in
theorem ggX4_hold_X1_save : GoodIn wsX4_hold wsX1_save := goodIn_r _ [19, 20, 21, 22, 23, 24, 18, 25, 26, 27, 28, 29, 8, 30, 14, 31, 32, 33, 34, 35, 36, 60, 61, 62, 57, 58, 59] (by decide +kernel) (by decide +kernel)
set_option maxRecDepth 20000 in
theorem gX4_hold_X1_save : GoodIn wsX4_hold (wsV RX4 77 RX1 yX1_save wsX1_save) := goodIn_app (goodIn_of _ (by decide +kernel)) ggX4_hold_X1_save
set_option maxRecDepth 20000 in
theorem ggX4_hold_X0_give : GoodIn wsX4_hold wsX0_give := goodIn_r _ [40, 41, 42, 43, 8, 44, 36, 45, 46, 47, 48, 57, 58, 59] (by decide +kernel) (by decide +kernel)
set_option maxRecDepth 20000 in
theorem gX4_hold_X0_give : GoodIn wsX4_hold (wsV RX4 94 RX0 yX0_give wsX0_give) := goodIn_app (goodIn_of _ (by decide +kernel)) ggX4_hold_X0_give
theorem dX4_hold_0 : decode cX4_hold 0 = .ok (.aload_n 0, 1) := by decide +kernel
theorem dX4_hold_1 : decode cX4_hold 1 = .ok (.getfield 20, 3) := by decide +kernel
theorem dX4_hold_4 : decode cX4_hold 4 = .ok (.iload_n 1, 1) := by decide +kernel
theorem dX4_hold_5 : decode cX4_hold 5 = .ok (.invokevirtual 85, 3) := by decide +kernel
theorem dX4_hold_8 : decode cX4_hold 8 = .ok (.ifCond .ne 13, 3) := by decide +kernel
theorem dX4_hold_11 : decode cX4_hold 11 = .ok (.new 58, 3) := by decide +kernel
theorem dX4_hold_14 : decode cX4_hold 14 = .ok (.dup, 1) := by decide +kernel
theorem dX4_hold_15 : decode cX4_hold 15 = .ok (.ldc 88, 2) := by decide +kernel
theorem dX4_hold_17 : decode cX4_hold 17 = .ok (.invokespecial 62, 3) := by decide +kernel
theorem dX4_hold_20 : decode cX4_hold 20 = .ok (.athrow, 1) := by decide +kernel
theorem dX4_hold_21 : decode cX4_hold 21 = .ok (.aload_n 0, 1) := by decide +kernel
theorem dX4_hold_22 : decode cX4_hold 22 = .ok (.getfield 30, 3) := by decide +kernel
theorem dX4_hold_25 : decode cX4_hold 25 = .ok (.aload_n 0, 1) := by decide +kernel
theorem dX4_hold_26 : decode cX4_hold 26 = .ok (.getfield 20, 3) := by decide +kernel
theorem dX4_hold_29 : decode cX4_hold 29 = .ok (.invokevirtual 77, 3) := by decide +kernel
theorem dX4_hold_32 : decode cX4_hold 32 = .ok (.aload_n 0, 1) := by decide +kernel
theorem dX4_hold_33 : decode cX4_hold 33 = .ok (.getfield 20, 3) := by decide +kernel
theorem dX4_hold_36 : decode cX4_hold 36 = .ok (.iload_n 1, 1) := by decide +kernel
theorem dX4_hold_37 : decode cX4_hold 37 = .ok (.iconst 0, 1) := by decide +kernel
theorem dX4_hold_38 : decode cX4_hold 38 = .ok (.iconst (-1), 1) := by decide +kernel
theorem dX4_hold_39 : decode cX4_hold 39 = .ok (.iconst (-1), 1) := by decide +kernel
theorem dX4_hold_40 : decode cX4_hold 40 = .ok (.invokevirtual 94, 3) := by decide +kernel
theorem dX4_hold_43 : decode cX4_hold 43 = .ok (.ireturn, 1) := by decide +kernel
set_option maxRecDepth 20000 in
theorem ggX4_move_X0_hasArmy : GoodIn wsX4_move wsX0_hasArmy := goodIn_r _ [11, 12, 13, 14, 10, 15, 16, 70, 71, 72] (by decide +kernel) (by decide +kernel)
set_option maxRecDepth 20000 in
theorem gX4_move_X0_hasArmy : GoodIn wsX4_move (wsV RX4 85 RX0 yX0_hasArmy wsX0_hasArmy) := goodIn_app (goodIn_of _ (by decide +kernel)) ggX4_move_X0_hasArmy
set_option maxRecDepth 20000 in
theorem ggX4_move_X4_isField : GoodIn wsX4_move wsX4_isField := goodIn_r _ [20] (by decide +kernel) (by decide +kernel)
set_option maxRecDepth 20000 in
theorem gX4_move_X4_isField : GoodIn wsX4_move (va_wsS RX4 55 yX4_isField wsX4_isField) := goodIn_app (goodIn_of _ (by decide +kernel)) ggX4_move_X4_isField
set_option maxRecDepth 20000 in
theorem ggX4_move_X0_canBeGiven : GoodIn wsX4_move wsX0_canBeGiven := goodIn_r _ [24, 25, 8, 9, 10, 11, 12, 13, 14, 15, 16, 26, 27, 28, 29, 30, 31, 19, 32, 70, 71, 72] (by decide +kernel) (by decide +kernel)
set_option maxRecDepth 20000 in
theorem gX4_move_X0_canBeGiven : GoodIn wsX4_move (wsV RX4 100 RX0 yX0_canBeGiven wsX0_canBeGiven) := goodIn_app (goodIn_of _ (by decide +kernel)) ggX4_move_X0_canBeGiven
set_option maxRecDepth 20000 in
theorem ggX4_move_X1_save : GoodIn wsX4_move wsX1_save := goodIn_r _ [37, 38, 39, 40, 41, 42, 36, 43, 44, 45, 46, 47, 10, 48, 16, 49, 50, 51, 52, 53, 30, 73, 74, 75, 70, 71, 72] (by decide +kernel) (by decide +kernel)
set_option maxRecDepth 20000 in
theorem gX4_move_X1_save : GoodIn wsX4_move (wsV RX4 77 RX1 yX1_save wsX1_save) := goodIn_app (goodIn_of _ (by decide +kernel)) ggX4_move_X1_save
set_option maxRecDepth 20000 in
theorem ggX4_move_X0_give : GoodIn wsX4_move wsX0_give := goodIn_r _ [57, 26, 27, 28, 10, 29, 30, 58, 59, 60, 61, 70, 71, 72] (by decide +kernel) (by decide +kernel)
set_option maxRecDepth 20000 in
theorem gX4_move_X0_give : GoodIn wsX4_move (wsV RX4 94 RX0 yX0_give wsX0_give) := goodIn_app (goodIn_of _ (by decide +kernel)) ggX4_move_X0_give
theorem dX4_move_0 : decode cX4_move 0 = .ok (.aload_n 0, 1) := by decide +kernel
theorem dX4_move_1 : decode cX4_move 1 = .ok (.getfield 20, 3) := by decide +kernel
theorem dX4_move_4 : decode cX4_move 4 = .ok (.iload_n 1, 1) := by decide +kernel
theorem dX4_move_5 : decode cX4_move 5 = .ok (.invokevirtual 85, 3) := by decide +kernel
theorem dX4_move_8 : decode cX4_move 8 = .ok (.ifCond .eq 10, 3) := by decide +kernel
theorem dX4_move_11 : decode cX4_move 11 = .ok (.iload_n 2, 1) := by decide +kernel
theorem dX4_move_12 : decode cX4_move 12 = .ok (.invokestatic 55, 3) := by decide +kernel
theorem dX4_move_15 : decode cX4_move 15 = .ok (.ifCond .ne 13, 3) := by decide +kernel
theorem dX4_move_18 : decode cX4_move 18 = .ok (.new 58, 3) := by decide +kernel
theorem dX4_move_21 : decode cX4_move 21 = .ok (.dup, 1) := by decide +kernel
theorem dX4_move_22 : decode cX4_move 22 = .ok (.ldc 98, 2) := by decide +kernel
theorem dX4_move_24 : decode cX4_move 24 = .ok (.invokespecial 62, 3) := by decide +kernel
theorem dX4_move_27 : decode cX4_move 27 = .ok (.athrow, 1) := by decide +kernel
theorem dX4_move_28 : decode cX4_move 28 = .ok (.aload_n 0, 1) := by decide +kernel
theorem dX4_move_29 : decode cX4_move 29 = .ok (.getfield 20, 3) := by decide +kernel
theorem dX4_move_32 : decode cX4_move 32 = .ok (.iload_n 1, 1) := by decide +kernel
theorem dX4_move_33 : decode cX4_move 33 = .ok (.iconst 1, 1) := by decide +kernel
theorem dX4_move_34 : decode cX4_move 34 = .ok (.iconst (-1), 1) := by decide +kernel
theorem dX4_move_35 : decode cX4_move 35 = .ok (.iload_n 2, 1) := by decide +kernel
theorem dX4_move_36 : decode cX4_move 36 = .ok (.invokevirtual 100, 3) := by decide +kernel
theorem dX4_move_39 : decode cX4_move 39 = .ok (.ifCond .ne 13, 3) := by decide +kernel
theorem dX4_move_42 : decode cX4_move 42 = .ok (.new 104, 3) := by decide +kernel
theorem dX4_move_45 : decode cX4_move 45 = .ok (.dup, 1) := by decide +kernel
theorem dX4_move_46 : decode cX4_move 46 = .ok (.ldc 106, 2) := by decide +kernel
theorem dX4_move_48 : decode cX4_move 48 = .ok (.invokespecial 108, 3) := by decide +kernel
theorem dX4_move_51 : decode cX4_move 51 = .ok (.athrow, 1) := by decide +kernel
theorem dX4_move_52 : decode cX4_move 52 = .ok (.aload_n 0, 1) := by decide +kernel
theorem dX4_move_53 : decode cX4_move 53 = .ok (.getfield 30, 3) := by decide +kernel
theorem dX4_move_56 : decode cX4_move 56 = .ok (.aload_n 0, 1) := by decide +kernel
theorem dX4_move_57 : decode cX4_move 57 = .ok (.getfield 20, 3) := by decide +kernel
theorem dX4_move_60 : decode cX4_move 60 = .ok (.invokevirtual 77, 3) := by decide +kernel
theorem dX4_move_63 : decode cX4_move 63 = .ok (.aload_n 0, 1) := by decide +kernel
theorem dX4_move_64 : decode cX4_move 64 = .ok (.getfield 20, 3) := by decide +kernel
theorem dX4_move_67 : decode cX4_move 67 = .ok (.iload_n 1, 1) := by decide +kernel
theorem dX4_move_68 : decode cX4_move 68 = .ok (.iconst 1, 1) := by decide +kernel
theorem dX4_move_69 : decode cX4_move 69 = .ok (.iconst (-1), 1) := by decide +kernel
theorem dX4_move_70 : decode cX4_move 70 = .ok (.iload_n 2, 1) := by decide +kernel
theorem dX4_move_71 : decode cX4_move 71 = .ok (.invokevirtual 94, 3) := by decide +kernel
theorem dX4_move_74 : decode cX4_move 74 = .ok (.ireturn, 1) := by decide +kernel
set_option maxRecDepth 20000 in
theorem ggX4_support_X0_hasArmy : GoodIn wsX4_support wsX0_hasArmy := goodIn_r _ [11, 12, 13, 14, 10, 15, 16, 70, 71, 72] (by decide +kernel) (by decide +kernel)
set_option maxRecDepth 20000 in
theorem gX4_support_X0_hasArmy : GoodIn wsX4_support (wsV RX4 85 RX0 yX0_hasArmy wsX0_hasArmy) := goodIn_app (goodIn_of _ (by decide +kernel)) ggX4_support_X0_hasArmy
set_option maxRecDepth 20000 in
theorem ggX4_support_X4_isField : GoodIn wsX4_support wsX4_isField := goodIn_r _ [20] (by decide +kernel) (by decide +kernel)
set_option maxRecDepth 20000 in
theorem gX4_support_X4_isField : GoodIn wsX4_support (va_wsS RX4 55 yX4_isField wsX4_isField) := goodIn_app (goodIn_of _ (by decide +kernel)) ggX4_support_X4_isField
set_option maxRecDepth 20000 in
theorem ggX4_support_X0_canBeGiven : GoodIn wsX4_support wsX0_canBeGiven := goodIn_r _ [24, 25, 8, 9, 10, 11, 12, 13, 14, 15, 16, 26, 27, 28, 29, 30, 31, 19, 32, 70, 71, 72] (by decide +kernel) (by decide +kernel)
set_option maxRecDepth 20000 in
theorem gX4_support_X0_canBeGiven : GoodIn wsX4_support (wsV RX4 100 RX0 yX0_canBeGiven wsX0_canBeGiven) := goodIn_app (goodIn_of _ (by decide +kernel)) ggX4_support_X0_canBeGiven
set_option maxRecDepth 20000 in
theorem ggX4_support_X1_save : GoodIn wsX4_support wsX1_save := goodIn_r _ [37, 38, 39, 40, 41, 42, 36, 43, 44, 45, 46, 47, 10, 48, 16, 49, 50, 51, 52, 53, 30, 73, 74, 75, 70, 71, 72] (by decide +kernel) (by decide +kernel)
set_option maxRecDepth 20000 in
theorem gX4_support_X1_save : GoodIn wsX4_support (wsV RX4 77 RX1 yX1_save wsX1_save) := goodIn_app (goodIn_of _ (by decide +kernel)) ggX4_support_X1_save
set_option maxRecDepth 20000 in
theorem ggX4_support_X0_give : GoodIn wsX4_support wsX0_give := goodIn_r _ [57, 26, 27, 28, 10, 29, 30, 58, 59, 60, 61, 70, 71, 72] (by decide +kernel) (by decide +kernel)
set_option maxRecDepth 20000 in
theorem gX4_support_X0_give : GoodIn wsX4_support (wsV RX4 94 RX0 yX0_give wsX0_give) := goodIn_app (goodIn_of _ (by decide +kernel)) ggX4_support_X0_give
theorem dX4_support_0 : decode cX4_support 0 = .ok (.aload_n 0, 1) := by decide +kernel
theorem dX4_support_1 : decode cX4_support 1 = .ok (.getfield 20, 3) := by decide +kernel
theorem dX4_support_4 : decode cX4_support 4 = .ok (.iload_n 1, 1) := by decide +kernel
theorem dX4_support_5 : decode cX4_support 5 = .ok (.invokevirtual 85, 3) := by decide +kernel
theorem dX4_support_8 : decode cX4_support 8 = .ok (.ifCond .eq 17, 3) := by decide +kernel
theorem dX4_support_11 : decode cX4_support 11 = .ok (.iload_n 2, 1) := by decide +kernel
theorem dX4_support_12 : decode cX4_support 12 = .ok (.invokestatic 55, 3) := by decide +kernel
theorem dX4_support_15 : decode cX4_support 15 = .ok (.ifCond .eq 10, 3) := by decide +kernel
theorem dX4_support_18 : decode cX4_support 18 = .ok (.iload_n 3, 1) := by decide +kernel
theorem dX4_support_19 : decode cX4_support 19 = .ok (.invokestatic 55, 3) := by decide +kernel
theorem dX4_support_22 : decode cX4_support 22 = .ok (.ifCond .ne 13, 3) := by decide +kernel
theorem dX4_support_25 : decode cX4_support 25 = .ok (.new 58, 3) := by decide +kernel
theorem dX4_support_28 : decode cX4_support 28 = .ok (.dup, 1) := by decide +kernel
theorem dX4_support_29 : decode cX4_support 29 = .ok (.ldc 98, 2) := by decide +kernel
theorem dX4_support_31 : decode cX4_support 31 = .ok (.invokespecial 62, 3) := by decide +kernel
theorem dX4_support_34 : decode cX4_support 34 = .ok (.athrow, 1) := by decide +kernel
theorem dX4_support_35 : decode cX4_support 35 = .ok (.aload_n 0, 1) := by decide +kernel
theorem dX4_support_36 : decode cX4_support 36 = .ok (.getfield 20, 3) := by decide +kernel
theorem dX4_support_39 : decode cX4_support 39 = .ok (.iload_n 1, 1) := by decide +kernel
theorem dX4_support_40 : decode cX4_support 40 = .ok (.iconst 2, 1) := by decide +kernel
theorem dX4_support_41 : decode cX4_support 41 = .ok (.iload_n 2, 1) := by decide +kernel
theorem dX4_support_42 : decode cX4_support 42 = .ok (.iload_n 3, 1) := by decide +kernel
theorem dX4_support_43 : decode cX4_support 43 = .ok (.invokevirtual 100, 3) := by decide +kernel
theorem dX4_support_46 : decode cX4_support 46 = .ok (.ifCond .ne 13, 3) := by decide +kernel
theorem dX4_support_49 : decode cX4_support 49 = .ok (.new 104, 3) := by decide +kernel
theorem dX4_support_52 : decode cX4_support 52 = .ok (.dup, 1) := by decide +kernel
theorem dX4_support_53 : decode cX4_support 53 = .ok (.ldc 109, 2) := by decide +kernel
theorem dX4_support_55 : decode cX4_support 55 = .ok (.invokespecial 108, 3) := by decide +kernel
theorem dX4_support_58 : decode cX4_support 58 = .ok (.athrow, 1) := by decide +kernel
theorem dX4_support_59 : decode cX4_support 59 = .ok (.aload_n 0, 1) := by decide +kernel
theorem dX4_support_60 : decode cX4_support 60 = .ok (.getfield 30, 3) := by decide +kernel
theorem dX4_support_63 : decode cX4_support 63 = .ok (.aload_n 0, 1) := by decide +kernel
theorem dX4_support_64 : decode cX4_support 64 = .ok (.getfield 20, 3) := by decide +kernel
theorem dX4_support_67 : decode cX4_support 67 = .ok (.invokevirtual 77, 3) := by decide +kernel
theorem dX4_support_70 : decode cX4_support 70 = .ok (.aload_n 0, 1) := by decide +kernel
theorem dX4_support_71 : decode cX4_support 71 = .ok (.getfield 20, 3) := by decide +kernel
theorem dX4_support_74 : decode cX4_support 74 = .ok (.iload_n 1, 1) := by decide +kernel
theorem dX4_support_75 : decode cX4_support 75 = .ok (.iconst 2, 1) := by decide +kernel
theorem dX4_support_76 : decode cX4_support 76 = .ok (.iload_n 2, 1) := by decide +kernel
theorem dX4_support_77 : decode cX4_support 77 = .ok (.iload_n 3, 1) := by decide +kernel
theorem dX4_support_78 : decode cX4_support 78 = .ok (.invokevirtual 94, 3) := by decide +kernel
theorem dX4_support_81 : decode cX4_support 81 = .ok (.ireturn, 1) := by decide +kernel
set_option maxRecDepth 20000 in
theorem ggX4_open_X1_save : GoodIn wsX4_open wsX1_save := goodIn_r _ [8, 9, 10, 11, 12, 13, 7, 14, 15, 16, 17, 18, 19, 20, 21, 22, 23, 24, 25, 26, 27, 220, 221, 222, 223, 224, 225] (by decide +kernel) (by decide +kernel)
set_option maxRecDepth 20000 in
theorem gX4_open_X1_save : GoodIn wsX4_open (wsV RX4 77 RX1 yX1_save wsX1_save) := goodIn_app (goodIn_of _ (by decide +kernel)) ggX4_open_X1_save
set_option maxRecDepth 20000 in
theorem ggX4_open_X2_study : GoodIn wsX4_open wsX2_study := goodIn_r _ [32, 33, 34, 35, 31, 36, 37, 38, 39, 40, 41, 42, 43, 44, 45, 46, 19, 47, 21, 48, 49, 50, 51, 27, 52, 53, 54, 55, 56, 57, 58, 59, 60, 61, 62, 63, 64, 65, 66, 67, 68, 69, 70, 71, 72, 73, 74, 75, 76, 77, 78, 79, 80, 81, 82, 83, 84, 85, 86, 87, 88, 89, 90, 91, 92, 93, 94, 95, 96, 97, 98, 99, 100, 101, 102, 103, 104, 105, 106, 107, 108, 109, 110, 111, 112, 113, 114, 115, 116, 117, 118, 119, 120, 121, 122, 123, 124, 125, 126, 127, 128, 129, 130, 131, 132, 133, 134, 135, 136, 137, 138, 139, 140, 141, 226, 227, 228, 229, 230, 231, 232, 233, 223, 224, 225] (by decide +kernel) (by decide +kernel)
set_option maxRecDepth 20000 in
theorem gX4_open_X2_study : GoodIn wsX4_open (wsV RX4 111 RX2 yX2_study wsX2_study) := goodIn_app (goodIn_of _ (by decide +kernel)) ggX4_open_X2_study
set_option maxRecDepth 20000 in
theorem ggX4_open_X2_carryOut : GoodIn wsX4_open wsX2_carryOut := goodIn_r _ [145, 41, 113, 44, 45, 46, 19, 47, 21, 56, 57, 58, 31, 59, 48, 49, 50, 51, 27, 101, 102, 103, 104, 88, 82, 71, 83, 146, 147, 148, 149, 150, 151, 152, 153, 154, 155, 156, 157, 68, 70, 72, 158, 159, 160, 161, 115, 162, 163, 164, 165, 69, 166, 167, 168, 169, 170, 171, 172, 173, 174, 175, 176, 177, 178, 179, 180, 181, 182, 26, 183, 184, 185, 186, 187, 188, 189, 190, 191, 192, 193, 194, 195, 196, 197, 198, 199, 200, 201, 202, 203, 204, 205, 206, 207, 65, 66, 67, 208, 209, 210, 211, 226, 227, 228, 229, 230, 231, 232, 233, 223, 224, 225] (by decide +kernel) (by decide +kernel)
set_option maxRecDepth 20000 in
theorem gX4_open_X2_carryOut : GoodIn wsX4_open (wsV RX4 114 RX2 yX2_carryOut wsX2_carryOut) := goodIn_app (goodIn_of _ (by decide +kernel)) ggX4_open_X2_carryOut
theorem dX4_open_0 : decode cX4_open 0 = .ok (.aload_n 0, 1) := by decide +kernel
theorem dX4_open_1 : decode cX4_open 1 = .ok (.getfield 30, 3) := by decide +kernel
theorem dX4_open_4 : decode cX4_open 4 = .ok (.aload_n 0, 1) := by decide +kernel
theorem dX4_open_5 : decode cX4_open 5 = .ok (.getfield 20, 3) := by decide +kernel
theorem dX4_open_8 : decode cX4_open 8 = .ok (.invokevirtual 77, 3) := by decide +kernel
theorem dX4_open_11 : decode cX4_open 11 = .ok (.aload_n 0, 1) := by decide +kernel
theorem dX4_open_12 : decode cX4_open 12 = .ok (.getfield 10, 3) := by decide +kernel
theorem dX4_open_15 : decode cX4_open 15 = .ok (.invokevirtual 111, 3) := by decide +kernel
theorem dX4_open_18 : decode cX4_open 18 = .ok (.aload_n 0, 1) := by decide +kernel
theorem dX4_open_19 : decode cX4_open 19 = .ok (.getfield 10, 3) := by decide +kernel
theorem dX4_open_22 : decode cX4_open 22 = .ok (.invokevirtual 114, 3) := by decide +kernel
theorem dX4_open_25 : decode cX4_open 25 = .ok (.ireturn, 1) := by decide +kernel
set_option maxRecDepth 20000 in
theorem ggX4_undo_X1_size : GoodIn wsX4_undo wsX1_size := goodIn_r _ [9, 10, 41, 42, 43] (by decide +kernel) (by decide +kernel)
set_option maxRecDepth 20000 in
theorem gX4_undo_X1_size : GoodIn wsX4_undo (wsV RX4 143 RX1 yX1_size wsX1_size) := goodIn_app (goodIn_of _ (by decide +kernel)) ggX4_undo_X1_size
set_option maxRecDepth 20000 in
theorem ggX4_undo_X1_takeBack : GoodIn wsX4_undo wsX1_takeBack := goodIn_r _ [14, 10, 15, 16, 17, 8, 18, 19, 20, 21, 22, 23, 24, 25, 26, 27, 28, 29, 30, 31, 32, 41, 42, 43, 44, 45, 46] (by decide +kernel) (by decide +kernel)
set_option maxRecDepth 20000 in
theorem gX4_undo_X1_takeBack : GoodIn wsX4_undo (wsV RX4 146 RX1 yX1_takeBack wsX1_takeBack) := goodIn_app (goodIn_of _ (by decide +kernel)) ggX4_undo_X1_takeBack
theorem dX4_undo_0 : decode cX4_undo 0 = .ok (.aload_n 0, 1) := by decide +kernel
theorem dX4_undo_1 : decode cX4_undo 1 = .ok (.getfield 30, 3) := by decide +kernel
theorem dX4_undo_4 : decode cX4_undo 4 = .ok (.invokevirtual 143, 3) := by decide +kernel
theorem dX4_undo_7 : decode cX4_undo 7 = .ok (.ifCond .ne 13, 3) := by decide +kernel
theorem dX4_undo_10 : decode cX4_undo 10 = .ok (.new 72, 3) := by decide +kernel
theorem dX4_undo_13 : decode cX4_undo 13 = .ok (.dup, 1) := by decide +kernel
theorem dX4_undo_14 : decode cX4_undo 14 = .ok (.ldc 144, 2) := by decide +kernel
theorem dX4_undo_16 : decode cX4_undo 16 = .ok (.invokespecial 76, 3) := by decide +kernel
theorem dX4_undo_19 : decode cX4_undo 19 = .ok (.athrow, 1) := by decide +kernel
theorem dX4_undo_20 : decode cX4_undo 20 = .ok (.aload_n 0, 1) := by decide +kernel
theorem dX4_undo_21 : decode cX4_undo 21 = .ok (.getfield 30, 3) := by decide +kernel
theorem dX4_undo_24 : decode cX4_undo 24 = .ok (.aload_n 0, 1) := by decide +kernel
theorem dX4_undo_25 : decode cX4_undo 25 = .ok (.getfield 20, 3) := by decide +kernel
theorem dX4_undo_28 : decode cX4_undo 28 = .ok (.invokevirtual 146, 3) := by decide +kernel
theorem dX4_undo_31 : decode cX4_undo 31 = .ok (.aload_n 0, 1) := by decide +kernel
theorem dX4_undo_32 : decode cX4_undo 32 = .ok (.getfield 30, 3) := by decide +kernel
theorem dX4_undo_35 : decode cX4_undo 35 = .ok (.invokevirtual 143, 3) := by decide +kernel
theorem dX4_undo_38 : decode cX4_undo 38 = .ok (.ireturn, 1) := by decide +kernel
set_option maxRecDepth 20000 in
theorem ggX4_keep_X0_copyFrom : GoodIn wsX4_keep wsX0_copyFrom := goodIn_r _ [8, 9, 10, 11, 12, 13, 14, 15, 28, 29, 30] (by decide +kernel) (by decide +kernel)
set_option maxRecDepth 20000 in
theorem gX4_keep_X0_copyFrom : GoodIn wsX4_keep (wsV RX4 149 RX0 yX0_copyFrom wsX0_copyFrom) := goodIn_app (goodIn_of _ (by decide +kernel)) ggX4_keep_X0_copyFrom
set_option maxRecDepth 20000 in
theorem ggX4_keep_X0_number : GoodIn wsX4_keep wsX0_number := goodIn_r _ [19, 9, 28, 29, 30] (by decide +kernel) (by decide +kernel)
set_option maxRecDepth 20000 in
theorem gX4_keep_X0_number : GoodIn wsX4_keep (wsV RX4 69 RX0 yX0_number wsX0_number) := goodIn_app (goodIn_of _ (by decide +kernel)) ggX4_keep_X0_number
theorem dX4_keep_0 : decode cX4_keep 0 = .ok (.aload_n 0, 1) := by decide +kernel
theorem dX4_keep_1 : decode cX4_keep 1 = .ok (.getfield 37, 3) := by decide +kernel
theorem dX4_keep_4 : decode cX4_keep 4 = .ok (.aload_n 0, 1) := by decide +kernel
theorem dX4_keep_5 : decode cX4_keep 5 = .ok (.getfield 20, 3) := by decide +kernel
theorem dX4_keep_8 : decode cX4_keep 8 = .ok (.invokevirtual 149, 3) := by decide +kernel
theorem dX4_keep_11 : decode cX4_keep 11 = .ok (.aload_n 0, 1) := by decide +kernel
theorem dX4_keep_12 : decode cX4_keep 12 = .ok (.iconst 1, 1) := by decide +kernel
theorem dX4_keep_13 : decode cX4_keep 13 = .ok (.putfield 40, 3) := by decide +kernel
theorem dX4_keep_16 : decode cX4_keep 16 = .ok (.aload_n 0, 1) := by decide +kernel
theorem dX4_keep_17 : decode cX4_keep 17 = .ok (.getfield 20, 3) := by decide +kernel
theorem dX4_keep_20 : decode cX4_keep 20 = .ok (.iconst 0, 1) := by decide +kernel
theorem dX4_keep_21 : decode cX4_keep 21 = .ok (.invokevirtual 69, 3) := by decide +kernel
theorem dX4_keep_24 : decode cX4_keep 24 = .ok (.ireturn, 1) := by decide +kernel
set_option maxRecDepth 20000 in
theorem ggX4_restore_X1_save : GoodIn wsX4_restore wsX1_save := goodIn_r _ [11, 12, 13, 14, 15, 16, 10, 17, 18, 19, 20, 21, 22, 23, 24, 25, 26, 27, 28, 29, 30, 44, 45, 46, 47, 48, 49] (by decide +kernel) (by decide +kernel)
set_option maxRecDepth 20000 in
theorem gX4_restore_X1_save : GoodIn wsX4_restore (wsV RX4 77 RX1 yX1_save wsX1_save) := goodIn_app (goodIn_of _ (by decide +kernel)) ggX4_restore_X1_save
set_option maxRecDepth 20000 in
theorem ggX4_restore_X0_copyFrom : GoodIn wsX4_restore wsX0_copyFrom := goodIn_r _ [23, 24, 25, 26, 27, 28, 29, 30, 47, 48, 49] (by decide +kernel) (by decide +kernel)
set_option maxRecDepth 20000 in
theorem gX4_restore_X0_copyFrom : GoodIn wsX4_restore (wsV RX4 149 RX0 yX0_copyFrom wsX0_copyFrom) := goodIn_app (goodIn_of _ (by decide +kernel)) ggX4_restore_X0_copyFrom
set_option maxRecDepth 20000 in
theorem ggX4_restore_X0_number : GoodIn wsX4_restore wsX0_number := goodIn_r _ [35, 24, 47, 48, 49] (by decide +kernel) (by decide +kernel)
set_option maxRecDepth 20000 in
theorem gX4_restore_X0_number : GoodIn wsX4_restore (wsV RX4 69 RX0 yX0_number wsX0_number) := goodIn_app (goodIn_of _ (by decide +kernel)) ggX4_restore_X0_number
theorem dX4_restore_0 : decode cX4_restore 0 = .ok (.aload_n 0, 1) := by decide +kernel
theorem dX4_restore_1 : decode cX4_restore 1 = .ok (.getfield 40, 3) := by decide +kernel
theorem dX4_restore_4 : decode cX4_restore 4 = .ok (.ifCond .ne 13, 3) := by decide +kernel
theorem dX4_restore_7 : decode cX4_restore 7 = .ok (.new 72, 3) := by decide +kernel
theorem dX4_restore_10 : decode cX4_restore 10 = .ok (.dup, 1) := by decide +kernel
theorem dX4_restore_11 : decode cX4_restore 11 = .ok (.ldc 152, 2) := by decide +kernel
theorem dX4_restore_13 : decode cX4_restore 13 = .ok (.invokespecial 76, 3) := by decide +kernel
theorem dX4_restore_16 : decode cX4_restore 16 = .ok (.athrow, 1) := by decide +kernel
theorem dX4_restore_17 : decode cX4_restore 17 = .ok (.aload_n 0, 1) := by decide +kernel
theorem dX4_restore_18 : decode cX4_restore 18 = .ok (.getfield 30, 3) := by decide +kernel
theorem dX4_restore_21 : decode cX4_restore 21 = .ok (.aload_n 0, 1) := by decide +kernel
theorem dX4_restore_22 : decode cX4_restore 22 = .ok (.getfield 20, 3) := by decide +kernel
theorem dX4_restore_25 : decode cX4_restore 25 = .ok (.invokevirtual 77, 3) := by decide +kernel
theorem dX4_restore_28 : decode cX4_restore 28 = .ok (.aload_n 0, 1) := by decide +kernel
theorem dX4_restore_29 : decode cX4_restore 29 = .ok (.getfield 20, 3) := by decide +kernel
theorem dX4_restore_32 : decode cX4_restore 32 = .ok (.aload_n 0, 1) := by decide +kernel
theorem dX4_restore_33 : decode cX4_restore 33 = .ok (.getfield 37, 3) := by decide +kernel
theorem dX4_restore_36 : decode cX4_restore 36 = .ok (.invokevirtual 149, 3) := by decide +kernel
theorem dX4_restore_39 : decode cX4_restore 39 = .ok (.aload_n 0, 1) := by decide +kernel
theorem dX4_restore_40 : decode cX4_restore 40 = .ok (.getfield 20, 3) := by decide +kernel
theorem dX4_restore_43 : decode cX4_restore 43 = .ok (.iconst 0, 1) := by decide +kernel
theorem dX4_restore_44 : decode cX4_restore 44 = .ok (.invokevirtual 69, 3) := by decide +kernel
theorem dX4_restore_47 : decode cX4_restore 47 = .ok (.ireturn, 1) := by decide +kernel
set_option maxRecDepth 20000 in
theorem ggX4_armyOf_X0_hasArmy : GoodIn wsX4_armyOf wsX0_hasArmy := goodIn_r _ [10, 11, 12, 13, 9, 14, 15, 29, 30, 31] (by decide +kernel) (by decide +kernel)
set_option maxRecDepth 20000 in
theorem gX4_armyOf_X0_hasArmy : GoodIn wsX4_armyOf (wsV RX4 85 RX0 yX0_hasArmy wsX0_hasArmy) := goodIn_app (goodIn_of _ (by decide +kernel)) ggX4_armyOf_X0_hasArmy
set_option maxRecDepth 20000 in
theorem ggX4_armyOf_X0_of : GoodIn wsX4_armyOf wsX0_of := goodIn_r _ [19, 20, 29, 30, 31] (by decide +kernel) (by decide +kernel)
set_option maxRecDepth 20000 in
theorem gX4_armyOf_X0_of : GoodIn wsX4_armyOf (wsV RX4 156 RX0 yX0_of wsX0_of) := goodIn_app (goodIn_of _ (by decide +kernel)) ggX4_armyOf_X0_of
theorem dX4_armyOf_0 : decode cX4_armyOf 0 = .ok (.aload_n 0, 1) := by decide +kernel
theorem dX4_armyOf_1 : decode cX4_armyOf 1 = .ok (.getfield 20, 3) := by decide +kernel
theorem dX4_armyOf_4 : decode cX4_armyOf 4 = .ok (.iload_n 1, 1) := by decide +kernel
theorem dX4_armyOf_5 : decode cX4_armyOf 5 = .ok (.invokevirtual 85, 3) := by decide +kernel
theorem dX4_armyOf_8 : decode cX4_armyOf 8 = .ok (.ifCond .ne 13, 3) := by decide +kernel
theorem dX4_armyOf_11 : decode cX4_armyOf 11 = .ok (.new 58, 3) := by decide +kernel
theorem dX4_armyOf_14 : decode cX4_armyOf 14 = .ok (.dup, 1) := by decide +kernel
theorem dX4_armyOf_15 : decode cX4_armyOf 15 = .ok (.ldc 88, 2) := by decide +kernel
theorem dX4_armyOf_17 : decode cX4_armyOf 17 = .ok (.invokespecial 62, 3) := by decide +kernel
theorem dX4_armyOf_20 : decode cX4_armyOf 20 = .ok (.athrow, 1) := by decide +kernel
theorem dX4_armyOf_21 : decode cX4_armyOf 21 = .ok (.iload_n 2, 1) := by decide +kernel
theorem dX4_armyOf_22 : decode cX4_armyOf 22 = .ok (.ifCond .lt 9, 3) := by decide +kernel
theorem dX4_armyOf_25 : decode cX4_armyOf 25 = .ok (.iload_n 2, 1) := by decide +kernel
theorem dX4_armyOf_26 : decode cX4_armyOf 26 = .ok (.bipush 7, 2) := by decide +kernel
theorem dX4_armyOf_28 : decode cX4_armyOf 28 = .ok (.if_icmp .lt 13, 3) := by decide +kernel
theorem dX4_armyOf_31 : decode cX4_armyOf 31 = .ok (.new 104, 3) := by decide +kernel
theorem dX4_armyOf_34 : decode cX4_armyOf 34 = .ok (.dup, 1) := by decide +kernel
theorem dX4_armyOf_35 : decode cX4_armyOf 35 = .ok (.ldc 154, 2) := by decide +kernel
theorem dX4_armyOf_37 : decode cX4_armyOf 37 = .ok (.invokespecial 108, 3) := by decide +kernel
theorem dX4_armyOf_40 : decode cX4_armyOf 40 = .ok (.athrow, 1) := by decide +kernel
theorem dX4_armyOf_41 : decode cX4_armyOf 41 = .ok (.aload_n 0, 1) := by decide +kernel
theorem dX4_armyOf_42 : decode cX4_armyOf 42 = .ok (.getfield 20, 3) := by decide +kernel
theorem dX4_armyOf_45 : decode cX4_armyOf 45 = .ok (.iload_n 1, 1) := by decide +kernel
theorem dX4_armyOf_46 : decode cX4_armyOf 46 = .ok (.iload_n 2, 1) := by decide +kernel
theorem dX4_armyOf_47 : decode cX4_armyOf 47 = .ok (.invokevirtual 156, 3) := by decide +kernel
theorem dX4_armyOf_50 : decode cX4_armyOf 50 = .ok (.ireturn, 1) := by decide +kernel
set_option maxRecDepth 20000 in
theorem ggX4_field_X4_isField : GoodIn wsX4_field wsX4_isField := goodIn_r _ [8] (by decide +kernel) (by decide +kernel)
set_option maxRecDepth 20000 in
theorem gX4_field_X4_isField : GoodIn wsX4_field (va_wsS RX4 55 yX4_isField wsX4_isField) := goodIn_app (goodIn_of _ (by decide +kernel)) ggX4_field_X4_isField
set_option maxRecDepth 20000 in
theorem ggX4_field_X4_fieldNumber : GoodIn wsX4_field wsX4_fieldNumber := goodIn_r _ [12, 13, 14, 15, 16, 17, 18, 19, 20, 21, 22, 23, 24, 25, 26, 27, 28, 29, 30, 7, 31, 32, 33, 34, 35, 36, 37, 38, 39, 40, 41, 42, 43, 44, 45, 46, 47, 48, 49, 50, 51, 52, 53, 54, 55, 56, 57] (by decide +kernel) (by decide +kernel)
set_option maxRecDepth 20000 in
theorem gX4_field_X4_fieldNumber : GoodIn wsX4_field (wsV RX4 163 RX4 yX4_fieldNumber wsX4_fieldNumber) := goodIn_app (goodIn_of _ (by decide +kernel)) ggX4_field_X4_fieldNumber
theorem dX4_field_0 : decode cX4_field 0 = .ok (.iload_n 1, 1) := by decide +kernel
theorem dX4_field_1 : decode cX4_field 1 = .ok (.invokestatic 55, 3) := by decide +kernel
theorem dX4_field_4 : decode cX4_field 4 = .ok (.ifCond .ne 13, 3) := by decide +kernel
theorem dX4_field_7 : decode cX4_field 7 = .ok (.new 58, 3) := by decide +kernel
theorem dX4_field_10 : decode cX4_field 10 = .ok (.dup, 1) := by decide +kernel
theorem dX4_field_11 : decode cX4_field 11 = .ok (.ldc 159, 2) := by decide +kernel
theorem dX4_field_13 : decode cX4_field 13 = .ok (.invokespecial 62, 3) := by decide +kernel
theorem dX4_field_16 : decode cX4_field 16 = .ok (.athrow, 1) := by decide +kernel
theorem dX4_field_17 : decode cX4_field 17 = .ok (.iload_n 2, 1) := by decide +kernel
theorem dX4_field_18 : decode cX4_field 18 = .ok (.ifCond .lt 8, 3) := by decide +kernel
theorem dX4_field_21 : decode cX4_field 21 = .ok (.iload_n 2, 1) := by decide +kernel
theorem dX4_field_22 : decode cX4_field 22 = .ok (.iconst 5, 1) := by decide +kernel
theorem dX4_field_23 : decode cX4_field 23 = .ok (.if_icmp .lt 13, 3) := by decide +kernel
theorem dX4_field_26 : decode cX4_field 26 = .ok (.new 104, 3) := by decide +kernel
theorem dX4_field_29 : decode cX4_field 29 = .ok (.dup, 1) := by decide +kernel
theorem dX4_field_30 : decode cX4_field 30 = .ok (.ldc 161, 2) := by decide +kernel
theorem dX4_field_32 : decode cX4_field 32 = .ok (.invokespecial 108, 3) := by decide +kernel
theorem dX4_field_35 : decode cX4_field 35 = .ok (.athrow, 1) := by decide +kernel
theorem dX4_field_36 : decode cX4_field 36 = .ok (.aload_n 0, 1) := by decide +kernel
theorem dX4_field_37 : decode cX4_field 37 = .ok (.iload_n 1, 1) := by decide +kernel
theorem dX4_field_38 : decode cX4_field 38 = .ok (.iload_n 2, 1) := by decide +kernel
theorem dX4_field_39 : decode cX4_field 39 = .ok (.invokevirtual 163, 3) := by decide +kernel
theorem dX4_field_42 : decode cX4_field 42 = .ok (.ireturn, 1) := by decide +kernel
set_option maxRecDepth 20000 in
theorem ggX4_seat_X4_isSeat : GoodIn wsX4_seat wsX4_isSeat := goodIn_r _ [8] (by decide +kernel) (by decide +kernel)
set_option maxRecDepth 20000 in
theorem gX4_seat_X4_isSeat : GoodIn wsX4_seat (va_wsS RX4 51 yX4_isSeat wsX4_isSeat) := goodIn_app (goodIn_of _ (by decide +kernel)) ggX4_seat_X4_isSeat
set_option maxRecDepth 20000 in
theorem ggX4_seat_X4_seatNumber : GoodIn wsX4_seat wsX4_seatNumber := goodIn_r _ [12, 13, 14, 15, 16, 17, 18, 19, 20, 21, 22, 23, 24, 25, 26, 27, 28, 29, 30, 31, 32, 33, 34, 35, 36, 37, 38, 39, 40, 41, 42, 7, 43, 44, 45, 46, 47, 48, 49, 50, 51, 52, 53, 54, 55, 56, 57, 58, 59, 60, 61, 62, 63, 64, 65, 66] (by decide +kernel) (by decide +kernel)
set_option maxRecDepth 20000 in
theorem gX4_seat_X4_seatNumber : GoodIn wsX4_seat (wsV RX4 168 RX4 yX4_seatNumber wsX4_seatNumber) := goodIn_app (goodIn_of _ (by decide +kernel)) ggX4_seat_X4_seatNumber
theorem dX4_seat_0 : decode cX4_seat 0 = .ok (.iload_n 1, 1) := by decide +kernel
theorem dX4_seat_1 : decode cX4_seat 1 = .ok (.invokestatic 51, 3) := by decide +kernel
theorem dX4_seat_4 : decode cX4_seat 4 = .ok (.ifCond .ne 13, 3) := by decide +kernel
theorem dX4_seat_7 : decode cX4_seat 7 = .ok (.new 58, 3) := by decide +kernel
theorem dX4_seat_10 : decode cX4_seat 10 = .ok (.dup, 1) := by decide +kernel
theorem dX4_seat_11 : decode cX4_seat 11 = .ok (.ldc 166, 2) := by decide +kernel
theorem dX4_seat_13 : decode cX4_seat 13 = .ok (.invokespecial 62, 3) := by decide +kernel
theorem dX4_seat_16 : decode cX4_seat 16 = .ok (.athrow, 1) := by decide +kernel
theorem dX4_seat_17 : decode cX4_seat 17 = .ok (.iload_n 2, 1) := by decide +kernel
theorem dX4_seat_18 : decode cX4_seat 18 = .ok (.ifCond .lt 8, 3) := by decide +kernel
theorem dX4_seat_21 : decode cX4_seat 21 = .ok (.iload_n 2, 1) := by decide +kernel
theorem dX4_seat_22 : decode cX4_seat 22 = .ok (.iconst 5, 1) := by decide +kernel
theorem dX4_seat_23 : decode cX4_seat 23 = .ok (.if_icmp .lt 13, 3) := by decide +kernel
theorem dX4_seat_26 : decode cX4_seat 26 = .ok (.new 104, 3) := by decide +kernel
theorem dX4_seat_29 : decode cX4_seat 29 = .ok (.dup, 1) := by decide +kernel
theorem dX4_seat_30 : decode cX4_seat 30 = .ok (.ldc 161, 2) := by decide +kernel
theorem dX4_seat_32 : decode cX4_seat 32 = .ok (.invokespecial 108, 3) := by decide +kernel
theorem dX4_seat_35 : decode cX4_seat 35 = .ok (.athrow, 1) := by decide +kernel
theorem dX4_seat_36 : decode cX4_seat 36 = .ok (.aload_n 0, 1) := by decide +kernel
theorem dX4_seat_37 : decode cX4_seat 37 = .ok (.iload_n 1, 1) := by decide +kernel
theorem dX4_seat_38 : decode cX4_seat 38 = .ok (.iload_n 2, 1) := by decide +kernel
theorem dX4_seat_39 : decode cX4_seat 39 = .ok (.invokevirtual 168, 3) := by decide +kernel
theorem dX4_seat_42 : decode cX4_seat 42 = .ok (.ireturn, 1) := by decide +kernel
set_option maxRecDepth 20000 in
theorem ggX4_count_X4_countNumber : GoodIn wsX4_count wsX4_countNumber := goodIn_r _ [7, 8, 9, 10, 11, 12, 13, 14, 15, 16, 17, 18, 19, 20, 21, 22, 23, 24, 25, 26, 27, 28, 29, 30, 31, 32, 33, 34, 35, 36, 37, 38, 39, 40, 41, 42, 43, 44, 45] (by decide +kernel) (by decide +kernel)
set_option maxRecDepth 20000 in
theorem gX4_count_X4_countNumber : GoodIn wsX4_count (wsV RX4 173 RX4 yX4_countNumber wsX4_countNumber) := goodIn_app (goodIn_of _ (by decide +kernel)) ggX4_count_X4_countNumber
theorem dX4_count_0 : decode cX4_count 0 = .ok (.iload_n 1, 1) := by decide +kernel
theorem dX4_count_1 : decode cX4_count 1 = .ok (.ifCond .lt 9, 3) := by decide +kernel
theorem dX4_count_4 : decode cX4_count 4 = .ok (.iload_n 1, 1) := by decide +kernel
theorem dX4_count_5 : decode cX4_count 5 = .ok (.bipush 13, 2) := by decide +kernel
theorem dX4_count_7 : decode cX4_count 7 = .ok (.if_icmp .lt 13, 3) := by decide +kernel
theorem dX4_count_10 : decode cX4_count 10 = .ok (.new 104, 3) := by decide +kernel
theorem dX4_count_13 : decode cX4_count 13 = .ok (.dup, 1) := by decide +kernel
theorem dX4_count_14 : decode cX4_count 14 = .ok (.ldc 171, 2) := by decide +kernel
theorem dX4_count_16 : decode cX4_count 16 = .ok (.invokespecial 108, 3) := by decide +kernel
theorem dX4_count_19 : decode cX4_count 19 = .ok (.athrow, 1) := by decide +kernel
theorem dX4_count_20 : decode cX4_count 20 = .ok (.aload_n 0, 1) := by decide +kernel
theorem dX4_count_21 : decode cX4_count 21 = .ok (.iload_n 1, 1) := by decide +kernel
theorem dX4_count_22 : decode cX4_count 22 = .ok (.invokevirtual 173, 3) := by decide +kernel
theorem dX4_count_25 : decode cX4_count 25 = .ok (.ireturn, 1) := by decide +kernel
set_option maxRecDepth 20000 in
theorem ggX4_ifOpened_X0_hasArmy : GoodIn wsX4_ifOpened wsX0_hasArmy := goodIn_r _ [11, 12, 13, 14, 10, 15, 16, 140, 141, 142] (by decide +kernel) (by decide +kernel)
set_option maxRecDepth 20000 in
theorem gX4_ifOpened_X0_hasArmy : GoodIn wsX4_ifOpened (wsV RX4 85 RX0 yX0_hasArmy wsX0_hasArmy) := goodIn_app (goodIn_of _ (by decide +kernel)) ggX4_ifOpened_X0_hasArmy
set_option maxRecDepth 20000 in
theorem ggX4_ifOpened_X2_study : GoodIn wsX4_ifOpened wsX2_study := goodIn_r _ [21, 22, 23, 24, 20, 25, 26, 27, 28, 29, 30, 31, 32, 33, 13, 14, 10, 15, 16, 34, 35, 36, 37, 38, 39, 40, 41, 42, 43, 44, 45, 46, 47, 48, 49, 50, 51, 52, 53, 54, 12, 55, 56, 57, 58, 59, 60, 61, 62, 63, 64, 65, 66, 67, 68, 69, 70, 71, 72, 73, 74, 75, 76, 77, 78, 79, 80, 81, 82, 83, 84, 85, 86, 87, 88, 89, 90, 91, 92, 93, 94, 95, 96, 97, 98, 99, 100, 101, 102, 103, 104, 105, 106, 107, 108, 109, 110, 111, 112, 113, 114, 115, 116, 117, 118, 119, 120, 121, 122, 123, 124, 125, 126, 127, 143, 144, 145, 146, 147, 148, 149, 150, 140, 141, 142] (by decide +kernel) (by decide +kernel)
set_option maxRecDepth 20000 in
theorem gX4_ifOpened_X2_study : GoodIn wsX4_ifOpened (wsV RX4 111 RX2 yX2_study wsX2_study) := goodIn_app (goodIn_of _ (by decide +kernel)) ggX4_ifOpened_X2_study
set_option maxRecDepth 20000 in
theorem ggX4_ifOpened_X2_outcome : GoodIn wsX4_ifOpened wsX2_outcome := goodIn_r _ [131, 101, 63, 74, 99, 32, 31, 68, 57, 69, 143, 144, 145, 146, 147, 148, 149, 150] (by decide +kernel) (by decide +kernel)
set_option maxRecDepth 20000 in
theorem gX4_ifOpened_X2_outcome : GoodIn wsX4_ifOpened (wsV RX4 178 RX2 yX2_outcome wsX2_outcome) := goodIn_app (goodIn_of _ (by decide +kernel)) ggX4_ifOpened_X2_outcome
theorem dX4_ifOpened_0 : decode cX4_ifOpened 0 = .ok (.aload_n 0, 1) := by decide +kernel
theorem dX4_ifOpened_1 : decode cX4_ifOpened 1 = .ok (.getfield 20, 3) := by decide +kernel
theorem dX4_ifOpened_4 : decode cX4_ifOpened 4 = .ok (.iload_n 1, 1) := by decide +kernel
theorem dX4_ifOpened_5 : decode cX4_ifOpened 5 = .ok (.invokevirtual 85, 3) := by decide +kernel
theorem dX4_ifOpened_8 : decode cX4_ifOpened 8 = .ok (.ifCond .ne 13, 3) := by decide +kernel
theorem dX4_ifOpened_11 : decode cX4_ifOpened 11 = .ok (.new 58, 3) := by decide +kernel
theorem dX4_ifOpened_14 : decode cX4_ifOpened 14 = .ok (.dup, 1) := by decide +kernel
theorem dX4_ifOpened_15 : decode cX4_ifOpened 15 = .ok (.ldc 88, 2) := by decide +kernel
theorem dX4_ifOpened_17 : decode cX4_ifOpened 17 = .ok (.invokespecial 62, 3) := by decide +kernel
theorem dX4_ifOpened_20 : decode cX4_ifOpened 20 = .ok (.athrow, 1) := by decide +kernel
theorem dX4_ifOpened_21 : decode cX4_ifOpened 21 = .ok (.iload_n 2, 1) := by decide +kernel
theorem dX4_ifOpened_22 : decode cX4_ifOpened 22 = .ok (.ifCond .lt 9, 3) := by decide +kernel
theorem dX4_ifOpened_25 : decode cX4_ifOpened 25 = .ok (.iload_n 2, 1) := by decide +kernel
theorem dX4_ifOpened_26 : decode cX4_ifOpened 26 = .ok (.bipush 6, 2) := by decide +kernel
theorem dX4_ifOpened_28 : decode cX4_ifOpened 28 = .ok (.if_icmp .lt 13, 3) := by decide +kernel
theorem dX4_ifOpened_31 : decode cX4_ifOpened 31 = .ok (.new 104, 3) := by decide +kernel
theorem dX4_ifOpened_34 : decode cX4_ifOpened 34 = .ok (.dup, 1) := by decide +kernel
theorem dX4_ifOpened_35 : decode cX4_ifOpened 35 = .ok (.ldc 176, 2) := by decide +kernel
theorem dX4_ifOpened_37 : decode cX4_ifOpened 37 = .ok (.invokespecial 108, 3) := by decide +kernel
theorem dX4_ifOpened_40 : decode cX4_ifOpened 40 = .ok (.athrow, 1) := by decide +kernel
theorem dX4_ifOpened_41 : decode cX4_ifOpened 41 = .ok (.aload_n 0, 1) := by decide +kernel
theorem dX4_ifOpened_42 : decode cX4_ifOpened 42 = .ok (.getfield 10, 3) := by decide +kernel
theorem dX4_ifOpened_45 : decode cX4_ifOpened 45 = .ok (.invokevirtual 111, 3) := by decide +kernel
theorem dX4_ifOpened_48 : decode cX4_ifOpened 48 = .ok (.aload_n 0, 1) := by decide +kernel
theorem dX4_ifOpened_49 : decode cX4_ifOpened 49 = .ok (.getfield 10, 3) := by decide +kernel
theorem dX4_ifOpened_52 : decode cX4_ifOpened 52 = .ok (.iload_n 1, 1) := by decide +kernel
theorem dX4_ifOpened_53 : decode cX4_ifOpened 53 = .ok (.iload_n 2, 1) := by decide +kernel
theorem dX4_ifOpened_54 : decode cX4_ifOpened 54 = .ok (.invokevirtual 178, 3) := by decide +kernel
theorem dX4_ifOpened_57 : decode cX4_ifOpened 57 = .ok (.ireturn, 1) := by decide +kernel
set_option maxRecDepth 20000 in
theorem ggX4_canReach_X0_hasArmy : GoodIn wsX4_canReach wsX0_hasArmy := goodIn_r _ [8, 9, 10, 11, 7, 12, 13, 127, 128, 129] (by decide +kernel) (by decide +kernel)
set_option maxRecDepth 20000 in
theorem gX4_canReach_X0_hasArmy : GoodIn wsX4_canReach (wsV RX4 85 RX0 yX0_hasArmy wsX0_hasArmy) := goodIn_app (goodIn_of _ (by decide +kernel)) ggX4_canReach_X0_hasArmy
set_option maxRecDepth 20000 in
theorem ggX4_canReach_X4_reachMask : GoodIn wsX4_canReach wsX4_reachMask := goodIn_r _ [18, 19, 3, 20, 21, 22, 23, 7, 24, 13, 25, 26, 27, 28, 29, 30, 31, 32, 33, 34, 35, 5, 6, 8, 9, 10, 11, 12, 36, 37, 38, 39, 40, 17, 41, 42, 43, 44, 45, 46, 47, 48, 49, 50, 51, 52, 53, 54, 55, 56, 57, 58, 59, 60, 61, 62, 63, 64, 65, 66, 67, 68, 69, 70, 71, 72, 73, 74, 75, 76, 77, 78, 79, 80, 81, 82, 83, 84, 85, 86, 87, 88, 89, 90, 91, 92, 93, 94, 95, 96, 97, 98, 99, 100, 101, 102, 103, 104, 105, 106, 107, 108, 109, 110, 111, 112, 113, 114, 115, 116, 117, 118, 119, 120, 121, 122, 123, 124, 125, 126, 127, 128, 129, 130, 131, 132, 133, 134, 135, 136, 137] (by decide +kernel) (by decide +kernel)
set_option maxRecDepth 20000 in
theorem gX4_canReach_X4_reachMask : GoodIn wsX4_canReach (wsV RX4 181 RX4 yX4_reachMask wsX4_reachMask) := goodIn_app (goodIn_of _ (by decide +kernel)) ggX4_canReach_X4_reachMask
theorem dX4_canReach_0 : decode cX4_canReach 0 = .ok (.aload_n 0, 1) := by decide +kernel
theorem dX4_canReach_1 : decode cX4_canReach 1 = .ok (.getfield 20, 3) := by decide +kernel
theorem dX4_canReach_4 : decode cX4_canReach 4 = .ok (.iload_n 1, 1) := by decide +kernel
theorem dX4_canReach_5 : decode cX4_canReach 5 = .ok (.invokevirtual 85, 3) := by decide +kernel
theorem dX4_canReach_8 : decode cX4_canReach 8 = .ok (.ifCond .ne 13, 3) := by decide +kernel
theorem dX4_canReach_11 : decode cX4_canReach 11 = .ok (.new 58, 3) := by decide +kernel
theorem dX4_canReach_14 : decode cX4_canReach 14 = .ok (.dup, 1) := by decide +kernel
theorem dX4_canReach_15 : decode cX4_canReach 15 = .ok (.ldc 88, 2) := by decide +kernel
theorem dX4_canReach_17 : decode cX4_canReach 17 = .ok (.invokespecial 62, 3) := by decide +kernel
theorem dX4_canReach_20 : decode cX4_canReach 20 = .ok (.athrow, 1) := by decide +kernel
theorem dX4_canReach_21 : decode cX4_canReach 21 = .ok (.aload_n 0, 1) := by decide +kernel
theorem dX4_canReach_22 : decode cX4_canReach 22 = .ok (.iload_n 1, 1) := by decide +kernel
theorem dX4_canReach_23 : decode cX4_canReach 23 = .ok (.invokevirtual 181, 3) := by decide +kernel
theorem dX4_canReach_26 : decode cX4_canReach 26 = .ok (.ireturn, 1) := by decide +kernel
set_option maxRecDepth 20000 in
theorem ggX4_danger_X2_study : GoodIn wsX4_danger wsX2_study := goodIn_r _ [6, 7, 8, 9, 5, 10, 11, 12, 13, 14, 15, 16, 17, 18, 19, 20, 21, 22, 23, 24, 25, 26, 27, 28, 29, 30, 31, 32, 33, 34, 35, 36, 37, 38, 39, 40, 41, 42, 43, 44, 45, 46, 47, 48, 49, 50, 51, 52, 53, 54, 55, 56, 57, 58, 59, 60, 61, 62, 63, 64, 65, 66, 67, 68, 69, 70, 71, 72, 73, 74, 75, 76, 77, 78, 79, 80, 81, 82, 83, 84, 85, 86, 87, 88, 89, 90, 91, 92, 93, 94, 95, 96, 97, 98, 99, 100, 101, 102, 103, 104, 105, 106, 107, 108, 109, 110, 111, 112, 113, 114, 115, 116, 117, 118, 131, 132, 133, 134, 135, 136, 137, 138, 139, 140, 141] (by decide +kernel) (by decide +kernel)
set_option maxRecDepth 20000 in
theorem gX4_danger_X2_study : GoodIn wsX4_danger (wsV RX4 111 RX2 yX2_study wsX2_study) := goodIn_app (goodIn_of _ (by decide +kernel)) ggX4_danger_X2_study
set_option maxRecDepth 20000 in
theorem ggX4_danger_X2_mostInDanger : GoodIn wsX4_danger wsX2_mostInDanger := goodIn_r _ [122, 101, 102, 103, 5, 104, 15, 90, 91, 54, 18, 19, 20, 21, 22, 23, 59, 48, 60, 131, 132, 133, 134, 135, 136, 137, 138, 139, 140, 141] (by decide +kernel) (by decide +kernel)
set_option maxRecDepth 20000 in
theorem gX4_danger_X2_mostInDanger : GoodIn wsX4_danger (wsV RX4 184 RX2 yX2_mostInDanger wsX2_mostInDanger) := goodIn_app (goodIn_of _ (by decide +kernel)) ggX4_danger_X2_mostInDanger
theorem dX4_danger_0 : decode cX4_danger 0 = .ok (.aload_n 0, 1) := by decide +kernel
theorem dX4_danger_1 : decode cX4_danger 1 = .ok (.getfield 10, 3) := by decide +kernel
theorem dX4_danger_4 : decode cX4_danger 4 = .ok (.invokevirtual 111, 3) := by decide +kernel
theorem dX4_danger_7 : decode cX4_danger 7 = .ok (.aload_n 0, 1) := by decide +kernel
theorem dX4_danger_8 : decode cX4_danger 8 = .ok (.getfield 10, 3) := by decide +kernel
theorem dX4_danger_11 : decode cX4_danger 11 = .ok (.invokevirtual 184, 3) := by decide +kernel
theorem dX4_danger_14 : decode cX4_danger 14 = .ok (.ireturn, 1) := by decide +kernel
set_option maxRecDepth 20000 in
theorem ggX4_ifYear_X4_isSeat : GoodIn wsX4_ifYear wsX4_isSeat := goodIn_r _ [7] (by decide +kernel) (by decide +kernel)
set_option maxRecDepth 20000 in
theorem gX4_ifYear_X4_isSeat : GoodIn wsX4_ifYear (va_wsS RX4 51 yX4_isSeat wsX4_isSeat) := goodIn_app (goodIn_of _ (by decide +kernel)) ggX4_ifYear_X4_isSeat
set_option maxRecDepth 20000 in
theorem ggX4_ifYear_X2_study : GoodIn wsX4_ifYear wsX2_study := goodIn_r _ [12, 13, 14, 15, 11, 16, 17, 18, 19, 20, 21, 22, 23, 24, 25, 26, 27, 28, 29, 30, 31, 32, 33, 34, 35, 36, 37, 38, 39, 40, 41, 42, 43, 44, 45, 46, 47, 48, 49, 50, 51, 52, 53, 6, 54, 55, 56, 57, 58, 59, 60, 61, 62, 63, 64, 65, 66, 67, 68, 69, 70, 71, 72, 73, 74, 75, 76, 77, 78, 79, 80, 81, 82, 83, 84, 85, 86, 87, 88, 89, 90, 91, 92, 93, 94, 95, 96, 97, 98, 99, 100, 101, 102, 103, 104, 105, 106, 107, 108, 109, 110, 111, 112, 113, 114, 115, 116, 117, 118, 119, 120, 121, 122, 123, 147, 148, 149, 150, 151, 152, 153, 154, 155, 156, 157] (by decide +kernel) (by decide +kernel)
set_option maxRecDepth 20000 in
theorem gX4_ifYear_X2_study : GoodIn wsX4_ifYear (wsV RX4 111 RX2 yX2_study wsX2_study) := goodIn_app (goodIn_of _ (by decide +kernel)) ggX4_ifYear_X2_study
set_option maxRecDepth 20000 in
theorem ggX4_ifYear_X2_centresThen : GoodIn wsX4_ifYear wsX2_centresThen := goodIn_r _ [127, 128, 6, 129, 130, 131, 132, 11, 133, 21, 97, 24, 25, 26, 27, 28, 29, 64, 65, 30, 31, 32, 33, 34, 134, 135, 136, 137, 138, 147, 148, 149, 150, 151, 152, 153, 154, 155, 156, 157] (by decide +kernel) (by decide +kernel)
set_option maxRecDepth 20000 in
theorem gX4_ifYear_X2_centresThen : GoodIn wsX4_ifYear (wsV RX4 187 RX2 yX2_centresThen wsX2_centresThen) := goodIn_app (goodIn_of _ (by decide +kernel)) ggX4_ifYear_X2_centresThen
theorem dX4_ifYear_0 : decode cX4_ifYear 0 = .ok (.iload_n 1, 1) := by decide +kernel
theorem dX4_ifYear_1 : decode cX4_ifYear 1 = .ok (.invokestatic 51, 3) := by decide +kernel
theorem dX4_ifYear_4 : decode cX4_ifYear 4 = .ok (.ifCond .ne 13, 3) := by decide +kernel
theorem dX4_ifYear_7 : decode cX4_ifYear 7 = .ok (.new 58, 3) := by decide +kernel
theorem dX4_ifYear_10 : decode cX4_ifYear 10 = .ok (.dup, 1) := by decide +kernel
theorem dX4_ifYear_11 : decode cX4_ifYear 11 = .ok (.ldc 166, 2) := by decide +kernel
theorem dX4_ifYear_13 : decode cX4_ifYear 13 = .ok (.invokespecial 62, 3) := by decide +kernel
theorem dX4_ifYear_16 : decode cX4_ifYear 16 = .ok (.athrow, 1) := by decide +kernel
theorem dX4_ifYear_17 : decode cX4_ifYear 17 = .ok (.aload_n 0, 1) := by decide +kernel
theorem dX4_ifYear_18 : decode cX4_ifYear 18 = .ok (.getfield 10, 3) := by decide +kernel
theorem dX4_ifYear_21 : decode cX4_ifYear 21 = .ok (.invokevirtual 111, 3) := by decide +kernel
theorem dX4_ifYear_24 : decode cX4_ifYear 24 = .ok (.aload_n 0, 1) := by decide +kernel
theorem dX4_ifYear_25 : decode cX4_ifYear 25 = .ok (.getfield 10, 3) := by decide +kernel
theorem dX4_ifYear_28 : decode cX4_ifYear 28 = .ok (.iload_n 1, 1) := by decide +kernel
theorem dX4_ifYear_29 : decode cX4_ifYear 29 = .ok (.invokevirtual 187, 3) := by decide +kernel
theorem dX4_ifYear_32 : decode cX4_ifYear 32 = .ok (.ireturn, 1) := by decide +kernel
set_option maxRecDepth 20000 in
theorem ggX4_success_X4_successShare : GoodIn wsX4_success wsX4_successShare := goodIn_r _ [5, 6, 7, 8, 9, 10, 11, 12, 13, 14, 15, 16, 17, 18, 19, 20, 21, 22, 23] (by decide +kernel) (by decide +kernel)
set_option maxRecDepth 20000 in
theorem gX4_success_X4_successShare : GoodIn wsX4_success (wsV RX4 190 RX4 yX4_successShare wsX4_successShare) := goodIn_app (goodIn_of _ (by decide +kernel)) ggX4_success_X4_successShare
theorem dX4_success_0 : decode cX4_success 0 = .ok (.aload_n 0, 1) := by decide +kernel
theorem dX4_success_1 : decode cX4_success 1 = .ok (.invokevirtual 190, 3) := by decide +kernel
theorem dX4_success_4 : decode cX4_success 4 = .ok (.dreturn, 1) := by decide +kernel
set_option maxRecDepth 20000 in
theorem ggX4_fieldNumber_X0_armyOn : GoodIn wsX4_fieldNumber wsX0_armyOn := goodIn_r _ [6, 7, 8, 9, 5, 10, 11, 12, 13, 14, 15, 16, 44, 45, 46] (by decide +kernel) (by decide +kernel)
set_option maxRecDepth 20000 in
theorem gX4_fieldNumber_X0_armyOn : GoodIn wsX4_fieldNumber (wsV RX4 65 RX0 yX0_armyOn wsX0_armyOn) := goodIn_app (goodIn_of _ (by decide +kernel)) ggX4_fieldNumber_X0_armyOn
set_option maxRecDepth 20000 in
theorem ggX4_fieldNumber_X4_isCentre : GoodIn wsX4_fieldNumber wsX4_isCentre := goodIn_r _ [20] (by decide +kernel) (by decide +kernel)
set_option maxRecDepth 20000 in
theorem gX4_fieldNumber_X4_isCentre : GoodIn wsX4_fieldNumber (va_wsS RX4 239 yX4_isCentre wsX4_isCentre) := goodIn_app (goodIn_of _ (by decide +kernel)) ggX4_fieldNumber_X4_isCentre
set_option maxRecDepth 20000 in
theorem ggX4_fieldNumber_X0_owner : GoodIn wsX4_fieldNumber wsX0_owner := goodIn_r _ [24, 25, 44, 45, 46] (by decide +kernel) (by decide +kernel)
set_option maxRecDepth 20000 in
theorem gX4_fieldNumber_X0_owner : GoodIn wsX4_fieldNumber (wsV RX4 242 RX0 yX0_owner wsX0_owner) := goodIn_app (goodIn_of _ (by decide +kernel)) ggX4_fieldNumber_X0_owner
set_option maxRecDepth 20000 in
theorem ggX4_fieldNumber_X0_seatsSeeing : GoodIn wsX4_fieldNumber wsX0_seatsSeeing := goodIn_r _ [29, 7, 8, 9, 5, 10, 11, 12, 13, 14, 15, 16, 30, 19, 31, 44, 45, 46] (by decide +kernel) (by decide +kernel)
set_option maxRecDepth 20000 in
theorem gX4_fieldNumber_X0_seatsSeeing : GoodIn wsX4_fieldNumber (wsV RX4 245 RX0 yX0_seatsSeeing wsX0_seatsSeeing) := goodIn_app (goodIn_of _ (by decide +kernel)) ggX4_fieldNumber_X0_seatsSeeing
set_option maxRecDepth 20000 in
theorem ggX4_fieldNumber_X4_neighbourMask : GoodIn wsX4_fieldNumber wsX4_neighbourMask := goodIn_r _ [34, 35, 30, 19, 31] (by decide +kernel) (by decide +kernel)
set_option maxRecDepth 20000 in
theorem gX4_fieldNumber_X4_neighbourMask : GoodIn wsX4_fieldNumber (va_wsS RX4 248 yX4_neighbourMask wsX4_neighbourMask) := goodIn_app (goodIn_of _ (by decide +kernel)) ggX4_fieldNumber_X4_neighbourMask
theorem dX4_fieldNumber_0 : decode cX4_fieldNumber 0 = .ok (.iload_n 2, 1) := by decide +kernel
theorem dX4_fieldNumber_1 : decode cX4_fieldNumber 1 = .ok (.tableswitch 71 0 3 #[31, 40, 53, 62], 31) := by decide +kernel
theorem dX4_fieldNumber_32 : decode cX4_fieldNumber 32 = .ok (.aload_n 0, 1) := by decide +kernel
theorem dX4_fieldNumber_33 : decode cX4_fieldNumber 33 = .ok (.getfield 20, 3) := by decide +kernel
theorem dX4_fieldNumber_36 : decode cX4_fieldNumber 36 = .ok (.iload_n 1, 1) := by decide +kernel
theorem dX4_fieldNumber_37 : decode cX4_fieldNumber 37 = .ok (.invokevirtual 65, 3) := by decide +kernel
theorem dX4_fieldNumber_40 : decode cX4_fieldNumber 40 = .ok (.ireturn, 1) := by decide +kernel
theorem dX4_fieldNumber_41 : decode cX4_fieldNumber 41 = .ok (.iload_n 1, 1) := by decide +kernel
theorem dX4_fieldNumber_42 : decode cX4_fieldNumber 42 = .ok (.invokestatic 239, 3) := by decide +kernel
theorem dX4_fieldNumber_45 : decode cX4_fieldNumber 45 = .ok (.ifCond .eq 7, 3) := by decide +kernel
theorem dX4_fieldNumber_48 : decode cX4_fieldNumber 48 = .ok (.iconst 1, 1) := by decide +kernel
theorem dX4_fieldNumber_49 : decode cX4_fieldNumber 49 = .ok (.goto 4, 3) := by decide +kernel
theorem dX4_fieldNumber_52 : decode cX4_fieldNumber 52 = .ok (.iconst 0, 1) := by decide +kernel
theorem dX4_fieldNumber_53 : decode cX4_fieldNumber 53 = .ok (.ireturn, 1) := by decide +kernel
theorem dX4_fieldNumber_54 : decode cX4_fieldNumber 54 = .ok (.aload_n 0, 1) := by decide +kernel
theorem dX4_fieldNumber_55 : decode cX4_fieldNumber 55 = .ok (.getfield 20, 3) := by decide +kernel
theorem dX4_fieldNumber_58 : decode cX4_fieldNumber 58 = .ok (.iload_n 1, 1) := by decide +kernel
theorem dX4_fieldNumber_59 : decode cX4_fieldNumber 59 = .ok (.invokevirtual 242, 3) := by decide +kernel
theorem dX4_fieldNumber_62 : decode cX4_fieldNumber 62 = .ok (.ireturn, 1) := by decide +kernel
theorem dX4_fieldNumber_63 : decode cX4_fieldNumber 63 = .ok (.aload_n 0, 1) := by decide +kernel
theorem dX4_fieldNumber_64 : decode cX4_fieldNumber 64 = .ok (.getfield 20, 3) := by decide +kernel
theorem dX4_fieldNumber_67 : decode cX4_fieldNumber 67 = .ok (.iload_n 1, 1) := by decide +kernel
theorem dX4_fieldNumber_68 : decode cX4_fieldNumber 68 = .ok (.invokevirtual 245, 3) := by decide +kernel
theorem dX4_fieldNumber_71 : decode cX4_fieldNumber 71 = .ok (.ireturn, 1) := by decide +kernel
theorem dX4_fieldNumber_72 : decode cX4_fieldNumber 72 = .ok (.iload_n 1, 1) := by decide +kernel
theorem dX4_fieldNumber_73 : decode cX4_fieldNumber 73 = .ok (.invokestatic 248, 3) := by decide +kernel
theorem dX4_fieldNumber_76 : decode cX4_fieldNumber 76 = .ok (.ireturn, 1) := by decide +kernel
set_option maxRecDepth 20000 in
theorem ggX4_seatNumber_X0_armiesOf : GoodIn wsX4_seatNumber wsX0_armiesOf := goodIn_r _ [6, 7, 8, 9, 5, 10, 11, 12, 13, 14, 15, 16, 53, 54, 55] (by decide +kernel) (by decide +kernel)
set_option maxRecDepth 20000 in
theorem gX4_seatNumber_X0_armiesOf : GoodIn wsX4_seatNumber (wsV RX4 251 RX0 yX0_armiesOf wsX0_armiesOf) := goodIn_app (goodIn_of _ (by decide +kernel)) ggX4_seatNumber_X0_armiesOf
set_option maxRecDepth 20000 in
theorem ggX4_seatNumber_X0_centresOf : GoodIn wsX4_seatNumber wsX0_centresOf := goodIn_r _ [20, 21, 22, 23, 5, 24, 25, 53, 54, 55] (by decide +kernel) (by decide +kernel)
set_option maxRecDepth 20000 in
theorem gX4_seatNumber_X0_centresOf : GoodIn wsX4_seatNumber (wsV RX4 254 RX0 yX0_centresOf wsX0_centresOf) := goodIn_app (goodIn_of _ (by decide +kernel)) ggX4_seatNumber_X0_centresOf
set_option maxRecDepth 20000 in
theorem ggX4_seatNumber_X0_seenMask : GoodIn wsX4_seatNumber wsX0_seenMask := goodIn_r _ [29, 7, 8, 9, 5, 10, 11, 12, 13, 14, 15, 16, 30, 31, 32, 33, 34, 35, 53, 54, 55] (by decide +kernel) (by decide +kernel)
set_option maxRecDepth 20000 in
theorem gX4_seatNumber_X0_seenMask : GoodIn wsX4_seatNumber (wsV RX4 257 RX0 yX0_seenMask wsX0_seenMask) := goodIn_app (goodIn_of _ (by decide +kernel)) ggX4_seatNumber_X0_seenMask
set_option maxRecDepth 20000 in
theorem ggX4_seatNumber_X0_lowestFieldOf : GoodIn wsX4_seatNumber wsX0_lowestFieldOf := goodIn_r _ [39, 7, 8, 9, 5, 10, 11, 12, 13, 14, 15, 16, 53, 54, 55] (by decide +kernel) (by decide +kernel)
set_option maxRecDepth 20000 in
theorem gX4_seatNumber_X0_lowestFieldOf : GoodIn wsX4_seatNumber (wsV RX4 260 RX0 yX0_lowestFieldOf wsX0_lowestFieldOf) := goodIn_app (goodIn_of _ (by decide +kernel)) ggX4_seatNumber_X0_lowestFieldOf
set_option maxRecDepth 20000 in
theorem ggX4_seatNumber_X0_othersSeen : GoodIn wsX4_seatNumber wsX0_othersSeen := goodIn_r _ [43, 44, 27, 28, 5, 29, 7, 8, 9, 10, 11, 12, 13, 14, 15, 16, 30, 31, 32, 33, 34, 35, 53, 54, 55] (by decide +kernel) (by decide +kernel)
set_option maxRecDepth 20000 in
theorem gX4_seatNumber_X0_othersSeen : GoodIn wsX4_seatNumber (wsV RX4 263 RX0 yX0_othersSeen wsX0_othersSeen) := goodIn_app (goodIn_of _ (by decide +kernel)) ggX4_seatNumber_X0_othersSeen
theorem dX4_seatNumber_0 : decode cX4_seatNumber 0 = .ok (.iload_n 2, 1) := by decide +kernel
theorem dX4_seatNumber_1 : decode cX4_seatNumber 1 = .ok (.tableswitch 67 0 3 #[31, 40, 49, 58], 31) := by decide +kernel
theorem dX4_seatNumber_32 : decode cX4_seatNumber 32 = .ok (.aload_n 0, 1) := by decide +kernel
theorem dX4_seatNumber_33 : decode cX4_seatNumber 33 = .ok (.getfield 20, 3) := by decide +kernel
theorem dX4_seatNumber_36 : decode cX4_seatNumber 36 = .ok (.iload_n 1, 1) := by decide +kernel
theorem dX4_seatNumber_37 : decode cX4_seatNumber 37 = .ok (.invokevirtual 251, 3) := by decide +kernel
theorem dX4_seatNumber_40 : decode cX4_seatNumber 40 = .ok (.ireturn, 1) := by decide +kernel
theorem dX4_seatNumber_41 : decode cX4_seatNumber 41 = .ok (.aload_n 0, 1) := by decide +kernel
theorem dX4_seatNumber_42 : decode cX4_seatNumber 42 = .ok (.getfield 20, 3) := by decide +kernel
theorem dX4_seatNumber_45 : decode cX4_seatNumber 45 = .ok (.iload_n 1, 1) := by decide +kernel
theorem dX4_seatNumber_46 : decode cX4_seatNumber 46 = .ok (.invokevirtual 254, 3) := by decide +kernel
theorem dX4_seatNumber_49 : decode cX4_seatNumber 49 = .ok (.ireturn, 1) := by decide +kernel
theorem dX4_seatNumber_50 : decode cX4_seatNumber 50 = .ok (.aload_n 0, 1) := by decide +kernel
theorem dX4_seatNumber_51 : decode cX4_seatNumber 51 = .ok (.getfield 20, 3) := by decide +kernel
theorem dX4_seatNumber_54 : decode cX4_seatNumber 54 = .ok (.iload_n 1, 1) := by decide +kernel
theorem dX4_seatNumber_55 : decode cX4_seatNumber 55 = .ok (.invokevirtual 257, 3) := by decide +kernel
theorem dX4_seatNumber_58 : decode cX4_seatNumber 58 = .ok (.ireturn, 1) := by decide +kernel
theorem dX4_seatNumber_59 : decode cX4_seatNumber 59 = .ok (.aload_n 0, 1) := by decide +kernel
theorem dX4_seatNumber_60 : decode cX4_seatNumber 60 = .ok (.getfield 20, 3) := by decide +kernel
theorem dX4_seatNumber_63 : decode cX4_seatNumber 63 = .ok (.iload_n 1, 1) := by decide +kernel
theorem dX4_seatNumber_64 : decode cX4_seatNumber 64 = .ok (.invokevirtual 260, 3) := by decide +kernel
theorem dX4_seatNumber_67 : decode cX4_seatNumber 67 = .ok (.ireturn, 1) := by decide +kernel
theorem dX4_seatNumber_68 : decode cX4_seatNumber 68 = .ok (.aload_n 0, 1) := by decide +kernel
theorem dX4_seatNumber_69 : decode cX4_seatNumber 69 = .ok (.getfield 20, 3) := by decide +kernel
theorem dX4_seatNumber_72 : decode cX4_seatNumber 72 = .ok (.iload_n 1, 1) := by decide +kernel
theorem dX4_seatNumber_73 : decode cX4_seatNumber 73 = .ok (.invokevirtual 263, 3) := by decide +kernel
theorem dX4_seatNumber_76 : decode cX4_seatNumber 76 = .ok (.ireturn, 1) := by decide +kernel
set_option maxRecDepth 20000 in
theorem ggX4_countNumber_X0_number : GoodIn wsX4_countNumber wsX0_number := goodIn_r _ [7, 8, 33, 34, 35] (by decide +kernel) (by decide +kernel)
set_option maxRecDepth 20000 in
theorem gX4_countNumber_X0_number : GoodIn wsX4_countNumber (wsV RX4 69 RX0 yX0_number wsX0_number) := goodIn_app (goodIn_of _ (by decide +kernel)) ggX4_countNumber_X0_number
set_option maxRecDepth 20000 in
theorem ggX4_countNumber_X0_ordersOf : GoodIn wsX4_countNumber wsX0_ordersOf := goodIn_r _ [12, 13, 4, 5, 6, 7, 8, 14, 15, 16, 17, 18, 33, 34, 35] (by decide +kernel) (by decide +kernel)
set_option maxRecDepth 20000 in
theorem gX4_countNumber_X0_ordersOf : GoodIn wsX4_countNumber (wsV RX4 266 RX0 yX0_ordersOf wsX0_ordersOf) := goodIn_app (goodIn_of _ (by decide +kernel)) ggX4_countNumber_X0_ordersOf
set_option maxRecDepth 20000 in
theorem ggX4_countNumber_X1_size : GoodIn wsX4_countNumber wsX1_size := goodIn_r _ [23, 24, 36, 37, 38] (by decide +kernel) (by decide +kernel)
set_option maxRecDepth 20000 in
theorem gX4_countNumber_X1_size : GoodIn wsX4_countNumber (wsV RX4 143 RX1 yX1_size wsX1_size) := goodIn_app (goodIn_of _ (by decide +kernel)) ggX4_countNumber_X1_size
theorem dX4_countNumber_0 : decode cX4_countNumber 0 = .ok (.iload_n 1, 1) := by decide +kernel
theorem dX4_countNumber_1 : decode cX4_countNumber 1 = .ok (.bipush 10, 2) := by decide +kernel
theorem dX4_countNumber_3 : decode cX4_countNumber 3 = .ok (.if_icmp .ge 12, 3) := by decide +kernel
theorem dX4_countNumber_6 : decode cX4_countNumber 6 = .ok (.aload_n 0, 1) := by decide +kernel
theorem dX4_countNumber_7 : decode cX4_countNumber 7 = .ok (.getfield 20, 3) := by decide +kernel
theorem dX4_countNumber_10 : decode cX4_countNumber 10 = .ok (.iload_n 1, 1) := by decide +kernel
theorem dX4_countNumber_11 : decode cX4_countNumber 11 = .ok (.invokevirtual 69, 3) := by decide +kernel
theorem dX4_countNumber_14 : decode cX4_countNumber 14 = .ok (.ireturn, 1) := by decide +kernel
theorem dX4_countNumber_15 : decode cX4_countNumber 15 = .ok (.iload_n 1, 1) := by decide +kernel
theorem dX4_countNumber_16 : decode cX4_countNumber 16 = .ok (.bipush 10, 2) := by decide +kernel
theorem dX4_countNumber_18 : decode cX4_countNumber 18 = .ok (.if_icmp .ne 12, 3) := by decide +kernel
theorem dX4_countNumber_21 : decode cX4_countNumber 21 = .ok (.aload_n 0, 1) := by decide +kernel
theorem dX4_countNumber_22 : decode cX4_countNumber 22 = .ok (.getfield 20, 3) := by decide +kernel
theorem dX4_countNumber_25 : decode cX4_countNumber 25 = .ok (.iconst 1, 1) := by decide +kernel
theorem dX4_countNumber_26 : decode cX4_countNumber 26 = .ok (.invokevirtual 266, 3) := by decide +kernel
theorem dX4_countNumber_29 : decode cX4_countNumber 29 = .ok (.ireturn, 1) := by decide +kernel
theorem dX4_countNumber_30 : decode cX4_countNumber 30 = .ok (.iload_n 1, 1) := by decide +kernel
theorem dX4_countNumber_31 : decode cX4_countNumber 31 = .ok (.bipush 11, 2) := by decide +kernel
theorem dX4_countNumber_33 : decode cX4_countNumber 33 = .ok (.if_icmp .ne 14, 3) := by decide +kernel
theorem dX4_countNumber_36 : decode cX4_countNumber 36 = .ok (.aload_n 0, 1) := by decide +kernel
theorem dX4_countNumber_37 : decode cX4_countNumber 37 = .ok (.getfield 20, 3) := by decide +kernel
theorem dX4_countNumber_40 : decode cX4_countNumber 40 = .ok (.iconst 2, 1) := by decide +kernel
theorem dX4_countNumber_41 : decode cX4_countNumber 41 = .ok (.invokevirtual 266, 3) := by decide +kernel
theorem dX4_countNumber_44 : decode cX4_countNumber 44 = .ok (.goto 10, 3) := by decide +kernel
