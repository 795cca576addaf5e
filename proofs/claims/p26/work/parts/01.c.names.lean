theorem dX0_othersSeen_56 : decode cX0_othersSeen 56 = .ok (.goto 4, 3) := by decide +kernel
theorem dX0_othersSeen_59 : decode cX0_othersSeen 59 = .ok (.iconst 0, 1) := by decide +kernel
theorem dX0_othersSeen_60 : decode cX0_othersSeen 60 = .ok (.iadd, 1) := by decide +kernel
theorem dX0_othersSeen_61 : decode cX0_othersSeen 61 = .ok (.istore_n 3, 1) := by decide +kernel
theorem dX0_othersSeen_62 : decode cX0_othersSeen 62 = .ok (.iinc 4 1, 3) := by decide +kernel
theorem dX0_othersSeen_65 : decode cX0_othersSeen 65 = .ok (.goto (-54), 3) := by decide +kernel
theorem dX0_othersSeen_68 : decode cX0_othersSeen 68 = .ok (.iload_n 3, 1) := by decide +kernel
theorem dX0_othersSeen_69 : decode cX0_othersSeen 69 = .ok (.ireturn, 1) := by decide +kernel
set_option maxRecDepth 20000 in
theorem ggX0_beginNextSeason_X0_number : GoodIn wsX0_beginNextSeason wsX0_number := goodIn_r _ [6, 1, 66, 67, 68] (by decide +kernel) (by decide +kernel)
set_option maxRecDepth 20000 in
theorem gX0_beginNextSeason_X0_number : GoodIn wsX0_beginNextSeason (wsV RX0 33 RX0 yX0_number wsX0_number) := goodIn_app (goodIn_of _ (by decide +kernel)) ggX0_beginNextSeason_X0_number
set_option maxRecDepth 20000 in
theorem ggX0_beginNextSeason_X4_enter : GoodIn wsX0_beginNextSeason wsX4_enter := goodIn_r _ [9] (by decide +kernel) (by decide +kernel)
set_option maxRecDepth 20000 in
theorem gX0_beginNextSeason_X4_enter_n37 : GoodIn wsX0_beginNextSeason (wsX4_enter) := ggX0_beginNextSeason_X4_enter
set_option maxRecDepth 20000 in
theorem ggX0_beginNextSeason_X0_endYear : GoodIn wsX0_beginNextSeason wsX0_endYear := goodIn_r _ [13, 14, 15, 16, 5, 17, 18, 2, 3, 4, 6, 1, 19, 20, 21, 22, 23, 24, 8, 25, 7, 9, 26, 27, 28, 29, 30, 31, 32, 33, 34, 35, 36, 37, 38, 39, 40, 41, 42, 43, 44, 45, 46, 47, 48, 49, 50, 51, 52, 53, 54, 55, 56, 57, 58, 59, 60, 61, 62, 63, 64, 65, 66, 67, 68] (by decide +kernel) (by decide +kernel)
set_option maxRecDepth 20000 in
theorem gX0_beginNextSeason_X0_endYear : GoodIn wsX0_beginNextSeason (wsV RX0 66 RX0 yX0_endYear wsX0_endYear) := goodIn_app (goodIn_of _ (by decide +kernel)) ggX0_beginNextSeason_X0_endYear
set_option maxRecDepth 20000 in
theorem ggX0_beginNextSeason_X0_countOne : GoodIn wsX0_beginNextSeason wsX0_countOne := goodIn_r _ [53, 1, 2, 3, 4, 5, 6, 7, 8, 9, 66, 67, 68] (by decide +kernel) (by decide +kernel)
set_option maxRecDepth 20000 in
theorem gX0_beginNextSeason_X0_countOne : GoodIn wsX0_beginNextSeason (wsV RX0 69 RX0 yX0_countOne wsX0_countOne) := goodIn_app (goodIn_of _ (by decide +kernel)) ggX0_beginNextSeason_X0_countOne
theorem dX0_beginNextSeason_0 : decode cX0_beginNextSeason 0 = .ok (.aload_n 0, 1) := by decide +kernel
theorem dX0_beginNextSeason_1 : decode cX0_beginNextSeason 1 = .ok (.iconst 2, 1) := by decide +kernel
theorem dX0_beginNextSeason_2 : decode cX0_beginNextSeason 2 = .ok (.invokevirtual 33, 3) := by decide +kernel
theorem dX0_beginNextSeason_5 : decode cX0_beginNextSeason 5 = .ok (.ifCond .ne 13, 3) := by decide +kernel
theorem dX0_beginNextSeason_8 : decode cX0_beginNextSeason 8 = .ok (.aload_n 0, 1) := by decide +kernel
theorem dX0_beginNextSeason_9 : decode cX0_beginNextSeason 9 = .ok (.getfield 9, 3) := by decide +kernel
theorem dX0_beginNextSeason_12 : decode cX0_beginNextSeason 12 = .ok (.iconst 2, 1) := by decide +kernel
theorem dX0_beginNextSeason_13 : decode cX0_beginNextSeason 13 = .ok (.iconst 1, 1) := by decide +kernel
theorem dX0_beginNextSeason_14 : decode cX0_beginNextSeason 14 = .ok (.invokestatic 37, 3) := by decide +kernel
theorem dX0_beginNextSeason_17 : decode cX0_beginNextSeason 17 = .ok (.return_, 1) := by decide +kernel
theorem dX0_beginNextSeason_18 : decode cX0_beginNextSeason 18 = .ok (.aload_n 0, 1) := by decide +kernel
theorem dX0_beginNextSeason_19 : decode cX0_beginNextSeason 19 = .ok (.invokevirtual 66, 3) := by decide +kernel
theorem dX0_beginNextSeason_22 : decode cX0_beginNextSeason 22 = .ok (.aload_n 0, 1) := by decide +kernel
theorem dX0_beginNextSeason_23 : decode cX0_beginNextSeason 23 = .ok (.getfield 9, 3) := by decide +kernel
theorem dX0_beginNextSeason_26 : decode cX0_beginNextSeason 26 = .ok (.iconst 2, 1) := by decide +kernel
theorem dX0_beginNextSeason_27 : decode cX0_beginNextSeason 27 = .ok (.iconst 0, 1) := by decide +kernel
theorem dX0_beginNextSeason_28 : decode cX0_beginNextSeason 28 = .ok (.invokestatic 37, 3) := by decide +kernel
theorem dX0_beginNextSeason_31 : decode cX0_beginNextSeason 31 = .ok (.aload_n 0, 1) := by decide +kernel
theorem dX0_beginNextSeason_32 : decode cX0_beginNextSeason 32 = .ok (.iconst 1, 1) := by decide +kernel
theorem dX0_beginNextSeason_33 : decode cX0_beginNextSeason 33 = .ok (.invokevirtual 69, 3) := by decide +kernel
theorem dX0_beginNextSeason_36 : decode cX0_beginNextSeason 36 = .ok (.return_, 1) := by decide +kernel
set_option maxRecDepth 20000 in
theorem ggX0_endYear_X0_claimCentres : GoodIn wsX0_endYear wsX0_claimCentres := goodIn_r _ [5, 6, 7, 8, 9, 4, 10, 11, 12, 13, 14, 15, 16, 17, 18, 19, 20, 21, 62, 63, 64] (by decide +kernel) (by decide +kernel)
set_option maxRecDepth 20000 in
theorem gX0_endYear_X0_claimCentres : GoodIn wsX0_endYear (wsV RX0 73 RX0 yX0_claimCentres wsX0_claimCentres) := goodIn_app (goodIn_of _ (by decide +kernel)) ggX0_endYear_X0_claimCentres
set_option maxRecDepth 20000 in
theorem ggX0_endYear_X0_centresOf : GoodIn wsX0_endYear wsX0_centresOf := goodIn_r _ [25, 26, 27, 28, 4, 29, 6, 62, 63, 64] (by decide +kernel) (by decide +kernel)
set_option maxRecDepth 20000 in
theorem gX0_endYear_X0_centresOf : GoodIn wsX0_endYear (wsV RX0 76 RX0 yX0_centresOf wsX0_centresOf) := goodIn_app (goodIn_of _ (by decide +kernel)) ggX0_endYear_X0_centresOf
set_option maxRecDepth 20000 in
theorem ggX0_endYear_X0_armiesOf : GoodIn wsX0_endYear wsX0_armiesOf := goodIn_r _ [33, 7, 8, 9, 4, 10, 11, 12, 13, 14, 15, 16, 62, 63, 64] (by decide +kernel) (by decide +kernel)
set_option maxRecDepth 20000 in
theorem gX0_endYear_X0_armiesOf : GoodIn wsX0_endYear (wsV RX0 79 RX0 yX0_armiesOf wsX0_armiesOf) := goodIn_app (goodIn_of _ (by decide +kernel)) ggX0_endYear_X0_armiesOf
set_option maxRecDepth 20000 in
theorem ggX0_endYear_X0_takeOff : GoodIn wsX0_endYear wsX0_takeOff := goodIn_r _ [37, 7, 8, 9, 4, 10, 11, 12, 13, 14, 15, 16, 38, 39, 40, 41, 42, 43, 44, 45, 20, 18, 21, 46, 47, 48, 49, 62, 63, 64] (by decide +kernel) (by decide +kernel)
set_option maxRecDepth 20000 in
theorem gX0_endYear_X0_takeOff : GoodIn wsX0_endYear (wsV RX0 82 RX0 yX0_takeOff wsX0_takeOff) := goodIn_app (goodIn_of _ (by decide +kernel)) ggX0_endYear_X0_takeOff
set_option maxRecDepth 20000 in
theorem ggX0_endYear_X0_build : GoodIn wsX0_endYear wsX0_build := goodIn_r _ [53, 7, 8, 9, 4, 10, 11, 26, 27, 28, 29, 6, 54, 55, 56, 57, 12, 13, 14, 15, 16, 58, 59, 60, 61, 42, 43, 44, 45, 20, 18, 21, 46, 47, 48, 49, 62, 63, 64] (by decide +kernel) (by decide +kernel)
set_option maxRecDepth 20000 in
theorem gX0_endYear_X0_build : GoodIn wsX0_endYear (wsV RX0 86 RX0 yX0_build wsX0_build) := goodIn_app (goodIn_of _ (by decide +kernel)) ggX0_endYear_X0_build
theorem dX0_endYear_0 : decode cX0_endYear 0 = .ok (.aload_n 0, 1) := by decide +kernel
theorem dX0_endYear_1 : decode cX0_endYear 1 = .ok (.invokevirtual 73, 3) := by decide +kernel
theorem dX0_endYear_4 : decode cX0_endYear 4 = .ok (.iconst 0, 1) := by decide +kernel
theorem dX0_endYear_5 : decode cX0_endYear 5 = .ok (.istore_n 1, 1) := by decide +kernel
theorem dX0_endYear_6 : decode cX0_endYear 6 = .ok (.iload_n 1, 1) := by decide +kernel
theorem dX0_endYear_7 : decode cX0_endYear 7 = .ok (.iconst 3, 1) := by decide +kernel
theorem dX0_endYear_8 : decode cX0_endYear 8 = .ok (.if_icmp .ge 59, 3) := by decide +kernel
theorem dX0_endYear_11 : decode cX0_endYear 11 = .ok (.aload_n 0, 1) := by decide +kernel
theorem dX0_endYear_12 : decode cX0_endYear 12 = .ok (.iload_n 1, 1) := by decide +kernel
theorem dX0_endYear_13 : decode cX0_endYear 13 = .ok (.invokevirtual 76, 3) := by decide +kernel
theorem dX0_endYear_16 : decode cX0_endYear 16 = .ok (.iconst 1, 1) := by decide +kernel
theorem dX0_endYear_17 : decode cX0_endYear 17 = .ok (.iadd, 1) := by decide +kernel
theorem dX0_endYear_18 : decode cX0_endYear 18 = .ok (.istore_n 2, 1) := by decide +kernel
theorem dX0_endYear_19 : decode cX0_endYear 19 = .ok (.aload_n 0, 1) := by decide +kernel
theorem dX0_endYear_20 : decode cX0_endYear 20 = .ok (.iload_n 1, 1) := by decide +kernel
theorem dX0_endYear_21 : decode cX0_endYear 21 = .ok (.invokevirtual 79, 3) := by decide +kernel
theorem dX0_endYear_24 : decode cX0_endYear 24 = .ok (.iload_n 2, 1) := by decide +kernel
theorem dX0_endYear_25 : decode cX0_endYear 25 = .ok (.if_icmp .le 18, 3) := by decide +kernel
theorem dX0_endYear_28 : decode cX0_endYear 28 = .ok (.aload_n 0, 1) := by decide +kernel
theorem dX0_endYear_29 : decode cX0_endYear 29 = .ok (.iload_n 1, 1) := by decide +kernel
theorem dX0_endYear_30 : decode cX0_endYear 30 = .ok (.aload_n 0, 1) := by decide +kernel
theorem dX0_endYear_31 : decode cX0_endYear 31 = .ok (.iload_n 1, 1) := by decide +kernel
theorem dX0_endYear_32 : decode cX0_endYear 32 = .ok (.invokevirtual 79, 3) := by decide +kernel
theorem dX0_endYear_35 : decode cX0_endYear 35 = .ok (.iload_n 2, 1) := by decide +kernel
theorem dX0_endYear_36 : decode cX0_endYear 36 = .ok (.isub, 1) := by decide +kernel
theorem dX0_endYear_37 : decode cX0_endYear 37 = .ok (.invokevirtual 82, 3) := by decide +kernel
theorem dX0_endYear_40 : decode cX0_endYear 40 = .ok (.goto 21, 3) := by decide +kernel
theorem dX0_endYear_43 : decode cX0_endYear 43 = .ok (.aload_n 0, 1) := by decide +kernel
theorem dX0_endYear_44 : decode cX0_endYear 44 = .ok (.iload_n 1, 1) := by decide +kernel
theorem dX0_endYear_45 : decode cX0_endYear 45 = .ok (.invokevirtual 79, 3) := by decide +kernel
theorem dX0_endYear_48 : decode cX0_endYear 48 = .ok (.aload_n 0, 1) := by decide +kernel
theorem dX0_endYear_49 : decode cX0_endYear 49 = .ok (.iload_n 1, 1) := by decide +kernel
theorem dX0_endYear_50 : decode cX0_endYear 50 = .ok (.invokevirtual 76, 3) := by decide +kernel
theorem dX0_endYear_53 : decode cX0_endYear 53 = .ok (.if_icmp .ge 8, 3) := by decide +kernel
theorem dX0_endYear_56 : decode cX0_endYear 56 = .ok (.aload_n 0, 1) := by decide +kernel
theorem dX0_endYear_57 : decode cX0_endYear 57 = .ok (.iload_n 1, 1) := by decide +kernel
theorem dX0_endYear_58 : decode cX0_endYear 58 = .ok (.invokevirtual 86, 3) := by decide +kernel
theorem dX0_endYear_61 : decode cX0_endYear 61 = .ok (.iinc 1 1, 3) := by decide +kernel
theorem dX0_endYear_64 : decode cX0_endYear 64 = .ok (.goto (-58), 3) := by decide +kernel
theorem dX0_endYear_67 : decode cX0_endYear 67 = .ok (.return_, 1) := by decide +kernel
set_option maxRecDepth 20000 in
theorem ggX0_claimCentres_X0_number : GoodIn wsX0_claimCentres wsX0_number := goodIn_r _ [6, 7, 18, 19, 20] (by decide +kernel) (by decide +kernel)
set_option maxRecDepth 20000 in
theorem gX0_claimCentres_X0_number : GoodIn wsX0_claimCentres (wsV RX0 33 RX0 yX0_number wsX0_number) := goodIn_app (goodIn_of _ (by decide +kernel)) ggX0_claimCentres_X0_number
set_option maxRecDepth 20000 in
theorem ggX0_claimCentres_X0_of : GoodIn wsX0_claimCentres wsX0_of := goodIn_r _ [11, 12, 18, 19, 20] (by decide +kernel) (by decide +kernel)
set_option maxRecDepth 20000 in
theorem gX0_claimCentres_X0_of : GoodIn wsX0_claimCentres (wsV RX0 41 RX0 yX0_of wsX0_of) := goodIn_app (goodIn_of _ (by decide +kernel)) ggX0_claimCentres_X0_of
set_option maxRecDepth 20000 in
theorem ggX0_claimCentres_X4_isCentre : GoodIn wsX0_claimCentres wsX4_isCentre := goodIn_r _ [15] (by decide +kernel) (by decide +kernel)
set_option maxRecDepth 20000 in
theorem gX0_claimCentres_X4_isCentre_n89 : GoodIn wsX0_claimCentres (wsX4_isCentre) := ggX0_claimCentres_X4_isCentre
set_option maxRecDepth 20000 in
theorem ggX0_claimCentres_X4_enter : GoodIn wsX0_claimCentres wsX4_enter := goodIn_r _ [17] (by decide +kernel) (by decide +kernel)
set_option maxRecDepth 20000 in
theorem gX0_claimCentres_X4_enter_n37 : GoodIn wsX0_claimCentres (wsX4_enter) := ggX0_claimCentres_X4_enter
theorem dX0_claimCentres_0 : decode cX0_claimCentres 0 = .ok (.iconst 0, 1) := by decide +kernel
theorem dX0_claimCentres_1 : decode cX0_claimCentres 1 = .ok (.istore_n 1, 1) := by decide +kernel
theorem dX0_claimCentres_2 : decode cX0_claimCentres 2 = .ok (.iload_n 1, 1) := by decide +kernel
theorem dX0_claimCentres_3 : decode cX0_claimCentres 3 = .ok (.aload_n 0, 1) := by decide +kernel
theorem dX0_claimCentres_4 : decode cX0_claimCentres 4 = .ok (.iconst 0, 1) := by decide +kernel
theorem dX0_claimCentres_5 : decode cX0_claimCentres 5 = .ok (.invokevirtual 33, 3) := by decide +kernel
theorem dX0_claimCentres_8 : decode cX0_claimCentres 8 = .ok (.if_icmp .ge 40, 3) := by decide +kernel
theorem dX0_claimCentres_11 : decode cX0_claimCentres 11 = .ok (.aload_n 0, 1) := by decide +kernel
theorem dX0_claimCentres_12 : decode cX0_claimCentres 12 = .ok (.iload_n 1, 1) := by decide +kernel
theorem dX0_claimCentres_13 : decode cX0_claimCentres 13 = .ok (.iconst 1, 1) := by decide +kernel
theorem dX0_claimCentres_14 : decode cX0_claimCentres 14 = .ok (.invokevirtual 41, 3) := by decide +kernel
theorem dX0_claimCentres_17 : decode cX0_claimCentres 17 = .ok (.invokestatic 89, 3) := by decide +kernel
theorem dX0_claimCentres_20 : decode cX0_claimCentres 20 = .ok (.ifCond .eq 22, 3) := by decide +kernel
theorem dX0_claimCentres_23 : decode cX0_claimCentres 23 = .ok (.aload_n 0, 1) := by decide +kernel
theorem dX0_claimCentres_24 : decode cX0_claimCentres 24 = .ok (.getfield 15, 3) := by decide +kernel
theorem dX0_claimCentres_27 : decode cX0_claimCentres 27 = .ok (.aload_n 0, 1) := by decide +kernel
theorem dX0_claimCentres_28 : decode cX0_claimCentres 28 = .ok (.iload_n 1, 1) := by decide +kernel
theorem dX0_claimCentres_29 : decode cX0_claimCentres 29 = .ok (.iconst 1, 1) := by decide +kernel
theorem dX0_claimCentres_30 : decode cX0_claimCentres 30 = .ok (.invokevirtual 41, 3) := by decide +kernel
theorem dX0_claimCentres_33 : decode cX0_claimCentres 33 = .ok (.aload_n 0, 1) := by decide +kernel
theorem dX0_claimCentres_34 : decode cX0_claimCentres 34 = .ok (.iload_n 1, 1) := by decide +kernel
theorem dX0_claimCentres_35 : decode cX0_claimCentres 35 = .ok (.iconst 0, 1) := by decide +kernel
theorem dX0_claimCentres_36 : decode cX0_claimCentres 36 = .ok (.invokevirtual 41, 3) := by decide +kernel
theorem dX0_claimCentres_39 : decode cX0_claimCentres 39 = .ok (.invokestatic 37, 3) := by decide +kernel
theorem dX0_claimCentres_42 : decode cX0_claimCentres 42 = .ok (.iinc 1 1, 3) := by decide +kernel
theorem dX0_claimCentres_45 : decode cX0_claimCentres 45 = .ok (.goto (-43), 3) := by decide +kernel
theorem dX0_claimCentres_48 : decode cX0_claimCentres 48 = .ok (.return_, 1) := by decide +kernel
set_option maxRecDepth 20000 in
theorem ggX0_takeOff_X0_number : GoodIn wsX0_takeOff wsX0_number := goodIn_r _ [5, 6, 27, 28, 29] (by decide +kernel) (by decide +kernel)
set_option maxRecDepth 20000 in
theorem gX0_takeOff_X0_number : GoodIn wsX0_takeOff (wsV RX0 33 RX0 yX0_number wsX0_number) := goodIn_app (goodIn_of _ (by decide +kernel)) ggX0_takeOff_X0_number
set_option maxRecDepth 20000 in
theorem ggX0_takeOff_X0_of : GoodIn wsX0_takeOff wsX0_of := goodIn_r _ [10, 11, 27, 28, 29] (by decide +kernel) (by decide +kernel)
set_option maxRecDepth 20000 in
theorem gX0_takeOff_X0_of : GoodIn wsX0_takeOff (wsV RX0 41 RX0 yX0_of wsX0_of) := goodIn_app (goodIn_of _ (by decide +kernel)) ggX0_takeOff_X0_of
set_option maxRecDepth 20000 in
theorem ggX0_takeOff_X0_remove : GoodIn wsX0_takeOff wsX0_remove := goodIn_r _ [15, 6, 1, 2, 3, 4, 5, 7, 8, 9, 10, 11, 16, 17, 18, 19, 20, 21, 22, 27, 28, 29] (by decide +kernel) (by decide +kernel)
set_option maxRecDepth 20000 in
theorem gX0_takeOff_X0_remove : GoodIn wsX0_takeOff (wsV RX0 92 RX0 yX0_remove wsX0_remove) := goodIn_app (goodIn_of _ (by decide +kernel)) ggX0_takeOff_X0_remove
set_option maxRecDepth 20000 in
theorem ggX0_takeOff_X0_countOne : GoodIn wsX0_takeOff wsX0_countOne := goodIn_r _ [26, 6, 1, 2, 3, 4, 5, 20, 21, 22, 27, 28, 29] (by decide +kernel) (by decide +kernel)
set_option maxRecDepth 20000 in
theorem gX0_takeOff_X0_countOne : GoodIn wsX0_takeOff (wsV RX0 69 RX0 yX0_countOne wsX0_countOne) := goodIn_app (goodIn_of _ (by decide +kernel)) ggX0_takeOff_X0_countOne
theorem dX0_takeOff_0 : decode cX0_takeOff 0 = .ok (.iload_n 2, 1) := by decide +kernel
theorem dX0_takeOff_1 : decode cX0_takeOff 1 = .ok (.istore_n 3, 1) := by decide +kernel
theorem dX0_takeOff_2 : decode cX0_takeOff 2 = .ok (.aload_n 0, 1) := by decide +kernel
theorem dX0_takeOff_3 : decode cX0_takeOff 3 = .ok (.iconst 0, 1) := by decide +kernel
theorem dX0_takeOff_4 : decode cX0_takeOff 4 = .ok (.invokevirtual 33, 3) := by decide +kernel
theorem dX0_takeOff_7 : decode cX0_takeOff 7 = .ok (.iconst 1, 1) := by decide +kernel
theorem dX0_takeOff_8 : decode cX0_takeOff 8 = .ok (.isub, 1) := by decide +kernel
theorem dX0_takeOff_9 : decode cX0_takeOff 9 = .ok (.istore 4, 2) := by decide +kernel
theorem dX0_takeOff_11 : decode cX0_takeOff 11 = .ok (.iload 4, 2) := by decide +kernel
theorem dX0_takeOff_13 : decode cX0_takeOff 13 = .ok (.ifCond .lt 39, 3) := by decide +kernel
theorem dX0_takeOff_16 : decode cX0_takeOff 16 = .ok (.iload_n 3, 1) := by decide +kernel
theorem dX0_takeOff_17 : decode cX0_takeOff 17 = .ok (.ifCond .le 35, 3) := by decide +kernel
theorem dX0_takeOff_20 : decode cX0_takeOff 20 = .ok (.aload_n 0, 1) := by decide +kernel
theorem dX0_takeOff_21 : decode cX0_takeOff 21 = .ok (.iload 4, 2) := by decide +kernel
theorem dX0_takeOff_23 : decode cX0_takeOff 23 = .ok (.iconst 0, 1) := by decide +kernel
theorem dX0_takeOff_24 : decode cX0_takeOff 24 = .ok (.invokevirtual 41, 3) := by decide +kernel
theorem dX0_takeOff_27 : decode cX0_takeOff 27 = .ok (.iload_n 1, 1) := by decide +kernel
theorem dX0_takeOff_28 : decode cX0_takeOff 28 = .ok (.if_icmp .ne 18, 3) := by decide +kernel
theorem dX0_takeOff_31 : decode cX0_takeOff 31 = .ok (.aload_n 0, 1) := by decide +kernel
theorem dX0_takeOff_32 : decode cX0_takeOff 32 = .ok (.iload 4, 2) := by decide +kernel
theorem dX0_takeOff_34 : decode cX0_takeOff 34 = .ok (.invokevirtual 92, 3) := by decide +kernel
theorem dX0_takeOff_37 : decode cX0_takeOff 37 = .ok (.aload_n 0, 1) := by decide +kernel
theorem dX0_takeOff_38 : decode cX0_takeOff 38 = .ok (.bipush 9, 2) := by decide +kernel
theorem dX0_takeOff_40 : decode cX0_takeOff 40 = .ok (.invokevirtual 69, 3) := by decide +kernel
theorem dX0_takeOff_43 : decode cX0_takeOff 43 = .ok (.iinc 3 (-1), 3) := by decide +kernel
theorem dX0_takeOff_46 : decode cX0_takeOff 46 = .ok (.iinc 4 (-1), 3) := by decide +kernel
theorem dX0_takeOff_49 : decode cX0_takeOff 49 = .ok (.goto (-38), 3) := by decide +kernel
theorem dX0_takeOff_52 : decode cX0_takeOff 52 = .ok (.return_, 1) := by decide +kernel
set_option maxRecDepth 20000 in
theorem ggX0_build_X0_number : GoodIn wsX0_build wsX0_number := goodIn_r _ [5, 6, 36, 37, 38] (by decide +kernel) (by decide +kernel)
set_option maxRecDepth 20000 in
theorem gX0_build_X0_number : GoodIn wsX0_build (wsV RX0 33 RX0 yX0_number wsX0_number) := goodIn_app (goodIn_of _ (by decide +kernel)) ggX0_build_X0_number
set_option maxRecDepth 20000 in
theorem ggX0_build_X0_owner : GoodIn wsX0_build wsX0_owner := goodIn_r _ [10, 11, 36, 37, 38] (by decide +kernel) (by decide +kernel)
set_option maxRecDepth 20000 in
theorem gX0_build_X0_owner : GoodIn wsX0_build (wsV RX0 57 RX0 yX0_owner wsX0_owner) := goodIn_app (goodIn_of _ (by decide +kernel)) ggX0_build_X0_owner
set_option maxRecDepth 20000 in
theorem ggX0_build_X0_armyOn : GoodIn wsX0_build wsX0_armyOn := goodIn_r _ [15, 1, 2, 3, 4, 5, 6, 16, 17, 18, 19, 20, 36, 37, 38] (by decide +kernel) (by decide +kernel)
set_option maxRecDepth 20000 in
theorem gX0_build_X0_armyOn : GoodIn wsX0_build (wsV RX0 95 RX0 yX0_armyOn wsX0_armyOn) := goodIn_app (goodIn_of _ (by decide +kernel)) ggX0_build_X0_armyOn
set_option maxRecDepth 20000 in
theorem ggX0_build_X0_setUp : GoodIn wsX0_build wsX0_setUp := goodIn_r _ [24, 6, 1, 2, 3, 4, 5, 25, 26, 27, 28, 20, 29, 30, 31, 36, 37, 38] (by decide +kernel) (by decide +kernel)
set_option maxRecDepth 20000 in
theorem gX0_build_X0_setUp : GoodIn wsX0_build (wsV RX0 98 RX0 yX0_setUp wsX0_setUp) := goodIn_app (goodIn_of _ (by decide +kernel)) ggX0_build_X0_setUp
set_option maxRecDepth 20000 in
theorem ggX0_build_X0_countOne : GoodIn wsX0_build wsX0_countOne := goodIn_r _ [35, 6, 1, 2, 3, 4, 5, 29, 30, 31, 36, 37, 38] (by decide +kernel) (by decide +kernel)
set_option maxRecDepth 20000 in
theorem gX0_build_X0_countOne : GoodIn wsX0_build (wsV RX0 69 RX0 yX0_countOne wsX0_countOne) := goodIn_app (goodIn_of _ (by decide +kernel)) ggX0_build_X0_countOne
theorem dX0_build_0 : decode cX0_build 0 = .ok (.aload_n 0, 1) := by decide +kernel
theorem dX0_build_1 : decode cX0_build 1 = .ok (.iconst 0, 1) := by decide +kernel
theorem dX0_build_2 : decode cX0_build 2 = .ok (.invokevirtual 33, 3) := by decide +kernel
theorem dX0_build_5 : decode cX0_build 5 = .ok (.bipush 9, 2) := by decide +kernel
theorem dX0_build_7 : decode cX0_build 7 = .ok (.if_icmp .lt 4, 3) := by decide +kernel
theorem dX0_build_10 : decode cX0_build 10 = .ok (.return_, 1) := by decide +kernel
theorem dX0_build_11 : decode cX0_build 11 = .ok (.iconst 0, 1) := by decide +kernel
theorem dX0_build_12 : decode cX0_build 12 = .ok (.istore_n 2, 1) := by decide +kernel
theorem dX0_build_13 : decode cX0_build 13 = .ok (.iload_n 2, 1) := by decide +kernel
theorem dX0_build_14 : decode cX0_build 14 = .ok (.bipush 12, 2) := by decide +kernel
theorem dX0_build_16 : decode cX0_build 16 = .ok (.if_icmp .ge 41, 3) := by decide +kernel
theorem dX0_build_19 : decode cX0_build 19 = .ok (.aload_n 0, 1) := by decide +kernel
theorem dX0_build_20 : decode cX0_build 20 = .ok (.iload_n 2, 1) := by decide +kernel
theorem dX0_build_21 : decode cX0_build 21 = .ok (.invokevirtual 57, 3) := by decide +kernel
theorem dX0_build_24 : decode cX0_build 24 = .ok (.iload_n 1, 1) := by decide +kernel
theorem dX0_build_25 : decode cX0_build 25 = .ok (.if_icmp .ne 26, 3) := by decide +kernel
theorem dX0_build_28 : decode cX0_build 28 = .ok (.aload_n 0, 1) := by decide +kernel
theorem dX0_build_29 : decode cX0_build 29 = .ok (.iload_n 2, 1) := by decide +kernel
theorem dX0_build_30 : decode cX0_build 30 = .ok (.invokevirtual 95, 3) := by decide +kernel
theorem dX0_build_33 : decode cX0_build 33 = .ok (.iconst (-1), 1) := by decide +kernel
theorem dX0_build_34 : decode cX0_build 34 = .ok (.if_icmp .ne 17, 3) := by decide +kernel
theorem dX0_build_37 : decode cX0_build 37 = .ok (.aload_n 0, 1) := by decide +kernel
theorem dX0_build_38 : decode cX0_build 38 = .ok (.iload_n 1, 1) := by decide +kernel
theorem dX0_build_39 : decode cX0_build 39 = .ok (.iload_n 2, 1) := by decide +kernel
theorem dX0_build_40 : decode cX0_build 40 = .ok (.invokevirtual 98, 3) := by decide +kernel
theorem dX0_build_43 : decode cX0_build 43 = .ok (.pop, 1) := by decide +kernel
theorem dX0_build_44 : decode cX0_build 44 = .ok (.aload_n 0, 1) := by decide +kernel
theorem dX0_build_45 : decode cX0_build 45 = .ok (.bipush 8, 2) := by decide +kernel
theorem dX0_build_47 : decode cX0_build 47 = .ok (.invokevirtual 69, 3) := by decide +kernel
theorem dX0_build_50 : decode cX0_build 50 = .ok (.return_, 1) := by decide +kernel
theorem dX0_build_51 : decode cX0_build 51 = .ok (.iinc 2 1, 3) := by decide +kernel
theorem dX0_build_54 : decode cX0_build 54 = .ok (.goto (-41), 3) := by decide +kernel
theorem dX0_build_57 : decode cX0_build 57 = .ok (.return_, 1) := by decide +kernel
set_option maxRecDepth 20000 in
theorem ggX1_init_X0_init : GoodIn wsX1_init wsX0_init := goodIn_r _ [12, 13, 2, 3, 14, 15, 16, 17, 18, 19, 20, 21, 25, 26, 27] (by decide +kernel) (by decide +kernel)
set_option maxRecDepth 20000 in
theorem gX1_init_X0_init : GoodIn wsX1_init (wsX0_init) := ggX1_init_X0_init
theorem dX1_init_0 : decode cX1_init 0 = .ok (.aload_n 0, 1) := by decide +kernel
theorem dX1_init_1 : decode cX1_init 1 = .ok (.invokespecial 3, 3) := by decide +kernel
theorem dX1_init_4 : decode cX1_init 4 = .ok (.aload_n 0, 1) := by decide +kernel
theorem dX1_init_5 : decode cX1_init 5 = .ok (.bipush 6, 2) := by decide +kernel
theorem dX1_init_7 : decode cX1_init 7 = .ok (.anewarray 9, 3) := by decide +kernel
theorem dX1_init_10 : decode cX1_init 10 = .ok (.putfield 11, 3) := by decide +kernel
theorem dX1_init_13 : decode cX1_init 13 = .ok (.aload_n 0, 1) := by decide +kernel
theorem dX1_init_14 : decode cX1_init 14 = .ok (.iconst 0, 1) := by decide +kernel
theorem dX1_init_15 : decode cX1_init 15 = .ok (.putfield 17, 3) := by decide +kernel
theorem dX1_init_18 : decode cX1_init 18 = .ok (.aload_n 0, 1) := by decide +kernel
theorem dX1_init_19 : decode cX1_init 19 = .ok (.iconst 0, 1) := by decide +kernel
theorem dX1_init_20 : decode cX1_init 20 = .ok (.putfield 21, 3) := by decide +kernel
theorem dX1_init_23 : decode cX1_init 23 = .ok (.iconst 0, 1) := by decide +kernel
theorem dX1_init_24 : decode cX1_init 24 = .ok (.istore_n 1, 1) := by decide +kernel
theorem dX1_init_25 : decode cX1_init 25 = .ok (.iload_n 1, 1) := by decide +kernel
theorem dX1_init_26 : decode cX1_init 26 = .ok (.aload_n 0, 1) := by decide +kernel
theorem dX1_init_27 : decode cX1_init 27 = .ok (.getfield 11, 3) := by decide +kernel
theorem dX1_init_30 : decode cX1_init 30 = .ok (.arraylength, 1) := by decide +kernel
theorem dX1_init_31 : decode cX1_init 31 = .ok (.if_icmp .ge 22, 3) := by decide +kernel
theorem dX1_init_34 : decode cX1_init 34 = .ok (.aload_n 0, 1) := by decide +kernel
theorem dX1_init_35 : decode cX1_init 35 = .ok (.getfield 11, 3) := by decide +kernel
theorem dX1_init_38 : decode cX1_init 38 = .ok (.iload_n 1, 1) := by decide +kernel
theorem dX1_init_39 : decode cX1_init 39 = .ok (.new 9, 3) := by decide +kernel
theorem dX1_init_42 : decode cX1_init 42 = .ok (.dup, 1) := by decide +kernel
theorem dX1_init_43 : decode cX1_init 43 = .ok (.invokespecial 24, 3) := by decide +kernel
theorem dX1_init_46 : decode cX1_init 46 = .ok (.aastore, 1) := by decide +kernel
theorem dX1_init_47 : decode cX1_init 47 = .ok (.iinc 1 1, 3) := by decide +kernel
theorem dX1_init_50 : decode cX1_init 50 = .ok (.goto (-25), 3) := by decide +kernel
theorem dX1_init_53 : decode cX1_init 53 = .ok (.return_, 1) := by decide +kernel
theorem dX1_size_0 : decode cX1_size 0 = .ok (.aload_n 0, 1) := by decide +kernel
theorem dX1_size_1 : decode cX1_size 1 = .ok (.getfield 21, 3) := by decide +kernel
theorem dX1_size_4 : decode cX1_size 4 = .ok (.ireturn, 1) := by decide +kernel
set_option maxRecDepth 20000 in
theorem ggX1_save_X1_placeOf : GoodIn wsX1_save wsX1_placeOf := goodIn_r _ [7, 2, 8, 21, 22, 23] (by decide +kernel) (by decide +kernel)
set_option maxRecDepth 20000 in
theorem gX1_save_X1_placeOf : GoodIn wsX1_save (wsV RX1 25 RX1 yX1_placeOf wsX1_placeOf) := goodIn_app (goodIn_of _ (by decide +kernel)) ggX1_save_X1_placeOf
set_option maxRecDepth 20000 in
theorem ggX1_save_X0_copyFrom : GoodIn wsX1_save wsX0_copyFrom := goodIn_r _ [13, 14, 15, 16, 17, 18, 19, 20, 24, 25, 26] (by decide +kernel) (by decide +kernel)
set_option maxRecDepth 20000 in
theorem gX1_save_X0_copyFrom : GoodIn wsX1_save (wsV RX1 29 RX0 yX0_copyFrom wsX0_copyFrom) := goodIn_app (goodIn_of _ (by decide +kernel)) ggX1_save_X0_copyFrom
theorem dX1_save_0 : decode cX1_save 0 = .ok (.aload_n 0, 1) := by decide +kernel
theorem dX1_save_1 : decode cX1_save 1 = .ok (.getfield 21, 3) := by decide +kernel
theorem dX1_save_4 : decode cX1_save 4 = .ok (.bipush 6, 2) := by decide +kernel
theorem dX1_save_6 : decode cX1_save 6 = .ok (.if_icmp .ne 26, 3) := by decide +kernel
theorem dX1_save_9 : decode cX1_save 9 = .ok (.aload_n 0, 1) := by decide +kernel
theorem dX1_save_10 : decode cX1_save 10 = .ok (.aload_n 0, 1) := by decide +kernel
theorem dX1_save_11 : decode cX1_save 11 = .ok (.getfield 17, 3) := by decide +kernel
theorem dX1_save_14 : decode cX1_save 14 = .ok (.iconst 1, 1) := by decide +kernel
theorem dX1_save_15 : decode cX1_save 15 = .ok (.iadd, 1) := by decide +kernel
theorem dX1_save_16 : decode cX1_save 16 = .ok (.bipush 6, 2) := by decide +kernel
theorem dX1_save_18 : decode cX1_save 18 = .ok (.irem, 1) := by decide +kernel
theorem dX1_save_19 : decode cX1_save 19 = .ok (.putfield 17, 3) := by decide +kernel
theorem dX1_save_22 : decode cX1_save 22 = .ok (.aload_n 0, 1) := by decide +kernel
theorem dX1_save_23 : decode cX1_save 23 = .ok (.dup, 1) := by decide +kernel
theorem dX1_save_24 : decode cX1_save 24 = .ok (.getfield 21, 3) := by decide +kernel
theorem dX1_save_27 : decode cX1_save 27 = .ok (.iconst 1, 1) := by decide +kernel
theorem dX1_save_28 : decode cX1_save 28 = .ok (.isub, 1) := by decide +kernel
theorem dX1_save_29 : decode cX1_save 29 = .ok (.putfield 21, 3) := by decide +kernel
theorem dX1_save_32 : decode cX1_save 32 = .ok (.aload_n 0, 1) := by decide +kernel
theorem dX1_save_33 : decode cX1_save 33 = .ok (.aload_n 0, 1) := by decide +kernel
theorem dX1_save_34 : decode cX1_save 34 = .ok (.getfield 21, 3) := by decide +kernel
theorem dX1_save_37 : decode cX1_save 37 = .ok (.invokevirtual 25, 3) := by decide +kernel
theorem dX1_save_40 : decode cX1_save 40 = .ok (.astore_n 2, 1) := by decide +kernel
theorem dX1_save_41 : decode cX1_save 41 = .ok (.aload_n 2, 1) := by decide +kernel
theorem dX1_save_42 : decode cX1_save 42 = .ok (.ifnull 18, 3) := by decide +kernel
theorem dX1_save_45 : decode cX1_save 45 = .ok (.aload_n 2, 1) := by decide +kernel
theorem dX1_save_46 : decode cX1_save 46 = .ok (.aload_n 1, 1) := by decide +kernel
theorem dX1_save_47 : decode cX1_save 47 = .ok (.invokevirtual 29, 3) := by decide +kernel
theorem dX1_save_50 : decode cX1_save 50 = .ok (.aload_n 0, 1) := by decide +kernel
theorem dX1_save_51 : decode cX1_save 51 = .ok (.dup, 1) := by decide +kernel
theorem dX1_save_52 : decode cX1_save 52 = .ok (.getfield 21, 3) := by decide +kernel
theorem dX1_save_55 : decode cX1_save 55 = .ok (.iconst 1, 1) := by decide +kernel
theorem dX1_save_56 : decode cX1_save 56 = .ok (.iadd, 1) := by decide +kernel
theorem dX1_save_57 : decode cX1_save 57 = .ok (.putfield 21, 3) := by decide +kernel
theorem dX1_save_60 : decode cX1_save 60 = .ok (.return_, 1) := by decide +kernel
set_option maxRecDepth 20000 in
theorem ggX1_takeBack_X1_placeOf : GoodIn wsX1_takeBack wsX1_placeOf := goodIn_r _ [6, 7, 8, 21, 22, 23] (by decide +kernel) (by decide +kernel)
set_option maxRecDepth 20000 in
theorem gX1_takeBack_X1_placeOf : GoodIn wsX1_takeBack (wsV RX1 25 RX1 yX1_placeOf wsX1_placeOf) := goodIn_app (goodIn_of _ (by decide +kernel)) ggX1_takeBack_X1_placeOf
set_option maxRecDepth 20000 in
theorem ggX1_takeBack_X0_copyFrom : GoodIn wsX1_takeBack wsX0_copyFrom := goodIn_r _ [13, 14, 15, 16, 17, 18, 19, 20, 24, 25, 26] (by decide +kernel) (by decide +kernel)
set_option maxRecDepth 20000 in
theorem gX1_takeBack_X0_copyFrom : GoodIn wsX1_takeBack (wsV RX1 29 RX0 yX0_copyFrom wsX0_copyFrom) := goodIn_app (goodIn_of _ (by decide +kernel)) ggX1_takeBack_X0_copyFrom
theorem dX1_takeBack_0 : decode cX1_takeBack 0 = .ok (.aload_n 0, 1) := by decide +kernel
theorem dX1_takeBack_1 : decode cX1_takeBack 1 = .ok (.aload_n 0, 1) := by decide +kernel
theorem dX1_takeBack_2 : decode cX1_takeBack 2 = .ok (.getfield 21, 3) := by decide +kernel
theorem dX1_takeBack_5 : decode cX1_takeBack 5 = .ok (.iconst 1, 1) := by decide +kernel
theorem dX1_takeBack_6 : decode cX1_takeBack 6 = .ok (.isub, 1) := by decide +kernel
theorem dX1_takeBack_7 : decode cX1_takeBack 7 = .ok (.invokevirtual 25, 3) := by decide +kernel
theorem dX1_takeBack_10 : decode cX1_takeBack 10 = .ok (.astore_n 2, 1) := by decide +kernel
theorem dX1_takeBack_11 : decode cX1_takeBack 11 = .ok (.aload_n 2, 1) := by decide +kernel
theorem dX1_takeBack_12 : decode cX1_takeBack 12 = .ok (.ifnull 18, 3) := by decide +kernel
theorem dX1_takeBack_15 : decode cX1_takeBack 15 = .ok (.aload_n 1, 1) := by decide +kernel
theorem dX1_takeBack_16 : decode cX1_takeBack 16 = .ok (.aload_n 2, 1) := by decide +kernel
theorem dX1_takeBack_17 : decode cX1_takeBack 17 = .ok (.invokevirtual 29, 3) := by decide +kernel
theorem dX1_takeBack_20 : decode cX1_takeBack 20 = .ok (.aload_n 0, 1) := by decide +kernel
theorem dX1_takeBack_21 : decode cX1_takeBack 21 = .ok (.dup, 1) := by decide +kernel
theorem dX1_takeBack_22 : decode cX1_takeBack 22 = .ok (.getfield 21, 3) := by decide +kernel
theorem dX1_takeBack_25 : decode cX1_takeBack 25 = .ok (.iconst 1, 1) := by decide +kernel
theorem dX1_takeBack_26 : decode cX1_takeBack 26 = .ok (.isub, 1) := by decide +kernel
theorem dX1_takeBack_27 : decode cX1_takeBack 27 = .ok (.putfield 21, 3) := by decide +kernel
theorem dX1_takeBack_30 : decode cX1_takeBack 30 = .ok (.return_, 1) := by decide +kernel
theorem dX1_placeOf_0 : decode cX1_placeOf 0 = .ok (.iload_n 1, 1) := by decide +kernel
theorem dX1_placeOf_1 : decode cX1_placeOf 1 = .ok (.ifCond .ge 5, 3) := by decide +kernel
theorem dX1_placeOf_4 : decode cX1_placeOf 4 = .ok (.aconst_null, 1) := by decide +kernel
theorem dX1_placeOf_5 : decode cX1_placeOf 5 = .ok (.areturn, 1) := by decide +kernel
theorem dX1_placeOf_6 : decode cX1_placeOf 6 = .ok (.aload_n 0, 1) := by decide +kernel
theorem dX1_placeOf_7 : decode cX1_placeOf 7 = .ok (.getfield 17, 3) := by decide +kernel
theorem dX1_placeOf_10 : decode cX1_placeOf 10 = .ok (.iload_n 1, 1) := by decide +kernel
theorem dX1_placeOf_11 : decode cX1_placeOf 11 = .ok (.iadd, 1) := by decide +kernel
theorem dX1_placeOf_12 : decode cX1_placeOf 12 = .ok (.bipush 6, 2) := by decide +kernel
theorem dX1_placeOf_14 : decode cX1_placeOf 14 = .ok (.irem, 1) := by decide +kernel
theorem dX1_placeOf_15 : decode cX1_placeOf 15 = .ok (.istore_n 2, 1) := by decide +kernel
theorem dX1_placeOf_16 : decode cX1_placeOf 16 = .ok (.iload_n 2, 1) := by decide +kernel
theorem dX1_placeOf_17 : decode cX1_placeOf 17 = .ok (.ifCond .lt 21, 3) := by decide +kernel
theorem dX1_placeOf_20 : decode cX1_placeOf 20 = .ok (.iload_n 2, 1) := by decide +kernel
theorem dX1_placeOf_21 : decode cX1_placeOf 21 = .ok (.aload_n 0, 1) := by decide +kernel
theorem dX1_placeOf_22 : decode cX1_placeOf 22 = .ok (.getfield 11, 3) := by decide +kernel
theorem dX1_placeOf_25 : decode cX1_placeOf 25 = .ok (.arraylength, 1) := by decide +kernel
theorem dX1_placeOf_26 : decode cX1_placeOf 26 = .ok (.if_icmp .ge 12, 3) := by decide +kernel
theorem dX1_placeOf_29 : decode cX1_placeOf 29 = .ok (.aload_n 0, 1) := by decide +kernel
theorem dX1_placeOf_30 : decode cX1_placeOf 30 = .ok (.getfield 11, 3) := by decide +kernel
theorem dX1_placeOf_33 : decode cX1_placeOf 33 = .ok (.iload_n 2, 1) := by decide +kernel
theorem dX1_placeOf_34 : decode cX1_placeOf 34 = .ok (.aaload, 1) := by decide +kernel
theorem dX1_placeOf_35 : decode cX1_placeOf 35 = .ok (.goto 4, 3) := by decide +kernel
theorem dX1_placeOf_38 : decode cX1_placeOf 38 = .ok (.aconst_null, 1) := by decide +kernel
theorem dX1_placeOf_39 : decode cX1_placeOf 39 = .ok (.areturn, 1) := by decide +kernel
set_option maxRecDepth 20000 in
theorem ggX2_init_X0_init : GoodIn wsX2_init wsX0_init := goodIn_r _ [18, 19, 2, 3, 8, 20, 21, 22, 23, 24, 25, 26, 27, 28, 29] (by decide +kernel) (by decide +kernel)
set_option maxRecDepth 20000 in
theorem gX2_init_X0_init : GoodIn wsX2_init (wsX0_init) := ggX2_init_X0_init
theorem dX2_init_0 : decode cX2_init 0 = .ok (.aload_n 0, 1) := by decide +kernel
theorem dX2_init_1 : decode cX2_init 1 = .ok (.invokespecial 3, 3) := by decide +kernel
theorem dX2_init_4 : decode cX2_init 4 = .ok (.aload_n 0, 1) := by decide +kernel
theorem dX2_init_5 : decode cX2_init 5 = .ok (.new 9, 3) := by decide +kernel
theorem dX2_init_8 : decode cX2_init 8 = .ok (.dup, 1) := by decide +kernel
theorem dX2_init_9 : decode cX2_init 9 = .ok (.invokespecial 11, 3) := by decide +kernel
theorem dX2_init_12 : decode cX2_init 12 = .ok (.putfield 12, 3) := by decide +kernel
theorem dX2_init_15 : decode cX2_init 15 = .ok (.aload_n 0, 1) := by decide +kernel
theorem dX2_init_16 : decode cX2_init 16 = .ok (.bipush 9, 2) := by decide +kernel
theorem dX2_init_18 : decode cX2_init 18 = .ok (.newarray .int, 2) := by decide +kernel
theorem dX2_init_20 : decode cX2_init 20 = .ok (.putfield 18, 3) := by decide +kernel
theorem dX2_init_23 : decode cX2_init 23 = .ok (.aload_n 0, 1) := by decide +kernel
theorem dX2_init_24 : decode cX2_init 24 = .ok (.bipush 9, 2) := by decide +kernel
theorem dX2_init_26 : decode cX2_init 26 = .ok (.newarray .int, 2) := by decide +kernel
theorem dX2_init_28 : decode cX2_init 28 = .ok (.putfield 22, 3) := by decide +kernel
theorem dX2_init_31 : decode cX2_init 31 = .ok (.aload_n 0, 1) := by decide +kernel
theorem dX2_init_32 : decode cX2_init 32 = .ok (.bipush 9, 2) := by decide +kernel
theorem dX2_init_34 : decode cX2_init 34 = .ok (.newarray .int, 2) := by decide +kernel
theorem dX2_init_36 : decode cX2_init 36 = .ok (.putfield 25, 3) := by decide +kernel
theorem dX2_init_39 : decode cX2_init 39 = .ok (.aload_n 0, 1) := by decide +kernel
theorem dX2_init_40 : decode cX2_init 40 = .ok (.bipush 9, 2) := by decide +kernel
theorem dX2_init_42 : decode cX2_init 42 = .ok (.newarray .int, 2) := by decide +kernel
theorem dX2_init_44 : decode cX2_init 44 = .ok (.putfield 28, 3) := by decide +kernel
theorem dX2_init_47 : decode cX2_init 47 = .ok (.aload_n 0, 1) := by decide +kernel
theorem dX2_init_48 : decode cX2_init 48 = .ok (.bipush 9, 2) := by decide +kernel
theorem dX2_init_50 : decode cX2_init 50 = .ok (.newarray .int, 2) := by decide +kernel
theorem dX2_init_52 : decode cX2_init 52 = .ok (.putfield 31, 3) := by decide +kernel
theorem dX2_init_55 : decode cX2_init 55 = .ok (.aload_n 0, 1) := by decide +kernel
theorem dX2_init_56 : decode cX2_init 56 = .ok (.bipush 9, 2) := by decide +kernel
theorem dX2_init_58 : decode cX2_init 58 = .ok (.newarray .int, 2) := by decide +kernel
theorem dX2_init_60 : decode cX2_init 60 = .ok (.putfield 34, 3) := by decide +kernel
theorem dX2_init_63 : decode cX2_init 63 = .ok (.aload_n 0, 1) := by decide +kernel
theorem dX2_init_64 : decode cX2_init 64 = .ok (.bipush 9, 2) := by decide +kernel
theorem dX2_init_66 : decode cX2_init 66 = .ok (.newarray .int, 2) := by decide +kernel
theorem dX2_init_68 : decode cX2_init 68 = .ok (.putfield 37, 3) := by decide +kernel
theorem dX2_init_71 : decode cX2_init 71 = .ok (.return_, 1) := by decide +kernel
set_option maxRecDepth 20000 in
theorem ggX2_study_X2_decideMoves : GoodIn wsX2_study wsX2_decideMoves := goodIn_r _ [5, 6, 7, 8, 4, 9, 10, 11, 12, 13, 14, 15, 16, 17, 18, 19, 20, 21, 22, 23, 24, 25, 26, 27, 28, 29, 30, 31, 32, 33, 34, 35, 36, 37, 38, 39, 40, 41, 42, 43, 44, 45, 46, 47, 48, 49, 50, 51, 52, 53, 54, 55, 56, 57, 58, 59, 60, 61, 62, 63, 64, 65, 66, 67, 68, 69, 70, 71, 72, 73, 74, 75, 76, 77, 78, 79, 80, 114, 115, 116, 117, 118, 119, 120, 121, 122, 123, 124] (by decide +kernel) (by decide +kernel)
set_option maxRecDepth 20000 in
theorem gX2_study_X2_decideMoves : GoodIn wsX2_study (wsV RX2 40 RX2 yX2_decideMoves wsX2_decideMoves) := goodIn_app (goodIn_of _ (by decide +kernel)) ggX2_study_X2_decideMoves
set_option maxRecDepth 20000 in
theorem ggX2_study_X2_comeToFields : GoodIn wsX2_study wsX2_comeToFields := goodIn_r _ [84, 10, 85, 86, 87, 13, 14, 15, 16, 17, 18, 73, 74, 75, 4, 76, 60, 19, 20, 21, 22, 23, 54, 43, 55, 88, 89, 90, 91, 42, 44, 114, 115, 116, 117, 118, 119, 120, 121, 122, 123, 124] (by decide +kernel) (by decide +kernel)
set_option maxRecDepth 20000 in
theorem gX2_study_X2_comeToFields : GoodIn wsX2_study (wsV RX2 43 RX2 yX2_comeToFields wsX2_comeToFields) := goodIn_app (goodIn_of _ (by decide +kernel)) ggX2_study_X2_comeToFields
set_option maxRecDepth 20000 in
theorem ggX2_study_X2_retreatAll : GoodIn wsX2_study wsX2_retreatAll := goodIn_r _ [95, 10, 87, 86, 13, 14, 15, 16, 17, 18, 96, 97, 98, 4, 99, 85, 49, 54, 43, 55, 100, 101, 102, 103, 19, 20, 21, 22, 23, 104, 105, 106, 107, 108, 109, 110, 111, 112, 113, 60, 42, 44, 114, 115, 116, 117, 118, 119, 120, 121, 122, 123, 124] (by decide +kernel) (by decide +kernel)
set_option maxRecDepth 20000 in
theorem gX2_study_X2_retreatAll : GoodIn wsX2_study (wsV RX2 46 RX2 yX2_retreatAll wsX2_retreatAll) := goodIn_app (goodIn_of _ (by decide +kernel)) ggX2_study_X2_retreatAll
theorem dX2_study_0 : decode cX2_study 0 = .ok (.aload_n 0, 1) := by decide +kernel
theorem dX2_study_1 : decode cX2_study 1 = .ok (.invokevirtual 40, 3) := by decide +kernel
theorem dX2_study_4 : decode cX2_study 4 = .ok (.aload_n 0, 1) := by decide +kernel
theorem dX2_study_5 : decode cX2_study 5 = .ok (.invokevirtual 43, 3) := by decide +kernel
theorem dX2_study_8 : decode cX2_study 8 = .ok (.aload_n 0, 1) := by decide +kernel
theorem dX2_study_9 : decode cX2_study 9 = .ok (.invokevirtual 46, 3) := by decide +kernel
theorem dX2_study_12 : decode cX2_study 12 = .ok (.return_, 1) := by decide +kernel
set_option maxRecDepth 20000 in
theorem ggX2_decideMoves_X2_judgeSupports : GoodIn wsX2_decideMoves wsX2_judgeSupports := goodIn_r _ [5, 6, 7, 8, 9, 10, 11, 12, 13, 14, 15, 16, 17, 18, 19, 20, 21, 22, 4, 23, 24, 25, 26, 27, 28, 29, 30, 31, 32, 33, 34, 35, 36, 37, 38, 39, 40, 77, 78, 79, 80, 81, 82, 83, 84, 85, 86, 87] (by decide +kernel) (by decide +kernel)
set_option maxRecDepth 20000 in
theorem gX2_decideMoves_X2_judgeSupports : GoodIn wsX2_decideMoves (wsV RX2 49 RX2 yX2_judgeSupports wsX2_judgeSupports) := goodIn_app (goodIn_of _ (by decide +kernel)) ggX2_decideMoves_X2_judgeSupports
set_option maxRecDepth 20000 in
theorem ggX2_decideMoves_X2_weighOrders : GoodIn wsX2_decideMoves wsX2_weighOrders := goodIn_r _ [44, 6, 45, 9, 10, 11, 12, 13, 14, 15, 16, 17, 18, 19, 24, 25, 26, 4, 27, 46, 47, 48, 49, 8, 50, 39, 51, 38, 40, 77, 78, 79, 80, 81, 82, 83, 84, 85, 86, 87] (by decide +kernel) (by decide +kernel)
set_option maxRecDepth 20000 in
theorem gX2_decideMoves_X2_weighOrders : GoodIn wsX2_decideMoves (wsV RX2 52 RX2 yX2_weighOrders wsX2_weighOrders) := goodIn_app (goodIn_of _ (by decide +kernel)) ggX2_decideMoves_X2_weighOrders
set_option maxRecDepth 20000 in
theorem ggX2_decideMoves_X2_failAgainstMoves : GoodIn wsX2_decideMoves wsX2_failAgainstMoves := goodIn_r _ [55, 6, 56, 9, 10, 11, 12, 13, 14, 24, 25, 26, 4, 27, 15, 16, 17, 18, 19, 57, 58, 59, 60, 45, 50, 39, 51, 61, 62, 63, 64, 32, 33, 34, 35, 36, 37, 38, 40, 77, 78, 79, 80, 81, 82, 83, 84, 85, 86, 87] (by decide +kernel) (by decide +kernel)
set_option maxRecDepth 20000 in
theorem gX2_decideMoves_X2_failAgainstMoves : GoodIn wsX2_decideMoves (wsV RX2 55 RX2 yX2_failAgainstMoves wsX2_failAgainstMoves) := goodIn_app (goodIn_of _ (by decide +kernel)) ggX2_decideMoves_X2_failAgainstMoves
set_option maxRecDepth 20000 in
theorem ggX2_decideMoves_X2_failAgainstArmies : GoodIn wsX2_decideMoves wsX2_failAgainstArmies := goodIn_r _ [68, 6, 56, 9, 10, 11, 12, 13, 14, 69, 70, 71, 4, 72, 15, 16, 17, 18, 19, 50, 39, 51, 73, 74, 75, 76, 45, 32, 33, 34, 35, 36, 37, 24, 25, 26, 27, 38, 40, 77, 78, 79, 80, 81, 82, 83, 84, 85, 86, 87] (by decide +kernel) (by decide +kernel)
set_option maxRecDepth 20000 in
theorem gX2_decideMoves_X2_failAgainstArmies : GoodIn wsX2_decideMoves (wsV RX2 58 RX2 yX2_failAgainstArmies wsX2_failAgainstArmies) := goodIn_app (goodIn_of _ (by decide +kernel)) ggX2_decideMoves_X2_failAgainstArmies
theorem dX2_decideMoves_0 : decode cX2_decideMoves 0 = .ok (.aload_n 0, 1) := by decide +kernel
theorem dX2_decideMoves_1 : decode cX2_decideMoves 1 = .ok (.invokevirtual 49, 3) := by decide +kernel
theorem dX2_decideMoves_4 : decode cX2_decideMoves 4 = .ok (.aload_n 0, 1) := by decide +kernel
theorem dX2_decideMoves_5 : decode cX2_decideMoves 5 = .ok (.invokevirtual 52, 3) := by decide +kernel
theorem dX2_decideMoves_8 : decode cX2_decideMoves 8 = .ok (.aload_n 0, 1) := by decide +kernel
theorem dX2_decideMoves_9 : decode cX2_decideMoves 9 = .ok (.invokevirtual 55, 3) := by decide +kernel
theorem dX2_decideMoves_12 : decode cX2_decideMoves 12 = .ok (.aload_n 0, 1) := by decide +kernel
theorem dX2_decideMoves_13 : decode cX2_decideMoves 13 = .ok (.invokevirtual 58, 3) := by decide +kernel
theorem dX2_decideMoves_16 : decode cX2_decideMoves 16 = .ok (.return_, 1) := by decide +kernel
set_option maxRecDepth 20000 in
theorem ggX2_judgeSupports_X0_number : GoodIn wsX2_judgeSupports wsX0_number := goodIn_r _ [8, 9, 45, 46, 47] (by decide +kernel) (by decide +kernel)
set_option maxRecDepth 20000 in
theorem gX2_judgeSupports_X0_number : GoodIn wsX2_judgeSupports (wsV RX2 61 RX0 yX0_number wsX0_number) := goodIn_app (goodIn_of _ (by decide +kernel)) ggX2_judgeSupports_X0_number
set_option maxRecDepth 20000 in
theorem ggX2_judgeSupports_X0_of : GoodIn wsX2_judgeSupports wsX0_of := goodIn_r _ [13, 14, 45, 46, 47] (by decide +kernel) (by decide +kernel)
set_option maxRecDepth 20000 in
theorem gX2_judgeSupports_X0_of : GoodIn wsX2_judgeSupports (wsV RX2 65 RX0 yX0_of wsX0_of) := goodIn_app (goodIn_of _ (by decide +kernel)) ggX2_judgeSupports_X0_of
set_option maxRecDepth 20000 in
theorem ggX2_judgeSupports_X2_isCutOff : GoodIn wsX2_judgeSupports wsX2_isCutOff := goodIn_r _ [19, 1, 4, 5, 6, 7, 8, 9, 20, 21, 22, 18, 23, 10, 11, 12, 13, 14, 37, 38, 39, 40, 41, 42, 43, 44, 45, 46, 47] (by decide +kernel) (by decide +kernel)
set_option maxRecDepth 20000 in
theorem gX2_judgeSupports_X2_isCutOff : GoodIn wsX2_judgeSupports (wsV RX2 69 RX2 yX2_isCutOff wsX2_isCutOff) := goodIn_app (goodIn_of _ (by decide +kernel)) ggX2_judgeSupports_X2_isCutOff
set_option maxRecDepth 20000 in
theorem ggX2_judgeSupports_X2_hasUse : GoodIn wsX2_judgeSupports wsX2_hasUse := goodIn_r _ [27, 1, 10, 11, 12, 7, 13, 14, 28, 29, 30, 31, 32, 5, 6, 8, 9, 33, 20, 21, 22, 18, 23, 37, 38, 39, 40, 41, 42, 43, 44, 45, 46, 47] (by decide +kernel) (by decide +kernel)
set_option maxRecDepth 20000 in
theorem gX2_judgeSupports_X2_hasUse : GoodIn wsX2_judgeSupports (wsV RX2 73 RX2 yX2_hasUse wsX2_hasUse) := goodIn_app (goodIn_of _ (by decide +kernel)) ggX2_judgeSupports_X2_hasUse
set_option maxRecDepth 20000 in
theorem ggX2_judgeSupports_X4_enter : GoodIn wsX2_judgeSupports wsX4_enter := goodIn_r _ [36] (by decide +kernel) (by decide +kernel)
set_option maxRecDepth 20000 in
theorem gX2_judgeSupports_X4_enter_n76 : GoodIn wsX2_judgeSupports (wsX4_enter) := ggX2_judgeSupports_X4_enter
theorem dX2_judgeSupports_0 : decode cX2_judgeSupports 0 = .ok (.iconst 0, 1) := by decide +kernel
theorem dX2_judgeSupports_1 : decode cX2_judgeSupports 1 = .ok (.istore_n 1, 1) := by decide +kernel
theorem dX2_judgeSupports_2 : decode cX2_judgeSupports 2 = .ok (.iload_n 1, 1) := by decide +kernel
theorem dX2_judgeSupports_3 : decode cX2_judgeSupports 3 = .ok (.aload_n 0, 1) := by decide +kernel
theorem dX2_judgeSupports_4 : decode cX2_judgeSupports 4 = .ok (.getfield 12, 3) := by decide +kernel
theorem dX2_judgeSupports_7 : decode cX2_judgeSupports 7 = .ok (.iconst 0, 1) := by decide +kernel
theorem dX2_judgeSupports_8 : decode cX2_judgeSupports 8 = .ok (.invokevirtual 61, 3) := by decide +kernel
theorem dX2_judgeSupports_11 : decode cX2_judgeSupports 11 = .ok (.if_icmp .ge 104, 3) := by decide +kernel
theorem dX2_judgeSupports_14 : decode cX2_judgeSupports 14 = .ok (.aload_n 0, 1) := by decide +kernel
theorem dX2_judgeSupports_15 : decode cX2_judgeSupports 15 = .ok (.getfield 12, 3) := by decide +kernel
theorem dX2_judgeSupports_18 : decode cX2_judgeSupports 18 = .ok (.iload_n 1, 1) := by decide +kernel
theorem dX2_judgeSupports_19 : decode cX2_judgeSupports 19 = .ok (.iconst 2, 1) := by decide +kernel
theorem dX2_judgeSupports_20 : decode cX2_judgeSupports 20 = .ok (.invokevirtual 65, 3) := by decide +kernel
theorem dX2_judgeSupports_23 : decode cX2_judgeSupports 23 = .ok (.iconst 2, 1) := by decide +kernel
theorem dX2_judgeSupports_24 : decode cX2_judgeSupports 24 = .ok (.if_icmp .ne 7, 3) := by decide +kernel
theorem dX2_judgeSupports_27 : decode cX2_judgeSupports 27 = .ok (.iconst 1, 1) := by decide +kernel
theorem dX2_judgeSupports_28 : decode cX2_judgeSupports 28 = .ok (.goto 4, 3) := by decide +kernel
theorem dX2_judgeSupports_31 : decode cX2_judgeSupports 31 = .ok (.iconst 0, 1) := by decide +kernel
theorem dX2_judgeSupports_32 : decode cX2_judgeSupports 32 = .ok (.istore_n 2, 1) := by decide +kernel
theorem dX2_judgeSupports_33 : decode cX2_judgeSupports 33 = .ok (.iload_n 2, 1) := by decide +kernel
theorem dX2_judgeSupports_34 : decode cX2_judgeSupports 34 = .ok (.ifCond .eq 15, 3) := by decide +kernel
theorem dX2_judgeSupports_37 : decode cX2_judgeSupports 37 = .ok (.aload_n 0, 1) := by decide +kernel
theorem dX2_judgeSupports_38 : decode cX2_judgeSupports 38 = .ok (.iload_n 1, 1) := by decide +kernel
theorem dX2_judgeSupports_39 : decode cX2_judgeSupports 39 = .ok (.invokevirtual 69, 3) := by decide +kernel
theorem dX2_judgeSupports_42 : decode cX2_judgeSupports 42 = .ok (.ifCond .eq 7, 3) := by decide +kernel
theorem dX2_judgeSupports_45 : decode cX2_judgeSupports 45 = .ok (.iconst 1, 1) := by decide +kernel
theorem dX2_judgeSupports_46 : decode cX2_judgeSupports 46 = .ok (.goto 4, 3) := by decide +kernel
theorem dX2_judgeSupports_49 : decode cX2_judgeSupports 49 = .ok (.iconst 0, 1) := by decide +kernel
theorem dX2_judgeSupports_50 : decode cX2_judgeSupports 50 = .ok (.istore_n 3, 1) := by decide +kernel
theorem dX2_judgeSupports_51 : decode cX2_judgeSupports 51 = .ok (.iload_n 2, 1) := by decide +kernel
theorem dX2_judgeSupports_52 : decode cX2_judgeSupports 52 = .ok (.ifCond .eq 15, 3) := by decide +kernel
theorem dX2_judgeSupports_55 : decode cX2_judgeSupports 55 = .ok (.aload_n 0, 1) := by decide +kernel
theorem dX2_judgeSupports_56 : decode cX2_judgeSupports 56 = .ok (.iload_n 1, 1) := by decide +kernel
theorem dX2_judgeSupports_57 : decode cX2_judgeSupports 57 = .ok (.invokevirtual 73, 3) := by decide +kernel
theorem dX2_judgeSupports_60 : decode cX2_judgeSupports 60 = .ok (.ifCond .eq 7, 3) := by decide +kernel
theorem dX2_judgeSupports_63 : decode cX2_judgeSupports 63 = .ok (.iconst 1, 1) := by decide +kernel
theorem dX2_judgeSupports_64 : decode cX2_judgeSupports 64 = .ok (.goto 4, 3) := by decide +kernel
theorem dX2_judgeSupports_67 : decode cX2_judgeSupports 67 = .ok (.iconst 0, 1) := by decide +kernel
theorem dX2_judgeSupports_68 : decode cX2_judgeSupports 68 = .ok (.istore 4, 2) := by decide +kernel
theorem dX2_judgeSupports_70 : decode cX2_judgeSupports 70 = .ok (.aload_n 0, 1) := by decide +kernel
theorem dX2_judgeSupports_71 : decode cX2_judgeSupports 71 = .ok (.getfield 18, 3) := by decide +kernel
theorem dX2_judgeSupports_74 : decode cX2_judgeSupports 74 = .ok (.iload_n 1, 1) := by decide +kernel
theorem dX2_judgeSupports_75 : decode cX2_judgeSupports 75 = .ok (.iload_n 3, 1) := by decide +kernel
theorem dX2_judgeSupports_76 : decode cX2_judgeSupports 76 = .ok (.ifCond .eq 7, 3) := by decide +kernel
theorem dX2_judgeSupports_79 : decode cX2_judgeSupports 79 = .ok (.iconst 1, 1) := by decide +kernel
theorem dX2_judgeSupports_80 : decode cX2_judgeSupports 80 = .ok (.goto 4, 3) := by decide +kernel
theorem dX2_judgeSupports_83 : decode cX2_judgeSupports 83 = .ok (.iconst 0, 1) := by decide +kernel
theorem dX2_judgeSupports_84 : decode cX2_judgeSupports 84 = .ok (.invokestatic 76, 3) := by decide +kernel
theorem dX2_judgeSupports_87 : decode cX2_judgeSupports 87 = .ok (.aload_n 0, 1) := by decide +kernel
theorem dX2_judgeSupports_88 : decode cX2_judgeSupports 88 = .ok (.getfield 22, 3) := by decide +kernel
theorem dX2_judgeSupports_91 : decode cX2_judgeSupports 91 = .ok (.iload_n 1, 1) := by decide +kernel
theorem dX2_judgeSupports_92 : decode cX2_judgeSupports 92 = .ok (.iload 4, 2) := by decide +kernel
theorem dX2_judgeSupports_94 : decode cX2_judgeSupports 94 = .ok (.ifCond .eq 11, 3) := by decide +kernel
theorem dX2_judgeSupports_97 : decode cX2_judgeSupports 97 = .ok (.iload_n 3, 1) := by decide +kernel
theorem dX2_judgeSupports_98 : decode cX2_judgeSupports 98 = .ok (.ifCond .ne 7, 3) := by decide +kernel
theorem dX2_judgeSupports_101 : decode cX2_judgeSupports 101 = .ok (.iconst 1, 1) := by decide +kernel
theorem dX2_judgeSupports_102 : decode cX2_judgeSupports 102 = .ok (.goto 4, 3) := by decide +kernel
theorem dX2_judgeSupports_105 : decode cX2_judgeSupports 105 = .ok (.iconst 0, 1) := by decide +kernel
theorem dX2_judgeSupports_106 : decode cX2_judgeSupports 106 = .ok (.invokestatic 76, 3) := by decide +kernel
theorem dX2_judgeSupports_109 : decode cX2_judgeSupports 109 = .ok (.iinc 1 1, 3) := by decide +kernel
theorem dX2_judgeSupports_112 : decode cX2_judgeSupports 112 = .ok (.goto (-110), 3) := by decide +kernel
theorem dX2_judgeSupports_115 : decode cX2_judgeSupports 115 = .ok (.return_, 1) := by decide +kernel
set_option maxRecDepth 20000 in
theorem ggX2_isCutOff_X0_number : GoodIn wsX2_isCutOff wsX0_number := goodIn_r _ [6, 7, 26, 27, 28] (by decide +kernel) (by decide +kernel)
set_option maxRecDepth 20000 in
theorem gX2_isCutOff_X0_number : GoodIn wsX2_isCutOff (wsV RX2 61 RX0 yX0_number wsX0_number) := goodIn_app (goodIn_of _ (by decide +kernel)) ggX2_isCutOff_X0_number
set_option maxRecDepth 20000 in
theorem ggX2_isCutOff_X2_moves : GoodIn wsX2_isCutOff wsX2_moves := goodIn_r _ [12, 1, 13, 14, 15, 5, 16, 17, 18, 19, 20, 21, 22, 23, 24, 25, 26, 27, 28] (by decide +kernel) (by decide +kernel)
set_option maxRecDepth 20000 in
theorem gX2_isCutOff_X2_moves : GoodIn wsX2_isCutOff (wsV RX2 80 RX2 yX2_moves wsX2_moves) := goodIn_app (goodIn_of _ (by decide +kernel)) ggX2_isCutOff_X2_moves
set_option maxRecDepth 20000 in
theorem ggX2_isCutOff_X0_of : GoodIn wsX2_isCutOff wsX0_of := goodIn_r _ [16, 17, 26, 27, 28] (by decide +kernel) (by decide +kernel)
set_option maxRecDepth 20000 in
theorem gX2_isCutOff_X0_of : GoodIn wsX2_isCutOff (wsV RX2 65 RX0 yX0_of wsX0_of) := goodIn_app (goodIn_of _ (by decide +kernel)) ggX2_isCutOff_X0_of
theorem dX2_isCutOff_0 : decode cX2_isCutOff 0 = .ok (.iconst 0, 1) := by decide +kernel
theorem dX2_isCutOff_1 : decode cX2_isCutOff 1 = .ok (.istore_n 2, 1) := by decide +kernel
theorem dX2_isCutOff_2 : decode cX2_isCutOff 2 = .ok (.iload_n 2, 1) := by decide +kernel
theorem dX2_isCutOff_3 : decode cX2_isCutOff 3 = .ok (.aload_n 0, 1) := by decide +kernel
theorem dX2_isCutOff_4 : decode cX2_isCutOff 4 = .ok (.getfield 12, 3) := by decide +kernel
theorem dX2_isCutOff_7 : decode cX2_isCutOff 7 = .ok (.iconst 0, 1) := by decide +kernel
theorem dX2_isCutOff_8 : decode cX2_isCutOff 8 = .ok (.invokevirtual 61, 3) := by decide +kernel
theorem dX2_isCutOff_11 : decode cX2_isCutOff 11 = .ok (.if_icmp .ge 82, 3) := by decide +kernel
theorem dX2_isCutOff_14 : decode cX2_isCutOff 14 = .ok (.aload_n 0, 1) := by decide +kernel
theorem dX2_isCutOff_15 : decode cX2_isCutOff 15 = .ok (.iload_n 2, 1) := by decide +kernel
theorem dX2_isCutOff_16 : decode cX2_isCutOff 16 = .ok (.invokevirtual 80, 3) := by decide +kernel
theorem dX2_isCutOff_19 : decode cX2_isCutOff 19 = .ok (.ifCond .eq 68, 3) := by decide +kernel
theorem dX2_isCutOff_22 : decode cX2_isCutOff 22 = .ok (.aload_n 0, 1) := by decide +kernel
theorem dX2_isCutOff_23 : decode cX2_isCutOff 23 = .ok (.getfield 12, 3) := by decide +kernel
theorem dX2_isCutOff_26 : decode cX2_isCutOff 26 = .ok (.iload_n 2, 1) := by decide +kernel
theorem dX2_isCutOff_27 : decode cX2_isCutOff 27 = .ok (.iconst 3, 1) := by decide +kernel
theorem dX2_isCutOff_28 : decode cX2_isCutOff 28 = .ok (.invokevirtual 65, 3) := by decide +kernel
theorem dX2_isCutOff_31 : decode cX2_isCutOff 31 = .ok (.aload_n 0, 1) := by decide +kernel
theorem dX2_isCutOff_32 : decode cX2_isCutOff 32 = .ok (.getfield 12, 3) := by decide +kernel
theorem dX2_isCutOff_35 : decode cX2_isCutOff 35 = .ok (.iload_n 1, 1) := by decide +kernel
theorem dX2_isCutOff_36 : decode cX2_isCutOff 36 = .ok (.iconst 1, 1) := by decide +kernel
theorem dX2_isCutOff_37 : decode cX2_isCutOff 37 = .ok (.invokevirtual 65, 3) := by decide +kernel
theorem dX2_isCutOff_40 : decode cX2_isCutOff 40 = .ok (.if_icmp .ne 47, 3) := by decide +kernel
theorem dX2_isCutOff_43 : decode cX2_isCutOff 43 = .ok (.aload_n 0, 1) := by decide +kernel
theorem dX2_isCutOff_44 : decode cX2_isCutOff 44 = .ok (.getfield 12, 3) := by decide +kernel
theorem dX2_isCutOff_47 : decode cX2_isCutOff 47 = .ok (.iload_n 2, 1) := by decide +kernel
theorem dX2_isCutOff_48 : decode cX2_isCutOff 48 = .ok (.iconst 0, 1) := by decide +kernel
theorem dX2_isCutOff_49 : decode cX2_isCutOff 49 = .ok (.invokevirtual 65, 3) := by decide +kernel
theorem dX2_isCutOff_52 : decode cX2_isCutOff 52 = .ok (.aload_n 0, 1) := by decide +kernel
theorem dX2_isCutOff_53 : decode cX2_isCutOff 53 = .ok (.getfield 12, 3) := by decide +kernel
theorem dX2_isCutOff_56 : decode cX2_isCutOff 56 = .ok (.iload_n 1, 1) := by decide +kernel
theorem dX2_isCutOff_57 : decode cX2_isCutOff 57 = .ok (.iconst 0, 1) := by decide +kernel
theorem dX2_isCutOff_58 : decode cX2_isCutOff 58 = .ok (.invokevirtual 65, 3) := by decide +kernel
theorem dX2_isCutOff_61 : decode cX2_isCutOff 61 = .ok (.if_icmp .eq 26, 3) := by decide +kernel
theorem dX2_isCutOff_64 : decode cX2_isCutOff 64 = .ok (.aload_n 0, 1) := by decide +kernel
theorem dX2_isCutOff_65 : decode cX2_isCutOff 65 = .ok (.getfield 12, 3) := by decide +kernel
theorem dX2_isCutOff_68 : decode cX2_isCutOff 68 = .ok (.iload_n 2, 1) := by decide +kernel
theorem dX2_isCutOff_69 : decode cX2_isCutOff 69 = .ok (.iconst 1, 1) := by decide +kernel
theorem dX2_isCutOff_70 : decode cX2_isCutOff 70 = .ok (.invokevirtual 65, 3) := by decide +kernel
theorem dX2_isCutOff_73 : decode cX2_isCutOff 73 = .ok (.aload_n 0, 1) := by decide +kernel
theorem dX2_isCutOff_74 : decode cX2_isCutOff 74 = .ok (.getfield 12, 3) := by decide +kernel
theorem dX2_isCutOff_77 : decode cX2_isCutOff 77 = .ok (.iload_n 1, 1) := by decide +kernel
theorem dX2_isCutOff_78 : decode cX2_isCutOff 78 = .ok (.iconst 3, 1) := by decide +kernel
theorem dX2_isCutOff_79 : decode cX2_isCutOff 79 = .ok (.invokevirtual 65, 3) := by decide +kernel
theorem dX2_isCutOff_82 : decode cX2_isCutOff 82 = .ok (.if_icmp .eq 5, 3) := by decide +kernel
theorem dX2_isCutOff_85 : decode cX2_isCutOff 85 = .ok (.iconst 1, 1) := by decide +kernel
theorem dX2_isCutOff_86 : decode cX2_isCutOff 86 = .ok (.ireturn, 1) := by decide +kernel
theorem dX2_isCutOff_87 : decode cX2_isCutOff 87 = .ok (.iinc 2 1, 3) := by decide +kernel
theorem dX2_isCutOff_90 : decode cX2_isCutOff 90 = .ok (.goto (-88), 3) := by decide +kernel
theorem dX2_isCutOff_93 : decode cX2_isCutOff 93 = .ok (.iconst 0, 1) := by decide +kernel
theorem dX2_isCutOff_94 : decode cX2_isCutOff 94 = .ok (.ireturn, 1) := by decide +kernel
set_option maxRecDepth 20000 in
theorem ggX2_hasUse_X0_of : GoodIn wsX2_hasUse wsX0_of := goodIn_r _ [6, 7, 31, 32, 33] (by decide +kernel) (by decide +kernel)
set_option maxRecDepth 20000 in
theorem gX2_hasUse_X0_of : GoodIn wsX2_hasUse (wsV RX2 65 RX0 yX0_of wsX0_of) := goodIn_app (goodIn_of _ (by decide +kernel)) ggX2_hasUse_X0_of
set_option maxRecDepth 20000 in
theorem ggX2_hasUse_X0_armyOn : GoodIn wsX2_hasUse wsX0_armyOn := goodIn_r _ [11, 12, 13, 14, 5, 15, 16, 17, 3, 4, 6, 7, 31, 32, 33] (by decide +kernel) (by decide +kernel)
set_option maxRecDepth 20000 in
theorem gX2_hasUse_X0_armyOn : GoodIn wsX2_hasUse (wsV RX2 83 RX0 yX0_armyOn wsX0_armyOn) := goodIn_app (goodIn_of _ (by decide +kernel)) ggX2_hasUse_X0_armyOn
set_option maxRecDepth 20000 in
theorem ggX2_hasUse_X2_moves : GoodIn wsX2_hasUse wsX2_moves := goodIn_r _ [22, 1, 2, 3, 4, 5, 6, 7, 23, 24, 25, 26, 27, 28, 29, 30, 31, 32, 33] (by decide +kernel) (by decide +kernel)
set_option maxRecDepth 20000 in
theorem gX2_hasUse_X2_moves : GoodIn wsX2_hasUse (wsV RX2 80 RX2 yX2_moves wsX2_moves) := goodIn_app (goodIn_of _ (by decide +kernel)) ggX2_hasUse_X2_moves
theorem dX2_hasUse_0 : decode cX2_hasUse 0 = .ok (.aload_n 0, 1) := by decide +kernel
theorem dX2_hasUse_1 : decode cX2_hasUse 1 = .ok (.getfield 12, 3) := by decide +kernel
theorem dX2_hasUse_4 : decode cX2_hasUse 4 = .ok (.aload_n 0, 1) := by decide +kernel
theorem dX2_hasUse_5 : decode cX2_hasUse 5 = .ok (.getfield 12, 3) := by decide +kernel
theorem dX2_hasUse_8 : decode cX2_hasUse 8 = .ok (.iload_n 1, 1) := by decide +kernel
theorem dX2_hasUse_9 : decode cX2_hasUse 9 = .ok (.iconst 4, 1) := by decide +kernel
theorem dX2_hasUse_10 : decode cX2_hasUse 10 = .ok (.invokevirtual 65, 3) := by decide +kernel
theorem dX2_hasUse_13 : decode cX2_hasUse 13 = .ok (.invokevirtual 83, 3) := by decide +kernel
theorem dX2_hasUse_16 : decode cX2_hasUse 16 = .ok (.istore_n 2, 1) := by decide +kernel
theorem dX2_hasUse_17 : decode cX2_hasUse 17 = .ok (.iload_n 2, 1) := by decide +kernel
theorem dX2_hasUse_18 : decode cX2_hasUse 18 = .ok (.iconst (-1), 1) := by decide +kernel
theorem dX2_hasUse_19 : decode cX2_hasUse 19 = .ok (.if_icmp .eq 8, 3) := by decide +kernel
theorem dX2_hasUse_22 : decode cX2_hasUse 22 = .ok (.iload_n 2, 1) := by decide +kernel
theorem dX2_hasUse_23 : decode cX2_hasUse 23 = .ok (.iload_n 1, 1) := by decide +kernel
theorem dX2_hasUse_24 : decode cX2_hasUse 24 = .ok (.if_icmp .ne 5, 3) := by decide +kernel
theorem dX2_hasUse_27 : decode cX2_hasUse 27 = .ok (.iconst 0, 1) := by decide +kernel
theorem dX2_hasUse_28 : decode cX2_hasUse 28 = .ok (.ireturn, 1) := by decide +kernel
theorem dX2_hasUse_29 : decode cX2_hasUse 29 = .ok (.aload_n 0, 1) := by decide +kernel
theorem dX2_hasUse_30 : decode cX2_hasUse 30 = .ok (.getfield 12, 3) := by decide +kernel
theorem dX2_hasUse_33 : decode cX2_hasUse 33 = .ok (.iload_n 1, 1) := by decide +kernel
theorem dX2_hasUse_34 : decode cX2_hasUse 34 = .ok (.iconst 4, 1) := by decide +kernel
theorem dX2_hasUse_35 : decode cX2_hasUse 35 = .ok (.invokevirtual 65, 3) := by decide +kernel
theorem dX2_hasUse_38 : decode cX2_hasUse 38 = .ok (.aload_n 0, 1) := by decide +kernel
theorem dX2_hasUse_39 : decode cX2_hasUse 39 = .ok (.getfield 12, 3) := by decide +kernel
theorem dX2_hasUse_42 : decode cX2_hasUse 42 = .ok (.iload_n 1, 1) := by decide +kernel
theorem dX2_hasUse_43 : decode cX2_hasUse 43 = .ok (.iconst 3, 1) := by decide +kernel
theorem dX2_hasUse_44 : decode cX2_hasUse 44 = .ok (.invokevirtual 65, 3) := by decide +kernel
theorem dX2_hasUse_47 : decode cX2_hasUse 47 = .ok (.if_icmp .ne 17, 3) := by decide +kernel
theorem dX2_hasUse_50 : decode cX2_hasUse 50 = .ok (.aload_n 0, 1) := by decide +kernel
theorem dX2_hasUse_51 : decode cX2_hasUse 51 = .ok (.iload_n 2, 1) := by decide +kernel
theorem dX2_hasUse_52 : decode cX2_hasUse 52 = .ok (.invokevirtual 80, 3) := by decide +kernel
theorem dX2_hasUse_55 : decode cX2_hasUse 55 = .ok (.ifCond .ne 7, 3) := by decide +kernel
theorem dX2_hasUse_58 : decode cX2_hasUse 58 = .ok (.iconst 1, 1) := by decide +kernel
theorem dX2_hasUse_59 : decode cX2_hasUse 59 = .ok (.goto 4, 3) := by decide +kernel
theorem dX2_hasUse_62 : decode cX2_hasUse 62 = .ok (.iconst 0, 1) := by decide +kernel
theorem dX2_hasUse_63 : decode cX2_hasUse 63 = .ok (.ireturn, 1) := by decide +kernel
theorem dX2_hasUse_64 : decode cX2_hasUse 64 = .ok (.aload_n 0, 1) := by decide +kernel
theorem dX2_hasUse_65 : decode cX2_hasUse 65 = .ok (.iload_n 2, 1) := by decide +kernel
theorem dX2_hasUse_66 : decode cX2_hasUse 66 = .ok (.invokevirtual 80, 3) := by decide +kernel
theorem dX2_hasUse_69 : decode cX2_hasUse 69 = .ok (.ifCond .eq 28, 3) := by decide +kernel
theorem dX2_hasUse_72 : decode cX2_hasUse 72 = .ok (.aload_n 0, 1) := by decide +kernel
theorem dX2_hasUse_73 : decode cX2_hasUse 73 = .ok (.getfield 12, 3) := by decide +kernel
theorem dX2_hasUse_76 : decode cX2_hasUse 76 = .ok (.iload_n 2, 1) := by decide +kernel
theorem dX2_hasUse_77 : decode cX2_hasUse 77 = .ok (.iconst 3, 1) := by decide +kernel
theorem dX2_hasUse_78 : decode cX2_hasUse 78 = .ok (.invokevirtual 65, 3) := by decide +kernel
theorem dX2_hasUse_81 : decode cX2_hasUse 81 = .ok (.aload_n 0, 1) := by decide +kernel
theorem dX2_hasUse_82 : decode cX2_hasUse 82 = .ok (.getfield 12, 3) := by decide +kernel
theorem dX2_hasUse_85 : decode cX2_hasUse 85 = .ok (.iload_n 1, 1) := by decide +kernel
theorem dX2_hasUse_86 : decode cX2_hasUse 86 = .ok (.iconst 3, 1) := by decide +kernel
theorem dX2_hasUse_87 : decode cX2_hasUse 87 = .ok (.invokevirtual 65, 3) := by decide +kernel
theorem dX2_hasUse_90 : decode cX2_hasUse 90 = .ok (.if_icmp .ne 7, 3) := by decide +kernel
theorem dX2_hasUse_93 : decode cX2_hasUse 93 = .ok (.iconst 1, 1) := by decide +kernel
theorem dX2_hasUse_94 : decode cX2_hasUse 94 = .ok (.goto 4, 3) := by decide +kernel
theorem dX2_hasUse_97 : decode cX2_hasUse 97 = .ok (.iconst 0, 1) := by decide +kernel
theorem dX2_hasUse_98 : decode cX2_hasUse 98 = .ok (.ireturn, 1) := by decide +kernel
set_option maxRecDepth 20000 in
theorem ggX2_weighOrders_X0_number : GoodIn wsX2_weighOrders wsX0_number := goodIn_r _ [7, 8, 37, 38, 39] (by decide +kernel) (by decide +kernel)
set_option maxRecDepth 20000 in
theorem gX2_weighOrders_X0_number : GoodIn wsX2_weighOrders (wsV RX2 61 RX0 yX0_number wsX0_number) := goodIn_app (goodIn_of _ (by decide +kernel)) ggX2_weighOrders_X0_number
set_option maxRecDepth 20000 in
theorem ggX2_weighOrders_X0_of : GoodIn wsX2_weighOrders wsX0_of := goodIn_r _ [12, 13, 37, 38, 39] (by decide +kernel) (by decide +kernel)
set_option maxRecDepth 20000 in
theorem gX2_weighOrders_X0_of : GoodIn wsX2_weighOrders (wsV RX2 65 RX0 yX0_of wsX0_of) := goodIn_app (goodIn_of _ (by decide +kernel)) ggX2_weighOrders_X0_of
set_option maxRecDepth 20000 in
theorem ggX2_weighOrders_X2_moves : GoodIn wsX2_weighOrders wsX2_moves := goodIn_r _ [18, 1, 9, 10, 11, 6, 12, 13, 29, 30, 31, 32, 33, 34, 35, 36, 37, 38, 39] (by decide +kernel) (by decide +kernel)
set_option maxRecDepth 20000 in
theorem gX2_weighOrders_X2_moves : GoodIn wsX2_weighOrders (wsV RX2 80 RX2 yX2_moves wsX2_moves) := goodIn_app (goodIn_of _ (by decide +kernel)) ggX2_weighOrders_X2_moves
set_option maxRecDepth 20000 in
theorem ggX2_weighOrders_X2_supportsOf : GoodIn wsX2_weighOrders wsX2_supportsOf := goodIn_r _ [22, 1, 23, 3, 4, 5, 6, 7, 8, 9, 10, 11, 12, 13, 24, 25, 26, 29, 30, 31, 32, 33, 34, 35, 36, 37, 38, 39] (by decide +kernel) (by decide +kernel)
set_option maxRecDepth 20000 in
theorem gX2_weighOrders_X2_supportsOf : GoodIn wsX2_weighOrders (wsV RX2 86 RX2 yX2_supportsOf wsX2_supportsOf) := goodIn_app (goodIn_of _ (by decide +kernel)) ggX2_weighOrders_X2_supportsOf
set_option maxRecDepth 20000 in
theorem ggX2_weighOrders_X4_enter : GoodIn wsX2_weighOrders wsX4_enter := goodIn_r _ [28] (by decide +kernel) (by decide +kernel)
set_option maxRecDepth 20000 in
theorem gX2_weighOrders_X4_enter_n76 : GoodIn wsX2_weighOrders (wsX4_enter) := ggX2_weighOrders_X4_enter
theorem dX2_weighOrders_0 : decode cX2_weighOrders 0 = .ok (.iconst 0, 1) := by decide +kernel
theorem dX2_weighOrders_1 : decode cX2_weighOrders 1 = .ok (.istore_n 1, 1) := by decide +kernel
theorem dX2_weighOrders_2 : decode cX2_weighOrders 2 = .ok (.iload_n 1, 1) := by decide +kernel
theorem dX2_weighOrders_3 : decode cX2_weighOrders 3 = .ok (.aload_n 0, 1) := by decide +kernel
theorem dX2_weighOrders_4 : decode cX2_weighOrders 4 = .ok (.getfield 12, 3) := by decide +kernel
theorem dX2_weighOrders_7 : decode cX2_weighOrders 7 = .ok (.iconst 0, 1) := by decide +kernel
theorem dX2_weighOrders_8 : decode cX2_weighOrders 8 = .ok (.invokevirtual 61, 3) := by decide +kernel
theorem dX2_weighOrders_11 : decode cX2_weighOrders 11 = .ok (.if_icmp .ge 57, 3) := by decide +kernel
theorem dX2_weighOrders_14 : decode cX2_weighOrders 14 = .ok (.aload_n 0, 1) := by decide +kernel
theorem dX2_weighOrders_15 : decode cX2_weighOrders 15 = .ok (.getfield 12, 3) := by decide +kernel
theorem dX2_weighOrders_18 : decode cX2_weighOrders 18 = .ok (.iload_n 1, 1) := by decide +kernel
theorem dX2_weighOrders_19 : decode cX2_weighOrders 19 = .ok (.iconst 1, 1) := by decide +kernel
theorem dX2_weighOrders_20 : decode cX2_weighOrders 20 = .ok (.invokevirtual 65, 3) := by decide +kernel
theorem dX2_weighOrders_23 : decode cX2_weighOrders 23 = .ok (.istore_n 2, 1) := by decide +kernel
theorem dX2_weighOrders_24 : decode cX2_weighOrders 24 = .ok (.aload_n 0, 1) := by decide +kernel
theorem dX2_weighOrders_25 : decode cX2_weighOrders 25 = .ok (.iload_n 1, 1) := by decide +kernel
theorem dX2_weighOrders_26 : decode cX2_weighOrders 26 = .ok (.invokevirtual 80, 3) := by decide +kernel
theorem dX2_weighOrders_29 : decode cX2_weighOrders 29 = .ok (.ifCond .eq 15, 3) := by decide +kernel
theorem dX2_weighOrders_32 : decode cX2_weighOrders 32 = .ok (.aload_n 0, 1) := by decide +kernel
theorem dX2_weighOrders_33 : decode cX2_weighOrders 33 = .ok (.getfield 12, 3) := by decide +kernel
theorem dX2_weighOrders_36 : decode cX2_weighOrders 36 = .ok (.iload_n 1, 1) := by decide +kernel
theorem dX2_weighOrders_37 : decode cX2_weighOrders 37 = .ok (.iconst 3, 1) := by decide +kernel
theorem dX2_weighOrders_38 : decode cX2_weighOrders 38 = .ok (.invokevirtual 65, 3) := by decide +kernel
theorem dX2_weighOrders_41 : decode cX2_weighOrders 41 = .ok (.goto 4, 3) := by decide +kernel
theorem dX2_weighOrders_44 : decode cX2_weighOrders 44 = .ok (.iload_n 2, 1) := by decide +kernel
theorem dX2_weighOrders_45 : decode cX2_weighOrders 45 = .ok (.istore_n 3, 1) := by decide +kernel
theorem dX2_weighOrders_46 : decode cX2_weighOrders 46 = .ok (.aload_n 0, 1) := by decide +kernel
theorem dX2_weighOrders_47 : decode cX2_weighOrders 47 = .ok (.getfield 25, 3) := by decide +kernel
theorem dX2_weighOrders_50 : decode cX2_weighOrders 50 = .ok (.iload_n 1, 1) := by decide +kernel
theorem dX2_weighOrders_51 : decode cX2_weighOrders 51 = .ok (.iconst 1, 1) := by decide +kernel
theorem dX2_weighOrders_52 : decode cX2_weighOrders 52 = .ok (.aload_n 0, 1) := by decide +kernel
theorem dX2_weighOrders_53 : decode cX2_weighOrders 53 = .ok (.iload_n 2, 1) := by decide +kernel
theorem dX2_weighOrders_54 : decode cX2_weighOrders 54 = .ok (.iload_n 3, 1) := by decide +kernel
theorem dX2_weighOrders_55 : decode cX2_weighOrders 55 = .ok (.invokevirtual 86, 3) := by decide +kernel
theorem dX2_weighOrders_58 : decode cX2_weighOrders 58 = .ok (.iadd, 1) := by decide +kernel
theorem dX2_weighOrders_59 : decode cX2_weighOrders 59 = .ok (.invokestatic 76, 3) := by decide +kernel
theorem dX2_weighOrders_62 : decode cX2_weighOrders 62 = .ok (.iinc 1 1, 3) := by decide +kernel
theorem dX2_weighOrders_65 : decode cX2_weighOrders 65 = .ok (.goto (-63), 3) := by decide +kernel
theorem dX2_weighOrders_68 : decode cX2_weighOrders 68 = .ok (.return_, 1) := by decide +kernel
set_option maxRecDepth 20000 in
theorem ggX2_supportsOf_X0_number : GoodIn wsX2_supportsOf wsX0_number := goodIn_r _ [7, 8, 25, 26, 27] (by decide +kernel) (by decide +kernel)
set_option maxRecDepth 20000 in
theorem gX2_supportsOf_X0_number : GoodIn wsX2_supportsOf (wsV RX2 61 RX0 yX0_number wsX0_number) := goodIn_app (goodIn_of _ (by decide +kernel)) ggX2_supportsOf_X0_number
set_option maxRecDepth 20000 in
theorem ggX2_supportsOf_X0_of : GoodIn wsX2_supportsOf wsX0_of := goodIn_r _ [12, 13, 25, 26, 27] (by decide +kernel) (by decide +kernel)
set_option maxRecDepth 20000 in
theorem gX2_supportsOf_X0_of : GoodIn wsX2_supportsOf (wsV RX2 65 RX0 yX0_of wsX0_of) := goodIn_app (goodIn_of _ (by decide +kernel)) ggX2_supportsOf_X0_of
set_option maxRecDepth 20000 in
theorem ggX2_supportsOf_X4_entry : GoodIn wsX2_supportsOf wsX4_entry := goodIn_r _ [16] (by decide +kernel) (by decide +kernel)
set_option maxRecDepth 20000 in
theorem gX2_supportsOf_X4_entry_n89 : GoodIn wsX2_supportsOf (wsX4_entry) := ggX2_supportsOf_X4_entry
theorem dX2_supportsOf_0 : decode cX2_supportsOf 0 = .ok (.iconst 0, 1) := by decide +kernel
theorem dX2_supportsOf_1 : decode cX2_supportsOf 1 = .ok (.istore_n 3, 1) := by decide +kernel
theorem dX2_supportsOf_2 : decode cX2_supportsOf 2 = .ok (.iconst 0, 1) := by decide +kernel
theorem dX2_supportsOf_3 : decode cX2_supportsOf 3 = .ok (.istore 4, 2) := by decide +kernel
theorem dX2_supportsOf_5 : decode cX2_supportsOf 5 = .ok (.iload 4, 2) := by decide +kernel
theorem dX2_supportsOf_7 : decode cX2_supportsOf 7 = .ok (.aload_n 0, 1) := by decide +kernel
theorem dX2_supportsOf_8 : decode cX2_supportsOf 8 = .ok (.getfield 12, 3) := by decide +kernel
theorem dX2_supportsOf_11 : decode cX2_supportsOf 11 = .ok (.iconst 0, 1) := by decide +kernel
theorem dX2_supportsOf_12 : decode cX2_supportsOf 12 = .ok (.invokevirtual 61, 3) := by decide +kernel
theorem dX2_supportsOf_15 : decode cX2_supportsOf 15 = .ok (.if_icmp .ge 70, 3) := by decide +kernel
theorem dX2_supportsOf_18 : decode cX2_supportsOf 18 = .ok (.aload_n 0, 1) := by decide +kernel
theorem dX2_supportsOf_19 : decode cX2_supportsOf 19 = .ok (.getfield 12, 3) := by decide +kernel
theorem dX2_supportsOf_22 : decode cX2_supportsOf 22 = .ok (.iload 4, 2) := by decide +kernel
theorem dX2_supportsOf_24 : decode cX2_supportsOf 24 = .ok (.iconst 4, 1) := by decide +kernel
theorem dX2_supportsOf_25 : decode cX2_supportsOf 25 = .ok (.invokevirtual 65, 3) := by decide +kernel
theorem dX2_supportsOf_28 : decode cX2_supportsOf 28 = .ok (.iload_n 1, 1) := by decide +kernel
theorem dX2_supportsOf_29 : decode cX2_supportsOf 29 = .ok (.if_icmp .ne 21, 3) := by decide +kernel
theorem dX2_supportsOf_32 : decode cX2_supportsOf 32 = .ok (.aload_n 0, 1) := by decide +kernel
theorem dX2_supportsOf_33 : decode cX2_supportsOf 33 = .ok (.getfield 12, 3) := by decide +kernel
theorem dX2_supportsOf_36 : decode cX2_supportsOf 36 = .ok (.iload 4, 2) := by decide +kernel
theorem dX2_supportsOf_38 : decode cX2_supportsOf 38 = .ok (.iconst 3, 1) := by decide +kernel
theorem dX2_supportsOf_39 : decode cX2_supportsOf 39 = .ok (.invokevirtual 65, 3) := by decide +kernel
theorem dX2_supportsOf_42 : decode cX2_supportsOf 42 = .ok (.iload_n 2, 1) := by decide +kernel
theorem dX2_supportsOf_43 : decode cX2_supportsOf 43 = .ok (.if_icmp .ne 7, 3) := by decide +kernel
theorem dX2_supportsOf_46 : decode cX2_supportsOf 46 = .ok (.iconst 1, 1) := by decide +kernel
theorem dX2_supportsOf_47 : decode cX2_supportsOf 47 = .ok (.goto 4, 3) := by decide +kernel
theorem dX2_supportsOf_50 : decode cX2_supportsOf 50 = .ok (.iconst 0, 1) := by decide +kernel
theorem dX2_supportsOf_51 : decode cX2_supportsOf 51 = .ok (.istore 5, 2) := by decide +kernel
theorem dX2_supportsOf_53 : decode cX2_supportsOf 53 = .ok (.iload_n 3, 1) := by decide +kernel
theorem dX2_supportsOf_54 : decode cX2_supportsOf 54 = .ok (.iload 5, 2) := by decide +kernel
theorem dX2_supportsOf_56 : decode cX2_supportsOf 56 = .ok (.ifCond .eq 20, 3) := by decide +kernel
theorem dX2_supportsOf_59 : decode cX2_supportsOf 59 = .ok (.aload_n 0, 1) := by decide +kernel
theorem dX2_supportsOf_60 : decode cX2_supportsOf 60 = .ok (.getfield 22, 3) := by decide +kernel
theorem dX2_supportsOf_63 : decode cX2_supportsOf 63 = .ok (.iload 4, 2) := by decide +kernel
theorem dX2_supportsOf_65 : decode cX2_supportsOf 65 = .ok (.invokestatic 89, 3) := by decide +kernel
theorem dX2_supportsOf_68 : decode cX2_supportsOf 68 = .ok (.iconst 1, 1) := by decide +kernel
theorem dX2_supportsOf_69 : decode cX2_supportsOf 69 = .ok (.if_icmp .ne 7, 3) := by decide +kernel
theorem dX2_supportsOf_72 : decode cX2_supportsOf 72 = .ok (.iconst 1, 1) := by decide +kernel
theorem dX2_supportsOf_73 : decode cX2_supportsOf 73 = .ok (.goto 4, 3) := by decide +kernel
theorem dX2_supportsOf_76 : decode cX2_supportsOf 76 = .ok (.iconst 0, 1) := by decide +kernel
theorem dX2_supportsOf_77 : decode cX2_supportsOf 77 = .ok (.iadd, 1) := by decide +kernel
theorem dX2_supportsOf_78 : decode cX2_supportsOf 78 = .ok (.istore_n 3, 1) := by decide +kernel
theorem dX2_supportsOf_79 : decode cX2_supportsOf 79 = .ok (.iinc 4 1, 3) := by decide +kernel
theorem dX2_supportsOf_82 : decode cX2_supportsOf 82 = .ok (.goto (-77), 3) := by decide +kernel
theorem dX2_supportsOf_85 : decode cX2_supportsOf 85 = .ok (.iload_n 3, 1) := by decide +kernel
theorem dX2_supportsOf_86 : decode cX2_supportsOf 86 = .ok (.ireturn, 1) := by decide +kernel
set_option maxRecDepth 20000 in
theorem ggX2_failAgainstMoves_X0_number : GoodIn wsX2_failAgainstMoves wsX0_number := goodIn_r _ [7, 8, 47, 48, 49] (by decide +kernel) (by decide +kernel)
set_option maxRecDepth 20000 in
theorem gX2_failAgainstMoves_X0_number : GoodIn wsX2_failAgainstMoves (wsV RX2 61 RX0 yX0_number wsX0_number) := goodIn_app (goodIn_of _ (by decide +kernel)) ggX2_failAgainstMoves_X0_number
set_option maxRecDepth 20000 in
theorem ggX2_failAgainstMoves_X2_moves : GoodIn wsX2_failAgainstMoves wsX2_moves := goodIn_r _ [13, 1, 14, 15, 16, 6, 17, 18, 39, 40, 41, 42, 43, 44, 45, 46, 47, 48, 49] (by decide +kernel) (by decide +kernel)
set_option maxRecDepth 20000 in
theorem gX2_failAgainstMoves_X2_moves : GoodIn wsX2_failAgainstMoves (wsV RX2 80 RX2 yX2_moves wsX2_moves) := goodIn_app (goodIn_of _ (by decide +kernel)) ggX2_failAgainstMoves_X2_moves
set_option maxRecDepth 20000 in
theorem ggX2_failAgainstMoves_X2_hasRival : GoodIn wsX2_failAgainstMoves wsX2_hasRival := goodIn_r _ [22, 1, 23, 3, 4, 5, 6, 7, 8, 9, 10, 11, 12, 13, 14, 15, 16, 17, 18, 24, 25, 26, 39, 40, 41, 42, 43, 44, 45, 46, 47, 48, 49] (by decide +kernel) (by decide +kernel)
set_option maxRecDepth 20000 in
theorem gX2_failAgainstMoves_X2_hasRival : GoodIn wsX2_failAgainstMoves (wsV RX2 93 RX2 yX2_hasRival wsX2_hasRival) := goodIn_app (goodIn_of _ (by decide +kernel)) ggX2_failAgainstMoves_X2_hasRival
set_option maxRecDepth 20000 in
theorem ggX2_failAgainstMoves_X2_losesSwap : GoodIn wsX2_failAgainstMoves wsX2_losesSwap := goodIn_r _ [30, 1, 23, 14, 15, 16, 6, 17, 18, 31, 32, 33, 34, 35, 4, 5, 7, 8, 36, 9, 10, 11, 12, 13, 24, 25, 26, 39, 40, 41, 42, 43, 44, 45, 46, 47, 48, 49] (by decide +kernel) (by decide +kernel)
set_option maxRecDepth 20000 in
theorem gX2_failAgainstMoves_X2_losesSwap : GoodIn wsX2_failAgainstMoves (wsV RX2 96 RX2 yX2_losesSwap wsX2_losesSwap) := goodIn_app (goodIn_of _ (by decide +kernel)) ggX2_failAgainstMoves_X2_losesSwap
set_option maxRecDepth 20000 in
theorem ggX2_failAgainstMoves_X4_enter : GoodIn wsX2_failAgainstMoves wsX4_enter := goodIn_r _ [38] (by decide +kernel) (by decide +kernel)
set_option maxRecDepth 20000 in
theorem gX2_failAgainstMoves_X4_enter_n76 : GoodIn wsX2_failAgainstMoves (wsX4_enter) := ggX2_failAgainstMoves_X4_enter
theorem dX2_failAgainstMoves_0 : decode cX2_failAgainstMoves 0 = .ok (.iconst 0, 1) := by decide +kernel
theorem dX2_failAgainstMoves_1 : decode cX2_failAgainstMoves 1 = .ok (.istore_n 1, 1) := by decide +kernel
theorem dX2_failAgainstMoves_2 : decode cX2_failAgainstMoves 2 = .ok (.iload_n 1, 1) := by decide +kernel
theorem dX2_failAgainstMoves_3 : decode cX2_failAgainstMoves 3 = .ok (.aload_n 0, 1) := by decide +kernel
theorem dX2_failAgainstMoves_4 : decode cX2_failAgainstMoves 4 = .ok (.getfield 12, 3) := by decide +kernel
theorem dX2_failAgainstMoves_7 : decode cX2_failAgainstMoves 7 = .ok (.iconst 0, 1) := by decide +kernel
theorem dX2_failAgainstMoves_8 : decode cX2_failAgainstMoves 8 = .ok (.invokevirtual 61, 3) := by decide +kernel
theorem dX2_failAgainstMoves_11 : decode cX2_failAgainstMoves 11 = .ok (.if_icmp .ge 54, 3) := by decide +kernel
theorem dX2_failAgainstMoves_14 : decode cX2_failAgainstMoves 14 = .ok (.iconst 0, 1) := by decide +kernel
theorem dX2_failAgainstMoves_15 : decode cX2_failAgainstMoves 15 = .ok (.istore_n 2, 1) := by decide +kernel
theorem dX2_failAgainstMoves_16 : decode cX2_failAgainstMoves 16 = .ok (.aload_n 0, 1) := by decide +kernel
theorem dX2_failAgainstMoves_17 : decode cX2_failAgainstMoves 17 = .ok (.iload_n 1, 1) := by decide +kernel
theorem dX2_failAgainstMoves_18 : decode cX2_failAgainstMoves 18 = .ok (.invokevirtual 80, 3) := by decide +kernel
theorem dX2_failAgainstMoves_21 : decode cX2_failAgainstMoves 21 = .ok (.ifCond .eq 29, 3) := by decide +kernel
theorem dX2_failAgainstMoves_24 : decode cX2_failAgainstMoves 24 = .ok (.aload_n 0, 1) := by decide +kernel
theorem dX2_failAgainstMoves_25 : decode cX2_failAgainstMoves 25 = .ok (.iload_n 1, 1) := by decide +kernel
theorem dX2_failAgainstMoves_26 : decode cX2_failAgainstMoves 26 = .ok (.invokevirtual 93, 3) := by decide +kernel
theorem dX2_failAgainstMoves_29 : decode cX2_failAgainstMoves 29 = .ok (.ifCond .eq 7, 3) := by decide +kernel
theorem dX2_failAgainstMoves_32 : decode cX2_failAgainstMoves 32 = .ok (.iconst 1, 1) := by decide +kernel
theorem dX2_failAgainstMoves_33 : decode cX2_failAgainstMoves 33 = .ok (.goto 16, 3) := by decide +kernel
theorem dX2_failAgainstMoves_36 : decode cX2_failAgainstMoves 36 = .ok (.aload_n 0, 1) := by decide +kernel
theorem dX2_failAgainstMoves_37 : decode cX2_failAgainstMoves 37 = .ok (.iload_n 1, 1) := by decide +kernel
theorem dX2_failAgainstMoves_38 : decode cX2_failAgainstMoves 38 = .ok (.invokevirtual 96, 3) := by decide +kernel
theorem dX2_failAgainstMoves_41 : decode cX2_failAgainstMoves 41 = .ok (.ifCond .eq 7, 3) := by decide +kernel
theorem dX2_failAgainstMoves_44 : decode cX2_failAgainstMoves 44 = .ok (.iconst 2, 1) := by decide +kernel
theorem dX2_failAgainstMoves_45 : decode cX2_failAgainstMoves 45 = .ok (.goto 4, 3) := by decide +kernel
theorem dX2_failAgainstMoves_48 : decode cX2_failAgainstMoves 48 = .ok (.iconst 0, 1) := by decide +kernel
theorem dX2_failAgainstMoves_49 : decode cX2_failAgainstMoves 49 = .ok (.istore_n 2, 1) := by decide +kernel
theorem dX2_failAgainstMoves_50 : decode cX2_failAgainstMoves 50 = .ok (.aload_n 0, 1) := by decide +kernel
theorem dX2_failAgainstMoves_51 : decode cX2_failAgainstMoves 51 = .ok (.getfield 28, 3) := by decide +kernel
theorem dX2_failAgainstMoves_54 : decode cX2_failAgainstMoves 54 = .ok (.iload_n 1, 1) := by decide +kernel
theorem dX2_failAgainstMoves_55 : decode cX2_failAgainstMoves 55 = .ok (.iload_n 2, 1) := by decide +kernel
theorem dX2_failAgainstMoves_56 : decode cX2_failAgainstMoves 56 = .ok (.invokestatic 76, 3) := by decide +kernel
theorem dX2_failAgainstMoves_59 : decode cX2_failAgainstMoves 59 = .ok (.iinc 1 1, 3) := by decide +kernel
theorem dX2_failAgainstMoves_62 : decode cX2_failAgainstMoves 62 = .ok (.goto (-60), 3) := by decide +kernel
theorem dX2_failAgainstMoves_65 : decode cX2_failAgainstMoves 65 = .ok (.return_, 1) := by decide +kernel
set_option maxRecDepth 20000 in
theorem ggX2_failAgainstArmies_X0_number : GoodIn wsX2_failAgainstArmies wsX0_number := goodIn_r _ [7, 8, 47, 48, 49] (by decide +kernel) (by decide +kernel)
set_option maxRecDepth 20000 in
theorem gX2_failAgainstArmies_X0_number : GoodIn wsX2_failAgainstArmies (wsV RX2 61 RX0 yX0_number wsX0_number) := goodIn_app (goodIn_of _ (by decide +kernel)) ggX2_failAgainstArmies_X0_number
set_option maxRecDepth 20000 in
theorem ggX2_failAgainstArmies_X2_goes : GoodIn wsX2_failAgainstArmies wsX2_goes := goodIn_r _ [13, 1, 2, 14, 15, 16, 6, 17, 18, 19, 20, 21, 39, 40, 41, 42, 43, 44, 45, 46, 47, 48, 49] (by decide +kernel) (by decide +kernel)
set_option maxRecDepth 20000 in
theorem gX2_failAgainstArmies_X2_goes : GoodIn wsX2_failAgainstArmies (wsV RX2 99 RX2 yX2_goes wsX2_goes) := goodIn_app (goodIn_of _ (by decide +kernel)) ggX2_failAgainstArmies_X2_goes
set_option maxRecDepth 20000 in
theorem ggX2_failAgainstArmies_X2_blockOf : GoodIn wsX2_failAgainstArmies wsX2_blockOf := goodIn_r _ [25, 1, 26, 14, 15, 16, 6, 17, 18, 27, 28, 29, 30, 31, 4, 5, 7, 8, 32, 9, 10, 11, 12, 13, 2, 19, 20, 21, 33, 34, 35, 36, 39, 40, 41, 42, 43, 44, 45, 46, 47, 48, 49] (by decide +kernel) (by decide +kernel)
set_option maxRecDepth 20000 in
theorem gX2_failAgainstArmies_X2_blockOf : GoodIn wsX2_failAgainstArmies (wsV RX2 102 RX2 yX2_blockOf wsX2_blockOf) := goodIn_app (goodIn_of _ (by decide +kernel)) ggX2_failAgainstArmies_X2_blockOf
set_option maxRecDepth 20000 in
theorem ggX2_failAgainstArmies_X4_enter : GoodIn wsX2_failAgainstArmies wsX4_enter := goodIn_r _ [38] (by decide +kernel) (by decide +kernel)
set_option maxRecDepth 20000 in
theorem gX2_failAgainstArmies_X4_enter_n76 : GoodIn wsX2_failAgainstArmies (wsX4_enter) := ggX2_failAgainstArmies_X4_enter
theorem dX2_failAgainstArmies_0 : decode cX2_failAgainstArmies 0 = .ok (.iconst 1, 1) := by decide +kernel
theorem dX2_failAgainstArmies_1 : decode cX2_failAgainstArmies 1 = .ok (.istore_n 1, 1) := by decide +kernel
theorem dX2_failAgainstArmies_2 : decode cX2_failAgainstArmies 2 = .ok (.iconst 0, 1) := by decide +kernel
theorem dX2_failAgainstArmies_3 : decode cX2_failAgainstArmies 3 = .ok (.istore_n 2, 1) := by decide +kernel
theorem dX2_failAgainstArmies_4 : decode cX2_failAgainstArmies 4 = .ok (.iload_n 2, 1) := by decide +kernel
theorem dX2_failAgainstArmies_5 : decode cX2_failAgainstArmies 5 = .ok (.bipush 9, 2) := by decide +kernel
theorem dX2_failAgainstArmies_7 : decode cX2_failAgainstArmies 7 = .ok (.if_icmp .gt 71, 3) := by decide +kernel
theorem dX2_failAgainstArmies_10 : decode cX2_failAgainstArmies 10 = .ok (.iload_n 1, 1) := by decide +kernel
theorem dX2_failAgainstArmies_11 : decode cX2_failAgainstArmies 11 = .ok (.ifCond .eq 67, 3) := by decide +kernel
theorem dX2_failAgainstArmies_14 : decode cX2_failAgainstArmies 14 = .ok (.iconst 0, 1) := by decide +kernel
theorem dX2_failAgainstArmies_15 : decode cX2_failAgainstArmies 15 = .ok (.istore_n 1, 1) := by decide +kernel
theorem dX2_failAgainstArmies_16 : decode cX2_failAgainstArmies 16 = .ok (.iconst 0, 1) := by decide +kernel
theorem dX2_failAgainstArmies_17 : decode cX2_failAgainstArmies 17 = .ok (.istore_n 3, 1) := by decide +kernel
theorem dX2_failAgainstArmies_18 : decode cX2_failAgainstArmies 18 = .ok (.iload_n 3, 1) := by decide +kernel
theorem dX2_failAgainstArmies_19 : decode cX2_failAgainstArmies 19 = .ok (.aload_n 0, 1) := by decide +kernel
theorem dX2_failAgainstArmies_20 : decode cX2_failAgainstArmies 20 = .ok (.getfield 12, 3) := by decide +kernel
theorem dX2_failAgainstArmies_23 : decode cX2_failAgainstArmies 23 = .ok (.iconst 0, 1) := by decide +kernel
theorem dX2_failAgainstArmies_24 : decode cX2_failAgainstArmies 24 = .ok (.invokevirtual 61, 3) := by decide +kernel
theorem dX2_failAgainstArmies_27 : decode cX2_failAgainstArmies 27 = .ok (.if_icmp .ge 45, 3) := by decide +kernel
theorem dX2_failAgainstArmies_30 : decode cX2_failAgainstArmies 30 = .ok (.aload_n 0, 1) := by decide +kernel
theorem dX2_failAgainstArmies_31 : decode cX2_failAgainstArmies 31 = .ok (.iload_n 3, 1) := by decide +kernel
theorem dX2_failAgainstArmies_32 : decode cX2_failAgainstArmies 32 = .ok (.invokevirtual 99, 3) := by decide +kernel
theorem dX2_failAgainstArmies_35 : decode cX2_failAgainstArmies 35 = .ok (.ifCond .eq 11, 3) := by decide +kernel
theorem dX2_failAgainstArmies_38 : decode cX2_failAgainstArmies 38 = .ok (.aload_n 0, 1) := by decide +kernel
theorem dX2_failAgainstArmies_39 : decode cX2_failAgainstArmies 39 = .ok (.iload_n 3, 1) := by decide +kernel
theorem dX2_failAgainstArmies_40 : decode cX2_failAgainstArmies 40 = .ok (.invokevirtual 102, 3) := by decide +kernel
theorem dX2_failAgainstArmies_43 : decode cX2_failAgainstArmies 43 = .ok (.goto 4, 3) := by decide +kernel
theorem dX2_failAgainstArmies_46 : decode cX2_failAgainstArmies 46 = .ok (.iconst 0, 1) := by decide +kernel
theorem dX2_failAgainstArmies_47 : decode cX2_failAgainstArmies 47 = .ok (.istore 4, 2) := by decide +kernel
theorem dX2_failAgainstArmies_49 : decode cX2_failAgainstArmies 49 = .ok (.iload 4, 2) := by decide +kernel
theorem dX2_failAgainstArmies_51 : decode cX2_failAgainstArmies 51 = .ok (.ifCond .eq 15, 3) := by decide +kernel
theorem dX2_failAgainstArmies_54 : decode cX2_failAgainstArmies 54 = .ok (.aload_n 0, 1) := by decide +kernel
theorem dX2_failAgainstArmies_55 : decode cX2_failAgainstArmies 55 = .ok (.getfield 28, 3) := by decide +kernel
theorem dX2_failAgainstArmies_58 : decode cX2_failAgainstArmies 58 = .ok (.iload_n 3, 1) := by decide +kernel
theorem dX2_failAgainstArmies_59 : decode cX2_failAgainstArmies 59 = .ok (.iload 4, 2) := by decide +kernel
theorem dX2_failAgainstArmies_61 : decode cX2_failAgainstArmies 61 = .ok (.invokestatic 76, 3) := by decide +kernel
theorem dX2_failAgainstArmies_64 : decode cX2_failAgainstArmies 64 = .ok (.iconst 1, 1) := by decide +kernel
theorem dX2_failAgainstArmies_65 : decode cX2_failAgainstArmies 65 = .ok (.istore_n 1, 1) := by decide +kernel
theorem dX2_failAgainstArmies_66 : decode cX2_failAgainstArmies 66 = .ok (.iinc 3 1, 3) := by decide +kernel
theorem dX2_failAgainstArmies_69 : decode cX2_failAgainstArmies 69 = .ok (.goto (-51), 3) := by decide +kernel
theorem dX2_failAgainstArmies_72 : decode cX2_failAgainstArmies 72 = .ok (.iinc 2 1, 3) := by decide +kernel
theorem dX2_failAgainstArmies_75 : decode cX2_failAgainstArmies 75 = .ok (.goto (-71), 3) := by decide +kernel
theorem dX2_failAgainstArmies_78 : decode cX2_failAgainstArmies 78 = .ok (.return_, 1) := by decide +kernel
set_option maxRecDepth 20000 in
theorem ggX2_moves_X0_of : GoodIn wsX2_moves wsX0_of := goodIn_r _ [6, 7, 16, 17, 18] (by decide +kernel) (by decide +kernel)
set_option maxRecDepth 20000 in
theorem gX2_moves_X0_of : GoodIn wsX2_moves (wsV RX2 65 RX0 yX0_of wsX0_of) := goodIn_app (goodIn_of _ (by decide +kernel)) ggX2_moves_X0_of
theorem dX2_moves_0 : decode cX2_moves 0 = .ok (.aload_n 0, 1) := by decide +kernel
theorem dX2_moves_1 : decode cX2_moves 1 = .ok (.getfield 12, 3) := by decide +kernel
theorem dX2_moves_4 : decode cX2_moves 4 = .ok (.iload_n 1, 1) := by decide +kernel
theorem dX2_moves_5 : decode cX2_moves 5 = .ok (.iconst 2, 1) := by decide +kernel
theorem dX2_moves_6 : decode cX2_moves 6 = .ok (.invokevirtual 65, 3) := by decide +kernel
theorem dX2_moves_9 : decode cX2_moves 9 = .ok (.iconst 1, 1) := by decide +kernel
theorem dX2_moves_10 : decode cX2_moves 10 = .ok (.if_icmp .ne 7, 3) := by decide +kernel
theorem dX2_moves_13 : decode cX2_moves 13 = .ok (.iconst 1, 1) := by decide +kernel
theorem dX2_moves_14 : decode cX2_moves 14 = .ok (.goto 4, 3) := by decide +kernel
theorem dX2_moves_17 : decode cX2_moves 17 = .ok (.iconst 0, 1) := by decide +kernel
theorem dX2_moves_18 : decode cX2_moves 18 = .ok (.ireturn, 1) := by decide +kernel
set_option maxRecDepth 20000 in
theorem ggX2_goes_X0_of : GoodIn wsX2_goes wsX0_of := goodIn_r _ [7, 8, 20, 21, 22] (by decide +kernel) (by decide +kernel)
set_option maxRecDepth 20000 in
theorem gX2_goes_X0_of : GoodIn wsX2_goes (wsV RX2 65 RX0 yX0_of wsX0_of) := goodIn_app (goodIn_of _ (by decide +kernel)) ggX2_goes_X0_of
set_option maxRecDepth 20000 in
theorem ggX2_goes_X4_entry : GoodIn wsX2_goes wsX4_entry := goodIn_r _ [11] (by decide +kernel) (by decide +kernel)
set_option maxRecDepth 20000 in
theorem gX2_goes_X4_entry_n89 : GoodIn wsX2_goes (wsX4_entry) := ggX2_goes_X4_entry
theorem dX2_goes_0 : decode cX2_goes 0 = .ok (.aload_n 0, 1) := by decide +kernel
theorem dX2_goes_1 : decode cX2_goes 1 = .ok (.getfield 12, 3) := by decide +kernel
theorem dX2_goes_4 : decode cX2_goes 4 = .ok (.iload_n 1, 1) := by decide +kernel
theorem dX2_goes_5 : decode cX2_goes 5 = .ok (.iconst 2, 1) := by decide +kernel
theorem dX2_goes_6 : decode cX2_goes 6 = .ok (.invokevirtual 65, 3) := by decide +kernel
theorem dX2_goes_9 : decode cX2_goes 9 = .ok (.iconst 1, 1) := by decide +kernel
theorem dX2_goes_10 : decode cX2_goes 10 = .ok (.if_icmp .ne 18, 3) := by decide +kernel
theorem dX2_goes_13 : decode cX2_goes 13 = .ok (.aload_n 0, 1) := by decide +kernel
theorem dX2_goes_14 : decode cX2_goes 14 = .ok (.getfield 28, 3) := by decide +kernel
theorem dX2_goes_17 : decode cX2_goes 17 = .ok (.iload_n 1, 1) := by decide +kernel
theorem dX2_goes_18 : decode cX2_goes 18 = .ok (.invokestatic 89, 3) := by decide +kernel
theorem dX2_goes_21 : decode cX2_goes 21 = .ok (.ifCond .ne 7, 3) := by decide +kernel
theorem dX2_goes_24 : decode cX2_goes 24 = .ok (.iconst 1, 1) := by decide +kernel
theorem dX2_goes_25 : decode cX2_goes 25 = .ok (.goto 4, 3) := by decide +kernel
theorem dX2_goes_28 : decode cX2_goes 28 = .ok (.iconst 0, 1) := by decide +kernel
theorem dX2_goes_29 : decode cX2_goes 29 = .ok (.ireturn, 1) := by decide +kernel
set_option maxRecDepth 20000 in
theorem ggX2_hasRival_X0_number : GoodIn wsX2_hasRival wsX0_number := goodIn_r _ [7, 8, 30, 31, 32] (by decide +kernel) (by decide +kernel)
set_option maxRecDepth 20000 in
theorem gX2_hasRival_X0_number : GoodIn wsX2_hasRival (wsV RX2 61 RX0 yX0_number wsX0_number) := goodIn_app (goodIn_of _ (by decide +kernel)) ggX2_hasRival_X0_number
set_option maxRecDepth 20000 in
theorem ggX2_hasRival_X2_moves : GoodIn wsX2_hasRival wsX2_moves := goodIn_r _ [13, 1, 14, 15, 16, 6, 17, 18, 22, 23, 24, 25, 26, 27, 28, 29, 30, 31, 32] (by decide +kernel) (by decide +kernel)
set_option maxRecDepth 20000 in
theorem gX2_hasRival_X2_moves : GoodIn wsX2_hasRival (wsV RX2 80 RX2 yX2_moves wsX2_moves) := goodIn_app (goodIn_of _ (by decide +kernel)) ggX2_hasRival_X2_moves
set_option maxRecDepth 20000 in
theorem ggX2_hasRival_X0_of : GoodIn wsX2_hasRival wsX0_of := goodIn_r _ [17, 18, 30, 31, 32] (by decide +kernel) (by decide +kernel)
set_option maxRecDepth 20000 in
theorem gX2_hasRival_X0_of : GoodIn wsX2_hasRival (wsV RX2 65 RX0 yX0_of wsX0_of) := goodIn_app (goodIn_of _ (by decide +kernel)) ggX2_hasRival_X0_of
set_option maxRecDepth 20000 in
theorem ggX2_hasRival_X4_entry : GoodIn wsX2_hasRival wsX4_entry := goodIn_r _ [21] (by decide +kernel) (by decide +kernel)
set_option maxRecDepth 20000 in
theorem gX2_hasRival_X4_entry_n89 : GoodIn wsX2_hasRival (wsX4_entry) := ggX2_hasRival_X4_entry
theorem dX2_hasRival_0 : decode cX2_hasRival 0 = .ok (.iconst 0, 1) := by decide +kernel
theorem dX2_hasRival_1 : decode cX2_hasRival 1 = .ok (.istore_n 2, 1) := by decide +kernel
theorem dX2_hasRival_2 : decode cX2_hasRival 2 = .ok (.iload_n 2, 1) := by decide +kernel
theorem dX2_hasRival_3 : decode cX2_hasRival 3 = .ok (.aload_n 0, 1) := by decide +kernel
theorem dX2_hasRival_4 : decode cX2_hasRival 4 = .ok (.getfield 12, 3) := by decide +kernel
theorem dX2_hasRival_7 : decode cX2_hasRival 7 = .ok (.iconst 0, 1) := by decide +kernel
theorem dX2_hasRival_8 : decode cX2_hasRival 8 = .ok (.invokevirtual 61, 3) := by decide +kernel
theorem dX2_hasRival_11 : decode cX2_hasRival 11 = .ok (.if_icmp .ge 64, 3) := by decide +kernel
theorem dX2_hasRival_14 : decode cX2_hasRival 14 = .ok (.iload_n 2, 1) := by decide +kernel
theorem dX2_hasRival_15 : decode cX2_hasRival 15 = .ok (.iload_n 1, 1) := by decide +kernel
theorem dX2_hasRival_16 : decode cX2_hasRival 16 = .ok (.if_icmp .eq 53, 3) := by decide +kernel
theorem dX2_hasRival_19 : decode cX2_hasRival 19 = .ok (.aload_n 0, 1) := by decide +kernel
theorem dX2_hasRival_20 : decode cX2_hasRival 20 = .ok (.iload_n 2, 1) := by decide +kernel
theorem dX2_hasRival_21 : decode cX2_hasRival 21 = .ok (.invokevirtual 80, 3) := by decide +kernel
theorem dX2_hasRival_24 : decode cX2_hasRival 24 = .ok (.ifCond .eq 45, 3) := by decide +kernel
theorem dX2_hasRival_27 : decode cX2_hasRival 27 = .ok (.aload_n 0, 1) := by decide +kernel
theorem dX2_hasRival_28 : decode cX2_hasRival 28 = .ok (.getfield 12, 3) := by decide +kernel
theorem dX2_hasRival_31 : decode cX2_hasRival 31 = .ok (.iload_n 2, 1) := by decide +kernel
theorem dX2_hasRival_32 : decode cX2_hasRival 32 = .ok (.iconst 3, 1) := by decide +kernel
theorem dX2_hasRival_33 : decode cX2_hasRival 33 = .ok (.invokevirtual 65, 3) := by decide +kernel
theorem dX2_hasRival_36 : decode cX2_hasRival 36 = .ok (.aload_n 0, 1) := by decide +kernel
theorem dX2_hasRival_37 : decode cX2_hasRival 37 = .ok (.getfield 12, 3) := by decide +kernel
theorem dX2_hasRival_40 : decode cX2_hasRival 40 = .ok (.iload_n 1, 1) := by decide +kernel
theorem dX2_hasRival_41 : decode cX2_hasRival 41 = .ok (.iconst 3, 1) := by decide +kernel
theorem dX2_hasRival_42 : decode cX2_hasRival 42 = .ok (.invokevirtual 65, 3) := by decide +kernel
theorem dX2_hasRival_45 : decode cX2_hasRival 45 = .ok (.if_icmp .ne 24, 3) := by decide +kernel
theorem dX2_hasRival_48 : decode cX2_hasRival 48 = .ok (.aload_n 0, 1) := by decide +kernel
theorem dX2_hasRival_49 : decode cX2_hasRival 49 = .ok (.getfield 25, 3) := by decide +kernel
theorem dX2_hasRival_52 : decode cX2_hasRival 52 = .ok (.iload_n 2, 1) := by decide +kernel
theorem dX2_hasRival_53 : decode cX2_hasRival 53 = .ok (.invokestatic 89, 3) := by decide +kernel
theorem dX2_hasRival_56 : decode cX2_hasRival 56 = .ok (.aload_n 0, 1) := by decide +kernel
theorem dX2_hasRival_57 : decode cX2_hasRival 57 = .ok (.getfield 25, 3) := by decide +kernel
theorem dX2_hasRival_60 : decode cX2_hasRival 60 = .ok (.iload_n 1, 1) := by decide +kernel
theorem dX2_hasRival_61 : decode cX2_hasRival 61 = .ok (.invokestatic 89, 3) := by decide +kernel
theorem dX2_hasRival_64 : decode cX2_hasRival 64 = .ok (.if_icmp .lt 5, 3) := by decide +kernel
theorem dX2_hasRival_67 : decode cX2_hasRival 67 = .ok (.iconst 1, 1) := by decide +kernel
theorem dX2_hasRival_68 : decode cX2_hasRival 68 = .ok (.ireturn, 1) := by decide +kernel
theorem dX2_hasRival_69 : decode cX2_hasRival 69 = .ok (.iinc 2 1, 3) := by decide +kernel
theorem dX2_hasRival_72 : decode cX2_hasRival 72 = .ok (.goto (-70), 3) := by decide +kernel
theorem dX2_hasRival_75 : decode cX2_hasRival 75 = .ok (.iconst 0, 1) := by decide +kernel
theorem dX2_hasRival_76 : decode cX2_hasRival 76 = .ok (.ireturn, 1) := by decide +kernel
set_option maxRecDepth 20000 in
theorem ggX2_losesSwap_X0_of : GoodIn wsX2_losesSwap wsX0_of := goodIn_r _ [7, 8, 35, 36, 37] (by decide +kernel) (by decide +kernel)
set_option maxRecDepth 20000 in
theorem gX2_losesSwap_X0_of : GoodIn wsX2_losesSwap (wsV RX2 65 RX0 yX0_of wsX0_of) := goodIn_app (goodIn_of _ (by decide +kernel)) ggX2_losesSwap_X0_of
set_option maxRecDepth 20000 in
theorem ggX2_losesSwap_X0_armyOn : GoodIn wsX2_losesSwap wsX0_armyOn := goodIn_r _ [12, 13, 14, 15, 6, 16, 17, 18, 4, 5, 7, 8, 35, 36, 37] (by decide +kernel) (by decide +kernel)
set_option maxRecDepth 20000 in
theorem gX2_losesSwap_X0_armyOn : GoodIn wsX2_losesSwap (wsV RX2 83 RX0 yX0_armyOn wsX0_armyOn) := goodIn_app (goodIn_of _ (by decide +kernel)) ggX2_losesSwap_X0_armyOn
set_option maxRecDepth 20000 in
theorem ggX2_losesSwap_X2_moves : GoodIn wsX2_losesSwap wsX2_moves := goodIn_r _ [23, 1, 3, 4, 5, 6, 7, 8, 27, 28, 29, 30, 31, 32, 33, 34, 35, 36, 37] (by decide +kernel) (by decide +kernel)
set_option maxRecDepth 20000 in
theorem gX2_losesSwap_X2_moves : GoodIn wsX2_losesSwap (wsV RX2 80 RX2 yX2_moves wsX2_moves) := goodIn_app (goodIn_of _ (by decide +kernel)) ggX2_losesSwap_X2_moves
set_option maxRecDepth 20000 in
theorem ggX2_losesSwap_X4_entry : GoodIn wsX2_losesSwap wsX4_entry := goodIn_r _ [26] (by decide +kernel) (by decide +kernel)
set_option maxRecDepth 20000 in
theorem gX2_losesSwap_X4_entry_n89 : GoodIn wsX2_losesSwap (wsX4_entry) := ggX2_losesSwap_X4_entry
theorem dX2_losesSwap_0 : decode cX2_losesSwap 0 = .ok (.aload_n 0, 1) := by decide +kernel
theorem dX2_losesSwap_1 : decode cX2_losesSwap 1 = .ok (.getfield 12, 3) := by decide +kernel
theorem dX2_losesSwap_4 : decode cX2_losesSwap 4 = .ok (.aload_n 0, 1) := by decide +kernel
theorem dX2_losesSwap_5 : decode cX2_losesSwap 5 = .ok (.getfield 12, 3) := by decide +kernel
theorem dX2_losesSwap_8 : decode cX2_losesSwap 8 = .ok (.iload_n 1, 1) := by decide +kernel
theorem dX2_losesSwap_9 : decode cX2_losesSwap 9 = .ok (.iconst 3, 1) := by decide +kernel
theorem dX2_losesSwap_10 : decode cX2_losesSwap 10 = .ok (.invokevirtual 65, 3) := by decide +kernel
theorem dX2_losesSwap_13 : decode cX2_losesSwap 13 = .ok (.invokevirtual 83, 3) := by decide +kernel
theorem dX2_losesSwap_16 : decode cX2_losesSwap 16 = .ok (.istore_n 2, 1) := by decide +kernel
theorem dX2_losesSwap_17 : decode cX2_losesSwap 17 = .ok (.iload_n 2, 1) := by decide +kernel
theorem dX2_losesSwap_18 : decode cX2_losesSwap 18 = .ok (.iconst (-1), 1) := by decide +kernel
theorem dX2_losesSwap_19 : decode cX2_losesSwap 19 = .ok (.if_icmp .eq 55, 3) := by decide +kernel
theorem dX2_losesSwap_22 : decode cX2_losesSwap 22 = .ok (.aload_n 0, 1) := by decide +kernel
theorem dX2_losesSwap_23 : decode cX2_losesSwap 23 = .ok (.iload_n 2, 1) := by decide +kernel
theorem dX2_losesSwap_24 : decode cX2_losesSwap 24 = .ok (.invokevirtual 80, 3) := by decide +kernel
theorem dX2_losesSwap_27 : decode cX2_losesSwap 27 = .ok (.ifCond .eq 47, 3) := by decide +kernel
theorem dX2_losesSwap_30 : decode cX2_losesSwap 30 = .ok (.aload_n 0, 1) := by decide +kernel
theorem dX2_losesSwap_31 : decode cX2_losesSwap 31 = .ok (.getfield 12, 3) := by decide +kernel
theorem dX2_losesSwap_34 : decode cX2_losesSwap 34 = .ok (.iload_n 2, 1) := by decide +kernel
theorem dX2_losesSwap_35 : decode cX2_losesSwap 35 = .ok (.iconst 3, 1) := by decide +kernel
theorem dX2_losesSwap_36 : decode cX2_losesSwap 36 = .ok (.invokevirtual 65, 3) := by decide +kernel
theorem dX2_losesSwap_39 : decode cX2_losesSwap 39 = .ok (.aload_n 0, 1) := by decide +kernel
theorem dX2_losesSwap_40 : decode cX2_losesSwap 40 = .ok (.getfield 12, 3) := by decide +kernel
theorem dX2_losesSwap_43 : decode cX2_losesSwap 43 = .ok (.iload_n 1, 1) := by decide +kernel
theorem dX2_losesSwap_44 : decode cX2_losesSwap 44 = .ok (.iconst 1, 1) := by decide +kernel
theorem dX2_losesSwap_45 : decode cX2_losesSwap 45 = .ok (.invokevirtual 65, 3) := by decide +kernel
theorem dX2_losesSwap_48 : decode cX2_losesSwap 48 = .ok (.if_icmp .ne 26, 3) := by decide +kernel
theorem dX2_losesSwap_51 : decode cX2_losesSwap 51 = .ok (.aload_n 0, 1) := by decide +kernel
theorem dX2_losesSwap_52 : decode cX2_losesSwap 52 = .ok (.getfield 25, 3) := by decide +kernel
theorem dX2_losesSwap_55 : decode cX2_losesSwap 55 = .ok (.iload_n 2, 1) := by decide +kernel
theorem dX2_losesSwap_56 : decode cX2_losesSwap 56 = .ok (.invokestatic 89, 3) := by decide +kernel
theorem dX2_losesSwap_59 : decode cX2_losesSwap 59 = .ok (.aload_n 0, 1) := by decide +kernel
theorem dX2_losesSwap_60 : decode cX2_losesSwap 60 = .ok (.getfield 25, 3) := by decide +kernel
theorem dX2_losesSwap_63 : decode cX2_losesSwap 63 = .ok (.iload_n 1, 1) := by decide +kernel
theorem dX2_losesSwap_64 : decode cX2_losesSwap 64 = .ok (.invokestatic 89, 3) := by decide +kernel
theorem dX2_losesSwap_67 : decode cX2_losesSwap 67 = .ok (.if_icmp .lt 7, 3) := by decide +kernel
theorem dX2_losesSwap_70 : decode cX2_losesSwap 70 = .ok (.iconst 1, 1) := by decide +kernel
theorem dX2_losesSwap_71 : decode cX2_losesSwap 71 = .ok (.goto 4, 3) := by decide +kernel
theorem dX2_losesSwap_74 : decode cX2_losesSwap 74 = .ok (.iconst 0, 1) := by decide +kernel
theorem dX2_losesSwap_75 : decode cX2_losesSwap 75 = .ok (.ireturn, 1) := by decide +kernel
set_option maxRecDepth 20000 in
theorem ggX2_blockOf_X0_of : GoodIn wsX2_blockOf wsX0_of := goodIn_r _ [7, 8, 40, 41, 42] (by decide +kernel) (by decide +kernel)
set_option maxRecDepth 20000 in
theorem gX2_blockOf_X0_of : GoodIn wsX2_blockOf (wsV RX2 65 RX0 yX0_of wsX0_of) := goodIn_app (goodIn_of _ (by decide +kernel)) ggX2_blockOf_X0_of
set_option maxRecDepth 20000 in
theorem ggX2_blockOf_X0_armyOn : GoodIn wsX2_blockOf wsX0_armyOn := goodIn_r _ [12, 13, 14, 15, 6, 16, 17, 18, 4, 5, 7, 8, 40, 41, 42] (by decide +kernel) (by decide +kernel)
set_option maxRecDepth 20000 in
theorem gX2_blockOf_X0_armyOn : GoodIn wsX2_blockOf (wsV RX2 83 RX0 yX0_armyOn wsX0_armyOn) := goodIn_app (goodIn_of _ (by decide +kernel)) ggX2_blockOf_X0_armyOn
set_option maxRecDepth 20000 in
theorem ggX2_blockOf_X2_goes : GoodIn wsX2_blockOf wsX2_goes := goodIn_r _ [23, 1, 24, 3, 4, 5, 6, 7, 8, 25, 26, 27, 32, 33, 34, 35, 36, 37, 38, 39, 40, 41, 42] (by decide +kernel) (by decide +kernel)
set_option maxRecDepth 20000 in
theorem gX2_blockOf_X2_goes : GoodIn wsX2_blockOf (wsV RX2 99 RX2 yX2_goes wsX2_goes) := goodIn_app (goodIn_of _ (by decide +kernel)) ggX2_blockOf_X2_goes
set_option maxRecDepth 20000 in
theorem ggX2_blockOf_X2_moves : GoodIn wsX2_blockOf wsX2_moves := goodIn_r _ [31, 1, 3, 4, 5, 6, 7, 8, 32, 33, 34, 35, 36, 37, 38, 39, 40, 41, 42] (by decide +kernel) (by decide +kernel)
set_option maxRecDepth 20000 in
theorem gX2_blockOf_X2_moves : GoodIn wsX2_blockOf (wsV RX2 80 RX2 yX2_moves wsX2_moves) := goodIn_app (goodIn_of _ (by decide +kernel)) ggX2_blockOf_X2_moves
set_option maxRecDepth 20000 in
theorem ggX2_blockOf_X4_entry : GoodIn wsX2_blockOf wsX4_entry := goodIn_r _ [27] (by decide +kernel) (by decide +kernel)
set_option maxRecDepth 20000 in
theorem gX2_blockOf_X4_entry_n89 : GoodIn wsX2_blockOf (wsX4_entry) := ggX2_blockOf_X4_entry
theorem dX2_blockOf_0 : decode cX2_blockOf 0 = .ok (.aload_n 0, 1) := by decide +kernel
theorem dX2_blockOf_1 : decode cX2_blockOf 1 = .ok (.getfield 12, 3) := by decide +kernel
theorem dX2_blockOf_4 : decode cX2_blockOf 4 = .ok (.aload_n 0, 1) := by decide +kernel
theorem dX2_blockOf_5 : decode cX2_blockOf 5 = .ok (.getfield 12, 3) := by decide +kernel
theorem dX2_blockOf_8 : decode cX2_blockOf 8 = .ok (.iload_n 1, 1) := by decide +kernel
theorem dX2_blockOf_9 : decode cX2_blockOf 9 = .ok (.iconst 3, 1) := by decide +kernel
theorem dX2_blockOf_10 : decode cX2_blockOf 10 = .ok (.invokevirtual 65, 3) := by decide +kernel
theorem dX2_blockOf_13 : decode cX2_blockOf 13 = .ok (.invokevirtual 83, 3) := by decide +kernel
theorem dX2_blockOf_16 : decode cX2_blockOf 16 = .ok (.istore_n 2, 1) := by decide +kernel
theorem dX2_blockOf_17 : decode cX2_blockOf 17 = .ok (.iload_n 2, 1) := by decide +kernel
theorem dX2_blockOf_18 : decode cX2_blockOf 18 = .ok (.iconst (-1), 1) := by decide +kernel
theorem dX2_blockOf_19 : decode cX2_blockOf 19 = .ok (.if_icmp .eq 11, 3) := by decide +kernel
theorem dX2_blockOf_22 : decode cX2_blockOf 22 = .ok (.aload_n 0, 1) := by decide +kernel
theorem dX2_blockOf_23 : decode cX2_blockOf 23 = .ok (.iload_n 2, 1) := by decide +kernel
theorem dX2_blockOf_24 : decode cX2_blockOf 24 = .ok (.invokevirtual 99, 3) := by decide +kernel
theorem dX2_blockOf_27 : decode cX2_blockOf 27 = .ok (.ifCond .eq 5, 3) := by decide +kernel
theorem dX2_blockOf_30 : decode cX2_blockOf 30 = .ok (.iconst 0, 1) := by decide +kernel
theorem dX2_blockOf_31 : decode cX2_blockOf 31 = .ok (.ireturn, 1) := by decide +kernel
theorem dX2_blockOf_32 : decode cX2_blockOf 32 = .ok (.aload_n 0, 1) := by decide +kernel
theorem dX2_blockOf_33 : decode cX2_blockOf 33 = .ok (.getfield 12, 3) := by decide +kernel
theorem dX2_blockOf_36 : decode cX2_blockOf 36 = .ok (.iload_n 2, 1) := by decide +kernel
theorem dX2_blockOf_37 : decode cX2_blockOf 37 = .ok (.iconst 0, 1) := by decide +kernel
theorem dX2_blockOf_38 : decode cX2_blockOf 38 = .ok (.invokevirtual 65, 3) := by decide +kernel
theorem dX2_blockOf_41 : decode cX2_blockOf 41 = .ok (.aload_n 0, 1) := by decide +kernel
theorem dX2_blockOf_42 : decode cX2_blockOf 42 = .ok (.getfield 12, 3) := by decide +kernel
theorem dX2_blockOf_45 : decode cX2_blockOf 45 = .ok (.iload_n 1, 1) := by decide +kernel
theorem dX2_blockOf_46 : decode cX2_blockOf 46 = .ok (.iconst 0, 1) := by decide +kernel
theorem dX2_blockOf_47 : decode cX2_blockOf 47 = .ok (.invokevirtual 65, 3) := by decide +kernel
theorem dX2_blockOf_50 : decode cX2_blockOf 50 = .ok (.if_icmp .ne 5, 3) := by decide +kernel
theorem dX2_blockOf_53 : decode cX2_blockOf 53 = .ok (.iconst 3, 1) := by decide +kernel
theorem dX2_blockOf_54 : decode cX2_blockOf 54 = .ok (.ireturn, 1) := by decide +kernel
theorem dX2_blockOf_55 : decode cX2_blockOf 55 = .ok (.aload_n 0, 1) := by decide +kernel
theorem dX2_blockOf_56 : decode cX2_blockOf 56 = .ok (.iload_n 2, 1) := by decide +kernel
theorem dX2_blockOf_57 : decode cX2_blockOf 57 = .ok (.invokevirtual 80, 3) := by decide +kernel
theorem dX2_blockOf_60 : decode cX2_blockOf 60 = .ok (.ifCond .eq 7, 3) := by decide +kernel
theorem dX2_blockOf_63 : decode cX2_blockOf 63 = .ok (.iconst 1, 1) := by decide +kernel
theorem dX2_blockOf_64 : decode cX2_blockOf 64 = .ok (.goto 11, 3) := by decide +kernel
theorem dX2_blockOf_67 : decode cX2_blockOf 67 = .ok (.aload_n 0, 1) := by decide +kernel
theorem dX2_blockOf_68 : decode cX2_blockOf 68 = .ok (.getfield 25, 3) := by decide +kernel
theorem dX2_blockOf_71 : decode cX2_blockOf 71 = .ok (.iload_n 2, 1) := by decide +kernel
theorem dX2_blockOf_72 : decode cX2_blockOf 72 = .ok (.invokestatic 89, 3) := by decide +kernel
theorem dX2_blockOf_75 : decode cX2_blockOf 75 = .ok (.istore_n 3, 1) := by decide +kernel
theorem dX2_blockOf_76 : decode cX2_blockOf 76 = .ok (.iload_n 3, 1) := by decide +kernel
theorem dX2_blockOf_77 : decode cX2_blockOf 77 = .ok (.aload_n 0, 1) := by decide +kernel
theorem dX2_blockOf_78 : decode cX2_blockOf 78 = .ok (.getfield 25, 3) := by decide +kernel
theorem dX2_blockOf_81 : decode cX2_blockOf 81 = .ok (.iload_n 1, 1) := by decide +kernel
theorem dX2_blockOf_82 : decode cX2_blockOf 82 = .ok (.invokestatic 89, 3) := by decide +kernel
theorem dX2_blockOf_85 : decode cX2_blockOf 85 = .ok (.if_icmp .lt 7, 3) := by decide +kernel
theorem dX2_blockOf_88 : decode cX2_blockOf 88 = .ok (.iconst 4, 1) := by decide +kernel
theorem dX2_blockOf_89 : decode cX2_blockOf 89 = .ok (.goto 4, 3) := by decide +kernel
theorem dX2_blockOf_92 : decode cX2_blockOf 92 = .ok (.iconst 0, 1) := by decide +kernel
theorem dX2_blockOf_93 : decode cX2_blockOf 93 = .ok (.ireturn, 1) := by decide +kernel
set_option maxRecDepth 20000 in
theorem ggX2_comeToFields_X0_number : GoodIn wsX2_comeToFields wsX0_number := goodIn_r _ [9, 10, 39, 40, 41] (by decide +kernel) (by decide +kernel)
set_option maxRecDepth 20000 in
theorem gX2_comeToFields_X0_number : GoodIn wsX2_comeToFields (wsV RX2 61 RX0 yX0_number wsX0_number) := goodIn_app (goodIn_of _ (by decide +kernel)) ggX2_comeToFields_X0_number
set_option maxRecDepth 20000 in
theorem ggX2_comeToFields_X2_goes : GoodIn wsX2_comeToFields wsX2_goes := goodIn_r _ [15, 1, 16, 17, 18, 19, 8, 20, 21, 22, 23, 24, 31, 32, 33, 34, 35, 36, 37, 38, 39, 40, 41] (by decide +kernel) (by decide +kernel)
set_option maxRecDepth 20000 in
theorem gX2_comeToFields_X2_goes : GoodIn wsX2_comeToFields (wsV RX2 99 RX2 yX2_goes wsX2_goes) := goodIn_app (goodIn_of _ (by decide +kernel)) ggX2_comeToFields_X2_goes
set_option maxRecDepth 20000 in
theorem ggX2_comeToFields_X0_of : GoodIn wsX2_comeToFields wsX0_of := goodIn_r _ [20, 21, 39, 40, 41] (by decide +kernel) (by decide +kernel)
set_option maxRecDepth 20000 in
theorem gX2_comeToFields_X0_of : GoodIn wsX2_comeToFields (wsV RX2 65 RX0 yX0_of wsX0_of) := goodIn_app (goodIn_of _ (by decide +kernel)) ggX2_comeToFields_X0_of
set_option maxRecDepth 20000 in
theorem ggX2_comeToFields_X2_comerTo : GoodIn wsX2_comeToFields wsX2_comerTo := goodIn_r _ [28, 1, 5, 6, 7, 8, 9, 10, 11, 12, 13, 14, 15, 16, 17, 18, 19, 20, 21, 22, 23, 24, 31, 32, 33, 34, 35, 36, 37, 38, 39, 40, 41] (by decide +kernel) (by decide +kernel)
set_option maxRecDepth 20000 in
theorem gX2_comeToFields_X2_comerTo : GoodIn wsX2_comeToFields (wsV RX2 105 RX2 yX2_comerTo wsX2_comerTo) := goodIn_app (goodIn_of _ (by decide +kernel)) ggX2_comeToFields_X2_comerTo
set_option maxRecDepth 20000 in
theorem ggX2_comeToFields_X4_enter : GoodIn wsX2_comeToFields wsX4_enter := goodIn_r _ [30] (by decide +kernel) (by decide +kernel)
set_option maxRecDepth 20000 in
theorem gX2_comeToFields_X4_enter_n76 : GoodIn wsX2_comeToFields (wsX4_enter) := ggX2_comeToFields_X4_enter
theorem dX2_comeToFields_0 : decode cX2_comeToFields 0 = .ok (.iconst 0, 1) := by decide +kernel
theorem dX2_comeToFields_1 : decode cX2_comeToFields 1 = .ok (.istore_n 1, 1) := by decide +kernel
theorem dX2_comeToFields_2 : decode cX2_comeToFields 2 = .ok (.iload_n 1, 1) := by decide +kernel
theorem dX2_comeToFields_3 : decode cX2_comeToFields 3 = .ok (.aload_n 0, 1) := by decide +kernel
theorem dX2_comeToFields_4 : decode cX2_comeToFields 4 = .ok (.getfield 12, 3) := by decide +kernel
theorem dX2_comeToFields_7 : decode cX2_comeToFields 7 = .ok (.iconst 0, 1) := by decide +kernel
theorem dX2_comeToFields_8 : decode cX2_comeToFields 8 = .ok (.invokevirtual 61, 3) := by decide +kernel
theorem dX2_comeToFields_11 : decode cX2_comeToFields 11 = .ok (.if_icmp .ge 110, 3) := by decide +kernel
theorem dX2_comeToFields_14 : decode cX2_comeToFields 14 = .ok (.aload_n 0, 1) := by decide +kernel
theorem dX2_comeToFields_15 : decode cX2_comeToFields 15 = .ok (.iload_n 1, 1) := by decide +kernel
theorem dX2_comeToFields_16 : decode cX2_comeToFields 16 = .ok (.invokevirtual 99, 3) := by decide +kernel
theorem dX2_comeToFields_19 : decode cX2_comeToFields 19 = .ok (.ifCond .eq 7, 3) := by decide +kernel
theorem dX2_comeToFields_22 : decode cX2_comeToFields 22 = .ok (.iconst (-1), 1) := by decide +kernel
theorem dX2_comeToFields_23 : decode cX2_comeToFields 23 = .ok (.goto 16, 3) := by decide +kernel
theorem dX2_comeToFields_26 : decode cX2_comeToFields 26 = .ok (.aload_n 0, 1) := by decide +kernel
theorem dX2_comeToFields_27 : decode cX2_comeToFields 27 = .ok (.aload_n 0, 1) := by decide +kernel
theorem dX2_comeToFields_28 : decode cX2_comeToFields 28 = .ok (.getfield 12, 3) := by decide +kernel
theorem dX2_comeToFields_31 : decode cX2_comeToFields 31 = .ok (.iload_n 1, 1) := by decide +kernel
theorem dX2_comeToFields_32 : decode cX2_comeToFields 32 = .ok (.iconst 1, 1) := by decide +kernel
theorem dX2_comeToFields_33 : decode cX2_comeToFields 33 = .ok (.invokevirtual 65, 3) := by decide +kernel
theorem dX2_comeToFields_36 : decode cX2_comeToFields 36 = .ok (.invokevirtual 105, 3) := by decide +kernel
theorem dX2_comeToFields_39 : decode cX2_comeToFields 39 = .ok (.istore_n 2, 1) := by decide +kernel
theorem dX2_comeToFields_40 : decode cX2_comeToFields 40 = .ok (.aload_n 0, 1) := by decide +kernel
theorem dX2_comeToFields_41 : decode cX2_comeToFields 41 = .ok (.getfield 31, 3) := by decide +kernel
theorem dX2_comeToFields_44 : decode cX2_comeToFields 44 = .ok (.iload_n 1, 1) := by decide +kernel
theorem dX2_comeToFields_45 : decode cX2_comeToFields 45 = .ok (.iload_n 2, 1) := by decide +kernel
theorem dX2_comeToFields_46 : decode cX2_comeToFields 46 = .ok (.invokestatic 76, 3) := by decide +kernel
theorem dX2_comeToFields_49 : decode cX2_comeToFields 49 = .ok (.aload_n 0, 1) := by decide +kernel
theorem dX2_comeToFields_50 : decode cX2_comeToFields 50 = .ok (.getfield 34, 3) := by decide +kernel
theorem dX2_comeToFields_53 : decode cX2_comeToFields 53 = .ok (.iload_n 1, 1) := by decide +kernel
theorem dX2_comeToFields_54 : decode cX2_comeToFields 54 = .ok (.iload_n 2, 1) := by decide +kernel
theorem dX2_comeToFields_55 : decode cX2_comeToFields 55 = .ok (.iconst (-1), 1) := by decide +kernel
theorem dX2_comeToFields_56 : decode cX2_comeToFields 56 = .ok (.if_icmp .ne 7, 3) := by decide +kernel
theorem dX2_comeToFields_59 : decode cX2_comeToFields 59 = .ok (.iconst 0, 1) := by decide +kernel
theorem dX2_comeToFields_60 : decode cX2_comeToFields 60 = .ok (.goto 4, 3) := by decide +kernel
theorem dX2_comeToFields_63 : decode cX2_comeToFields 63 = .ok (.iconst 1, 1) := by decide +kernel
theorem dX2_comeToFields_64 : decode cX2_comeToFields 64 = .ok (.invokestatic 76, 3) := by decide +kernel
theorem dX2_comeToFields_67 : decode cX2_comeToFields 67 = .ok (.aload_n 0, 1) := by decide +kernel
theorem dX2_comeToFields_68 : decode cX2_comeToFields 68 = .ok (.iload_n 1, 1) := by decide +kernel
theorem dX2_comeToFields_69 : decode cX2_comeToFields 69 = .ok (.invokevirtual 99, 3) := by decide +kernel
theorem dX2_comeToFields_72 : decode cX2_comeToFields 72 = .ok (.ifCond .eq 15, 3) := by decide +kernel
theorem dX2_comeToFields_75 : decode cX2_comeToFields 75 = .ok (.aload_n 0, 1) := by decide +kernel
theorem dX2_comeToFields_76 : decode cX2_comeToFields 76 = .ok (.getfield 12, 3) := by decide +kernel
theorem dX2_comeToFields_79 : decode cX2_comeToFields 79 = .ok (.iload_n 1, 1) := by decide +kernel
theorem dX2_comeToFields_80 : decode cX2_comeToFields 80 = .ok (.iconst 3, 1) := by decide +kernel
theorem dX2_comeToFields_81 : decode cX2_comeToFields 81 = .ok (.invokevirtual 65, 3) := by decide +kernel
theorem dX2_comeToFields_84 : decode cX2_comeToFields 84 = .ok (.goto 12, 3) := by decide +kernel
theorem dX2_comeToFields_87 : decode cX2_comeToFields 87 = .ok (.aload_n 0, 1) := by decide +kernel
theorem dX2_comeToFields_88 : decode cX2_comeToFields 88 = .ok (.getfield 12, 3) := by decide +kernel
theorem dX2_comeToFields_91 : decode cX2_comeToFields 91 = .ok (.iload_n 1, 1) := by decide +kernel
theorem dX2_comeToFields_92 : decode cX2_comeToFields 92 = .ok (.iconst 1, 1) := by decide +kernel
theorem dX2_comeToFields_93 : decode cX2_comeToFields 93 = .ok (.invokevirtual 65, 3) := by decide +kernel
theorem dX2_comeToFields_96 : decode cX2_comeToFields 96 = .ok (.istore_n 3, 1) := by decide +kernel
theorem dX2_comeToFields_97 : decode cX2_comeToFields 97 = .ok (.aload_n 0, 1) := by decide +kernel
theorem dX2_comeToFields_98 : decode cX2_comeToFields 98 = .ok (.getfield 37, 3) := by decide +kernel
theorem dX2_comeToFields_101 : decode cX2_comeToFields 101 = .ok (.iload_n 1, 1) := by decide +kernel
theorem dX2_comeToFields_102 : decode cX2_comeToFields 102 = .ok (.iload_n 2, 1) := by decide +kernel
theorem dX2_comeToFields_103 : decode cX2_comeToFields 103 = .ok (.iconst (-1), 1) := by decide +kernel
theorem dX2_comeToFields_104 : decode cX2_comeToFields 104 = .ok (.if_icmp .ne 7, 3) := by decide +kernel
theorem dX2_comeToFields_107 : decode cX2_comeToFields 107 = .ok (.iload_n 3, 1) := by decide +kernel
theorem dX2_comeToFields_108 : decode cX2_comeToFields 108 = .ok (.goto 4, 3) := by decide +kernel
theorem dX2_comeToFields_111 : decode cX2_comeToFields 111 = .ok (.iconst (-1), 1) := by decide +kernel
theorem dX2_comeToFields_112 : decode cX2_comeToFields 112 = .ok (.invokestatic 76, 3) := by decide +kernel
theorem dX2_comeToFields_115 : decode cX2_comeToFields 115 = .ok (.iinc 1 1, 3) := by decide +kernel
theorem dX2_comeToFields_118 : decode cX2_comeToFields 118 = .ok (.goto (-116), 3) := by decide +kernel
theorem dX2_comeToFields_121 : decode cX2_comeToFields 121 = .ok (.return_, 1) := by decide +kernel
set_option maxRecDepth 20000 in
theorem ggX2_comerTo_X0_number : GoodIn wsX2_comerTo wsX0_number := goodIn_r _ [6, 7, 30, 31, 32] (by decide +kernel) (by decide +kernel)
set_option maxRecDepth 20000 in
theorem gX2_comerTo_X0_number : GoodIn wsX2_comerTo (wsV RX2 61 RX0 yX0_number wsX0_number) := goodIn_app (goodIn_of _ (by decide +kernel)) ggX2_comerTo_X0_number
set_option maxRecDepth 20000 in
theorem ggX2_comerTo_X2_goes : GoodIn wsX2_comerTo wsX2_goes := goodIn_r _ [12, 1, 13, 14, 15, 16, 5, 17, 18, 19, 20, 21, 22, 23, 24, 25, 26, 27, 28, 29, 30, 31, 32] (by decide +kernel) (by decide +kernel)
set_option maxRecDepth 20000 in
theorem gX2_comerTo_X2_goes : GoodIn wsX2_comerTo (wsV RX2 99 RX2 yX2_goes wsX2_goes) := goodIn_app (goodIn_of _ (by decide +kernel)) ggX2_comerTo_X2_goes
set_option maxRecDepth 20000 in
theorem ggX2_comerTo_X0_of : GoodIn wsX2_comerTo wsX0_of := goodIn_r _ [17, 18, 30, 31, 32] (by decide +kernel) (by decide +kernel)
set_option maxRecDepth 20000 in
theorem gX2_comerTo_X0_of : GoodIn wsX2_comerTo (wsV RX2 65 RX0 yX0_of wsX0_of) := goodIn_app (goodIn_of _ (by decide +kernel)) ggX2_comerTo_X0_of
theorem dX2_comerTo_0 : decode cX2_comerTo 0 = .ok (.iconst 0, 1) := by decide +kernel
theorem dX2_comerTo_1 : decode cX2_comerTo 1 = .ok (.istore_n 2, 1) := by decide +kernel
theorem dX2_comerTo_2 : decode cX2_comerTo 2 = .ok (.iload_n 2, 1) := by decide +kernel
theorem dX2_comerTo_3 : decode cX2_comerTo 3 = .ok (.aload_n 0, 1) := by decide +kernel
theorem dX2_comerTo_4 : decode cX2_comerTo 4 = .ok (.getfield 12, 3) := by decide +kernel
theorem dX2_comerTo_7 : decode cX2_comerTo 7 = .ok (.iconst 0, 1) := by decide +kernel
theorem dX2_comerTo_8 : decode cX2_comerTo 8 = .ok (.invokevirtual 61, 3) := by decide +kernel
theorem dX2_comerTo_11 : decode cX2_comerTo 11 = .ok (.if_icmp .ge 32, 3) := by decide +kernel
theorem dX2_comerTo_14 : decode cX2_comerTo 14 = .ok (.aload_n 0, 1) := by decide +kernel
theorem dX2_comerTo_15 : decode cX2_comerTo 15 = .ok (.iload_n 2, 1) := by decide +kernel
theorem dX2_comerTo_16 : decode cX2_comerTo 16 = .ok (.invokevirtual 99, 3) := by decide +kernel
theorem dX2_comerTo_19 : decode cX2_comerTo 19 = .ok (.ifCond .eq 18, 3) := by decide +kernel
theorem dX2_comerTo_22 : decode cX2_comerTo 22 = .ok (.aload_n 0, 1) := by decide +kernel
theorem dX2_comerTo_23 : decode cX2_comerTo 23 = .ok (.getfield 12, 3) := by decide +kernel
theorem dX2_comerTo_26 : decode cX2_comerTo 26 = .ok (.iload_n 2, 1) := by decide +kernel
theorem dX2_comerTo_27 : decode cX2_comerTo 27 = .ok (.iconst 3, 1) := by decide +kernel
theorem dX2_comerTo_28 : decode cX2_comerTo 28 = .ok (.invokevirtual 65, 3) := by decide +kernel
theorem dX2_comerTo_31 : decode cX2_comerTo 31 = .ok (.iload_n 1, 1) := by decide +kernel
theorem dX2_comerTo_32 : decode cX2_comerTo 32 = .ok (.if_icmp .ne 5, 3) := by decide +kernel
theorem dX2_comerTo_35 : decode cX2_comerTo 35 = .ok (.iload_n 2, 1) := by decide +kernel
theorem dX2_comerTo_36 : decode cX2_comerTo 36 = .ok (.ireturn, 1) := by decide +kernel
theorem dX2_comerTo_37 : decode cX2_comerTo 37 = .ok (.iinc 2 1, 3) := by decide +kernel
theorem dX2_comerTo_40 : decode cX2_comerTo 40 = .ok (.goto (-38), 3) := by decide +kernel
theorem dX2_comerTo_43 : decode cX2_comerTo 43 = .ok (.iconst (-1), 1) := by decide +kernel
theorem dX2_comerTo_44 : decode cX2_comerTo 44 = .ok (.ireturn, 1) := by decide +kernel
set_option maxRecDepth 20000 in
theorem ggX2_retreatAll_X0_number : GoodIn wsX2_retreatAll wsX0_number := goodIn_r _ [8, 9, 50, 51, 52] (by decide +kernel) (by decide +kernel)
set_option maxRecDepth 20000 in
theorem gX2_retreatAll_X0_number : GoodIn wsX2_retreatAll (wsV RX2 61 RX0 yX0_number wsX0_number) := goodIn_app (goodIn_of _ (by decide +kernel)) ggX2_retreatAll_X0_number
set_option maxRecDepth 20000 in
theorem ggX2_retreatAll_X2_strongestDriven : GoodIn wsX2_retreatAll wsX2_strongestDriven := goodIn_r _ [14, 1, 15, 3, 16, 4, 5, 6, 7, 8, 9, 17, 18, 19, 42, 43, 44, 45, 46, 47, 48, 49, 50, 51, 52] (by decide +kernel) (by decide +kernel)
set_option maxRecDepth 20000 in
theorem gX2_retreatAll_X2_strongestDriven : GoodIn wsX2_retreatAll (wsV RX2 108 RX2 yX2_strongestDriven wsX2_strongestDriven) := goodIn_app (goodIn_of _ (by decide +kernel)) ggX2_retreatAll_X2_strongestDriven
set_option maxRecDepth 20000 in
theorem ggX2_retreatAll_X2_retreatField : GoodIn wsX2_retreatAll wsX2_retreatField := goodIn_r _ [23, 1, 15, 17, 18, 19, 24, 25, 26, 7, 27, 28, 29, 30, 31, 32, 33, 13, 34, 2, 4, 5, 6, 8, 9, 35, 36, 37, 38, 39, 42, 43, 44, 45, 46, 47, 48, 49, 50, 51, 52] (by decide +kernel) (by decide +kernel)
set_option maxRecDepth 20000 in
theorem gX2_retreatAll_X2_retreatField : GoodIn wsX2_retreatAll (wsV RX2 112 RX2 yX2_retreatField wsX2_retreatField) := goodIn_app (goodIn_of _ (by decide +kernel)) ggX2_retreatAll_X2_retreatField
set_option maxRecDepth 20000 in
theorem ggX2_retreatAll_X4_enter : GoodIn wsX2_retreatAll wsX4_enter := goodIn_r _ [41] (by decide +kernel) (by decide +kernel)
set_option maxRecDepth 20000 in
theorem gX2_retreatAll_X4_enter_n76 : GoodIn wsX2_retreatAll (wsX4_enter) := ggX2_retreatAll_X4_enter
theorem dX2_retreatAll_0 : decode cX2_retreatAll 0 = .ok (.iconst 0, 1) := by decide +kernel
theorem dX2_retreatAll_1 : decode cX2_retreatAll 1 = .ok (.istore_n 1, 1) := by decide +kernel
theorem dX2_retreatAll_2 : decode cX2_retreatAll 2 = .ok (.iload_n 1, 1) := by decide +kernel
theorem dX2_retreatAll_3 : decode cX2_retreatAll 3 = .ok (.aload_n 0, 1) := by decide +kernel
theorem dX2_retreatAll_4 : decode cX2_retreatAll 4 = .ok (.getfield 12, 3) := by decide +kernel
theorem dX2_retreatAll_7 : decode cX2_retreatAll 7 = .ok (.iconst 0, 1) := by decide +kernel
theorem dX2_retreatAll_8 : decode cX2_retreatAll 8 = .ok (.invokevirtual 61, 3) := by decide +kernel
theorem dX2_retreatAll_11 : decode cX2_retreatAll 11 = .ok (.if_icmp .ge 43, 3) := by decide +kernel
theorem dX2_retreatAll_14 : decode cX2_retreatAll 14 = .ok (.aload_n 0, 1) := by decide +kernel
theorem dX2_retreatAll_15 : decode cX2_retreatAll 15 = .ok (.iconst 1, 1) := by decide +kernel
theorem dX2_retreatAll_16 : decode cX2_retreatAll 16 = .ok (.invokevirtual 108, 3) := by decide +kernel
theorem dX2_retreatAll_19 : decode cX2_retreatAll 19 = .ok (.istore_n 2, 1) := by decide +kernel
theorem dX2_retreatAll_20 : decode cX2_retreatAll 20 = .ok (.iload_n 2, 1) := by decide +kernel
theorem dX2_retreatAll_21 : decode cX2_retreatAll 21 = .ok (.iconst (-1), 1) := by decide +kernel
theorem dX2_retreatAll_22 : decode cX2_retreatAll 22 = .ok (.if_icmp .ne 4, 3) := by decide +kernel
theorem dX2_retreatAll_25 : decode cX2_retreatAll 25 = .ok (.return_, 1) := by decide +kernel
theorem dX2_retreatAll_26 : decode cX2_retreatAll 26 = .ok (.aload_n 0, 1) := by decide +kernel
theorem dX2_retreatAll_27 : decode cX2_retreatAll 27 = .ok (.getfield 37, 3) := by decide +kernel
theorem dX2_retreatAll_30 : decode cX2_retreatAll 30 = .ok (.iload_n 2, 1) := by decide +kernel
theorem dX2_retreatAll_31 : decode cX2_retreatAll 31 = .ok (.aload_n 0, 1) := by decide +kernel
theorem dX2_retreatAll_32 : decode cX2_retreatAll 32 = .ok (.iload_n 2, 1) := by decide +kernel
theorem dX2_retreatAll_33 : decode cX2_retreatAll 33 = .ok (.invokevirtual 112, 3) := by decide +kernel
theorem dX2_retreatAll_36 : decode cX2_retreatAll 36 = .ok (.invokestatic 76, 3) := by decide +kernel
theorem dX2_retreatAll_39 : decode cX2_retreatAll 39 = .ok (.aload_n 0, 1) := by decide +kernel
theorem dX2_retreatAll_40 : decode cX2_retreatAll 40 = .ok (.getfield 34, 3) := by decide +kernel
theorem dX2_retreatAll_43 : decode cX2_retreatAll 43 = .ok (.iload_n 2, 1) := by decide +kernel
theorem dX2_retreatAll_44 : decode cX2_retreatAll 44 = .ok (.iconst 0, 1) := by decide +kernel
theorem dX2_retreatAll_45 : decode cX2_retreatAll 45 = .ok (.invokestatic 76, 3) := by decide +kernel
theorem dX2_retreatAll_48 : decode cX2_retreatAll 48 = .ok (.iinc 1 1, 3) := by decide +kernel
theorem dX2_retreatAll_51 : decode cX2_retreatAll 51 = .ok (.goto (-49), 3) := by decide +kernel
theorem dX2_retreatAll_54 : decode cX2_retreatAll 54 = .ok (.return_, 1) := by decide +kernel
set_option maxRecDepth 20000 in
theorem ggX2_strongestDriven_X0_number : GoodIn wsX2_strongestDriven wsX0_number := goodIn_r _ [9, 10, 22, 23, 24] (by decide +kernel) (by decide +kernel)
