theorem dX5_layOpening_125 : decode cX5_layOpening 125 = .ok (.if_icmp .eq 29, 3) := by decide +kernel
theorem dX5_layOpening_128 : decode cX5_layOpening 128 = .ok (.aload_n 0, 1) := by decide +kernel
theorem dX5_layOpening_129 : decode cX5_layOpening 129 = .ok (.getfield 44, 3) := by decide +kernel
theorem dX5_layOpening_132 : decode cX5_layOpening 132 = .ok (.iload_n 1, 1) := by decide +kernel
theorem dX5_layOpening_133 : decode cX5_layOpening 133 = .ok (.aload_n 0, 1) := by decide +kernel
theorem dX5_layOpening_134 : decode cX5_layOpening 134 = .ok (.iload_n 1, 1) := by decide +kernel
theorem dX5_layOpening_135 : decode cX5_layOpening 135 = .ok (.invokevirtual 108, 3) := by decide +kernel
theorem dX5_layOpening_138 : decode cX5_layOpening 138 = .ok (.iastore, 1) := by decide +kernel
theorem dX5_layOpening_139 : decode cX5_layOpening 139 = .ok (.aload_n 0, 1) := by decide +kernel
theorem dX5_layOpening_140 : decode cX5_layOpening 140 = .ok (.getfield 47, 3) := by decide +kernel
theorem dX5_layOpening_143 : decode cX5_layOpening 143 = .ok (.iload_n 1, 1) := by decide +kernel
theorem dX5_layOpening_144 : decode cX5_layOpening 144 = .ok (.iconst 1, 1) := by decide +kernel
theorem dX5_layOpening_145 : decode cX5_layOpening 145 = .ok (.bastore, 1) := by decide +kernel
theorem dX5_layOpening_146 : decode cX5_layOpening 146 = .ok (.aload_n 0, 1) := by decide +kernel
theorem dX5_layOpening_147 : decode cX5_layOpening 147 = .ok (.invokevirtual 104, 3) := by decide +kernel
theorem dX5_layOpening_150 : decode cX5_layOpening 150 = .ok (.istore_n 1, 1) := by decide +kernel
theorem dX5_layOpening_151 : decode cX5_layOpening 151 = .ok (.goto (-28), 3) := by decide +kernel
theorem dX5_layOpening_154 : decode cX5_layOpening 154 = .ok (.return_, 1) := by decide +kernel
set_option maxRecDepth 20000 in
theorem ggX5_goes_X5_at : GoodIn wsX5_goes wsX5_at := goodIn_r _ [5] (by decide +kernel) (by decide +kernel)
set_option maxRecDepth 20000 in
theorem gX5_goes_X5_at : GoodIn wsX5_goes (va_wsS RX5 58 yX5_at wsX5_at) := goodIn_app (goodIn_of _ (by decide +kernel)) ggX5_goes_X5_at
theorem dX5_goes_0 : decode cX5_goes 0 = .ok (.aload_n 0, 1) := by decide +kernel
theorem dX5_goes_1 : decode cX5_goes 1 = .ok (.getfield 7, 3) := by decide +kernel
theorem dX5_goes_4 : decode cX5_goes 4 = .ok (.bipush 9, 2) := by decide +kernel
theorem dX5_goes_6 : decode cX5_goes 6 = .ok (.dup2, 1) := by decide +kernel
theorem dX5_goes_7 : decode cX5_goes 7 = .ok (.iaload, 1) := by decide +kernel
theorem dX5_goes_8 : decode cX5_goes 8 = .ok (.iconst 1, 1) := by decide +kernel
theorem dX5_goes_9 : decode cX5_goes 9 = .ok (.isub, 1) := by decide +kernel
theorem dX5_goes_10 : decode cX5_goes 10 = .ok (.iastore, 1) := by decide +kernel
theorem dX5_goes_11 : decode cX5_goes 11 = .ok (.iload_n 1, 1) := by decide +kernel
theorem dX5_goes_12 : decode cX5_goes 12 = .ok (.iconst 0, 1) := by decide +kernel
theorem dX5_goes_13 : decode cX5_goes 13 = .ok (.invokestatic 58, 3) := by decide +kernel
theorem dX5_goes_16 : decode cX5_goes 16 = .ok (.istore_n 2, 1) := by decide +kernel
theorem dX5_goes_17 : decode cX5_goes 17 = .ok (.iload_n 2, 1) := by decide +kernel
theorem dX5_goes_18 : decode cX5_goes 18 = .ok (.aload_n 0, 1) := by decide +kernel
theorem dX5_goes_19 : decode cX5_goes 19 = .ok (.getfield 7, 3) := by decide +kernel
theorem dX5_goes_22 : decode cX5_goes 22 = .ok (.bipush 9, 2) := by decide +kernel
theorem dX5_goes_24 : decode cX5_goes 24 = .ok (.iaload, 1) := by decide +kernel
theorem dX5_goes_25 : decode cX5_goes 25 = .ok (.iconst 0, 1) := by decide +kernel
theorem dX5_goes_26 : decode cX5_goes 26 = .ok (.invokestatic 58, 3) := by decide +kernel
theorem dX5_goes_29 : decode cX5_goes 29 = .ok (.if_icmp .ge 24, 3) := by decide +kernel
theorem dX5_goes_32 : decode cX5_goes 32 = .ok (.aload_n 0, 1) := by decide +kernel
theorem dX5_goes_33 : decode cX5_goes 33 = .ok (.getfield 7, 3) := by decide +kernel
theorem dX5_goes_36 : decode cX5_goes 36 = .ok (.iload_n 2, 1) := by decide +kernel
theorem dX5_goes_37 : decode cX5_goes 37 = .ok (.aload_n 0, 1) := by decide +kernel
theorem dX5_goes_38 : decode cX5_goes 38 = .ok (.getfield 7, 3) := by decide +kernel
theorem dX5_goes_41 : decode cX5_goes 41 = .ok (.iload_n 2, 1) := by decide +kernel
theorem dX5_goes_42 : decode cX5_goes 42 = .ok (.bipush 7, 2) := by decide +kernel
theorem dX5_goes_44 : decode cX5_goes 44 = .ok (.iadd, 1) := by decide +kernel
theorem dX5_goes_45 : decode cX5_goes 45 = .ok (.iaload, 1) := by decide +kernel
theorem dX5_goes_46 : decode cX5_goes 46 = .ok (.iastore, 1) := by decide +kernel
theorem dX5_goes_47 : decode cX5_goes 47 = .ok (.iinc 2 1, 3) := by decide +kernel
theorem dX5_goes_50 : decode cX5_goes 50 = .ok (.goto (-33), 3) := by decide +kernel
theorem dX5_goes_53 : decode cX5_goes 53 = .ok (.iconst 0, 1) := by decide +kernel
theorem dX5_goes_54 : decode cX5_goes 54 = .ok (.istore_n 2, 1) := by decide +kernel
theorem dX5_goes_55 : decode cX5_goes 55 = .ok (.iload_n 2, 1) := by decide +kernel
theorem dX5_goes_56 : decode cX5_goes 56 = .ok (.bipush 7, 2) := by decide +kernel
theorem dX5_goes_58 : decode cX5_goes 58 = .ok (.if_icmp .ge 26, 3) := by decide +kernel
theorem dX5_goes_61 : decode cX5_goes 61 = .ok (.aload_n 0, 1) := by decide +kernel
theorem dX5_goes_62 : decode cX5_goes 62 = .ok (.getfield 7, 3) := by decide +kernel
theorem dX5_goes_65 : decode cX5_goes 65 = .ok (.aload_n 0, 1) := by decide +kernel
theorem dX5_goes_66 : decode cX5_goes 66 = .ok (.getfield 7, 3) := by decide +kernel
theorem dX5_goes_69 : decode cX5_goes 69 = .ok (.bipush 9, 2) := by decide +kernel
theorem dX5_goes_71 : decode cX5_goes 71 = .ok (.iaload, 1) := by decide +kernel
theorem dX5_goes_72 : decode cX5_goes 72 = .ok (.iload_n 2, 1) := by decide +kernel
theorem dX5_goes_73 : decode cX5_goes 73 = .ok (.invokestatic 58, 3) := by decide +kernel
theorem dX5_goes_76 : decode cX5_goes 76 = .ok (.iconst 0, 1) := by decide +kernel
theorem dX5_goes_77 : decode cX5_goes 77 = .ok (.iastore, 1) := by decide +kernel
theorem dX5_goes_78 : decode cX5_goes 78 = .ok (.iinc 2 1, 3) := by decide +kernel
theorem dX5_goes_81 : decode cX5_goes 81 = .ok (.goto (-26), 3) := by decide +kernel
theorem dX5_goes_84 : decode cX5_goes 84 = .ok (.return_, 1) := by decide +kernel
set_option maxRecDepth 20000 in
theorem ggX5_lays_X5_at : GoodIn wsX5_lays wsX5_at := goodIn_r _ [5] (by decide +kernel) (by decide +kernel)
set_option maxRecDepth 20000 in
theorem gX5_lays_X5_at : GoodIn wsX5_lays (va_wsS RX5 58 yX5_at wsX5_at) := goodIn_app (goodIn_of _ (by decide +kernel)) ggX5_lays_X5_at
theorem dX5_lays_0 : decode cX5_lays 0 = .ok (.aload_n 0, 1) := by decide +kernel
theorem dX5_lays_1 : decode cX5_lays 1 = .ok (.getfield 7, 3) := by decide +kernel
theorem dX5_lays_4 : decode cX5_lays 4 = .ok (.iload_n 1, 1) := by decide +kernel
theorem dX5_lays_5 : decode cX5_lays 5 = .ok (.iconst 2, 1) := by decide +kernel
theorem dX5_lays_6 : decode cX5_lays 6 = .ok (.invokestatic 58, 3) := by decide +kernel
theorem dX5_lays_9 : decode cX5_lays 9 = .ok (.iload_n 2, 1) := by decide +kernel
theorem dX5_lays_10 : decode cX5_lays 10 = .ok (.iastore, 1) := by decide +kernel
theorem dX5_lays_11 : decode cX5_lays 11 = .ok (.aload_n 0, 1) := by decide +kernel
theorem dX5_lays_12 : decode cX5_lays 12 = .ok (.getfield 7, 3) := by decide +kernel
theorem dX5_lays_15 : decode cX5_lays 15 = .ok (.iload_n 1, 1) := by decide +kernel
theorem dX5_lays_16 : decode cX5_lays 16 = .ok (.iconst 3, 1) := by decide +kernel
theorem dX5_lays_17 : decode cX5_lays 17 = .ok (.invokestatic 58, 3) := by decide +kernel
theorem dX5_lays_20 : decode cX5_lays 20 = .ok (.iload_n 3, 1) := by decide +kernel
theorem dX5_lays_21 : decode cX5_lays 21 = .ok (.iastore, 1) := by decide +kernel
theorem dX5_lays_22 : decode cX5_lays 22 = .ok (.aload_n 0, 1) := by decide +kernel
theorem dX5_lays_23 : decode cX5_lays 23 = .ok (.getfield 7, 3) := by decide +kernel
theorem dX5_lays_26 : decode cX5_lays 26 = .ok (.iload_n 1, 1) := by decide +kernel
theorem dX5_lays_27 : decode cX5_lays 27 = .ok (.iconst 4, 1) := by decide +kernel
theorem dX5_lays_28 : decode cX5_lays 28 = .ok (.invokestatic 58, 3) := by decide +kernel
theorem dX5_lays_31 : decode cX5_lays 31 = .ok (.iload 4, 2) := by decide +kernel
theorem dX5_lays_33 : decode cX5_lays 33 = .ok (.iastore, 1) := by decide +kernel
theorem dX5_lays_34 : decode cX5_lays 34 = .ok (.return_, 1) := by decide +kernel
set_option maxRecDepth 20000 in
theorem ggX5_opens_X5_layOpening : GoodIn wsX5_opens wsX5_layOpening := goodIn_r _ [9, 1, 4, 3, 10, 11, 12, 13, 8, 14, 15, 16, 17, 2, 18, 19, 20, 21, 22, 23, 24, 25, 26, 27, 28, 29, 30, 31, 32, 33, 34, 35, 36, 37, 38, 39, 40, 41, 42, 43, 44, 45, 46, 47, 48, 49, 50, 51, 52, 53, 54, 55, 56, 57, 58, 59, 60, 61, 62, 63, 64, 65, 66, 67, 68, 69, 70, 71, 72, 81, 82, 83, 84, 85, 86, 87, 88, 89, 90, 91, 92, 93, 94, 95, 96, 97, 98, 99, 100] (by decide +kernel) (by decide +kernel)
set_option maxRecDepth 20000 in
theorem gX5_opens_X5_layOpening : GoodIn wsX5_opens (wsV RX5 111 RX5 yX5_layOpening wsX5_layOpening) := goodIn_app (goodIn_of _ (by decide +kernel)) ggX5_opens_X5_layOpening
set_option maxRecDepth 20000 in
theorem ggX5_opens_X5_moves : GoodIn wsX5_opens wsX5_moves := goodIn_r _ [37, 19, 20, 21, 8, 22, 1, 23, 24, 25, 81, 82, 83, 84, 85, 86, 87, 88, 89, 90, 91, 92, 93, 94, 95, 96, 97, 98, 99, 100] (by decide +kernel) (by decide +kernel)
set_option maxRecDepth 20000 in
theorem gX5_opens_X5_moves : GoodIn wsX5_opens (wsV RX5 68 RX5 yX5_moves wsX5_moves) := goodIn_app (goodIn_of _ (by decide +kernel)) ggX5_opens_X5_moves
set_option maxRecDepth 20000 in
theorem ggX5_opens_X5_at : GoodIn wsX5_opens wsX5_at := goodIn_r _ [25] (by decide +kernel) (by decide +kernel)
set_option maxRecDepth 20000 in
theorem gX5_opens_X5_at : GoodIn wsX5_opens (va_wsS RX5 58 yX5_at wsX5_at) := goodIn_app (goodIn_of _ (by decide +kernel)) ggX5_opens_X5_at
set_option maxRecDepth 20000 in
theorem ggX5_opens_X5_lays : GoodIn wsX5_opens wsX5_lays := goodIn_r _ [76, 1, 23, 24, 8, 25, 81, 82, 83, 84, 85, 86, 87, 88, 89, 90, 91, 92, 93, 94, 95, 96, 97, 98, 99, 100] (by decide +kernel) (by decide +kernel)
set_option maxRecDepth 20000 in
theorem gX5_opens_X5_lays : GoodIn wsX5_opens (wsV RX5 114 RX5 yX5_lays wsX5_lays) := goodIn_app (goodIn_of _ (by decide +kernel)) ggX5_opens_X5_lays
set_option maxRecDepth 20000 in
theorem ggX5_opens_X5_goes : GoodIn wsX5_opens wsX5_goes := goodIn_r _ [80, 1, 23, 24, 8, 25, 81, 82, 83, 84, 85, 86, 87, 88, 89, 90, 91, 92, 93, 94, 95, 96, 97, 98, 99, 100] (by decide +kernel) (by decide +kernel)
set_option maxRecDepth 20000 in
theorem gX5_opens_X5_goes : GoodIn wsX5_opens (wsV RX5 118 RX5 yX5_goes wsX5_goes) := goodIn_app (goodIn_of _ (by decide +kernel)) ggX5_opens_X5_goes
theorem dX5_opens_0 : decode cX5_opens 0 = .ok (.aload_n 0, 1) := by decide +kernel
theorem dX5_opens_1 : decode cX5_opens 1 = .ok (.invokevirtual 111, 3) := by decide +kernel
theorem dX5_opens_4 : decode cX5_opens 4 = .ok (.iconst 0, 1) := by decide +kernel
theorem dX5_opens_5 : decode cX5_opens 5 = .ok (.istore_n 1, 1) := by decide +kernel
theorem dX5_opens_6 : decode cX5_opens 6 = .ok (.iconst 0, 1) := by decide +kernel
theorem dX5_opens_7 : decode cX5_opens 7 = .ok (.istore_n 2, 1) := by decide +kernel
theorem dX5_opens_8 : decode cX5_opens 8 = .ok (.iload_n 2, 1) := by decide +kernel
theorem dX5_opens_9 : decode cX5_opens 9 = .ok (.aload_n 0, 1) := by decide +kernel
theorem dX5_opens_10 : decode cX5_opens 10 = .ok (.getfield 7, 3) := by decide +kernel
theorem dX5_opens_13 : decode cX5_opens 13 = .ok (.bipush 9, 2) := by decide +kernel
theorem dX5_opens_15 : decode cX5_opens 15 = .ok (.iaload, 1) := by decide +kernel
theorem dX5_opens_16 : decode cX5_opens 16 = .ok (.if_icmp .ge 145, 3) := by decide +kernel
theorem dX5_opens_19 : decode cX5_opens 19 = .ok (.aload_n 0, 1) := by decide +kernel
theorem dX5_opens_20 : decode cX5_opens 20 = .ok (.getfield 35, 3) := by decide +kernel
theorem dX5_opens_23 : decode cX5_opens 23 = .ok (.iload_n 2, 1) := by decide +kernel
theorem dX5_opens_24 : decode cX5_opens 24 = .ok (.baload, 1) := by decide +kernel
theorem dX5_opens_25 : decode cX5_opens 25 = .ok (.ifCond .eq 7, 3) := by decide +kernel
theorem dX5_opens_28 : decode cX5_opens 28 = .ok (.iconst 1, 1) := by decide +kernel
theorem dX5_opens_29 : decode cX5_opens 29 = .ok (.goto 4, 3) := by decide +kernel
theorem dX5_opens_32 : decode cX5_opens 32 = .ok (.iconst 0, 1) := by decide +kernel
theorem dX5_opens_33 : decode cX5_opens 33 = .ok (.istore_n 3, 1) := by decide +kernel
theorem dX5_opens_34 : decode cX5_opens 34 = .ok (.aload_n 0, 1) := by decide +kernel
theorem dX5_opens_35 : decode cX5_opens 35 = .ok (.iload_n 2, 1) := by decide +kernel
theorem dX5_opens_36 : decode cX5_opens 36 = .ok (.invokevirtual 68, 3) := by decide +kernel
theorem dX5_opens_39 : decode cX5_opens 39 = .ok (.ifCond .eq 9, 3) := by decide +kernel
theorem dX5_opens_42 : decode cX5_opens 42 = .ok (.iconst 1, 1) := by decide +kernel
theorem dX5_opens_43 : decode cX5_opens 43 = .ok (.iload_n 3, 1) := by decide +kernel
theorem dX5_opens_44 : decode cX5_opens 44 = .ok (.isub, 1) := by decide +kernel
theorem dX5_opens_45 : decode cX5_opens 45 = .ok (.goto 4, 3) := by decide +kernel
theorem dX5_opens_48 : decode cX5_opens 48 = .ok (.iconst 0, 1) := by decide +kernel
theorem dX5_opens_49 : decode cX5_opens 49 = .ok (.istore 4, 2) := by decide +kernel
theorem dX5_opens_51 : decode cX5_opens 51 = .ok (.aload_n 0, 1) := by decide +kernel
theorem dX5_opens_52 : decode cX5_opens 52 = .ok (.getfield 7, 3) := by decide +kernel
theorem dX5_opens_55 : decode cX5_opens 55 = .ok (.iload_n 2, 1) := by decide +kernel
theorem dX5_opens_56 : decode cX5_opens 56 = .ok (.iconst 5, 1) := by decide +kernel
theorem dX5_opens_57 : decode cX5_opens 57 = .ok (.invokestatic 58, 3) := by decide +kernel
theorem dX5_opens_60 : decode cX5_opens 60 = .ok (.dup2, 1) := by decide +kernel
theorem dX5_opens_61 : decode cX5_opens 61 = .ok (.iaload, 1) := by decide +kernel
theorem dX5_opens_62 : decode cX5_opens 62 = .ok (.iload 4, 2) := by decide +kernel
theorem dX5_opens_64 : decode cX5_opens 64 = .ok (.iadd, 1) := by decide +kernel
theorem dX5_opens_65 : decode cX5_opens 65 = .ok (.iastore, 1) := by decide +kernel
theorem dX5_opens_66 : decode cX5_opens 66 = .ok (.aload_n 0, 1) := by decide +kernel
theorem dX5_opens_67 : decode cX5_opens 67 = .ok (.getfield 7, 3) := by decide +kernel
theorem dX5_opens_70 : decode cX5_opens 70 = .ok (.iload_n 2, 1) := by decide +kernel
theorem dX5_opens_71 : decode cX5_opens 71 = .ok (.bipush 6, 2) := by decide +kernel
theorem dX5_opens_73 : decode cX5_opens 73 = .ok (.invokestatic 58, 3) := by decide +kernel
theorem dX5_opens_76 : decode cX5_opens 76 = .ok (.dup2, 1) := by decide +kernel
theorem dX5_opens_77 : decode cX5_opens 77 = .ok (.iaload, 1) := by decide +kernel
theorem dX5_opens_78 : decode cX5_opens 78 = .ok (.iload_n 3, 1) := by decide +kernel
theorem dX5_opens_79 : decode cX5_opens 79 = .ok (.iadd, 1) := by decide +kernel
theorem dX5_opens_80 : decode cX5_opens 80 = .ok (.iastore, 1) := by decide +kernel
theorem dX5_opens_81 : decode cX5_opens 81 = .ok (.aload_n 0, 1) := by decide +kernel
theorem dX5_opens_82 : decode cX5_opens 82 = .ok (.getfield 7, 3) := by decide +kernel
theorem dX5_opens_85 : decode cX5_opens 85 = .ok (.iconst 3, 1) := by decide +kernel
theorem dX5_opens_86 : decode cX5_opens 86 = .ok (.dup2, 1) := by decide +kernel
theorem dX5_opens_87 : decode cX5_opens 87 = .ok (.iaload, 1) := by decide +kernel
theorem dX5_opens_88 : decode cX5_opens 88 = .ok (.iload 4, 2) := by decide +kernel
theorem dX5_opens_90 : decode cX5_opens 90 = .ok (.iadd, 1) := by decide +kernel
theorem dX5_opens_91 : decode cX5_opens 91 = .ok (.iastore, 1) := by decide +kernel
theorem dX5_opens_92 : decode cX5_opens 92 = .ok (.aload_n 0, 1) := by decide +kernel
theorem dX5_opens_93 : decode cX5_opens 93 = .ok (.getfield 7, 3) := by decide +kernel
theorem dX5_opens_96 : decode cX5_opens 96 = .ok (.iconst 4, 1) := by decide +kernel
theorem dX5_opens_97 : decode cX5_opens 97 = .ok (.dup2, 1) := by decide +kernel
theorem dX5_opens_98 : decode cX5_opens 98 = .ok (.iaload, 1) := by decide +kernel
theorem dX5_opens_99 : decode cX5_opens 99 = .ok (.iload_n 3, 1) := by decide +kernel
theorem dX5_opens_100 : decode cX5_opens 100 = .ok (.iadd, 1) := by decide +kernel
theorem dX5_opens_101 : decode cX5_opens 101 = .ok (.iastore, 1) := by decide +kernel
theorem dX5_opens_102 : decode cX5_opens 102 = .ok (.aload_n 0, 1) := by decide +kernel
theorem dX5_opens_103 : decode cX5_opens 103 = .ok (.getfield 7, 3) := by decide +kernel
theorem dX5_opens_106 : decode cX5_opens 106 = .ok (.iconst 5, 1) := by decide +kernel
theorem dX5_opens_107 : decode cX5_opens 107 = .ok (.dup2, 1) := by decide +kernel
theorem dX5_opens_108 : decode cX5_opens 108 = .ok (.iaload, 1) := by decide +kernel
theorem dX5_opens_109 : decode cX5_opens 109 = .ok (.aload_n 0, 1) := by decide +kernel
theorem dX5_opens_110 : decode cX5_opens 110 = .ok (.getfield 41, 3) := by decide +kernel
theorem dX5_opens_113 : decode cX5_opens 113 = .ok (.iload_n 2, 1) := by decide +kernel
theorem dX5_opens_114 : decode cX5_opens 114 = .ok (.iaload, 1) := by decide +kernel
theorem dX5_opens_115 : decode cX5_opens 115 = .ok (.iconst (-1), 1) := by decide +kernel
theorem dX5_opens_116 : decode cX5_opens 116 = .ok (.if_icmp .ne 7, 3) := by decide +kernel
theorem dX5_opens_119 : decode cX5_opens 119 = .ok (.iconst 0, 1) := by decide +kernel
theorem dX5_opens_120 : decode cX5_opens 120 = .ok (.goto 4, 3) := by decide +kernel
theorem dX5_opens_123 : decode cX5_opens 123 = .ok (.iconst 1, 1) := by decide +kernel
theorem dX5_opens_124 : decode cX5_opens 124 = .ok (.iadd, 1) := by decide +kernel
theorem dX5_opens_125 : decode cX5_opens 125 = .ok (.iastore, 1) := by decide +kernel
theorem dX5_opens_126 : decode cX5_opens 126 = .ok (.aload_n 0, 1) := by decide +kernel
theorem dX5_opens_127 : decode cX5_opens 127 = .ok (.getfield 7, 3) := by decide +kernel
theorem dX5_opens_130 : decode cX5_opens 130 = .ok (.bipush 6, 2) := by decide +kernel
theorem dX5_opens_132 : decode cX5_opens 132 = .ok (.dup2, 1) := by decide +kernel
theorem dX5_opens_133 : decode cX5_opens 133 = .ok (.iaload, 1) := by decide +kernel
theorem dX5_opens_134 : decode cX5_opens 134 = .ok (.aload_n 0, 1) := by decide +kernel
theorem dX5_opens_135 : decode cX5_opens 135 = .ok (.getfield 44, 3) := by decide +kernel
theorem dX5_opens_138 : decode cX5_opens 138 = .ok (.iload_n 2, 1) := by decide +kernel
theorem dX5_opens_139 : decode cX5_opens 139 = .ok (.iaload, 1) := by decide +kernel
theorem dX5_opens_140 : decode cX5_opens 140 = .ok (.iconst (-1), 1) := by decide +kernel
theorem dX5_opens_141 : decode cX5_opens 141 = .ok (.if_icmp .ne 7, 3) := by decide +kernel
theorem dX5_opens_144 : decode cX5_opens 144 = .ok (.iconst 1, 1) := by decide +kernel
theorem dX5_opens_145 : decode cX5_opens 145 = .ok (.goto 4, 3) := by decide +kernel
theorem dX5_opens_148 : decode cX5_opens 148 = .ok (.iconst 0, 1) := by decide +kernel
theorem dX5_opens_149 : decode cX5_opens 149 = .ok (.iadd, 1) := by decide +kernel
theorem dX5_opens_150 : decode cX5_opens 150 = .ok (.iastore, 1) := by decide +kernel
theorem dX5_opens_151 : decode cX5_opens 151 = .ok (.iload_n 1, 1) := by decide +kernel
theorem dX5_opens_152 : decode cX5_opens 152 = .ok (.iload_n 3, 1) := by decide +kernel
theorem dX5_opens_153 : decode cX5_opens 153 = .ok (.iadd, 1) := by decide +kernel
theorem dX5_opens_154 : decode cX5_opens 154 = .ok (.istore_n 1, 1) := by decide +kernel
theorem dX5_opens_155 : decode cX5_opens 155 = .ok (.iinc 2 1, 3) := by decide +kernel
theorem dX5_opens_158 : decode cX5_opens 158 = .ok (.goto (-150), 3) := by decide +kernel
theorem dX5_opens_161 : decode cX5_opens 161 = .ok (.aload_n 0, 1) := by decide +kernel
theorem dX5_opens_162 : decode cX5_opens 162 = .ok (.getfield 7, 3) := by decide +kernel
theorem dX5_opens_165 : decode cX5_opens 165 = .ok (.bipush 9, 2) := by decide +kernel
theorem dX5_opens_167 : decode cX5_opens 167 = .ok (.iaload, 1) := by decide +kernel
theorem dX5_opens_168 : decode cX5_opens 168 = .ok (.iconst 1, 1) := by decide +kernel
theorem dX5_opens_169 : decode cX5_opens 169 = .ok (.isub, 1) := by decide +kernel
theorem dX5_opens_170 : decode cX5_opens 170 = .ok (.istore_n 2, 1) := by decide +kernel
theorem dX5_opens_171 : decode cX5_opens 171 = .ok (.iload_n 2, 1) := by decide +kernel
theorem dX5_opens_172 : decode cX5_opens 172 = .ok (.ifCond .lt 48, 3) := by decide +kernel
theorem dX5_opens_175 : decode cX5_opens 175 = .ok (.aload_n 0, 1) := by decide +kernel
theorem dX5_opens_176 : decode cX5_opens 176 = .ok (.getfield 7, 3) := by decide +kernel
theorem dX5_opens_179 : decode cX5_opens 179 = .ok (.iload_n 2, 1) := by decide +kernel
theorem dX5_opens_180 : decode cX5_opens 180 = .ok (.iconst 1, 1) := by decide +kernel
theorem dX5_opens_181 : decode cX5_opens 181 = .ok (.invokestatic 58, 3) := by decide +kernel
theorem dX5_opens_184 : decode cX5_opens 184 = .ok (.aload_n 0, 1) := by decide +kernel
theorem dX5_opens_185 : decode cX5_opens 185 = .ok (.getfield 44, 3) := by decide +kernel
theorem dX5_opens_188 : decode cX5_opens 188 = .ok (.iload_n 2, 1) := by decide +kernel
theorem dX5_opens_189 : decode cX5_opens 189 = .ok (.iaload, 1) := by decide +kernel
theorem dX5_opens_190 : decode cX5_opens 190 = .ok (.iastore, 1) := by decide +kernel
theorem dX5_opens_191 : decode cX5_opens 191 = .ok (.aload_n 0, 1) := by decide +kernel
theorem dX5_opens_192 : decode cX5_opens 192 = .ok (.iload_n 2, 1) := by decide +kernel
theorem dX5_opens_193 : decode cX5_opens 193 = .ok (.iconst 0, 1) := by decide +kernel
theorem dX5_opens_194 : decode cX5_opens 194 = .ok (.iconst (-1), 1) := by decide +kernel
theorem dX5_opens_195 : decode cX5_opens 195 = .ok (.iconst (-1), 1) := by decide +kernel
theorem dX5_opens_196 : decode cX5_opens 196 = .ok (.invokevirtual 114, 3) := by decide +kernel
theorem dX5_opens_199 : decode cX5_opens 199 = .ok (.aload_n 0, 1) := by decide +kernel
theorem dX5_opens_200 : decode cX5_opens 200 = .ok (.getfield 44, 3) := by decide +kernel
theorem dX5_opens_203 : decode cX5_opens 203 = .ok (.iload_n 2, 1) := by decide +kernel
theorem dX5_opens_204 : decode cX5_opens 204 = .ok (.iaload, 1) := by decide +kernel
theorem dX5_opens_205 : decode cX5_opens 205 = .ok (.iconst (-1), 1) := by decide +kernel
theorem dX5_opens_206 : decode cX5_opens 206 = .ok (.if_icmp .ne 8, 3) := by decide +kernel
theorem dX5_opens_209 : decode cX5_opens 209 = .ok (.aload_n 0, 1) := by decide +kernel
theorem dX5_opens_210 : decode cX5_opens 210 = .ok (.iload_n 2, 1) := by decide +kernel
theorem dX5_opens_211 : decode cX5_opens 211 = .ok (.invokevirtual 118, 3) := by decide +kernel
theorem dX5_opens_214 : decode cX5_opens 214 = .ok (.iinc 2 (-1), 3) := by decide +kernel
theorem dX5_opens_217 : decode cX5_opens 217 = .ok (.goto (-46), 3) := by decide +kernel
theorem dX5_opens_220 : decode cX5_opens 220 = .ok (.aload_n 0, 1) := by decide +kernel
theorem dX5_opens_221 : decode cX5_opens 221 = .ok (.getfield 7, 3) := by decide +kernel
theorem dX5_opens_224 : decode cX5_opens 224 = .ok (.iconst 2, 1) := by decide +kernel
theorem dX5_opens_225 : decode cX5_opens 225 = .ok (.dup2, 1) := by decide +kernel
theorem dX5_opens_226 : decode cX5_opens 226 = .ok (.iaload, 1) := by decide +kernel
theorem dX5_opens_227 : decode cX5_opens 227 = .ok (.iconst 1, 1) := by decide +kernel
theorem dX5_opens_228 : decode cX5_opens 228 = .ok (.iadd, 1) := by decide +kernel
theorem dX5_opens_229 : decode cX5_opens 229 = .ok (.iastore, 1) := by decide +kernel
theorem dX5_opens_230 : decode cX5_opens 230 = .ok (.iload_n 1, 1) := by decide +kernel
theorem dX5_opens_231 : decode cX5_opens 231 = .ok (.ireturn, 1) := by decide +kernel
set_option maxRecDepth 20000 in
theorem ggX5_belongs_X5_armyOn : GoodIn wsX5_belongs wsX5_armyOn := goodIn_r _ [6, 1, 7, 8, 9, 5, 10, 11, 12, 13, 14, 15, 16, 17, 18, 19, 20, 21, 22, 23, 24, 25, 26, 27, 28, 29, 30, 31, 32, 33] (by decide +kernel) (by decide +kernel)
set_option maxRecDepth 20000 in
theorem gX5_belongs_X5_armyOn : GoodIn wsX5_belongs (wsV RX5 72 RX5 yX5_armyOn wsX5_armyOn) := goodIn_app (goodIn_of _ (by decide +kernel)) ggX5_belongs_X5_armyOn
set_option maxRecDepth 20000 in
theorem ggX5_belongs_X5_of : GoodIn wsX5_belongs wsX5_of := goodIn_r _ [10, 1, 11, 12, 5, 13, 14, 15, 16, 17, 18, 19, 20, 21, 22, 23, 24, 25, 26, 27, 28, 29, 30, 31, 32, 33] (by decide +kernel) (by decide +kernel)
set_option maxRecDepth 20000 in
theorem gX5_belongs_X5_of : GoodIn wsX5_belongs (wsV RX5 65 RX5 yX5_of wsX5_of) := goodIn_app (goodIn_of _ (by decide +kernel)) ggX5_belongs_X5_of
theorem dX5_belongs_0 : decode cX5_belongs 0 = .ok (.iconst 0, 1) := by decide +kernel
theorem dX5_belongs_1 : decode cX5_belongs 1 = .ok (.istore_n 1, 1) := by decide +kernel
theorem dX5_belongs_2 : decode cX5_belongs 2 = .ok (.iload_n 1, 1) := by decide +kernel
theorem dX5_belongs_3 : decode cX5_belongs 3 = .ok (.iconst 4, 1) := by decide +kernel
theorem dX5_belongs_4 : decode cX5_belongs 4 = .ok (.if_icmp .ge 49, 3) := by decide +kernel
theorem dX5_belongs_7 : decode cX5_belongs 7 = .ok (.aload_n 0, 1) := by decide +kernel
theorem dX5_belongs_8 : decode cX5_belongs 8 = .ok (.iconst 3, 1) := by decide +kernel
theorem dX5_belongs_9 : decode cX5_belongs 9 = .ok (.iload_n 1, 1) := by decide +kernel
theorem dX5_belongs_10 : decode cX5_belongs 10 = .ok (.imul, 1) := by decide +kernel
theorem dX5_belongs_11 : decode cX5_belongs 11 = .ok (.invokevirtual 72, 3) := by decide +kernel
theorem dX5_belongs_14 : decode cX5_belongs 14 = .ok (.istore_n 2, 1) := by decide +kernel
theorem dX5_belongs_15 : decode cX5_belongs 15 = .ok (.aload_n 0, 1) := by decide +kernel
theorem dX5_belongs_16 : decode cX5_belongs 16 = .ok (.getfield 7, 3) := by decide +kernel
theorem dX5_belongs_19 : decode cX5_belongs 19 = .ok (.bipush 10, 2) := by decide +kernel
theorem dX5_belongs_21 : decode cX5_belongs 21 = .ok (.iload_n 1, 1) := by decide +kernel
theorem dX5_belongs_22 : decode cX5_belongs 22 = .ok (.iadd, 1) := by decide +kernel
theorem dX5_belongs_23 : decode cX5_belongs 23 = .ok (.iload_n 2, 1) := by decide +kernel
theorem dX5_belongs_24 : decode cX5_belongs 24 = .ok (.iconst (-1), 1) := by decide +kernel
theorem dX5_belongs_25 : decode cX5_belongs 25 = .ok (.if_icmp .ne 15, 3) := by decide +kernel
theorem dX5_belongs_28 : decode cX5_belongs 28 = .ok (.aload_n 0, 1) := by decide +kernel
theorem dX5_belongs_29 : decode cX5_belongs 29 = .ok (.getfield 7, 3) := by decide +kernel
theorem dX5_belongs_32 : decode cX5_belongs 32 = .ok (.bipush 10, 2) := by decide +kernel
theorem dX5_belongs_34 : decode cX5_belongs 34 = .ok (.iload_n 1, 1) := by decide +kernel
theorem dX5_belongs_35 : decode cX5_belongs 35 = .ok (.iadd, 1) := by decide +kernel
theorem dX5_belongs_36 : decode cX5_belongs 36 = .ok (.iaload, 1) := by decide +kernel
theorem dX5_belongs_37 : decode cX5_belongs 37 = .ok (.goto 9, 3) := by decide +kernel
theorem dX5_belongs_40 : decode cX5_belongs 40 = .ok (.aload_n 0, 1) := by decide +kernel
theorem dX5_belongs_41 : decode cX5_belongs 41 = .ok (.iload_n 2, 1) := by decide +kernel
theorem dX5_belongs_42 : decode cX5_belongs 42 = .ok (.iconst 0, 1) := by decide +kernel
theorem dX5_belongs_43 : decode cX5_belongs 43 = .ok (.invokevirtual 65, 3) := by decide +kernel
theorem dX5_belongs_46 : decode cX5_belongs 46 = .ok (.iastore, 1) := by decide +kernel
theorem dX5_belongs_47 : decode cX5_belongs 47 = .ok (.iinc 1 1, 3) := by decide +kernel
theorem dX5_belongs_50 : decode cX5_belongs 50 = .ok (.goto (-48), 3) := by decide +kernel
theorem dX5_belongs_53 : decode cX5_belongs 53 = .ok (.return_, 1) := by decide +kernel
theorem dX5_centresOf_0 : decode cX5_centresOf 0 = .ok (.iconst 0, 1) := by decide +kernel
theorem dX5_centresOf_1 : decode cX5_centresOf 1 = .ok (.istore_n 2, 1) := by decide +kernel
theorem dX5_centresOf_2 : decode cX5_centresOf 2 = .ok (.iconst 0, 1) := by decide +kernel
theorem dX5_centresOf_3 : decode cX5_centresOf 3 = .ok (.istore_n 3, 1) := by decide +kernel
theorem dX5_centresOf_4 : decode cX5_centresOf 4 = .ok (.iload_n 3, 1) := by decide +kernel
theorem dX5_centresOf_5 : decode cX5_centresOf 5 = .ok (.iconst 4, 1) := by decide +kernel
theorem dX5_centresOf_6 : decode cX5_centresOf 6 = .ok (.if_icmp .ge 30, 3) := by decide +kernel
theorem dX5_centresOf_9 : decode cX5_centresOf 9 = .ok (.iload_n 2, 1) := by decide +kernel
theorem dX5_centresOf_10 : decode cX5_centresOf 10 = .ok (.aload_n 0, 1) := by decide +kernel
theorem dX5_centresOf_11 : decode cX5_centresOf 11 = .ok (.getfield 7, 3) := by decide +kernel
theorem dX5_centresOf_14 : decode cX5_centresOf 14 = .ok (.bipush 10, 2) := by decide +kernel
theorem dX5_centresOf_16 : decode cX5_centresOf 16 = .ok (.iload_n 3, 1) := by decide +kernel
theorem dX5_centresOf_17 : decode cX5_centresOf 17 = .ok (.iadd, 1) := by decide +kernel
theorem dX5_centresOf_18 : decode cX5_centresOf 18 = .ok (.iaload, 1) := by decide +kernel
theorem dX5_centresOf_19 : decode cX5_centresOf 19 = .ok (.iload_n 1, 1) := by decide +kernel
theorem dX5_centresOf_20 : decode cX5_centresOf 20 = .ok (.if_icmp .ne 7, 3) := by decide +kernel
theorem dX5_centresOf_23 : decode cX5_centresOf 23 = .ok (.iconst 1, 1) := by decide +kernel
theorem dX5_centresOf_24 : decode cX5_centresOf 24 = .ok (.goto 4, 3) := by decide +kernel
theorem dX5_centresOf_27 : decode cX5_centresOf 27 = .ok (.iconst 0, 1) := by decide +kernel
theorem dX5_centresOf_28 : decode cX5_centresOf 28 = .ok (.iadd, 1) := by decide +kernel
theorem dX5_centresOf_29 : decode cX5_centresOf 29 = .ok (.istore_n 2, 1) := by decide +kernel
theorem dX5_centresOf_30 : decode cX5_centresOf 30 = .ok (.iinc 3 1, 3) := by decide +kernel
theorem dX5_centresOf_33 : decode cX5_centresOf 33 = .ok (.goto (-29), 3) := by decide +kernel
theorem dX5_centresOf_36 : decode cX5_centresOf 36 = .ok (.iload_n 2, 1) := by decide +kernel
theorem dX5_centresOf_37 : decode cX5_centresOf 37 = .ok (.ireturn, 1) := by decide +kernel
set_option maxRecDepth 20000 in
theorem ggX5_armiesOf_X5_of : GoodIn wsX5_armiesOf wsX5_of := goodIn_r _ [6, 1, 7, 8, 5, 9, 10, 11, 12, 13, 14, 15, 16, 17, 18, 19, 20, 21, 22, 23, 24, 25, 26, 27, 28, 29] (by decide +kernel) (by decide +kernel)
set_option maxRecDepth 20000 in
theorem gX5_armiesOf_X5_of : GoodIn wsX5_armiesOf (wsV RX5 65 RX5 yX5_of wsX5_of) := goodIn_app (goodIn_of _ (by decide +kernel)) ggX5_armiesOf_X5_of
theorem dX5_armiesOf_0 : decode cX5_armiesOf 0 = .ok (.iconst 0, 1) := by decide +kernel
theorem dX5_armiesOf_1 : decode cX5_armiesOf 1 = .ok (.istore_n 2, 1) := by decide +kernel
theorem dX5_armiesOf_2 : decode cX5_armiesOf 2 = .ok (.iconst 0, 1) := by decide +kernel
theorem dX5_armiesOf_3 : decode cX5_armiesOf 3 = .ok (.istore_n 3, 1) := by decide +kernel
theorem dX5_armiesOf_4 : decode cX5_armiesOf 4 = .ok (.iload_n 3, 1) := by decide +kernel
theorem dX5_armiesOf_5 : decode cX5_armiesOf 5 = .ok (.aload_n 0, 1) := by decide +kernel
theorem dX5_armiesOf_6 : decode cX5_armiesOf 6 = .ok (.getfield 7, 3) := by decide +kernel
theorem dX5_armiesOf_9 : decode cX5_armiesOf 9 = .ok (.bipush 9, 2) := by decide +kernel
theorem dX5_armiesOf_11 : decode cX5_armiesOf 11 = .ok (.iaload, 1) := by decide +kernel
theorem dX5_armiesOf_12 : decode cX5_armiesOf 12 = .ok (.if_icmp .ge 27, 3) := by decide +kernel
theorem dX5_armiesOf_15 : decode cX5_armiesOf 15 = .ok (.iload_n 2, 1) := by decide +kernel
theorem dX5_armiesOf_16 : decode cX5_armiesOf 16 = .ok (.aload_n 0, 1) := by decide +kernel
theorem dX5_armiesOf_17 : decode cX5_armiesOf 17 = .ok (.iload_n 3, 1) := by decide +kernel
theorem dX5_armiesOf_18 : decode cX5_armiesOf 18 = .ok (.iconst 0, 1) := by decide +kernel
theorem dX5_armiesOf_19 : decode cX5_armiesOf 19 = .ok (.invokevirtual 65, 3) := by decide +kernel
theorem dX5_armiesOf_22 : decode cX5_armiesOf 22 = .ok (.iload_n 1, 1) := by decide +kernel
theorem dX5_armiesOf_23 : decode cX5_armiesOf 23 = .ok (.if_icmp .ne 7, 3) := by decide +kernel
theorem dX5_armiesOf_26 : decode cX5_armiesOf 26 = .ok (.iconst 1, 1) := by decide +kernel
theorem dX5_armiesOf_27 : decode cX5_armiesOf 27 = .ok (.goto 4, 3) := by decide +kernel
theorem dX5_armiesOf_30 : decode cX5_armiesOf 30 = .ok (.iconst 0, 1) := by decide +kernel
theorem dX5_armiesOf_31 : decode cX5_armiesOf 31 = .ok (.iadd, 1) := by decide +kernel
theorem dX5_armiesOf_32 : decode cX5_armiesOf 32 = .ok (.istore_n 2, 1) := by decide +kernel
theorem dX5_armiesOf_33 : decode cX5_armiesOf 33 = .ok (.iinc 3 1, 3) := by decide +kernel
theorem dX5_armiesOf_36 : decode cX5_armiesOf 36 = .ok (.goto (-32), 3) := by decide +kernel
theorem dX5_armiesOf_39 : decode cX5_armiesOf 39 = .ok (.iload_n 2, 1) := by decide +kernel
theorem dX5_armiesOf_40 : decode cX5_armiesOf 40 = .ok (.ireturn, 1) := by decide +kernel
set_option maxRecDepth 20000 in
theorem ggX5_highestOf_X5_of : GoodIn wsX5_highestOf wsX5_of := goodIn_r _ [6, 1, 7, 8, 5, 9, 10, 11, 12, 13, 14, 15, 16, 17, 18, 19, 20, 21, 22, 23, 24, 25, 26, 27, 28, 29] (by decide +kernel) (by decide +kernel)
set_option maxRecDepth 20000 in
theorem gX5_highestOf_X5_of : GoodIn wsX5_highestOf (wsV RX5 65 RX5 yX5_of wsX5_of) := goodIn_app (goodIn_of _ (by decide +kernel)) ggX5_highestOf_X5_of
theorem dX5_highestOf_0 : decode cX5_highestOf 0 = .ok (.iconst (-1), 1) := by decide +kernel
theorem dX5_highestOf_1 : decode cX5_highestOf 1 = .ok (.istore_n 2, 1) := by decide +kernel
theorem dX5_highestOf_2 : decode cX5_highestOf 2 = .ok (.iconst 0, 1) := by decide +kernel
theorem dX5_highestOf_3 : decode cX5_highestOf 3 = .ok (.istore_n 3, 1) := by decide +kernel
theorem dX5_highestOf_4 : decode cX5_highestOf 4 = .ok (.iload_n 3, 1) := by decide +kernel
theorem dX5_highestOf_5 : decode cX5_highestOf 5 = .ok (.aload_n 0, 1) := by decide +kernel
theorem dX5_highestOf_6 : decode cX5_highestOf 6 = .ok (.getfield 7, 3) := by decide +kernel
theorem dX5_highestOf_9 : decode cX5_highestOf 9 = .ok (.bipush 9, 2) := by decide +kernel
theorem dX5_highestOf_11 : decode cX5_highestOf 11 = .ok (.iaload, 1) := by decide +kernel
theorem dX5_highestOf_12 : decode cX5_highestOf 12 = .ok (.if_icmp .ge 25, 3) := by decide +kernel
theorem dX5_highestOf_15 : decode cX5_highestOf 15 = .ok (.aload_n 0, 1) := by decide +kernel
theorem dX5_highestOf_16 : decode cX5_highestOf 16 = .ok (.iload_n 3, 1) := by decide +kernel
theorem dX5_highestOf_17 : decode cX5_highestOf 17 = .ok (.iconst 0, 1) := by decide +kernel
theorem dX5_highestOf_18 : decode cX5_highestOf 18 = .ok (.invokevirtual 65, 3) := by decide +kernel
theorem dX5_highestOf_21 : decode cX5_highestOf 21 = .ok (.iload_n 1, 1) := by decide +kernel
theorem dX5_highestOf_22 : decode cX5_highestOf 22 = .ok (.if_icmp .ne 7, 3) := by decide +kernel
theorem dX5_highestOf_25 : decode cX5_highestOf 25 = .ok (.iload_n 3, 1) := by decide +kernel
theorem dX5_highestOf_26 : decode cX5_highestOf 26 = .ok (.goto 4, 3) := by decide +kernel
theorem dX5_highestOf_29 : decode cX5_highestOf 29 = .ok (.iload_n 2, 1) := by decide +kernel
theorem dX5_highestOf_30 : decode cX5_highestOf 30 = .ok (.istore_n 2, 1) := by decide +kernel
theorem dX5_highestOf_31 : decode cX5_highestOf 31 = .ok (.iinc 3 1, 3) := by decide +kernel
theorem dX5_highestOf_34 : decode cX5_highestOf 34 = .ok (.goto (-30), 3) := by decide +kernel
theorem dX5_highestOf_37 : decode cX5_highestOf 37 = .ok (.iload_n 2, 1) := by decide +kernel
theorem dX5_highestOf_38 : decode cX5_highestOf 38 = .ok (.ireturn, 1) := by decide +kernel
set_option maxRecDepth 20000 in
theorem ggX5_sets_X5_at : GoodIn wsX5_sets wsX5_at := goodIn_r _ [5] (by decide +kernel) (by decide +kernel)
set_option maxRecDepth 20000 in
theorem gX5_sets_X5_at : GoodIn wsX5_sets (va_wsS RX5 58 yX5_at wsX5_at) := goodIn_app (goodIn_of _ (by decide +kernel)) ggX5_sets_X5_at
set_option maxRecDepth 20000 in
theorem ggX5_sets_X5_lays : GoodIn wsX5_sets wsX5_lays := goodIn_r _ [9, 1, 2, 3, 4, 5, 10, 11, 12, 13, 14, 15, 16, 17, 18, 19, 20, 21, 22, 23, 24, 25, 26, 27, 28, 29] (by decide +kernel) (by decide +kernel)
set_option maxRecDepth 20000 in
theorem gX5_sets_X5_lays : GoodIn wsX5_sets (wsV RX5 114 RX5 yX5_lays wsX5_lays) := goodIn_app (goodIn_of _ (by decide +kernel)) ggX5_sets_X5_lays
theorem dX5_sets_0 : decode cX5_sets 0 = .ok (.aload_n 0, 1) := by decide +kernel
theorem dX5_sets_1 : decode cX5_sets 1 = .ok (.getfield 7, 3) := by decide +kernel
theorem dX5_sets_4 : decode cX5_sets 4 = .ok (.bipush 9, 2) := by decide +kernel
theorem dX5_sets_6 : decode cX5_sets 6 = .ok (.iaload, 1) := by decide +kernel
theorem dX5_sets_7 : decode cX5_sets 7 = .ok (.istore_n 3, 1) := by decide +kernel
theorem dX5_sets_8 : decode cX5_sets 8 = .ok (.aload_n 0, 1) := by decide +kernel
theorem dX5_sets_9 : decode cX5_sets 9 = .ok (.getfield 7, 3) := by decide +kernel
theorem dX5_sets_12 : decode cX5_sets 12 = .ok (.bipush 9, 2) := by decide +kernel
theorem dX5_sets_14 : decode cX5_sets 14 = .ok (.dup2, 1) := by decide +kernel
theorem dX5_sets_15 : decode cX5_sets 15 = .ok (.iaload, 1) := by decide +kernel
theorem dX5_sets_16 : decode cX5_sets 16 = .ok (.iconst 1, 1) := by decide +kernel
theorem dX5_sets_17 : decode cX5_sets 17 = .ok (.iadd, 1) := by decide +kernel
theorem dX5_sets_18 : decode cX5_sets 18 = .ok (.iastore, 1) := by decide +kernel
theorem dX5_sets_19 : decode cX5_sets 19 = .ok (.aload_n 0, 1) := by decide +kernel
theorem dX5_sets_20 : decode cX5_sets 20 = .ok (.getfield 7, 3) := by decide +kernel
theorem dX5_sets_23 : decode cX5_sets 23 = .ok (.iload_n 3, 1) := by decide +kernel
theorem dX5_sets_24 : decode cX5_sets 24 = .ok (.iconst 0, 1) := by decide +kernel
theorem dX5_sets_25 : decode cX5_sets 25 = .ok (.invokestatic 58, 3) := by decide +kernel
theorem dX5_sets_28 : decode cX5_sets 28 = .ok (.iload_n 1, 1) := by decide +kernel
theorem dX5_sets_29 : decode cX5_sets 29 = .ok (.iastore, 1) := by decide +kernel
theorem dX5_sets_30 : decode cX5_sets 30 = .ok (.aload_n 0, 1) := by decide +kernel
theorem dX5_sets_31 : decode cX5_sets 31 = .ok (.getfield 7, 3) := by decide +kernel
theorem dX5_sets_34 : decode cX5_sets 34 = .ok (.iload_n 3, 1) := by decide +kernel
theorem dX5_sets_35 : decode cX5_sets 35 = .ok (.iconst 1, 1) := by decide +kernel
theorem dX5_sets_36 : decode cX5_sets 36 = .ok (.invokestatic 58, 3) := by decide +kernel
theorem dX5_sets_39 : decode cX5_sets 39 = .ok (.iload_n 2, 1) := by decide +kernel
theorem dX5_sets_40 : decode cX5_sets 40 = .ok (.iastore, 1) := by decide +kernel
theorem dX5_sets_41 : decode cX5_sets 41 = .ok (.aload_n 0, 1) := by decide +kernel
theorem dX5_sets_42 : decode cX5_sets 42 = .ok (.getfield 7, 3) := by decide +kernel
theorem dX5_sets_45 : decode cX5_sets 45 = .ok (.iload_n 3, 1) := by decide +kernel
theorem dX5_sets_46 : decode cX5_sets 46 = .ok (.iconst 5, 1) := by decide +kernel
theorem dX5_sets_47 : decode cX5_sets 47 = .ok (.invokestatic 58, 3) := by decide +kernel
theorem dX5_sets_50 : decode cX5_sets 50 = .ok (.iconst 0, 1) := by decide +kernel
theorem dX5_sets_51 : decode cX5_sets 51 = .ok (.iastore, 1) := by decide +kernel
theorem dX5_sets_52 : decode cX5_sets 52 = .ok (.aload_n 0, 1) := by decide +kernel
theorem dX5_sets_53 : decode cX5_sets 53 = .ok (.getfield 7, 3) := by decide +kernel
theorem dX5_sets_56 : decode cX5_sets 56 = .ok (.iload_n 3, 1) := by decide +kernel
theorem dX5_sets_57 : decode cX5_sets 57 = .ok (.bipush 6, 2) := by decide +kernel
theorem dX5_sets_59 : decode cX5_sets 59 = .ok (.invokestatic 58, 3) := by decide +kernel
theorem dX5_sets_62 : decode cX5_sets 62 = .ok (.iconst 0, 1) := by decide +kernel
theorem dX5_sets_63 : decode cX5_sets 63 = .ok (.iastore, 1) := by decide +kernel
theorem dX5_sets_64 : decode cX5_sets 64 = .ok (.aload_n 0, 1) := by decide +kernel
theorem dX5_sets_65 : decode cX5_sets 65 = .ok (.iload_n 3, 1) := by decide +kernel
theorem dX5_sets_66 : decode cX5_sets 66 = .ok (.iconst 0, 1) := by decide +kernel
theorem dX5_sets_67 : decode cX5_sets 67 = .ok (.iconst (-1), 1) := by decide +kernel
theorem dX5_sets_68 : decode cX5_sets 68 = .ok (.iconst (-1), 1) := by decide +kernel
theorem dX5_sets_69 : decode cX5_sets 69 = .ok (.invokevirtual 114, 3) := by decide +kernel
theorem dX5_sets_72 : decode cX5_sets 72 = .ok (.return_, 1) := by decide +kernel
set_option maxRecDepth 20000 in
theorem ggX5_builds_X5_armyOn : GoodIn wsX5_builds wsX5_armyOn := goodIn_r _ [6, 1, 7, 8, 9, 5, 10, 11, 12, 13, 22, 23, 24, 25, 26, 27, 28, 29, 30, 31, 32, 33, 34, 35, 36, 37, 38, 39, 40, 41] (by decide +kernel) (by decide +kernel)
set_option maxRecDepth 20000 in
theorem gX5_builds_X5_armyOn : GoodIn wsX5_builds (wsV RX5 72 RX5 yX5_armyOn wsX5_armyOn) := goodIn_app (goodIn_of _ (by decide +kernel)) ggX5_builds_X5_armyOn
set_option maxRecDepth 20000 in
theorem ggX5_builds_X5_sets : GoodIn wsX5_builds wsX5_sets := goodIn_r _ [17, 1, 11, 12, 5, 13, 18, 19, 20, 21, 22, 23, 24, 25, 26, 27, 28, 29, 30, 31, 32, 33, 34, 35, 36, 37, 38, 39, 40, 41] (by decide +kernel) (by decide +kernel)
set_option maxRecDepth 20000 in
theorem gX5_builds_X5_sets : GoodIn wsX5_builds (wsV RX5 122 RX5 yX5_sets wsX5_sets) := goodIn_app (goodIn_of _ (by decide +kernel)) ggX5_builds_X5_sets
theorem dX5_builds_0 : decode cX5_builds 0 = .ok (.iconst (-1), 1) := by decide +kernel
theorem dX5_builds_1 : decode cX5_builds 1 = .ok (.istore_n 2, 1) := by decide +kernel
theorem dX5_builds_2 : decode cX5_builds 2 = .ok (.iconst 3, 1) := by decide +kernel
theorem dX5_builds_3 : decode cX5_builds 3 = .ok (.istore_n 3, 1) := by decide +kernel
theorem dX5_builds_4 : decode cX5_builds 4 = .ok (.iload_n 3, 1) := by decide +kernel
theorem dX5_builds_5 : decode cX5_builds 5 = .ok (.ifCond .lt 41, 3) := by decide +kernel
theorem dX5_builds_8 : decode cX5_builds 8 = .ok (.aload_n 0, 1) := by decide +kernel
theorem dX5_builds_9 : decode cX5_builds 9 = .ok (.getfield 7, 3) := by decide +kernel
theorem dX5_builds_12 : decode cX5_builds 12 = .ok (.bipush 10, 2) := by decide +kernel
theorem dX5_builds_14 : decode cX5_builds 14 = .ok (.iload_n 3, 1) := by decide +kernel
theorem dX5_builds_15 : decode cX5_builds 15 = .ok (.iadd, 1) := by decide +kernel
theorem dX5_builds_16 : decode cX5_builds 16 = .ok (.iaload, 1) := by decide +kernel
theorem dX5_builds_17 : decode cX5_builds 17 = .ok (.iload_n 1, 1) := by decide +kernel
theorem dX5_builds_18 : decode cX5_builds 18 = .ok (.if_icmp .ne 20, 3) := by decide +kernel
theorem dX5_builds_21 : decode cX5_builds 21 = .ok (.aload_n 0, 1) := by decide +kernel
theorem dX5_builds_22 : decode cX5_builds 22 = .ok (.iconst 3, 1) := by decide +kernel
theorem dX5_builds_23 : decode cX5_builds 23 = .ok (.iload_n 3, 1) := by decide +kernel
theorem dX5_builds_24 : decode cX5_builds 24 = .ok (.imul, 1) := by decide +kernel
theorem dX5_builds_25 : decode cX5_builds 25 = .ok (.invokevirtual 72, 3) := by decide +kernel
theorem dX5_builds_28 : decode cX5_builds 28 = .ok (.iconst (-1), 1) := by decide +kernel
theorem dX5_builds_29 : decode cX5_builds 29 = .ok (.if_icmp .ne 9, 3) := by decide +kernel
theorem dX5_builds_32 : decode cX5_builds 32 = .ok (.iconst 3, 1) := by decide +kernel
theorem dX5_builds_33 : decode cX5_builds 33 = .ok (.iload_n 3, 1) := by decide +kernel
theorem dX5_builds_34 : decode cX5_builds 34 = .ok (.imul, 1) := by decide +kernel
theorem dX5_builds_35 : decode cX5_builds 35 = .ok (.goto 4, 3) := by decide +kernel
theorem dX5_builds_38 : decode cX5_builds 38 = .ok (.iload_n 2, 1) := by decide +kernel
theorem dX5_builds_39 : decode cX5_builds 39 = .ok (.istore_n 2, 1) := by decide +kernel
theorem dX5_builds_40 : decode cX5_builds 40 = .ok (.iinc 3 (-1), 3) := by decide +kernel
theorem dX5_builds_43 : decode cX5_builds 43 = .ok (.goto (-39), 3) := by decide +kernel
theorem dX5_builds_46 : decode cX5_builds 46 = .ok (.iload_n 2, 1) := by decide +kernel
theorem dX5_builds_47 : decode cX5_builds 47 = .ok (.iconst (-1), 1) := by decide +kernel
theorem dX5_builds_48 : decode cX5_builds 48 = .ok (.if_icmp .eq 32, 3) := by decide +kernel
theorem dX5_builds_51 : decode cX5_builds 51 = .ok (.aload_n 0, 1) := by decide +kernel
theorem dX5_builds_52 : decode cX5_builds 52 = .ok (.getfield 7, 3) := by decide +kernel
theorem dX5_builds_55 : decode cX5_builds 55 = .ok (.bipush 9, 2) := by decide +kernel
theorem dX5_builds_57 : decode cX5_builds 57 = .ok (.iaload, 1) := by decide +kernel
theorem dX5_builds_58 : decode cX5_builds 58 = .ok (.bipush 9, 2) := by decide +kernel
theorem dX5_builds_60 : decode cX5_builds 60 = .ok (.if_icmp .ge 20, 3) := by decide +kernel
theorem dX5_builds_63 : decode cX5_builds 63 = .ok (.aload_n 0, 1) := by decide +kernel
theorem dX5_builds_64 : decode cX5_builds 64 = .ok (.iload_n 1, 1) := by decide +kernel
theorem dX5_builds_65 : decode cX5_builds 65 = .ok (.iload_n 2, 1) := by decide +kernel
theorem dX5_builds_66 : decode cX5_builds 66 = .ok (.invokevirtual 122, 3) := by decide +kernel
theorem dX5_builds_69 : decode cX5_builds 69 = .ok (.aload_n 0, 1) := by decide +kernel
theorem dX5_builds_70 : decode cX5_builds 70 = .ok (.getfield 7, 3) := by decide +kernel
theorem dX5_builds_73 : decode cX5_builds 73 = .ok (.bipush 7, 2) := by decide +kernel
theorem dX5_builds_75 : decode cX5_builds 75 = .ok (.dup2, 1) := by decide +kernel
theorem dX5_builds_76 : decode cX5_builds 76 = .ok (.iaload, 1) := by decide +kernel
theorem dX5_builds_77 : decode cX5_builds 77 = .ok (.iconst 1, 1) := by decide +kernel
theorem dX5_builds_78 : decode cX5_builds 78 = .ok (.iadd, 1) := by decide +kernel
theorem dX5_builds_79 : decode cX5_builds 79 = .ok (.iastore, 1) := by decide +kernel
theorem dX5_builds_80 : decode cX5_builds 80 = .ok (.return_, 1) := by decide +kernel
set_option maxRecDepth 20000 in
theorem ggX5_endsYear_X5_belongs : GoodIn wsX5_endsYear wsX5_belongs := goodIn_r _ [6, 1, 7, 8, 9, 5, 10, 11, 12, 13, 14, 15, 16, 17, 46, 47, 48, 49, 50, 51, 52, 53, 54, 55, 56, 57, 58, 59, 60, 61, 62, 63, 64, 65] (by decide +kernel) (by decide +kernel)
set_option maxRecDepth 20000 in
theorem gX5_endsYear_X5_belongs : GoodIn wsX5_endsYear (wsV RX5 126 RX5 yX5_belongs wsX5_belongs) := goodIn_app (goodIn_of _ (by decide +kernel)) ggX5_endsYear_X5_belongs
set_option maxRecDepth 20000 in
theorem ggX5_endsYear_X5_armiesOf : GoodIn wsX5_endsYear wsX5_armiesOf := goodIn_r _ [21, 1, 11, 12, 13, 5, 14, 15, 16, 17, 46, 47, 48, 49, 50, 51, 52, 53, 54, 55, 56, 57, 58, 59, 60, 61, 62, 63, 64, 65] (by decide +kernel) (by decide +kernel)
set_option maxRecDepth 20000 in
theorem gX5_endsYear_X5_armiesOf : GoodIn wsX5_endsYear (wsV RX5 129 RX5 yX5_armiesOf wsX5_armiesOf) := goodIn_app (goodIn_of _ (by decide +kernel)) ggX5_endsYear_X5_armiesOf
set_option maxRecDepth 20000 in
theorem ggX5_endsYear_X5_centresOf : GoodIn wsX5_endsYear wsX5_centresOf := goodIn_r _ [25, 1, 46, 47, 48, 49, 50, 51, 52, 53, 54, 55, 56, 57, 58, 59, 60, 61, 62, 63, 64, 65] (by decide +kernel) (by decide +kernel)
set_option maxRecDepth 20000 in
theorem gX5_endsYear_X5_centresOf : GoodIn wsX5_endsYear (wsV RX5 132 RX5 yX5_centresOf wsX5_centresOf) := goodIn_app (goodIn_of _ (by decide +kernel)) ggX5_endsYear_X5_centresOf
set_option maxRecDepth 20000 in
theorem ggX5_endsYear_X5_highestOf : GoodIn wsX5_endsYear wsX5_highestOf := goodIn_r _ [29, 1, 11, 12, 13, 5, 14, 15, 16, 17, 46, 47, 48, 49, 50, 51, 52, 53, 54, 55, 56, 57, 58, 59, 60, 61, 62, 63, 64, 65] (by decide +kernel) (by decide +kernel)
set_option maxRecDepth 20000 in
theorem gX5_endsYear_X5_highestOf : GoodIn wsX5_endsYear (wsV RX5 135 RX5 yX5_highestOf wsX5_highestOf) := goodIn_app (goodIn_of _ (by decide +kernel)) ggX5_endsYear_X5_highestOf
set_option maxRecDepth 20000 in
theorem ggX5_endsYear_X5_goes : GoodIn wsX5_endsYear wsX5_goes := goodIn_r _ [33, 1, 15, 16, 5, 17, 46, 47, 48, 49, 50, 51, 52, 53, 54, 55, 56, 57, 58, 59, 60, 61, 62, 63, 64, 65] (by decide +kernel) (by decide +kernel)
set_option maxRecDepth 20000 in
theorem gX5_endsYear_X5_goes : GoodIn wsX5_endsYear (wsV RX5 118 RX5 yX5_goes wsX5_goes) := goodIn_app (goodIn_of _ (by decide +kernel)) ggX5_endsYear_X5_goes
set_option maxRecDepth 20000 in
theorem ggX5_endsYear_X5_builds : GoodIn wsX5_endsYear wsX5_builds := goodIn_r _ [37, 1, 7, 8, 9, 5, 10, 11, 12, 13, 14, 15, 16, 17, 38, 39, 40, 41, 42, 43, 44, 45, 46, 47, 48, 49, 50, 51, 52, 53, 54, 55, 56, 57, 58, 59, 60, 61, 62, 63, 64, 65] (by decide +kernel) (by decide +kernel)
set_option maxRecDepth 20000 in
theorem gX5_endsYear_X5_builds : GoodIn wsX5_endsYear (wsV RX5 138 RX5 yX5_builds wsX5_builds) := goodIn_app (goodIn_of _ (by decide +kernel)) ggX5_endsYear_X5_builds
theorem dX5_endsYear_0 : decode cX5_endsYear 0 = .ok (.aload_n 0, 1) := by decide +kernel
theorem dX5_endsYear_1 : decode cX5_endsYear 1 = .ok (.invokevirtual 126, 3) := by decide +kernel
theorem dX5_endsYear_4 : decode cX5_endsYear 4 = .ok (.iconst 0, 1) := by decide +kernel
theorem dX5_endsYear_5 : decode cX5_endsYear 5 = .ok (.istore_n 1, 1) := by decide +kernel
theorem dX5_endsYear_6 : decode cX5_endsYear 6 = .ok (.iload_n 1, 1) := by decide +kernel
theorem dX5_endsYear_7 : decode cX5_endsYear 7 = .ok (.iconst 3, 1) := by decide +kernel
theorem dX5_endsYear_8 : decode cX5_endsYear 8 = .ok (.if_icmp .ge 75, 3) := by decide +kernel
theorem dX5_endsYear_11 : decode cX5_endsYear 11 = .ok (.aload_n 0, 1) := by decide +kernel
theorem dX5_endsYear_12 : decode cX5_endsYear 12 = .ok (.iload_n 1, 1) := by decide +kernel
theorem dX5_endsYear_13 : decode cX5_endsYear 13 = .ok (.invokevirtual 129, 3) := by decide +kernel
theorem dX5_endsYear_16 : decode cX5_endsYear 16 = .ok (.aload_n 0, 1) := by decide +kernel
theorem dX5_endsYear_17 : decode cX5_endsYear 17 = .ok (.iload_n 1, 1) := by decide +kernel
theorem dX5_endsYear_18 : decode cX5_endsYear 18 = .ok (.invokevirtual 132, 3) := by decide +kernel
theorem dX5_endsYear_21 : decode cX5_endsYear 21 = .ok (.if_icmp .ge 7, 3) := by decide +kernel
theorem dX5_endsYear_24 : decode cX5_endsYear 24 = .ok (.iconst 1, 1) := by decide +kernel
theorem dX5_endsYear_25 : decode cX5_endsYear 25 = .ok (.goto 4, 3) := by decide +kernel
theorem dX5_endsYear_28 : decode cX5_endsYear 28 = .ok (.iconst 0, 1) := by decide +kernel
theorem dX5_endsYear_29 : decode cX5_endsYear 29 = .ok (.istore_n 2, 1) := by decide +kernel
theorem dX5_endsYear_30 : decode cX5_endsYear 30 = .ok (.aload_n 0, 1) := by decide +kernel
theorem dX5_endsYear_31 : decode cX5_endsYear 31 = .ok (.iload_n 1, 1) := by decide +kernel
theorem dX5_endsYear_32 : decode cX5_endsYear 32 = .ok (.invokevirtual 129, 3) := by decide +kernel
theorem dX5_endsYear_35 : decode cX5_endsYear 35 = .ok (.aload_n 0, 1) := by decide +kernel
theorem dX5_endsYear_36 : decode cX5_endsYear 36 = .ok (.iload_n 1, 1) := by decide +kernel
theorem dX5_endsYear_37 : decode cX5_endsYear 37 = .ok (.invokevirtual 132, 3) := by decide +kernel
theorem dX5_endsYear_40 : decode cX5_endsYear 40 = .ok (.iconst 1, 1) := by decide +kernel
theorem dX5_endsYear_41 : decode cX5_endsYear 41 = .ok (.iadd, 1) := by decide +kernel
theorem dX5_endsYear_42 : decode cX5_endsYear 42 = .ok (.if_icmp .le 26, 3) := by decide +kernel
theorem dX5_endsYear_45 : decode cX5_endsYear 45 = .ok (.aload_n 0, 1) := by decide +kernel
theorem dX5_endsYear_46 : decode cX5_endsYear 46 = .ok (.aload_n 0, 1) := by decide +kernel
theorem dX5_endsYear_47 : decode cX5_endsYear 47 = .ok (.iload_n 1, 1) := by decide +kernel
theorem dX5_endsYear_48 : decode cX5_endsYear 48 = .ok (.invokevirtual 135, 3) := by decide +kernel
theorem dX5_endsYear_51 : decode cX5_endsYear 51 = .ok (.invokevirtual 118, 3) := by decide +kernel
theorem dX5_endsYear_54 : decode cX5_endsYear 54 = .ok (.aload_n 0, 1) := by decide +kernel
theorem dX5_endsYear_55 : decode cX5_endsYear 55 = .ok (.getfield 7, 3) := by decide +kernel
theorem dX5_endsYear_58 : decode cX5_endsYear 58 = .ok (.bipush 8, 2) := by decide +kernel
theorem dX5_endsYear_60 : decode cX5_endsYear 60 = .ok (.dup2, 1) := by decide +kernel
theorem dX5_endsYear_61 : decode cX5_endsYear 61 = .ok (.iaload, 1) := by decide +kernel
theorem dX5_endsYear_62 : decode cX5_endsYear 62 = .ok (.iconst 1, 1) := by decide +kernel
theorem dX5_endsYear_63 : decode cX5_endsYear 63 = .ok (.iadd, 1) := by decide +kernel
theorem dX5_endsYear_64 : decode cX5_endsYear 64 = .ok (.iastore, 1) := by decide +kernel
theorem dX5_endsYear_65 : decode cX5_endsYear 65 = .ok (.goto (-35), 3) := by decide +kernel
theorem dX5_endsYear_68 : decode cX5_endsYear 68 = .ok (.iload_n 2, 1) := by decide +kernel
theorem dX5_endsYear_69 : decode cX5_endsYear 69 = .ok (.ifCond .eq 8, 3) := by decide +kernel
theorem dX5_endsYear_72 : decode cX5_endsYear 72 = .ok (.aload_n 0, 1) := by decide +kernel
theorem dX5_endsYear_73 : decode cX5_endsYear 73 = .ok (.iload_n 1, 1) := by decide +kernel
theorem dX5_endsYear_74 : decode cX5_endsYear 74 = .ok (.invokevirtual 138, 3) := by decide +kernel
theorem dX5_endsYear_77 : decode cX5_endsYear 77 = .ok (.iinc 1 1, 3) := by decide +kernel
theorem dX5_endsYear_80 : decode cX5_endsYear 80 = .ok (.goto (-74), 3) := by decide +kernel
theorem dX5_endsYear_83 : decode cX5_endsYear 83 = .ok (.aload_n 0, 1) := by decide +kernel
theorem dX5_endsYear_84 : decode cX5_endsYear 84 = .ok (.getfield 7, 3) := by decide +kernel
theorem dX5_endsYear_87 : decode cX5_endsYear 87 = .ok (.iconst 0, 1) := by decide +kernel
theorem dX5_endsYear_88 : decode cX5_endsYear 88 = .ok (.dup2, 1) := by decide +kernel
theorem dX5_endsYear_89 : decode cX5_endsYear 89 = .ok (.iaload, 1) := by decide +kernel
theorem dX5_endsYear_90 : decode cX5_endsYear 90 = .ok (.iconst 1, 1) := by decide +kernel
theorem dX5_endsYear_91 : decode cX5_endsYear 91 = .ok (.iadd, 1) := by decide +kernel
theorem dX5_endsYear_92 : decode cX5_endsYear 92 = .ok (.iastore, 1) := by decide +kernel
theorem dX5_endsYear_93 : decode cX5_endsYear 93 = .ok (.return_, 1) := by decide +kernel
set_option maxRecDepth 20000 in
theorem ggX5_army_X5_isSeat : GoodIn wsX5_army wsX5_isSeat := goodIn_r _ [5, 6, 7, 4, 8] (by decide +kernel) (by decide +kernel)
set_option maxRecDepth 20000 in
theorem gX5_army_X5_isSeat : GoodIn wsX5_army (va_wsS RX5 141 yX5_isSeat wsX5_isSeat) := goodIn_app (goodIn_of _ (by decide +kernel)) ggX5_army_X5_isSeat
set_option maxRecDepth 20000 in
theorem ggX5_army_X5_isField : GoodIn wsX5_army wsX5_isField := goodIn_r _ [11, 6, 7, 4, 8] (by decide +kernel) (by decide +kernel)
set_option maxRecDepth 20000 in
theorem gX5_army_X5_isField : GoodIn wsX5_army (va_wsS RX5 144 yX5_isField wsX5_isField) := goodIn_app (goodIn_of _ (by decide +kernel)) ggX5_army_X5_isField
set_option maxRecDepth 20000 in
theorem ggX5_army_X5_armyOn : GoodIn wsX5_army wsX5_armyOn := goodIn_r _ [15, 1, 16, 17, 18, 4, 19, 20, 21, 22, 42, 43, 44, 45, 46, 47, 48, 49, 50, 51, 52, 53, 54, 55, 56, 57, 58, 59, 60, 61] (by decide +kernel) (by decide +kernel)
set_option maxRecDepth 20000 in
theorem gX5_army_X5_armyOn : GoodIn wsX5_army (wsV RX5 72 RX5 yX5_armyOn wsX5_armyOn) := goodIn_app (goodIn_of _ (by decide +kernel)) ggX5_army_X5_armyOn
set_option maxRecDepth 20000 in
theorem ggX5_army_X5_holds : GoodIn wsX5_army wsX5_holds := goodIn_r _ [26, 27, 42, 43, 44, 45, 46, 47, 48, 49, 50, 51, 52, 53, 54, 55, 56, 57, 58, 59, 60, 61] (by decide +kernel) (by decide +kernel)
set_option maxRecDepth 20000 in
theorem gX5_army_X5_holds : GoodIn wsX5_army (wsV RX5 147 RX5 yX5_holds wsX5_holds) := goodIn_app (goodIn_of _ (by decide +kernel)) ggX5_army_X5_holds
set_option maxRecDepth 20000 in
theorem ggX5_army_X5_save : GoodIn wsX5_army wsX5_save := goodIn_r _ [31, 32, 33, 1, 42, 43, 44, 45, 46, 47, 48, 49, 50, 51, 52, 53, 54, 55, 56, 57, 58, 59, 60, 61] (by decide +kernel) (by decide +kernel)
set_option maxRecDepth 20000 in
theorem gX5_army_X5_save : GoodIn wsX5_army (wsV RX5 150 RX5 yX5_save wsX5_save) := goodIn_app (goodIn_of _ (by decide +kernel)) ggX5_army_X5_save
set_option maxRecDepth 20000 in
theorem ggX5_army_X5_sets : GoodIn wsX5_army wsX5_sets := goodIn_r _ [37, 1, 20, 21, 4, 22, 38, 39, 40, 41, 42, 43, 44, 45, 46, 47, 48, 49, 50, 51, 52, 53, 54, 55, 56, 57, 58, 59, 60, 61] (by decide +kernel) (by decide +kernel)
set_option maxRecDepth 20000 in
theorem gX5_army_X5_sets : GoodIn wsX5_army (wsV RX5 122 RX5 yX5_sets wsX5_sets) := goodIn_app (goodIn_of _ (by decide +kernel)) ggX5_army_X5_sets
theorem dX5_army_0 : decode cX5_army 0 = .ok (.iload_n 1, 1) := by decide +kernel
theorem dX5_army_1 : decode cX5_army 1 = .ok (.invokestatic 141, 3) := by decide +kernel
theorem dX5_army_4 : decode cX5_army 4 = .ok (.ifCond .eq 14, 3) := by decide +kernel
theorem dX5_army_7 : decode cX5_army 7 = .ok (.iload_n 2, 1) := by decide +kernel
theorem dX5_army_8 : decode cX5_army 8 = .ok (.invokestatic 144, 3) := by decide +kernel
theorem dX5_army_11 : decode cX5_army 11 = .ok (.ifCond .eq 7, 3) := by decide +kernel
theorem dX5_army_14 : decode cX5_army 14 = .ok (.iconst 1, 1) := by decide +kernel
theorem dX5_army_15 : decode cX5_army 15 = .ok (.goto 4, 3) := by decide +kernel
theorem dX5_army_18 : decode cX5_army 18 = .ok (.iconst 0, 1) := by decide +kernel
theorem dX5_army_19 : decode cX5_army 19 = .ok (.istore_n 3, 1) := by decide +kernel
theorem dX5_army_20 : decode cX5_army 20 = .ok (.aload_n 0, 1) := by decide +kernel
theorem dX5_army_21 : decode cX5_army 21 = .ok (.iload_n 3, 1) := by decide +kernel
theorem dX5_army_22 : decode cX5_army 22 = .ok (.ifCond .ne 7, 3) := by decide +kernel
theorem dX5_army_25 : decode cX5_army 25 = .ok (.iconst 1, 1) := by decide +kernel
theorem dX5_army_26 : decode cX5_army 26 = .ok (.goto 29, 3) := by decide +kernel
theorem dX5_army_29 : decode cX5_army 29 = .ok (.aload_n 0, 1) := by decide +kernel
theorem dX5_army_30 : decode cX5_army 30 = .ok (.iload_n 2, 1) := by decide +kernel
theorem dX5_army_31 : decode cX5_army 31 = .ok (.invokevirtual 72, 3) := by decide +kernel
theorem dX5_army_34 : decode cX5_army 34 = .ok (.iconst (-1), 1) := by decide +kernel
theorem dX5_army_35 : decode cX5_army 35 = .ok (.if_icmp .ne 15, 3) := by decide +kernel
theorem dX5_army_38 : decode cX5_army 38 = .ok (.aload_n 0, 1) := by decide +kernel
theorem dX5_army_39 : decode cX5_army 39 = .ok (.getfield 7, 3) := by decide +kernel
theorem dX5_army_42 : decode cX5_army 42 = .ok (.bipush 9, 2) := by decide +kernel
theorem dX5_army_44 : decode cX5_army 44 = .ok (.iaload, 1) := by decide +kernel
theorem dX5_army_45 : decode cX5_army 45 = .ok (.bipush 9, 2) := by decide +kernel
theorem dX5_army_47 : decode cX5_army 47 = .ok (.if_icmp .ne 7, 3) := by decide +kernel
theorem dX5_army_50 : decode cX5_army 50 = .ok (.iconst 2, 1) := by decide +kernel
theorem dX5_army_51 : decode cX5_army 51 = .ok (.goto 4, 3) := by decide +kernel
theorem dX5_army_54 : decode cX5_army 54 = .ok (.iconst 0, 1) := by decide +kernel
theorem dX5_army_55 : decode cX5_army 55 = .ok (.invokevirtual 147, 3) := by decide +kernel
theorem dX5_army_58 : decode cX5_army 58 = .ok (.ifCond .ne 5, 3) := by decide +kernel
theorem dX5_army_61 : decode cX5_army 61 = .ok (.iconst 0, 1) := by decide +kernel
theorem dX5_army_62 : decode cX5_army 62 = .ok (.ireturn, 1) := by decide +kernel
theorem dX5_army_63 : decode cX5_army 63 = .ok (.aload_n 0, 1) := by decide +kernel
theorem dX5_army_64 : decode cX5_army 64 = .ok (.invokevirtual 150, 3) := by decide +kernel
theorem dX5_army_67 : decode cX5_army 67 = .ok (.aload_n 0, 1) := by decide +kernel
theorem dX5_army_68 : decode cX5_army 68 = .ok (.iload_n 1, 1) := by decide +kernel
theorem dX5_army_69 : decode cX5_army 69 = .ok (.iload_n 2, 1) := by decide +kernel
theorem dX5_army_70 : decode cX5_army 70 = .ok (.invokevirtual 122, 3) := by decide +kernel
theorem dX5_army_73 : decode cX5_army 73 = .ok (.aload_n 0, 1) := by decide +kernel
theorem dX5_army_74 : decode cX5_army 74 = .ok (.getfield 7, 3) := by decide +kernel
theorem dX5_army_77 : decode cX5_army 77 = .ok (.bipush 9, 2) := by decide +kernel
theorem dX5_army_79 : decode cX5_army 79 = .ok (.iaload, 1) := by decide +kernel
theorem dX5_army_80 : decode cX5_army 80 = .ok (.iconst 1, 1) := by decide +kernel
theorem dX5_army_81 : decode cX5_army 81 = .ok (.isub, 1) := by decide +kernel
theorem dX5_army_82 : decode cX5_army 82 = .ok (.ireturn, 1) := by decide +kernel
set_option maxRecDepth 20000 in
theorem ggX5_drop_X5_isArmy : GoodIn wsX5_drop wsX5_isArmy := goodIn_r _ [6, 1, 7, 8, 5, 9, 28, 29, 30, 31, 32, 33, 34, 35, 36, 37, 38, 39, 40, 41, 42, 43, 44, 45, 46, 47] (by decide +kernel) (by decide +kernel)
set_option maxRecDepth 20000 in
theorem gX5_drop_X5_isArmy : GoodIn wsX5_drop (wsV RX5 153 RX5 yX5_isArmy wsX5_isArmy) := goodIn_app (goodIn_of _ (by decide +kernel)) ggX5_drop_X5_isArmy
set_option maxRecDepth 20000 in
theorem ggX5_drop_X5_holds : GoodIn wsX5_drop wsX5_holds := goodIn_r _ [13, 14, 28, 29, 30, 31, 32, 33, 34, 35, 36, 37, 38, 39, 40, 41, 42, 43, 44, 45, 46, 47] (by decide +kernel) (by decide +kernel)
set_option maxRecDepth 20000 in
theorem gX5_drop_X5_holds : GoodIn wsX5_drop (wsV RX5 147 RX5 yX5_holds wsX5_holds) := goodIn_app (goodIn_of _ (by decide +kernel)) ggX5_drop_X5_holds
set_option maxRecDepth 20000 in
theorem ggX5_drop_X5_save : GoodIn wsX5_drop wsX5_save := goodIn_r _ [18, 19, 20, 1, 28, 29, 30, 31, 32, 33, 34, 35, 36, 37, 38, 39, 40, 41, 42, 43, 44, 45, 46, 47] (by decide +kernel) (by decide +kernel)
set_option maxRecDepth 20000 in
theorem gX5_drop_X5_save : GoodIn wsX5_drop (wsV RX5 150 RX5 yX5_save wsX5_save) := goodIn_app (goodIn_of _ (by decide +kernel)) ggX5_drop_X5_save
set_option maxRecDepth 20000 in
theorem ggX5_drop_X5_goes : GoodIn wsX5_drop wsX5_goes := goodIn_r _ [24, 1, 25, 26, 5, 27, 28, 29, 30, 31, 32, 33, 34, 35, 36, 37, 38, 39, 40, 41, 42, 43, 44, 45, 46, 47] (by decide +kernel) (by decide +kernel)
set_option maxRecDepth 20000 in
theorem gX5_drop_X5_goes : GoodIn wsX5_drop (wsV RX5 118 RX5 yX5_goes wsX5_goes) := goodIn_app (goodIn_of _ (by decide +kernel)) ggX5_drop_X5_goes
theorem dX5_drop_0 : decode cX5_drop 0 = .ok (.aload_n 0, 1) := by decide +kernel
theorem dX5_drop_1 : decode cX5_drop 1 = .ok (.aload_n 0, 1) := by decide +kernel
theorem dX5_drop_2 : decode cX5_drop 2 = .ok (.iload_n 1, 1) := by decide +kernel
theorem dX5_drop_3 : decode cX5_drop 3 = .ok (.invokevirtual 153, 3) := by decide +kernel
theorem dX5_drop_6 : decode cX5_drop 6 = .ok (.ifCond .eq 7, 3) := by decide +kernel
theorem dX5_drop_9 : decode cX5_drop 9 = .ok (.iconst 0, 1) := by decide +kernel
theorem dX5_drop_10 : decode cX5_drop 10 = .ok (.goto 4, 3) := by decide +kernel
theorem dX5_drop_13 : decode cX5_drop 13 = .ok (.iconst 1, 1) := by decide +kernel
theorem dX5_drop_14 : decode cX5_drop 14 = .ok (.invokevirtual 147, 3) := by decide +kernel
theorem dX5_drop_17 : decode cX5_drop 17 = .ok (.ifCond .ne 5, 3) := by decide +kernel
theorem dX5_drop_20 : decode cX5_drop 20 = .ok (.iconst 0, 1) := by decide +kernel
theorem dX5_drop_21 : decode cX5_drop 21 = .ok (.ireturn, 1) := by decide +kernel
theorem dX5_drop_22 : decode cX5_drop 22 = .ok (.aload_n 0, 1) := by decide +kernel
theorem dX5_drop_23 : decode cX5_drop 23 = .ok (.invokevirtual 150, 3) := by decide +kernel
theorem dX5_drop_26 : decode cX5_drop 26 = .ok (.aload_n 0, 1) := by decide +kernel
theorem dX5_drop_27 : decode cX5_drop 27 = .ok (.iload_n 1, 1) := by decide +kernel
theorem dX5_drop_28 : decode cX5_drop 28 = .ok (.invokevirtual 118, 3) := by decide +kernel
theorem dX5_drop_31 : decode cX5_drop 31 = .ok (.aload_n 0, 1) := by decide +kernel
theorem dX5_drop_32 : decode cX5_drop 32 = .ok (.getfield 7, 3) := by decide +kernel
theorem dX5_drop_35 : decode cX5_drop 35 = .ok (.bipush 9, 2) := by decide +kernel
theorem dX5_drop_37 : decode cX5_drop 37 = .ok (.iaload, 1) := by decide +kernel
theorem dX5_drop_38 : decode cX5_drop 38 = .ok (.ireturn, 1) := by decide +kernel
set_option maxRecDepth 20000 in
theorem ggX5_ordered_X5_save : GoodIn wsX5_ordered wsX5_save := goodIn_r _ [5, 6, 7, 8, 20, 21, 22, 23, 24, 25, 26, 27, 28, 29, 30, 31, 32, 33, 34, 35, 36, 37, 38, 39] (by decide +kernel) (by decide +kernel)
set_option maxRecDepth 20000 in
theorem gX5_ordered_X5_save : GoodIn wsX5_ordered (wsV RX5 150 RX5 yX5_save wsX5_save) := goodIn_app (goodIn_of _ (by decide +kernel)) ggX5_ordered_X5_save
set_option maxRecDepth 20000 in
theorem ggX5_ordered_X5_of : GoodIn wsX5_ordered wsX5_of := goodIn_r _ [12, 8, 13, 14, 4, 15, 20, 21, 22, 23, 24, 25, 26, 27, 28, 29, 30, 31, 32, 33, 34, 35, 36, 37, 38, 39] (by decide +kernel) (by decide +kernel)
set_option maxRecDepth 20000 in
theorem gX5_ordered_X5_of : GoodIn wsX5_ordered (wsV RX5 65 RX5 yX5_of wsX5_of) := goodIn_app (goodIn_of _ (by decide +kernel)) ggX5_ordered_X5_of
set_option maxRecDepth 20000 in
theorem ggX5_ordered_X5_lays : GoodIn wsX5_ordered wsX5_lays := goodIn_r _ [19, 8, 13, 14, 4, 15, 20, 21, 22, 23, 24, 25, 26, 27, 28, 29, 30, 31, 32, 33, 34, 35, 36, 37, 38, 39] (by decide +kernel) (by decide +kernel)
set_option maxRecDepth 20000 in
theorem gX5_ordered_X5_lays : GoodIn wsX5_ordered (wsV RX5 114 RX5 yX5_lays wsX5_lays) := goodIn_app (goodIn_of _ (by decide +kernel)) ggX5_ordered_X5_lays
theorem dX5_ordered_0 : decode cX5_ordered 0 = .ok (.aload_n 0, 1) := by decide +kernel
theorem dX5_ordered_1 : decode cX5_ordered 1 = .ok (.invokevirtual 150, 3) := by decide +kernel
theorem dX5_ordered_4 : decode cX5_ordered 4 = .ok (.aload_n 0, 1) := by decide +kernel
theorem dX5_ordered_5 : decode cX5_ordered 5 = .ok (.iload_n 1, 1) := by decide +kernel
theorem dX5_ordered_6 : decode cX5_ordered 6 = .ok (.iconst 2, 1) := by decide +kernel
theorem dX5_ordered_7 : decode cX5_ordered 7 = .ok (.invokevirtual 65, 3) := by decide +kernel
theorem dX5_ordered_10 : decode cX5_ordered 10 = .ok (.istore 5, 2) := by decide +kernel
theorem dX5_ordered_12 : decode cX5_ordered 12 = .ok (.aload_n 0, 1) := by decide +kernel
theorem dX5_ordered_13 : decode cX5_ordered 13 = .ok (.iload_n 1, 1) := by decide +kernel
theorem dX5_ordered_14 : decode cX5_ordered 14 = .ok (.iload_n 2, 1) := by decide +kernel
theorem dX5_ordered_15 : decode cX5_ordered 15 = .ok (.iload_n 3, 1) := by decide +kernel
theorem dX5_ordered_16 : decode cX5_ordered 16 = .ok (.iload 4, 2) := by decide +kernel
theorem dX5_ordered_18 : decode cX5_ordered 18 = .ok (.invokevirtual 114, 3) := by decide +kernel
theorem dX5_ordered_21 : decode cX5_ordered 21 = .ok (.iload 5, 2) := by decide +kernel
theorem dX5_ordered_23 : decode cX5_ordered 23 = .ok (.ireturn, 1) := by decide +kernel
set_option maxRecDepth 20000 in
theorem ggX5_hold_X5_isArmy : GoodIn wsX5_hold wsX5_isArmy := goodIn_r _ [5, 6, 7, 8, 4, 9, 36, 37, 38, 39, 40, 41, 42, 43, 44, 45, 46, 47, 48, 49, 50, 51, 52, 53, 54, 55] (by decide +kernel) (by decide +kernel)
set_option maxRecDepth 20000 in
theorem gX5_hold_X5_isArmy : GoodIn wsX5_hold (wsV RX5 153 RX5 yX5_isArmy wsX5_isArmy) := goodIn_app (goodIn_of _ (by decide +kernel)) ggX5_hold_X5_isArmy
set_option maxRecDepth 20000 in
theorem ggX5_hold_X5_holds : GoodIn wsX5_hold wsX5_holds := goodIn_r _ [13, 14, 36, 37, 38, 39, 40, 41, 42, 43, 44, 45, 46, 47, 48, 49, 50, 51, 52, 53, 54, 55] (by decide +kernel) (by decide +kernel)
set_option maxRecDepth 20000 in
theorem gX5_hold_X5_holds : GoodIn wsX5_hold (wsV RX5 147 RX5 yX5_holds wsX5_holds) := goodIn_app (goodIn_of _ (by decide +kernel)) ggX5_hold_X5_holds
set_option maxRecDepth 20000 in
theorem ggX5_hold_X5_ordered : GoodIn wsX5_hold wsX5_ordered := goodIn_r _ [18, 19, 20, 21, 4, 22, 23, 24, 6, 25, 26, 27, 28, 29, 30, 31, 32, 33, 34, 35, 36, 37, 38, 39, 40, 41, 42, 43, 44, 45, 46, 47, 48, 49, 50, 51, 52, 53, 54, 55] (by decide +kernel) (by decide +kernel)
set_option maxRecDepth 20000 in
theorem gX5_hold_X5_ordered : GoodIn wsX5_hold (wsV RX5 156 RX5 yX5_ordered wsX5_ordered) := goodIn_app (goodIn_of _ (by decide +kernel)) ggX5_hold_X5_ordered
theorem dX5_hold_0 : decode cX5_hold 0 = .ok (.aload_n 0, 1) := by decide +kernel
theorem dX5_hold_1 : decode cX5_hold 1 = .ok (.aload_n 0, 1) := by decide +kernel
theorem dX5_hold_2 : decode cX5_hold 2 = .ok (.iload_n 1, 1) := by decide +kernel
theorem dX5_hold_3 : decode cX5_hold 3 = .ok (.invokevirtual 153, 3) := by decide +kernel
theorem dX5_hold_6 : decode cX5_hold 6 = .ok (.ifCond .eq 7, 3) := by decide +kernel
theorem dX5_hold_9 : decode cX5_hold 9 = .ok (.iconst 0, 1) := by decide +kernel
theorem dX5_hold_10 : decode cX5_hold 10 = .ok (.goto 4, 3) := by decide +kernel
theorem dX5_hold_13 : decode cX5_hold 13 = .ok (.iconst 1, 1) := by decide +kernel
theorem dX5_hold_14 : decode cX5_hold 14 = .ok (.invokevirtual 147, 3) := by decide +kernel
theorem dX5_hold_17 : decode cX5_hold 17 = .ok (.ifCond .eq 14, 3) := by decide +kernel
theorem dX5_hold_20 : decode cX5_hold 20 = .ok (.aload_n 0, 1) := by decide +kernel
theorem dX5_hold_21 : decode cX5_hold 21 = .ok (.iload_n 1, 1) := by decide +kernel
theorem dX5_hold_22 : decode cX5_hold 22 = .ok (.iconst 0, 1) := by decide +kernel
theorem dX5_hold_23 : decode cX5_hold 23 = .ok (.iconst (-1), 1) := by decide +kernel
theorem dX5_hold_24 : decode cX5_hold 24 = .ok (.iconst (-1), 1) := by decide +kernel
theorem dX5_hold_25 : decode cX5_hold 25 = .ok (.invokevirtual 156, 3) := by decide +kernel
theorem dX5_hold_28 : decode cX5_hold 28 = .ok (.goto 4, 3) := by decide +kernel
theorem dX5_hold_31 : decode cX5_hold 31 = .ok (.iconst 0, 1) := by decide +kernel
theorem dX5_hold_32 : decode cX5_hold 32 = .ok (.ireturn, 1) := by decide +kernel
set_option maxRecDepth 20000 in
theorem ggX5_move_X5_isArmy : GoodIn wsX5_move wsX5_isArmy := goodIn_r _ [5, 6, 7, 8, 4, 9, 42, 43, 44, 45, 46, 47, 48, 49, 50, 51, 52, 53, 54, 55, 56, 57, 58, 59, 60, 61] (by decide +kernel) (by decide +kernel)
set_option maxRecDepth 20000 in
theorem gX5_move_X5_isArmy : GoodIn wsX5_move (wsV RX5 153 RX5 yX5_isArmy wsX5_isArmy) := goodIn_app (goodIn_of _ (by decide +kernel)) ggX5_move_X5_isArmy
set_option maxRecDepth 20000 in
theorem ggX5_move_X5_isField : GoodIn wsX5_move wsX5_isField := goodIn_r _ [12, 7, 8, 4, 9] (by decide +kernel) (by decide +kernel)
set_option maxRecDepth 20000 in
theorem gX5_move_X5_isField : GoodIn wsX5_move (va_wsS RX5 144 yX5_isField wsX5_isField) := goodIn_app (goodIn_of _ (by decide +kernel)) ggX5_move_X5_isField
set_option maxRecDepth 20000 in
theorem ggX5_move_X5_of : GoodIn wsX5_move wsX5_of := goodIn_r _ [16, 6, 17, 18, 4, 19, 42, 43, 44, 45, 46, 47, 48, 49, 50, 51, 52, 53, 54, 55, 56, 57, 58, 59, 60, 61] (by decide +kernel) (by decide +kernel)
set_option maxRecDepth 20000 in
theorem gX5_move_X5_of : GoodIn wsX5_move (wsV RX5 65 RX5 yX5_of wsX5_of) := goodIn_app (goodIn_of _ (by decide +kernel)) ggX5_move_X5_of
set_option maxRecDepth 20000 in
theorem ggX5_move_X5_areNeighbours : GoodIn wsX5_move wsX5_areNeighbours := goodIn_r _ [22] (by decide +kernel) (by decide +kernel)
set_option maxRecDepth 20000 in
theorem gX5_move_X5_areNeighbours : GoodIn wsX5_move (va_wsS RX5 92 yX5_areNeighbours wsX5_areNeighbours) := goodIn_app (goodIn_of _ (by decide +kernel)) ggX5_move_X5_areNeighbours
set_option maxRecDepth 20000 in
theorem ggX5_move_X5_holds : GoodIn wsX5_move wsX5_holds := goodIn_r _ [26, 27, 42, 43, 44, 45, 46, 47, 48, 49, 50, 51, 52, 53, 54, 55, 56, 57, 58, 59, 60, 61] (by decide +kernel) (by decide +kernel)
set_option maxRecDepth 20000 in
theorem gX5_move_X5_holds : GoodIn wsX5_move (wsV RX5 147 RX5 yX5_holds wsX5_holds) := goodIn_app (goodIn_of _ (by decide +kernel)) ggX5_move_X5_holds
set_option maxRecDepth 20000 in
theorem ggX5_move_X5_ordered : GoodIn wsX5_move wsX5_ordered := goodIn_r _ [31, 32, 33, 34, 4, 35, 36, 37, 6, 13, 14, 15, 16, 17, 18, 19, 38, 39, 40, 41, 42, 43, 44, 45, 46, 47, 48, 49, 50, 51, 52, 53, 54, 55, 56, 57, 58, 59, 60, 61] (by decide +kernel) (by decide +kernel)
set_option maxRecDepth 20000 in
theorem gX5_move_X5_ordered : GoodIn wsX5_move (wsV RX5 156 RX5 yX5_ordered wsX5_ordered) := goodIn_app (goodIn_of _ (by decide +kernel)) ggX5_move_X5_ordered
theorem dX5_move_0 : decode cX5_move 0 = .ok (.aload_n 0, 1) := by decide +kernel
theorem dX5_move_1 : decode cX5_move 1 = .ok (.iload_n 1, 1) := by decide +kernel
theorem dX5_move_2 : decode cX5_move 2 = .ok (.invokevirtual 153, 3) := by decide +kernel
theorem dX5_move_5 : decode cX5_move 5 = .ok (.ifCond .eq 14, 3) := by decide +kernel
theorem dX5_move_8 : decode cX5_move 8 = .ok (.iload_n 2, 1) := by decide +kernel
theorem dX5_move_9 : decode cX5_move 9 = .ok (.invokestatic 144, 3) := by decide +kernel
theorem dX5_move_12 : decode cX5_move 12 = .ok (.ifCond .eq 7, 3) := by decide +kernel
theorem dX5_move_15 : decode cX5_move 15 = .ok (.iconst 1, 1) := by decide +kernel
theorem dX5_move_16 : decode cX5_move 16 = .ok (.goto 4, 3) := by decide +kernel
theorem dX5_move_19 : decode cX5_move 19 = .ok (.iconst 0, 1) := by decide +kernel
theorem dX5_move_20 : decode cX5_move 20 = .ok (.istore_n 3, 1) := by decide +kernel
theorem dX5_move_21 : decode cX5_move 21 = .ok (.aload_n 0, 1) := by decide +kernel
theorem dX5_move_22 : decode cX5_move 22 = .ok (.iload_n 3, 1) := by decide +kernel
theorem dX5_move_23 : decode cX5_move 23 = .ok (.ifCond .ne 7, 3) := by decide +kernel
theorem dX5_move_26 : decode cX5_move 26 = .ok (.iconst 1, 1) := by decide +kernel
theorem dX5_move_27 : decode cX5_move 27 = .ok (.goto 21, 3) := by decide +kernel
theorem dX5_move_30 : decode cX5_move 30 = .ok (.aload_n 0, 1) := by decide +kernel
theorem dX5_move_31 : decode cX5_move 31 = .ok (.iload_n 1, 1) := by decide +kernel
theorem dX5_move_32 : decode cX5_move 32 = .ok (.iconst 1, 1) := by decide +kernel
theorem dX5_move_33 : decode cX5_move 33 = .ok (.invokevirtual 65, 3) := by decide +kernel
theorem dX5_move_36 : decode cX5_move 36 = .ok (.iload_n 2, 1) := by decide +kernel
theorem dX5_move_37 : decode cX5_move 37 = .ok (.invokestatic 92, 3) := by decide +kernel
theorem dX5_move_40 : decode cX5_move 40 = .ok (.ifCond .ne 7, 3) := by decide +kernel
theorem dX5_move_43 : decode cX5_move 43 = .ok (.iconst 2, 1) := by decide +kernel
theorem dX5_move_44 : decode cX5_move 44 = .ok (.goto 4, 3) := by decide +kernel
theorem dX5_move_47 : decode cX5_move 47 = .ok (.iconst 0, 1) := by decide +kernel
theorem dX5_move_48 : decode cX5_move 48 = .ok (.invokevirtual 147, 3) := by decide +kernel
theorem dX5_move_51 : decode cX5_move 51 = .ok (.ifCond .eq 14, 3) := by decide +kernel
theorem dX5_move_54 : decode cX5_move 54 = .ok (.aload_n 0, 1) := by decide +kernel
theorem dX5_move_55 : decode cX5_move 55 = .ok (.iload_n 1, 1) := by decide +kernel
theorem dX5_move_56 : decode cX5_move 56 = .ok (.iconst 1, 1) := by decide +kernel
theorem dX5_move_57 : decode cX5_move 57 = .ok (.iload_n 2, 1) := by decide +kernel
theorem dX5_move_58 : decode cX5_move 58 = .ok (.iconst (-1), 1) := by decide +kernel
theorem dX5_move_59 : decode cX5_move 59 = .ok (.invokevirtual 156, 3) := by decide +kernel
theorem dX5_move_62 : decode cX5_move 62 = .ok (.goto 4, 3) := by decide +kernel
theorem dX5_move_65 : decode cX5_move 65 = .ok (.iconst 0, 1) := by decide +kernel
theorem dX5_move_66 : decode cX5_move 66 = .ok (.ireturn, 1) := by decide +kernel
set_option maxRecDepth 20000 in
theorem ggX5_canSupport_X5_of : GoodIn wsX5_canSupport wsX5_of := goodIn_r _ [5, 6, 7, 8, 4, 9, 13, 14, 15, 16, 17, 18, 19, 20, 21, 22, 23, 24, 25, 26, 27, 28, 29, 30, 31, 32] (by decide +kernel) (by decide +kernel)
set_option maxRecDepth 20000 in
theorem gX5_canSupport_X5_of : GoodIn wsX5_canSupport (wsV RX5 65 RX5 yX5_of wsX5_of) := goodIn_app (goodIn_of _ (by decide +kernel)) ggX5_canSupport_X5_of
set_option maxRecDepth 20000 in
theorem ggX5_canSupport_X5_areNeighbours : GoodIn wsX5_canSupport wsX5_areNeighbours := goodIn_r _ [12] (by decide +kernel) (by decide +kernel)
set_option maxRecDepth 20000 in
theorem gX5_canSupport_X5_areNeighbours : GoodIn wsX5_canSupport (va_wsS RX5 92 yX5_areNeighbours wsX5_areNeighbours) := goodIn_app (goodIn_of _ (by decide +kernel)) ggX5_canSupport_X5_areNeighbours
theorem dX5_canSupport_0 : decode cX5_canSupport 0 = .ok (.aload_n 0, 1) := by decide +kernel
theorem dX5_canSupport_1 : decode cX5_canSupport 1 = .ok (.iload_n 1, 1) := by decide +kernel
theorem dX5_canSupport_2 : decode cX5_canSupport 2 = .ok (.iconst 1, 1) := by decide +kernel
theorem dX5_canSupport_3 : decode cX5_canSupport 3 = .ok (.invokevirtual 65, 3) := by decide +kernel
theorem dX5_canSupport_6 : decode cX5_canSupport 6 = .ok (.iload_n 3, 1) := by decide +kernel
theorem dX5_canSupport_7 : decode cX5_canSupport 7 = .ok (.invokestatic 92, 3) := by decide +kernel
theorem dX5_canSupport_10 : decode cX5_canSupport 10 = .ok (.ifCond .eq 20, 3) := by decide +kernel
theorem dX5_canSupport_13 : decode cX5_canSupport 13 = .ok (.iload_n 2, 1) := by decide +kernel
theorem dX5_canSupport_14 : decode cX5_canSupport 14 = .ok (.iload_n 3, 1) := by decide +kernel
theorem dX5_canSupport_15 : decode cX5_canSupport 15 = .ok (.if_icmp .eq 11, 3) := by decide +kernel
theorem dX5_canSupport_18 : decode cX5_canSupport 18 = .ok (.iload_n 2, 1) := by decide +kernel
theorem dX5_canSupport_19 : decode cX5_canSupport 19 = .ok (.iload_n 3, 1) := by decide +kernel
theorem dX5_canSupport_20 : decode cX5_canSupport 20 = .ok (.invokestatic 92, 3) := by decide +kernel
theorem dX5_canSupport_23 : decode cX5_canSupport 23 = .ok (.ifCond .eq 7, 3) := by decide +kernel
theorem dX5_canSupport_26 : decode cX5_canSupport 26 = .ok (.iconst 1, 1) := by decide +kernel
theorem dX5_canSupport_27 : decode cX5_canSupport 27 = .ok (.goto 4, 3) := by decide +kernel
theorem dX5_canSupport_30 : decode cX5_canSupport 30 = .ok (.iconst 0, 1) := by decide +kernel
theorem dX5_canSupport_31 : decode cX5_canSupport 31 = .ok (.ireturn, 1) := by decide +kernel
set_option maxRecDepth 20000 in
theorem ggX5_support_X5_isArmy : GoodIn wsX5_support wsX5_isArmy := goodIn_r _ [5, 6, 7, 8, 4, 9, 46, 47, 48, 49, 50, 51, 52, 53, 54, 55, 56, 57, 58, 59, 60, 61, 62, 63, 64, 65] (by decide +kernel) (by decide +kernel)
set_option maxRecDepth 20000 in
theorem gX5_support_X5_isArmy : GoodIn wsX5_support (wsV RX5 153 RX5 yX5_isArmy wsX5_isArmy) := goodIn_app (goodIn_of _ (by decide +kernel)) ggX5_support_X5_isArmy
set_option maxRecDepth 20000 in
theorem ggX5_support_X5_isField : GoodIn wsX5_support wsX5_isField := goodIn_r _ [12, 7, 8, 4, 9] (by decide +kernel) (by decide +kernel)
set_option maxRecDepth 20000 in
theorem gX5_support_X5_isField : GoodIn wsX5_support (va_wsS RX5 144 yX5_isField wsX5_isField) := goodIn_app (goodIn_of _ (by decide +kernel)) ggX5_support_X5_isField
set_option maxRecDepth 20000 in
theorem ggX5_support_X5_canSupport : GoodIn wsX5_support wsX5_canSupport := goodIn_r _ [16, 17, 18, 19, 4, 20, 6, 21, 22, 23, 24, 25, 26, 46, 47, 48, 49, 50, 51, 52, 53, 54, 55, 56, 57, 58, 59, 60, 61, 62, 63, 64, 65] (by decide +kernel) (by decide +kernel)
set_option maxRecDepth 20000 in
theorem gX5_support_X5_canSupport : GoodIn wsX5_support (wsV RX5 160 RX5 yX5_canSupport wsX5_canSupport) := goodIn_app (goodIn_of _ (by decide +kernel)) ggX5_support_X5_canSupport
set_option maxRecDepth 20000 in
theorem ggX5_support_X5_holds : GoodIn wsX5_support wsX5_holds := goodIn_r _ [30, 31, 46, 47, 48, 49, 50, 51, 52, 53, 54, 55, 56, 57, 58, 59, 60, 61, 62, 63, 64, 65] (by decide +kernel) (by decide +kernel)
set_option maxRecDepth 20000 in
theorem gX5_support_X5_holds : GoodIn wsX5_support (wsV RX5 147 RX5 yX5_holds wsX5_holds) := goodIn_app (goodIn_of _ (by decide +kernel)) ggX5_support_X5_holds
set_option maxRecDepth 20000 in
theorem ggX5_support_X5_ordered : GoodIn wsX5_support wsX5_ordered := goodIn_r _ [35, 36, 37, 38, 4, 39, 40, 41, 6, 17, 18, 19, 20, 21, 22, 23, 42, 43, 44, 45, 46, 47, 48, 49, 50, 51, 52, 53, 54, 55, 56, 57, 58, 59, 60, 61, 62, 63, 64, 65] (by decide +kernel) (by decide +kernel)
set_option maxRecDepth 20000 in
theorem gX5_support_X5_ordered : GoodIn wsX5_support (wsV RX5 156 RX5 yX5_ordered wsX5_ordered) := goodIn_app (goodIn_of _ (by decide +kernel)) ggX5_support_X5_ordered
theorem dX5_support_0 : decode cX5_support 0 = .ok (.aload_n 0, 1) := by decide +kernel
theorem dX5_support_1 : decode cX5_support 1 = .ok (.iload_n 1, 1) := by decide +kernel
theorem dX5_support_2 : decode cX5_support 2 = .ok (.invokevirtual 153, 3) := by decide +kernel
theorem dX5_support_5 : decode cX5_support 5 = .ok (.ifCond .eq 21, 3) := by decide +kernel
theorem dX5_support_8 : decode cX5_support 8 = .ok (.iload_n 2, 1) := by decide +kernel
theorem dX5_support_9 : decode cX5_support 9 = .ok (.invokestatic 144, 3) := by decide +kernel
theorem dX5_support_12 : decode cX5_support 12 = .ok (.ifCond .eq 14, 3) := by decide +kernel
theorem dX5_support_15 : decode cX5_support 15 = .ok (.iload_n 3, 1) := by decide +kernel
theorem dX5_support_16 : decode cX5_support 16 = .ok (.invokestatic 144, 3) := by decide +kernel
theorem dX5_support_19 : decode cX5_support 19 = .ok (.ifCond .eq 7, 3) := by decide +kernel
theorem dX5_support_22 : decode cX5_support 22 = .ok (.iconst 1, 1) := by decide +kernel
theorem dX5_support_23 : decode cX5_support 23 = .ok (.goto 4, 3) := by decide +kernel
theorem dX5_support_26 : decode cX5_support 26 = .ok (.iconst 0, 1) := by decide +kernel
theorem dX5_support_27 : decode cX5_support 27 = .ok (.istore 4, 2) := by decide +kernel
theorem dX5_support_29 : decode cX5_support 29 = .ok (.aload_n 0, 1) := by decide +kernel
theorem dX5_support_30 : decode cX5_support 30 = .ok (.iload 4, 2) := by decide +kernel
theorem dX5_support_32 : decode cX5_support 32 = .ok (.ifCond .ne 7, 3) := by decide +kernel
theorem dX5_support_35 : decode cX5_support 35 = .ok (.iconst 1, 1) := by decide +kernel
theorem dX5_support_36 : decode cX5_support 36 = .ok (.goto 18, 3) := by decide +kernel
theorem dX5_support_39 : decode cX5_support 39 = .ok (.aload_n 0, 1) := by decide +kernel
theorem dX5_support_40 : decode cX5_support 40 = .ok (.iload_n 1, 1) := by decide +kernel
theorem dX5_support_41 : decode cX5_support 41 = .ok (.iload_n 2, 1) := by decide +kernel
theorem dX5_support_42 : decode cX5_support 42 = .ok (.iload_n 3, 1) := by decide +kernel
theorem dX5_support_43 : decode cX5_support 43 = .ok (.invokevirtual 160, 3) := by decide +kernel
theorem dX5_support_46 : decode cX5_support 46 = .ok (.ifCond .ne 7, 3) := by decide +kernel
theorem dX5_support_49 : decode cX5_support 49 = .ok (.iconst 2, 1) := by decide +kernel
theorem dX5_support_50 : decode cX5_support 50 = .ok (.goto 4, 3) := by decide +kernel
theorem dX5_support_53 : decode cX5_support 53 = .ok (.iconst 0, 1) := by decide +kernel
theorem dX5_support_54 : decode cX5_support 54 = .ok (.invokevirtual 147, 3) := by decide +kernel
theorem dX5_support_57 : decode cX5_support 57 = .ok (.ifCond .eq 14, 3) := by decide +kernel
theorem dX5_support_60 : decode cX5_support 60 = .ok (.aload_n 0, 1) := by decide +kernel
theorem dX5_support_61 : decode cX5_support 61 = .ok (.iload_n 1, 1) := by decide +kernel
theorem dX5_support_62 : decode cX5_support 62 = .ok (.iconst 2, 1) := by decide +kernel
theorem dX5_support_63 : decode cX5_support 63 = .ok (.iload_n 3, 1) := by decide +kernel
theorem dX5_support_64 : decode cX5_support 64 = .ok (.iload_n 2, 1) := by decide +kernel
theorem dX5_support_65 : decode cX5_support 65 = .ok (.invokevirtual 156, 3) := by decide +kernel
theorem dX5_support_68 : decode cX5_support 68 = .ok (.goto 4, 3) := by decide +kernel
theorem dX5_support_71 : decode cX5_support 71 = .ok (.iconst 0, 1) := by decide +kernel
theorem dX5_support_72 : decode cX5_support 72 = .ok (.ireturn, 1) := by decide +kernel
set_option maxRecDepth 20000 in
theorem ggX5_open_X5_save : GoodIn wsX5_open wsX5_save := goodIn_r _ [7, 8, 9, 2, 120, 121, 122, 123, 124, 125, 126, 127, 128, 129, 130, 131, 132, 133, 134, 135, 136, 137, 138, 139] (by decide +kernel) (by decide +kernel)
set_option maxRecDepth 20000 in
theorem gX5_open_X5_save : GoodIn wsX5_open (wsV RX5 150 RX5 yX5_save wsX5_save) := goodIn_app (goodIn_of _ (by decide +kernel)) ggX5_open_X5_save
set_option maxRecDepth 20000 in
theorem ggX5_open_X5_opens : GoodIn wsX5_open wsX5_opens := goodIn_r _ [13, 2, 14, 15, 16, 17, 18, 19, 6, 20, 21, 22, 23, 24, 25, 26, 27, 28, 29, 30, 31, 32, 33, 34, 35, 36, 37, 38, 39, 40, 41, 42, 43, 44, 45, 46, 47, 48, 49, 50, 51, 52, 53, 54, 55, 56, 57, 58, 59, 60, 61, 62, 63, 64, 65, 66, 67, 68, 69, 70, 71, 72, 73, 74, 75, 76, 77, 78, 79, 80, 81, 82, 83, 84, 85, 86, 87, 88, 89, 90, 91, 120, 121, 122, 123, 124, 125, 126, 127, 128, 129, 130, 131, 132, 133, 134, 135, 136, 137, 138, 139] (by decide +kernel) (by decide +kernel)
set_option maxRecDepth 20000 in
theorem gX5_open_X5_opens : GoodIn wsX5_open (wsV RX5 163 RX5 yX5_opens wsX5_opens) := goodIn_app (goodIn_of _ (by decide +kernel)) ggX5_open_X5_opens
set_option maxRecDepth 20000 in
theorem ggX5_open_X5_endsYear : GoodIn wsX5_open wsX5_endsYear := goodIn_r _ [95, 2, 96, 97, 98, 6, 99, 53, 54, 55, 56, 30, 31, 32, 33, 34, 35, 36, 100, 101, 102, 103, 104, 105, 106, 107, 108, 109, 110, 111, 88, 89, 90, 91, 112, 113, 114, 115, 116, 117, 118, 119, 84, 85, 86, 87, 120, 121, 122, 123, 124, 125, 126, 127, 128, 129, 130, 131, 132, 133, 134, 135, 136, 137, 138, 139] (by decide +kernel) (by decide +kernel)
set_option maxRecDepth 20000 in
theorem gX5_open_X5_endsYear : GoodIn wsX5_open (wsV RX5 166 RX5 yX5_endsYear wsX5_endsYear) := goodIn_app (goodIn_of _ (by decide +kernel)) ggX5_open_X5_endsYear
theorem dX5_open_0 : decode cX5_open 0 = .ok (.aload_n 0, 1) := by decide +kernel
theorem dX5_open_1 : decode cX5_open 1 = .ok (.iconst 0, 1) := by decide +kernel
theorem dX5_open_2 : decode cX5_open 2 = .ok (.putfield 50, 3) := by decide +kernel
theorem dX5_open_5 : decode cX5_open 5 = .ok (.aload_n 0, 1) := by decide +kernel
theorem dX5_open_6 : decode cX5_open 6 = .ok (.invokevirtual 150, 3) := by decide +kernel
theorem dX5_open_9 : decode cX5_open 9 = .ok (.aload_n 0, 1) := by decide +kernel
theorem dX5_open_10 : decode cX5_open 10 = .ok (.invokevirtual 163, 3) := by decide +kernel
theorem dX5_open_13 : decode cX5_open 13 = .ok (.istore_n 1, 1) := by decide +kernel
theorem dX5_open_14 : decode cX5_open 14 = .ok (.aload_n 0, 1) := by decide +kernel
theorem dX5_open_15 : decode cX5_open 15 = .ok (.getfield 7, 3) := by decide +kernel
theorem dX5_open_18 : decode cX5_open 18 = .ok (.iconst 1, 1) := by decide +kernel
theorem dX5_open_19 : decode cX5_open 19 = .ok (.iaload, 1) := by decide +kernel
theorem dX5_open_20 : decode cX5_open 20 = .ok (.iconst 1, 1) := by decide +kernel
theorem dX5_open_21 : decode cX5_open 21 = .ok (.if_icmp .ne 7, 3) := by decide +kernel
theorem dX5_open_24 : decode cX5_open 24 = .ok (.aload_n 0, 1) := by decide +kernel
theorem dX5_open_25 : decode cX5_open 25 = .ok (.invokevirtual 166, 3) := by decide +kernel
theorem dX5_open_28 : decode cX5_open 28 = .ok (.aload_n 0, 1) := by decide +kernel
theorem dX5_open_29 : decode cX5_open 29 = .ok (.getfield 7, 3) := by decide +kernel
theorem dX5_open_32 : decode cX5_open 32 = .ok (.iconst 1, 1) := by decide +kernel
theorem dX5_open_33 : decode cX5_open 33 = .ok (.iconst 1, 1) := by decide +kernel
theorem dX5_open_34 : decode cX5_open 34 = .ok (.aload_n 0, 1) := by decide +kernel
theorem dX5_open_35 : decode cX5_open 35 = .ok (.getfield 7, 3) := by decide +kernel
theorem dX5_open_38 : decode cX5_open 38 = .ok (.iconst 1, 1) := by decide +kernel
theorem dX5_open_39 : decode cX5_open 39 = .ok (.iaload, 1) := by decide +kernel
theorem dX5_open_40 : decode cX5_open 40 = .ok (.isub, 1) := by decide +kernel
theorem dX5_open_41 : decode cX5_open 41 = .ok (.iastore, 1) := by decide +kernel
theorem dX5_open_42 : decode cX5_open 42 = .ok (.iload_n 1, 1) := by decide +kernel
theorem dX5_open_43 : decode cX5_open 43 = .ok (.ireturn, 1) := by decide +kernel
set_option maxRecDepth 20000 in
theorem ggX5_append_X5_in : GoodIn wsX5_append wsX5_in := goodIn_r _ [6] (by decide +kernel) (by decide +kernel)
set_option maxRecDepth 20000 in
theorem gX5_append_X5_in : GoodIn wsX5_append (va_wsS RX5 54 yX5_in wsX5_in) := goodIn_app (goodIn_of _ (by decide +kernel)) ggX5_append_X5_in
set_option maxRecDepth 20000 in
theorem ggX5_append_X5_holds : GoodIn wsX5_append wsX5_holds := goodIn_r _ [10, 11, 12, 13, 14, 15, 16, 17, 18, 19, 20, 21, 22, 23, 24, 25, 26, 27, 28, 29, 30, 31] (by decide +kernel) (by decide +kernel)
set_option maxRecDepth 20000 in
theorem gX5_append_X5_holds : GoodIn wsX5_append (wsV RX5 147 RX5 yX5_holds wsX5_holds) := goodIn_app (goodIn_of _ (by decide +kernel)) ggX5_append_X5_holds
theorem dX5_append_0 : decode cX5_append 0 = .ok (.aload_n 0, 1) := by decide +kernel
theorem dX5_append_1 : decode cX5_append 1 = .ok (.iload_n 1, 1) := by decide +kernel
theorem dX5_append_2 : decode cX5_append 2 = .ok (.bipush 33, 2) := by decide +kernel
theorem dX5_append_4 : decode cX5_append 4 = .ok (.bipush 126, 2) := by decide +kernel
theorem dX5_append_6 : decode cX5_append 6 = .ok (.invokestatic 54, 3) := by decide +kernel
theorem dX5_append_9 : decode cX5_append 9 = .ok (.ifCond .ne 7, 3) := by decide +kernel
theorem dX5_append_12 : decode cX5_append 12 = .ok (.iconst 1, 1) := by decide +kernel
theorem dX5_append_13 : decode cX5_append 13 = .ok (.goto 17, 3) := by decide +kernel
theorem dX5_append_16 : decode cX5_append 16 = .ok (.aload_n 0, 1) := by decide +kernel
theorem dX5_append_17 : decode cX5_append 17 = .ok (.getfield 169, 3) := by decide +kernel
theorem dX5_append_20 : decode cX5_append 20 = .ok (.bipush 60, 2) := by decide +kernel
theorem dX5_append_22 : decode cX5_append 22 = .ok (.if_icmp .ne 7, 3) := by decide +kernel
theorem dX5_append_25 : decode cX5_append 25 = .ok (.iconst 2, 1) := by decide +kernel
theorem dX5_append_26 : decode cX5_append 26 = .ok (.goto 4, 3) := by decide +kernel
theorem dX5_append_29 : decode cX5_append 29 = .ok (.iconst 0, 1) := by decide +kernel
theorem dX5_append_30 : decode cX5_append 30 = .ok (.invokevirtual 147, 3) := by decide +kernel
theorem dX5_append_33 : decode cX5_append 33 = .ok (.ifCond .ne 5, 3) := by decide +kernel
theorem dX5_append_36 : decode cX5_append 36 = .ok (.iconst 0, 1) := by decide +kernel
theorem dX5_append_37 : decode cX5_append 37 = .ok (.ireturn, 1) := by decide +kernel
theorem dX5_append_38 : decode cX5_append 38 = .ok (.aload_n 0, 1) := by decide +kernel
theorem dX5_append_39 : decode cX5_append 39 = .ok (.getfield 22, 3) := by decide +kernel
theorem dX5_append_42 : decode cX5_append 42 = .ok (.aload_n 0, 1) := by decide +kernel
theorem dX5_append_43 : decode cX5_append 43 = .ok (.getfield 169, 3) := by decide +kernel
theorem dX5_append_46 : decode cX5_append 46 = .ok (.iload_n 1, 1) := by decide +kernel
theorem dX5_append_47 : decode cX5_append 47 = .ok (.iastore, 1) := by decide +kernel
theorem dX5_append_48 : decode cX5_append 48 = .ok (.aload_n 0, 1) := by decide +kernel
theorem dX5_append_49 : decode cX5_append 49 = .ok (.dup, 1) := by decide +kernel
theorem dX5_append_50 : decode cX5_append 50 = .ok (.getfield 169, 3) := by decide +kernel
theorem dX5_append_53 : decode cX5_append 53 = .ok (.iconst 1, 1) := by decide +kernel
theorem dX5_append_54 : decode cX5_append 54 = .ok (.iadd, 1) := by decide +kernel
theorem dX5_append_55 : decode cX5_append 55 = .ok (.putfield 169, 3) := by decide +kernel
theorem dX5_append_58 : decode cX5_append 58 = .ok (.aload_n 0, 1) := by decide +kernel
theorem dX5_append_59 : decode cX5_append 59 = .ok (.getfield 169, 3) := by decide +kernel
theorem dX5_append_62 : decode cX5_append 62 = .ok (.ireturn, 1) := by decide +kernel
theorem dX5_clearBuffer_0 : decode cX5_clearBuffer 0 = .ok (.aload_n 0, 1) := by decide +kernel
theorem dX5_clearBuffer_1 : decode cX5_clearBuffer 1 = .ok (.iconst 0, 1) := by decide +kernel
theorem dX5_clearBuffer_2 : decode cX5_clearBuffer 2 = .ok (.putfield 50, 3) := by decide +kernel
theorem dX5_clearBuffer_5 : decode cX5_clearBuffer 5 = .ok (.aload_n 0, 1) := by decide +kernel
theorem dX5_clearBuffer_6 : decode cX5_clearBuffer 6 = .ok (.getfield 169, 3) := by decide +kernel
theorem dX5_clearBuffer_9 : decode cX5_clearBuffer 9 = .ok (.istore_n 1, 1) := by decide +kernel
theorem dX5_clearBuffer_10 : decode cX5_clearBuffer 10 = .ok (.aload_n 0, 1) := by decide +kernel
theorem dX5_clearBuffer_11 : decode cX5_clearBuffer 11 = .ok (.iconst 0, 1) := by decide +kernel
theorem dX5_clearBuffer_12 : decode cX5_clearBuffer 12 = .ok (.putfield 169, 3) := by decide +kernel
theorem dX5_clearBuffer_15 : decode cX5_clearBuffer 15 = .ok (.iload_n 1, 1) := by decide +kernel
theorem dX5_clearBuffer_16 : decode cX5_clearBuffer 16 = .ok (.ireturn, 1) := by decide +kernel
set_option maxRecDepth 20000 in
theorem ggX5_isNext_X5_in : GoodIn wsX5_isNext wsX5_in := goodIn_r _ [8] (by decide +kernel) (by decide +kernel)
set_option maxRecDepth 20000 in
theorem gX5_isNext_X5_in : GoodIn wsX5_isNext (va_wsS RX5 54 yX5_in wsX5_in) := goodIn_app (goodIn_of _ (by decide +kernel)) ggX5_isNext_X5_in
theorem dX5_isNext_0 : decode cX5_isNext 0 = .ok (.aload_n 0, 1) := by decide +kernel
theorem dX5_isNext_1 : decode cX5_isNext 1 = .ok (.getfield 172, 3) := by decide +kernel
theorem dX5_isNext_4 : decode cX5_isNext 4 = .ok (.ifCond .ne 35, 3) := by decide +kernel
theorem dX5_isNext_7 : decode cX5_isNext 7 = .ok (.aload_n 0, 1) := by decide +kernel
theorem dX5_isNext_8 : decode cX5_isNext 8 = .ok (.getfield 176, 3) := by decide +kernel
theorem dX5_isNext_11 : decode cX5_isNext 11 = .ok (.aload_n 0, 1) := by decide +kernel
theorem dX5_isNext_12 : decode cX5_isNext 12 = .ok (.getfield 169, 3) := by decide +kernel
theorem dX5_isNext_15 : decode cX5_isNext 15 = .ok (.if_icmp .ge 24, 3) := by decide +kernel
theorem dX5_isNext_18 : decode cX5_isNext 18 = .ok (.aload_n 0, 1) := by decide +kernel
theorem dX5_isNext_19 : decode cX5_isNext 19 = .ok (.getfield 22, 3) := by decide +kernel
theorem dX5_isNext_22 : decode cX5_isNext 22 = .ok (.aload_n 0, 1) := by decide +kernel
theorem dX5_isNext_23 : decode cX5_isNext 23 = .ok (.getfield 176, 3) := by decide +kernel
theorem dX5_isNext_26 : decode cX5_isNext 26 = .ok (.iaload, 1) := by decide +kernel
theorem dX5_isNext_27 : decode cX5_isNext 27 = .ok (.iload_n 1, 1) := by decide +kernel
theorem dX5_isNext_28 : decode cX5_isNext 28 = .ok (.iload_n 2, 1) := by decide +kernel
theorem dX5_isNext_29 : decode cX5_isNext 29 = .ok (.invokestatic 54, 3) := by decide +kernel
theorem dX5_isNext_32 : decode cX5_isNext 32 = .ok (.ifCond .eq 7, 3) := by decide +kernel
theorem dX5_isNext_35 : decode cX5_isNext 35 = .ok (.iconst 1, 1) := by decide +kernel
theorem dX5_isNext_36 : decode cX5_isNext 36 = .ok (.goto 4, 3) := by decide +kernel
theorem dX5_isNext_39 : decode cX5_isNext 39 = .ok (.iconst 0, 1) := by decide +kernel
theorem dX5_isNext_40 : decode cX5_isNext 40 = .ok (.ireturn, 1) := by decide +kernel
set_option maxRecDepth 20000 in
theorem ggX5_takes_X5_in : GoodIn wsX5_takes wsX5_in := goodIn_r _ [8] (by decide +kernel) (by decide +kernel)
set_option maxRecDepth 20000 in
theorem gX5_takes_X5_in : GoodIn wsX5_takes (va_wsS RX5 54 yX5_in wsX5_in) := goodIn_app (goodIn_of _ (by decide +kernel)) ggX5_takes_X5_in
theorem dX5_takes_0 : decode cX5_takes 0 = .ok (.aload_n 0, 1) := by decide +kernel
theorem dX5_takes_1 : decode cX5_takes 1 = .ok (.getfield 176, 3) := by decide +kernel
theorem dX5_takes_4 : decode cX5_takes 4 = .ok (.aload_n 0, 1) := by decide +kernel
theorem dX5_takes_5 : decode cX5_takes 5 = .ok (.getfield 169, 3) := by decide +kernel
theorem dX5_takes_8 : decode cX5_takes 8 = .ok (.if_icmp .ge 15, 3) := by decide +kernel
theorem dX5_takes_11 : decode cX5_takes 11 = .ok (.aload_n 0, 1) := by decide +kernel
theorem dX5_takes_12 : decode cX5_takes 12 = .ok (.getfield 22, 3) := by decide +kernel
theorem dX5_takes_15 : decode cX5_takes 15 = .ok (.aload_n 0, 1) := by decide +kernel
theorem dX5_takes_16 : decode cX5_takes 16 = .ok (.getfield 176, 3) := by decide +kernel
theorem dX5_takes_19 : decode cX5_takes 19 = .ok (.iaload, 1) := by decide +kernel
theorem dX5_takes_20 : decode cX5_takes 20 = .ok (.goto 4, 3) := by decide +kernel
theorem dX5_takes_23 : decode cX5_takes 23 = .ok (.iconst 0, 1) := by decide +kernel
theorem dX5_takes_24 : decode cX5_takes 24 = .ok (.istore_n 3, 1) := by decide +kernel
theorem dX5_takes_25 : decode cX5_takes 25 = .ok (.aload_n 0, 1) := by decide +kernel
theorem dX5_takes_26 : decode cX5_takes 26 = .ok (.aload_n 0, 1) := by decide +kernel
theorem dX5_takes_27 : decode cX5_takes 27 = .ok (.getfield 172, 3) := by decide +kernel
theorem dX5_takes_30 : decode cX5_takes 30 = .ok (.ifCond .ne 12, 3) := by decide +kernel
theorem dX5_takes_33 : decode cX5_takes 33 = .ok (.iload_n 3, 1) := by decide +kernel
theorem dX5_takes_34 : decode cX5_takes 34 = .ok (.iload_n 1, 1) := by decide +kernel
theorem dX5_takes_35 : decode cX5_takes 35 = .ok (.iload_n 2, 1) := by decide +kernel
theorem dX5_takes_36 : decode cX5_takes 36 = .ok (.invokestatic 54, 3) := by decide +kernel
theorem dX5_takes_39 : decode cX5_takes 39 = .ok (.ifCond .ne 7, 3) := by decide +kernel
theorem dX5_takes_42 : decode cX5_takes 42 = .ok (.iconst 1, 1) := by decide +kernel
theorem dX5_takes_43 : decode cX5_takes 43 = .ok (.goto 4, 3) := by decide +kernel
theorem dX5_takes_46 : decode cX5_takes 46 = .ok (.iconst 0, 1) := by decide +kernel
theorem dX5_takes_47 : decode cX5_takes 47 = .ok (.putfield 172, 3) := by decide +kernel
theorem dX5_takes_50 : decode cX5_takes 50 = .ok (.aload_n 0, 1) := by decide +kernel
theorem dX5_takes_51 : decode cX5_takes 51 = .ok (.dup, 1) := by decide +kernel
theorem dX5_takes_52 : decode cX5_takes 52 = .ok (.getfield 176, 3) := by decide +kernel
theorem dX5_takes_55 : decode cX5_takes 55 = .ok (.aload_n 0, 1) := by decide +kernel
theorem dX5_takes_56 : decode cX5_takes 56 = .ok (.getfield 172, 3) := by decide +kernel
theorem dX5_takes_59 : decode cX5_takes 59 = .ok (.ifCond .eq 7, 3) := by decide +kernel
theorem dX5_takes_62 : decode cX5_takes 62 = .ok (.iconst 0, 1) := by decide +kernel
theorem dX5_takes_63 : decode cX5_takes 63 = .ok (.goto 4, 3) := by decide +kernel
theorem dX5_takes_66 : decode cX5_takes 66 = .ok (.iconst 1, 1) := by decide +kernel
theorem dX5_takes_67 : decode cX5_takes 67 = .ok (.iadd, 1) := by decide +kernel
theorem dX5_takes_68 : decode cX5_takes 68 = .ok (.putfield 176, 3) := by decide +kernel
theorem dX5_takes_71 : decode cX5_takes 71 = .ok (.iload_n 3, 1) := by decide +kernel
theorem dX5_takes_72 : decode cX5_takes 72 = .ok (.iload_n 1, 1) := by decide +kernel
theorem dX5_takes_73 : decode cX5_takes 73 = .ok (.isub, 1) := by decide +kernel
theorem dX5_takes_74 : decode cX5_takes 74 = .ok (.ireturn, 1) := by decide +kernel
set_option maxRecDepth 20000 in
theorem ggX5_takesField_X5_takes : GoodIn wsX5_takesField wsX5_takes := goodIn_r _ [5, 6, 7, 8, 9, 10, 11, 4, 12, 17, 18, 19, 20, 21, 22, 23, 24, 25, 26, 27, 28, 29, 30, 31, 32, 33, 34, 35, 36] (by decide +kernel) (by decide +kernel)
set_option maxRecDepth 20000 in
theorem gX5_takesField_X5_takes : GoodIn wsX5_takesField (wsV RX5 179 RX5 yX5_takes wsX5_takes) := goodIn_app (goodIn_of _ (by decide +kernel)) ggX5_takesField_X5_takes
set_option maxRecDepth 20000 in
theorem ggX5_takesField_X5_isNext : GoodIn wsX5_takesField wsX5_isNext := goodIn_r _ [16, 9, 6, 7, 8, 10, 11, 4, 12, 17, 18, 19, 20, 21, 22, 23, 24, 25, 26, 27, 28, 29, 30, 31, 32, 33, 34, 35, 36] (by decide +kernel) (by decide +kernel)
set_option maxRecDepth 20000 in
theorem gX5_takesField_X5_isNext : GoodIn wsX5_takesField (wsV RX5 182 RX5 yX5_isNext wsX5_isNext) := goodIn_app (goodIn_of _ (by decide +kernel)) ggX5_takesField_X5_isNext
theorem dX5_takesField_0 : decode cX5_takesField 0 = .ok (.aload_n 0, 1) := by decide +kernel
theorem dX5_takesField_1 : decode cX5_takesField 1 = .ok (.bipush 48, 2) := by decide +kernel
theorem dX5_takesField_3 : decode cX5_takesField 3 = .ok (.bipush 57, 2) := by decide +kernel
theorem dX5_takesField_5 : decode cX5_takesField 5 = .ok (.invokevirtual 179, 3) := by decide +kernel
theorem dX5_takesField_8 : decode cX5_takesField 8 = .ok (.istore_n 1, 1) := by decide +kernel
theorem dX5_takesField_9 : decode cX5_takesField 9 = .ok (.iload_n 1, 1) := by decide +kernel
theorem dX5_takesField_10 : decode cX5_takesField 10 = .ok (.iconst 1, 1) := by decide +kernel
theorem dX5_takesField_11 : decode cX5_takesField 11 = .ok (.if_icmp .ne 28, 3) := by decide +kernel
theorem dX5_takesField_14 : decode cX5_takesField 14 = .ok (.aload_n 0, 1) := by decide +kernel
theorem dX5_takesField_15 : decode cX5_takesField 15 = .ok (.bipush 48, 2) := by decide +kernel
theorem dX5_takesField_17 : decode cX5_takesField 17 = .ok (.bipush 49, 2) := by decide +kernel
theorem dX5_takesField_19 : decode cX5_takesField 19 = .ok (.invokevirtual 182, 3) := by decide +kernel
theorem dX5_takesField_22 : decode cX5_takesField 22 = .ok (.ifCond .eq 17, 3) := by decide +kernel
theorem dX5_takesField_25 : decode cX5_takesField 25 = .ok (.bipush 10, 2) := by decide +kernel
theorem dX5_takesField_27 : decode cX5_takesField 27 = .ok (.aload_n 0, 1) := by decide +kernel
theorem dX5_takesField_28 : decode cX5_takesField 28 = .ok (.bipush 48, 2) := by decide +kernel
theorem dX5_takesField_30 : decode cX5_takesField 30 = .ok (.bipush 49, 2) := by decide +kernel
theorem dX5_takesField_32 : decode cX5_takesField 32 = .ok (.invokevirtual 179, 3) := by decide +kernel
theorem dX5_takesField_35 : decode cX5_takesField 35 = .ok (.iadd, 1) := by decide +kernel
theorem dX5_takesField_36 : decode cX5_takesField 36 = .ok (.goto 4, 3) := by decide +kernel
theorem dX5_takesField_39 : decode cX5_takesField 39 = .ok (.iload_n 1, 1) := by decide +kernel
theorem dX5_takesField_40 : decode cX5_takesField 40 = .ok (.ireturn, 1) := by decide +kernel
set_option maxRecDepth 20000 in
theorem ggX5_part_X5_takes : GoodIn wsX5_part wsX5_takes := goodIn_r _ [9, 1, 2, 3, 4, 10, 11, 8, 12, 44, 45, 46, 47, 48, 49, 50, 51, 52, 53, 54, 55, 56, 57, 58, 59, 60, 61, 62, 63] (by decide +kernel) (by decide +kernel)
set_option maxRecDepth 20000 in
theorem gX5_part_X5_takes : GoodIn wsX5_part (wsV RX5 179 RX5 yX5_takes wsX5_takes) := goodIn_app (goodIn_of _ (by decide +kernel)) ggX5_part_X5_takes
set_option maxRecDepth 20000 in
theorem ggX5_part_X5_takesField : GoodIn wsX5_part wsX5_takesField := goodIn_r _ [16, 5, 6, 7, 8, 9, 1, 2, 3, 4, 10, 11, 12, 17, 18, 19, 20, 44, 45, 46, 47, 48, 49, 50, 51, 52, 53, 54, 55, 56, 57, 58, 59, 60, 61, 62, 63] (by decide +kernel) (by decide +kernel)
set_option maxRecDepth 20000 in
theorem gX5_part_X5_takesField : GoodIn wsX5_part (wsV RX5 185 RX5 yX5_takesField wsX5_takesField) := goodIn_app (goodIn_of _ (by decide +kernel)) ggX5_part_X5_takesField
set_option maxRecDepth 20000 in
theorem ggX5_part_X5_isArmy : GoodIn wsX5_part wsX5_isArmy := goodIn_r _ [24, 25, 10, 11, 8, 12, 44, 45, 46, 47, 48, 49, 50, 51, 52, 53, 54, 55, 56, 57, 58, 59, 60, 61, 62, 63] (by decide +kernel) (by decide +kernel)
set_option maxRecDepth 20000 in
theorem gX5_part_X5_isArmy : GoodIn wsX5_part (wsV RX5 153 RX5 yX5_isArmy wsX5_isArmy) := goodIn_app (goodIn_of _ (by decide +kernel)) ggX5_part_X5_isArmy
set_option maxRecDepth 20000 in
theorem ggX5_part_X5_of : GoodIn wsX5_part wsX5_of := goodIn_r _ [29, 25, 30, 31, 8, 32, 44, 45, 46, 47, 48, 49, 50, 51, 52, 53, 54, 55, 56, 57, 58, 59, 60, 61, 62, 63] (by decide +kernel) (by decide +kernel)
set_option maxRecDepth 20000 in
theorem gX5_part_X5_of : GoodIn wsX5_part (wsV RX5 65 RX5 yX5_of wsX5_of) := goodIn_app (goodIn_of _ (by decide +kernel)) ggX5_part_X5_of
set_option maxRecDepth 20000 in
theorem ggX5_part_X5_areNeighbours : GoodIn wsX5_part wsX5_areNeighbours := goodIn_r _ [35] (by decide +kernel) (by decide +kernel)
set_option maxRecDepth 20000 in
theorem gX5_part_X5_areNeighbours : GoodIn wsX5_part (va_wsS RX5 92 yX5_areNeighbours wsX5_areNeighbours) := goodIn_app (goodIn_of _ (by decide +kernel)) ggX5_part_X5_areNeighbours
set_option maxRecDepth 20000 in
theorem ggX5_part_X5_canSupport : GoodIn wsX5_part wsX5_canSupport := goodIn_r _ [39, 26, 27, 28, 8, 29, 25, 30, 31, 32, 33, 34, 35, 44, 45, 46, 47, 48, 49, 50, 51, 52, 53, 54, 55, 56, 57, 58, 59, 60, 61, 62, 63] (by decide +kernel) (by decide +kernel)
set_option maxRecDepth 20000 in
theorem gX5_part_X5_canSupport : GoodIn wsX5_part (wsV RX5 160 RX5 yX5_canSupport wsX5_canSupport) := goodIn_app (goodIn_of _ (by decide +kernel)) ggX5_part_X5_canSupport
set_option maxRecDepth 20000 in
theorem ggX5_part_X5_lays : GoodIn wsX5_part wsX5_lays := goodIn_r _ [43, 25, 30, 31, 8, 32, 44, 45, 46, 47, 48, 49, 50, 51, 52, 53, 54, 55, 56, 57, 58, 59, 60, 61, 62, 63] (by decide +kernel) (by decide +kernel)
set_option maxRecDepth 20000 in
theorem gX5_part_X5_lays : GoodIn wsX5_part (wsV RX5 114 RX5 yX5_lays wsX5_lays) := goodIn_app (goodIn_of _ (by decide +kernel)) ggX5_part_X5_lays
theorem dX5_part_0 : decode cX5_part 0 = .ok (.aload_n 0, 1) := by decide +kernel
theorem dX5_part_1 : decode cX5_part 1 = .ok (.bipush 48, 2) := by decide +kernel
theorem dX5_part_3 : decode cX5_part 3 = .ok (.bipush 56, 2) := by decide +kernel
theorem dX5_part_5 : decode cX5_part 5 = .ok (.invokevirtual 179, 3) := by decide +kernel
theorem dX5_part_8 : decode cX5_part 8 = .ok (.istore_n 2, 1) := by decide +kernel
theorem dX5_part_9 : decode cX5_part 9 = .ok (.aload_n 0, 1) := by decide +kernel
theorem dX5_part_10 : decode cX5_part 10 = .ok (.getfield 176, 3) := by decide +kernel
theorem dX5_part_13 : decode cX5_part 13 = .ok (.aload_n 0, 1) := by decide +kernel
theorem dX5_part_14 : decode cX5_part 14 = .ok (.getfield 169, 3) := by decide +kernel
theorem dX5_part_17 : decode cX5_part 17 = .ok (.if_icmp .ge 15, 3) := by decide +kernel
theorem dX5_part_20 : decode cX5_part 20 = .ok (.aload_n 0, 1) := by decide +kernel
theorem dX5_part_21 : decode cX5_part 21 = .ok (.getfield 22, 3) := by decide +kernel
theorem dX5_part_24 : decode cX5_part 24 = .ok (.aload_n 0, 1) := by decide +kernel
theorem dX5_part_25 : decode cX5_part 25 = .ok (.getfield 176, 3) := by decide +kernel
theorem dX5_part_28 : decode cX5_part 28 = .ok (.iaload, 1) := by decide +kernel
theorem dX5_part_29 : decode cX5_part 29 = .ok (.goto 4, 3) := by decide +kernel
theorem dX5_part_32 : decode cX5_part 32 = .ok (.iconst 0, 1) := by decide +kernel
theorem dX5_part_33 : decode cX5_part 33 = .ok (.istore_n 3, 1) := by decide +kernel
theorem dX5_part_34 : decode cX5_part 34 = .ok (.aload_n 0, 1) := by decide +kernel
theorem dX5_part_35 : decode cX5_part 35 = .ok (.aload_n 0, 1) := by decide +kernel
theorem dX5_part_36 : decode cX5_part 36 = .ok (.getfield 172, 3) := by decide +kernel
theorem dX5_part_39 : decode cX5_part 39 = .ok (.ifCond .ne 21, 3) := by decide +kernel
theorem dX5_part_42 : decode cX5_part 42 = .ok (.iload_n 3, 1) := by decide +kernel
theorem dX5_part_43 : decode cX5_part 43 = .ok (.bipush 104, 2) := by decide +kernel
theorem dX5_part_45 : decode cX5_part 45 = .ok (.if_icmp .eq 19, 3) := by decide +kernel
theorem dX5_part_48 : decode cX5_part 48 = .ok (.iload_n 3, 1) := by decide +kernel
theorem dX5_part_49 : decode cX5_part 49 = .ok (.bipush 109, 2) := by decide +kernel
theorem dX5_part_51 : decode cX5_part 51 = .ok (.if_icmp .eq 13, 3) := by decide +kernel
theorem dX5_part_54 : decode cX5_part 54 = .ok (.iload_n 3, 1) := by decide +kernel
theorem dX5_part_55 : decode cX5_part 55 = .ok (.bipush 115, 2) := by decide +kernel
theorem dX5_part_57 : decode cX5_part 57 = .ok (.if_icmp .eq 7, 3) := by decide +kernel
theorem dX5_part_60 : decode cX5_part 60 = .ok (.iconst 1, 1) := by decide +kernel
theorem dX5_part_61 : decode cX5_part 61 = .ok (.goto 4, 3) := by decide +kernel
theorem dX5_part_64 : decode cX5_part 64 = .ok (.iconst 0, 1) := by decide +kernel
theorem dX5_part_65 : decode cX5_part 65 = .ok (.putfield 172, 3) := by decide +kernel
theorem dX5_part_68 : decode cX5_part 68 = .ok (.aload_n 0, 1) := by decide +kernel
theorem dX5_part_69 : decode cX5_part 69 = .ok (.dup, 1) := by decide +kernel
theorem dX5_part_70 : decode cX5_part 70 = .ok (.getfield 176, 3) := by decide +kernel
theorem dX5_part_73 : decode cX5_part 73 = .ok (.aload_n 0, 1) := by decide +kernel
theorem dX5_part_74 : decode cX5_part 74 = .ok (.getfield 172, 3) := by decide +kernel
theorem dX5_part_77 : decode cX5_part 77 = .ok (.ifCond .eq 7, 3) := by decide +kernel
theorem dX5_part_80 : decode cX5_part 80 = .ok (.iconst 0, 1) := by decide +kernel
theorem dX5_part_81 : decode cX5_part 81 = .ok (.goto 4, 3) := by decide +kernel
theorem dX5_part_84 : decode cX5_part 84 = .ok (.iconst 1, 1) := by decide +kernel
theorem dX5_part_85 : decode cX5_part 85 = .ok (.iadd, 1) := by decide +kernel
theorem dX5_part_86 : decode cX5_part 86 = .ok (.putfield 176, 3) := by decide +kernel
theorem dX5_part_89 : decode cX5_part 89 = .ok (.iload_n 3, 1) := by decide +kernel
theorem dX5_part_90 : decode cX5_part 90 = .ok (.bipush 115, 2) := by decide +kernel
theorem dX5_part_92 : decode cX5_part 92 = .ok (.if_icmp .ne 10, 3) := by decide +kernel
theorem dX5_part_95 : decode cX5_part 95 = .ok (.aload_n 0, 1) := by decide +kernel
theorem dX5_part_96 : decode cX5_part 96 = .ok (.invokevirtual 185, 3) := by decide +kernel
theorem dX5_part_99 : decode cX5_part 99 = .ok (.goto 4, 3) := by decide +kernel
theorem dX5_part_102 : decode cX5_part 102 = .ok (.iconst (-1), 1) := by decide +kernel
theorem dX5_part_103 : decode cX5_part 103 = .ok (.istore 4, 2) := by decide +kernel
theorem dX5_part_105 : decode cX5_part 105 = .ok (.iload_n 3, 1) := by decide +kernel
theorem dX5_part_106 : decode cX5_part 106 = .ok (.bipush 115, 2) := by decide +kernel
theorem dX5_part_108 : decode cX5_part 108 = .ok (.if_icmp .ne 14, 3) := by decide +kernel
theorem dX5_part_111 : decode cX5_part 111 = .ok (.aload_n 0, 1) := by decide +kernel
theorem dX5_part_112 : decode cX5_part 112 = .ok (.bipush 45, 2) := by decide +kernel
theorem dX5_part_114 : decode cX5_part 114 = .ok (.bipush 45, 2) := by decide +kernel
theorem dX5_part_116 : decode cX5_part 116 = .ok (.invokevirtual 179, 3) := by decide +kernel
theorem dX5_part_119 : decode cX5_part 119 = .ok (.goto 4, 3) := by decide +kernel
theorem dX5_part_122 : decode cX5_part 122 = .ok (.iconst 0, 1) := by decide +kernel
theorem dX5_part_123 : decode cX5_part 123 = .ok (.istore 5, 2) := by decide +kernel
theorem dX5_part_125 : decode cX5_part 125 = .ok (.iload_n 3, 1) := by decide +kernel
theorem dX5_part_126 : decode cX5_part 126 = .ok (.bipush 104, 2) := by decide +kernel
theorem dX5_part_128 : decode cX5_part 128 = .ok (.if_icmp .ne 7, 3) := by decide +kernel
theorem dX5_part_131 : decode cX5_part 131 = .ok (.iconst (-1), 1) := by decide +kernel
theorem dX5_part_132 : decode cX5_part 132 = .ok (.goto 7, 3) := by decide +kernel
theorem dX5_part_135 : decode cX5_part 135 = .ok (.aload_n 0, 1) := by decide +kernel
theorem dX5_part_136 : decode cX5_part 136 = .ok (.invokevirtual 185, 3) := by decide +kernel
theorem dX5_part_139 : decode cX5_part 139 = .ok (.istore 6, 2) := by decide +kernel
theorem dX5_part_141 : decode cX5_part 141 = .ok (.iload_n 1, 1) := by decide +kernel
theorem dX5_part_142 : decode cX5_part 142 = .ok (.ifCond .eq 15, 3) := by decide +kernel
theorem dX5_part_145 : decode cX5_part 145 = .ok (.aload_n 0, 1) := by decide +kernel
theorem dX5_part_146 : decode cX5_part 146 = .ok (.iload_n 2, 1) := by decide +kernel
theorem dX5_part_147 : decode cX5_part 147 = .ok (.invokevirtual 153, 3) := by decide +kernel
theorem dX5_part_150 : decode cX5_part 150 = .ok (.ifCond .eq 7, 3) := by decide +kernel
theorem dX5_part_153 : decode cX5_part 153 = .ok (.iconst 1, 1) := by decide +kernel
theorem dX5_part_154 : decode cX5_part 154 = .ok (.goto 4, 3) := by decide +kernel
theorem dX5_part_157 : decode cX5_part 157 = .ok (.iconst 0, 1) := by decide +kernel
theorem dX5_part_158 : decode cX5_part 158 = .ok (.istore 7, 2) := by decide +kernel
theorem dX5_part_160 : decode cX5_part 160 = .ok (.iload 7, 2) := by decide +kernel
theorem dX5_part_162 : decode cX5_part 162 = .ok (.ifCond .eq 25, 3) := by decide +kernel
theorem dX5_part_165 : decode cX5_part 165 = .ok (.iload_n 3, 1) := by decide +kernel
theorem dX5_part_166 : decode cX5_part 166 = .ok (.bipush 109, 2) := by decide +kernel
theorem dX5_part_168 : decode cX5_part 168 = .ok (.if_icmp .ne 19, 3) := by decide +kernel
theorem dX5_part_171 : decode cX5_part 171 = .ok (.aload_n 0, 1) := by decide +kernel
theorem dX5_part_172 : decode cX5_part 172 = .ok (.iload_n 2, 1) := by decide +kernel
theorem dX5_part_173 : decode cX5_part 173 = .ok (.iconst 1, 1) := by decide +kernel
theorem dX5_part_174 : decode cX5_part 174 = .ok (.invokevirtual 65, 3) := by decide +kernel
theorem dX5_part_177 : decode cX5_part 177 = .ok (.iload 6, 2) := by decide +kernel
theorem dX5_part_179 : decode cX5_part 179 = .ok (.invokestatic 92, 3) := by decide +kernel
theorem dX5_part_182 : decode cX5_part 182 = .ok (.istore 7, 2) := by decide +kernel
theorem dX5_part_184 : decode cX5_part 184 = .ok (.goto 25, 3) := by decide +kernel
theorem dX5_part_187 : decode cX5_part 187 = .ok (.iload 7, 2) := by decide +kernel
theorem dX5_part_189 : decode cX5_part 189 = .ok (.ifCond .eq 20, 3) := by decide +kernel
theorem dX5_part_192 : decode cX5_part 192 = .ok (.iload_n 3, 1) := by decide +kernel
theorem dX5_part_193 : decode cX5_part 193 = .ok (.bipush 115, 2) := by decide +kernel
theorem dX5_part_195 : decode cX5_part 195 = .ok (.if_icmp .ne 14, 3) := by decide +kernel
theorem dX5_part_198 : decode cX5_part 198 = .ok (.aload_n 0, 1) := by decide +kernel
theorem dX5_part_199 : decode cX5_part 199 = .ok (.iload_n 2, 1) := by decide +kernel
theorem dX5_part_200 : decode cX5_part 200 = .ok (.iload 4, 2) := by decide +kernel
theorem dX5_part_202 : decode cX5_part 202 = .ok (.iload 6, 2) := by decide +kernel
theorem dX5_part_204 : decode cX5_part 204 = .ok (.invokevirtual 160, 3) := by decide +kernel
theorem dX5_part_207 : decode cX5_part 207 = .ok (.istore 7, 2) := by decide +kernel
theorem dX5_part_209 : decode cX5_part 209 = .ok (.iload 7, 2) := by decide +kernel
theorem dX5_part_211 : decode cX5_part 211 = .ok (.ifCond .eq 33, 3) := by decide +kernel
theorem dX5_part_214 : decode cX5_part 214 = .ok (.aload_n 0, 1) := by decide +kernel
theorem dX5_part_215 : decode cX5_part 215 = .ok (.iload_n 2, 1) := by decide +kernel
theorem dX5_part_216 : decode cX5_part 216 = .ok (.iload_n 3, 1) := by decide +kernel
theorem dX5_part_217 : decode cX5_part 217 = .ok (.bipush 104, 2) := by decide +kernel
theorem dX5_part_219 : decode cX5_part 219 = .ok (.if_icmp .ne 7, 3) := by decide +kernel
theorem dX5_part_222 : decode cX5_part 222 = .ok (.iconst 0, 1) := by decide +kernel
theorem dX5_part_223 : decode cX5_part 223 = .ok (.goto 14, 3) := by decide +kernel
theorem dX5_part_226 : decode cX5_part 226 = .ok (.iload_n 3, 1) := by decide +kernel
theorem dX5_part_227 : decode cX5_part 227 = .ok (.bipush 109, 2) := by decide +kernel
theorem dX5_part_229 : decode cX5_part 229 = .ok (.if_icmp .ne 7, 3) := by decide +kernel
theorem dX5_part_232 : decode cX5_part 232 = .ok (.iconst 1, 1) := by decide +kernel
theorem dX5_part_233 : decode cX5_part 233 = .ok (.goto 4, 3) := by decide +kernel
theorem dX5_part_236 : decode cX5_part 236 = .ok (.iconst 2, 1) := by decide +kernel
theorem dX5_part_237 : decode cX5_part 237 = .ok (.iload 6, 2) := by decide +kernel
theorem dX5_part_239 : decode cX5_part 239 = .ok (.iload 4, 2) := by decide +kernel
theorem dX5_part_241 : decode cX5_part 241 = .ok (.invokevirtual 114, 3) := by decide +kernel
theorem dX5_part_244 : decode cX5_part 244 = .ok (.iload 7, 2) := by decide +kernel
theorem dX5_part_246 : decode cX5_part 246 = .ok (.ireturn, 1) := by decide +kernel
set_option maxRecDepth 20000 in
theorem ggX5_reads_X5_part : GoodIn wsX5_reads wsX5_part := goodIn_r _ [8, 1, 3, 9, 2, 10, 11, 12, 7, 13, 14, 15, 16, 17, 18, 19, 20, 21, 22, 23, 24, 25, 26, 27, 28, 29, 30, 31, 32, 33, 34, 35, 36, 37, 38, 39, 40, 41, 42, 43, 44, 45, 46, 47, 48, 49, 50, 51, 52, 53, 54, 55, 56, 57, 58, 59, 60, 61, 62, 63, 64, 65, 66, 67] (by decide +kernel) (by decide +kernel)
set_option maxRecDepth 20000 in
theorem gX5_reads_X5_part : GoodIn wsX5_reads (wsV RX5 188 RX5 yX5_part wsX5_part) := goodIn_app (goodIn_of _ (by decide +kernel)) ggX5_reads_X5_part
set_option maxRecDepth 20000 in
theorem ggX5_reads_X5_takes : GoodIn wsX5_reads wsX5_takes := goodIn_r _ [13, 1, 3, 9, 2, 14, 15, 7, 16, 48, 49, 50, 51, 52, 53, 54, 55, 56, 57, 58, 59, 60, 61, 62, 63, 64, 65, 66, 67] (by decide +kernel) (by decide +kernel)
set_option maxRecDepth 20000 in
theorem gX5_reads_X5_takes : GoodIn wsX5_reads (wsV RX5 179 RX5 yX5_takes wsX5_takes) := goodIn_app (goodIn_of _ (by decide +kernel)) ggX5_reads_X5_takes
theorem dX5_reads_0 : decode cX5_reads 0 = .ok (.aload_n 0, 1) := by decide +kernel
theorem dX5_reads_1 : decode cX5_reads 1 = .ok (.iconst 0, 1) := by decide +kernel
theorem dX5_reads_2 : decode cX5_reads 2 = .ok (.putfield 176, 3) := by decide +kernel
theorem dX5_reads_5 : decode cX5_reads 5 = .ok (.aload_n 0, 1) := by decide +kernel
theorem dX5_reads_6 : decode cX5_reads 6 = .ok (.iconst 0, 1) := by decide +kernel
theorem dX5_reads_7 : decode cX5_reads 7 = .ok (.putfield 172, 3) := by decide +kernel
theorem dX5_reads_10 : decode cX5_reads 10 = .ok (.iconst 0, 1) := by decide +kernel
theorem dX5_reads_11 : decode cX5_reads 11 = .ok (.istore_n 2, 1) := by decide +kernel
theorem dX5_reads_12 : decode cX5_reads 12 = .ok (.iconst 1, 1) := by decide +kernel
theorem dX5_reads_13 : decode cX5_reads 13 = .ok (.istore_n 3, 1) := by decide +kernel
theorem dX5_reads_14 : decode cX5_reads 14 = .ok (.iload_n 3, 1) := by decide +kernel
theorem dX5_reads_15 : decode cX5_reads 15 = .ok (.ifCond .eq 73, 3) := by decide +kernel
theorem dX5_reads_18 : decode cX5_reads 18 = .ok (.iload_n 2, 1) := by decide +kernel
theorem dX5_reads_19 : decode cX5_reads 19 = .ok (.aload_n 0, 1) := by decide +kernel
theorem dX5_reads_20 : decode cX5_reads 20 = .ok (.iload_n 1, 1) := by decide +kernel
theorem dX5_reads_21 : decode cX5_reads 21 = .ok (.invokevirtual 188, 3) := by decide +kernel
theorem dX5_reads_24 : decode cX5_reads 24 = .ok (.ifCond .eq 7, 3) := by decide +kernel
theorem dX5_reads_27 : decode cX5_reads 27 = .ok (.iconst 1, 1) := by decide +kernel
theorem dX5_reads_28 : decode cX5_reads 28 = .ok (.goto 4, 3) := by decide +kernel
theorem dX5_reads_31 : decode cX5_reads 31 = .ok (.iconst 0, 1) := by decide +kernel
theorem dX5_reads_32 : decode cX5_reads 32 = .ok (.iadd, 1) := by decide +kernel
theorem dX5_reads_33 : decode cX5_reads 33 = .ok (.istore_n 2, 1) := by decide +kernel
theorem dX5_reads_34 : decode cX5_reads 34 = .ok (.aload_n 0, 1) := by decide +kernel
theorem dX5_reads_35 : decode cX5_reads 35 = .ok (.getfield 172, 3) := by decide +kernel
theorem dX5_reads_38 : decode cX5_reads 38 = .ok (.ifCond .ne 18, 3) := by decide +kernel
theorem dX5_reads_41 : decode cX5_reads 41 = .ok (.aload_n 0, 1) := by decide +kernel
theorem dX5_reads_42 : decode cX5_reads 42 = .ok (.getfield 176, 3) := by decide +kernel
theorem dX5_reads_45 : decode cX5_reads 45 = .ok (.aload_n 0, 1) := by decide +kernel
theorem dX5_reads_46 : decode cX5_reads 46 = .ok (.getfield 169, 3) := by decide +kernel
theorem dX5_reads_49 : decode cX5_reads 49 = .ok (.if_icmp .ge 7, 3) := by decide +kernel
theorem dX5_reads_52 : decode cX5_reads 52 = .ok (.iconst 1, 1) := by decide +kernel
theorem dX5_reads_53 : decode cX5_reads 53 = .ok (.goto 4, 3) := by decide +kernel
theorem dX5_reads_56 : decode cX5_reads 56 = .ok (.iconst 0, 1) := by decide +kernel
theorem dX5_reads_57 : decode cX5_reads 57 = .ok (.istore_n 3, 1) := by decide +kernel
theorem dX5_reads_58 : decode cX5_reads 58 = .ok (.iload_n 3, 1) := by decide +kernel
theorem dX5_reads_59 : decode cX5_reads 59 = .ok (.ifCond .eq (-45), 3) := by decide +kernel
theorem dX5_reads_62 : decode cX5_reads 62 = .ok (.aload_n 0, 1) := by decide +kernel
theorem dX5_reads_63 : decode cX5_reads 63 = .ok (.bipush 59, 2) := by decide +kernel
theorem dX5_reads_65 : decode cX5_reads 65 = .ok (.bipush 59, 2) := by decide +kernel
theorem dX5_reads_67 : decode cX5_reads 67 = .ok (.invokevirtual 179, 3) := by decide +kernel
theorem dX5_reads_70 : decode cX5_reads 70 = .ok (.istore 4, 2) := by decide +kernel
theorem dX5_reads_72 : decode cX5_reads 72 = .ok (.aload_n 0, 1) := by decide +kernel
theorem dX5_reads_73 : decode cX5_reads 73 = .ok (.getfield 172, 3) := by decide +kernel
