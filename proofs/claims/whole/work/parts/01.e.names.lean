theorem dX3_endsPart_13 : decode cX3_endsPart 13 = .ok (.aload_n 0, 1) := by decide +kernel
theorem dX3_endsPart_14 : decode cX3_endsPart 14 = .ok (.getfield 15, 3) := by decide +kernel
theorem dX3_endsPart_17 : decode cX3_endsPart 17 = .ok (.if_icmp .ge 15, 3) := by decide +kernel
theorem dX3_endsPart_20 : decode cX3_endsPart 20 = .ok (.aload_n 0, 1) := by decide +kernel
theorem dX3_endsPart_21 : decode cX3_endsPart 21 = .ok (.iload_n 1, 1) := by decide +kernel
theorem dX3_endsPart_22 : decode cX3_endsPart 22 = .ok (.iconst 1, 1) := by decide +kernel
theorem dX3_endsPart_23 : decode cX3_endsPart 23 = .ok (.iadd, 1) := by decide +kernel
theorem dX3_endsPart_24 : decode cX3_endsPart 24 = .ok (.invokevirtual 39, 3) := by decide +kernel
theorem dX3_endsPart_27 : decode cX3_endsPart 27 = .ok (.bipush 59, 2) := by decide +kernel
theorem dX3_endsPart_29 : decode cX3_endsPart 29 = .ok (.if_icmp .ne 7, 3) := by decide +kernel
theorem dX3_endsPart_32 : decode cX3_endsPart 32 = .ok (.iconst 1, 1) := by decide +kernel
theorem dX3_endsPart_33 : decode cX3_endsPart 33 = .ok (.goto 4, 3) := by decide +kernel
theorem dX3_endsPart_36 : decode cX3_endsPart 36 = .ok (.iconst 0, 1) := by decide +kernel
theorem dX3_endsPart_37 : decode cX3_endsPart 37 = .ok (.ireturn, 1) := by decide +kernel
set_option maxRecDepth 20000 in
theorem ggX3_read_X3_codeAt : GoodIn wsX3_read wsX3_codeAt := goodIn_r _ [9, 10, 11, 12, 13, 14, 18, 19, 20, 21, 22, 23] (by decide +kernel) (by decide +kernel)
set_option maxRecDepth 20000 in
theorem gX3_read_X3_codeAt : GoodIn wsX3_read (wsV RX3 39 RX3 yX3_codeAt wsX3_codeAt) := goodIn_app (goodIn_of _ (by decide +kernel)) ggX3_read_X3_codeAt
set_option maxRecDepth 20000 in
theorem ggX3_read_X3_isDigit : GoodIn wsX3_read wsX3_isDigit := goodIn_r _ [17] (by decide +kernel) (by decide +kernel)
set_option maxRecDepth 20000 in
theorem gX3_read_X3_isDigit : GoodIn wsX3_read (va_wsS RX3 60 yX3_isDigit wsX3_isDigit) := goodIn_app (goodIn_of _ (by decide +kernel)) ggX3_read_X3_isDigit
theorem dX3_read_0 : decode cX3_read 0 = .ok (.aload_n 0, 1) := by decide +kernel
theorem dX3_read_1 : decode cX3_read 1 = .ok (.iload_n 1, 1) := by decide +kernel
theorem dX3_read_2 : decode cX3_read 2 = .ok (.invokevirtual 39, 3) := by decide +kernel
theorem dX3_read_5 : decode cX3_read 5 = .ok (.istore_n 2, 1) := by decide +kernel
theorem dX3_read_6 : decode cX3_read 6 = .ok (.iload_n 1, 1) := by decide +kernel
theorem dX3_read_7 : decode cX3_read 7 = .ok (.ifCond .eq 15, 3) := by decide +kernel
theorem dX3_read_10 : decode cX3_read 10 = .ok (.aload_n 0, 1) := by decide +kernel
theorem dX3_read_11 : decode cX3_read 11 = .ok (.iload_n 1, 1) := by decide +kernel
theorem dX3_read_12 : decode cX3_read 12 = .ok (.iconst 1, 1) := by decide +kernel
theorem dX3_read_13 : decode cX3_read 13 = .ok (.isub, 1) := by decide +kernel
theorem dX3_read_14 : decode cX3_read 14 = .ok (.invokevirtual 39, 3) := by decide +kernel
theorem dX3_read_17 : decode cX3_read 17 = .ok (.bipush 59, 2) := by decide +kernel
theorem dX3_read_19 : decode cX3_read 19 = .ok (.if_icmp .ne 29, 3) := by decide +kernel
theorem dX3_read_22 : decode cX3_read 22 = .ok (.aload_n 0, 1) := by decide +kernel
theorem dX3_read_23 : decode cX3_read 23 = .ok (.iload_n 2, 1) := by decide +kernel
theorem dX3_read_24 : decode cX3_read 24 = .ok (.bipush 48, 2) := by decide +kernel
theorem dX3_read_26 : decode cX3_read 26 = .ok (.isub, 1) := by decide +kernel
theorem dX3_read_27 : decode cX3_read 27 = .ok (.putfield 19, 3) := by decide +kernel
theorem dX3_read_30 : decode cX3_read 30 = .ok (.aload_n 0, 1) := by decide +kernel
theorem dX3_read_31 : decode cX3_read 31 = .ok (.iconst 0, 1) := by decide +kernel
theorem dX3_read_32 : decode cX3_read 32 = .ok (.putfield 22, 3) := by decide +kernel
theorem dX3_read_35 : decode cX3_read 35 = .ok (.aload_n 0, 1) := by decide +kernel
theorem dX3_read_36 : decode cX3_read 36 = .ok (.iconst 0, 1) := by decide +kernel
theorem dX3_read_37 : decode cX3_read 37 = .ok (.putfield 25, 3) := by decide +kernel
theorem dX3_read_40 : decode cX3_read 40 = .ok (.aload_n 0, 1) := by decide +kernel
theorem dX3_read_41 : decode cX3_read 41 = .ok (.iconst 0, 1) := by decide +kernel
theorem dX3_read_42 : decode cX3_read 42 = .ok (.putfield 28, 3) := by decide +kernel
theorem dX3_read_45 : decode cX3_read 45 = .ok (.goto 76, 3) := by decide +kernel
theorem dX3_read_48 : decode cX3_read 48 = .ok (.iload_n 2, 1) := by decide +kernel
theorem dX3_read_49 : decode cX3_read 49 = .ok (.invokestatic 60, 3) := by decide +kernel
theorem dX3_read_52 : decode cX3_read 52 = .ok (.ifCond .eq 22, 3) := by decide +kernel
theorem dX3_read_55 : decode cX3_read 55 = .ok (.aload_n 0, 1) := by decide +kernel
theorem dX3_read_56 : decode cX3_read 56 = .ok (.aload_n 0, 1) := by decide +kernel
theorem dX3_read_57 : decode cX3_read 57 = .ok (.getfield 28, 3) := by decide +kernel
theorem dX3_read_60 : decode cX3_read 60 = .ok (.bipush 10, 2) := by decide +kernel
theorem dX3_read_62 : decode cX3_read 62 = .ok (.imul, 1) := by decide +kernel
theorem dX3_read_63 : decode cX3_read 63 = .ok (.iload_n 2, 1) := by decide +kernel
theorem dX3_read_64 : decode cX3_read 64 = .ok (.iadd, 1) := by decide +kernel
theorem dX3_read_65 : decode cX3_read 65 = .ok (.bipush 48, 2) := by decide +kernel
theorem dX3_read_67 : decode cX3_read 67 = .ok (.isub, 1) := by decide +kernel
theorem dX3_read_68 : decode cX3_read 68 = .ok (.putfield 28, 3) := by decide +kernel
theorem dX3_read_71 : decode cX3_read 71 = .ok (.goto 50, 3) := by decide +kernel
theorem dX3_read_74 : decode cX3_read 74 = .ok (.iload_n 2, 1) := by decide +kernel
theorem dX3_read_75 : decode cX3_read 75 = .ok (.bipush 45, 2) := by decide +kernel
theorem dX3_read_77 : decode cX3_read 77 = .ok (.if_icmp .ne 19, 3) := by decide +kernel
theorem dX3_read_80 : decode cX3_read 80 = .ok (.aload_n 0, 1) := by decide +kernel
theorem dX3_read_81 : decode cX3_read 81 = .ok (.aload_n 0, 1) := by decide +kernel
theorem dX3_read_82 : decode cX3_read 82 = .ok (.getfield 28, 3) := by decide +kernel
theorem dX3_read_85 : decode cX3_read 85 = .ok (.putfield 25, 3) := by decide +kernel
theorem dX3_read_88 : decode cX3_read 88 = .ok (.aload_n 0, 1) := by decide +kernel
theorem dX3_read_89 : decode cX3_read 89 = .ok (.iconst 0, 1) := by decide +kernel
theorem dX3_read_90 : decode cX3_read 90 = .ok (.putfield 28, 3) := by decide +kernel
theorem dX3_read_93 : decode cX3_read 93 = .ok (.goto 28, 3) := by decide +kernel
theorem dX3_read_96 : decode cX3_read 96 = .ok (.iload_n 2, 1) := by decide +kernel
theorem dX3_read_97 : decode cX3_read 97 = .ok (.bipush 109, 2) := by decide +kernel
theorem dX3_read_99 : decode cX3_read 99 = .ok (.if_icmp .ne 11, 3) := by decide +kernel
theorem dX3_read_102 : decode cX3_read 102 = .ok (.aload_n 0, 1) := by decide +kernel
theorem dX3_read_103 : decode cX3_read 103 = .ok (.iconst 1, 1) := by decide +kernel
theorem dX3_read_104 : decode cX3_read 104 = .ok (.putfield 22, 3) := by decide +kernel
theorem dX3_read_107 : decode cX3_read 107 = .ok (.goto 14, 3) := by decide +kernel
theorem dX3_read_110 : decode cX3_read 110 = .ok (.iload_n 2, 1) := by decide +kernel
theorem dX3_read_111 : decode cX3_read 111 = .ok (.bipush 115, 2) := by decide +kernel
theorem dX3_read_113 : decode cX3_read 113 = .ok (.if_icmp .ne 8, 3) := by decide +kernel
theorem dX3_read_116 : decode cX3_read 116 = .ok (.aload_n 0, 1) := by decide +kernel
theorem dX3_read_117 : decode cX3_read 117 = .ok (.iconst 2, 1) := by decide +kernel
theorem dX3_read_118 : decode cX3_read 118 = .ok (.putfield 22, 3) := by decide +kernel
theorem dX3_read_121 : decode cX3_read 121 = .ok (.return_, 1) := by decide +kernel
set_option maxRecDepth 20000 in
theorem ggX4_init_X2_init : GoodIn wsX4_init wsX2_init := goodIn_r _ [25, 26, 2, 3, 27, 16, 17, 28, 29, 30, 31, 32, 33, 34, 35, 36, 37, 38, 39, 40, 41, 42, 43, 44, 45, 46, 47, 86, 87, 88, 67, 68, 69, 70, 71, 72, 73, 74] (by decide +kernel) (by decide +kernel)
set_option maxRecDepth 20000 in
theorem gX4_init_X2_init_n9 : GoodIn wsX4_init (wsX2_init) := ggX4_init_X2_init
set_option maxRecDepth 20000 in
theorem ggX4_init_X1_init : GoodIn wsX4_init wsX1_init := goodIn_r _ [50, 51, 2, 3, 52, 53, 54, 55, 16, 17, 56, 38, 39, 40, 29, 41, 42, 43, 44, 45, 46, 47, 83, 84, 85, 86, 87, 88] (by decide +kernel) (by decide +kernel)
set_option maxRecDepth 20000 in
theorem gX4_init_X1_init : GoodIn wsX4_init (wsX1_init) := ggX4_init_X1_init
set_option maxRecDepth 20000 in
theorem ggX4_init_X0_init : GoodIn wsX4_init wsX0_init := goodIn_r _ [39, 40, 2, 3, 29, 41, 42, 43, 44, 45, 46, 47, 86, 87, 88] (by decide +kernel) (by decide +kernel)
set_option maxRecDepth 20000 in
theorem gX4_init_X0_init : GoodIn wsX4_init (wsX0_init) := ggX4_init_X0_init
set_option maxRecDepth 20000 in
theorem ggX4_init_X3_init : GoodIn wsX4_init wsX3_init := goodIn_r _ [59, 60, 2, 3, 29, 61, 62, 63, 64, 65, 66, 89, 90, 91, 92, 93, 94] (by decide +kernel) (by decide +kernel)
set_option maxRecDepth 20000 in
theorem gX4_init_X3_init_n46 : GoodIn wsX4_init (wsX3_init) := ggX4_init_X3_init
theorem dX4_init_0 : decode cX4_init 0 = .ok (.aload_n 0, 1) := by decide +kernel
theorem dX4_init_1 : decode cX4_init 1 = .ok (.invokespecial 1, 3) := by decide +kernel
theorem dX4_init_4 : decode cX4_init 4 = .ok (.aload_n 0, 1) := by decide +kernel
theorem dX4_init_5 : decode cX4_init 5 = .ok (.new 7, 3) := by decide +kernel
theorem dX4_init_8 : decode cX4_init 8 = .ok (.dup, 1) := by decide +kernel
theorem dX4_init_9 : decode cX4_init 9 = .ok (.invokespecial 9, 3) := by decide +kernel
theorem dX4_init_12 : decode cX4_init 12 = .ok (.putfield 10, 3) := by decide +kernel
theorem dX4_init_15 : decode cX4_init 15 = .ok (.aload_n 0, 1) := by decide +kernel
theorem dX4_init_16 : decode cX4_init 16 = .ok (.aload_n 0, 1) := by decide +kernel
theorem dX4_init_17 : decode cX4_init 17 = .ok (.getfield 10, 3) := by decide +kernel
theorem dX4_init_20 : decode cX4_init 20 = .ok (.getfield 16, 3) := by decide +kernel
theorem dX4_init_23 : decode cX4_init 23 = .ok (.putfield 20, 3) := by decide +kernel
theorem dX4_init_26 : decode cX4_init 26 = .ok (.aload_n 0, 1) := by decide +kernel
theorem dX4_init_27 : decode cX4_init 27 = .ok (.new 7, 3) := by decide +kernel
theorem dX4_init_30 : decode cX4_init 30 = .ok (.dup, 1) := by decide +kernel
theorem dX4_init_31 : decode cX4_init 31 = .ok (.invokespecial 9, 3) := by decide +kernel
theorem dX4_init_34 : decode cX4_init 34 = .ok (.putfield 21, 3) := by decide +kernel
theorem dX4_init_37 : decode cX4_init 37 = .ok (.aload_n 0, 1) := by decide +kernel
theorem dX4_init_38 : decode cX4_init 38 = .ok (.aload_n 0, 1) := by decide +kernel
theorem dX4_init_39 : decode cX4_init 39 = .ok (.getfield 21, 3) := by decide +kernel
theorem dX4_init_42 : decode cX4_init 42 = .ok (.getfield 16, 3) := by decide +kernel
theorem dX4_init_45 : decode cX4_init 45 = .ok (.putfield 24, 3) := by decide +kernel
theorem dX4_init_48 : decode cX4_init 48 = .ok (.aload_n 0, 1) := by decide +kernel
theorem dX4_init_49 : decode cX4_init 49 = .ok (.new 27, 3) := by decide +kernel
theorem dX4_init_52 : decode cX4_init 52 = .ok (.dup, 1) := by decide +kernel
theorem dX4_init_53 : decode cX4_init 53 = .ok (.invokespecial 29, 3) := by decide +kernel
theorem dX4_init_56 : decode cX4_init 56 = .ok (.putfield 30, 3) := by decide +kernel
theorem dX4_init_59 : decode cX4_init 59 = .ok (.aload_n 0, 1) := by decide +kernel
theorem dX4_init_60 : decode cX4_init 60 = .ok (.new 34, 3) := by decide +kernel
theorem dX4_init_63 : decode cX4_init 63 = .ok (.dup, 1) := by decide +kernel
theorem dX4_init_64 : decode cX4_init 64 = .ok (.invokespecial 36, 3) := by decide +kernel
theorem dX4_init_67 : decode cX4_init 67 = .ok (.putfield 37, 3) := by decide +kernel
theorem dX4_init_70 : decode cX4_init 70 = .ok (.aload_n 0, 1) := by decide +kernel
theorem dX4_init_71 : decode cX4_init 71 = .ok (.iconst 0, 1) := by decide +kernel
theorem dX4_init_72 : decode cX4_init 72 = .ok (.putfield 40, 3) := by decide +kernel
theorem dX4_init_75 : decode cX4_init 75 = .ok (.aload_n 0, 1) := by decide +kernel
theorem dX4_init_76 : decode cX4_init 76 = .ok (.new 44, 3) := by decide +kernel
theorem dX4_init_79 : decode cX4_init 79 = .ok (.dup, 1) := by decide +kernel
theorem dX4_init_80 : decode cX4_init 80 = .ok (.invokespecial 46, 3) := by decide +kernel
theorem dX4_init_83 : decode cX4_init 83 = .ok (.putfield 47, 3) := by decide +kernel
theorem dX4_init_86 : decode cX4_init 86 = .ok (.return_, 1) := by decide +kernel
set_option maxRecDepth 20000 in
theorem ggX4_army_X4_isSeat : GoodIn wsX4_army wsX4_isSeat := goodIn_r _ [10] (by decide +kernel) (by decide +kernel)
set_option maxRecDepth 20000 in
theorem gX4_army_X4_isSeat : GoodIn wsX4_army (va_wsS RX4 51 yX4_isSeat wsX4_isSeat) := goodIn_app (goodIn_of _ (by decide +kernel)) ggX4_army_X4_isSeat
set_option maxRecDepth 20000 in
theorem ggX4_army_X4_isField : GoodIn wsX4_army wsX4_isField := goodIn_r _ [13] (by decide +kernel) (by decide +kernel)
set_option maxRecDepth 20000 in
theorem gX4_army_X4_isField : GoodIn wsX4_army (va_wsS RX4 55 yX4_isField wsX4_isField) := goodIn_app (goodIn_of _ (by decide +kernel)) ggX4_army_X4_isField
set_option maxRecDepth 20000 in
theorem ggX4_army_X0_armyOn : GoodIn wsX4_army wsX0_armyOn := goodIn_r _ [18, 19, 20, 21, 17, 22, 23, 24, 25, 26, 27, 28, 69, 70, 71] (by decide +kernel) (by decide +kernel)
set_option maxRecDepth 20000 in
theorem gX4_army_X0_armyOn : GoodIn wsX4_army (wsV RX4 65 RX0 yX0_armyOn wsX0_armyOn) := goodIn_app (goodIn_of _ (by decide +kernel)) ggX4_army_X0_armyOn
set_option maxRecDepth 20000 in
theorem ggX4_army_X0_number : GoodIn wsX4_army wsX0_number := goodIn_r _ [22, 23, 69, 70, 71] (by decide +kernel) (by decide +kernel)
set_option maxRecDepth 20000 in
theorem gX4_army_X0_number : GoodIn wsX4_army (wsV RX4 69 RX0 yX0_number wsX0_number) := goodIn_app (goodIn_of _ (by decide +kernel)) ggX4_army_X0_number
set_option maxRecDepth 20000 in
theorem ggX4_army_X1_save : GoodIn wsX4_army wsX1_save := goodIn_r _ [34, 35, 36, 37, 38, 39, 33, 40, 41, 42, 43, 44, 17, 45, 23, 46, 47, 48, 49, 50, 28, 72, 73, 74, 69, 70, 71] (by decide +kernel) (by decide +kernel)
set_option maxRecDepth 20000 in
theorem gX4_army_X1_save : GoodIn wsX4_army (wsV RX4 77 RX1 yX1_save wsX1_save) := goodIn_app (goodIn_of _ (by decide +kernel)) ggX4_army_X1_save
set_option maxRecDepth 20000 in
theorem ggX4_army_X0_setUp : GoodIn wsX4_army wsX0_setUp := goodIn_r _ [54, 23, 19, 20, 21, 17, 22, 55, 56, 57, 58, 28, 59, 9, 60, 69, 70, 71] (by decide +kernel) (by decide +kernel)
set_option maxRecDepth 20000 in
theorem gX4_army_X0_setUp : GoodIn wsX4_army (wsV RX4 81 RX0 yX0_setUp wsX0_setUp) := goodIn_app (goodIn_of _ (by decide +kernel)) ggX4_army_X0_setUp
theorem dX4_army_0 : decode cX4_army 0 = .ok (.iload_n 1, 1) := by decide +kernel
theorem dX4_army_1 : decode cX4_army 1 = .ok (.invokestatic 51, 3) := by decide +kernel
theorem dX4_army_4 : decode cX4_army 4 = .ok (.ifCond .eq 10, 3) := by decide +kernel
theorem dX4_army_7 : decode cX4_army 7 = .ok (.iload_n 2, 1) := by decide +kernel
theorem dX4_army_8 : decode cX4_army 8 = .ok (.invokestatic 55, 3) := by decide +kernel
theorem dX4_army_11 : decode cX4_army 11 = .ok (.ifCond .ne 13, 3) := by decide +kernel
theorem dX4_army_14 : decode cX4_army 14 = .ok (.new 58, 3) := by decide +kernel
theorem dX4_army_17 : decode cX4_army 17 = .ok (.dup, 1) := by decide +kernel
theorem dX4_army_18 : decode cX4_army 18 = .ok (.ldc 60, 2) := by decide +kernel
theorem dX4_army_20 : decode cX4_army 20 = .ok (.invokespecial 62, 3) := by decide +kernel
theorem dX4_army_23 : decode cX4_army 23 = .ok (.athrow, 1) := by decide +kernel
theorem dX4_army_24 : decode cX4_army 24 = .ok (.aload_n 0, 1) := by decide +kernel
theorem dX4_army_25 : decode cX4_army 25 = .ok (.getfield 20, 3) := by decide +kernel
theorem dX4_army_28 : decode cX4_army 28 = .ok (.iload_n 2, 1) := by decide +kernel
theorem dX4_army_29 : decode cX4_army 29 = .ok (.invokevirtual 65, 3) := by decide +kernel
theorem dX4_army_32 : decode cX4_army 32 = .ok (.iconst (-1), 1) := by decide +kernel
theorem dX4_army_33 : decode cX4_army 33 = .ok (.if_icmp .ne 16, 3) := by decide +kernel
theorem dX4_army_36 : decode cX4_army 36 = .ok (.aload_n 0, 1) := by decide +kernel
theorem dX4_army_37 : decode cX4_army 37 = .ok (.getfield 20, 3) := by decide +kernel
theorem dX4_army_40 : decode cX4_army 40 = .ok (.iconst 0, 1) := by decide +kernel
theorem dX4_army_41 : decode cX4_army 41 = .ok (.invokevirtual 69, 3) := by decide +kernel
theorem dX4_army_44 : decode cX4_army 44 = .ok (.bipush 9, 2) := by decide +kernel
theorem dX4_army_46 : decode cX4_army 46 = .ok (.if_icmp .lt 13, 3) := by decide +kernel
theorem dX4_army_49 : decode cX4_army 49 = .ok (.new 72, 3) := by decide +kernel
theorem dX4_army_52 : decode cX4_army 52 = .ok (.dup, 1) := by decide +kernel
theorem dX4_army_53 : decode cX4_army 53 = .ok (.ldc 74, 2) := by decide +kernel
theorem dX4_army_55 : decode cX4_army 55 = .ok (.invokespecial 76, 3) := by decide +kernel
theorem dX4_army_58 : decode cX4_army 58 = .ok (.athrow, 1) := by decide +kernel
theorem dX4_army_59 : decode cX4_army 59 = .ok (.aload_n 0, 1) := by decide +kernel
theorem dX4_army_60 : decode cX4_army 60 = .ok (.getfield 30, 3) := by decide +kernel
theorem dX4_army_63 : decode cX4_army 63 = .ok (.aload_n 0, 1) := by decide +kernel
theorem dX4_army_64 : decode cX4_army 64 = .ok (.getfield 20, 3) := by decide +kernel
theorem dX4_army_67 : decode cX4_army 67 = .ok (.invokevirtual 77, 3) := by decide +kernel
theorem dX4_army_70 : decode cX4_army 70 = .ok (.aload_n 0, 1) := by decide +kernel
theorem dX4_army_71 : decode cX4_army 71 = .ok (.getfield 20, 3) := by decide +kernel
theorem dX4_army_74 : decode cX4_army 74 = .ok (.iload_n 1, 1) := by decide +kernel
theorem dX4_army_75 : decode cX4_army 75 = .ok (.iload_n 2, 1) := by decide +kernel
theorem dX4_army_76 : decode cX4_army 76 = .ok (.invokevirtual 81, 3) := by decide +kernel
theorem dX4_army_79 : decode cX4_army 79 = .ok (.ireturn, 1) := by decide +kernel
set_option maxRecDepth 20000 in
theorem ggX4_drop_X0_hasArmy : GoodIn wsX4_drop wsX0_hasArmy := goodIn_r _ [9, 10, 11, 12, 8, 13, 14, 61, 62, 63] (by decide +kernel) (by decide +kernel)
set_option maxRecDepth 20000 in
theorem gX4_drop_X0_hasArmy : GoodIn wsX4_drop (wsV RX4 85 RX0 yX0_hasArmy wsX0_hasArmy) := goodIn_app (goodIn_of _ (by decide +kernel)) ggX4_drop_X0_hasArmy
set_option maxRecDepth 20000 in
theorem ggX4_drop_X1_save : GoodIn wsX4_drop wsX1_save := goodIn_r _ [19, 20, 21, 22, 23, 24, 18, 25, 26, 27, 28, 29, 8, 30, 14, 31, 32, 33, 34, 35, 36, 64, 65, 66, 61, 62, 63] (by decide +kernel) (by decide +kernel)
set_option maxRecDepth 20000 in
theorem gX4_drop_X1_save : GoodIn wsX4_drop (wsV RX4 77 RX1 yX1_save wsX1_save) := goodIn_app (goodIn_of _ (by decide +kernel)) ggX4_drop_X1_save
set_option maxRecDepth 20000 in
theorem ggX4_drop_X0_remove : GoodIn wsX4_drop wsX0_remove := goodIn_r _ [40, 14, 10, 11, 12, 8, 13, 41, 42, 43, 44, 36, 45, 46, 47, 48, 49, 50, 51, 61, 62, 63] (by decide +kernel) (by decide +kernel)
set_option maxRecDepth 20000 in
theorem gX4_drop_X0_remove : GoodIn wsX4_drop (wsV RX4 90 RX0 yX0_remove wsX0_remove) := goodIn_app (goodIn_of _ (by decide +kernel)) ggX4_drop_X0_remove
set_option maxRecDepth 20000 in
theorem ggX4_drop_X0_number : GoodIn wsX4_drop wsX0_number := goodIn_r _ [13, 14, 61, 62, 63] (by decide +kernel) (by decide +kernel)
set_option maxRecDepth 20000 in
theorem gX4_drop_X0_number : GoodIn wsX4_drop (wsV RX4 69 RX0 yX0_number wsX0_number) := goodIn_app (goodIn_of _ (by decide +kernel)) ggX4_drop_X0_number
theorem dX4_drop_0 : decode cX4_drop 0 = .ok (.aload_n 0, 1) := by decide +kernel
theorem dX4_drop_1 : decode cX4_drop 1 = .ok (.getfield 20, 3) := by decide +kernel
theorem dX4_drop_4 : decode cX4_drop 4 = .ok (.iload_n 1, 1) := by decide +kernel
theorem dX4_drop_5 : decode cX4_drop 5 = .ok (.invokevirtual 85, 3) := by decide +kernel
theorem dX4_drop_8 : decode cX4_drop 8 = .ok (.ifCond .ne 13, 3) := by decide +kernel
theorem dX4_drop_11 : decode cX4_drop 11 = .ok (.new 58, 3) := by decide +kernel
theorem dX4_drop_14 : decode cX4_drop 14 = .ok (.dup, 1) := by decide +kernel
theorem dX4_drop_15 : decode cX4_drop 15 = .ok (.ldc 88, 2) := by decide +kernel
theorem dX4_drop_17 : decode cX4_drop 17 = .ok (.invokespecial 62, 3) := by decide +kernel
theorem dX4_drop_20 : decode cX4_drop 20 = .ok (.athrow, 1) := by decide +kernel
theorem dX4_drop_21 : decode cX4_drop 21 = .ok (.aload_n 0, 1) := by decide +kernel
theorem dX4_drop_22 : decode cX4_drop 22 = .ok (.getfield 30, 3) := by decide +kernel
theorem dX4_drop_25 : decode cX4_drop 25 = .ok (.aload_n 0, 1) := by decide +kernel
theorem dX4_drop_26 : decode cX4_drop 26 = .ok (.getfield 20, 3) := by decide +kernel
theorem dX4_drop_29 : decode cX4_drop 29 = .ok (.invokevirtual 77, 3) := by decide +kernel
theorem dX4_drop_32 : decode cX4_drop 32 = .ok (.aload_n 0, 1) := by decide +kernel
theorem dX4_drop_33 : decode cX4_drop 33 = .ok (.getfield 20, 3) := by decide +kernel
theorem dX4_drop_36 : decode cX4_drop 36 = .ok (.iload_n 1, 1) := by decide +kernel
theorem dX4_drop_37 : decode cX4_drop 37 = .ok (.invokevirtual 90, 3) := by decide +kernel
theorem dX4_drop_40 : decode cX4_drop 40 = .ok (.aload_n 0, 1) := by decide +kernel
theorem dX4_drop_41 : decode cX4_drop 41 = .ok (.getfield 20, 3) := by decide +kernel
theorem dX4_drop_44 : decode cX4_drop 44 = .ok (.iconst 0, 1) := by decide +kernel
theorem dX4_drop_45 : decode cX4_drop 45 = .ok (.invokevirtual 69, 3) := by decide +kernel
theorem dX4_drop_48 : decode cX4_drop 48 = .ok (.ireturn, 1) := by decide +kernel
set_option maxRecDepth 20000 in
theorem ggX4_hold_X0_hasArmy : GoodIn wsX4_hold wsX0_hasArmy := goodIn_r _ [9, 10, 11, 12, 8, 13, 14, 57, 58, 59] (by decide +kernel) (by decide +kernel)
set_option maxRecDepth 20000 in
theorem gX4_hold_X0_hasArmy : GoodIn wsX4_hold (wsV RX4 85 RX0 yX0_hasArmy wsX0_hasArmy) := goodIn_app (goodIn_of _ (by decide +kernel)) ggX4_hold_X0_hasArmy
set_option maxRecDepth 20000 in
theorem ggX4_hold_X1_save : GoodIn wsX4_hold wsX1_save := goodIn_r _ [19, 20, 21, 22, 23, 24, 18, 25, 26, 27, 28, 29, 8, 30, 14, 31, 32, 33, 34, 35, 36, 60, 61, 62, 57, 58, 59] (by decide +kernel) (by decide +kernel)
set_option maxRecDepth 20000 in
theorem gX4_hold_X1_save : GoodIn wsX4_hold (wsV RX4 77 RX1 yX1_save wsX1_save) := goodIn_app (goodIn_of _ (by decide +kernel)) ggX4_hold_X1_save
set_option maxRecDepth 20000 in
theorem ggX4_hold_X0_give : GoodIn wsX4_hold wsX0_give := goodIn_r _ [40, 41, 42, 43, 8, 44, 36, 45, 46, 47, 48, 57, 58, 59] (by decide +kernel) (by decide +kernel)
set_option maxRecDepth 20000 in
theorem gX4_hold_X0_give : GoodIn wsX4_hold (wsV RX4 94 RX0 yX0_give wsX0_give) := goodIn_app (goodIn_of _ (by decide +kernel)) ggX4_hold_X0_give
theorem dX4_hold_0 : decode cX4_hold 0 = .ok (.aload_n 0, 1) := by decide +kernel
theorem dX4_hold_1 : decode cX4_hold 1 = .ok (.getfield 20, 3) := by decide +kernel
theorem dX4_hold_4 : decode cX4_hold 4 = .ok (.iload_n 1, 1) := by decide +kernel
theorem dX4_hold_5 : decode cX4_hold 5 = .ok (.invokevirtual 85, 3) := by decide +kernel
theorem dX4_hold_8 : decode cX4_hold 8 = .ok (.ifCond .ne 13, 3) := by decide +kernel
theorem dX4_hold_11 : decode cX4_hold 11 = .ok (.new 58, 3) := by decide +kernel
theorem dX4_hold_14 : decode cX4_hold 14 = .ok (.dup, 1) := by decide +kernel
theorem dX4_hold_15 : decode cX4_hold 15 = .ok (.ldc 88, 2) := by decide +kernel
theorem dX4_hold_17 : decode cX4_hold 17 = .ok (.invokespecial 62, 3) := by decide +kernel
theorem dX4_hold_20 : decode cX4_hold 20 = .ok (.athrow, 1) := by decide +kernel
theorem dX4_hold_21 : decode cX4_hold 21 = .ok (.aload_n 0, 1) := by decide +kernel
theorem dX4_hold_22 : decode cX4_hold 22 = .ok (.getfield 30, 3) := by decide +kernel
theorem dX4_hold_25 : decode cX4_hold 25 = .ok (.aload_n 0, 1) := by decide +kernel
theorem dX4_hold_26 : decode cX4_hold 26 = .ok (.getfield 20, 3) := by decide +kernel
theorem dX4_hold_29 : decode cX4_hold 29 = .ok (.invokevirtual 77, 3) := by decide +kernel
theorem dX4_hold_32 : decode cX4_hold 32 = .ok (.aload_n 0, 1) := by decide +kernel
theorem dX4_hold_33 : decode cX4_hold 33 = .ok (.getfield 20, 3) := by decide +kernel
theorem dX4_hold_36 : decode cX4_hold 36 = .ok (.iload_n 1, 1) := by decide +kernel
theorem dX4_hold_37 : decode cX4_hold 37 = .ok (.iconst 0, 1) := by decide +kernel
theorem dX4_hold_38 : decode cX4_hold 38 = .ok (.iconst (-1), 1) := by decide +kernel
theorem dX4_hold_39 : decode cX4_hold 39 = .ok (.iconst (-1), 1) := by decide +kernel
theorem dX4_hold_40 : decode cX4_hold 40 = .ok (.invokevirtual 94, 3) := by decide +kernel
theorem dX4_hold_43 : decode cX4_hold 43 = .ok (.ireturn, 1) := by decide +kernel
set_option maxRecDepth 20000 in
theorem ggX4_move_X0_hasArmy : GoodIn wsX4_move wsX0_hasArmy := goodIn_r _ [11, 12, 13, 14, 10, 15, 16, 70, 71, 72] (by decide +kernel) (by decide +kernel)
set_option maxRecDepth 20000 in
theorem gX4_move_X0_hasArmy : GoodIn wsX4_move (wsV RX4 85 RX0 yX0_hasArmy wsX0_hasArmy) := goodIn_app (goodIn_of _ (by decide +kernel)) ggX4_move_X0_hasArmy
set_option maxRecDepth 20000 in
theorem ggX4_move_X4_isField : GoodIn wsX4_move wsX4_isField := goodIn_r _ [20] (by decide +kernel) (by decide +kernel)
set_option maxRecDepth 20000 in
theorem gX4_move_X4_isField : GoodIn wsX4_move (va_wsS RX4 55 yX4_isField wsX4_isField) := goodIn_app (goodIn_of _ (by decide +kernel)) ggX4_move_X4_isField
set_option maxRecDepth 20000 in
theorem ggX4_move_X0_canBeGiven : GoodIn wsX4_move wsX0_canBeGiven := goodIn_r _ [24, 25, 8, 9, 10, 11, 12, 13, 14, 15, 16, 26, 27, 28, 29, 30, 31, 19, 32, 70, 71, 72] (by decide +kernel) (by decide +kernel)
set_option maxRecDepth 20000 in
theorem gX4_move_X0_canBeGiven : GoodIn wsX4_move (wsV RX4 100 RX0 yX0_canBeGiven wsX0_canBeGiven) := goodIn_app (goodIn_of _ (by decide +kernel)) ggX4_move_X0_canBeGiven
set_option maxRecDepth 20000 in
theorem ggX4_move_X1_save : GoodIn wsX4_move wsX1_save := goodIn_r _ [37, 38, 39, 40, 41, 42, 36, 43, 44, 45, 46, 47, 10, 48, 16, 49, 50, 51, 52, 53, 30, 73, 74, 75, 70, 71, 72] (by decide +kernel) (by decide +kernel)
set_option maxRecDepth 20000 in
theorem gX4_move_X1_save : GoodIn wsX4_move (wsV RX4 77 RX1 yX1_save wsX1_save) := goodIn_app (goodIn_of _ (by decide +kernel)) ggX4_move_X1_save
set_option maxRecDepth 20000 in
theorem ggX4_move_X0_give : GoodIn wsX4_move wsX0_give := goodIn_r _ [57, 26, 27, 28, 10, 29, 30, 58, 59, 60, 61, 70, 71, 72] (by decide +kernel) (by decide +kernel)
set_option maxRecDepth 20000 in
theorem gX4_move_X0_give : GoodIn wsX4_move (wsV RX4 94 RX0 yX0_give wsX0_give) := goodIn_app (goodIn_of _ (by decide +kernel)) ggX4_move_X0_give
theorem dX4_move_0 : decode cX4_move 0 = .ok (.aload_n 0, 1) := by decide +kernel
theorem dX4_move_1 : decode cX4_move 1 = .ok (.getfield 20, 3) := by decide +kernel
theorem dX4_move_4 : decode cX4_move 4 = .ok (.iload_n 1, 1) := by decide +kernel
theorem dX4_move_5 : decode cX4_move 5 = .ok (.invokevirtual 85, 3) := by decide +kernel
theorem dX4_move_8 : decode cX4_move 8 = .ok (.ifCond .eq 10, 3) := by decide +kernel
theorem dX4_move_11 : decode cX4_move 11 = .ok (.iload_n 2, 1) := by decide +kernel
theorem dX4_move_12 : decode cX4_move 12 = .ok (.invokestatic 55, 3) := by decide +kernel
theorem dX4_move_15 : decode cX4_move 15 = .ok (.ifCond .ne 13, 3) := by decide +kernel
theorem dX4_move_18 : decode cX4_move 18 = .ok (.new 58, 3) := by decide +kernel
theorem dX4_move_21 : decode cX4_move 21 = .ok (.dup, 1) := by decide +kernel
theorem dX4_move_22 : decode cX4_move 22 = .ok (.ldc 98, 2) := by decide +kernel
theorem dX4_move_24 : decode cX4_move 24 = .ok (.invokespecial 62, 3) := by decide +kernel
theorem dX4_move_27 : decode cX4_move 27 = .ok (.athrow, 1) := by decide +kernel
theorem dX4_move_28 : decode cX4_move 28 = .ok (.aload_n 0, 1) := by decide +kernel
theorem dX4_move_29 : decode cX4_move 29 = .ok (.getfield 20, 3) := by decide +kernel
theorem dX4_move_32 : decode cX4_move 32 = .ok (.iload_n 1, 1) := by decide +kernel
theorem dX4_move_33 : decode cX4_move 33 = .ok (.iconst 1, 1) := by decide +kernel
theorem dX4_move_34 : decode cX4_move 34 = .ok (.iconst (-1), 1) := by decide +kernel
theorem dX4_move_35 : decode cX4_move 35 = .ok (.iload_n 2, 1) := by decide +kernel
theorem dX4_move_36 : decode cX4_move 36 = .ok (.invokevirtual 100, 3) := by decide +kernel
theorem dX4_move_39 : decode cX4_move 39 = .ok (.ifCond .ne 13, 3) := by decide +kernel
theorem dX4_move_42 : decode cX4_move 42 = .ok (.new 104, 3) := by decide +kernel
theorem dX4_move_45 : decode cX4_move 45 = .ok (.dup, 1) := by decide +kernel
theorem dX4_move_46 : decode cX4_move 46 = .ok (.ldc 106, 2) := by decide +kernel
theorem dX4_move_48 : decode cX4_move 48 = .ok (.invokespecial 108, 3) := by decide +kernel
theorem dX4_move_51 : decode cX4_move 51 = .ok (.athrow, 1) := by decide +kernel
theorem dX4_move_52 : decode cX4_move 52 = .ok (.aload_n 0, 1) := by decide +kernel
theorem dX4_move_53 : decode cX4_move 53 = .ok (.getfield 30, 3) := by decide +kernel
theorem dX4_move_56 : decode cX4_move 56 = .ok (.aload_n 0, 1) := by decide +kernel
theorem dX4_move_57 : decode cX4_move 57 = .ok (.getfield 20, 3) := by decide +kernel
theorem dX4_move_60 : decode cX4_move 60 = .ok (.invokevirtual 77, 3) := by decide +kernel
theorem dX4_move_63 : decode cX4_move 63 = .ok (.aload_n 0, 1) := by decide +kernel
theorem dX4_move_64 : decode cX4_move 64 = .ok (.getfield 20, 3) := by decide +kernel
theorem dX4_move_67 : decode cX4_move 67 = .ok (.iload_n 1, 1) := by decide +kernel
theorem dX4_move_68 : decode cX4_move 68 = .ok (.iconst 1, 1) := by decide +kernel
theorem dX4_move_69 : decode cX4_move 69 = .ok (.iconst (-1), 1) := by decide +kernel
theorem dX4_move_70 : decode cX4_move 70 = .ok (.iload_n 2, 1) := by decide +kernel
theorem dX4_move_71 : decode cX4_move 71 = .ok (.invokevirtual 94, 3) := by decide +kernel
theorem dX4_move_74 : decode cX4_move 74 = .ok (.ireturn, 1) := by decide +kernel
set_option maxRecDepth 20000 in
theorem ggX4_support_X0_hasArmy : GoodIn wsX4_support wsX0_hasArmy := goodIn_r _ [11, 12, 13, 14, 10, 15, 16, 70, 71, 72] (by decide +kernel) (by decide +kernel)
set_option maxRecDepth 20000 in
theorem gX4_support_X0_hasArmy : GoodIn wsX4_support (wsV RX4 85 RX0 yX0_hasArmy wsX0_hasArmy) := goodIn_app (goodIn_of _ (by decide +kernel)) ggX4_support_X0_hasArmy
set_option maxRecDepth 20000 in
theorem ggX4_support_X4_isField : GoodIn wsX4_support wsX4_isField := goodIn_r _ [20] (by decide +kernel) (by decide +kernel)
set_option maxRecDepth 20000 in
theorem gX4_support_X4_isField : GoodIn wsX4_support (va_wsS RX4 55 yX4_isField wsX4_isField) := goodIn_app (goodIn_of _ (by decide +kernel)) ggX4_support_X4_isField
set_option maxRecDepth 20000 in
theorem ggX4_support_X0_canBeGiven : GoodIn wsX4_support wsX0_canBeGiven := goodIn_r _ [24, 25, 8, 9, 10, 11, 12, 13, 14, 15, 16, 26, 27, 28, 29, 30, 31, 19, 32, 70, 71, 72] (by decide +kernel) (by decide +kernel)
set_option maxRecDepth 20000 in
theorem gX4_support_X0_canBeGiven : GoodIn wsX4_support (wsV RX4 100 RX0 yX0_canBeGiven wsX0_canBeGiven) := goodIn_app (goodIn_of _ (by decide +kernel)) ggX4_support_X0_canBeGiven
set_option maxRecDepth 20000 in
theorem ggX4_support_X1_save : GoodIn wsX4_support wsX1_save := goodIn_r _ [37, 38, 39, 40, 41, 42, 36, 43, 44, 45, 46, 47, 10, 48, 16, 49, 50, 51, 52, 53, 30, 73, 74, 75, 70, 71, 72] (by decide +kernel) (by decide +kernel)
set_option maxRecDepth 20000 in
theorem gX4_support_X1_save : GoodIn wsX4_support (wsV RX4 77 RX1 yX1_save wsX1_save) := goodIn_app (goodIn_of _ (by decide +kernel)) ggX4_support_X1_save
set_option maxRecDepth 20000 in
theorem ggX4_support_X0_give : GoodIn wsX4_support wsX0_give := goodIn_r _ [57, 26, 27, 28, 10, 29, 30, 58, 59, 60, 61, 70, 71, 72] (by decide +kernel) (by decide +kernel)
set_option maxRecDepth 20000 in
theorem gX4_support_X0_give : GoodIn wsX4_support (wsV RX4 94 RX0 yX0_give wsX0_give) := goodIn_app (goodIn_of _ (by decide +kernel)) ggX4_support_X0_give
theorem dX4_support_0 : decode cX4_support 0 = .ok (.aload_n 0, 1) := by decide +kernel
theorem dX4_support_1 : decode cX4_support 1 = .ok (.getfield 20, 3) := by decide +kernel
theorem dX4_support_4 : decode cX4_support 4 = .ok (.iload_n 1, 1) := by decide +kernel
theorem dX4_support_5 : decode cX4_support 5 = .ok (.invokevirtual 85, 3) := by decide +kernel
theorem dX4_support_8 : decode cX4_support 8 = .ok (.ifCond .eq 17, 3) := by decide +kernel
theorem dX4_support_11 : decode cX4_support 11 = .ok (.iload_n 2, 1) := by decide +kernel
theorem dX4_support_12 : decode cX4_support 12 = .ok (.invokestatic 55, 3) := by decide +kernel
theorem dX4_support_15 : decode cX4_support 15 = .ok (.ifCond .eq 10, 3) := by decide +kernel
theorem dX4_support_18 : decode cX4_support 18 = .ok (.iload_n 3, 1) := by decide +kernel
theorem dX4_support_19 : decode cX4_support 19 = .ok (.invokestatic 55, 3) := by decide +kernel
theorem dX4_support_22 : decode cX4_support 22 = .ok (.ifCond .ne 13, 3) := by decide +kernel
theorem dX4_support_25 : decode cX4_support 25 = .ok (.new 58, 3) := by decide +kernel
theorem dX4_support_28 : decode cX4_support 28 = .ok (.dup, 1) := by decide +kernel
theorem dX4_support_29 : decode cX4_support 29 = .ok (.ldc 98, 2) := by decide +kernel
theorem dX4_support_31 : decode cX4_support 31 = .ok (.invokespecial 62, 3) := by decide +kernel
theorem dX4_support_34 : decode cX4_support 34 = .ok (.athrow, 1) := by decide +kernel
theorem dX4_support_35 : decode cX4_support 35 = .ok (.aload_n 0, 1) := by decide +kernel
theorem dX4_support_36 : decode cX4_support 36 = .ok (.getfield 20, 3) := by decide +kernel
theorem dX4_support_39 : decode cX4_support 39 = .ok (.iload_n 1, 1) := by decide +kernel
theorem dX4_support_40 : decode cX4_support 40 = .ok (.iconst 2, 1) := by decide +kernel
theorem dX4_support_41 : decode cX4_support 41 = .ok (.iload_n 2, 1) := by decide +kernel
theorem dX4_support_42 : decode cX4_support 42 = .ok (.iload_n 3, 1) := by decide +kernel
theorem dX4_support_43 : decode cX4_support 43 = .ok (.invokevirtual 100, 3) := by decide +kernel
theorem dX4_support_46 : decode cX4_support 46 = .ok (.ifCond .ne 13, 3) := by decide +kernel
theorem dX4_support_49 : decode cX4_support 49 = .ok (.new 104, 3) := by decide +kernel
theorem dX4_support_52 : decode cX4_support 52 = .ok (.dup, 1) := by decide +kernel
theorem dX4_support_53 : decode cX4_support 53 = .ok (.ldc 109, 2) := by decide +kernel
theorem dX4_support_55 : decode cX4_support 55 = .ok (.invokespecial 108, 3) := by decide +kernel
theorem dX4_support_58 : decode cX4_support 58 = .ok (.athrow, 1) := by decide +kernel
theorem dX4_support_59 : decode cX4_support 59 = .ok (.aload_n 0, 1) := by decide +kernel
theorem dX4_support_60 : decode cX4_support 60 = .ok (.getfield 30, 3) := by decide +kernel
theorem dX4_support_63 : decode cX4_support 63 = .ok (.aload_n 0, 1) := by decide +kernel
theorem dX4_support_64 : decode cX4_support 64 = .ok (.getfield 20, 3) := by decide +kernel
theorem dX4_support_67 : decode cX4_support 67 = .ok (.invokevirtual 77, 3) := by decide +kernel
theorem dX4_support_70 : decode cX4_support 70 = .ok (.aload_n 0, 1) := by decide +kernel
theorem dX4_support_71 : decode cX4_support 71 = .ok (.getfield 20, 3) := by decide +kernel
theorem dX4_support_74 : decode cX4_support 74 = .ok (.iload_n 1, 1) := by decide +kernel
theorem dX4_support_75 : decode cX4_support 75 = .ok (.iconst 2, 1) := by decide +kernel
theorem dX4_support_76 : decode cX4_support 76 = .ok (.iload_n 2, 1) := by decide +kernel
theorem dX4_support_77 : decode cX4_support 77 = .ok (.iload_n 3, 1) := by decide +kernel
theorem dX4_support_78 : decode cX4_support 78 = .ok (.invokevirtual 94, 3) := by decide +kernel
theorem dX4_support_81 : decode cX4_support 81 = .ok (.ireturn, 1) := by decide +kernel
set_option maxRecDepth 20000 in
theorem ggX4_open_X1_save : GoodIn wsX4_open wsX1_save := goodIn_r _ [8, 9, 10, 11, 12, 13, 7, 14, 15, 16, 17, 18, 19, 20, 21, 22, 23, 24, 25, 26, 27, 220, 221, 222, 223, 224, 225] (by decide +kernel) (by decide +kernel)
set_option maxRecDepth 20000 in
theorem gX4_open_X1_save : GoodIn wsX4_open (wsV RX4 77 RX1 yX1_save wsX1_save) := goodIn_app (goodIn_of _ (by decide +kernel)) ggX4_open_X1_save
set_option maxRecDepth 20000 in
theorem ggX4_open_X2_study : GoodIn wsX4_open wsX2_study := goodIn_r _ [32, 33, 34, 35, 31, 36, 37, 38, 39, 40, 41, 42, 43, 44, 45, 46, 19, 47, 21, 48, 49, 50, 51, 27, 52, 53, 54, 55, 56, 57, 58, 59, 60, 61, 62, 63, 64, 65, 66, 67, 68, 69, 70, 71, 72, 73, 74, 75, 76, 77, 78, 79, 80, 81, 82, 83, 84, 85, 86, 87, 88, 89, 90, 91, 92, 93, 94, 95, 96, 97, 98, 99, 100, 101, 102, 103, 104, 105, 106, 107, 108, 109, 110, 111, 112, 113, 114, 115, 116, 117, 118, 119, 120, 121, 122, 123, 124, 125, 126, 127, 128, 129, 130, 131, 132, 133, 134, 135, 136, 137, 138, 139, 140, 141, 226, 227, 228, 229, 230, 231, 232, 233, 223, 224, 225] (by decide +kernel) (by decide +kernel)
set_option maxRecDepth 20000 in
theorem gX4_open_X2_study : GoodIn wsX4_open (wsV RX4 111 RX2 yX2_study wsX2_study) := goodIn_app (goodIn_of _ (by decide +kernel)) ggX4_open_X2_study
set_option maxRecDepth 20000 in
theorem ggX4_open_X2_carryOut : GoodIn wsX4_open wsX2_carryOut := goodIn_r _ [145, 41, 113, 44, 45, 46, 19, 47, 21, 56, 57, 58, 31, 59, 48, 49, 50, 51, 27, 101, 102, 103, 104, 88, 82, 71, 83, 146, 147, 148, 149, 150, 151, 152, 153, 154, 155, 156, 157, 68, 70, 72, 158, 159, 160, 161, 115, 162, 163, 164, 165, 69, 166, 167, 168, 169, 170, 171, 172, 173, 174, 175, 176, 177, 178, 179, 180, 181, 182, 26, 183, 184, 185, 186, 187, 188, 189, 190, 191, 192, 193, 194, 195, 196, 197, 198, 199, 200, 201, 202, 203, 204, 205, 206, 207, 65, 66, 67, 208, 209, 210, 211, 226, 227, 228, 229, 230, 231, 232, 233, 223, 224, 225] (by decide +kernel) (by decide +kernel)
set_option maxRecDepth 20000 in
theorem gX4_open_X2_carryOut : GoodIn wsX4_open (wsV RX4 114 RX2 yX2_carryOut wsX2_carryOut) := goodIn_app (goodIn_of _ (by decide +kernel)) ggX4_open_X2_carryOut
theorem dX4_open_0 : decode cX4_open 0 = .ok (.aload_n 0, 1) := by decide +kernel
theorem dX4_open_1 : decode cX4_open 1 = .ok (.getfield 30, 3) := by decide +kernel
theorem dX4_open_4 : decode cX4_open 4 = .ok (.aload_n 0, 1) := by decide +kernel
theorem dX4_open_5 : decode cX4_open 5 = .ok (.getfield 20, 3) := by decide +kernel
theorem dX4_open_8 : decode cX4_open 8 = .ok (.invokevirtual 77, 3) := by decide +kernel
theorem dX4_open_11 : decode cX4_open 11 = .ok (.aload_n 0, 1) := by decide +kernel
theorem dX4_open_12 : decode cX4_open 12 = .ok (.getfield 10, 3) := by decide +kernel
theorem dX4_open_15 : decode cX4_open 15 = .ok (.invokevirtual 111, 3) := by decide +kernel
theorem dX4_open_18 : decode cX4_open 18 = .ok (.aload_n 0, 1) := by decide +kernel
theorem dX4_open_19 : decode cX4_open 19 = .ok (.getfield 10, 3) := by decide +kernel
theorem dX4_open_22 : decode cX4_open 22 = .ok (.invokevirtual 114, 3) := by decide +kernel
theorem dX4_open_25 : decode cX4_open 25 = .ok (.ireturn, 1) := by decide +kernel
set_option maxRecDepth 20000 in
theorem ggX4_append_X3_size : GoodIn wsX4_append wsX3_size := goodIn_r _ [10, 11, 28, 29, 30, 31, 32, 33] (by decide +kernel) (by decide +kernel)
set_option maxRecDepth 20000 in
theorem gX4_append_X3_size : GoodIn wsX4_append (wsV RX4 120 RX3 yX3_size wsX3_size) := goodIn_app (goodIn_of _ (by decide +kernel)) ggX4_append_X3_size
set_option maxRecDepth 20000 in
theorem ggX4_append_X3_add : GoodIn wsX4_append wsX3_add := goodIn_r _ [15, 11, 16, 17, 18, 19, 28, 29, 30, 31, 32, 33] (by decide +kernel) (by decide +kernel)
set_option maxRecDepth 20000 in
theorem gX4_append_X3_add : GoodIn wsX4_append (wsV RX4 125 RX3 yX3_add wsX3_add) := goodIn_app (goodIn_of _ (by decide +kernel)) ggX4_append_X3_add
theorem dX4_append_0 : decode cX4_append 0 = .ok (.iload_n 1, 1) := by decide +kernel
theorem dX4_append_1 : decode cX4_append 1 = .ok (.bipush 33, 2) := by decide +kernel
theorem dX4_append_3 : decode cX4_append 3 = .ok (.if_icmp .lt 9, 3) := by decide +kernel
theorem dX4_append_6 : decode cX4_append 6 = .ok (.iload_n 1, 1) := by decide +kernel
theorem dX4_append_7 : decode cX4_append 7 = .ok (.bipush 126, 2) := by decide +kernel
theorem dX4_append_9 : decode cX4_append 9 = .ok (.if_icmp .le 13, 3) := by decide +kernel
theorem dX4_append_12 : decode cX4_append 12 = .ok (.new 104, 3) := by decide +kernel
theorem dX4_append_15 : decode cX4_append 15 = .ok (.dup, 1) := by decide +kernel
theorem dX4_append_16 : decode cX4_append 16 = .ok (.ldc 118, 2) := by decide +kernel
theorem dX4_append_18 : decode cX4_append 18 = .ok (.invokespecial 108, 3) := by decide +kernel
theorem dX4_append_21 : decode cX4_append 21 = .ok (.athrow, 1) := by decide +kernel
theorem dX4_append_22 : decode cX4_append 22 = .ok (.aload_n 0, 1) := by decide +kernel
theorem dX4_append_23 : decode cX4_append 23 = .ok (.getfield 47, 3) := by decide +kernel
theorem dX4_append_26 : decode cX4_append 26 = .ok (.invokevirtual 120, 3) := by decide +kernel
theorem dX4_append_29 : decode cX4_append 29 = .ok (.bipush 60, 2) := by decide +kernel
theorem dX4_append_31 : decode cX4_append 31 = .ok (.if_icmp .lt 13, 3) := by decide +kernel
theorem dX4_append_34 : decode cX4_append 34 = .ok (.new 72, 3) := by decide +kernel
theorem dX4_append_37 : decode cX4_append 37 = .ok (.dup, 1) := by decide +kernel
theorem dX4_append_38 : decode cX4_append 38 = .ok (.ldc 123, 2) := by decide +kernel
theorem dX4_append_40 : decode cX4_append 40 = .ok (.invokespecial 76, 3) := by decide +kernel
theorem dX4_append_43 : decode cX4_append 43 = .ok (.athrow, 1) := by decide +kernel
theorem dX4_append_44 : decode cX4_append 44 = .ok (.aload_n 0, 1) := by decide +kernel
theorem dX4_append_45 : decode cX4_append 45 = .ok (.getfield 47, 3) := by decide +kernel
theorem dX4_append_48 : decode cX4_append 48 = .ok (.iload_n 1, 1) := by decide +kernel
theorem dX4_append_49 : decode cX4_append 49 = .ok (.invokevirtual 125, 3) := by decide +kernel
theorem dX4_append_52 : decode cX4_append 52 = .ok (.aload_n 0, 1) := by decide +kernel
theorem dX4_append_53 : decode cX4_append 53 = .ok (.getfield 47, 3) := by decide +kernel
theorem dX4_append_56 : decode cX4_append 56 = .ok (.invokevirtual 120, 3) := by decide +kernel
theorem dX4_append_59 : decode cX4_append 59 = .ok (.ireturn, 1) := by decide +kernel
set_option maxRecDepth 20000 in
theorem ggX4_clearBuffer_X3_size : GoodIn wsX4_clearBuffer wsX3_size := goodIn_r _ [6, 7, 20, 21, 22, 23, 24, 25] (by decide +kernel) (by decide +kernel)
set_option maxRecDepth 20000 in
theorem gX4_clearBuffer_X3_size : GoodIn wsX4_clearBuffer (wsV RX4 120 RX3 yX3_size wsX3_size) := goodIn_app (goodIn_of _ (by decide +kernel)) ggX4_clearBuffer_X3_size
set_option maxRecDepth 20000 in
theorem ggX4_clearBuffer_X3_empty : GoodIn wsX4_clearBuffer wsX3_empty := goodIn_r _ [11, 7, 20, 21, 22, 23, 24, 25] (by decide +kernel) (by decide +kernel)
set_option maxRecDepth 20000 in
theorem gX4_clearBuffer_X3_empty : GoodIn wsX4_clearBuffer (wsV RX4 128 RX3 yX3_empty wsX3_empty) := goodIn_app (goodIn_of _ (by decide +kernel)) ggX4_clearBuffer_X3_empty
theorem dX4_clearBuffer_0 : decode cX4_clearBuffer 0 = .ok (.aload_n 0, 1) := by decide +kernel
theorem dX4_clearBuffer_1 : decode cX4_clearBuffer 1 = .ok (.getfield 47, 3) := by decide +kernel
theorem dX4_clearBuffer_4 : decode cX4_clearBuffer 4 = .ok (.invokevirtual 120, 3) := by decide +kernel
theorem dX4_clearBuffer_7 : decode cX4_clearBuffer 7 = .ok (.istore_n 1, 1) := by decide +kernel
theorem dX4_clearBuffer_8 : decode cX4_clearBuffer 8 = .ok (.aload_n 0, 1) := by decide +kernel
theorem dX4_clearBuffer_9 : decode cX4_clearBuffer 9 = .ok (.getfield 47, 3) := by decide +kernel
theorem dX4_clearBuffer_12 : decode cX4_clearBuffer 12 = .ok (.invokevirtual 128, 3) := by decide +kernel
theorem dX4_clearBuffer_15 : decode cX4_clearBuffer 15 = .ok (.iload_n 1, 1) := by decide +kernel
theorem dX4_clearBuffer_16 : decode cX4_clearBuffer 16 = .ok (.ireturn, 1) := by decide +kernel
set_option maxRecDepth 20000 in
theorem ggX4_firstError_X3_errorIndex : GoodIn wsX4_firstError wsX3_errorIndex := goodIn_r _ [6, 7, 8, 9, 10, 5, 11, 12, 13, 14, 15, 16, 17, 18, 19, 20, 21, 22, 23, 24, 25, 26, 27, 28, 29, 30, 31, 32, 33, 42, 43, 44, 45, 46, 47] (by decide +kernel) (by decide +kernel)
set_option maxRecDepth 20000 in
theorem gX4_firstError_X3_errorIndex : GoodIn wsX4_firstError (wsV RX4 131 RX3 yX3_errorIndex wsX3_errorIndex) := goodIn_app (goodIn_of _ (by decide +kernel)) ggX4_firstError_X3_errorIndex
theorem dX4_firstError_0 : decode cX4_firstError 0 = .ok (.aload_n 0, 1) := by decide +kernel
theorem dX4_firstError_1 : decode cX4_firstError 1 = .ok (.getfield 47, 3) := by decide +kernel
theorem dX4_firstError_4 : decode cX4_firstError 4 = .ok (.invokevirtual 131, 3) := by decide +kernel
theorem dX4_firstError_7 : decode cX4_firstError 7 = .ok (.ireturn, 1) := by decide +kernel
set_option maxRecDepth 20000 in
theorem ggX4_orders_X3_isComplete : GoodIn wsX4_orders wsX3_isComplete := goodIn_r _ [10, 11, 12, 13, 14, 9, 15, 16, 17, 18, 19, 20, 21, 22, 23, 24, 25, 26, 27, 28, 29, 30, 31, 32, 33, 34, 35, 36, 37, 124, 125, 126, 127, 128, 129] (by decide +kernel) (by decide +kernel)
set_option maxRecDepth 20000 in
theorem gX4_orders_X3_isComplete : GoodIn wsX4_orders (wsV RX4 134 RX3 yX3_isComplete wsX3_isComplete) := goodIn_app (goodIn_of _ (by decide +kernel)) ggX4_orders_X3_isComplete
set_option maxRecDepth 20000 in
theorem ggX4_orders_X1_save : GoodIn wsX4_orders wsX1_save := goodIn_r _ [42, 43, 44, 45, 46, 47, 41, 48, 49, 50, 51, 52, 53, 54, 55, 56, 57, 58, 59, 60, 61, 130, 131, 132, 133, 134, 135] (by decide +kernel) (by decide +kernel)
set_option maxRecDepth 20000 in
theorem gX4_orders_X1_save : GoodIn wsX4_orders (wsV RX4 77 RX1 yX1_save wsX1_save) := goodIn_app (goodIn_of _ (by decide +kernel)) ggX4_orders_X1_save
set_option maxRecDepth 20000 in
theorem ggX4_orders_X4_giveAll : GoodIn wsX4_orders wsX4_giveAll := goodIn_r _ [65, 3, 66, 67, 68, 9, 69, 11, 70, 71, 72, 73, 74, 75, 76, 77, 12, 13, 14, 15, 16, 17, 18, 19, 29, 30, 31, 78, 79, 80, 81, 82, 83, 84, 85, 5, 86, 87, 88, 53, 89, 90, 91, 92, 93, 94, 95, 96, 97, 55, 98, 99, 100, 101, 61, 102, 103, 104, 105, 106, 107, 108, 109, 110, 111, 116, 117, 118, 119, 120, 121, 122, 123, 124, 125, 126, 127, 128, 129, 133, 134, 135] (by decide +kernel) (by decide +kernel)
set_option maxRecDepth 20000 in
theorem gX4_orders_X4_giveAll : GoodIn wsX4_orders (wsV RX4 140 RX4 yX4_giveAll wsX4_giveAll) := goodIn_app (goodIn_of _ (by decide +kernel)) ggX4_orders_X4_giveAll
set_option maxRecDepth 20000 in
theorem ggX4_orders_X3_empty : GoodIn wsX4_orders wsX3_empty := goodIn_r _ [115, 11, 124, 125, 126, 127, 128, 129] (by decide +kernel) (by decide +kernel)
set_option maxRecDepth 20000 in
theorem gX4_orders_X3_empty : GoodIn wsX4_orders (wsV RX4 128 RX3 yX3_empty wsX3_empty) := goodIn_app (goodIn_of _ (by decide +kernel)) ggX4_orders_X3_empty
theorem dX4_orders_0 : decode cX4_orders 0 = .ok (.aload_n 0, 1) := by decide +kernel
theorem dX4_orders_1 : decode cX4_orders 1 = .ok (.getfield 47, 3) := by decide +kernel
theorem dX4_orders_4 : decode cX4_orders 4 = .ok (.invokevirtual 134, 3) := by decide +kernel
theorem dX4_orders_7 : decode cX4_orders 7 = .ok (.ifCond .ne 13, 3) := by decide +kernel
theorem dX4_orders_10 : decode cX4_orders 10 = .ok (.new 104, 3) := by decide +kernel
theorem dX4_orders_13 : decode cX4_orders 13 = .ok (.dup, 1) := by decide +kernel
theorem dX4_orders_14 : decode cX4_orders 14 = .ok (.ldc 138, 2) := by decide +kernel
theorem dX4_orders_16 : decode cX4_orders 16 = .ok (.invokespecial 108, 3) := by decide +kernel
theorem dX4_orders_19 : decode cX4_orders 19 = .ok (.athrow, 1) := by decide +kernel
theorem dX4_orders_20 : decode cX4_orders 20 = .ok (.aload_n 0, 1) := by decide +kernel
theorem dX4_orders_21 : decode cX4_orders 21 = .ok (.getfield 30, 3) := by decide +kernel
theorem dX4_orders_24 : decode cX4_orders 24 = .ok (.aload_n 0, 1) := by decide +kernel
theorem dX4_orders_25 : decode cX4_orders 25 = .ok (.getfield 20, 3) := by decide +kernel
theorem dX4_orders_28 : decode cX4_orders 28 = .ok (.invokevirtual 77, 3) := by decide +kernel
theorem dX4_orders_31 : decode cX4_orders 31 = .ok (.aload_n 0, 1) := by decide +kernel
theorem dX4_orders_32 : decode cX4_orders 32 = .ok (.invokevirtual 140, 3) := by decide +kernel
theorem dX4_orders_35 : decode cX4_orders 35 = .ok (.istore_n 1, 1) := by decide +kernel
theorem dX4_orders_36 : decode cX4_orders 36 = .ok (.aload_n 0, 1) := by decide +kernel
theorem dX4_orders_37 : decode cX4_orders 37 = .ok (.getfield 47, 3) := by decide +kernel
theorem dX4_orders_40 : decode cX4_orders 40 = .ok (.invokevirtual 128, 3) := by decide +kernel
theorem dX4_orders_43 : decode cX4_orders 43 = .ok (.iload_n 1, 1) := by decide +kernel
theorem dX4_orders_44 : decode cX4_orders 44 = .ok (.ireturn, 1) := by decide +kernel
set_option maxRecDepth 20000 in
theorem ggX4_undo_X1_size : GoodIn wsX4_undo wsX1_size := goodIn_r _ [9, 10, 41, 42, 43] (by decide +kernel) (by decide +kernel)
set_option maxRecDepth 20000 in
theorem gX4_undo_X1_size : GoodIn wsX4_undo (wsV RX4 143 RX1 yX1_size wsX1_size) := goodIn_app (goodIn_of _ (by decide +kernel)) ggX4_undo_X1_size
set_option maxRecDepth 20000 in
theorem ggX4_undo_X1_takeBack : GoodIn wsX4_undo wsX1_takeBack := goodIn_r _ [14, 10, 15, 16, 17, 8, 18, 19, 20, 21, 22, 23, 24, 25, 26, 27, 28, 29, 30, 31, 32, 41, 42, 43, 44, 45, 46] (by decide +kernel) (by decide +kernel)
set_option maxRecDepth 20000 in
theorem gX4_undo_X1_takeBack : GoodIn wsX4_undo (wsV RX4 146 RX1 yX1_takeBack wsX1_takeBack) := goodIn_app (goodIn_of _ (by decide +kernel)) ggX4_undo_X1_takeBack
theorem dX4_undo_0 : decode cX4_undo 0 = .ok (.aload_n 0, 1) := by decide +kernel
theorem dX4_undo_1 : decode cX4_undo 1 = .ok (.getfield 30, 3) := by decide +kernel
theorem dX4_undo_4 : decode cX4_undo 4 = .ok (.invokevirtual 143, 3) := by decide +kernel
theorem dX4_undo_7 : decode cX4_undo 7 = .ok (.ifCond .ne 13, 3) := by decide +kernel
theorem dX4_undo_10 : decode cX4_undo 10 = .ok (.new 72, 3) := by decide +kernel
theorem dX4_undo_13 : decode cX4_undo 13 = .ok (.dup, 1) := by decide +kernel
theorem dX4_undo_14 : decode cX4_undo 14 = .ok (.ldc 144, 2) := by decide +kernel
theorem dX4_undo_16 : decode cX4_undo 16 = .ok (.invokespecial 76, 3) := by decide +kernel
theorem dX4_undo_19 : decode cX4_undo 19 = .ok (.athrow, 1) := by decide +kernel
theorem dX4_undo_20 : decode cX4_undo 20 = .ok (.aload_n 0, 1) := by decide +kernel
theorem dX4_undo_21 : decode cX4_undo 21 = .ok (.getfield 30, 3) := by decide +kernel
theorem dX4_undo_24 : decode cX4_undo 24 = .ok (.aload_n 0, 1) := by decide +kernel
theorem dX4_undo_25 : decode cX4_undo 25 = .ok (.getfield 20, 3) := by decide +kernel
theorem dX4_undo_28 : decode cX4_undo 28 = .ok (.invokevirtual 146, 3) := by decide +kernel
theorem dX4_undo_31 : decode cX4_undo 31 = .ok (.aload_n 0, 1) := by decide +kernel
theorem dX4_undo_32 : decode cX4_undo 32 = .ok (.getfield 30, 3) := by decide +kernel
theorem dX4_undo_35 : decode cX4_undo 35 = .ok (.invokevirtual 143, 3) := by decide +kernel
theorem dX4_undo_38 : decode cX4_undo 38 = .ok (.ireturn, 1) := by decide +kernel
set_option maxRecDepth 20000 in
theorem ggX4_keep_X0_copyFrom : GoodIn wsX4_keep wsX0_copyFrom := goodIn_r _ [8, 9, 10, 11, 12, 13, 14, 15, 28, 29, 30] (by decide +kernel) (by decide +kernel)
set_option maxRecDepth 20000 in
theorem gX4_keep_X0_copyFrom : GoodIn wsX4_keep (wsV RX4 149 RX0 yX0_copyFrom wsX0_copyFrom) := goodIn_app (goodIn_of _ (by decide +kernel)) ggX4_keep_X0_copyFrom
set_option maxRecDepth 20000 in
theorem ggX4_keep_X0_number : GoodIn wsX4_keep wsX0_number := goodIn_r _ [19, 9, 28, 29, 30] (by decide +kernel) (by decide +kernel)
set_option maxRecDepth 20000 in
theorem gX4_keep_X0_number : GoodIn wsX4_keep (wsV RX4 69 RX0 yX0_number wsX0_number) := goodIn_app (goodIn_of _ (by decide +kernel)) ggX4_keep_X0_number
theorem dX4_keep_0 : decode cX4_keep 0 = .ok (.aload_n 0, 1) := by decide +kernel
theorem dX4_keep_1 : decode cX4_keep 1 = .ok (.getfield 37, 3) := by decide +kernel
theorem dX4_keep_4 : decode cX4_keep 4 = .ok (.aload_n 0, 1) := by decide +kernel
theorem dX4_keep_5 : decode cX4_keep 5 = .ok (.getfield 20, 3) := by decide +kernel
theorem dX4_keep_8 : decode cX4_keep 8 = .ok (.invokevirtual 149, 3) := by decide +kernel
theorem dX4_keep_11 : decode cX4_keep 11 = .ok (.aload_n 0, 1) := by decide +kernel
theorem dX4_keep_12 : decode cX4_keep 12 = .ok (.iconst 1, 1) := by decide +kernel
theorem dX4_keep_13 : decode cX4_keep 13 = .ok (.putfield 40, 3) := by decide +kernel
theorem dX4_keep_16 : decode cX4_keep 16 = .ok (.aload_n 0, 1) := by decide +kernel
theorem dX4_keep_17 : decode cX4_keep 17 = .ok (.getfield 20, 3) := by decide +kernel
theorem dX4_keep_20 : decode cX4_keep 20 = .ok (.iconst 0, 1) := by decide +kernel
theorem dX4_keep_21 : decode cX4_keep 21 = .ok (.invokevirtual 69, 3) := by decide +kernel
theorem dX4_keep_24 : decode cX4_keep 24 = .ok (.ireturn, 1) := by decide +kernel
set_option maxRecDepth 20000 in
theorem ggX4_restore_X1_save : GoodIn wsX4_restore wsX1_save := goodIn_r _ [11, 12, 13, 14, 15, 16, 10, 17, 18, 19, 20, 21, 22, 23, 24, 25, 26, 27, 28, 29, 30, 44, 45, 46, 47, 48, 49] (by decide +kernel) (by decide +kernel)
set_option maxRecDepth 20000 in
theorem gX4_restore_X1_save : GoodIn wsX4_restore (wsV RX4 77 RX1 yX1_save wsX1_save) := goodIn_app (goodIn_of _ (by decide +kernel)) ggX4_restore_X1_save
set_option maxRecDepth 20000 in
theorem ggX4_restore_X0_copyFrom : GoodIn wsX4_restore wsX0_copyFrom := goodIn_r _ [23, 24, 25, 26, 27, 28, 29, 30, 47, 48, 49] (by decide +kernel) (by decide +kernel)
set_option maxRecDepth 20000 in
theorem gX4_restore_X0_copyFrom : GoodIn wsX4_restore (wsV RX4 149 RX0 yX0_copyFrom wsX0_copyFrom) := goodIn_app (goodIn_of _ (by decide +kernel)) ggX4_restore_X0_copyFrom
set_option maxRecDepth 20000 in
theorem ggX4_restore_X0_number : GoodIn wsX4_restore wsX0_number := goodIn_r _ [35, 24, 47, 48, 49] (by decide +kernel) (by decide +kernel)
set_option maxRecDepth 20000 in
theorem gX4_restore_X0_number : GoodIn wsX4_restore (wsV RX4 69 RX0 yX0_number wsX0_number) := goodIn_app (goodIn_of _ (by decide +kernel)) ggX4_restore_X0_number
theorem dX4_restore_0 : decode cX4_restore 0 = .ok (.aload_n 0, 1) := by decide +kernel
theorem dX4_restore_1 : decode cX4_restore 1 = .ok (.getfield 40, 3) := by decide +kernel
theorem dX4_restore_4 : decode cX4_restore 4 = .ok (.ifCond .ne 13, 3) := by decide +kernel
theorem dX4_restore_7 : decode cX4_restore 7 = .ok (.new 72, 3) := by decide +kernel
theorem dX4_restore_10 : decode cX4_restore 10 = .ok (.dup, 1) := by decide +kernel
theorem dX4_restore_11 : decode cX4_restore 11 = .ok (.ldc 152, 2) := by decide +kernel
theorem dX4_restore_13 : decode cX4_restore 13 = .ok (.invokespecial 76, 3) := by decide +kernel
theorem dX4_restore_16 : decode cX4_restore 16 = .ok (.athrow, 1) := by decide +kernel
theorem dX4_restore_17 : decode cX4_restore 17 = .ok (.aload_n 0, 1) := by decide +kernel
theorem dX4_restore_18 : decode cX4_restore 18 = .ok (.getfield 30, 3) := by decide +kernel
theorem dX4_restore_21 : decode cX4_restore 21 = .ok (.aload_n 0, 1) := by decide +kernel
theorem dX4_restore_22 : decode cX4_restore 22 = .ok (.getfield 20, 3) := by decide +kernel
theorem dX4_restore_25 : decode cX4_restore 25 = .ok (.invokevirtual 77, 3) := by decide +kernel
theorem dX4_restore_28 : decode cX4_restore 28 = .ok (.aload_n 0, 1) := by decide +kernel
theorem dX4_restore_29 : decode cX4_restore 29 = .ok (.getfield 20, 3) := by decide +kernel
theorem dX4_restore_32 : decode cX4_restore 32 = .ok (.aload_n 0, 1) := by decide +kernel
theorem dX4_restore_33 : decode cX4_restore 33 = .ok (.getfield 37, 3) := by decide +kernel
theorem dX4_restore_36 : decode cX4_restore 36 = .ok (.invokevirtual 149, 3) := by decide +kernel
theorem dX4_restore_39 : decode cX4_restore 39 = .ok (.aload_n 0, 1) := by decide +kernel
theorem dX4_restore_40 : decode cX4_restore 40 = .ok (.getfield 20, 3) := by decide +kernel
theorem dX4_restore_43 : decode cX4_restore 43 = .ok (.iconst 0, 1) := by decide +kernel
theorem dX4_restore_44 : decode cX4_restore 44 = .ok (.invokevirtual 69, 3) := by decide +kernel
theorem dX4_restore_47 : decode cX4_restore 47 = .ok (.ireturn, 1) := by decide +kernel
set_option maxRecDepth 20000 in
theorem ggX4_armyOf_X0_hasArmy : GoodIn wsX4_armyOf wsX0_hasArmy := goodIn_r _ [10, 11, 12, 13, 9, 14, 15, 29, 30, 31] (by decide +kernel) (by decide +kernel)
set_option maxRecDepth 20000 in
theorem gX4_armyOf_X0_hasArmy : GoodIn wsX4_armyOf (wsV RX4 85 RX0 yX0_hasArmy wsX0_hasArmy) := goodIn_app (goodIn_of _ (by decide +kernel)) ggX4_armyOf_X0_hasArmy
set_option maxRecDepth 20000 in
theorem ggX4_armyOf_X0_of : GoodIn wsX4_armyOf wsX0_of := goodIn_r _ [19, 20, 29, 30, 31] (by decide +kernel) (by decide +kernel)
set_option maxRecDepth 20000 in
theorem gX4_armyOf_X0_of : GoodIn wsX4_armyOf (wsV RX4 156 RX0 yX0_of wsX0_of) := goodIn_app (goodIn_of _ (by decide +kernel)) ggX4_armyOf_X0_of
theorem dX4_armyOf_0 : decode cX4_armyOf 0 = .ok (.aload_n 0, 1) := by decide +kernel
theorem dX4_armyOf_1 : decode cX4_armyOf 1 = .ok (.getfield 20, 3) := by decide +kernel
theorem dX4_armyOf_4 : decode cX4_armyOf 4 = .ok (.iload_n 1, 1) := by decide +kernel
theorem dX4_armyOf_5 : decode cX4_armyOf 5 = .ok (.invokevirtual 85, 3) := by decide +kernel
theorem dX4_armyOf_8 : decode cX4_armyOf 8 = .ok (.ifCond .ne 13, 3) := by decide +kernel
theorem dX4_armyOf_11 : decode cX4_armyOf 11 = .ok (.new 58, 3) := by decide +kernel
theorem dX4_armyOf_14 : decode cX4_armyOf 14 = .ok (.dup, 1) := by decide +kernel
theorem dX4_armyOf_15 : decode cX4_armyOf 15 = .ok (.ldc 88, 2) := by decide +kernel
theorem dX4_armyOf_17 : decode cX4_armyOf 17 = .ok (.invokespecial 62, 3) := by decide +kernel
theorem dX4_armyOf_20 : decode cX4_armyOf 20 = .ok (.athrow, 1) := by decide +kernel
theorem dX4_armyOf_21 : decode cX4_armyOf 21 = .ok (.iload_n 2, 1) := by decide +kernel
theorem dX4_armyOf_22 : decode cX4_armyOf 22 = .ok (.ifCond .lt 9, 3) := by decide +kernel
theorem dX4_armyOf_25 : decode cX4_armyOf 25 = .ok (.iload_n 2, 1) := by decide +kernel
theorem dX4_armyOf_26 : decode cX4_armyOf 26 = .ok (.bipush 7, 2) := by decide +kernel
theorem dX4_armyOf_28 : decode cX4_armyOf 28 = .ok (.if_icmp .lt 13, 3) := by decide +kernel
theorem dX4_armyOf_31 : decode cX4_armyOf 31 = .ok (.new 104, 3) := by decide +kernel
theorem dX4_armyOf_34 : decode cX4_armyOf 34 = .ok (.dup, 1) := by decide +kernel
theorem dX4_armyOf_35 : decode cX4_armyOf 35 = .ok (.ldc 154, 2) := by decide +kernel
theorem dX4_armyOf_37 : decode cX4_armyOf 37 = .ok (.invokespecial 108, 3) := by decide +kernel
theorem dX4_armyOf_40 : decode cX4_armyOf 40 = .ok (.athrow, 1) := by decide +kernel
theorem dX4_armyOf_41 : decode cX4_armyOf 41 = .ok (.aload_n 0, 1) := by decide +kernel
theorem dX4_armyOf_42 : decode cX4_armyOf 42 = .ok (.getfield 20, 3) := by decide +kernel
theorem dX4_armyOf_45 : decode cX4_armyOf 45 = .ok (.iload_n 1, 1) := by decide +kernel
theorem dX4_armyOf_46 : decode cX4_armyOf 46 = .ok (.iload_n 2, 1) := by decide +kernel
theorem dX4_armyOf_47 : decode cX4_armyOf 47 = .ok (.invokevirtual 156, 3) := by decide +kernel
theorem dX4_armyOf_50 : decode cX4_armyOf 50 = .ok (.ireturn, 1) := by decide +kernel
set_option maxRecDepth 20000 in
theorem ggX4_field_X4_isField : GoodIn wsX4_field wsX4_isField := goodIn_r _ [8] (by decide +kernel) (by decide +kernel)
set_option maxRecDepth 20000 in
theorem gX4_field_X4_isField : GoodIn wsX4_field (va_wsS RX4 55 yX4_isField wsX4_isField) := goodIn_app (goodIn_of _ (by decide +kernel)) ggX4_field_X4_isField
set_option maxRecDepth 20000 in
theorem ggX4_field_X4_fieldNumber : GoodIn wsX4_field wsX4_fieldNumber := goodIn_r _ [12, 13, 14, 15, 16, 17, 18, 19, 20, 21, 22, 23, 24, 25, 26, 27, 28, 29, 30, 7, 31, 32, 33, 34, 35, 36, 37, 38, 39, 40, 41, 42, 43, 44, 45, 46, 47, 48, 49, 50, 51, 52, 53, 54, 55, 56, 57] (by decide +kernel) (by decide +kernel)
set_option maxRecDepth 20000 in
theorem gX4_field_X4_fieldNumber : GoodIn wsX4_field (wsV RX4 163 RX4 yX4_fieldNumber wsX4_fieldNumber) := goodIn_app (goodIn_of _ (by decide +kernel)) ggX4_field_X4_fieldNumber
theorem dX4_field_0 : decode cX4_field 0 = .ok (.iload_n 1, 1) := by decide +kernel
theorem dX4_field_1 : decode cX4_field 1 = .ok (.invokestatic 55, 3) := by decide +kernel
theorem dX4_field_4 : decode cX4_field 4 = .ok (.ifCond .ne 13, 3) := by decide +kernel
theorem dX4_field_7 : decode cX4_field 7 = .ok (.new 58, 3) := by decide +kernel
theorem dX4_field_10 : decode cX4_field 10 = .ok (.dup, 1) := by decide +kernel
theorem dX4_field_11 : decode cX4_field 11 = .ok (.ldc 159, 2) := by decide +kernel
theorem dX4_field_13 : decode cX4_field 13 = .ok (.invokespecial 62, 3) := by decide +kernel
theorem dX4_field_16 : decode cX4_field 16 = .ok (.athrow, 1) := by decide +kernel
theorem dX4_field_17 : decode cX4_field 17 = .ok (.iload_n 2, 1) := by decide +kernel
theorem dX4_field_18 : decode cX4_field 18 = .ok (.ifCond .lt 8, 3) := by decide +kernel
theorem dX4_field_21 : decode cX4_field 21 = .ok (.iload_n 2, 1) := by decide +kernel
theorem dX4_field_22 : decode cX4_field 22 = .ok (.iconst 5, 1) := by decide +kernel
theorem dX4_field_23 : decode cX4_field 23 = .ok (.if_icmp .lt 13, 3) := by decide +kernel
theorem dX4_field_26 : decode cX4_field 26 = .ok (.new 104, 3) := by decide +kernel
theorem dX4_field_29 : decode cX4_field 29 = .ok (.dup, 1) := by decide +kernel
theorem dX4_field_30 : decode cX4_field 30 = .ok (.ldc 161, 2) := by decide +kernel
theorem dX4_field_32 : decode cX4_field 32 = .ok (.invokespecial 108, 3) := by decide +kernel
theorem dX4_field_35 : decode cX4_field 35 = .ok (.athrow, 1) := by decide +kernel
theorem dX4_field_36 : decode cX4_field 36 = .ok (.aload_n 0, 1) := by decide +kernel
theorem dX4_field_37 : decode cX4_field 37 = .ok (.iload_n 1, 1) := by decide +kernel
theorem dX4_field_38 : decode cX4_field 38 = .ok (.iload_n 2, 1) := by decide +kernel
theorem dX4_field_39 : decode cX4_field 39 = .ok (.invokevirtual 163, 3) := by decide +kernel
theorem dX4_field_42 : decode cX4_field 42 = .ok (.ireturn, 1) := by decide +kernel
set_option maxRecDepth 20000 in
theorem ggX4_seat_X4_isSeat : GoodIn wsX4_seat wsX4_isSeat := goodIn_r _ [8] (by decide +kernel) (by decide +kernel)
set_option maxRecDepth 20000 in
theorem gX4_seat_X4_isSeat : GoodIn wsX4_seat (va_wsS RX4 51 yX4_isSeat wsX4_isSeat) := goodIn_app (goodIn_of _ (by decide +kernel)) ggX4_seat_X4_isSeat
set_option maxRecDepth 20000 in
theorem ggX4_seat_X4_seatNumber : GoodIn wsX4_seat wsX4_seatNumber := goodIn_r _ [12, 13, 14, 15, 16, 17, 18, 19, 20, 21, 22, 23, 24, 25, 26, 27, 28, 29, 30, 31, 32, 33, 34, 35, 36, 37, 38, 39, 40, 41, 42, 7, 43, 44, 45, 46, 47, 48, 49, 50, 51, 52, 53, 54, 55, 56, 57, 58, 59, 60, 61, 62, 63, 64, 65, 66] (by decide +kernel) (by decide +kernel)
set_option maxRecDepth 20000 in
theorem gX4_seat_X4_seatNumber : GoodIn wsX4_seat (wsV RX4 168 RX4 yX4_seatNumber wsX4_seatNumber) := goodIn_app (goodIn_of _ (by decide +kernel)) ggX4_seat_X4_seatNumber
theorem dX4_seat_0 : decode cX4_seat 0 = .ok (.iload_n 1, 1) := by decide +kernel
theorem dX4_seat_1 : decode cX4_seat 1 = .ok (.invokestatic 51, 3) := by decide +kernel
theorem dX4_seat_4 : decode cX4_seat 4 = .ok (.ifCond .ne 13, 3) := by decide +kernel
theorem dX4_seat_7 : decode cX4_seat 7 = .ok (.new 58, 3) := by decide +kernel
theorem dX4_seat_10 : decode cX4_seat 10 = .ok (.dup, 1) := by decide +kernel
theorem dX4_seat_11 : decode cX4_seat 11 = .ok (.ldc 166, 2) := by decide +kernel
theorem dX4_seat_13 : decode cX4_seat 13 = .ok (.invokespecial 62, 3) := by decide +kernel
theorem dX4_seat_16 : decode cX4_seat 16 = .ok (.athrow, 1) := by decide +kernel
theorem dX4_seat_17 : decode cX4_seat 17 = .ok (.iload_n 2, 1) := by decide +kernel
theorem dX4_seat_18 : decode cX4_seat 18 = .ok (.ifCond .lt 8, 3) := by decide +kernel
theorem dX4_seat_21 : decode cX4_seat 21 = .ok (.iload_n 2, 1) := by decide +kernel
theorem dX4_seat_22 : decode cX4_seat 22 = .ok (.iconst 5, 1) := by decide +kernel
theorem dX4_seat_23 : decode cX4_seat 23 = .ok (.if_icmp .lt 13, 3) := by decide +kernel
theorem dX4_seat_26 : decode cX4_seat 26 = .ok (.new 104, 3) := by decide +kernel
theorem dX4_seat_29 : decode cX4_seat 29 = .ok (.dup, 1) := by decide +kernel
theorem dX4_seat_30 : decode cX4_seat 30 = .ok (.ldc 161, 2) := by decide +kernel
theorem dX4_seat_32 : decode cX4_seat 32 = .ok (.invokespecial 108, 3) := by decide +kernel
theorem dX4_seat_35 : decode cX4_seat 35 = .ok (.athrow, 1) := by decide +kernel
theorem dX4_seat_36 : decode cX4_seat 36 = .ok (.aload_n 0, 1) := by decide +kernel
theorem dX4_seat_37 : decode cX4_seat 37 = .ok (.iload_n 1, 1) := by decide +kernel
theorem dX4_seat_38 : decode cX4_seat 38 = .ok (.iload_n 2, 1) := by decide +kernel
theorem dX4_seat_39 : decode cX4_seat 39 = .ok (.invokevirtual 168, 3) := by decide +kernel
theorem dX4_seat_42 : decode cX4_seat 42 = .ok (.ireturn, 1) := by decide +kernel
set_option maxRecDepth 20000 in
theorem ggX4_count_X4_countNumber : GoodIn wsX4_count wsX4_countNumber := goodIn_r _ [7, 8, 9, 10, 11, 12, 13, 14, 15, 16, 17, 18, 19, 20, 21, 22, 23, 24, 25, 26, 27, 28, 29, 30, 31, 32, 33, 34, 35, 36, 37, 38, 39, 40, 41, 42, 43, 44, 45] (by decide +kernel) (by decide +kernel)
set_option maxRecDepth 20000 in
theorem gX4_count_X4_countNumber : GoodIn wsX4_count (wsV RX4 173 RX4 yX4_countNumber wsX4_countNumber) := goodIn_app (goodIn_of _ (by decide +kernel)) ggX4_count_X4_countNumber
theorem dX4_count_0 : decode cX4_count 0 = .ok (.iload_n 1, 1) := by decide +kernel
theorem dX4_count_1 : decode cX4_count 1 = .ok (.ifCond .lt 9, 3) := by decide +kernel
theorem dX4_count_4 : decode cX4_count 4 = .ok (.iload_n 1, 1) := by decide +kernel
theorem dX4_count_5 : decode cX4_count 5 = .ok (.bipush 13, 2) := by decide +kernel
theorem dX4_count_7 : decode cX4_count 7 = .ok (.if_icmp .lt 13, 3) := by decide +kernel
theorem dX4_count_10 : decode cX4_count 10 = .ok (.new 104, 3) := by decide +kernel
theorem dX4_count_13 : decode cX4_count 13 = .ok (.dup, 1) := by decide +kernel
theorem dX4_count_14 : decode cX4_count 14 = .ok (.ldc 171, 2) := by decide +kernel
theorem dX4_count_16 : decode cX4_count 16 = .ok (.invokespecial 108, 3) := by decide +kernel
theorem dX4_count_19 : decode cX4_count 19 = .ok (.athrow, 1) := by decide +kernel
theorem dX4_count_20 : decode cX4_count 20 = .ok (.aload_n 0, 1) := by decide +kernel
theorem dX4_count_21 : decode cX4_count 21 = .ok (.iload_n 1, 1) := by decide +kernel
theorem dX4_count_22 : decode cX4_count 22 = .ok (.invokevirtual 173, 3) := by decide +kernel
theorem dX4_count_25 : decode cX4_count 25 = .ok (.ireturn, 1) := by decide +kernel
set_option maxRecDepth 20000 in
theorem ggX4_ifOpened_X0_hasArmy : GoodIn wsX4_ifOpened wsX0_hasArmy := goodIn_r _ [11, 12, 13, 14, 10, 15, 16, 140, 141, 142] (by decide +kernel) (by decide +kernel)
set_option maxRecDepth 20000 in
theorem gX4_ifOpened_X0_hasArmy : GoodIn wsX4_ifOpened (wsV RX4 85 RX0 yX0_hasArmy wsX0_hasArmy) := goodIn_app (goodIn_of _ (by decide +kernel)) ggX4_ifOpened_X0_hasArmy
set_option maxRecDepth 20000 in
theorem ggX4_ifOpened_X2_study : GoodIn wsX4_ifOpened wsX2_study := goodIn_r _ [21, 22, 23, 24, 20, 25, 26, 27, 28, 29, 30, 31, 32, 33, 13, 14, 10, 15, 16, 34, 35, 36, 37, 38, 39, 40, 41, 42, 43, 44, 45, 46, 47, 48, 49, 50, 51, 52, 53, 54, 12, 55, 56, 57, 58, 59, 60, 61, 62, 63, 64, 65, 66, 67, 68, 69, 70, 71, 72, 73, 74, 75, 76, 77, 78, 79, 80, 81, 82, 83, 84, 85, 86, 87, 88, 89, 90, 91, 92, 93, 94, 95, 96, 97, 98, 99, 100, 101, 102, 103, 104, 105, 106, 107, 108, 109, 110, 111, 112, 113, 114, 115, 116, 117, 118, 119, 120, 121, 122, 123, 124, 125, 126, 127, 143, 144, 145, 146, 147, 148, 149, 150, 140, 141, 142] (by decide +kernel) (by decide +kernel)
set_option maxRecDepth 20000 in
theorem gX4_ifOpened_X2_study : GoodIn wsX4_ifOpened (wsV RX4 111 RX2 yX2_study wsX2_study) := goodIn_app (goodIn_of _ (by decide +kernel)) ggX4_ifOpened_X2_study
set_option maxRecDepth 20000 in
theorem ggX4_ifOpened_X2_outcome : GoodIn wsX4_ifOpened wsX2_outcome := goodIn_r _ [131, 101, 63, 74, 99, 32, 31, 68, 57, 69, 143, 144, 145, 146, 147, 148, 149, 150] (by decide +kernel) (by decide +kernel)
set_option maxRecDepth 20000 in
theorem gX4_ifOpened_X2_outcome : GoodIn wsX4_ifOpened (wsV RX4 178 RX2 yX2_outcome wsX2_outcome) := goodIn_app (goodIn_of _ (by decide +kernel)) ggX4_ifOpened_X2_outcome
theorem dX4_ifOpened_0 : decode cX4_ifOpened 0 = .ok (.aload_n 0, 1) := by decide +kernel
theorem dX4_ifOpened_1 : decode cX4_ifOpened 1 = .ok (.getfield 20, 3) := by decide +kernel
theorem dX4_ifOpened_4 : decode cX4_ifOpened 4 = .ok (.iload_n 1, 1) := by decide +kernel
theorem dX4_ifOpened_5 : decode cX4_ifOpened 5 = .ok (.invokevirtual 85, 3) := by decide +kernel
theorem dX4_ifOpened_8 : decode cX4_ifOpened 8 = .ok (.ifCond .ne 13, 3) := by decide +kernel
theorem dX4_ifOpened_11 : decode cX4_ifOpened 11 = .ok (.new 58, 3) := by decide +kernel
theorem dX4_ifOpened_14 : decode cX4_ifOpened 14 = .ok (.dup, 1) := by decide +kernel
theorem dX4_ifOpened_15 : decode cX4_ifOpened 15 = .ok (.ldc 88, 2) := by decide +kernel
theorem dX4_ifOpened_17 : decode cX4_ifOpened 17 = .ok (.invokespecial 62, 3) := by decide +kernel
theorem dX4_ifOpened_20 : decode cX4_ifOpened 20 = .ok (.athrow, 1) := by decide +kernel
theorem dX4_ifOpened_21 : decode cX4_ifOpened 21 = .ok (.iload_n 2, 1) := by decide +kernel
theorem dX4_ifOpened_22 : decode cX4_ifOpened 22 = .ok (.ifCond .lt 9, 3) := by decide +kernel
theorem dX4_ifOpened_25 : decode cX4_ifOpened 25 = .ok (.iload_n 2, 1) := by decide +kernel
theorem dX4_ifOpened_26 : decode cX4_ifOpened 26 = .ok (.bipush 6, 2) := by decide +kernel
theorem dX4_ifOpened_28 : decode cX4_ifOpened 28 = .ok (.if_icmp .lt 13, 3) := by decide +kernel
theorem dX4_ifOpened_31 : decode cX4_ifOpened 31 = .ok (.new 104, 3) := by decide +kernel
theorem dX4_ifOpened_34 : decode cX4_ifOpened 34 = .ok (.dup, 1) := by decide +kernel
theorem dX4_ifOpened_35 : decode cX4_ifOpened 35 = .ok (.ldc 176, 2) := by decide +kernel
theorem dX4_ifOpened_37 : decode cX4_ifOpened 37 = .ok (.invokespecial 108, 3) := by decide +kernel
theorem dX4_ifOpened_40 : decode cX4_ifOpened 40 = .ok (.athrow, 1) := by decide +kernel
theorem dX4_ifOpened_41 : decode cX4_ifOpened 41 = .ok (.aload_n 0, 1) := by decide +kernel
theorem dX4_ifOpened_42 : decode cX4_ifOpened 42 = .ok (.getfield 10, 3) := by decide +kernel
theorem dX4_ifOpened_45 : decode cX4_ifOpened 45 = .ok (.invokevirtual 111, 3) := by decide +kernel
theorem dX4_ifOpened_48 : decode cX4_ifOpened 48 = .ok (.aload_n 0, 1) := by decide +kernel
theorem dX4_ifOpened_49 : decode cX4_ifOpened 49 = .ok (.getfield 10, 3) := by decide +kernel
theorem dX4_ifOpened_52 : decode cX4_ifOpened 52 = .ok (.iload_n 1, 1) := by decide +kernel
theorem dX4_ifOpened_53 : decode cX4_ifOpened 53 = .ok (.iload_n 2, 1) := by decide +kernel
theorem dX4_ifOpened_54 : decode cX4_ifOpened 54 = .ok (.invokevirtual 178, 3) := by decide +kernel
theorem dX4_ifOpened_57 : decode cX4_ifOpened 57 = .ok (.ireturn, 1) := by decide +kernel
set_option maxRecDepth 20000 in
theorem ggX4_canReach_X0_hasArmy : GoodIn wsX4_canReach wsX0_hasArmy := goodIn_r _ [8, 9, 10, 11, 7, 12, 13, 127, 128, 129] (by decide +kernel) (by decide +kernel)
set_option maxRecDepth 20000 in
theorem gX4_canReach_X0_hasArmy : GoodIn wsX4_canReach (wsV RX4 85 RX0 yX0_hasArmy wsX0_hasArmy) := goodIn_app (goodIn_of _ (by decide +kernel)) ggX4_canReach_X0_hasArmy
set_option maxRecDepth 20000 in
theorem ggX4_canReach_X4_reachMask : GoodIn wsX4_canReach wsX4_reachMask := goodIn_r _ [18, 19, 3, 20, 21, 22, 23, 7, 24, 13, 25, 26, 27, 28, 29, 30, 31, 32, 33, 34, 35, 5, 6, 8, 9, 10, 11, 12, 36, 37, 38, 39, 40, 17, 41, 42, 43, 44, 45, 46, 47, 48, 49, 50, 51, 52, 53, 54, 55, 56, 57, 58, 59, 60, 61, 62, 63, 64, 65, 66, 67, 68, 69, 70, 71, 72, 73, 74, 75, 76, 77, 78, 79, 80, 81, 82, 83, 84, 85, 86, 87, 88, 89, 90, 91, 92, 93, 94, 95, 96, 97, 98, 99, 100, 101, 102, 103, 104, 105, 106, 107, 108, 109, 110, 111, 112, 113, 114, 115, 116, 117, 118, 119, 120, 121, 122, 123, 124, 125, 126, 127, 128, 129, 130, 131, 132, 133, 134, 135, 136, 137] (by decide +kernel) (by decide +kernel)
set_option maxRecDepth 20000 in
theorem gX4_canReach_X4_reachMask : GoodIn wsX4_canReach (wsV RX4 181 RX4 yX4_reachMask wsX4_reachMask) := goodIn_app (goodIn_of _ (by decide +kernel)) ggX4_canReach_X4_reachMask
theorem dX4_canReach_0 : decode cX4_canReach 0 = .ok (.aload_n 0, 1) := by decide +kernel
theorem dX4_canReach_1 : decode cX4_canReach 1 = .ok (.getfield 20, 3) := by decide +kernel
theorem dX4_canReach_4 : decode cX4_canReach 4 = .ok (.iload_n 1, 1) := by decide +kernel
theorem dX4_canReach_5 : decode cX4_canReach 5 = .ok (.invokevirtual 85, 3) := by decide +kernel
theorem dX4_canReach_8 : decode cX4_canReach 8 = .ok (.ifCond .ne 13, 3) := by decide +kernel
theorem dX4_canReach_11 : decode cX4_canReach 11 = .ok (.new 58, 3) := by decide +kernel
theorem dX4_canReach_14 : decode cX4_canReach 14 = .ok (.dup, 1) := by decide +kernel
theorem dX4_canReach_15 : decode cX4_canReach 15 = .ok (.ldc 88, 2) := by decide +kernel
theorem dX4_canReach_17 : decode cX4_canReach 17 = .ok (.invokespecial 62, 3) := by decide +kernel
theorem dX4_canReach_20 : decode cX4_canReach 20 = .ok (.athrow, 1) := by decide +kernel
theorem dX4_canReach_21 : decode cX4_canReach 21 = .ok (.aload_n 0, 1) := by decide +kernel
theorem dX4_canReach_22 : decode cX4_canReach 22 = .ok (.iload_n 1, 1) := by decide +kernel
theorem dX4_canReach_23 : decode cX4_canReach 23 = .ok (.invokevirtual 181, 3) := by decide +kernel
theorem dX4_canReach_26 : decode cX4_canReach 26 = .ok (.ireturn, 1) := by decide +kernel
set_option maxRecDepth 20000 in
theorem ggX4_danger_X2_study : GoodIn wsX4_danger wsX2_study := goodIn_r _ [6, 7, 8, 9, 5, 10, 11, 12, 13, 14, 15, 16, 17, 18, 19, 20, 21, 22, 23, 24, 25, 26, 27, 28, 29, 30, 31, 32, 33, 34, 35, 36, 37, 38, 39, 40, 41, 42, 43, 44, 45, 46, 47, 48, 49, 50, 51, 52, 53, 54, 55, 56, 57, 58, 59, 60, 61, 62, 63, 64, 65, 66, 67, 68, 69, 70, 71, 72, 73, 74, 75, 76, 77, 78, 79, 80, 81, 82, 83, 84, 85, 86, 87, 88, 89, 90, 91, 92, 93, 94, 95, 96, 97, 98, 99, 100, 101, 102, 103, 104, 105, 106, 107, 108, 109, 110, 111, 112, 113, 114, 115, 116, 117, 118, 131, 132, 133, 134, 135, 136, 137, 138, 139, 140, 141] (by decide +kernel) (by decide +kernel)
set_option maxRecDepth 20000 in
theorem gX4_danger_X2_study : GoodIn wsX4_danger (wsV RX4 111 RX2 yX2_study wsX2_study) := goodIn_app (goodIn_of _ (by decide +kernel)) ggX4_danger_X2_study
set_option maxRecDepth 20000 in
theorem ggX4_danger_X2_mostInDanger : GoodIn wsX4_danger wsX2_mostInDanger := goodIn_r _ [122, 101, 102, 103, 5, 104, 15, 90, 91, 54, 18, 19, 20, 21, 22, 23, 59, 48, 60, 131, 132, 133, 134, 135, 136, 137, 138, 139, 140, 141] (by decide +kernel) (by decide +kernel)
set_option maxRecDepth 20000 in
theorem gX4_danger_X2_mostInDanger : GoodIn wsX4_danger (wsV RX4 184 RX2 yX2_mostInDanger wsX2_mostInDanger) := goodIn_app (goodIn_of _ (by decide +kernel)) ggX4_danger_X2_mostInDanger
theorem dX4_danger_0 : decode cX4_danger 0 = .ok (.aload_n 0, 1) := by decide +kernel
theorem dX4_danger_1 : decode cX4_danger 1 = .ok (.getfield 10, 3) := by decide +kernel
theorem dX4_danger_4 : decode cX4_danger 4 = .ok (.invokevirtual 111, 3) := by decide +kernel
theorem dX4_danger_7 : decode cX4_danger 7 = .ok (.aload_n 0, 1) := by decide +kernel
theorem dX4_danger_8 : decode cX4_danger 8 = .ok (.getfield 10, 3) := by decide +kernel
theorem dX4_danger_11 : decode cX4_danger 11 = .ok (.invokevirtual 184, 3) := by decide +kernel
theorem dX4_danger_14 : decode cX4_danger 14 = .ok (.ireturn, 1) := by decide +kernel
set_option maxRecDepth 20000 in
theorem ggX4_ifYear_X4_isSeat : GoodIn wsX4_ifYear wsX4_isSeat := goodIn_r _ [7] (by decide +kernel) (by decide +kernel)
set_option maxRecDepth 20000 in
theorem gX4_ifYear_X4_isSeat : GoodIn wsX4_ifYear (va_wsS RX4 51 yX4_isSeat wsX4_isSeat) := goodIn_app (goodIn_of _ (by decide +kernel)) ggX4_ifYear_X4_isSeat
set_option maxRecDepth 20000 in
theorem ggX4_ifYear_X2_study : GoodIn wsX4_ifYear wsX2_study := goodIn_r _ [12, 13, 14, 15, 11, 16, 17, 18, 19, 20, 21, 22, 23, 24, 25, 26, 27, 28, 29, 30, 31, 32, 33, 34, 35, 36, 37, 38, 39, 40, 41, 42, 43, 44, 45, 46, 47, 48, 49, 50, 51, 52, 53, 6, 54, 55, 56, 57, 58, 59, 60, 61, 62, 63, 64, 65, 66, 67, 68, 69, 70, 71, 72, 73, 74, 75, 76, 77, 78, 79, 80, 81, 82, 83, 84, 85, 86, 87, 88, 89, 90, 91, 92, 93, 94, 95, 96, 97, 98, 99, 100, 101, 102, 103, 104, 105, 106, 107, 108, 109, 110, 111, 112, 113, 114, 115, 116, 117, 118, 119, 120, 121, 122, 123, 147, 148, 149, 150, 151, 152, 153, 154, 155, 156, 157] (by decide +kernel) (by decide +kernel)
set_option maxRecDepth 20000 in
theorem gX4_ifYear_X2_study : GoodIn wsX4_ifYear (wsV RX4 111 RX2 yX2_study wsX2_study) := goodIn_app (goodIn_of _ (by decide +kernel)) ggX4_ifYear_X2_study
set_option maxRecDepth 20000 in
theorem ggX4_ifYear_X2_centresThen : GoodIn wsX4_ifYear wsX2_centresThen := goodIn_r _ [127, 128, 6, 129, 130, 131, 132, 11, 133, 21, 97, 24, 25, 26, 27, 28, 29, 64, 65, 30, 31, 32, 33, 34, 134, 135, 136, 137, 138, 147, 148, 149, 150, 151, 152, 153, 154, 155, 156, 157] (by decide +kernel) (by decide +kernel)
set_option maxRecDepth 20000 in
theorem gX4_ifYear_X2_centresThen : GoodIn wsX4_ifYear (wsV RX4 187 RX2 yX2_centresThen wsX2_centresThen) := goodIn_app (goodIn_of _ (by decide +kernel)) ggX4_ifYear_X2_centresThen
theorem dX4_ifYear_0 : decode cX4_ifYear 0 = .ok (.iload_n 1, 1) := by decide +kernel
theorem dX4_ifYear_1 : decode cX4_ifYear 1 = .ok (.invokestatic 51, 3) := by decide +kernel
theorem dX4_ifYear_4 : decode cX4_ifYear 4 = .ok (.ifCond .ne 13, 3) := by decide +kernel
theorem dX4_ifYear_7 : decode cX4_ifYear 7 = .ok (.new 58, 3) := by decide +kernel
theorem dX4_ifYear_10 : decode cX4_ifYear 10 = .ok (.dup, 1) := by decide +kernel
theorem dX4_ifYear_11 : decode cX4_ifYear 11 = .ok (.ldc 166, 2) := by decide +kernel
theorem dX4_ifYear_13 : decode cX4_ifYear 13 = .ok (.invokespecial 62, 3) := by decide +kernel
theorem dX4_ifYear_16 : decode cX4_ifYear 16 = .ok (.athrow, 1) := by decide +kernel
theorem dX4_ifYear_17 : decode cX4_ifYear 17 = .ok (.aload_n 0, 1) := by decide +kernel
theorem dX4_ifYear_18 : decode cX4_ifYear 18 = .ok (.getfield 10, 3) := by decide +kernel
theorem dX4_ifYear_21 : decode cX4_ifYear 21 = .ok (.invokevirtual 111, 3) := by decide +kernel
theorem dX4_ifYear_24 : decode cX4_ifYear 24 = .ok (.aload_n 0, 1) := by decide +kernel
theorem dX4_ifYear_25 : decode cX4_ifYear 25 = .ok (.getfield 10, 3) := by decide +kernel
theorem dX4_ifYear_28 : decode cX4_ifYear 28 = .ok (.iload_n 1, 1) := by decide +kernel
theorem dX4_ifYear_29 : decode cX4_ifYear 29 = .ok (.invokevirtual 187, 3) := by decide +kernel
theorem dX4_ifYear_32 : decode cX4_ifYear 32 = .ok (.ireturn, 1) := by decide +kernel
set_option maxRecDepth 20000 in
theorem ggX4_success_X4_successShare : GoodIn wsX4_success wsX4_successShare := goodIn_r _ [5, 6, 7, 8, 9, 10, 11, 12, 13, 14, 15, 16, 17, 18, 19, 20, 21, 22, 23] (by decide +kernel) (by decide +kernel)
set_option maxRecDepth 20000 in
theorem gX4_success_X4_successShare : GoodIn wsX4_success (wsV RX4 190 RX4 yX4_successShare wsX4_successShare) := goodIn_app (goodIn_of _ (by decide +kernel)) ggX4_success_X4_successShare
theorem dX4_success_0 : decode cX4_success 0 = .ok (.aload_n 0, 1) := by decide +kernel
theorem dX4_success_1 : decode cX4_success 1 = .ok (.invokevirtual 190, 3) := by decide +kernel
theorem dX4_success_4 : decode cX4_success 4 = .ok (.dreturn, 1) := by decide +kernel
set_option maxRecDepth 20000 in
theorem ggX4_digest_X4_countNumber : GoodIn wsX4_digest wsX4_countNumber := goodIn_r _ [8, 9, 10, 11, 12, 13, 14, 15, 16, 17, 18, 19, 20, 21, 22, 23, 24, 25, 26, 27, 28, 29, 30, 31, 32, 272, 273, 274, 275, 276, 277, 278, 279, 280, 281, 282, 283, 284, 285] (by decide +kernel) (by decide +kernel)
set_option maxRecDepth 20000 in
theorem gX4_digest_X4_countNumber : GoodIn wsX4_digest (wsV RX4 173 RX4 yX4_countNumber wsX4_countNumber) := goodIn_app (goodIn_of _ (by decide +kernel)) ggX4_digest_X4_countNumber
set_option maxRecDepth 20000 in
theorem ggX4_digest_X4_mixed : GoodIn wsX4_digest wsX4_mixed := goodIn_r _ [35, 36] (by decide +kernel) (by decide +kernel)
set_option maxRecDepth 20000 in
theorem gX4_digest_X4_mixed : GoodIn wsX4_digest (va_wsS RX4 196 yX4_mixed wsX4_mixed) := goodIn_app (goodIn_of _ (by decide +kernel)) ggX4_digest_X4_mixed
set_option maxRecDepth 20000 in
theorem ggX4_digest_X2_study : GoodIn wsX4_digest wsX2_study := goodIn_r _ [41, 42, 43, 44, 40, 45, 46, 47, 48, 49, 50, 51, 52, 53, 12, 13, 14, 15, 16, 54, 23, 24, 25, 26, 55, 56, 57, 58, 59, 60, 61, 62, 63, 64, 65, 66, 67, 68, 69, 70, 21, 22, 71, 7, 72, 73, 74, 75, 76, 77, 78, 79, 80, 81, 82, 83, 84, 85, 86, 87, 88, 89, 90, 91, 92, 93, 94, 95, 96, 97, 98, 99, 100, 101, 102, 103, 104, 105, 106, 107, 108, 109, 110, 111, 112, 113, 114, 115, 116, 117, 118, 119, 120, 121, 122, 123, 124, 125, 126, 127, 128, 129, 130, 131, 132, 133, 134, 135, 136, 137, 138, 139, 140, 141, 286, 287, 288, 289, 290, 291, 292, 293, 280, 281, 282] (by decide +kernel) (by decide +kernel)
set_option maxRecDepth 20000 in
theorem gX4_digest_X2_study : GoodIn wsX4_digest (wsV RX4 111 RX2 yX2_study wsX2_study) := goodIn_app (goodIn_of _ (by decide +kernel)) ggX4_digest_X2_study
set_option maxRecDepth 20000 in
theorem ggX4_digest_X4_mixedArmies : GoodIn wsX4_digest wsX4_mixedArmies := goodIn_r _ [145, 9, 2, 11, 12, 13, 14, 15, 16, 146, 23, 24, 25, 26, 33, 34, 7, 35, 36, 147, 148, 149, 40, 150, 115, 77, 88, 113, 52, 51, 82, 83, 151, 152, 153, 154, 155, 156, 157, 158, 159, 160, 161, 162, 163, 164, 165, 166, 167, 168, 169, 170, 171, 172, 173, 21, 22, 132, 133, 174, 175, 176, 177, 178, 179, 180, 181, 182, 43, 44, 45, 46, 47, 48, 49, 50, 53, 54, 55, 56, 57, 58, 59, 60, 61, 62, 63, 64, 65, 66, 67, 68, 69, 70, 71, 72, 73, 74, 75, 76, 78, 79, 80, 81, 84, 85, 86, 87, 89, 90, 91, 92, 93, 94, 95, 96, 97, 98, 99, 100, 101, 102, 103, 104, 105, 106, 107, 108, 183, 272, 273, 274, 275, 276, 277, 278, 279, 280, 281, 282, 286, 287, 288, 289, 290, 291, 292, 293] (by decide +kernel) (by decide +kernel)
set_option maxRecDepth 20000 in
theorem gX4_digest_X4_mixedArmies : GoodIn wsX4_digest (wsV RX4 200 RX4 yX4_mixedArmies wsX4_mixedArmies) := goodIn_app (goodIn_of _ (by decide +kernel)) ggX4_digest_X4_mixedArmies
set_option maxRecDepth 20000 in
theorem ggX4_digest_X4_mixedFields : GoodIn wsX4_digest wsX4_mixedFields := goodIn_r _ [187, 188, 189, 190, 7, 191, 9, 192, 68, 69, 14, 70, 21, 12, 13, 15, 16, 22, 23, 24, 25, 26, 193, 194, 195, 196, 197, 198, 199, 165, 200, 201, 202, 203, 132, 133, 204, 205, 206, 207, 33, 34, 35, 36, 272, 273, 274, 275, 276, 277, 278, 279, 280, 281, 282] (by decide +kernel) (by decide +kernel)
set_option maxRecDepth 20000 in
theorem gX4_digest_X4_mixedFields : GoodIn wsX4_digest (wsV RX4 204 RX4 yX4_mixedFields wsX4_mixedFields) := goodIn_app (goodIn_of _ (by decide +kernel)) ggX4_digest_X4_mixedFields
set_option maxRecDepth 20000 in
theorem ggX4_digest_X4_mixedSeats : GoodIn wsX4_digest wsX4_mixedSeats := goodIn_r _ [211, 2, 212, 213, 214, 7, 215, 9, 216, 217, 218, 14, 219, 21, 12, 13, 15, 16, 22, 23, 24, 25, 26, 220, 221, 222, 223, 224, 197, 198, 199, 165, 225, 226, 227, 228, 205, 206, 207, 132, 133, 229, 230, 231, 232, 233, 234, 235, 236, 237, 33, 34, 35, 36, 238, 239, 240, 40, 241, 194, 195, 242, 243, 244, 245, 50, 115, 53, 82, 83, 54, 246, 272, 273, 274, 275, 276, 277, 278, 279, 280, 281, 282, 286, 287, 288, 289, 290, 291, 292, 293] (by decide +kernel) (by decide +kernel)
set_option maxRecDepth 20000 in
theorem gX4_digest_X4_mixedSeats : GoodIn wsX4_digest (wsV RX4 207 RX4 yX4_mixedSeats wsX4_mixedSeats) := goodIn_app (goodIn_of _ (by decide +kernel)) ggX4_digest_X4_mixedSeats
set_option maxRecDepth 20000 in
theorem ggX4_digest_X2_mostInDanger : GoodIn wsX4_digest wsX2_mostInDanger := goodIn_r _ [250, 124, 125, 126, 40, 127, 50, 113, 114, 77, 53, 12, 13, 14, 15, 16, 82, 7, 83, 286, 287, 288, 289, 290, 291, 292, 293, 280, 281, 282] (by decide +kernel) (by decide +kernel)
set_option maxRecDepth 20000 in
theorem gX4_digest_X2_mostInDanger : GoodIn wsX4_digest (wsV RX4 184 RX2 yX2_mostInDanger wsX2_mostInDanger) := goodIn_app (goodIn_of _ (by decide +kernel)) ggX4_digest_X2_mostInDanger
set_option maxRecDepth 20000 in
theorem ggX4_digest_X4_successShare : GoodIn wsX4_digest wsX4_successShare := goodIn_r _ [254, 9, 11, 12, 13, 14, 15, 16, 272, 273, 274, 275, 276, 277, 278, 279, 280, 281, 282] (by decide +kernel) (by decide +kernel)
set_option maxRecDepth 20000 in
theorem gX4_digest_X4_successShare : GoodIn wsX4_digest (wsV RX4 190 RX4 yX4_successShare wsX4_successShare) := goodIn_app (goodIn_of _ (by decide +kernel)) ggX4_digest_X4_successShare
set_option maxRecDepth 20000 in
theorem ggX4_digest_X4_bitsOf : GoodIn wsX4_digest wsX4_bitsOf := goodIn_r _ [257, 258, 259, 260] (by decide +kernel) (by decide +kernel)
set_option maxRecDepth 20000 in
theorem gX4_digest_X4_bitsOf : GoodIn wsX4_digest (va_wsS RX4 210 yX4_bitsOf wsX4_bitsOf) := goodIn_app (goodIn_of _ (by decide +kernel)) ggX4_digest_X4_bitsOf
set_option maxRecDepth 20000 in
theorem ggX4_digest_X3_size : GoodIn wsX4_digest wsX3_size := goodIn_r _ [265, 266, 294, 295, 296, 297, 298, 299] (by decide +kernel) (by decide +kernel)
set_option maxRecDepth 20000 in
theorem gX4_digest_X3_size : GoodIn wsX4_digest (wsV RX4 120 RX3 yX3_size wsX3_size) := goodIn_app (goodIn_of _ (by decide +kernel)) ggX4_digest_X3_size
set_option maxRecDepth 20000 in
theorem ggX4_digest_X3_codeAt : GoodIn wsX4_digest wsX3_codeAt := goodIn_r _ [270, 266, 271, 82, 7, 83, 294, 295, 296, 297, 298, 299] (by decide +kernel) (by decide +kernel)
set_option maxRecDepth 20000 in
theorem gX4_digest_X3_codeAt : GoodIn wsX4_digest (wsV RX4 214 RX3 yX3_codeAt wsX3_codeAt) := goodIn_app (goodIn_of _ (by decide +kernel)) ggX4_digest_X3_codeAt
theorem dX4_digest_0 : decode cX4_digest 0 = .ok (.ldc2_w 194, 3) := by decide +kernel
theorem dX4_digest_3 : decode cX4_digest 3 = .ok (.lstore_n 1, 1) := by decide +kernel
theorem dX4_digest_4 : decode cX4_digest 4 = .ok (.iconst 0, 1) := by decide +kernel
theorem dX4_digest_5 : decode cX4_digest 5 = .ok (.istore_n 3, 1) := by decide +kernel
theorem dX4_digest_6 : decode cX4_digest 6 = .ok (.iload_n 3, 1) := by decide +kernel
theorem dX4_digest_7 : decode cX4_digest 7 = .ok (.bipush 13, 2) := by decide +kernel
theorem dX4_digest_9 : decode cX4_digest 9 = .ok (.if_icmp .ge 20, 3) := by decide +kernel
theorem dX4_digest_12 : decode cX4_digest 12 = .ok (.lload_n 1, 1) := by decide +kernel
theorem dX4_digest_13 : decode cX4_digest 13 = .ok (.aload_n 0, 1) := by decide +kernel
theorem dX4_digest_14 : decode cX4_digest 14 = .ok (.iload_n 3, 1) := by decide +kernel
theorem dX4_digest_15 : decode cX4_digest 15 = .ok (.invokevirtual 173, 3) := by decide +kernel
theorem dX4_digest_18 : decode cX4_digest 18 = .ok (.i2l, 1) := by decide +kernel
theorem dX4_digest_19 : decode cX4_digest 19 = .ok (.invokestatic 196, 3) := by decide +kernel
theorem dX4_digest_22 : decode cX4_digest 22 = .ok (.lstore_n 1, 1) := by decide +kernel
theorem dX4_digest_23 : decode cX4_digest 23 = .ok (.iinc 3 1, 3) := by decide +kernel
theorem dX4_digest_26 : decode cX4_digest 26 = .ok (.goto (-20), 3) := by decide +kernel
theorem dX4_digest_29 : decode cX4_digest 29 = .ok (.aload_n 0, 1) := by decide +kernel
theorem dX4_digest_30 : decode cX4_digest 30 = .ok (.getfield 10, 3) := by decide +kernel
theorem dX4_digest_33 : decode cX4_digest 33 = .ok (.invokevirtual 111, 3) := by decide +kernel
theorem dX4_digest_36 : decode cX4_digest 36 = .ok (.aload_n 0, 1) := by decide +kernel
theorem dX4_digest_37 : decode cX4_digest 37 = .ok (.lload_n 1, 1) := by decide +kernel
theorem dX4_digest_38 : decode cX4_digest 38 = .ok (.invokevirtual 200, 3) := by decide +kernel
theorem dX4_digest_41 : decode cX4_digest 41 = .ok (.lstore_n 1, 1) := by decide +kernel
theorem dX4_digest_42 : decode cX4_digest 42 = .ok (.aload_n 0, 1) := by decide +kernel
theorem dX4_digest_43 : decode cX4_digest 43 = .ok (.lload_n 1, 1) := by decide +kernel
theorem dX4_digest_44 : decode cX4_digest 44 = .ok (.invokevirtual 204, 3) := by decide +kernel
theorem dX4_digest_47 : decode cX4_digest 47 = .ok (.lstore_n 1, 1) := by decide +kernel
theorem dX4_digest_48 : decode cX4_digest 48 = .ok (.aload_n 0, 1) := by decide +kernel
theorem dX4_digest_49 : decode cX4_digest 49 = .ok (.lload_n 1, 1) := by decide +kernel
theorem dX4_digest_50 : decode cX4_digest 50 = .ok (.invokevirtual 207, 3) := by decide +kernel
theorem dX4_digest_53 : decode cX4_digest 53 = .ok (.lstore_n 1, 1) := by decide +kernel
theorem dX4_digest_54 : decode cX4_digest 54 = .ok (.lload_n 1, 1) := by decide +kernel
theorem dX4_digest_55 : decode cX4_digest 55 = .ok (.aload_n 0, 1) := by decide +kernel
theorem dX4_digest_56 : decode cX4_digest 56 = .ok (.getfield 10, 3) := by decide +kernel
theorem dX4_digest_59 : decode cX4_digest 59 = .ok (.invokevirtual 184, 3) := by decide +kernel
theorem dX4_digest_62 : decode cX4_digest 62 = .ok (.i2l, 1) := by decide +kernel
theorem dX4_digest_63 : decode cX4_digest 63 = .ok (.invokestatic 196, 3) := by decide +kernel
theorem dX4_digest_66 : decode cX4_digest 66 = .ok (.lstore_n 1, 1) := by decide +kernel
theorem dX4_digest_67 : decode cX4_digest 67 = .ok (.lload_n 1, 1) := by decide +kernel
theorem dX4_digest_68 : decode cX4_digest 68 = .ok (.aload_n 0, 1) := by decide +kernel
theorem dX4_digest_69 : decode cX4_digest 69 = .ok (.invokevirtual 190, 3) := by decide +kernel
theorem dX4_digest_72 : decode cX4_digest 72 = .ok (.invokestatic 210, 3) := by decide +kernel
theorem dX4_digest_75 : decode cX4_digest 75 = .ok (.invokestatic 196, 3) := by decide +kernel
theorem dX4_digest_78 : decode cX4_digest 78 = .ok (.lstore_n 1, 1) := by decide +kernel
theorem dX4_digest_79 : decode cX4_digest 79 = .ok (.lload_n 1, 1) := by decide +kernel
theorem dX4_digest_80 : decode cX4_digest 80 = .ok (.aload_n 0, 1) := by decide +kernel
theorem dX4_digest_81 : decode cX4_digest 81 = .ok (.getfield 47, 3) := by decide +kernel
theorem dX4_digest_84 : decode cX4_digest 84 = .ok (.invokevirtual 120, 3) := by decide +kernel
theorem dX4_digest_87 : decode cX4_digest 87 = .ok (.i2l, 1) := by decide +kernel
theorem dX4_digest_88 : decode cX4_digest 88 = .ok (.invokestatic 196, 3) := by decide +kernel
theorem dX4_digest_91 : decode cX4_digest 91 = .ok (.lstore_n 1, 1) := by decide +kernel
theorem dX4_digest_92 : decode cX4_digest 92 = .ok (.iconst 0, 1) := by decide +kernel
theorem dX4_digest_93 : decode cX4_digest 93 = .ok (.istore_n 3, 1) := by decide +kernel
theorem dX4_digest_94 : decode cX4_digest 94 = .ok (.iload_n 3, 1) := by decide +kernel
theorem dX4_digest_95 : decode cX4_digest 95 = .ok (.aload_n 0, 1) := by decide +kernel
theorem dX4_digest_96 : decode cX4_digest 96 = .ok (.getfield 47, 3) := by decide +kernel
theorem dX4_digest_99 : decode cX4_digest 99 = .ok (.invokevirtual 120, 3) := by decide +kernel
theorem dX4_digest_102 : decode cX4_digest 102 = .ok (.if_icmp .ge 23, 3) := by decide +kernel
theorem dX4_digest_105 : decode cX4_digest 105 = .ok (.lload_n 1, 1) := by decide +kernel
theorem dX4_digest_106 : decode cX4_digest 106 = .ok (.aload_n 0, 1) := by decide +kernel
theorem dX4_digest_107 : decode cX4_digest 107 = .ok (.getfield 47, 3) := by decide +kernel
theorem dX4_digest_110 : decode cX4_digest 110 = .ok (.iload_n 3, 1) := by decide +kernel
theorem dX4_digest_111 : decode cX4_digest 111 = .ok (.invokevirtual 214, 3) := by decide +kernel
theorem dX4_digest_114 : decode cX4_digest 114 = .ok (.i2l, 1) := by decide +kernel
theorem dX4_digest_115 : decode cX4_digest 115 = .ok (.invokestatic 196, 3) := by decide +kernel
theorem dX4_digest_118 : decode cX4_digest 118 = .ok (.lstore_n 1, 1) := by decide +kernel
theorem dX4_digest_119 : decode cX4_digest 119 = .ok (.iinc 3 1, 3) := by decide +kernel
theorem dX4_digest_122 : decode cX4_digest 122 = .ok (.goto (-28), 3) := by decide +kernel
theorem dX4_digest_125 : decode cX4_digest 125 = .ok (.lload_n 1, 1) := by decide +kernel
theorem dX4_digest_126 : decode cX4_digest 126 = .ok (.lreturn, 1) := by decide +kernel
set_option maxRecDepth 20000 in
theorem ggX4_giveAll_X3_size : GoodIn wsX4_giveAll wsX3_size := goodIn_r _ [6, 7, 73, 74, 75, 76, 77, 78] (by decide +kernel) (by decide +kernel)
set_option maxRecDepth 20000 in
theorem gX4_giveAll_X3_size : GoodIn wsX4_giveAll (wsV RX4 120 RX3 yX3_size wsX3_size) := goodIn_app (goodIn_of _ (by decide +kernel)) ggX4_giveAll_X3_size
set_option maxRecDepth 20000 in
theorem ggX4_giveAll_X3_read : GoodIn wsX4_giveAll wsX3_read := goodIn_r _ [11, 12, 13, 14, 15, 16, 17, 18, 5, 19, 7, 20, 21, 22, 23, 24, 25, 26, 73, 74, 75, 76, 77, 78] (by decide +kernel) (by decide +kernel)
set_option maxRecDepth 20000 in
theorem gX4_giveAll_X3_read : GoodIn wsX4_giveAll (wsV RX4 217 RX3 yX3_read wsX3_read) := goodIn_app (goodIn_of _ (by decide +kernel)) ggX4_giveAll_X3_read
set_option maxRecDepth 20000 in
theorem ggX4_giveAll_X3_endsPart : GoodIn wsX4_giveAll wsX3_endsPart := goodIn_r _ [30, 7, 16, 17, 18, 5, 19, 20, 21, 22, 23, 73, 74, 75, 76, 77, 78] (by decide +kernel) (by decide +kernel)
set_option maxRecDepth 20000 in
theorem gX4_giveAll_X3_endsPart : GoodIn wsX4_giveAll (wsV RX4 220 RX3 yX3_endsPart wsX3_endsPart) := goodIn_app (goodIn_of _ (by decide +kernel)) ggX4_giveAll_X3_endsPart
set_option maxRecDepth 20000 in
theorem ggX4_giveAll_X4_giveRead : GoodIn wsX4_giveAll wsX4_giveRead := goodIn_r _ [34, 35, 1, 36, 37, 38, 39, 40, 41, 42, 43, 44, 45, 46, 47, 48, 49, 50, 51, 52, 53, 54, 55, 22, 56, 57, 58, 59, 60, 61, 62, 63, 64, 65, 66, 67, 68, 69, 70, 71, 72, 73, 74, 75, 76, 77, 78, 79, 80, 81] (by decide +kernel) (by decide +kernel)
set_option maxRecDepth 20000 in
theorem gX4_giveAll_X4_giveRead : GoodIn wsX4_giveAll (wsV RX4 223 RX4 yX4_giveRead wsX4_giveRead) := goodIn_app (goodIn_of _ (by decide +kernel)) ggX4_giveAll_X4_giveRead
theorem dX4_giveAll_0 : decode cX4_giveAll 0 = .ok (.iconst 0, 1) := by decide +kernel
theorem dX4_giveAll_1 : decode cX4_giveAll 1 = .ok (.istore_n 1, 1) := by decide +kernel
theorem dX4_giveAll_2 : decode cX4_giveAll 2 = .ok (.iconst 0, 1) := by decide +kernel
theorem dX4_giveAll_3 : decode cX4_giveAll 3 = .ok (.istore_n 2, 1) := by decide +kernel
theorem dX4_giveAll_4 : decode cX4_giveAll 4 = .ok (.iload_n 2, 1) := by decide +kernel
theorem dX4_giveAll_5 : decode cX4_giveAll 5 = .ok (.aload_n 0, 1) := by decide +kernel
theorem dX4_giveAll_6 : decode cX4_giveAll 6 = .ok (.getfield 47, 3) := by decide +kernel
theorem dX4_giveAll_9 : decode cX4_giveAll 9 = .ok (.invokevirtual 120, 3) := by decide +kernel
theorem dX4_giveAll_12 : decode cX4_giveAll 12 = .ok (.if_icmp .ge 38, 3) := by decide +kernel
theorem dX4_giveAll_15 : decode cX4_giveAll 15 = .ok (.aload_n 0, 1) := by decide +kernel
theorem dX4_giveAll_16 : decode cX4_giveAll 16 = .ok (.getfield 47, 3) := by decide +kernel
theorem dX4_giveAll_19 : decode cX4_giveAll 19 = .ok (.iload_n 2, 1) := by decide +kernel
theorem dX4_giveAll_20 : decode cX4_giveAll 20 = .ok (.invokevirtual 217, 3) := by decide +kernel
theorem dX4_giveAll_23 : decode cX4_giveAll 23 = .ok (.aload_n 0, 1) := by decide +kernel
theorem dX4_giveAll_24 : decode cX4_giveAll 24 = .ok (.getfield 47, 3) := by decide +kernel
theorem dX4_giveAll_27 : decode cX4_giveAll 27 = .ok (.iload_n 2, 1) := by decide +kernel
theorem dX4_giveAll_28 : decode cX4_giveAll 28 = .ok (.invokevirtual 220, 3) := by decide +kernel
theorem dX4_giveAll_31 : decode cX4_giveAll 31 = .ok (.ifCond .eq 13, 3) := by decide +kernel
theorem dX4_giveAll_34 : decode cX4_giveAll 34 = .ok (.aload_n 0, 1) := by decide +kernel
theorem dX4_giveAll_35 : decode cX4_giveAll 35 = .ok (.invokevirtual 223, 3) := by decide +kernel
theorem dX4_giveAll_38 : decode cX4_giveAll 38 = .ok (.ifCond .eq 6, 3) := by decide +kernel
theorem dX4_giveAll_41 : decode cX4_giveAll 41 = .ok (.iinc 1 1, 3) := by decide +kernel
theorem dX4_giveAll_44 : decode cX4_giveAll 44 = .ok (.iinc 2 1, 3) := by decide +kernel
theorem dX4_giveAll_47 : decode cX4_giveAll 47 = .ok (.goto (-43), 3) := by decide +kernel
theorem dX4_giveAll_50 : decode cX4_giveAll 50 = .ok (.iload_n 1, 1) := by decide +kernel
theorem dX4_giveAll_51 : decode cX4_giveAll 51 = .ok (.ireturn, 1) := by decide +kernel
set_option maxRecDepth 20000 in
theorem ggX4_giveRead_X0_canBeGiven : GoodIn wsX4_giveRead wsX0_canBeGiven := goodIn_r _ [7, 8, 9, 10, 6, 11, 12, 13, 14, 15, 16, 17, 18, 19, 20, 21, 22, 23, 24, 47, 48, 49] (by decide +kernel) (by decide +kernel)
set_option maxRecDepth 20000 in
theorem gX4_giveRead_X0_canBeGiven : GoodIn wsX4_giveRead (wsV RX4 100 RX0 yX0_canBeGiven wsX0_canBeGiven) := goodIn_app (goodIn_of _ (by decide +kernel)) ggX4_giveRead_X0_canBeGiven
set_option maxRecDepth 20000 in
theorem ggX4_giveRead_X0_give : GoodIn wsX4_giveRead wsX0_give := goodIn_r _ [28, 17, 18, 19, 6, 20, 21, 29, 30, 31, 32, 47, 48, 49] (by decide +kernel) (by decide +kernel)
set_option maxRecDepth 20000 in
theorem gX4_giveRead_X0_give : GoodIn wsX4_giveRead (wsV RX4 94 RX0 yX0_give wsX0_give) := goodIn_app (goodIn_of _ (by decide +kernel)) ggX4_giveRead_X0_give
theorem dX4_giveRead_0 : decode cX4_giveRead 0 = .ok (.aload_n 0, 1) := by decide +kernel
theorem dX4_giveRead_1 : decode cX4_giveRead 1 = .ok (.getfield 20, 3) := by decide +kernel
theorem dX4_giveRead_4 : decode cX4_giveRead 4 = .ok (.aload_n 0, 1) := by decide +kernel
theorem dX4_giveRead_5 : decode cX4_giveRead 5 = .ok (.getfield 47, 3) := by decide +kernel
theorem dX4_giveRead_8 : decode cX4_giveRead 8 = .ok (.getfield 226, 3) := by decide +kernel
theorem dX4_giveRead_11 : decode cX4_giveRead 11 = .ok (.aload_n 0, 1) := by decide +kernel
theorem dX4_giveRead_12 : decode cX4_giveRead 12 = .ok (.getfield 47, 3) := by decide +kernel
theorem dX4_giveRead_15 : decode cX4_giveRead 15 = .ok (.getfield 230, 3) := by decide +kernel
theorem dX4_giveRead_18 : decode cX4_giveRead 18 = .ok (.aload_n 0, 1) := by decide +kernel
theorem dX4_giveRead_19 : decode cX4_giveRead 19 = .ok (.getfield 47, 3) := by decide +kernel
theorem dX4_giveRead_22 : decode cX4_giveRead 22 = .ok (.getfield 233, 3) := by decide +kernel
theorem dX4_giveRead_25 : decode cX4_giveRead 25 = .ok (.aload_n 0, 1) := by decide +kernel
theorem dX4_giveRead_26 : decode cX4_giveRead 26 = .ok (.getfield 47, 3) := by decide +kernel
theorem dX4_giveRead_29 : decode cX4_giveRead 29 = .ok (.getfield 236, 3) := by decide +kernel
theorem dX4_giveRead_32 : decode cX4_giveRead 32 = .ok (.invokevirtual 100, 3) := by decide +kernel
theorem dX4_giveRead_35 : decode cX4_giveRead 35 = .ok (.ifCond .ne 5, 3) := by decide +kernel
theorem dX4_giveRead_38 : decode cX4_giveRead 38 = .ok (.iconst 0, 1) := by decide +kernel
theorem dX4_giveRead_39 : decode cX4_giveRead 39 = .ok (.ireturn, 1) := by decide +kernel
theorem dX4_giveRead_40 : decode cX4_giveRead 40 = .ok (.aload_n 0, 1) := by decide +kernel
theorem dX4_giveRead_41 : decode cX4_giveRead 41 = .ok (.getfield 20, 3) := by decide +kernel
theorem dX4_giveRead_44 : decode cX4_giveRead 44 = .ok (.aload_n 0, 1) := by decide +kernel
theorem dX4_giveRead_45 : decode cX4_giveRead 45 = .ok (.getfield 47, 3) := by decide +kernel
theorem dX4_giveRead_48 : decode cX4_giveRead 48 = .ok (.getfield 226, 3) := by decide +kernel
theorem dX4_giveRead_51 : decode cX4_giveRead 51 = .ok (.aload_n 0, 1) := by decide +kernel
theorem dX4_giveRead_52 : decode cX4_giveRead 52 = .ok (.getfield 47, 3) := by decide +kernel
theorem dX4_giveRead_55 : decode cX4_giveRead 55 = .ok (.getfield 230, 3) := by decide +kernel
theorem dX4_giveRead_58 : decode cX4_giveRead 58 = .ok (.aload_n 0, 1) := by decide +kernel
theorem dX4_giveRead_59 : decode cX4_giveRead 59 = .ok (.getfield 47, 3) := by decide +kernel
theorem dX4_giveRead_62 : decode cX4_giveRead 62 = .ok (.getfield 233, 3) := by decide +kernel
theorem dX4_giveRead_65 : decode cX4_giveRead 65 = .ok (.aload_n 0, 1) := by decide +kernel
theorem dX4_giveRead_66 : decode cX4_giveRead 66 = .ok (.getfield 47, 3) := by decide +kernel
theorem dX4_giveRead_69 : decode cX4_giveRead 69 = .ok (.getfield 236, 3) := by decide +kernel
theorem dX4_giveRead_72 : decode cX4_giveRead 72 = .ok (.invokevirtual 94, 3) := by decide +kernel
theorem dX4_giveRead_75 : decode cX4_giveRead 75 = .ok (.pop, 1) := by decide +kernel
theorem dX4_giveRead_76 : decode cX4_giveRead 76 = .ok (.iconst 1, 1) := by decide +kernel
theorem dX4_giveRead_77 : decode cX4_giveRead 77 = .ok (.ireturn, 1) := by decide +kernel
set_option maxRecDepth 20000 in
theorem ggX4_fieldNumber_X0_armyOn : GoodIn wsX4_fieldNumber wsX0_armyOn := goodIn_r _ [6, 7, 8, 9, 5, 10, 11, 12, 13, 14, 15, 16, 44, 45, 46] (by decide +kernel) (by decide +kernel)
set_option maxRecDepth 20000 in
theorem gX4_fieldNumber_X0_armyOn : GoodIn wsX4_fieldNumber (wsV RX4 65 RX0 yX0_armyOn wsX0_armyOn) := goodIn_app (goodIn_of _ (by decide +kernel)) ggX4_fieldNumber_X0_armyOn
set_option maxRecDepth 20000 in
theorem ggX4_fieldNumber_X4_isCentre : GoodIn wsX4_fieldNumber wsX4_isCentre := goodIn_r _ [20] (by decide +kernel) (by decide +kernel)
set_option maxRecDepth 20000 in
theorem gX4_fieldNumber_X4_isCentre : GoodIn wsX4_fieldNumber (va_wsS RX4 239 yX4_isCentre wsX4_isCentre) := goodIn_app (goodIn_of _ (by decide +kernel)) ggX4_fieldNumber_X4_isCentre
set_option maxRecDepth 20000 in
theorem ggX4_fieldNumber_X0_owner : GoodIn wsX4_fieldNumber wsX0_owner := goodIn_r _ [24, 25, 44, 45, 46] (by decide +kernel) (by decide +kernel)
set_option maxRecDepth 20000 in
theorem gX4_fieldNumber_X0_owner : GoodIn wsX4_fieldNumber (wsV RX4 242 RX0 yX0_owner wsX0_owner) := goodIn_app (goodIn_of _ (by decide +kernel)) ggX4_fieldNumber_X0_owner
set_option maxRecDepth 20000 in
theorem ggX4_fieldNumber_X0_seatsSeeing : GoodIn wsX4_fieldNumber wsX0_seatsSeeing := goodIn_r _ [29, 7, 8, 9, 5, 10, 11, 12, 13, 14, 15, 16, 30, 19, 31, 44, 45, 46] (by decide +kernel) (by decide +kernel)
set_option maxRecDepth 20000 in
theorem gX4_fieldNumber_X0_seatsSeeing : GoodIn wsX4_fieldNumber (wsV RX4 245 RX0 yX0_seatsSeeing wsX0_seatsSeeing) := goodIn_app (goodIn_of _ (by decide +kernel)) ggX4_fieldNumber_X0_seatsSeeing
set_option maxRecDepth 20000 in
theorem ggX4_fieldNumber_X4_neighbourMask : GoodIn wsX4_fieldNumber wsX4_neighbourMask := goodIn_r _ [34, 35, 30, 19, 31] (by decide +kernel) (by decide +kernel)
set_option maxRecDepth 20000 in
theorem gX4_fieldNumber_X4_neighbourMask : GoodIn wsX4_fieldNumber (va_wsS RX4 248 yX4_neighbourMask wsX4_neighbourMask) := goodIn_app (goodIn_of _ (by decide +kernel)) ggX4_fieldNumber_X4_neighbourMask
theorem dX4_fieldNumber_0 : decode cX4_fieldNumber 0 = .ok (.iload_n 2, 1) := by decide +kernel
theorem dX4_fieldNumber_1 : decode cX4_fieldNumber 1 = .ok (.tableswitch 71 0 3 #[31, 40, 53, 62], 31) := by decide +kernel
theorem dX4_fieldNumber_32 : decode cX4_fieldNumber 32 = .ok (.aload_n 0, 1) := by decide +kernel
theorem dX4_fieldNumber_33 : decode cX4_fieldNumber 33 = .ok (.getfield 20, 3) := by decide +kernel
theorem dX4_fieldNumber_36 : decode cX4_fieldNumber 36 = .ok (.iload_n 1, 1) := by decide +kernel
theorem dX4_fieldNumber_37 : decode cX4_fieldNumber 37 = .ok (.invokevirtual 65, 3) := by decide +kernel
theorem dX4_fieldNumber_40 : decode cX4_fieldNumber 40 = .ok (.ireturn, 1) := by decide +kernel
theorem dX4_fieldNumber_41 : decode cX4_fieldNumber 41 = .ok (.iload_n 1, 1) := by decide +kernel
theorem dX4_fieldNumber_42 : decode cX4_fieldNumber 42 = .ok (.invokestatic 239, 3) := by decide +kernel
theorem dX4_fieldNumber_45 : decode cX4_fieldNumber 45 = .ok (.ifCond .eq 7, 3) := by decide +kernel
theorem dX4_fieldNumber_48 : decode cX4_fieldNumber 48 = .ok (.iconst 1, 1) := by decide +kernel
theorem dX4_fieldNumber_49 : decode cX4_fieldNumber 49 = .ok (.goto 4, 3) := by decide +kernel
theorem dX4_fieldNumber_52 : decode cX4_fieldNumber 52 = .ok (.iconst 0, 1) := by decide +kernel
theorem dX4_fieldNumber_53 : decode cX4_fieldNumber 53 = .ok (.ireturn, 1) := by decide +kernel
theorem dX4_fieldNumber_54 : decode cX4_fieldNumber 54 = .ok (.aload_n 0, 1) := by decide +kernel
theorem dX4_fieldNumber_55 : decode cX4_fieldNumber 55 = .ok (.getfield 20, 3) := by decide +kernel
theorem dX4_fieldNumber_58 : decode cX4_fieldNumber 58 = .ok (.iload_n 1, 1) := by decide +kernel
theorem dX4_fieldNumber_59 : decode cX4_fieldNumber 59 = .ok (.invokevirtual 242, 3) := by decide +kernel
theorem dX4_fieldNumber_62 : decode cX4_fieldNumber 62 = .ok (.ireturn, 1) := by decide +kernel
theorem dX4_fieldNumber_63 : decode cX4_fieldNumber 63 = .ok (.aload_n 0, 1) := by decide +kernel
theorem dX4_fieldNumber_64 : decode cX4_fieldNumber 64 = .ok (.getfield 20, 3) := by decide +kernel
theorem dX4_fieldNumber_67 : decode cX4_fieldNumber 67 = .ok (.iload_n 1, 1) := by decide +kernel
theorem dX4_fieldNumber_68 : decode cX4_fieldNumber 68 = .ok (.invokevirtual 245, 3) := by decide +kernel
theorem dX4_fieldNumber_71 : decode cX4_fieldNumber 71 = .ok (.ireturn, 1) := by decide +kernel
theorem dX4_fieldNumber_72 : decode cX4_fieldNumber 72 = .ok (.iload_n 1, 1) := by decide +kernel
theorem dX4_fieldNumber_73 : decode cX4_fieldNumber 73 = .ok (.invokestatic 248, 3) := by decide +kernel
theorem dX4_fieldNumber_76 : decode cX4_fieldNumber 76 = .ok (.ireturn, 1) := by decide +kernel
set_option maxRecDepth 20000 in
theorem ggX4_seatNumber_X0_armiesOf : GoodIn wsX4_seatNumber wsX0_armiesOf := goodIn_r _ [6, 7, 8, 9, 5, 10, 11, 12, 13, 14, 15, 16, 53, 54, 55] (by decide +kernel) (by decide +kernel)
set_option maxRecDepth 20000 in
theorem gX4_seatNumber_X0_armiesOf : GoodIn wsX4_seatNumber (wsV RX4 251 RX0 yX0_armiesOf wsX0_armiesOf) := goodIn_app (goodIn_of _ (by decide +kernel)) ggX4_seatNumber_X0_armiesOf
set_option maxRecDepth 20000 in
theorem ggX4_seatNumber_X0_centresOf : GoodIn wsX4_seatNumber wsX0_centresOf := goodIn_r _ [20, 21, 22, 23, 5, 24, 25, 53, 54, 55] (by decide +kernel) (by decide +kernel)
set_option maxRecDepth 20000 in
theorem gX4_seatNumber_X0_centresOf : GoodIn wsX4_seatNumber (wsV RX4 254 RX0 yX0_centresOf wsX0_centresOf) := goodIn_app (goodIn_of _ (by decide +kernel)) ggX4_seatNumber_X0_centresOf
set_option maxRecDepth 20000 in
theorem ggX4_seatNumber_X0_seenMask : GoodIn wsX4_seatNumber wsX0_seenMask := goodIn_r _ [29, 7, 8, 9, 5, 10, 11, 12, 13, 14, 15, 16, 30, 31, 32, 33, 34, 35, 53, 54, 55] (by decide +kernel) (by decide +kernel)
set_option maxRecDepth 20000 in
theorem gX4_seatNumber_X0_seenMask : GoodIn wsX4_seatNumber (wsV RX4 257 RX0 yX0_seenMask wsX0_seenMask) := goodIn_app (goodIn_of _ (by decide +kernel)) ggX4_seatNumber_X0_seenMask
set_option maxRecDepth 20000 in
theorem ggX4_seatNumber_X0_lowestFieldOf : GoodIn wsX4_seatNumber wsX0_lowestFieldOf := goodIn_r _ [39, 7, 8, 9, 5, 10, 11, 12, 13, 14, 15, 16, 53, 54, 55] (by decide +kernel) (by decide +kernel)
set_option maxRecDepth 20000 in
theorem gX4_seatNumber_X0_lowestFieldOf : GoodIn wsX4_seatNumber (wsV RX4 260 RX0 yX0_lowestFieldOf wsX0_lowestFieldOf) := goodIn_app (goodIn_of _ (by decide +kernel)) ggX4_seatNumber_X0_lowestFieldOf
set_option maxRecDepth 20000 in
theorem ggX4_seatNumber_X0_othersSeen : GoodIn wsX4_seatNumber wsX0_othersSeen := goodIn_r _ [43, 44, 27, 28, 5, 29, 7, 8, 9, 10, 11, 12, 13, 14, 15, 16, 30, 31, 32, 33, 34, 35, 53, 54, 55] (by decide +kernel) (by decide +kernel)
set_option maxRecDepth 20000 in
theorem gX4_seatNumber_X0_othersSeen : GoodIn wsX4_seatNumber (wsV RX4 263 RX0 yX0_othersSeen wsX0_othersSeen) := goodIn_app (goodIn_of _ (by decide +kernel)) ggX4_seatNumber_X0_othersSeen
theorem dX4_seatNumber_0 : decode cX4_seatNumber 0 = .ok (.iload_n 2, 1) := by decide +kernel
theorem dX4_seatNumber_1 : decode cX4_seatNumber 1 = .ok (.tableswitch 67 0 3 #[31, 40, 49, 58], 31) := by decide +kernel
theorem dX4_seatNumber_32 : decode cX4_seatNumber 32 = .ok (.aload_n 0, 1) := by decide +kernel
theorem dX4_seatNumber_33 : decode cX4_seatNumber 33 = .ok (.getfield 20, 3) := by decide +kernel
theorem dX4_seatNumber_36 : decode cX4_seatNumber 36 = .ok (.iload_n 1, 1) := by decide +kernel
theorem dX4_seatNumber_37 : decode cX4_seatNumber 37 = .ok (.invokevirtual 251, 3) := by decide +kernel
theorem dX4_seatNumber_40 : decode cX4_seatNumber 40 = .ok (.ireturn, 1) := by decide +kernel
theorem dX4_seatNumber_41 : decode cX4_seatNumber 41 = .ok (.aload_n 0, 1) := by decide +kernel
theorem dX4_seatNumber_42 : decode cX4_seatNumber 42 = .ok (.getfield 20, 3) := by decide +kernel
theorem dX4_seatNumber_45 : decode cX4_seatNumber 45 = .ok (.iload_n 1, 1) := by decide +kernel
theorem dX4_seatNumber_46 : decode cX4_seatNumber 46 = .ok (.invokevirtual 254, 3) := by decide +kernel
theorem dX4_seatNumber_49 : decode cX4_seatNumber 49 = .ok (.ireturn, 1) := by decide +kernel
theorem dX4_seatNumber_50 : decode cX4_seatNumber 50 = .ok (.aload_n 0, 1) := by decide +kernel
theorem dX4_seatNumber_51 : decode cX4_seatNumber 51 = .ok (.getfield 20, 3) := by decide +kernel
theorem dX4_seatNumber_54 : decode cX4_seatNumber 54 = .ok (.iload_n 1, 1) := by decide +kernel
theorem dX4_seatNumber_55 : decode cX4_seatNumber 55 = .ok (.invokevirtual 257, 3) := by decide +kernel
theorem dX4_seatNumber_58 : decode cX4_seatNumber 58 = .ok (.ireturn, 1) := by decide +kernel
theorem dX4_seatNumber_59 : decode cX4_seatNumber 59 = .ok (.aload_n 0, 1) := by decide +kernel
theorem dX4_seatNumber_60 : decode cX4_seatNumber 60 = .ok (.getfield 20, 3) := by decide +kernel
theorem dX4_seatNumber_63 : decode cX4_seatNumber 63 = .ok (.iload_n 1, 1) := by decide +kernel
theorem dX4_seatNumber_64 : decode cX4_seatNumber 64 = .ok (.invokevirtual 260, 3) := by decide +kernel
theorem dX4_seatNumber_67 : decode cX4_seatNumber 67 = .ok (.ireturn, 1) := by decide +kernel
theorem dX4_seatNumber_68 : decode cX4_seatNumber 68 = .ok (.aload_n 0, 1) := by decide +kernel
theorem dX4_seatNumber_69 : decode cX4_seatNumber 69 = .ok (.getfield 20, 3) := by decide +kernel
theorem dX4_seatNumber_72 : decode cX4_seatNumber 72 = .ok (.iload_n 1, 1) := by decide +kernel
theorem dX4_seatNumber_73 : decode cX4_seatNumber 73 = .ok (.invokevirtual 263, 3) := by decide +kernel
theorem dX4_seatNumber_76 : decode cX4_seatNumber 76 = .ok (.ireturn, 1) := by decide +kernel
set_option maxRecDepth 20000 in
theorem ggX4_countNumber_X0_number : GoodIn wsX4_countNumber wsX0_number := goodIn_r _ [7, 8, 33, 34, 35] (by decide +kernel) (by decide +kernel)
set_option maxRecDepth 20000 in
theorem gX4_countNumber_X0_number : GoodIn wsX4_countNumber (wsV RX4 69 RX0 yX0_number wsX0_number) := goodIn_app (goodIn_of _ (by decide +kernel)) ggX4_countNumber_X0_number
set_option maxRecDepth 20000 in
theorem ggX4_countNumber_X0_ordersOf : GoodIn wsX4_countNumber wsX0_ordersOf := goodIn_r _ [12, 13, 4, 5, 6, 7, 8, 14, 15, 16, 17, 18, 33, 34, 35] (by decide +kernel) (by decide +kernel)
set_option maxRecDepth 20000 in
theorem gX4_countNumber_X0_ordersOf : GoodIn wsX4_countNumber (wsV RX4 266 RX0 yX0_ordersOf wsX0_ordersOf) := goodIn_app (goodIn_of _ (by decide +kernel)) ggX4_countNumber_X0_ordersOf
set_option maxRecDepth 20000 in
theorem ggX4_countNumber_X1_size : GoodIn wsX4_countNumber wsX1_size := goodIn_r _ [23, 24, 36, 37, 38] (by decide +kernel) (by decide +kernel)
set_option maxRecDepth 20000 in
theorem gX4_countNumber_X1_size : GoodIn wsX4_countNumber (wsV RX4 143 RX1 yX1_size wsX1_size) := goodIn_app (goodIn_of _ (by decide +kernel)) ggX4_countNumber_X1_size
theorem dX4_countNumber_0 : decode cX4_countNumber 0 = .ok (.iload_n 1, 1) := by decide +kernel
theorem dX4_countNumber_1 : decode cX4_countNumber 1 = .ok (.bipush 10, 2) := by decide +kernel
theorem dX4_countNumber_3 : decode cX4_countNumber 3 = .ok (.if_icmp .ge 12, 3) := by decide +kernel
theorem dX4_countNumber_6 : decode cX4_countNumber 6 = .ok (.aload_n 0, 1) := by decide +kernel
theorem dX4_countNumber_7 : decode cX4_countNumber 7 = .ok (.getfield 20, 3) := by decide +kernel
theorem dX4_countNumber_10 : decode cX4_countNumber 10 = .ok (.iload_n 1, 1) := by decide +kernel
theorem dX4_countNumber_11 : decode cX4_countNumber 11 = .ok (.invokevirtual 69, 3) := by decide +kernel
theorem dX4_countNumber_14 : decode cX4_countNumber 14 = .ok (.ireturn, 1) := by decide +kernel
theorem dX4_countNumber_15 : decode cX4_countNumber 15 = .ok (.iload_n 1, 1) := by decide +kernel
theorem dX4_countNumber_16 : decode cX4_countNumber 16 = .ok (.bipush 10, 2) := by decide +kernel
theorem dX4_countNumber_18 : decode cX4_countNumber 18 = .ok (.if_icmp .ne 12, 3) := by decide +kernel
theorem dX4_countNumber_21 : decode cX4_countNumber 21 = .ok (.aload_n 0, 1) := by decide +kernel
theorem dX4_countNumber_22 : decode cX4_countNumber 22 = .ok (.getfield 20, 3) := by decide +kernel
theorem dX4_countNumber_25 : decode cX4_countNumber 25 = .ok (.iconst 1, 1) := by decide +kernel
theorem dX4_countNumber_26 : decode cX4_countNumber 26 = .ok (.invokevirtual 266, 3) := by decide +kernel
theorem dX4_countNumber_29 : decode cX4_countNumber 29 = .ok (.ireturn, 1) := by decide +kernel
theorem dX4_countNumber_30 : decode cX4_countNumber 30 = .ok (.iload_n 1, 1) := by decide +kernel
theorem dX4_countNumber_31 : decode cX4_countNumber 31 = .ok (.bipush 11, 2) := by decide +kernel
theorem dX4_countNumber_33 : decode cX4_countNumber 33 = .ok (.if_icmp .ne 14, 3) := by decide +kernel
theorem dX4_countNumber_36 : decode cX4_countNumber 36 = .ok (.aload_n 0, 1) := by decide +kernel
theorem dX4_countNumber_37 : decode cX4_countNumber 37 = .ok (.getfield 20, 3) := by decide +kernel
theorem dX4_countNumber_40 : decode cX4_countNumber 40 = .ok (.iconst 2, 1) := by decide +kernel
theorem dX4_countNumber_41 : decode cX4_countNumber 41 = .ok (.invokevirtual 266, 3) := by decide +kernel
theorem dX4_countNumber_44 : decode cX4_countNumber 44 = .ok (.goto 10, 3) := by decide +kernel
theorem dX4_countNumber_47 : decode cX4_countNumber 47 = .ok (.aload_n 0, 1) := by decide +kernel
theorem dX4_countNumber_48 : decode cX4_countNumber 48 = .ok (.getfield 30, 3) := by decide +kernel
theorem dX4_countNumber_51 : decode cX4_countNumber 51 = .ok (.invokevirtual 143, 3) := by decide +kernel
theorem dX4_countNumber_54 : decode cX4_countNumber 54 = .ok (.ireturn, 1) := by decide +kernel
set_option maxRecDepth 20000 in
theorem ggX4_reachMask_X0_copyFrom : GoodIn wsX4_reachMask wsX0_copyFrom := goodIn_r _ [8, 9, 10, 11, 12, 13, 14, 15, 120, 121, 122] (by decide +kernel) (by decide +kernel)
set_option maxRecDepth 20000 in
theorem gX4_reachMask_X0_copyFrom : GoodIn wsX4_reachMask (wsV RX4 149 RX0 yX0_copyFrom wsX0_copyFrom) := goodIn_app (goodIn_of _ (by decide +kernel)) ggX4_reachMask_X0_copyFrom
set_option maxRecDepth 20000 in
theorem ggX4_reachMask_X0_canBeGiven : GoodIn wsX4_reachMask wsX0_canBeGiven := goodIn_r _ [19, 20, 21, 22, 7, 23, 24, 25, 26, 27, 9, 28, 29, 30, 31, 15, 32, 33, 34, 120, 121, 122] (by decide +kernel) (by decide +kernel)
set_option maxRecDepth 20000 in
theorem gX4_reachMask_X0_canBeGiven : GoodIn wsX4_reachMask (wsV RX4 100 RX0 yX0_canBeGiven wsX0_canBeGiven) := goodIn_app (goodIn_of _ (by decide +kernel)) ggX4_reachMask_X0_canBeGiven
set_option maxRecDepth 20000 in
theorem ggX4_reachMask_X0_give : GoodIn wsX4_reachMask wsX0_give := goodIn_r _ [38, 28, 29, 30, 7, 31, 15, 39, 40, 41, 42, 120, 121, 122] (by decide +kernel) (by decide +kernel)
set_option maxRecDepth 20000 in
theorem gX4_reachMask_X0_give : GoodIn wsX4_reachMask (wsV RX4 94 RX0 yX0_give wsX0_give) := goodIn_app (goodIn_of _ (by decide +kernel)) ggX4_reachMask_X0_give
set_option maxRecDepth 20000 in
theorem ggX4_reachMask_X2_decideMoves : GoodIn wsX4_reachMask wsX2_decideMoves := goodIn_r _ [47, 48, 49, 50, 46, 51, 52, 53, 54, 55, 25, 26, 7, 27, 9, 56, 29, 30, 31, 15, 57, 58, 59, 60, 61, 62, 63, 64, 65, 66, 67, 68, 69, 70, 71, 72, 24, 28, 73, 33, 74, 75, 76, 77, 78, 79, 80, 81, 82, 83, 84, 85, 86, 87, 88, 89, 90, 91, 92, 93, 94, 95, 96, 97, 98, 99, 100, 101, 102, 103, 104, 105, 106, 107, 108, 109, 110, 123, 124, 125, 126, 127, 128, 129, 130, 120, 121, 122] (by decide +kernel) (by decide +kernel)
set_option maxRecDepth 20000 in
theorem gX4_reachMask_X2_decideMoves : GoodIn wsX4_reachMask (wsV RX4 269 RX2 yX2_decideMoves wsX2_decideMoves) := goodIn_app (goodIn_of _ (by decide +kernel)) ggX4_reachMask_X2_decideMoves
set_option maxRecDepth 20000 in
theorem ggX4_reachMask_X2_goes : GoodIn wsX4_reachMask wsX2_goes := goodIn_r _ [106, 52, 90, 56, 29, 30, 7, 31, 15, 84, 33, 85, 123, 124, 125, 126, 127, 128, 129, 130, 120, 121, 122] (by decide +kernel) (by decide +kernel)
set_option maxRecDepth 20000 in
theorem gX4_reachMask_X2_goes : GoodIn wsX4_reachMask (wsV RX4 272 RX2 yX2_goes wsX2_goes) := goodIn_app (goodIn_of _ (by decide +kernel)) ggX4_reachMask_X2_goes
theorem dX4_reachMask_0 : decode cX4_reachMask 0 = .ok (.aload_n 0, 1) := by decide +kernel
theorem dX4_reachMask_1 : decode cX4_reachMask 1 = .ok (.getfield 24, 3) := by decide +kernel
theorem dX4_reachMask_4 : decode cX4_reachMask 4 = .ok (.aload_n 0, 1) := by decide +kernel
theorem dX4_reachMask_5 : decode cX4_reachMask 5 = .ok (.getfield 20, 3) := by decide +kernel
theorem dX4_reachMask_8 : decode cX4_reachMask 8 = .ok (.invokevirtual 149, 3) := by decide +kernel
theorem dX4_reachMask_11 : decode cX4_reachMask 11 = .ok (.iconst 0, 1) := by decide +kernel
theorem dX4_reachMask_12 : decode cX4_reachMask 12 = .ok (.istore_n 2, 1) := by decide +kernel
theorem dX4_reachMask_13 : decode cX4_reachMask 13 = .ok (.iconst 0, 1) := by decide +kernel
theorem dX4_reachMask_14 : decode cX4_reachMask 14 = .ok (.istore_n 3, 1) := by decide +kernel
theorem dX4_reachMask_15 : decode cX4_reachMask 15 = .ok (.iload_n 3, 1) := by decide +kernel
theorem dX4_reachMask_16 : decode cX4_reachMask 16 = .ok (.bipush 12, 2) := by decide +kernel
theorem dX4_reachMask_18 : decode cX4_reachMask 18 = .ok (.if_icmp .ge 63, 3) := by decide +kernel
theorem dX4_reachMask_21 : decode cX4_reachMask 21 = .ok (.aload_n 0, 1) := by decide +kernel
theorem dX4_reachMask_22 : decode cX4_reachMask 22 = .ok (.getfield 24, 3) := by decide +kernel
theorem dX4_reachMask_25 : decode cX4_reachMask 25 = .ok (.iload_n 1, 1) := by decide +kernel
theorem dX4_reachMask_26 : decode cX4_reachMask 26 = .ok (.iconst 1, 1) := by decide +kernel
theorem dX4_reachMask_27 : decode cX4_reachMask 27 = .ok (.iconst (-1), 1) := by decide +kernel
theorem dX4_reachMask_28 : decode cX4_reachMask 28 = .ok (.iload_n 3, 1) := by decide +kernel
theorem dX4_reachMask_29 : decode cX4_reachMask 29 = .ok (.invokevirtual 100, 3) := by decide +kernel
theorem dX4_reachMask_32 : decode cX4_reachMask 32 = .ok (.ifCond .eq 43, 3) := by decide +kernel
theorem dX4_reachMask_35 : decode cX4_reachMask 35 = .ok (.aload_n 0, 1) := by decide +kernel
theorem dX4_reachMask_36 : decode cX4_reachMask 36 = .ok (.getfield 24, 3) := by decide +kernel
theorem dX4_reachMask_39 : decode cX4_reachMask 39 = .ok (.iload_n 1, 1) := by decide +kernel
theorem dX4_reachMask_40 : decode cX4_reachMask 40 = .ok (.iconst 1, 1) := by decide +kernel
theorem dX4_reachMask_41 : decode cX4_reachMask 41 = .ok (.iconst (-1), 1) := by decide +kernel
theorem dX4_reachMask_42 : decode cX4_reachMask 42 = .ok (.iload_n 3, 1) := by decide +kernel
theorem dX4_reachMask_43 : decode cX4_reachMask 43 = .ok (.invokevirtual 94, 3) := by decide +kernel
theorem dX4_reachMask_46 : decode cX4_reachMask 46 = .ok (.pop, 1) := by decide +kernel
theorem dX4_reachMask_47 : decode cX4_reachMask 47 = .ok (.aload_n 0, 1) := by decide +kernel
theorem dX4_reachMask_48 : decode cX4_reachMask 48 = .ok (.getfield 21, 3) := by decide +kernel
theorem dX4_reachMask_51 : decode cX4_reachMask 51 = .ok (.invokevirtual 269, 3) := by decide +kernel
theorem dX4_reachMask_54 : decode cX4_reachMask 54 = .ok (.iload_n 2, 1) := by decide +kernel
theorem dX4_reachMask_55 : decode cX4_reachMask 55 = .ok (.aload_n 0, 1) := by decide +kernel
theorem dX4_reachMask_56 : decode cX4_reachMask 56 = .ok (.getfield 21, 3) := by decide +kernel
theorem dX4_reachMask_59 : decode cX4_reachMask 59 = .ok (.iload_n 1, 1) := by decide +kernel
theorem dX4_reachMask_60 : decode cX4_reachMask 60 = .ok (.invokevirtual 272, 3) := by decide +kernel
theorem dX4_reachMask_63 : decode cX4_reachMask 63 = .ok (.ifCond .eq 9, 3) := by decide +kernel
theorem dX4_reachMask_66 : decode cX4_reachMask 66 = .ok (.iconst 1, 1) := by decide +kernel
theorem dX4_reachMask_67 : decode cX4_reachMask 67 = .ok (.iload_n 3, 1) := by decide +kernel
theorem dX4_reachMask_68 : decode cX4_reachMask 68 = .ok (.ishl, 1) := by decide +kernel
theorem dX4_reachMask_69 : decode cX4_reachMask 69 = .ok (.goto 4, 3) := by decide +kernel
theorem dX4_reachMask_72 : decode cX4_reachMask 72 = .ok (.iconst 0, 1) := by decide +kernel
theorem dX4_reachMask_73 : decode cX4_reachMask 73 = .ok (.ior, 1) := by decide +kernel
theorem dX4_reachMask_74 : decode cX4_reachMask 74 = .ok (.istore_n 2, 1) := by decide +kernel
theorem dX4_reachMask_75 : decode cX4_reachMask 75 = .ok (.iinc 3 1, 3) := by decide +kernel
theorem dX4_reachMask_78 : decode cX4_reachMask 78 = .ok (.goto (-63), 3) := by decide +kernel
theorem dX4_reachMask_81 : decode cX4_reachMask 81 = .ok (.iload_n 2, 1) := by decide +kernel
theorem dX4_reachMask_82 : decode cX4_reachMask 82 = .ok (.ireturn, 1) := by decide +kernel
set_option maxRecDepth 20000 in
theorem ggX4_successShare_X0_number : GoodIn wsX4_successShare wsX0_number := goodIn_r _ [6, 7, 16, 17, 18] (by decide +kernel) (by decide +kernel)
set_option maxRecDepth 20000 in
theorem gX4_successShare_X0_number : GoodIn wsX4_successShare (wsV RX4 69 RX0 yX0_number wsX0_number) := goodIn_app (goodIn_of _ (by decide +kernel)) ggX4_successShare_X0_number
theorem dX4_successShare_0 : decode cX4_successShare 0 = .ok (.aload_n 0, 1) := by decide +kernel
theorem dX4_successShare_1 : decode cX4_successShare 1 = .ok (.getfield 20, 3) := by decide +kernel
theorem dX4_successShare_4 : decode cX4_successShare 4 = .ok (.iconst 4, 1) := by decide +kernel
theorem dX4_successShare_5 : decode cX4_successShare 5 = .ok (.invokevirtual 69, 3) := by decide +kernel
theorem dX4_successShare_8 : decode cX4_successShare 8 = .ok (.istore_n 1, 1) := by decide +kernel
theorem dX4_successShare_9 : decode cX4_successShare 9 = .ok (.iload_n 1, 1) := by decide +kernel
theorem dX4_successShare_10 : decode cX4_successShare 10 = .ok (.aload_n 0, 1) := by decide +kernel
theorem dX4_successShare_11 : decode cX4_successShare 11 = .ok (.getfield 20, 3) := by decide +kernel
theorem dX4_successShare_14 : decode cX4_successShare 14 = .ok (.iconst 5, 1) := by decide +kernel
theorem dX4_successShare_15 : decode cX4_successShare 15 = .ok (.invokevirtual 69, 3) := by decide +kernel
theorem dX4_successShare_18 : decode cX4_successShare 18 = .ok (.iadd, 1) := by decide +kernel
theorem dX4_successShare_19 : decode cX4_successShare 19 = .ok (.istore_n 2, 1) := by decide +kernel
theorem dX4_successShare_20 : decode cX4_successShare 20 = .ok (.iload_n 2, 1) := by decide +kernel
theorem dX4_successShare_21 : decode cX4_successShare 21 = .ok (.ifCond .le 11, 3) := by decide +kernel
theorem dX4_successShare_24 : decode cX4_successShare 24 = .ok (.iload_n 1, 1) := by decide +kernel
theorem dX4_successShare_25 : decode cX4_successShare 25 = .ok (.i2d, 1) := by decide +kernel
theorem dX4_successShare_26 : decode cX4_successShare 26 = .ok (.iload_n 2, 1) := by decide +kernel
theorem dX4_successShare_27 : decode cX4_successShare 27 = .ok (.i2d, 1) := by decide +kernel
theorem dX4_successShare_28 : decode cX4_successShare 28 = .ok (.ddiv, 1) := by decide +kernel
theorem dX4_successShare_29 : decode cX4_successShare 29 = .ok (.goto 4, 3) := by decide +kernel
theorem dX4_successShare_32 : decode cX4_successShare 32 = .ok (.dconst 1, 1) := by decide +kernel
theorem dX4_successShare_33 : decode cX4_successShare 33 = .ok (.dreturn, 1) := by decide +kernel
set_option maxRecDepth 20000 in
theorem ggX4_mixedArmies_X0_number : GoodIn wsX4_mixedArmies wsX0_number := goodIn_r _ [7, 8, 137, 138, 139] (by decide +kernel) (by decide +kernel)
set_option maxRecDepth 20000 in
theorem gX4_mixedArmies_X0_number : GoodIn wsX4_mixedArmies (wsV RX4 69 RX0 yX0_number wsX0_number) := goodIn_app (goodIn_of _ (by decide +kernel)) ggX4_mixedArmies_X0_number
set_option maxRecDepth 20000 in
theorem ggX4_mixedArmies_X0_of : GoodIn wsX4_mixedArmies wsX0_of := goodIn_r _ [12, 13, 137, 138, 139] (by decide +kernel) (by decide +kernel)
set_option maxRecDepth 20000 in
theorem gX4_mixedArmies_X0_of : GoodIn wsX4_mixedArmies (wsV RX4 156 RX0 yX0_of wsX0_of) := goodIn_app (goodIn_of _ (by decide +kernel)) ggX4_mixedArmies_X0_of
set_option maxRecDepth 20000 in
theorem ggX4_mixedArmies_X4_mixed : GoodIn wsX4_mixedArmies wsX4_mixed := goodIn_r _ [17, 18] (by decide +kernel) (by decide +kernel)
set_option maxRecDepth 20000 in
theorem gX4_mixedArmies_X4_mixed : GoodIn wsX4_mixedArmies (va_wsS RX4 196 yX4_mixed wsX4_mixed) := goodIn_app (goodIn_of _ (by decide +kernel)) ggX4_mixedArmies_X4_mixed
set_option maxRecDepth 20000 in
theorem ggX4_mixedArmies_X2_outcome : GoodIn wsX4_mixedArmies wsX2_outcome := goodIn_r _ [23, 24, 25, 26, 27, 28, 29, 30, 16, 31, 140, 141, 142, 143, 144, 145, 146, 147] (by decide +kernel) (by decide +kernel)
set_option maxRecDepth 20000 in
theorem gX4_mixedArmies_X2_outcome : GoodIn wsX4_mixedArmies (wsV RX4 178 RX2 yX2_outcome wsX2_outcome) := goodIn_app (goodIn_of _ (by decide +kernel)) ggX4_mixedArmies_X2_outcome
set_option maxRecDepth 20000 in
theorem ggX4_mixedArmies_X4_reachMask : GoodIn wsX4_mixedArmies wsX4_reachMask := goodIn_r _ [35, 36, 1, 37, 38, 39, 40, 6, 41, 8, 42, 43, 44, 45, 46, 13, 47, 48, 49, 50, 51, 52, 53, 54, 55, 4, 5, 7, 56, 10, 11, 12, 57, 16, 58, 59, 60, 61, 62, 63, 64, 65, 66, 67, 68, 69, 22, 70, 71, 72, 73, 74, 75, 29, 28, 76, 77, 78, 79, 80, 81, 82, 83, 84, 85, 86, 87, 88, 89, 90, 91, 92, 93, 94, 95, 96, 97, 98, 99, 25, 100, 101, 102, 103, 30, 31, 104, 105, 106, 107, 26, 108, 109, 110, 111, 112, 113, 114, 115, 116, 117, 118, 119, 120, 121, 122, 123, 124, 125, 126, 127, 128, 129, 130, 131, 132, 133, 134, 135, 136, 137, 138, 139, 140, 141, 142, 143, 144, 145, 146, 147] (by decide +kernel) (by decide +kernel)
set_option maxRecDepth 20000 in
theorem gX4_mixedArmies_X4_reachMask : GoodIn wsX4_mixedArmies (wsV RX4 181 RX4 yX4_reachMask wsX4_reachMask) := goodIn_app (goodIn_of _ (by decide +kernel)) ggX4_mixedArmies_X4_reachMask
theorem dX4_mixedArmies_0 : decode cX4_mixedArmies 0 = .ok (.lload_n 1, 1) := by decide +kernel
theorem dX4_mixedArmies_1 : decode cX4_mixedArmies 1 = .ok (.lstore_n 3, 1) := by decide +kernel
theorem dX4_mixedArmies_2 : decode cX4_mixedArmies 2 = .ok (.iconst 0, 1) := by decide +kernel
theorem dX4_mixedArmies_3 : decode cX4_mixedArmies 3 = .ok (.istore 5, 2) := by decide +kernel
theorem dX4_mixedArmies_5 : decode cX4_mixedArmies 5 = .ok (.iload 5, 2) := by decide +kernel
theorem dX4_mixedArmies_7 : decode cX4_mixedArmies 7 = .ok (.aload_n 0, 1) := by decide +kernel
theorem dX4_mixedArmies_8 : decode cX4_mixedArmies 8 = .ok (.getfield 20, 3) := by decide +kernel
theorem dX4_mixedArmies_11 : decode cX4_mixedArmies 11 = .ok (.iconst 0, 1) := by decide +kernel
theorem dX4_mixedArmies_12 : decode cX4_mixedArmies 12 = .ok (.invokevirtual 69, 3) := by decide +kernel
theorem dX4_mixedArmies_15 : decode cX4_mixedArmies 15 = .ok (.if_icmp .ge 87, 3) := by decide +kernel
theorem dX4_mixedArmies_18 : decode cX4_mixedArmies 18 = .ok (.iconst 0, 1) := by decide +kernel
theorem dX4_mixedArmies_19 : decode cX4_mixedArmies 19 = .ok (.istore 6, 2) := by decide +kernel
theorem dX4_mixedArmies_21 : decode cX4_mixedArmies 21 = .ok (.iload 6, 2) := by decide +kernel
theorem dX4_mixedArmies_23 : decode cX4_mixedArmies 23 = .ok (.bipush 7, 2) := by decide +kernel
