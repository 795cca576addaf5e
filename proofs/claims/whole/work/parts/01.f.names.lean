theorem dX4_mixedArmies_25 : decode cX4_mixedArmies 25 = .ok (.if_icmp .ge 26, 3) := by decide +kernel
theorem dX4_mixedArmies_28 : decode cX4_mixedArmies 28 = .ok (.lload_n 3, 1) := by decide +kernel
theorem dX4_mixedArmies_29 : decode cX4_mixedArmies 29 = .ok (.aload_n 0, 1) := by decide +kernel
theorem dX4_mixedArmies_30 : decode cX4_mixedArmies 30 = .ok (.getfield 20, 3) := by decide +kernel
theorem dX4_mixedArmies_33 : decode cX4_mixedArmies 33 = .ok (.iload 5, 2) := by decide +kernel
theorem dX4_mixedArmies_35 : decode cX4_mixedArmies 35 = .ok (.iload 6, 2) := by decide +kernel
theorem dX4_mixedArmies_37 : decode cX4_mixedArmies 37 = .ok (.invokevirtual 156, 3) := by decide +kernel
theorem dX4_mixedArmies_40 : decode cX4_mixedArmies 40 = .ok (.i2l, 1) := by decide +kernel
theorem dX4_mixedArmies_41 : decode cX4_mixedArmies 41 = .ok (.invokestatic 196, 3) := by decide +kernel
theorem dX4_mixedArmies_44 : decode cX4_mixedArmies 44 = .ok (.lstore_n 3, 1) := by decide +kernel
theorem dX4_mixedArmies_45 : decode cX4_mixedArmies 45 = .ok (.iinc 6 1, 3) := by decide +kernel
theorem dX4_mixedArmies_48 : decode cX4_mixedArmies 48 = .ok (.goto (-27), 3) := by decide +kernel
theorem dX4_mixedArmies_51 : decode cX4_mixedArmies 51 = .ok (.iconst 0, 1) := by decide +kernel
theorem dX4_mixedArmies_52 : decode cX4_mixedArmies 52 = .ok (.istore 6, 2) := by decide +kernel
theorem dX4_mixedArmies_54 : decode cX4_mixedArmies 54 = .ok (.iload 6, 2) := by decide +kernel
theorem dX4_mixedArmies_56 : decode cX4_mixedArmies 56 = .ok (.bipush 6, 2) := by decide +kernel
theorem dX4_mixedArmies_58 : decode cX4_mixedArmies 58 = .ok (.if_icmp .ge 26, 3) := by decide +kernel
theorem dX4_mixedArmies_61 : decode cX4_mixedArmies 61 = .ok (.lload_n 3, 1) := by decide +kernel
theorem dX4_mixedArmies_62 : decode cX4_mixedArmies 62 = .ok (.aload_n 0, 1) := by decide +kernel
theorem dX4_mixedArmies_63 : decode cX4_mixedArmies 63 = .ok (.getfield 10, 3) := by decide +kernel
theorem dX4_mixedArmies_66 : decode cX4_mixedArmies 66 = .ok (.iload 5, 2) := by decide +kernel
theorem dX4_mixedArmies_68 : decode cX4_mixedArmies 68 = .ok (.iload 6, 2) := by decide +kernel
theorem dX4_mixedArmies_70 : decode cX4_mixedArmies 70 = .ok (.invokevirtual 178, 3) := by decide +kernel
theorem dX4_mixedArmies_73 : decode cX4_mixedArmies 73 = .ok (.i2l, 1) := by decide +kernel
theorem dX4_mixedArmies_74 : decode cX4_mixedArmies 74 = .ok (.invokestatic 196, 3) := by decide +kernel
theorem dX4_mixedArmies_77 : decode cX4_mixedArmies 77 = .ok (.lstore_n 3, 1) := by decide +kernel
theorem dX4_mixedArmies_78 : decode cX4_mixedArmies 78 = .ok (.iinc 6 1, 3) := by decide +kernel
theorem dX4_mixedArmies_81 : decode cX4_mixedArmies 81 = .ok (.goto (-27), 3) := by decide +kernel
theorem dX4_mixedArmies_84 : decode cX4_mixedArmies 84 = .ok (.lload_n 3, 1) := by decide +kernel
theorem dX4_mixedArmies_85 : decode cX4_mixedArmies 85 = .ok (.aload_n 0, 1) := by decide +kernel
theorem dX4_mixedArmies_86 : decode cX4_mixedArmies 86 = .ok (.iload 5, 2) := by decide +kernel
theorem dX4_mixedArmies_88 : decode cX4_mixedArmies 88 = .ok (.invokevirtual 181, 3) := by decide +kernel
theorem dX4_mixedArmies_91 : decode cX4_mixedArmies 91 = .ok (.i2l, 1) := by decide +kernel
theorem dX4_mixedArmies_92 : decode cX4_mixedArmies 92 = .ok (.invokestatic 196, 3) := by decide +kernel
theorem dX4_mixedArmies_95 : decode cX4_mixedArmies 95 = .ok (.lstore_n 3, 1) := by decide +kernel
theorem dX4_mixedArmies_96 : decode cX4_mixedArmies 96 = .ok (.iinc 5 1, 3) := by decide +kernel
theorem dX4_mixedArmies_99 : decode cX4_mixedArmies 99 = .ok (.goto (-94), 3) := by decide +kernel
theorem dX4_mixedArmies_102 : decode cX4_mixedArmies 102 = .ok (.lload_n 3, 1) := by decide +kernel
theorem dX4_mixedArmies_103 : decode cX4_mixedArmies 103 = .ok (.lreturn, 1) := by decide +kernel
set_option maxRecDepth 20000 in
theorem ggX4_mixedFields_X4_fieldNumber : GoodIn wsX4_mixedFields wsX4_fieldNumber := goodIn_r _ [5, 6, 7, 8, 9, 10, 11, 12, 13, 14, 15, 16, 17, 18, 19, 20, 21, 22, 23, 4, 24, 25, 26, 27, 28, 29, 30, 31, 32, 33, 34, 35, 36, 37, 38, 39, 44, 45, 46, 47, 48, 49, 50, 51, 52, 53, 54] (by decide +kernel) (by decide +kernel)
set_option maxRecDepth 20000 in
theorem gX4_mixedFields_X4_fieldNumber : GoodIn wsX4_mixedFields (wsV RX4 163 RX4 yX4_fieldNumber wsX4_fieldNumber) := goodIn_app (goodIn_of _ (by decide +kernel)) ggX4_mixedFields_X4_fieldNumber
set_option maxRecDepth 20000 in
theorem ggX4_mixedFields_X4_mixed : GoodIn wsX4_mixedFields wsX4_mixed := goodIn_r _ [42, 43] (by decide +kernel) (by decide +kernel)
set_option maxRecDepth 20000 in
theorem gX4_mixedFields_X4_mixed : GoodIn wsX4_mixedFields (va_wsS RX4 196 yX4_mixed wsX4_mixed) := goodIn_app (goodIn_of _ (by decide +kernel)) ggX4_mixedFields_X4_mixed
theorem dX4_mixedFields_0 : decode cX4_mixedFields 0 = .ok (.lload_n 1, 1) := by decide +kernel
theorem dX4_mixedFields_1 : decode cX4_mixedFields 1 = .ok (.lstore_n 3, 1) := by decide +kernel
theorem dX4_mixedFields_2 : decode cX4_mixedFields 2 = .ok (.iconst 0, 1) := by decide +kernel
theorem dX4_mixedFields_3 : decode cX4_mixedFields 3 = .ok (.istore 5, 2) := by decide +kernel
theorem dX4_mixedFields_5 : decode cX4_mixedFields 5 = .ok (.iload 5, 2) := by decide +kernel
theorem dX4_mixedFields_7 : decode cX4_mixedFields 7 = .ok (.bipush 12, 2) := by decide +kernel
theorem dX4_mixedFields_9 : decode cX4_mixedFields 9 = .ok (.if_icmp .ge 38, 3) := by decide +kernel
theorem dX4_mixedFields_12 : decode cX4_mixedFields 12 = .ok (.iconst 0, 1) := by decide +kernel
theorem dX4_mixedFields_13 : decode cX4_mixedFields 13 = .ok (.istore 6, 2) := by decide +kernel
theorem dX4_mixedFields_15 : decode cX4_mixedFields 15 = .ok (.iload 6, 2) := by decide +kernel
theorem dX4_mixedFields_17 : decode cX4_mixedFields 17 = .ok (.iconst 5, 1) := by decide +kernel
theorem dX4_mixedFields_18 : decode cX4_mixedFields 18 = .ok (.if_icmp .ge 23, 3) := by decide +kernel
theorem dX4_mixedFields_21 : decode cX4_mixedFields 21 = .ok (.lload_n 3, 1) := by decide +kernel
theorem dX4_mixedFields_22 : decode cX4_mixedFields 22 = .ok (.aload_n 0, 1) := by decide +kernel
theorem dX4_mixedFields_23 : decode cX4_mixedFields 23 = .ok (.iload 5, 2) := by decide +kernel
theorem dX4_mixedFields_25 : decode cX4_mixedFields 25 = .ok (.iload 6, 2) := by decide +kernel
theorem dX4_mixedFields_27 : decode cX4_mixedFields 27 = .ok (.invokevirtual 163, 3) := by decide +kernel
theorem dX4_mixedFields_30 : decode cX4_mixedFields 30 = .ok (.i2l, 1) := by decide +kernel
theorem dX4_mixedFields_31 : decode cX4_mixedFields 31 = .ok (.invokestatic 196, 3) := by decide +kernel
theorem dX4_mixedFields_34 : decode cX4_mixedFields 34 = .ok (.lstore_n 3, 1) := by decide +kernel
theorem dX4_mixedFields_35 : decode cX4_mixedFields 35 = .ok (.iinc 6 1, 3) := by decide +kernel
theorem dX4_mixedFields_38 : decode cX4_mixedFields 38 = .ok (.goto (-23), 3) := by decide +kernel
theorem dX4_mixedFields_41 : decode cX4_mixedFields 41 = .ok (.iinc 5 1, 3) := by decide +kernel
theorem dX4_mixedFields_44 : decode cX4_mixedFields 44 = .ok (.goto (-39), 3) := by decide +kernel
theorem dX4_mixedFields_47 : decode cX4_mixedFields 47 = .ok (.lload_n 3, 1) := by decide +kernel
theorem dX4_mixedFields_48 : decode cX4_mixedFields 48 = .ok (.lreturn, 1) := by decide +kernel
set_option maxRecDepth 20000 in
theorem ggX4_mixedSeats_X4_seatNumber : GoodIn wsX4_mixedSeats wsX4_seatNumber := goodIn_r _ [6, 7, 8, 9, 10, 11, 12, 13, 14, 15, 16, 17, 18, 19, 20, 21, 22, 23, 24, 25, 26, 27, 28, 29, 30, 31, 32, 33, 34, 35, 36, 5, 37, 38, 39, 40, 41, 42, 43, 44, 45, 46, 47, 48, 49, 72, 73, 74, 75, 76, 77, 78, 79, 80, 81, 82] (by decide +kernel) (by decide +kernel)
set_option maxRecDepth 20000 in
theorem gX4_mixedSeats_X4_seatNumber : GoodIn wsX4_mixedSeats (wsV RX4 168 RX4 yX4_seatNumber wsX4_seatNumber) := goodIn_app (goodIn_of _ (by decide +kernel)) ggX4_mixedSeats_X4_seatNumber
set_option maxRecDepth 20000 in
theorem ggX4_mixedSeats_X4_mixed : GoodIn wsX4_mixedSeats wsX4_mixed := goodIn_r _ [52, 53] (by decide +kernel) (by decide +kernel)
set_option maxRecDepth 20000 in
theorem gX4_mixedSeats_X4_mixed : GoodIn wsX4_mixedSeats (va_wsS RX4 196 yX4_mixed wsX4_mixed) := goodIn_app (goodIn_of _ (by decide +kernel)) ggX4_mixedSeats_X4_mixed
set_option maxRecDepth 20000 in
theorem ggX4_mixedSeats_X2_centresThen : GoodIn wsX4_mixedSeats wsX2_centresThen := goodIn_r _ [58, 59, 5, 60, 61, 62, 63, 57, 64, 65, 66, 67, 14, 15, 11, 16, 17, 68, 69, 70, 19, 20, 21, 22, 71, 28, 29, 30, 31, 83, 84, 85, 86, 87, 88, 89, 90, 80, 81, 82] (by decide +kernel) (by decide +kernel)
set_option maxRecDepth 20000 in
theorem gX4_mixedSeats_X2_centresThen : GoodIn wsX4_mixedSeats (wsV RX4 187 RX2 yX2_centresThen wsX2_centresThen) := goodIn_app (goodIn_of _ (by decide +kernel)) ggX4_mixedSeats_X2_centresThen
theorem dX4_mixedSeats_0 : decode cX4_mixedSeats 0 = .ok (.lload_n 1, 1) := by decide +kernel
theorem dX4_mixedSeats_1 : decode cX4_mixedSeats 1 = .ok (.lstore_n 3, 1) := by decide +kernel
theorem dX4_mixedSeats_2 : decode cX4_mixedSeats 2 = .ok (.iconst 0, 1) := by decide +kernel
theorem dX4_mixedSeats_3 : decode cX4_mixedSeats 3 = .ok (.istore 5, 2) := by decide +kernel
theorem dX4_mixedSeats_5 : decode cX4_mixedSeats 5 = .ok (.iload 5, 2) := by decide +kernel
theorem dX4_mixedSeats_7 : decode cX4_mixedSeats 7 = .ok (.iconst 3, 1) := by decide +kernel
theorem dX4_mixedSeats_8 : decode cX4_mixedSeats 8 = .ok (.if_icmp .ge 53, 3) := by decide +kernel
theorem dX4_mixedSeats_11 : decode cX4_mixedSeats 11 = .ok (.iconst 0, 1) := by decide +kernel
theorem dX4_mixedSeats_12 : decode cX4_mixedSeats 12 = .ok (.istore 6, 2) := by decide +kernel
theorem dX4_mixedSeats_14 : decode cX4_mixedSeats 14 = .ok (.iload 6, 2) := by decide +kernel
theorem dX4_mixedSeats_16 : decode cX4_mixedSeats 16 = .ok (.iconst 5, 1) := by decide +kernel
theorem dX4_mixedSeats_17 : decode cX4_mixedSeats 17 = .ok (.if_icmp .ge 23, 3) := by decide +kernel
theorem dX4_mixedSeats_20 : decode cX4_mixedSeats 20 = .ok (.lload_n 3, 1) := by decide +kernel
theorem dX4_mixedSeats_21 : decode cX4_mixedSeats 21 = .ok (.aload_n 0, 1) := by decide +kernel
theorem dX4_mixedSeats_22 : decode cX4_mixedSeats 22 = .ok (.iload 5, 2) := by decide +kernel
theorem dX4_mixedSeats_24 : decode cX4_mixedSeats 24 = .ok (.iload 6, 2) := by decide +kernel
theorem dX4_mixedSeats_26 : decode cX4_mixedSeats 26 = .ok (.invokevirtual 168, 3) := by decide +kernel
theorem dX4_mixedSeats_29 : decode cX4_mixedSeats 29 = .ok (.i2l, 1) := by decide +kernel
theorem dX4_mixedSeats_30 : decode cX4_mixedSeats 30 = .ok (.invokestatic 196, 3) := by decide +kernel
theorem dX4_mixedSeats_33 : decode cX4_mixedSeats 33 = .ok (.lstore_n 3, 1) := by decide +kernel
theorem dX4_mixedSeats_34 : decode cX4_mixedSeats 34 = .ok (.iinc 6 1, 3) := by decide +kernel
theorem dX4_mixedSeats_37 : decode cX4_mixedSeats 37 = .ok (.goto (-23), 3) := by decide +kernel
theorem dX4_mixedSeats_40 : decode cX4_mixedSeats 40 = .ok (.lload_n 3, 1) := by decide +kernel
theorem dX4_mixedSeats_41 : decode cX4_mixedSeats 41 = .ok (.aload_n 0, 1) := by decide +kernel
theorem dX4_mixedSeats_42 : decode cX4_mixedSeats 42 = .ok (.getfield 10, 3) := by decide +kernel
theorem dX4_mixedSeats_45 : decode cX4_mixedSeats 45 = .ok (.iload 5, 2) := by decide +kernel
theorem dX4_mixedSeats_47 : decode cX4_mixedSeats 47 = .ok (.invokevirtual 187, 3) := by decide +kernel
theorem dX4_mixedSeats_50 : decode cX4_mixedSeats 50 = .ok (.i2l, 1) := by decide +kernel
theorem dX4_mixedSeats_51 : decode cX4_mixedSeats 51 = .ok (.invokestatic 196, 3) := by decide +kernel
theorem dX4_mixedSeats_54 : decode cX4_mixedSeats 54 = .ok (.lstore_n 3, 1) := by decide +kernel
theorem dX4_mixedSeats_55 : decode cX4_mixedSeats 55 = .ok (.iinc 5 1, 3) := by decide +kernel
theorem dX4_mixedSeats_58 : decode cX4_mixedSeats 58 = .ok (.goto (-53), 3) := by decide +kernel
theorem dX4_mixedSeats_61 : decode cX4_mixedSeats 61 = .ok (.lload_n 3, 1) := by decide +kernel
theorem dX4_mixedSeats_62 : decode cX4_mixedSeats 62 = .ok (.lreturn, 1) := by decide +kernel
theorem dX4_mixed_0 : decode cX4_mixed 0 = .ok (.ldc2_w 275, 3) := by decide +kernel
theorem dX4_mixed_3 : decode cX4_mixed 3 = .ok (.lload_n 0, 1) := by decide +kernel
theorem dX4_mixed_4 : decode cX4_mixed 4 = .ok (.lmul, 1) := by decide +kernel
theorem dX4_mixed_5 : decode cX4_mixed 5 = .ok (.lload_n 2, 1) := by decide +kernel
theorem dX4_mixed_6 : decode cX4_mixed 6 = .ok (.ladd, 1) := by decide +kernel
theorem dX4_mixed_7 : decode cX4_mixed 7 = .ok (.lreturn, 1) := by decide +kernel
theorem dX4_bitsOf_0 : decode cX4_bitsOf 0 = .ok (.dload_n 0, 1) := by decide +kernel
theorem dX4_bitsOf_1 : decode cX4_bitsOf 1 = .ok (.dconst 0, 1) := by decide +kernel
theorem dX4_bitsOf_2 : decode cX4_bitsOf 2 = .ok (.dcmp .l, 1) := by decide +kernel
theorem dX4_bitsOf_3 : decode cX4_bitsOf 3 = .ok (.ifCond .gt 5, 3) := by decide +kernel
theorem dX4_bitsOf_6 : decode cX4_bitsOf 6 = .ok (.lconst 0, 1) := by decide +kernel
theorem dX4_bitsOf_7 : decode cX4_bitsOf 7 = .ok (.lreturn, 1) := by decide +kernel
theorem dX4_bitsOf_8 : decode cX4_bitsOf 8 = .ok (.dload_n 0, 1) := by decide +kernel
theorem dX4_bitsOf_9 : decode cX4_bitsOf 9 = .ok (.dstore_n 2, 1) := by decide +kernel
theorem dX4_bitsOf_10 : decode cX4_bitsOf 10 = .ok (.ldc2_w 277, 3) := by decide +kernel
theorem dX4_bitsOf_13 : decode cX4_bitsOf 13 = .ok (.lstore 4, 2) := by decide +kernel
theorem dX4_bitsOf_15 : decode cX4_bitsOf 15 = .ok (.iconst 0, 1) := by decide +kernel
theorem dX4_bitsOf_16 : decode cX4_bitsOf 16 = .ok (.istore 6, 2) := by decide +kernel
theorem dX4_bitsOf_18 : decode cX4_bitsOf 18 = .ok (.iload 6, 2) := by decide +kernel
theorem dX4_bitsOf_20 : decode cX4_bitsOf 20 = .ok (.sipush 1022, 3) := by decide +kernel
theorem dX4_bitsOf_23 : decode cX4_bitsOf 23 = .ok (.if_icmp .ge 27, 3) := by decide +kernel
theorem dX4_bitsOf_26 : decode cX4_bitsOf 26 = .ok (.dload_n 2, 1) := by decide +kernel
theorem dX4_bitsOf_27 : decode cX4_bitsOf 27 = .ok (.dconst 1, 1) := by decide +kernel
theorem dX4_bitsOf_28 : decode cX4_bitsOf 28 = .ok (.dcmp .g, 1) := by decide +kernel
theorem dX4_bitsOf_29 : decode cX4_bitsOf 29 = .ok (.ifCond .ge 21, 3) := by decide +kernel
theorem dX4_bitsOf_32 : decode cX4_bitsOf 32 = .ok (.dload_n 2, 1) := by decide +kernel
theorem dX4_bitsOf_33 : decode cX4_bitsOf 33 = .ok (.ldc2_w 279, 3) := by decide +kernel
theorem dX4_bitsOf_36 : decode cX4_bitsOf 36 = .ok (.dmul, 1) := by decide +kernel
theorem dX4_bitsOf_37 : decode cX4_bitsOf 37 = .ok (.dstore_n 2, 1) := by decide +kernel
theorem dX4_bitsOf_38 : decode cX4_bitsOf 38 = .ok (.lload 4, 2) := by decide +kernel
theorem dX4_bitsOf_40 : decode cX4_bitsOf 40 = .ok (.lconst 1, 1) := by decide +kernel
theorem dX4_bitsOf_41 : decode cX4_bitsOf 41 = .ok (.lsub, 1) := by decide +kernel
theorem dX4_bitsOf_42 : decode cX4_bitsOf 42 = .ok (.lstore 4, 2) := by decide +kernel
theorem dX4_bitsOf_44 : decode cX4_bitsOf 44 = .ok (.iinc 6 1, 3) := by decide +kernel
theorem dX4_bitsOf_47 : decode cX4_bitsOf 47 = .ok (.goto (-29), 3) := by decide +kernel
theorem dX4_bitsOf_50 : decode cX4_bitsOf 50 = .ok (.dload_n 2, 1) := by decide +kernel
theorem dX4_bitsOf_51 : decode cX4_bitsOf 51 = .ok (.dconst 1, 1) := by decide +kernel
theorem dX4_bitsOf_52 : decode cX4_bitsOf 52 = .ok (.dsub, 1) := by decide +kernel
theorem dX4_bitsOf_53 : decode cX4_bitsOf 53 = .ok (.ldc2_w 281, 3) := by decide +kernel
theorem dX4_bitsOf_56 : decode cX4_bitsOf 56 = .ok (.dmul, 1) := by decide +kernel
theorem dX4_bitsOf_57 : decode cX4_bitsOf 57 = .ok (.d2l, 1) := by decide +kernel
theorem dX4_bitsOf_58 : decode cX4_bitsOf 58 = .ok (.lstore 6, 2) := by decide +kernel
theorem dX4_bitsOf_60 : decode cX4_bitsOf 60 = .ok (.lload 4, 2) := by decide +kernel
theorem dX4_bitsOf_62 : decode cX4_bitsOf 62 = .ok (.bipush 52, 2) := by decide +kernel
theorem dX4_bitsOf_64 : decode cX4_bitsOf 64 = .ok (.lshl, 1) := by decide +kernel
theorem dX4_bitsOf_65 : decode cX4_bitsOf 65 = .ok (.lload 6, 2) := by decide +kernel
theorem dX4_bitsOf_67 : decode cX4_bitsOf 67 = .ok (.ladd, 1) := by decide +kernel
theorem dX4_bitsOf_68 : decode cX4_bitsOf 68 = .ok (.lreturn, 1) := by decide +kernel
theorem dX4_isSeat_0 : decode cX4_isSeat 0 = .ok (.iload_n 0, 1) := by decide +kernel
theorem dX4_isSeat_1 : decode cX4_isSeat 1 = .ok (.ifCond .lt 12, 3) := by decide +kernel
theorem dX4_isSeat_4 : decode cX4_isSeat 4 = .ok (.iload_n 0, 1) := by decide +kernel
theorem dX4_isSeat_5 : decode cX4_isSeat 5 = .ok (.iconst 3, 1) := by decide +kernel
theorem dX4_isSeat_6 : decode cX4_isSeat 6 = .ok (.if_icmp .ge 7, 3) := by decide +kernel
theorem dX4_isSeat_9 : decode cX4_isSeat 9 = .ok (.iconst 1, 1) := by decide +kernel
theorem dX4_isSeat_10 : decode cX4_isSeat 10 = .ok (.goto 4, 3) := by decide +kernel
theorem dX4_isSeat_13 : decode cX4_isSeat 13 = .ok (.iconst 0, 1) := by decide +kernel
theorem dX4_isSeat_14 : decode cX4_isSeat 14 = .ok (.ireturn, 1) := by decide +kernel
theorem dX4_isField_0 : decode cX4_isField 0 = .ok (.iload_n 0, 1) := by decide +kernel
theorem dX4_isField_1 : decode cX4_isField 1 = .ok (.ifCond .lt 13, 3) := by decide +kernel
theorem dX4_isField_4 : decode cX4_isField 4 = .ok (.iload_n 0, 1) := by decide +kernel
theorem dX4_isField_5 : decode cX4_isField 5 = .ok (.bipush 12, 2) := by decide +kernel
theorem dX4_isField_7 : decode cX4_isField 7 = .ok (.if_icmp .ge 7, 3) := by decide +kernel
theorem dX4_isField_10 : decode cX4_isField 10 = .ok (.iconst 1, 1) := by decide +kernel
theorem dX4_isField_11 : decode cX4_isField 11 = .ok (.goto 4, 3) := by decide +kernel
theorem dX4_isField_14 : decode cX4_isField 14 = .ok (.iconst 0, 1) := by decide +kernel
theorem dX4_isField_15 : decode cX4_isField 15 = .ok (.ireturn, 1) := by decide +kernel
theorem dX4_isCentre_0 : decode cX4_isCentre 0 = .ok (.iload_n 0, 1) := by decide +kernel
theorem dX4_isCentre_1 : decode cX4_isCentre 1 = .ok (.ifCond .eq 20, 3) := by decide +kernel
theorem dX4_isCentre_4 : decode cX4_isCentre 4 = .ok (.iload_n 0, 1) := by decide +kernel
theorem dX4_isCentre_5 : decode cX4_isCentre 5 = .ok (.iconst 3, 1) := by decide +kernel
theorem dX4_isCentre_6 : decode cX4_isCentre 6 = .ok (.if_icmp .eq 15, 3) := by decide +kernel
theorem dX4_isCentre_9 : decode cX4_isCentre 9 = .ok (.iload_n 0, 1) := by decide +kernel
theorem dX4_isCentre_10 : decode cX4_isCentre 10 = .ok (.bipush 6, 2) := by decide +kernel
theorem dX4_isCentre_12 : decode cX4_isCentre 12 = .ok (.if_icmp .eq 9, 3) := by decide +kernel
theorem dX4_isCentre_15 : decode cX4_isCentre 15 = .ok (.iload_n 0, 1) := by decide +kernel
theorem dX4_isCentre_16 : decode cX4_isCentre 16 = .ok (.bipush 9, 2) := by decide +kernel
theorem dX4_isCentre_18 : decode cX4_isCentre 18 = .ok (.if_icmp .ne 7, 3) := by decide +kernel
theorem dX4_isCentre_21 : decode cX4_isCentre 21 = .ok (.iconst 1, 1) := by decide +kernel
theorem dX4_isCentre_22 : decode cX4_isCentre 22 = .ok (.goto 4, 3) := by decide +kernel
theorem dX4_isCentre_25 : decode cX4_isCentre 25 = .ok (.iconst 0, 1) := by decide +kernel
theorem dX4_isCentre_26 : decode cX4_isCentre 26 = .ok (.ireturn, 1) := by decide +kernel
theorem dX4_areNeighbours_0 : decode cX4_areNeighbours 0 = .ok (.iload_n 0, 1) := by decide +kernel
theorem dX4_areNeighbours_1 : decode cX4_areNeighbours 1 = .ok (.iload_n 1, 1) := by decide +kernel
theorem dX4_areNeighbours_2 : decode cX4_areNeighbours 2 = .ok (.if_icmp .le 9, 3) := by decide +kernel
theorem dX4_areNeighbours_5 : decode cX4_areNeighbours 5 = .ok (.iload_n 0, 1) := by decide +kernel
theorem dX4_areNeighbours_6 : decode cX4_areNeighbours 6 = .ok (.iload_n 1, 1) := by decide +kernel
theorem dX4_areNeighbours_7 : decode cX4_areNeighbours 7 = .ok (.isub, 1) := by decide +kernel
theorem dX4_areNeighbours_8 : decode cX4_areNeighbours 8 = .ok (.goto 6, 3) := by decide +kernel
theorem dX4_areNeighbours_11 : decode cX4_areNeighbours 11 = .ok (.iload_n 1, 1) := by decide +kernel
theorem dX4_areNeighbours_12 : decode cX4_areNeighbours 12 = .ok (.iload_n 0, 1) := by decide +kernel
theorem dX4_areNeighbours_13 : decode cX4_areNeighbours 13 = .ok (.isub, 1) := by decide +kernel
theorem dX4_areNeighbours_14 : decode cX4_areNeighbours 14 = .ok (.istore_n 2, 1) := by decide +kernel
theorem dX4_areNeighbours_15 : decode cX4_areNeighbours 15 = .ok (.iload_n 2, 1) := by decide +kernel
theorem dX4_areNeighbours_16 : decode cX4_areNeighbours 16 = .ok (.iconst 1, 1) := by decide +kernel
theorem dX4_areNeighbours_17 : decode cX4_areNeighbours 17 = .ok (.if_icmp .eq 20, 3) := by decide +kernel
theorem dX4_areNeighbours_20 : decode cX4_areNeighbours 20 = .ok (.iload_n 2, 1) := by decide +kernel
theorem dX4_areNeighbours_21 : decode cX4_areNeighbours 21 = .ok (.iconst 4, 1) := by decide +kernel
theorem dX4_areNeighbours_22 : decode cX4_areNeighbours 22 = .ok (.if_icmp .eq 15, 3) := by decide +kernel
theorem dX4_areNeighbours_25 : decode cX4_areNeighbours 25 = .ok (.iload_n 2, 1) := by decide +kernel
theorem dX4_areNeighbours_26 : decode cX4_areNeighbours 26 = .ok (.bipush 8, 2) := by decide +kernel
theorem dX4_areNeighbours_28 : decode cX4_areNeighbours 28 = .ok (.if_icmp .eq 9, 3) := by decide +kernel
theorem dX4_areNeighbours_31 : decode cX4_areNeighbours 31 = .ok (.iload_n 2, 1) := by decide +kernel
theorem dX4_areNeighbours_32 : decode cX4_areNeighbours 32 = .ok (.bipush 11, 2) := by decide +kernel
theorem dX4_areNeighbours_34 : decode cX4_areNeighbours 34 = .ok (.if_icmp .ne 7, 3) := by decide +kernel
theorem dX4_areNeighbours_37 : decode cX4_areNeighbours 37 = .ok (.iconst 1, 1) := by decide +kernel
theorem dX4_areNeighbours_38 : decode cX4_areNeighbours 38 = .ok (.goto 4, 3) := by decide +kernel
theorem dX4_areNeighbours_41 : decode cX4_areNeighbours 41 = .ok (.iconst 0, 1) := by decide +kernel
theorem dX4_areNeighbours_42 : decode cX4_areNeighbours 42 = .ok (.ireturn, 1) := by decide +kernel
set_option maxRecDepth 20000 in
theorem ggX4_neighbourMask_X4_areNeighbours : GoodIn wsX4_neighbourMask wsX4_areNeighbours := goodIn_r _ [4] (by decide +kernel) (by decide +kernel)
set_option maxRecDepth 20000 in
theorem gX4_neighbourMask_X4_areNeighbours : GoodIn wsX4_neighbourMask (va_wsS RX4 283 yX4_areNeighbours wsX4_areNeighbours) := goodIn_app (goodIn_of _ (by decide +kernel)) ggX4_neighbourMask_X4_areNeighbours
theorem dX4_neighbourMask_0 : decode cX4_neighbourMask 0 = .ok (.iconst 0, 1) := by decide +kernel
theorem dX4_neighbourMask_1 : decode cX4_neighbourMask 1 = .ok (.istore_n 1, 1) := by decide +kernel
theorem dX4_neighbourMask_2 : decode cX4_neighbourMask 2 = .ok (.iconst 0, 1) := by decide +kernel
theorem dX4_neighbourMask_3 : decode cX4_neighbourMask 3 = .ok (.istore_n 2, 1) := by decide +kernel
theorem dX4_neighbourMask_4 : decode cX4_neighbourMask 4 = .ok (.iload_n 2, 1) := by decide +kernel
theorem dX4_neighbourMask_5 : decode cX4_neighbourMask 5 = .ok (.bipush 12, 2) := by decide +kernel
theorem dX4_neighbourMask_7 : decode cX4_neighbourMask 7 = .ok (.if_icmp .ge 27, 3) := by decide +kernel
theorem dX4_neighbourMask_10 : decode cX4_neighbourMask 10 = .ok (.iload_n 1, 1) := by decide +kernel
theorem dX4_neighbourMask_11 : decode cX4_neighbourMask 11 = .ok (.iload_n 0, 1) := by decide +kernel
theorem dX4_neighbourMask_12 : decode cX4_neighbourMask 12 = .ok (.iload_n 2, 1) := by decide +kernel
theorem dX4_neighbourMask_13 : decode cX4_neighbourMask 13 = .ok (.invokestatic 283, 3) := by decide +kernel
theorem dX4_neighbourMask_16 : decode cX4_neighbourMask 16 = .ok (.ifCond .eq 9, 3) := by decide +kernel
theorem dX4_neighbourMask_19 : decode cX4_neighbourMask 19 = .ok (.iconst 1, 1) := by decide +kernel
theorem dX4_neighbourMask_20 : decode cX4_neighbourMask 20 = .ok (.iload_n 2, 1) := by decide +kernel
theorem dX4_neighbourMask_21 : decode cX4_neighbourMask 21 = .ok (.ishl, 1) := by decide +kernel
theorem dX4_neighbourMask_22 : decode cX4_neighbourMask 22 = .ok (.goto 4, 3) := by decide +kernel
theorem dX4_neighbourMask_25 : decode cX4_neighbourMask 25 = .ok (.iconst 0, 1) := by decide +kernel
theorem dX4_neighbourMask_26 : decode cX4_neighbourMask 26 = .ok (.ior, 1) := by decide +kernel
theorem dX4_neighbourMask_27 : decode cX4_neighbourMask 27 = .ok (.istore_n 1, 1) := by decide +kernel
theorem dX4_neighbourMask_28 : decode cX4_neighbourMask 28 = .ok (.iinc 2 1, 3) := by decide +kernel
theorem dX4_neighbourMask_31 : decode cX4_neighbourMask 31 = .ok (.goto (-27), 3) := by decide +kernel
theorem dX4_neighbourMask_34 : decode cX4_neighbourMask 34 = .ok (.iload_n 1, 1) := by decide +kernel
theorem dX4_neighbourMask_35 : decode cX4_neighbourMask 35 = .ok (.ireturn, 1) := by decide +kernel
theorem dX4_entry_0 : decode cX4_entry 0 = .ok (.iload_n 1, 1) := by decide +kernel
theorem dX4_entry_1 : decode cX4_entry 1 = .ok (.ifCond .lt 15, 3) := by decide +kernel
theorem dX4_entry_4 : decode cX4_entry 4 = .ok (.iload_n 1, 1) := by decide +kernel
theorem dX4_entry_5 : decode cX4_entry 5 = .ok (.aload_n 0, 1) := by decide +kernel
theorem dX4_entry_6 : decode cX4_entry 6 = .ok (.arraylength, 1) := by decide +kernel
theorem dX4_entry_7 : decode cX4_entry 7 = .ok (.if_icmp .ge 9, 3) := by decide +kernel
theorem dX4_entry_10 : decode cX4_entry 10 = .ok (.aload_n 0, 1) := by decide +kernel
theorem dX4_entry_11 : decode cX4_entry 11 = .ok (.iload_n 1, 1) := by decide +kernel
theorem dX4_entry_12 : decode cX4_entry 12 = .ok (.iaload, 1) := by decide +kernel
theorem dX4_entry_13 : decode cX4_entry 13 = .ok (.goto 4, 3) := by decide +kernel
theorem dX4_entry_16 : decode cX4_entry 16 = .ok (.iconst (-1), 1) := by decide +kernel
theorem dX4_entry_17 : decode cX4_entry 17 = .ok (.ireturn, 1) := by decide +kernel
theorem dX4_enter_0 : decode cX4_enter 0 = .ok (.iload_n 1, 1) := by decide +kernel
theorem dX4_enter_1 : decode cX4_enter 1 = .ok (.ifCond .lt 13, 3) := by decide +kernel
theorem dX4_enter_4 : decode cX4_enter 4 = .ok (.iload_n 1, 1) := by decide +kernel
theorem dX4_enter_5 : decode cX4_enter 5 = .ok (.aload_n 0, 1) := by decide +kernel
theorem dX4_enter_6 : decode cX4_enter 6 = .ok (.arraylength, 1) := by decide +kernel
theorem dX4_enter_7 : decode cX4_enter 7 = .ok (.if_icmp .ge 7, 3) := by decide +kernel
theorem dX4_enter_10 : decode cX4_enter 10 = .ok (.aload_n 0, 1) := by decide +kernel
theorem dX4_enter_11 : decode cX4_enter 11 = .ok (.iload_n 1, 1) := by decide +kernel
theorem dX4_enter_12 : decode cX4_enter 12 = .ok (.iload_n 2, 1) := by decide +kernel
theorem dX4_enter_13 : decode cX4_enter 13 = .ok (.iastore, 1) := by decide +kernel
theorem dX4_enter_14 : decode cX4_enter 14 = .ok (.return_, 1) := by decide +kernel
theorem dX5_init_0 : decode cX5_init 0 = .ok (.aload_n 0, 1) := by decide +kernel
theorem dX5_init_1 : decode cX5_init 1 = .ok (.invokespecial 1, 3) := by decide +kernel
theorem dX5_init_4 : decode cX5_init 4 = .ok (.aload_n 0, 1) := by decide +kernel
theorem dX5_init_5 : decode cX5_init 5 = .ok (.bipush 77, 2) := by decide +kernel
theorem dX5_init_7 : decode cX5_init 7 = .ok (.newarray .int, 2) := by decide +kernel
theorem dX5_init_9 : decode cX5_init 9 = .ok (.putfield 7, 3) := by decide +kernel
theorem dX5_init_12 : decode cX5_init 12 = .ok (.aload_n 0, 1) := by decide +kernel
theorem dX5_init_13 : decode cX5_init 13 = .ok (.bipush 77, 2) := by decide +kernel
theorem dX5_init_15 : decode cX5_init 15 = .ok (.newarray .int, 2) := by decide +kernel
theorem dX5_init_17 : decode cX5_init 17 = .ok (.putfield 13, 3) := by decide +kernel
theorem dX5_init_20 : decode cX5_init 20 = .ok (.aload_n 0, 1) := by decide +kernel
theorem dX5_init_21 : decode cX5_init 21 = .ok (.bipush 77, 2) := by decide +kernel
theorem dX5_init_23 : decode cX5_init 23 = .ok (.newarray .int, 2) := by decide +kernel
theorem dX5_init_25 : decode cX5_init 25 = .ok (.putfield 16, 3) := by decide +kernel
theorem dX5_init_28 : decode cX5_init 28 = .ok (.aload_n 0, 1) := by decide +kernel
theorem dX5_init_29 : decode cX5_init 29 = .ok (.sipush 462, 3) := by decide +kernel
theorem dX5_init_32 : decode cX5_init 32 = .ok (.newarray .int, 2) := by decide +kernel
theorem dX5_init_34 : decode cX5_init 34 = .ok (.putfield 19, 3) := by decide +kernel
theorem dX5_init_37 : decode cX5_init 37 = .ok (.aload_n 0, 1) := by decide +kernel
theorem dX5_init_38 : decode cX5_init 38 = .ok (.bipush 60, 2) := by decide +kernel
theorem dX5_init_40 : decode cX5_init 40 = .ok (.newarray .int, 2) := by decide +kernel
theorem dX5_init_42 : decode cX5_init 42 = .ok (.putfield 22, 3) := by decide +kernel
theorem dX5_init_45 : decode cX5_init 45 = .ok (.aload_n 0, 1) := by decide +kernel
theorem dX5_init_46 : decode cX5_init 46 = .ok (.bipush 9, 2) := by decide +kernel
theorem dX5_init_48 : decode cX5_init 48 = .ok (.newarray .boolean, 2) := by decide +kernel
theorem dX5_init_50 : decode cX5_init 50 = .ok (.putfield 25, 3) := by decide +kernel
theorem dX5_init_53 : decode cX5_init 53 = .ok (.aload_n 0, 1) := by decide +kernel
theorem dX5_init_54 : decode cX5_init 54 = .ok (.bipush 9, 2) := by decide +kernel
theorem dX5_init_56 : decode cX5_init 56 = .ok (.newarray .boolean, 2) := by decide +kernel
theorem dX5_init_58 : decode cX5_init 58 = .ok (.putfield 29, 3) := by decide +kernel
theorem dX5_init_61 : decode cX5_init 61 = .ok (.aload_n 0, 1) := by decide +kernel
theorem dX5_init_62 : decode cX5_init 62 = .ok (.bipush 9, 2) := by decide +kernel
theorem dX5_init_64 : decode cX5_init 64 = .ok (.newarray .int, 2) := by decide +kernel
theorem dX5_init_66 : decode cX5_init 66 = .ok (.putfield 32, 3) := by decide +kernel
theorem dX5_init_69 : decode cX5_init 69 = .ok (.aload_n 0, 1) := by decide +kernel
theorem dX5_init_70 : decode cX5_init 70 = .ok (.bipush 9, 2) := by decide +kernel
theorem dX5_init_72 : decode cX5_init 72 = .ok (.newarray .boolean, 2) := by decide +kernel
theorem dX5_init_74 : decode cX5_init 74 = .ok (.putfield 35, 3) := by decide +kernel
theorem dX5_init_77 : decode cX5_init 77 = .ok (.aload_n 0, 1) := by decide +kernel
theorem dX5_init_78 : decode cX5_init 78 = .ok (.bipush 9, 2) := by decide +kernel
theorem dX5_init_80 : decode cX5_init 80 = .ok (.newarray .int, 2) := by decide +kernel
theorem dX5_init_82 : decode cX5_init 82 = .ok (.putfield 38, 3) := by decide +kernel
theorem dX5_init_85 : decode cX5_init 85 = .ok (.aload_n 0, 1) := by decide +kernel
theorem dX5_init_86 : decode cX5_init 86 = .ok (.bipush 9, 2) := by decide +kernel
theorem dX5_init_88 : decode cX5_init 88 = .ok (.newarray .int, 2) := by decide +kernel
theorem dX5_init_90 : decode cX5_init 90 = .ok (.putfield 41, 3) := by decide +kernel
theorem dX5_init_93 : decode cX5_init 93 = .ok (.aload_n 0, 1) := by decide +kernel
theorem dX5_init_94 : decode cX5_init 94 = .ok (.bipush 9, 2) := by decide +kernel
theorem dX5_init_96 : decode cX5_init 96 = .ok (.newarray .int, 2) := by decide +kernel
theorem dX5_init_98 : decode cX5_init 98 = .ok (.putfield 44, 3) := by decide +kernel
theorem dX5_init_101 : decode cX5_init 101 = .ok (.aload_n 0, 1) := by decide +kernel
theorem dX5_init_102 : decode cX5_init 102 = .ok (.bipush 9, 2) := by decide +kernel
theorem dX5_init_104 : decode cX5_init 104 = .ok (.newarray .boolean, 2) := by decide +kernel
theorem dX5_init_106 : decode cX5_init 106 = .ok (.putfield 47, 3) := by decide +kernel
theorem dX5_init_109 : decode cX5_init 109 = .ok (.iconst 0, 1) := by decide +kernel
theorem dX5_init_110 : decode cX5_init 110 = .ok (.istore_n 1, 1) := by decide +kernel
theorem dX5_init_111 : decode cX5_init 111 = .ok (.iload_n 1, 1) := by decide +kernel
theorem dX5_init_112 : decode cX5_init 112 = .ok (.iconst 4, 1) := by decide +kernel
theorem dX5_init_113 : decode cX5_init 113 = .ok (.if_icmp .ge 19, 3) := by decide +kernel
theorem dX5_init_116 : decode cX5_init 116 = .ok (.aload_n 0, 1) := by decide +kernel
theorem dX5_init_117 : decode cX5_init 117 = .ok (.getfield 7, 3) := by decide +kernel
theorem dX5_init_120 : decode cX5_init 120 = .ok (.bipush 10, 2) := by decide +kernel
theorem dX5_init_122 : decode cX5_init 122 = .ok (.iload_n 1, 1) := by decide +kernel
theorem dX5_init_123 : decode cX5_init 123 = .ok (.iadd, 1) := by decide +kernel
theorem dX5_init_124 : decode cX5_init 124 = .ok (.iconst (-1), 1) := by decide +kernel
theorem dX5_init_125 : decode cX5_init 125 = .ok (.iastore, 1) := by decide +kernel
theorem dX5_init_126 : decode cX5_init 126 = .ok (.iinc 1 1, 3) := by decide +kernel
theorem dX5_init_129 : decode cX5_init 129 = .ok (.goto (-18), 3) := by decide +kernel
theorem dX5_init_132 : decode cX5_init 132 = .ok (.return_, 1) := by decide +kernel
theorem dX5_thrown_0 : decode cX5_thrown 0 = .ok (.aload_n 0, 1) := by decide +kernel
theorem dX5_thrown_1 : decode cX5_thrown 1 = .ok (.getfield 50, 3) := by decide +kernel
theorem dX5_thrown_4 : decode cX5_thrown 4 = .ok (.ireturn, 1) := by decide +kernel
theorem dX5_in_0 : decode cX5_in 0 = .ok (.iload_n 0, 1) := by decide +kernel
theorem dX5_in_1 : decode cX5_in 1 = .ok (.iload_n 1, 1) := by decide +kernel
theorem dX5_in_2 : decode cX5_in 2 = .ok (.if_icmp .lt 12, 3) := by decide +kernel
theorem dX5_in_5 : decode cX5_in 5 = .ok (.iload_n 0, 1) := by decide +kernel
theorem dX5_in_6 : decode cX5_in 6 = .ok (.iload_n 2, 1) := by decide +kernel
theorem dX5_in_7 : decode cX5_in 7 = .ok (.if_icmp .gt 7, 3) := by decide +kernel
theorem dX5_in_10 : decode cX5_in 10 = .ok (.iconst 1, 1) := by decide +kernel
theorem dX5_in_11 : decode cX5_in 11 = .ok (.goto 4, 3) := by decide +kernel
theorem dX5_in_14 : decode cX5_in 14 = .ok (.iconst 0, 1) := by decide +kernel
theorem dX5_in_15 : decode cX5_in 15 = .ok (.ireturn, 1) := by decide +kernel
theorem dX5_holds_0 : decode cX5_holds 0 = .ok (.aload_n 0, 1) := by decide +kernel
theorem dX5_holds_1 : decode cX5_holds 1 = .ok (.iload_n 1, 1) := by decide +kernel
theorem dX5_holds_2 : decode cX5_holds 2 = .ok (.putfield 50, 3) := by decide +kernel
theorem dX5_holds_5 : decode cX5_holds 5 = .ok (.iload_n 1, 1) := by decide +kernel
theorem dX5_holds_6 : decode cX5_holds 6 = .ok (.ifCond .ne 7, 3) := by decide +kernel
theorem dX5_holds_9 : decode cX5_holds 9 = .ok (.iconst 1, 1) := by decide +kernel
theorem dX5_holds_10 : decode cX5_holds 10 = .ok (.goto 4, 3) := by decide +kernel
theorem dX5_holds_13 : decode cX5_holds 13 = .ok (.iconst 0, 1) := by decide +kernel
theorem dX5_holds_14 : decode cX5_holds 14 = .ok (.ireturn, 1) := by decide +kernel
set_option maxRecDepth 20000 in
theorem ggX5_isSeat_X5_in : GoodIn wsX5_isSeat wsX5_in := goodIn_r _ [4] (by decide +kernel) (by decide +kernel)
set_option maxRecDepth 20000 in
theorem gX5_isSeat_X5_in : GoodIn wsX5_isSeat (va_wsS RX5 54 yX5_in wsX5_in) := goodIn_app (goodIn_of _ (by decide +kernel)) ggX5_isSeat_X5_in
theorem dX5_isSeat_0 : decode cX5_isSeat 0 = .ok (.iload_n 0, 1) := by decide +kernel
theorem dX5_isSeat_1 : decode cX5_isSeat 1 = .ok (.iconst 0, 1) := by decide +kernel
theorem dX5_isSeat_2 : decode cX5_isSeat 2 = .ok (.iconst 2, 1) := by decide +kernel
theorem dX5_isSeat_3 : decode cX5_isSeat 3 = .ok (.invokestatic 54, 3) := by decide +kernel
theorem dX5_isSeat_6 : decode cX5_isSeat 6 = .ok (.ireturn, 1) := by decide +kernel
set_option maxRecDepth 20000 in
theorem ggX5_isField_X5_in : GoodIn wsX5_isField wsX5_in := goodIn_r _ [4] (by decide +kernel) (by decide +kernel)
set_option maxRecDepth 20000 in
theorem gX5_isField_X5_in : GoodIn wsX5_isField (va_wsS RX5 54 yX5_in wsX5_in) := goodIn_app (goodIn_of _ (by decide +kernel)) ggX5_isField_X5_in
theorem dX5_isField_0 : decode cX5_isField 0 = .ok (.iload_n 0, 1) := by decide +kernel
theorem dX5_isField_1 : decode cX5_isField 1 = .ok (.iconst 0, 1) := by decide +kernel
theorem dX5_isField_2 : decode cX5_isField 2 = .ok (.bipush 11, 2) := by decide +kernel
theorem dX5_isField_4 : decode cX5_isField 4 = .ok (.invokestatic 54, 3) := by decide +kernel
theorem dX5_isField_7 : decode cX5_isField 7 = .ok (.ireturn, 1) := by decide +kernel
set_option maxRecDepth 20000 in
theorem ggX5_isArmy_X5_in : GoodIn wsX5_isArmy wsX5_in := goodIn_r _ [5] (by decide +kernel) (by decide +kernel)
set_option maxRecDepth 20000 in
theorem gX5_isArmy_X5_in : GoodIn wsX5_isArmy (va_wsS RX5 54 yX5_in wsX5_in) := goodIn_app (goodIn_of _ (by decide +kernel)) ggX5_isArmy_X5_in
theorem dX5_isArmy_0 : decode cX5_isArmy 0 = .ok (.iload_n 1, 1) := by decide +kernel
theorem dX5_isArmy_1 : decode cX5_isArmy 1 = .ok (.iconst 0, 1) := by decide +kernel
theorem dX5_isArmy_2 : decode cX5_isArmy 2 = .ok (.aload_n 0, 1) := by decide +kernel
theorem dX5_isArmy_3 : decode cX5_isArmy 3 = .ok (.getfield 7, 3) := by decide +kernel
theorem dX5_isArmy_6 : decode cX5_isArmy 6 = .ok (.bipush 9, 2) := by decide +kernel
theorem dX5_isArmy_8 : decode cX5_isArmy 8 = .ok (.iaload, 1) := by decide +kernel
theorem dX5_isArmy_9 : decode cX5_isArmy 9 = .ok (.iconst 1, 1) := by decide +kernel
theorem dX5_isArmy_10 : decode cX5_isArmy 10 = .ok (.isub, 1) := by decide +kernel
theorem dX5_isArmy_11 : decode cX5_isArmy 11 = .ok (.invokestatic 54, 3) := by decide +kernel
theorem dX5_isArmy_14 : decode cX5_isArmy 14 = .ok (.ireturn, 1) := by decide +kernel
theorem dX5_at_0 : decode cX5_at 0 = .ok (.bipush 14, 2) := by decide +kernel
theorem dX5_at_2 : decode cX5_at 2 = .ok (.bipush 7, 2) := by decide +kernel
theorem dX5_at_4 : decode cX5_at 4 = .ok (.iload_n 0, 1) := by decide +kernel
theorem dX5_at_5 : decode cX5_at 5 = .ok (.imul, 1) := by decide +kernel
theorem dX5_at_6 : decode cX5_at 6 = .ok (.iadd, 1) := by decide +kernel
theorem dX5_at_7 : decode cX5_at 7 = .ok (.iload_n 1, 1) := by decide +kernel
theorem dX5_at_8 : decode cX5_at 8 = .ok (.iadd, 1) := by decide +kernel
theorem dX5_at_9 : decode cX5_at 9 = .ok (.ireturn, 1) := by decide +kernel
set_option maxRecDepth 20000 in
theorem ggX5_of_X5_at : GoodIn wsX5_of wsX5_at := goodIn_r _ [5] (by decide +kernel) (by decide +kernel)
set_option maxRecDepth 20000 in
theorem gX5_of_X5_at : GoodIn wsX5_of (va_wsS RX5 58 yX5_at wsX5_at) := goodIn_app (goodIn_of _ (by decide +kernel)) ggX5_of_X5_at
theorem dX5_of_0 : decode cX5_of 0 = .ok (.aload_n 0, 1) := by decide +kernel
theorem dX5_of_1 : decode cX5_of 1 = .ok (.getfield 7, 3) := by decide +kernel
theorem dX5_of_4 : decode cX5_of 4 = .ok (.iload_n 1, 1) := by decide +kernel
theorem dX5_of_5 : decode cX5_of 5 = .ok (.iload_n 2, 1) := by decide +kernel
theorem dX5_of_6 : decode cX5_of 6 = .ok (.invokestatic 58, 3) := by decide +kernel
theorem dX5_of_9 : decode cX5_of 9 = .ok (.iaload, 1) := by decide +kernel
theorem dX5_of_10 : decode cX5_of 10 = .ok (.ireturn, 1) := by decide +kernel
theorem dX5_areNeighbours_0 : decode cX5_areNeighbours 0 = .ok (.iload_n 0, 1) := by decide +kernel
theorem dX5_areNeighbours_1 : decode cX5_areNeighbours 1 = .ok (.iload_n 1, 1) := by decide +kernel
theorem dX5_areNeighbours_2 : decode cX5_areNeighbours 2 = .ok (.if_icmp .le 9, 3) := by decide +kernel
theorem dX5_areNeighbours_5 : decode cX5_areNeighbours 5 = .ok (.iload_n 0, 1) := by decide +kernel
theorem dX5_areNeighbours_6 : decode cX5_areNeighbours 6 = .ok (.iload_n 1, 1) := by decide +kernel
theorem dX5_areNeighbours_7 : decode cX5_areNeighbours 7 = .ok (.isub, 1) := by decide +kernel
theorem dX5_areNeighbours_8 : decode cX5_areNeighbours 8 = .ok (.goto 6, 3) := by decide +kernel
theorem dX5_areNeighbours_11 : decode cX5_areNeighbours 11 = .ok (.iload_n 1, 1) := by decide +kernel
theorem dX5_areNeighbours_12 : decode cX5_areNeighbours 12 = .ok (.iload_n 0, 1) := by decide +kernel
theorem dX5_areNeighbours_13 : decode cX5_areNeighbours 13 = .ok (.isub, 1) := by decide +kernel
theorem dX5_areNeighbours_14 : decode cX5_areNeighbours 14 = .ok (.istore_n 2, 1) := by decide +kernel
theorem dX5_areNeighbours_15 : decode cX5_areNeighbours 15 = .ok (.iload_n 2, 1) := by decide +kernel
theorem dX5_areNeighbours_16 : decode cX5_areNeighbours 16 = .ok (.iconst 1, 1) := by decide +kernel
theorem dX5_areNeighbours_17 : decode cX5_areNeighbours 17 = .ok (.if_icmp .eq 20, 3) := by decide +kernel
theorem dX5_areNeighbours_20 : decode cX5_areNeighbours 20 = .ok (.iload_n 2, 1) := by decide +kernel
theorem dX5_areNeighbours_21 : decode cX5_areNeighbours 21 = .ok (.iconst 4, 1) := by decide +kernel
theorem dX5_areNeighbours_22 : decode cX5_areNeighbours 22 = .ok (.if_icmp .eq 15, 3) := by decide +kernel
theorem dX5_areNeighbours_25 : decode cX5_areNeighbours 25 = .ok (.iload_n 2, 1) := by decide +kernel
theorem dX5_areNeighbours_26 : decode cX5_areNeighbours 26 = .ok (.bipush 8, 2) := by decide +kernel
theorem dX5_areNeighbours_28 : decode cX5_areNeighbours 28 = .ok (.if_icmp .eq 9, 3) := by decide +kernel
theorem dX5_areNeighbours_31 : decode cX5_areNeighbours 31 = .ok (.iload_n 2, 1) := by decide +kernel
theorem dX5_areNeighbours_32 : decode cX5_areNeighbours 32 = .ok (.bipush 11, 2) := by decide +kernel
theorem dX5_areNeighbours_34 : decode cX5_areNeighbours 34 = .ok (.if_icmp .ne 7, 3) := by decide +kernel
theorem dX5_areNeighbours_37 : decode cX5_areNeighbours 37 = .ok (.iconst 1, 1) := by decide +kernel
theorem dX5_areNeighbours_38 : decode cX5_areNeighbours 38 = .ok (.goto 4, 3) := by decide +kernel
theorem dX5_areNeighbours_41 : decode cX5_areNeighbours 41 = .ok (.iconst 0, 1) := by decide +kernel
theorem dX5_areNeighbours_42 : decode cX5_areNeighbours 42 = .ok (.ireturn, 1) := by decide +kernel
theorem dX5_save_0 : decode cX5_save 0 = .ok (.aload_n 0, 1) := by decide +kernel
theorem dX5_save_1 : decode cX5_save 1 = .ok (.getfield 62, 3) := by decide +kernel
theorem dX5_save_4 : decode cX5_save 4 = .ok (.bipush 6, 2) := by decide +kernel
theorem dX5_save_6 : decode cX5_save 6 = .ok (.if_icmp .ne 43, 3) := by decide +kernel
theorem dX5_save_9 : decode cX5_save 9 = .ok (.iconst 0, 1) := by decide +kernel
theorem dX5_save_10 : decode cX5_save 10 = .ok (.istore_n 1, 1) := by decide +kernel
theorem dX5_save_11 : decode cX5_save 11 = .ok (.iload_n 1, 1) := by decide +kernel
theorem dX5_save_12 : decode cX5_save 12 = .ok (.sipush 385, 3) := by decide +kernel
theorem dX5_save_15 : decode cX5_save 15 = .ok (.if_icmp .ge 24, 3) := by decide +kernel
theorem dX5_save_18 : decode cX5_save 18 = .ok (.aload_n 0, 1) := by decide +kernel
theorem dX5_save_19 : decode cX5_save 19 = .ok (.getfield 19, 3) := by decide +kernel
theorem dX5_save_22 : decode cX5_save 22 = .ok (.iload_n 1, 1) := by decide +kernel
theorem dX5_save_23 : decode cX5_save 23 = .ok (.aload_n 0, 1) := by decide +kernel
theorem dX5_save_24 : decode cX5_save 24 = .ok (.getfield 19, 3) := by decide +kernel
theorem dX5_save_27 : decode cX5_save 27 = .ok (.bipush 77, 2) := by decide +kernel
theorem dX5_save_29 : decode cX5_save 29 = .ok (.iload_n 1, 1) := by decide +kernel
theorem dX5_save_30 : decode cX5_save 30 = .ok (.iadd, 1) := by decide +kernel
theorem dX5_save_31 : decode cX5_save 31 = .ok (.iaload, 1) := by decide +kernel
theorem dX5_save_32 : decode cX5_save 32 = .ok (.iastore, 1) := by decide +kernel
theorem dX5_save_33 : decode cX5_save 33 = .ok (.iinc 1 1, 3) := by decide +kernel
theorem dX5_save_36 : decode cX5_save 36 = .ok (.goto (-25), 3) := by decide +kernel
theorem dX5_save_39 : decode cX5_save 39 = .ok (.aload_n 0, 1) := by decide +kernel
theorem dX5_save_40 : decode cX5_save 40 = .ok (.dup, 1) := by decide +kernel
theorem dX5_save_41 : decode cX5_save 41 = .ok (.getfield 62, 3) := by decide +kernel
theorem dX5_save_44 : decode cX5_save 44 = .ok (.iconst 1, 1) := by decide +kernel
theorem dX5_save_45 : decode cX5_save 45 = .ok (.isub, 1) := by decide +kernel
theorem dX5_save_46 : decode cX5_save 46 = .ok (.putfield 62, 3) := by decide +kernel
theorem dX5_save_49 : decode cX5_save 49 = .ok (.iconst 0, 1) := by decide +kernel
theorem dX5_save_50 : decode cX5_save 50 = .ok (.istore_n 1, 1) := by decide +kernel
theorem dX5_save_51 : decode cX5_save 51 = .ok (.iload_n 1, 1) := by decide +kernel
theorem dX5_save_52 : decode cX5_save 52 = .ok (.bipush 77, 2) := by decide +kernel
theorem dX5_save_54 : decode cX5_save 54 = .ok (.if_icmp .ge 29, 3) := by decide +kernel
theorem dX5_save_57 : decode cX5_save 57 = .ok (.aload_n 0, 1) := by decide +kernel
theorem dX5_save_58 : decode cX5_save 58 = .ok (.getfield 19, 3) := by decide +kernel
theorem dX5_save_61 : decode cX5_save 61 = .ok (.bipush 77, 2) := by decide +kernel
theorem dX5_save_63 : decode cX5_save 63 = .ok (.aload_n 0, 1) := by decide +kernel
theorem dX5_save_64 : decode cX5_save 64 = .ok (.getfield 62, 3) := by decide +kernel
theorem dX5_save_67 : decode cX5_save 67 = .ok (.imul, 1) := by decide +kernel
theorem dX5_save_68 : decode cX5_save 68 = .ok (.iload_n 1, 1) := by decide +kernel
theorem dX5_save_69 : decode cX5_save 69 = .ok (.iadd, 1) := by decide +kernel
theorem dX5_save_70 : decode cX5_save 70 = .ok (.aload_n 0, 1) := by decide +kernel
theorem dX5_save_71 : decode cX5_save 71 = .ok (.getfield 7, 3) := by decide +kernel
theorem dX5_save_74 : decode cX5_save 74 = .ok (.iload_n 1, 1) := by decide +kernel
theorem dX5_save_75 : decode cX5_save 75 = .ok (.iaload, 1) := by decide +kernel
theorem dX5_save_76 : decode cX5_save 76 = .ok (.iastore, 1) := by decide +kernel
theorem dX5_save_77 : decode cX5_save 77 = .ok (.iinc 1 1, 3) := by decide +kernel
theorem dX5_save_80 : decode cX5_save 80 = .ok (.goto (-29), 3) := by decide +kernel
theorem dX5_save_83 : decode cX5_save 83 = .ok (.aload_n 0, 1) := by decide +kernel
theorem dX5_save_84 : decode cX5_save 84 = .ok (.dup, 1) := by decide +kernel
theorem dX5_save_85 : decode cX5_save 85 = .ok (.getfield 62, 3) := by decide +kernel
theorem dX5_save_88 : decode cX5_save 88 = .ok (.iconst 1, 1) := by decide +kernel
theorem dX5_save_89 : decode cX5_save 89 = .ok (.iadd, 1) := by decide +kernel
theorem dX5_save_90 : decode cX5_save 90 = .ok (.putfield 62, 3) := by decide +kernel
theorem dX5_save_93 : decode cX5_save 93 = .ok (.return_, 1) := by decide +kernel
theorem dX5_putAside_0 : decode cX5_putAside 0 = .ok (.iconst 0, 1) := by decide +kernel
theorem dX5_putAside_1 : decode cX5_putAside 1 = .ok (.istore_n 1, 1) := by decide +kernel
theorem dX5_putAside_2 : decode cX5_putAside 2 = .ok (.iload_n 1, 1) := by decide +kernel
theorem dX5_putAside_3 : decode cX5_putAside 3 = .ok (.bipush 77, 2) := by decide +kernel
theorem dX5_putAside_5 : decode cX5_putAside 5 = .ok (.if_icmp .ge 21, 3) := by decide +kernel
theorem dX5_putAside_8 : decode cX5_putAside 8 = .ok (.aload_n 0, 1) := by decide +kernel
theorem dX5_putAside_9 : decode cX5_putAside 9 = .ok (.getfield 13, 3) := by decide +kernel
theorem dX5_putAside_12 : decode cX5_putAside 12 = .ok (.iload_n 1, 1) := by decide +kernel
theorem dX5_putAside_13 : decode cX5_putAside 13 = .ok (.aload_n 0, 1) := by decide +kernel
theorem dX5_putAside_14 : decode cX5_putAside 14 = .ok (.getfield 7, 3) := by decide +kernel
theorem dX5_putAside_17 : decode cX5_putAside 17 = .ok (.iload_n 1, 1) := by decide +kernel
theorem dX5_putAside_18 : decode cX5_putAside 18 = .ok (.iaload, 1) := by decide +kernel
theorem dX5_putAside_19 : decode cX5_putAside 19 = .ok (.iastore, 1) := by decide +kernel
theorem dX5_putAside_20 : decode cX5_putAside 20 = .ok (.iinc 1 1, 3) := by decide +kernel
theorem dX5_putAside_23 : decode cX5_putAside 23 = .ok (.goto (-21), 3) := by decide +kernel
theorem dX5_putAside_26 : decode cX5_putAside 26 = .ok (.return_, 1) := by decide +kernel
theorem dX5_putBack_0 : decode cX5_putBack 0 = .ok (.iconst 0, 1) := by decide +kernel
theorem dX5_putBack_1 : decode cX5_putBack 1 = .ok (.istore_n 1, 1) := by decide +kernel
theorem dX5_putBack_2 : decode cX5_putBack 2 = .ok (.iload_n 1, 1) := by decide +kernel
theorem dX5_putBack_3 : decode cX5_putBack 3 = .ok (.bipush 77, 2) := by decide +kernel
theorem dX5_putBack_5 : decode cX5_putBack 5 = .ok (.if_icmp .ge 21, 3) := by decide +kernel
theorem dX5_putBack_8 : decode cX5_putBack 8 = .ok (.aload_n 0, 1) := by decide +kernel
theorem dX5_putBack_9 : decode cX5_putBack 9 = .ok (.getfield 7, 3) := by decide +kernel
theorem dX5_putBack_12 : decode cX5_putBack 12 = .ok (.iload_n 1, 1) := by decide +kernel
theorem dX5_putBack_13 : decode cX5_putBack 13 = .ok (.aload_n 0, 1) := by decide +kernel
theorem dX5_putBack_14 : decode cX5_putBack 14 = .ok (.getfield 13, 3) := by decide +kernel
theorem dX5_putBack_17 : decode cX5_putBack 17 = .ok (.iload_n 1, 1) := by decide +kernel
theorem dX5_putBack_18 : decode cX5_putBack 18 = .ok (.iaload, 1) := by decide +kernel
theorem dX5_putBack_19 : decode cX5_putBack 19 = .ok (.iastore, 1) := by decide +kernel
theorem dX5_putBack_20 : decode cX5_putBack 20 = .ok (.iinc 1 1, 3) := by decide +kernel
theorem dX5_putBack_23 : decode cX5_putBack 23 = .ok (.goto (-21), 3) := by decide +kernel
theorem dX5_putBack_26 : decode cX5_putBack 26 = .ok (.return_, 1) := by decide +kernel
set_option maxRecDepth 20000 in
theorem ggX5_armyOn_X5_of : GoodIn wsX5_armyOn wsX5_of := goodIn_r _ [6, 1, 7, 8, 5, 9, 10, 11, 12, 13, 14, 15, 16, 17, 18, 19, 20, 21, 22, 23, 24, 25, 26, 27, 28, 29] (by decide +kernel) (by decide +kernel)
set_option maxRecDepth 20000 in
theorem gX5_armyOn_X5_of : GoodIn wsX5_armyOn (wsV RX5 65 RX5 yX5_of wsX5_of) := goodIn_app (goodIn_of _ (by decide +kernel)) ggX5_armyOn_X5_of
theorem dX5_armyOn_0 : decode cX5_armyOn 0 = .ok (.iconst (-1), 1) := by decide +kernel
theorem dX5_armyOn_1 : decode cX5_armyOn 1 = .ok (.istore_n 2, 1) := by decide +kernel
theorem dX5_armyOn_2 : decode cX5_armyOn 2 = .ok (.iconst 0, 1) := by decide +kernel
theorem dX5_armyOn_3 : decode cX5_armyOn 3 = .ok (.istore_n 3, 1) := by decide +kernel
theorem dX5_armyOn_4 : decode cX5_armyOn 4 = .ok (.iload_n 3, 1) := by decide +kernel
theorem dX5_armyOn_5 : decode cX5_armyOn 5 = .ok (.aload_n 0, 1) := by decide +kernel
theorem dX5_armyOn_6 : decode cX5_armyOn 6 = .ok (.getfield 7, 3) := by decide +kernel
theorem dX5_armyOn_9 : decode cX5_armyOn 9 = .ok (.bipush 9, 2) := by decide +kernel
theorem dX5_armyOn_11 : decode cX5_armyOn 11 = .ok (.iaload, 1) := by decide +kernel
theorem dX5_armyOn_12 : decode cX5_armyOn 12 = .ok (.if_icmp .ge 25, 3) := by decide +kernel
theorem dX5_armyOn_15 : decode cX5_armyOn 15 = .ok (.aload_n 0, 1) := by decide +kernel
theorem dX5_armyOn_16 : decode cX5_armyOn 16 = .ok (.iload_n 3, 1) := by decide +kernel
theorem dX5_armyOn_17 : decode cX5_armyOn 17 = .ok (.iconst 1, 1) := by decide +kernel
theorem dX5_armyOn_18 : decode cX5_armyOn 18 = .ok (.invokevirtual 65, 3) := by decide +kernel
theorem dX5_armyOn_21 : decode cX5_armyOn 21 = .ok (.iload_n 1, 1) := by decide +kernel
theorem dX5_armyOn_22 : decode cX5_armyOn 22 = .ok (.if_icmp .ne 7, 3) := by decide +kernel
theorem dX5_armyOn_25 : decode cX5_armyOn 25 = .ok (.iload_n 3, 1) := by decide +kernel
theorem dX5_armyOn_26 : decode cX5_armyOn 26 = .ok (.goto 4, 3) := by decide +kernel
theorem dX5_armyOn_29 : decode cX5_armyOn 29 = .ok (.iload_n 2, 1) := by decide +kernel
theorem dX5_armyOn_30 : decode cX5_armyOn 30 = .ok (.istore_n 2, 1) := by decide +kernel
theorem dX5_armyOn_31 : decode cX5_armyOn 31 = .ok (.iinc 3 1, 3) := by decide +kernel
theorem dX5_armyOn_34 : decode cX5_armyOn 34 = .ok (.goto (-30), 3) := by decide +kernel
theorem dX5_armyOn_37 : decode cX5_armyOn 37 = .ok (.iload_n 2, 1) := by decide +kernel
theorem dX5_armyOn_38 : decode cX5_armyOn 38 = .ok (.ireturn, 1) := by decide +kernel
set_option maxRecDepth 20000 in
theorem ggX5_moves_X5_of : GoodIn wsX5_moves wsX5_of := goodIn_r _ [5, 6, 7, 8, 4, 9, 10, 11, 12, 13, 14, 15, 16, 17, 18, 19, 20, 21, 22, 23, 24, 25, 26, 27, 28, 29] (by decide +kernel) (by decide +kernel)
set_option maxRecDepth 20000 in
theorem gX5_moves_X5_of : GoodIn wsX5_moves (wsV RX5 65 RX5 yX5_of wsX5_of) := goodIn_app (goodIn_of _ (by decide +kernel)) ggX5_moves_X5_of
theorem dX5_moves_0 : decode cX5_moves 0 = .ok (.aload_n 0, 1) := by decide +kernel
theorem dX5_moves_1 : decode cX5_moves 1 = .ok (.iload_n 1, 1) := by decide +kernel
theorem dX5_moves_2 : decode cX5_moves 2 = .ok (.iconst 2, 1) := by decide +kernel
theorem dX5_moves_3 : decode cX5_moves 3 = .ok (.invokevirtual 65, 3) := by decide +kernel
theorem dX5_moves_6 : decode cX5_moves 6 = .ok (.iconst 1, 1) := by decide +kernel
theorem dX5_moves_7 : decode cX5_moves 7 = .ok (.if_icmp .ne 7, 3) := by decide +kernel
theorem dX5_moves_10 : decode cX5_moves 10 = .ok (.iconst 1, 1) := by decide +kernel
theorem dX5_moves_11 : decode cX5_moves 11 = .ok (.goto 4, 3) := by decide +kernel
theorem dX5_moves_14 : decode cX5_moves 14 = .ok (.iconst 0, 1) := by decide +kernel
theorem dX5_moves_15 : decode cX5_moves 15 = .ok (.ireturn, 1) := by decide +kernel
set_option maxRecDepth 20000 in
theorem ggX5_movesTo_X5_moves : GoodIn wsX5_movesTo wsX5_moves := goodIn_r _ [5, 6, 7, 8, 4, 9, 10, 11, 12, 13, 14, 15, 16, 17, 18, 19, 20, 21, 22, 23, 24, 25, 26, 27, 28, 29, 30, 31, 32, 33] (by decide +kernel) (by decide +kernel)
set_option maxRecDepth 20000 in
theorem gX5_movesTo_X5_moves : GoodIn wsX5_movesTo (wsV RX5 68 RX5 yX5_moves wsX5_moves) := goodIn_app (goodIn_of _ (by decide +kernel)) ggX5_movesTo_X5_moves
set_option maxRecDepth 20000 in
theorem ggX5_movesTo_X5_of : GoodIn wsX5_movesTo wsX5_of := goodIn_r _ [9, 10, 11, 12, 4, 13, 14, 15, 16, 17, 18, 19, 20, 21, 22, 23, 24, 25, 26, 27, 28, 29, 30, 31, 32, 33] (by decide +kernel) (by decide +kernel)
set_option maxRecDepth 20000 in
theorem gX5_movesTo_X5_of : GoodIn wsX5_movesTo (wsV RX5 65 RX5 yX5_of wsX5_of) := goodIn_app (goodIn_of _ (by decide +kernel)) ggX5_movesTo_X5_of
theorem dX5_movesTo_0 : decode cX5_movesTo 0 = .ok (.aload_n 0, 1) := by decide +kernel
theorem dX5_movesTo_1 : decode cX5_movesTo 1 = .ok (.iload_n 1, 1) := by decide +kernel
theorem dX5_movesTo_2 : decode cX5_movesTo 2 = .ok (.invokevirtual 68, 3) := by decide +kernel
theorem dX5_movesTo_5 : decode cX5_movesTo 5 = .ok (.ifCond .eq 17, 3) := by decide +kernel
theorem dX5_movesTo_8 : decode cX5_movesTo 8 = .ok (.aload_n 0, 1) := by decide +kernel
theorem dX5_movesTo_9 : decode cX5_movesTo 9 = .ok (.iload_n 1, 1) := by decide +kernel
theorem dX5_movesTo_10 : decode cX5_movesTo 10 = .ok (.iconst 3, 1) := by decide +kernel
theorem dX5_movesTo_11 : decode cX5_movesTo 11 = .ok (.invokevirtual 65, 3) := by decide +kernel
theorem dX5_movesTo_14 : decode cX5_movesTo 14 = .ok (.iload_n 2, 1) := by decide +kernel
theorem dX5_movesTo_15 : decode cX5_movesTo 15 = .ok (.if_icmp .ne 7, 3) := by decide +kernel
theorem dX5_movesTo_18 : decode cX5_movesTo 18 = .ok (.iconst 1, 1) := by decide +kernel
theorem dX5_movesTo_19 : decode cX5_movesTo 19 = .ok (.goto 4, 3) := by decide +kernel
theorem dX5_movesTo_22 : decode cX5_movesTo 22 = .ok (.iconst 0, 1) := by decide +kernel
theorem dX5_movesTo_23 : decode cX5_movesTo 23 = .ok (.ireturn, 1) := by decide +kernel
set_option maxRecDepth 20000 in
theorem ggX5_hasObject_X5_of : GoodIn wsX5_hasObject wsX5_of := goodIn_r _ [5, 6, 7, 8, 4, 9, 22, 23, 24, 25, 26, 27, 28, 29, 30, 31, 32, 33, 34, 35, 36, 37, 38, 39, 40, 41] (by decide +kernel) (by decide +kernel)
set_option maxRecDepth 20000 in
theorem gX5_hasObject_X5_of : GoodIn wsX5_hasObject (wsV RX5 65 RX5 yX5_of wsX5_of) := goodIn_app (goodIn_of _ (by decide +kernel)) ggX5_hasObject_X5_of
set_option maxRecDepth 20000 in
theorem ggX5_hasObject_X5_armyOn : GoodIn wsX5_hasObject wsX5_armyOn := goodIn_r _ [13, 6, 1, 2, 3, 4, 5, 7, 8, 9, 22, 23, 24, 25, 26, 27, 28, 29, 30, 31, 32, 33, 34, 35, 36, 37, 38, 39, 40, 41] (by decide +kernel) (by decide +kernel)
set_option maxRecDepth 20000 in
theorem gX5_hasObject_X5_armyOn : GoodIn wsX5_hasObject (wsV RX5 72 RX5 yX5_armyOn wsX5_armyOn) := goodIn_app (goodIn_of _ (by decide +kernel)) ggX5_hasObject_X5_armyOn
set_option maxRecDepth 20000 in
theorem ggX5_hasObject_X5_moves : GoodIn wsX5_hasObject wsX5_moves := goodIn_r _ [17, 1, 2, 3, 4, 5, 6, 7, 8, 9, 22, 23, 24, 25, 26, 27, 28, 29, 30, 31, 32, 33, 34, 35, 36, 37, 38, 39, 40, 41] (by decide +kernel) (by decide +kernel)
set_option maxRecDepth 20000 in
theorem gX5_hasObject_X5_moves : GoodIn wsX5_hasObject (wsV RX5 68 RX5 yX5_moves wsX5_moves) := goodIn_app (goodIn_of _ (by decide +kernel)) ggX5_hasObject_X5_moves
set_option maxRecDepth 20000 in
theorem ggX5_hasObject_X5_movesTo : GoodIn wsX5_hasObject wsX5_movesTo := goodIn_r _ [21, 14, 15, 16, 4, 17, 1, 2, 3, 5, 6, 7, 8, 9, 22, 23, 24, 25, 26, 27, 28, 29, 30, 31, 32, 33, 34, 35, 36, 37, 38, 39, 40, 41] (by decide +kernel) (by decide +kernel)
set_option maxRecDepth 20000 in
theorem gX5_hasObject_X5_movesTo : GoodIn wsX5_hasObject (wsV RX5 76 RX5 yX5_movesTo wsX5_movesTo) := goodIn_app (goodIn_of _ (by decide +kernel)) ggX5_hasObject_X5_movesTo
theorem dX5_hasObject_0 : decode cX5_hasObject 0 = .ok (.aload_n 0, 1) := by decide +kernel
theorem dX5_hasObject_1 : decode cX5_hasObject 1 = .ok (.aload_n 0, 1) := by decide +kernel
theorem dX5_hasObject_2 : decode cX5_hasObject 2 = .ok (.iload_n 1, 1) := by decide +kernel
theorem dX5_hasObject_3 : decode cX5_hasObject 3 = .ok (.iconst 4, 1) := by decide +kernel
theorem dX5_hasObject_4 : decode cX5_hasObject 4 = .ok (.invokevirtual 65, 3) := by decide +kernel
theorem dX5_hasObject_7 : decode cX5_hasObject 7 = .ok (.invokevirtual 72, 3) := by decide +kernel
theorem dX5_hasObject_10 : decode cX5_hasObject 10 = .ok (.istore_n 2, 1) := by decide +kernel
theorem dX5_hasObject_11 : decode cX5_hasObject 11 = .ok (.aload_n 0, 1) := by decide +kernel
theorem dX5_hasObject_12 : decode cX5_hasObject 12 = .ok (.iload_n 1, 1) := by decide +kernel
theorem dX5_hasObject_13 : decode cX5_hasObject 13 = .ok (.iconst 2, 1) := by decide +kernel
theorem dX5_hasObject_14 : decode cX5_hasObject 14 = .ok (.invokevirtual 65, 3) := by decide +kernel
theorem dX5_hasObject_17 : decode cX5_hasObject 17 = .ok (.iconst 2, 1) := by decide +kernel
theorem dX5_hasObject_18 : decode cX5_hasObject 18 = .ok (.if_icmp .ne 13, 3) := by decide +kernel
theorem dX5_hasObject_21 : decode cX5_hasObject 21 = .ok (.iload_n 2, 1) := by decide +kernel
theorem dX5_hasObject_22 : decode cX5_hasObject 22 = .ok (.iconst (-1), 1) := by decide +kernel
theorem dX5_hasObject_23 : decode cX5_hasObject 23 = .ok (.if_icmp .eq 8, 3) := by decide +kernel
theorem dX5_hasObject_26 : decode cX5_hasObject 26 = .ok (.iload_n 2, 1) := by decide +kernel
theorem dX5_hasObject_27 : decode cX5_hasObject 27 = .ok (.iload_n 1, 1) := by decide +kernel
theorem dX5_hasObject_28 : decode cX5_hasObject 28 = .ok (.if_icmp .ne 5, 3) := by decide +kernel
theorem dX5_hasObject_31 : decode cX5_hasObject 31 = .ok (.iconst 0, 1) := by decide +kernel
theorem dX5_hasObject_32 : decode cX5_hasObject 32 = .ok (.ireturn, 1) := by decide +kernel
theorem dX5_hasObject_33 : decode cX5_hasObject 33 = .ok (.aload_n 0, 1) := by decide +kernel
theorem dX5_hasObject_34 : decode cX5_hasObject 34 = .ok (.iload_n 1, 1) := by decide +kernel
theorem dX5_hasObject_35 : decode cX5_hasObject 35 = .ok (.iconst 4, 1) := by decide +kernel
theorem dX5_hasObject_36 : decode cX5_hasObject 36 = .ok (.invokevirtual 65, 3) := by decide +kernel
theorem dX5_hasObject_39 : decode cX5_hasObject 39 = .ok (.aload_n 0, 1) := by decide +kernel
theorem dX5_hasObject_40 : decode cX5_hasObject 40 = .ok (.iload_n 1, 1) := by decide +kernel
theorem dX5_hasObject_41 : decode cX5_hasObject 41 = .ok (.iconst 3, 1) := by decide +kernel
theorem dX5_hasObject_42 : decode cX5_hasObject 42 = .ok (.invokevirtual 65, 3) := by decide +kernel
theorem dX5_hasObject_45 : decode cX5_hasObject 45 = .ok (.if_icmp .ne 19, 3) := by decide +kernel
theorem dX5_hasObject_48 : decode cX5_hasObject 48 = .ok (.aload_n 0, 1) := by decide +kernel
theorem dX5_hasObject_49 : decode cX5_hasObject 49 = .ok (.iload_n 2, 1) := by decide +kernel
theorem dX5_hasObject_50 : decode cX5_hasObject 50 = .ok (.invokevirtual 68, 3) := by decide +kernel
theorem dX5_hasObject_53 : decode cX5_hasObject 53 = .ok (.ifCond .ne 7, 3) := by decide +kernel
theorem dX5_hasObject_56 : decode cX5_hasObject 56 = .ok (.iconst 1, 1) := by decide +kernel
theorem dX5_hasObject_57 : decode cX5_hasObject 57 = .ok (.goto 18, 3) := by decide +kernel
theorem dX5_hasObject_60 : decode cX5_hasObject 60 = .ok (.iconst 0, 1) := by decide +kernel
theorem dX5_hasObject_61 : decode cX5_hasObject 61 = .ok (.goto 14, 3) := by decide +kernel
theorem dX5_hasObject_64 : decode cX5_hasObject 64 = .ok (.aload_n 0, 1) := by decide +kernel
theorem dX5_hasObject_65 : decode cX5_hasObject 65 = .ok (.iload_n 2, 1) := by decide +kernel
theorem dX5_hasObject_66 : decode cX5_hasObject 66 = .ok (.aload_n 0, 1) := by decide +kernel
theorem dX5_hasObject_67 : decode cX5_hasObject 67 = .ok (.iload_n 1, 1) := by decide +kernel
theorem dX5_hasObject_68 : decode cX5_hasObject 68 = .ok (.iconst 3, 1) := by decide +kernel
theorem dX5_hasObject_69 : decode cX5_hasObject 69 = .ok (.invokevirtual 65, 3) := by decide +kernel
theorem dX5_hasObject_72 : decode cX5_hasObject 72 = .ok (.invokevirtual 76, 3) := by decide +kernel
theorem dX5_hasObject_75 : decode cX5_hasObject 75 = .ok (.ireturn, 1) := by decide +kernel
set_option maxRecDepth 20000 in
theorem ggX5_isAttacked_X5_of : GoodIn wsX5_isAttacked wsX5_of := goodIn_r _ [6, 1, 7, 8, 5, 9, 18, 19, 20, 21, 22, 23, 24, 25, 26, 27, 28, 29, 30, 31, 32, 33, 34, 35, 36, 37] (by decide +kernel) (by decide +kernel)
set_option maxRecDepth 20000 in
theorem gX5_isAttacked_X5_of : GoodIn wsX5_isAttacked (wsV RX5 65 RX5 yX5_of wsX5_of) := goodIn_app (goodIn_of _ (by decide +kernel)) ggX5_isAttacked_X5_of
set_option maxRecDepth 20000 in
theorem ggX5_isAttacked_X5_movesTo : GoodIn wsX5_isAttacked wsX5_movesTo := goodIn_r _ [13, 14, 15, 16, 5, 17, 2, 3, 4, 6, 1, 7, 8, 9, 18, 19, 20, 21, 22, 23, 24, 25, 26, 27, 28, 29, 30, 31, 32, 33, 34, 35, 36, 37] (by decide +kernel) (by decide +kernel)
set_option maxRecDepth 20000 in
theorem gX5_isAttacked_X5_movesTo : GoodIn wsX5_isAttacked (wsV RX5 76 RX5 yX5_movesTo wsX5_movesTo) := goodIn_app (goodIn_of _ (by decide +kernel)) ggX5_isAttacked_X5_movesTo
theorem dX5_isAttacked_0 : decode cX5_isAttacked 0 = .ok (.iconst 0, 1) := by decide +kernel
theorem dX5_isAttacked_1 : decode cX5_isAttacked 1 = .ok (.istore_n 2, 1) := by decide +kernel
theorem dX5_isAttacked_2 : decode cX5_isAttacked 2 = .ok (.iconst 0, 1) := by decide +kernel
theorem dX5_isAttacked_3 : decode cX5_isAttacked 3 = .ok (.istore_n 3, 1) := by decide +kernel
theorem dX5_isAttacked_4 : decode cX5_isAttacked 4 = .ok (.iload_n 3, 1) := by decide +kernel
theorem dX5_isAttacked_5 : decode cX5_isAttacked 5 = .ok (.aload_n 0, 1) := by decide +kernel
theorem dX5_isAttacked_6 : decode cX5_isAttacked 6 = .ok (.getfield 7, 3) := by decide +kernel
theorem dX5_isAttacked_9 : decode cX5_isAttacked 9 = .ok (.bipush 9, 2) := by decide +kernel
theorem dX5_isAttacked_11 : decode cX5_isAttacked 11 = .ok (.iaload, 1) := by decide +kernel
theorem dX5_isAttacked_12 : decode cX5_isAttacked 12 = .ok (.if_icmp .ge 63, 3) := by decide +kernel
theorem dX5_isAttacked_15 : decode cX5_isAttacked 15 = .ok (.iload_n 2, 1) := by decide +kernel
theorem dX5_isAttacked_16 : decode cX5_isAttacked 16 = .ok (.ifCond .ne 47, 3) := by decide +kernel
theorem dX5_isAttacked_19 : decode cX5_isAttacked 19 = .ok (.aload_n 0, 1) := by decide +kernel
theorem dX5_isAttacked_20 : decode cX5_isAttacked 20 = .ok (.iload_n 3, 1) := by decide +kernel
theorem dX5_isAttacked_21 : decode cX5_isAttacked 21 = .ok (.iconst 0, 1) := by decide +kernel
theorem dX5_isAttacked_22 : decode cX5_isAttacked 22 = .ok (.invokevirtual 65, 3) := by decide +kernel
theorem dX5_isAttacked_25 : decode cX5_isAttacked 25 = .ok (.aload_n 0, 1) := by decide +kernel
theorem dX5_isAttacked_26 : decode cX5_isAttacked 26 = .ok (.iload_n 1, 1) := by decide +kernel
theorem dX5_isAttacked_27 : decode cX5_isAttacked 27 = .ok (.iconst 0, 1) := by decide +kernel
theorem dX5_isAttacked_28 : decode cX5_isAttacked 28 = .ok (.invokevirtual 65, 3) := by decide +kernel
theorem dX5_isAttacked_31 : decode cX5_isAttacked 31 = .ok (.if_icmp .eq 36, 3) := by decide +kernel
theorem dX5_isAttacked_34 : decode cX5_isAttacked 34 = .ok (.aload_n 0, 1) := by decide +kernel
theorem dX5_isAttacked_35 : decode cX5_isAttacked 35 = .ok (.iload_n 3, 1) := by decide +kernel
theorem dX5_isAttacked_36 : decode cX5_isAttacked 36 = .ok (.aload_n 0, 1) := by decide +kernel
theorem dX5_isAttacked_37 : decode cX5_isAttacked 37 = .ok (.iload_n 1, 1) := by decide +kernel
theorem dX5_isAttacked_38 : decode cX5_isAttacked 38 = .ok (.iconst 1, 1) := by decide +kernel
theorem dX5_isAttacked_39 : decode cX5_isAttacked 39 = .ok (.invokevirtual 65, 3) := by decide +kernel
theorem dX5_isAttacked_42 : decode cX5_isAttacked 42 = .ok (.invokevirtual 76, 3) := by decide +kernel
theorem dX5_isAttacked_45 : decode cX5_isAttacked 45 = .ok (.ifCond .eq 22, 3) := by decide +kernel
theorem dX5_isAttacked_48 : decode cX5_isAttacked 48 = .ok (.aload_n 0, 1) := by decide +kernel
theorem dX5_isAttacked_49 : decode cX5_isAttacked 49 = .ok (.iload_n 3, 1) := by decide +kernel
theorem dX5_isAttacked_50 : decode cX5_isAttacked 50 = .ok (.iconst 1, 1) := by decide +kernel
theorem dX5_isAttacked_51 : decode cX5_isAttacked 51 = .ok (.invokevirtual 65, 3) := by decide +kernel
theorem dX5_isAttacked_54 : decode cX5_isAttacked 54 = .ok (.aload_n 0, 1) := by decide +kernel
theorem dX5_isAttacked_55 : decode cX5_isAttacked 55 = .ok (.iload_n 1, 1) := by decide +kernel
theorem dX5_isAttacked_56 : decode cX5_isAttacked 56 = .ok (.iconst 3, 1) := by decide +kernel
theorem dX5_isAttacked_57 : decode cX5_isAttacked 57 = .ok (.invokevirtual 65, 3) := by decide +kernel
theorem dX5_isAttacked_60 : decode cX5_isAttacked 60 = .ok (.if_icmp .eq 7, 3) := by decide +kernel
theorem dX5_isAttacked_63 : decode cX5_isAttacked 63 = .ok (.iconst 1, 1) := by decide +kernel
theorem dX5_isAttacked_64 : decode cX5_isAttacked 64 = .ok (.goto 4, 3) := by decide +kernel
theorem dX5_isAttacked_67 : decode cX5_isAttacked 67 = .ok (.iconst 0, 1) := by decide +kernel
theorem dX5_isAttacked_68 : decode cX5_isAttacked 68 = .ok (.istore_n 2, 1) := by decide +kernel
theorem dX5_isAttacked_69 : decode cX5_isAttacked 69 = .ok (.iinc 3 1, 3) := by decide +kernel
theorem dX5_isAttacked_72 : decode cX5_isAttacked 72 = .ok (.goto (-68), 3) := by decide +kernel
theorem dX5_isAttacked_75 : decode cX5_isAttacked 75 = .ok (.iload_n 2, 1) := by decide +kernel
theorem dX5_isAttacked_76 : decode cX5_isAttacked 76 = .ok (.ireturn, 1) := by decide +kernel
set_option maxRecDepth 20000 in
theorem ggX5_layStrengths_X5_of : GoodIn wsX5_layStrengths wsX5_of := goodIn_r _ [13, 1, 14, 15, 12, 16, 37, 38, 39, 40, 41, 42, 43, 44, 45, 46, 47, 48, 49, 50, 51, 52, 53, 54, 55, 56] (by decide +kernel) (by decide +kernel)
set_option maxRecDepth 20000 in
theorem gX5_layStrengths_X5_of : GoodIn wsX5_layStrengths (wsV RX5 65 RX5 yX5_of wsX5_of) := goodIn_app (goodIn_of _ (by decide +kernel)) ggX5_layStrengths_X5_of
set_option maxRecDepth 20000 in
theorem ggX5_layStrengths_X5_isAttacked : GoodIn wsX5_layStrengths wsX5_isAttacked := goodIn_r _ [20, 1, 9, 10, 11, 12, 13, 14, 15, 16, 21, 22, 23, 24, 25, 26, 27, 28, 37, 38, 39, 40, 41, 42, 43, 44, 45, 46, 47, 48, 49, 50, 51, 52, 53, 54, 55, 56] (by decide +kernel) (by decide +kernel)
set_option maxRecDepth 20000 in
theorem gX5_layStrengths_X5_isAttacked : GoodIn wsX5_layStrengths (wsV RX5 80 RX5 yX5_isAttacked wsX5_isAttacked) := goodIn_app (goodIn_of _ (by decide +kernel)) ggX5_layStrengths_X5_isAttacked
set_option maxRecDepth 20000 in
theorem ggX5_layStrengths_X5_hasObject : GoodIn wsX5_layStrengths wsX5_hasObject := goodIn_r _ [32, 9, 10, 11, 12, 13, 1, 14, 15, 16, 33, 34, 35, 36, 25, 26, 27, 28, 21, 22, 23, 24, 37, 38, 39, 40, 41, 42, 43, 44, 45, 46, 47, 48, 49, 50, 51, 52, 53, 54, 55, 56] (by decide +kernel) (by decide +kernel)
set_option maxRecDepth 20000 in
theorem gX5_layStrengths_X5_hasObject : GoodIn wsX5_layStrengths (wsV RX5 83 RX5 yX5_hasObject wsX5_hasObject) := goodIn_app (goodIn_of _ (by decide +kernel)) ggX5_layStrengths_X5_hasObject
set_option maxRecDepth 20000 in
theorem ggX5_layStrengths_X5_armyOn : GoodIn wsX5_layStrengths wsX5_armyOn := goodIn_r _ [36, 1, 9, 10, 11, 12, 13, 14, 15, 16, 37, 38, 39, 40, 41, 42, 43, 44, 45, 46, 47, 48, 49, 50, 51, 52, 53, 54, 55, 56] (by decide +kernel) (by decide +kernel)
set_option maxRecDepth 20000 in
theorem gX5_layStrengths_X5_armyOn : GoodIn wsX5_layStrengths (wsV RX5 72 RX5 yX5_armyOn wsX5_armyOn) := goodIn_app (goodIn_of _ (by decide +kernel)) ggX5_layStrengths_X5_armyOn
theorem dX5_layStrengths_0 : decode cX5_layStrengths 0 = .ok (.iconst 0, 1) := by decide +kernel
theorem dX5_layStrengths_1 : decode cX5_layStrengths 1 = .ok (.istore_n 1, 1) := by decide +kernel
theorem dX5_layStrengths_2 : decode cX5_layStrengths 2 = .ok (.iload_n 1, 1) := by decide +kernel
theorem dX5_layStrengths_3 : decode cX5_layStrengths 3 = .ok (.aload_n 0, 1) := by decide +kernel
theorem dX5_layStrengths_4 : decode cX5_layStrengths 4 = .ok (.getfield 7, 3) := by decide +kernel
theorem dX5_layStrengths_7 : decode cX5_layStrengths 7 = .ok (.bipush 9, 2) := by decide +kernel
theorem dX5_layStrengths_9 : decode cX5_layStrengths 9 = .ok (.iaload, 1) := by decide +kernel
theorem dX5_layStrengths_10 : decode cX5_layStrengths 10 = .ok (.if_icmp .ge 101, 3) := by decide +kernel
theorem dX5_layStrengths_13 : decode cX5_layStrengths 13 = .ok (.aload_n 0, 1) := by decide +kernel
theorem dX5_layStrengths_14 : decode cX5_layStrengths 14 = .ok (.getfield 29, 3) := by decide +kernel
theorem dX5_layStrengths_17 : decode cX5_layStrengths 17 = .ok (.iload_n 1, 1) := by decide +kernel
theorem dX5_layStrengths_18 : decode cX5_layStrengths 18 = .ok (.aload_n 0, 1) := by decide +kernel
theorem dX5_layStrengths_19 : decode cX5_layStrengths 19 = .ok (.iload_n 1, 1) := by decide +kernel
theorem dX5_layStrengths_20 : decode cX5_layStrengths 20 = .ok (.iconst 2, 1) := by decide +kernel
theorem dX5_layStrengths_21 : decode cX5_layStrengths 21 = .ok (.invokevirtual 65, 3) := by decide +kernel
theorem dX5_layStrengths_24 : decode cX5_layStrengths 24 = .ok (.iconst 2, 1) := by decide +kernel
theorem dX5_layStrengths_25 : decode cX5_layStrengths 25 = .ok (.if_icmp .ne 15, 3) := by decide +kernel
theorem dX5_layStrengths_28 : decode cX5_layStrengths 28 = .ok (.aload_n 0, 1) := by decide +kernel
theorem dX5_layStrengths_29 : decode cX5_layStrengths 29 = .ok (.iload_n 1, 1) := by decide +kernel
theorem dX5_layStrengths_30 : decode cX5_layStrengths 30 = .ok (.invokevirtual 80, 3) := by decide +kernel
theorem dX5_layStrengths_33 : decode cX5_layStrengths 33 = .ok (.ifCond .eq 7, 3) := by decide +kernel
theorem dX5_layStrengths_36 : decode cX5_layStrengths 36 = .ok (.iconst 1, 1) := by decide +kernel
theorem dX5_layStrengths_37 : decode cX5_layStrengths 37 = .ok (.goto 4, 3) := by decide +kernel
theorem dX5_layStrengths_40 : decode cX5_layStrengths 40 = .ok (.iconst 0, 1) := by decide +kernel
theorem dX5_layStrengths_41 : decode cX5_layStrengths 41 = .ok (.bastore, 1) := by decide +kernel
theorem dX5_layStrengths_42 : decode cX5_layStrengths 42 = .ok (.aload_n 0, 1) := by decide +kernel
theorem dX5_layStrengths_43 : decode cX5_layStrengths 43 = .ok (.getfield 25, 3) := by decide +kernel
theorem dX5_layStrengths_46 : decode cX5_layStrengths 46 = .ok (.iload_n 1, 1) := by decide +kernel
theorem dX5_layStrengths_47 : decode cX5_layStrengths 47 = .ok (.aload_n 0, 1) := by decide +kernel
theorem dX5_layStrengths_48 : decode cX5_layStrengths 48 = .ok (.iload_n 1, 1) := by decide +kernel
theorem dX5_layStrengths_49 : decode cX5_layStrengths 49 = .ok (.invokevirtual 83, 3) := by decide +kernel
theorem dX5_layStrengths_52 : decode cX5_layStrengths 52 = .ok (.ifCond .eq 16, 3) := by decide +kernel
theorem dX5_layStrengths_55 : decode cX5_layStrengths 55 = .ok (.aload_n 0, 1) := by decide +kernel
theorem dX5_layStrengths_56 : decode cX5_layStrengths 56 = .ok (.getfield 29, 3) := by decide +kernel
theorem dX5_layStrengths_59 : decode cX5_layStrengths 59 = .ok (.iload_n 1, 1) := by decide +kernel
theorem dX5_layStrengths_60 : decode cX5_layStrengths 60 = .ok (.baload, 1) := by decide +kernel
theorem dX5_layStrengths_61 : decode cX5_layStrengths 61 = .ok (.ifCond .ne 7, 3) := by decide +kernel
theorem dX5_layStrengths_64 : decode cX5_layStrengths 64 = .ok (.iconst 1, 1) := by decide +kernel
theorem dX5_layStrengths_65 : decode cX5_layStrengths 65 = .ok (.goto 4, 3) := by decide +kernel
theorem dX5_layStrengths_68 : decode cX5_layStrengths 68 = .ok (.iconst 0, 1) := by decide +kernel
theorem dX5_layStrengths_69 : decode cX5_layStrengths 69 = .ok (.bastore, 1) := by decide +kernel
theorem dX5_layStrengths_70 : decode cX5_layStrengths 70 = .ok (.aload_n 0, 1) := by decide +kernel
theorem dX5_layStrengths_71 : decode cX5_layStrengths 71 = .ok (.getfield 32, 3) := by decide +kernel
theorem dX5_layStrengths_74 : decode cX5_layStrengths 74 = .ok (.iload_n 1, 1) := by decide +kernel
theorem dX5_layStrengths_75 : decode cX5_layStrengths 75 = .ok (.iconst 1, 1) := by decide +kernel
theorem dX5_layStrengths_76 : decode cX5_layStrengths 76 = .ok (.iastore, 1) := by decide +kernel
theorem dX5_layStrengths_77 : decode cX5_layStrengths 77 = .ok (.aload_n 0, 1) := by decide +kernel
theorem dX5_layStrengths_78 : decode cX5_layStrengths 78 = .ok (.getfield 35, 3) := by decide +kernel
theorem dX5_layStrengths_81 : decode cX5_layStrengths 81 = .ok (.iload_n 1, 1) := by decide +kernel
theorem dX5_layStrengths_82 : decode cX5_layStrengths 82 = .ok (.iconst 0, 1) := by decide +kernel
theorem dX5_layStrengths_83 : decode cX5_layStrengths 83 = .ok (.bastore, 1) := by decide +kernel
theorem dX5_layStrengths_84 : decode cX5_layStrengths 84 = .ok (.aload_n 0, 1) := by decide +kernel
theorem dX5_layStrengths_85 : decode cX5_layStrengths 85 = .ok (.getfield 41, 3) := by decide +kernel
theorem dX5_layStrengths_88 : decode cX5_layStrengths 88 = .ok (.iload_n 1, 1) := by decide +kernel
theorem dX5_layStrengths_89 : decode cX5_layStrengths 89 = .ok (.iconst (-1), 1) := by decide +kernel
theorem dX5_layStrengths_90 : decode cX5_layStrengths 90 = .ok (.iastore, 1) := by decide +kernel
theorem dX5_layStrengths_91 : decode cX5_layStrengths 91 = .ok (.aload_n 0, 1) := by decide +kernel
theorem dX5_layStrengths_92 : decode cX5_layStrengths 92 = .ok (.getfield 38, 3) := by decide +kernel
theorem dX5_layStrengths_95 : decode cX5_layStrengths 95 = .ok (.iload_n 1, 1) := by decide +kernel
theorem dX5_layStrengths_96 : decode cX5_layStrengths 96 = .ok (.iconst 0, 1) := by decide +kernel
theorem dX5_layStrengths_97 : decode cX5_layStrengths 97 = .ok (.iastore, 1) := by decide +kernel
theorem dX5_layStrengths_98 : decode cX5_layStrengths 98 = .ok (.aload_n 0, 1) := by decide +kernel
theorem dX5_layStrengths_99 : decode cX5_layStrengths 99 = .ok (.getfield 47, 3) := by decide +kernel
theorem dX5_layStrengths_102 : decode cX5_layStrengths 102 = .ok (.iload_n 1, 1) := by decide +kernel
theorem dX5_layStrengths_103 : decode cX5_layStrengths 103 = .ok (.iconst 0, 1) := by decide +kernel
theorem dX5_layStrengths_104 : decode cX5_layStrengths 104 = .ok (.bastore, 1) := by decide +kernel
theorem dX5_layStrengths_105 : decode cX5_layStrengths 105 = .ok (.iinc 1 1, 3) := by decide +kernel
theorem dX5_layStrengths_108 : decode cX5_layStrengths 108 = .ok (.goto (-106), 3) := by decide +kernel
theorem dX5_layStrengths_111 : decode cX5_layStrengths 111 = .ok (.iconst 0, 1) := by decide +kernel
theorem dX5_layStrengths_112 : decode cX5_layStrengths 112 = .ok (.istore_n 1, 1) := by decide +kernel
theorem dX5_layStrengths_113 : decode cX5_layStrengths 113 = .ok (.iload_n 1, 1) := by decide +kernel
theorem dX5_layStrengths_114 : decode cX5_layStrengths 114 = .ok (.aload_n 0, 1) := by decide +kernel
theorem dX5_layStrengths_115 : decode cX5_layStrengths 115 = .ok (.getfield 7, 3) := by decide +kernel
theorem dX5_layStrengths_118 : decode cX5_layStrengths 118 = .ok (.bipush 9, 2) := by decide +kernel
theorem dX5_layStrengths_120 : decode cX5_layStrengths 120 = .ok (.iaload, 1) := by decide +kernel
theorem dX5_layStrengths_121 : decode cX5_layStrengths 121 = .ok (.if_icmp .ge 37, 3) := by decide +kernel
theorem dX5_layStrengths_124 : decode cX5_layStrengths 124 = .ok (.aload_n 0, 1) := by decide +kernel
theorem dX5_layStrengths_125 : decode cX5_layStrengths 125 = .ok (.getfield 25, 3) := by decide +kernel
theorem dX5_layStrengths_128 : decode cX5_layStrengths 128 = .ok (.iload_n 1, 1) := by decide +kernel
theorem dX5_layStrengths_129 : decode cX5_layStrengths 129 = .ok (.baload, 1) := by decide +kernel
theorem dX5_layStrengths_130 : decode cX5_layStrengths 130 = .ok (.ifCond .eq 22, 3) := by decide +kernel
theorem dX5_layStrengths_133 : decode cX5_layStrengths 133 = .ok (.aload_n 0, 1) := by decide +kernel
theorem dX5_layStrengths_134 : decode cX5_layStrengths 134 = .ok (.getfield 32, 3) := by decide +kernel
theorem dX5_layStrengths_137 : decode cX5_layStrengths 137 = .ok (.aload_n 0, 1) := by decide +kernel
theorem dX5_layStrengths_138 : decode cX5_layStrengths 138 = .ok (.aload_n 0, 1) := by decide +kernel
theorem dX5_layStrengths_139 : decode cX5_layStrengths 139 = .ok (.iload_n 1, 1) := by decide +kernel
theorem dX5_layStrengths_140 : decode cX5_layStrengths 140 = .ok (.iconst 4, 1) := by decide +kernel
theorem dX5_layStrengths_141 : decode cX5_layStrengths 141 = .ok (.invokevirtual 65, 3) := by decide +kernel
theorem dX5_layStrengths_144 : decode cX5_layStrengths 144 = .ok (.invokevirtual 72, 3) := by decide +kernel
theorem dX5_layStrengths_147 : decode cX5_layStrengths 147 = .ok (.dup2, 1) := by decide +kernel
theorem dX5_layStrengths_148 : decode cX5_layStrengths 148 = .ok (.iaload, 1) := by decide +kernel
theorem dX5_layStrengths_149 : decode cX5_layStrengths 149 = .ok (.iconst 1, 1) := by decide +kernel
theorem dX5_layStrengths_150 : decode cX5_layStrengths 150 = .ok (.iadd, 1) := by decide +kernel
theorem dX5_layStrengths_151 : decode cX5_layStrengths 151 = .ok (.iastore, 1) := by decide +kernel
theorem dX5_layStrengths_152 : decode cX5_layStrengths 152 = .ok (.iinc 1 1, 3) := by decide +kernel
theorem dX5_layStrengths_155 : decode cX5_layStrengths 155 = .ok (.goto (-42), 3) := by decide +kernel
theorem dX5_layStrengths_158 : decode cX5_layStrengths 158 = .ok (.return_, 1) := by decide +kernel
set_option maxRecDepth 20000 in
theorem ggX5_stays_X5_moves : GoodIn wsX5_stays wsX5_moves := goodIn_r _ [6, 7, 8, 9, 5, 10, 11, 12, 13, 14, 15, 16, 17, 18, 19, 20, 21, 22, 23, 24, 25, 26, 27, 28, 29, 30, 31, 32, 33, 34] (by decide +kernel) (by decide +kernel)
set_option maxRecDepth 20000 in
theorem gX5_stays_X5_moves : GoodIn wsX5_stays (wsV RX5 68 RX5 yX5_moves wsX5_moves) := goodIn_app (goodIn_of _ (by decide +kernel)) ggX5_stays_X5_moves
theorem dX5_stays_0 : decode cX5_stays 0 = .ok (.aload_n 0, 1) := by decide +kernel
theorem dX5_stays_1 : decode cX5_stays 1 = .ok (.iload_n 1, 1) := by decide +kernel
theorem dX5_stays_2 : decode cX5_stays 2 = .ok (.invokevirtual 68, 3) := by decide +kernel
theorem dX5_stays_5 : decode cX5_stays 5 = .ok (.ifCond .eq 12, 3) := by decide +kernel
theorem dX5_stays_8 : decode cX5_stays 8 = .ok (.aload_n 0, 1) := by decide +kernel
theorem dX5_stays_9 : decode cX5_stays 9 = .ok (.getfield 35, 3) := by decide +kernel
theorem dX5_stays_12 : decode cX5_stays 12 = .ok (.iload_n 1, 1) := by decide +kernel
theorem dX5_stays_13 : decode cX5_stays 13 = .ok (.baload, 1) := by decide +kernel
theorem dX5_stays_14 : decode cX5_stays 14 = .ok (.ifCond .eq 7, 3) := by decide +kernel
theorem dX5_stays_17 : decode cX5_stays 17 = .ok (.iconst 1, 1) := by decide +kernel
theorem dX5_stays_18 : decode cX5_stays 18 = .ok (.goto 4, 3) := by decide +kernel
theorem dX5_stays_21 : decode cX5_stays 21 = .ok (.iconst 0, 1) := by decide +kernel
theorem dX5_stays_22 : decode cX5_stays 22 = .ok (.ireturn, 1) := by decide +kernel
set_option maxRecDepth 20000 in
theorem ggX5_reason_X5_of : GoodIn wsX5_reason wsX5_of := goodIn_r _ [7, 1, 8, 9, 6, 10, 28, 29, 30, 31, 32, 33, 34, 35, 36, 37, 38, 39, 40, 41, 42, 43, 44, 45, 46, 47] (by decide +kernel) (by decide +kernel)
set_option maxRecDepth 20000 in
theorem gX5_reason_X5_of : GoodIn wsX5_reason (wsV RX5 65 RX5 yX5_of wsX5_of) := goodIn_app (goodIn_of _ (by decide +kernel)) ggX5_reason_X5_of
set_option maxRecDepth 20000 in
theorem ggX5_reason_X5_movesTo : GoodIn wsX5_reason wsX5_movesTo := goodIn_r _ [14, 15, 16, 17, 6, 18, 3, 4, 5, 7, 1, 8, 9, 10, 28, 29, 30, 31, 32, 33, 34, 35, 36, 37, 38, 39, 40, 41, 42, 43, 44, 45, 46, 47] (by decide +kernel) (by decide +kernel)
set_option maxRecDepth 20000 in
theorem gX5_reason_X5_movesTo : GoodIn wsX5_reason (wsV RX5 76 RX5 yX5_movesTo wsX5_movesTo) := goodIn_app (goodIn_of _ (by decide +kernel)) ggX5_reason_X5_movesTo
set_option maxRecDepth 20000 in
theorem ggX5_reason_X5_armyOn : GoodIn wsX5_reason wsX5_armyOn := goodIn_r _ [22, 1, 3, 4, 5, 6, 7, 8, 9, 10, 28, 29, 30, 31, 32, 33, 34, 35, 36, 37, 38, 39, 40, 41, 42, 43, 44, 45, 46, 47] (by decide +kernel) (by decide +kernel)
set_option maxRecDepth 20000 in
theorem gX5_reason_X5_armyOn : GoodIn wsX5_reason (wsV RX5 72 RX5 yX5_armyOn wsX5_armyOn) := goodIn_app (goodIn_of _ (by decide +kernel)) ggX5_reason_X5_armyOn
set_option maxRecDepth 20000 in
theorem ggX5_reason_X5_stays : GoodIn wsX5_reason wsX5_stays := goodIn_r _ [26, 27, 15, 16, 17, 6, 18, 3, 4, 5, 7, 1, 8, 9, 10, 28, 29, 30, 31, 32, 33, 34, 35, 36, 37, 38, 39, 40, 41, 42, 43, 44, 45, 46, 47] (by decide +kernel) (by decide +kernel)
set_option maxRecDepth 20000 in
theorem gX5_reason_X5_stays : GoodIn wsX5_reason (wsV RX5 86 RX5 yX5_stays wsX5_stays) := goodIn_app (goodIn_of _ (by decide +kernel)) ggX5_reason_X5_stays
set_option maxRecDepth 20000 in
theorem ggX5_reason_X5_moves : GoodIn wsX5_reason wsX5_moves := goodIn_r _ [18, 3, 4, 5, 6, 7, 1, 8, 9, 10, 28, 29, 30, 31, 32, 33, 34, 35, 36, 37, 38, 39, 40, 41, 42, 43, 44, 45, 46, 47] (by decide +kernel) (by decide +kernel)
set_option maxRecDepth 20000 in
theorem gX5_reason_X5_moves : GoodIn wsX5_reason (wsV RX5 68 RX5 yX5_moves wsX5_moves) := goodIn_app (goodIn_of _ (by decide +kernel)) ggX5_reason_X5_moves
theorem dX5_reason_0 : decode cX5_reason 0 = .ok (.aload_n 0, 1) := by decide +kernel
theorem dX5_reason_1 : decode cX5_reason 1 = .ok (.iload_n 1, 1) := by decide +kernel
theorem dX5_reason_2 : decode cX5_reason 2 = .ok (.iconst 3, 1) := by decide +kernel
theorem dX5_reason_3 : decode cX5_reason 3 = .ok (.invokevirtual 65, 3) := by decide +kernel
theorem dX5_reason_6 : decode cX5_reason 6 = .ok (.istore_n 2, 1) := by decide +kernel
theorem dX5_reason_7 : decode cX5_reason 7 = .ok (.iconst 0, 1) := by decide +kernel
theorem dX5_reason_8 : decode cX5_reason 8 = .ok (.istore_n 3, 1) := by decide +kernel
theorem dX5_reason_9 : decode cX5_reason 9 = .ok (.iload_n 3, 1) := by decide +kernel
theorem dX5_reason_10 : decode cX5_reason 10 = .ok (.aload_n 0, 1) := by decide +kernel
theorem dX5_reason_11 : decode cX5_reason 11 = .ok (.getfield 7, 3) := by decide +kernel
theorem dX5_reason_14 : decode cX5_reason 14 = .ok (.bipush 9, 2) := by decide +kernel
theorem dX5_reason_16 : decode cX5_reason 16 = .ok (.iaload, 1) := by decide +kernel
theorem dX5_reason_17 : decode cX5_reason 17 = .ok (.if_icmp .ge 40, 3) := by decide +kernel
theorem dX5_reason_20 : decode cX5_reason 20 = .ok (.iload_n 3, 1) := by decide +kernel
theorem dX5_reason_21 : decode cX5_reason 21 = .ok (.iload_n 1, 1) := by decide +kernel
theorem dX5_reason_22 : decode cX5_reason 22 = .ok (.if_icmp .eq 29, 3) := by decide +kernel
theorem dX5_reason_25 : decode cX5_reason 25 = .ok (.aload_n 0, 1) := by decide +kernel
theorem dX5_reason_26 : decode cX5_reason 26 = .ok (.iload_n 3, 1) := by decide +kernel
theorem dX5_reason_27 : decode cX5_reason 27 = .ok (.iload_n 2, 1) := by decide +kernel
theorem dX5_reason_28 : decode cX5_reason 28 = .ok (.invokevirtual 76, 3) := by decide +kernel
theorem dX5_reason_31 : decode cX5_reason 31 = .ok (.ifCond .eq 20, 3) := by decide +kernel
theorem dX5_reason_34 : decode cX5_reason 34 = .ok (.aload_n 0, 1) := by decide +kernel
theorem dX5_reason_35 : decode cX5_reason 35 = .ok (.getfield 32, 3) := by decide +kernel
theorem dX5_reason_38 : decode cX5_reason 38 = .ok (.iload_n 3, 1) := by decide +kernel
theorem dX5_reason_39 : decode cX5_reason 39 = .ok (.iaload, 1) := by decide +kernel
theorem dX5_reason_40 : decode cX5_reason 40 = .ok (.aload_n 0, 1) := by decide +kernel
theorem dX5_reason_41 : decode cX5_reason 41 = .ok (.getfield 32, 3) := by decide +kernel
theorem dX5_reason_44 : decode cX5_reason 44 = .ok (.iload_n 1, 1) := by decide +kernel
theorem dX5_reason_45 : decode cX5_reason 45 = .ok (.iaload, 1) := by decide +kernel
theorem dX5_reason_46 : decode cX5_reason 46 = .ok (.if_icmp .lt 5, 3) := by decide +kernel
theorem dX5_reason_49 : decode cX5_reason 49 = .ok (.iconst 1, 1) := by decide +kernel
theorem dX5_reason_50 : decode cX5_reason 50 = .ok (.ireturn, 1) := by decide +kernel
theorem dX5_reason_51 : decode cX5_reason 51 = .ok (.iinc 3 1, 3) := by decide +kernel
theorem dX5_reason_54 : decode cX5_reason 54 = .ok (.goto (-45), 3) := by decide +kernel
theorem dX5_reason_57 : decode cX5_reason 57 = .ok (.aload_n 0, 1) := by decide +kernel
theorem dX5_reason_58 : decode cX5_reason 58 = .ok (.iload_n 2, 1) := by decide +kernel
theorem dX5_reason_59 : decode cX5_reason 59 = .ok (.invokevirtual 72, 3) := by decide +kernel
theorem dX5_reason_62 : decode cX5_reason 62 = .ok (.istore_n 3, 1) := by decide +kernel
theorem dX5_reason_63 : decode cX5_reason 63 = .ok (.iload_n 3, 1) := by decide +kernel
theorem dX5_reason_64 : decode cX5_reason 64 = .ok (.iconst (-1), 1) := by decide +kernel
theorem dX5_reason_65 : decode cX5_reason 65 = .ok (.if_icmp .ne 5, 3) := by decide +kernel
theorem dX5_reason_68 : decode cX5_reason 68 = .ok (.iconst 0, 1) := by decide +kernel
theorem dX5_reason_69 : decode cX5_reason 69 = .ok (.ireturn, 1) := by decide +kernel
theorem dX5_reason_70 : decode cX5_reason 70 = .ok (.aload_n 0, 1) := by decide +kernel
theorem dX5_reason_71 : decode cX5_reason 71 = .ok (.iload_n 3, 1) := by decide +kernel
theorem dX5_reason_72 : decode cX5_reason 72 = .ok (.aload_n 0, 1) := by decide +kernel
theorem dX5_reason_73 : decode cX5_reason 73 = .ok (.iload_n 1, 1) := by decide +kernel
theorem dX5_reason_74 : decode cX5_reason 74 = .ok (.iconst 1, 1) := by decide +kernel
theorem dX5_reason_75 : decode cX5_reason 75 = .ok (.invokevirtual 65, 3) := by decide +kernel
theorem dX5_reason_78 : decode cX5_reason 78 = .ok (.invokevirtual 76, 3) := by decide +kernel
theorem dX5_reason_81 : decode cX5_reason 81 = .ok (.ifCond .eq 20, 3) := by decide +kernel
theorem dX5_reason_84 : decode cX5_reason 84 = .ok (.aload_n 0, 1) := by decide +kernel
theorem dX5_reason_85 : decode cX5_reason 85 = .ok (.getfield 32, 3) := by decide +kernel
theorem dX5_reason_88 : decode cX5_reason 88 = .ok (.iload_n 3, 1) := by decide +kernel
theorem dX5_reason_89 : decode cX5_reason 89 = .ok (.iaload, 1) := by decide +kernel
theorem dX5_reason_90 : decode cX5_reason 90 = .ok (.aload_n 0, 1) := by decide +kernel
theorem dX5_reason_91 : decode cX5_reason 91 = .ok (.getfield 32, 3) := by decide +kernel
theorem dX5_reason_94 : decode cX5_reason 94 = .ok (.iload_n 1, 1) := by decide +kernel
theorem dX5_reason_95 : decode cX5_reason 95 = .ok (.iaload, 1) := by decide +kernel
theorem dX5_reason_96 : decode cX5_reason 96 = .ok (.if_icmp .lt 5, 3) := by decide +kernel
theorem dX5_reason_99 : decode cX5_reason 99 = .ok (.iconst 2, 1) := by decide +kernel
theorem dX5_reason_100 : decode cX5_reason 100 = .ok (.ireturn, 1) := by decide +kernel
theorem dX5_reason_101 : decode cX5_reason 101 = .ok (.aload_n 0, 1) := by decide +kernel
theorem dX5_reason_102 : decode cX5_reason 102 = .ok (.iload_n 3, 1) := by decide +kernel
theorem dX5_reason_103 : decode cX5_reason 103 = .ok (.invokevirtual 86, 3) := by decide +kernel
theorem dX5_reason_106 : decode cX5_reason 106 = .ok (.ifCond .ne 5, 3) := by decide +kernel
theorem dX5_reason_109 : decode cX5_reason 109 = .ok (.iconst 0, 1) := by decide +kernel
theorem dX5_reason_110 : decode cX5_reason 110 = .ok (.ireturn, 1) := by decide +kernel
theorem dX5_reason_111 : decode cX5_reason 111 = .ok (.aload_n 0, 1) := by decide +kernel
theorem dX5_reason_112 : decode cX5_reason 112 = .ok (.iload_n 3, 1) := by decide +kernel
theorem dX5_reason_113 : decode cX5_reason 113 = .ok (.iconst 0, 1) := by decide +kernel
theorem dX5_reason_114 : decode cX5_reason 114 = .ok (.invokevirtual 65, 3) := by decide +kernel
theorem dX5_reason_117 : decode cX5_reason 117 = .ok (.aload_n 0, 1) := by decide +kernel
theorem dX5_reason_118 : decode cX5_reason 118 = .ok (.iload_n 1, 1) := by decide +kernel
theorem dX5_reason_119 : decode cX5_reason 119 = .ok (.iconst 0, 1) := by decide +kernel
theorem dX5_reason_120 : decode cX5_reason 120 = .ok (.invokevirtual 65, 3) := by decide +kernel
theorem dX5_reason_123 : decode cX5_reason 123 = .ok (.if_icmp .ne 5, 3) := by decide +kernel
theorem dX5_reason_126 : decode cX5_reason 126 = .ok (.iconst 3, 1) := by decide +kernel
theorem dX5_reason_127 : decode cX5_reason 127 = .ok (.ireturn, 1) := by decide +kernel
theorem dX5_reason_128 : decode cX5_reason 128 = .ok (.aload_n 0, 1) := by decide +kernel
theorem dX5_reason_129 : decode cX5_reason 129 = .ok (.iload_n 3, 1) := by decide +kernel
theorem dX5_reason_130 : decode cX5_reason 130 = .ok (.invokevirtual 68, 3) := by decide +kernel
theorem dX5_reason_133 : decode cX5_reason 133 = .ok (.ifCond .eq 7, 3) := by decide +kernel
theorem dX5_reason_136 : decode cX5_reason 136 = .ok (.iconst 1, 1) := by decide +kernel
theorem dX5_reason_137 : decode cX5_reason 137 = .ok (.goto 9, 3) := by decide +kernel
theorem dX5_reason_140 : decode cX5_reason 140 = .ok (.aload_n 0, 1) := by decide +kernel
theorem dX5_reason_141 : decode cX5_reason 141 = .ok (.getfield 32, 3) := by decide +kernel
theorem dX5_reason_144 : decode cX5_reason 144 = .ok (.iload_n 3, 1) := by decide +kernel
theorem dX5_reason_145 : decode cX5_reason 145 = .ok (.iaload, 1) := by decide +kernel
theorem dX5_reason_146 : decode cX5_reason 146 = .ok (.aload_n 0, 1) := by decide +kernel
theorem dX5_reason_147 : decode cX5_reason 147 = .ok (.getfield 32, 3) := by decide +kernel
theorem dX5_reason_150 : decode cX5_reason 150 = .ok (.iload_n 1, 1) := by decide +kernel
theorem dX5_reason_151 : decode cX5_reason 151 = .ok (.iaload, 1) := by decide +kernel
theorem dX5_reason_152 : decode cX5_reason 152 = .ok (.if_icmp .lt 7, 3) := by decide +kernel
theorem dX5_reason_155 : decode cX5_reason 155 = .ok (.iconst 4, 1) := by decide +kernel
theorem dX5_reason_156 : decode cX5_reason 156 = .ok (.goto 4, 3) := by decide +kernel
theorem dX5_reason_159 : decode cX5_reason 159 = .ok (.iconst 0, 1) := by decide +kernel
theorem dX5_reason_160 : decode cX5_reason 160 = .ok (.ireturn, 1) := by decide +kernel
set_option maxRecDepth 20000 in
theorem ggX5_layFails_X5_moves : GoodIn wsX5_layFails wsX5_moves := goodIn_r _ [8, 9, 10, 11, 7, 12, 1, 13, 14, 15, 33, 34, 35, 36, 37, 38, 39, 40, 41, 42, 43, 44, 45, 46, 47, 48, 49, 50, 51, 52] (by decide +kernel) (by decide +kernel)
set_option maxRecDepth 20000 in
theorem gX5_layFails_X5_moves : GoodIn wsX5_layFails (wsV RX5 68 RX5 yX5_moves wsX5_moves) := goodIn_app (goodIn_of _ (by decide +kernel)) ggX5_layFails_X5_moves
set_option maxRecDepth 20000 in
theorem ggX5_layFails_X5_reason : GoodIn wsX5_layFails wsX5_reason := goodIn_r _ [19, 1, 20, 9, 10, 11, 7, 12, 13, 14, 15, 21, 22, 23, 24, 4, 5, 6, 8, 25, 26, 27, 28, 29, 30, 31, 32, 2, 33, 34, 35, 36, 37, 38, 39, 40, 41, 42, 43, 44, 45, 46, 47, 48, 49, 50, 51, 52] (by decide +kernel) (by decide +kernel)
set_option maxRecDepth 20000 in
theorem gX5_layFails_X5_reason : GoodIn wsX5_layFails (wsV RX5 89 RX5 yX5_reason wsX5_reason) := goodIn_app (goodIn_of _ (by decide +kernel)) ggX5_layFails_X5_reason
theorem dX5_layFails_0 : decode cX5_layFails 0 = .ok (.iconst 1, 1) := by decide +kernel
theorem dX5_layFails_1 : decode cX5_layFails 1 = .ok (.istore_n 1, 1) := by decide +kernel
theorem dX5_layFails_2 : decode cX5_layFails 2 = .ok (.iload_n 1, 1) := by decide +kernel
theorem dX5_layFails_3 : decode cX5_layFails 3 = .ok (.ifCond .eq 96, 3) := by decide +kernel
theorem dX5_layFails_6 : decode cX5_layFails 6 = .ok (.iconst 0, 1) := by decide +kernel
theorem dX5_layFails_7 : decode cX5_layFails 7 = .ok (.istore_n 1, 1) := by decide +kernel
theorem dX5_layFails_8 : decode cX5_layFails 8 = .ok (.iconst 0, 1) := by decide +kernel
theorem dX5_layFails_9 : decode cX5_layFails 9 = .ok (.istore_n 2, 1) := by decide +kernel
theorem dX5_layFails_10 : decode cX5_layFails 10 = .ok (.iload_n 2, 1) := by decide +kernel
theorem dX5_layFails_11 : decode cX5_layFails 11 = .ok (.aload_n 0, 1) := by decide +kernel
theorem dX5_layFails_12 : decode cX5_layFails 12 = .ok (.getfield 7, 3) := by decide +kernel
theorem dX5_layFails_15 : decode cX5_layFails 15 = .ok (.bipush 9, 2) := by decide +kernel
theorem dX5_layFails_17 : decode cX5_layFails 17 = .ok (.iaload, 1) := by decide +kernel
theorem dX5_layFails_18 : decode cX5_layFails 18 = .ok (.if_icmp .ge 78, 3) := by decide +kernel
theorem dX5_layFails_21 : decode cX5_layFails 21 = .ok (.aload_n 0, 1) := by decide +kernel
theorem dX5_layFails_22 : decode cX5_layFails 22 = .ok (.iload_n 2, 1) := by decide +kernel
theorem dX5_layFails_23 : decode cX5_layFails 23 = .ok (.invokevirtual 68, 3) := by decide +kernel
theorem dX5_layFails_26 : decode cX5_layFails 26 = .ok (.ifCond .eq 24, 3) := by decide +kernel
theorem dX5_layFails_29 : decode cX5_layFails 29 = .ok (.aload_n 0, 1) := by decide +kernel
theorem dX5_layFails_30 : decode cX5_layFails 30 = .ok (.getfield 35, 3) := by decide +kernel
theorem dX5_layFails_33 : decode cX5_layFails 33 = .ok (.iload_n 2, 1) := by decide +kernel
theorem dX5_layFails_34 : decode cX5_layFails 34 = .ok (.baload, 1) := by decide +kernel
theorem dX5_layFails_35 : decode cX5_layFails 35 = .ok (.ifCond .ne 15, 3) := by decide +kernel
theorem dX5_layFails_38 : decode cX5_layFails 38 = .ok (.aload_n 0, 1) := by decide +kernel
theorem dX5_layFails_39 : decode cX5_layFails 39 = .ok (.iload_n 2, 1) := by decide +kernel
theorem dX5_layFails_40 : decode cX5_layFails 40 = .ok (.invokevirtual 89, 3) := by decide +kernel
theorem dX5_layFails_43 : decode cX5_layFails 43 = .ok (.ifCond .le 7, 3) := by decide +kernel
theorem dX5_layFails_46 : decode cX5_layFails 46 = .ok (.iconst 1, 1) := by decide +kernel
theorem dX5_layFails_47 : decode cX5_layFails 47 = .ok (.goto 4, 3) := by decide +kernel
theorem dX5_layFails_50 : decode cX5_layFails 50 = .ok (.iconst 0, 1) := by decide +kernel
theorem dX5_layFails_51 : decode cX5_layFails 51 = .ok (.istore_n 3, 1) := by decide +kernel
theorem dX5_layFails_52 : decode cX5_layFails 52 = .ok (.aload_n 0, 1) := by decide +kernel
theorem dX5_layFails_53 : decode cX5_layFails 53 = .ok (.getfield 35, 3) := by decide +kernel
theorem dX5_layFails_56 : decode cX5_layFails 56 = .ok (.iload_n 2, 1) := by decide +kernel
theorem dX5_layFails_57 : decode cX5_layFails 57 = .ok (.aload_n 0, 1) := by decide +kernel
theorem dX5_layFails_58 : decode cX5_layFails 58 = .ok (.getfield 35, 3) := by decide +kernel
theorem dX5_layFails_61 : decode cX5_layFails 61 = .ok (.iload_n 2, 1) := by decide +kernel
theorem dX5_layFails_62 : decode cX5_layFails 62 = .ok (.baload, 1) := by decide +kernel
theorem dX5_layFails_63 : decode cX5_layFails 63 = .ok (.ifCond .ne 7, 3) := by decide +kernel
theorem dX5_layFails_66 : decode cX5_layFails 66 = .ok (.iload_n 3, 1) := by decide +kernel
theorem dX5_layFails_67 : decode cX5_layFails 67 = .ok (.ifCond .eq 7, 3) := by decide +kernel
theorem dX5_layFails_70 : decode cX5_layFails 70 = .ok (.iconst 1, 1) := by decide +kernel
theorem dX5_layFails_71 : decode cX5_layFails 71 = .ok (.goto 4, 3) := by decide +kernel
theorem dX5_layFails_74 : decode cX5_layFails 74 = .ok (.iconst 0, 1) := by decide +kernel
theorem dX5_layFails_75 : decode cX5_layFails 75 = .ok (.bastore, 1) := by decide +kernel
theorem dX5_layFails_76 : decode cX5_layFails 76 = .ok (.iload_n 1, 1) := by decide +kernel
theorem dX5_layFails_77 : decode cX5_layFails 77 = .ok (.ifCond .ne 7, 3) := by decide +kernel
theorem dX5_layFails_80 : decode cX5_layFails 80 = .ok (.iload_n 3, 1) := by decide +kernel
theorem dX5_layFails_81 : decode cX5_layFails 81 = .ok (.ifCond .eq 7, 3) := by decide +kernel
theorem dX5_layFails_84 : decode cX5_layFails 84 = .ok (.iconst 1, 1) := by decide +kernel
theorem dX5_layFails_85 : decode cX5_layFails 85 = .ok (.goto 4, 3) := by decide +kernel
theorem dX5_layFails_88 : decode cX5_layFails 88 = .ok (.iconst 0, 1) := by decide +kernel
theorem dX5_layFails_89 : decode cX5_layFails 89 = .ok (.istore_n 1, 1) := by decide +kernel
theorem dX5_layFails_90 : decode cX5_layFails 90 = .ok (.iinc 2 1, 3) := by decide +kernel
theorem dX5_layFails_93 : decode cX5_layFails 93 = .ok (.goto (-83), 3) := by decide +kernel
theorem dX5_layFails_96 : decode cX5_layFails 96 = .ok (.goto (-94), 3) := by decide +kernel
theorem dX5_layFails_99 : decode cX5_layFails 99 = .ok (.iconst 0, 1) := by decide +kernel
theorem dX5_layFails_100 : decode cX5_layFails 100 = .ok (.istore_n 2, 1) := by decide +kernel
theorem dX5_layFails_101 : decode cX5_layFails 101 = .ok (.iload_n 2, 1) := by decide +kernel
theorem dX5_layFails_102 : decode cX5_layFails 102 = .ok (.aload_n 0, 1) := by decide +kernel
theorem dX5_layFails_103 : decode cX5_layFails 103 = .ok (.getfield 7, 3) := by decide +kernel
theorem dX5_layFails_106 : decode cX5_layFails 106 = .ok (.bipush 9, 2) := by decide +kernel
theorem dX5_layFails_108 : decode cX5_layFails 108 = .ok (.iaload, 1) := by decide +kernel
theorem dX5_layFails_109 : decode cX5_layFails 109 = .ok (.if_icmp .ge 33, 3) := by decide +kernel
theorem dX5_layFails_112 : decode cX5_layFails 112 = .ok (.aload_n 0, 1) := by decide +kernel
theorem dX5_layFails_113 : decode cX5_layFails 113 = .ok (.getfield 38, 3) := by decide +kernel
theorem dX5_layFails_116 : decode cX5_layFails 116 = .ok (.iload_n 2, 1) := by decide +kernel
theorem dX5_layFails_117 : decode cX5_layFails 117 = .ok (.aload_n 0, 1) := by decide +kernel
theorem dX5_layFails_118 : decode cX5_layFails 118 = .ok (.getfield 35, 3) := by decide +kernel
theorem dX5_layFails_121 : decode cX5_layFails 121 = .ok (.iload_n 2, 1) := by decide +kernel
theorem dX5_layFails_122 : decode cX5_layFails 122 = .ok (.baload, 1) := by decide +kernel
theorem dX5_layFails_123 : decode cX5_layFails 123 = .ok (.ifCond .eq 11, 3) := by decide +kernel
theorem dX5_layFails_126 : decode cX5_layFails 126 = .ok (.aload_n 0, 1) := by decide +kernel
theorem dX5_layFails_127 : decode cX5_layFails 127 = .ok (.iload_n 2, 1) := by decide +kernel
theorem dX5_layFails_128 : decode cX5_layFails 128 = .ok (.invokevirtual 89, 3) := by decide +kernel
theorem dX5_layFails_131 : decode cX5_layFails 131 = .ok (.goto 4, 3) := by decide +kernel
theorem dX5_layFails_134 : decode cX5_layFails 134 = .ok (.iconst 0, 1) := by decide +kernel
theorem dX5_layFails_135 : decode cX5_layFails 135 = .ok (.iastore, 1) := by decide +kernel
theorem dX5_layFails_136 : decode cX5_layFails 136 = .ok (.iinc 2 1, 3) := by decide +kernel
theorem dX5_layFails_139 : decode cX5_layFails 139 = .ok (.goto (-38), 3) := by decide +kernel
theorem dX5_layFails_142 : decode cX5_layFails 142 = .ok (.return_, 1) := by decide +kernel
set_option maxRecDepth 20000 in
theorem ggX5_isTaken_X5_of : GoodIn wsX5_isTaken wsX5_of := goodIn_r _ [9, 1, 10, 11, 8, 12, 13, 14, 15, 16, 17, 18, 19, 20, 21, 22, 23, 24, 25, 26, 27, 28, 29, 30, 31, 32] (by decide +kernel) (by decide +kernel)
set_option maxRecDepth 20000 in
theorem gX5_isTaken_X5_of : GoodIn wsX5_isTaken (wsV RX5 65 RX5 yX5_of wsX5_of) := goodIn_app (goodIn_of _ (by decide +kernel)) ggX5_isTaken_X5_of
theorem dX5_isTaken_0 : decode cX5_isTaken 0 = .ok (.iconst 0, 1) := by decide +kernel
theorem dX5_isTaken_1 : decode cX5_isTaken 1 = .ok (.istore_n 2, 1) := by decide +kernel
theorem dX5_isTaken_2 : decode cX5_isTaken 2 = .ok (.iconst 0, 1) := by decide +kernel
theorem dX5_isTaken_3 : decode cX5_isTaken 3 = .ok (.istore_n 3, 1) := by decide +kernel
theorem dX5_isTaken_4 : decode cX5_isTaken 4 = .ok (.iload_n 3, 1) := by decide +kernel
theorem dX5_isTaken_5 : decode cX5_isTaken 5 = .ok (.aload_n 0, 1) := by decide +kernel
theorem dX5_isTaken_6 : decode cX5_isTaken 6 = .ok (.getfield 7, 3) := by decide +kernel
theorem dX5_isTaken_9 : decode cX5_isTaken 9 = .ok (.bipush 9, 2) := by decide +kernel
theorem dX5_isTaken_11 : decode cX5_isTaken 11 = .ok (.iaload, 1) := by decide +kernel
theorem dX5_isTaken_12 : decode cX5_isTaken 12 = .ok (.if_icmp .ge 58, 3) := by decide +kernel
theorem dX5_isTaken_15 : decode cX5_isTaken 15 = .ok (.iload_n 2, 1) := by decide +kernel
theorem dX5_isTaken_16 : decode cX5_isTaken 16 = .ok (.ifCond .ne 42, 3) := by decide +kernel
theorem dX5_isTaken_19 : decode cX5_isTaken 19 = .ok (.aload_n 0, 1) := by decide +kernel
theorem dX5_isTaken_20 : decode cX5_isTaken 20 = .ok (.getfield 44, 3) := by decide +kernel
theorem dX5_isTaken_23 : decode cX5_isTaken 23 = .ok (.iload_n 3, 1) := by decide +kernel
theorem dX5_isTaken_24 : decode cX5_isTaken 24 = .ok (.iaload, 1) := by decide +kernel
theorem dX5_isTaken_25 : decode cX5_isTaken 25 = .ok (.iload_n 1, 1) := by decide +kernel
theorem dX5_isTaken_26 : decode cX5_isTaken 26 = .ok (.if_icmp .eq 32, 3) := by decide +kernel
theorem dX5_isTaken_29 : decode cX5_isTaken 29 = .ok (.aload_n 0, 1) := by decide +kernel
theorem dX5_isTaken_30 : decode cX5_isTaken 30 = .ok (.getfield 35, 3) := by decide +kernel
theorem dX5_isTaken_33 : decode cX5_isTaken 33 = .ok (.iload_n 3, 1) := by decide +kernel
theorem dX5_isTaken_34 : decode cX5_isTaken 34 = .ok (.baload, 1) := by decide +kernel
theorem dX5_isTaken_35 : decode cX5_isTaken 35 = .ok (.ifCond .eq 27, 3) := by decide +kernel
theorem dX5_isTaken_38 : decode cX5_isTaken 38 = .ok (.aload_n 0, 1) := by decide +kernel
theorem dX5_isTaken_39 : decode cX5_isTaken 39 = .ok (.getfield 38, 3) := by decide +kernel
theorem dX5_isTaken_42 : decode cX5_isTaken 42 = .ok (.iload_n 3, 1) := by decide +kernel
theorem dX5_isTaken_43 : decode cX5_isTaken 43 = .ok (.iaload, 1) := by decide +kernel
theorem dX5_isTaken_44 : decode cX5_isTaken 44 = .ok (.iconst 1, 1) := by decide +kernel
theorem dX5_isTaken_45 : decode cX5_isTaken 45 = .ok (.if_icmp .ne 17, 3) := by decide +kernel
theorem dX5_isTaken_48 : decode cX5_isTaken 48 = .ok (.aload_n 0, 1) := by decide +kernel
theorem dX5_isTaken_49 : decode cX5_isTaken 49 = .ok (.iload_n 3, 1) := by decide +kernel
theorem dX5_isTaken_50 : decode cX5_isTaken 50 = .ok (.iconst 3, 1) := by decide +kernel
theorem dX5_isTaken_51 : decode cX5_isTaken 51 = .ok (.invokevirtual 65, 3) := by decide +kernel
theorem dX5_isTaken_54 : decode cX5_isTaken 54 = .ok (.iload_n 1, 1) := by decide +kernel
theorem dX5_isTaken_55 : decode cX5_isTaken 55 = .ok (.if_icmp .ne 7, 3) := by decide +kernel
theorem dX5_isTaken_58 : decode cX5_isTaken 58 = .ok (.iconst 1, 1) := by decide +kernel
theorem dX5_isTaken_59 : decode cX5_isTaken 59 = .ok (.goto 4, 3) := by decide +kernel
theorem dX5_isTaken_62 : decode cX5_isTaken 62 = .ok (.iconst 0, 1) := by decide +kernel
theorem dX5_isTaken_63 : decode cX5_isTaken 63 = .ok (.istore_n 2, 1) := by decide +kernel
theorem dX5_isTaken_64 : decode cX5_isTaken 64 = .ok (.iinc 3 1, 3) := by decide +kernel
theorem dX5_isTaken_67 : decode cX5_isTaken 67 = .ok (.goto (-63), 3) := by decide +kernel
theorem dX5_isTaken_70 : decode cX5_isTaken 70 = .ok (.iload_n 2, 1) := by decide +kernel
theorem dX5_isTaken_71 : decode cX5_isTaken 71 = .ok (.ireturn, 1) := by decide +kernel
set_option maxRecDepth 20000 in
theorem ggX5_retreat_X5_of : GoodIn wsX5_retreat wsX5_of := goodIn_r _ [6, 7, 8, 9, 5, 10, 21, 22, 23, 24, 25, 26, 27, 28, 29, 30, 31, 32, 33, 34, 35, 36, 37, 38, 39, 40] (by decide +kernel) (by decide +kernel)
set_option maxRecDepth 20000 in
theorem gX5_retreat_X5_of : GoodIn wsX5_retreat (wsV RX5 65 RX5 yX5_of wsX5_of) := goodIn_app (goodIn_of _ (by decide +kernel)) ggX5_retreat_X5_of
set_option maxRecDepth 20000 in
theorem ggX5_retreat_X5_areNeighbours : GoodIn wsX5_retreat wsX5_areNeighbours := goodIn_r _ [13] (by decide +kernel) (by decide +kernel)
set_option maxRecDepth 20000 in
theorem gX5_retreat_X5_areNeighbours : GoodIn wsX5_retreat (va_wsS RX5 92 yX5_areNeighbours wsX5_areNeighbours) := goodIn_app (goodIn_of _ (by decide +kernel)) ggX5_retreat_X5_areNeighbours
set_option maxRecDepth 20000 in
theorem ggX5_retreat_X5_isTaken : GoodIn wsX5_retreat wsX5_isTaken := goodIn_r _ [17, 7, 18, 19, 20, 2, 3, 4, 5, 6, 8, 9, 10, 21, 22, 23, 24, 25, 26, 27, 28, 29, 30, 31, 32, 33, 34, 35, 36, 37, 38, 39, 40] (by decide +kernel) (by decide +kernel)
set_option maxRecDepth 20000 in
theorem gX5_retreat_X5_isTaken : GoodIn wsX5_retreat (wsV RX5 95 RX5 yX5_isTaken wsX5_isTaken) := goodIn_app (goodIn_of _ (by decide +kernel)) ggX5_retreat_X5_isTaken
theorem dX5_retreat_0 : decode cX5_retreat 0 = .ok (.iconst (-1), 1) := by decide +kernel
theorem dX5_retreat_1 : decode cX5_retreat 1 = .ok (.istore_n 2, 1) := by decide +kernel
theorem dX5_retreat_2 : decode cX5_retreat 2 = .ok (.bipush 11, 2) := by decide +kernel
theorem dX5_retreat_4 : decode cX5_retreat 4 = .ok (.istore_n 3, 1) := by decide +kernel
theorem dX5_retreat_5 : decode cX5_retreat 5 = .ok (.iload_n 3, 1) := by decide +kernel
theorem dX5_retreat_6 : decode cX5_retreat 6 = .ok (.ifCond .lt 63, 3) := by decide +kernel
theorem dX5_retreat_9 : decode cX5_retreat 9 = .ok (.aload_n 0, 1) := by decide +kernel
theorem dX5_retreat_10 : decode cX5_retreat 10 = .ok (.iload_n 1, 1) := by decide +kernel
theorem dX5_retreat_11 : decode cX5_retreat 11 = .ok (.iconst 1, 1) := by decide +kernel
theorem dX5_retreat_12 : decode cX5_retreat 12 = .ok (.invokevirtual 65, 3) := by decide +kernel
theorem dX5_retreat_15 : decode cX5_retreat 15 = .ok (.iload_n 3, 1) := by decide +kernel
theorem dX5_retreat_16 : decode cX5_retreat 16 = .ok (.invokestatic 92, 3) := by decide +kernel
theorem dX5_retreat_19 : decode cX5_retreat 19 = .ok (.ifCond .eq 30, 3) := by decide +kernel
theorem dX5_retreat_22 : decode cX5_retreat 22 = .ok (.aload_n 0, 1) := by decide +kernel
theorem dX5_retreat_23 : decode cX5_retreat 23 = .ok (.iload_n 3, 1) := by decide +kernel
theorem dX5_retreat_24 : decode cX5_retreat 24 = .ok (.invokevirtual 95, 3) := by decide +kernel
theorem dX5_retreat_27 : decode cX5_retreat 27 = .ok (.ifCond .ne 22, 3) := by decide +kernel
theorem dX5_retreat_30 : decode cX5_retreat 30 = .ok (.aload_n 0, 1) := by decide +kernel
theorem dX5_retreat_31 : decode cX5_retreat 31 = .ok (.aload_n 0, 1) := by decide +kernel
theorem dX5_retreat_32 : decode cX5_retreat 32 = .ok (.getfield 41, 3) := by decide +kernel
theorem dX5_retreat_35 : decode cX5_retreat 35 = .ok (.iload_n 1, 1) := by decide +kernel
theorem dX5_retreat_36 : decode cX5_retreat 36 = .ok (.iaload, 1) := by decide +kernel
theorem dX5_retreat_37 : decode cX5_retreat 37 = .ok (.iconst 1, 1) := by decide +kernel
theorem dX5_retreat_38 : decode cX5_retreat 38 = .ok (.invokevirtual 65, 3) := by decide +kernel
theorem dX5_retreat_41 : decode cX5_retreat 41 = .ok (.iload_n 3, 1) := by decide +kernel
theorem dX5_retreat_42 : decode cX5_retreat 42 = .ok (.if_icmp .eq 7, 3) := by decide +kernel
theorem dX5_retreat_45 : decode cX5_retreat 45 = .ok (.iconst 1, 1) := by decide +kernel
theorem dX5_retreat_46 : decode cX5_retreat 46 = .ok (.goto 4, 3) := by decide +kernel
theorem dX5_retreat_49 : decode cX5_retreat 49 = .ok (.iconst 0, 1) := by decide +kernel
theorem dX5_retreat_50 : decode cX5_retreat 50 = .ok (.istore 4, 2) := by decide +kernel
theorem dX5_retreat_52 : decode cX5_retreat 52 = .ok (.iload 4, 2) := by decide +kernel
theorem dX5_retreat_54 : decode cX5_retreat 54 = .ok (.ifCond .eq 7, 3) := by decide +kernel
theorem dX5_retreat_57 : decode cX5_retreat 57 = .ok (.iload_n 3, 1) := by decide +kernel
theorem dX5_retreat_58 : decode cX5_retreat 58 = .ok (.goto 4, 3) := by decide +kernel
theorem dX5_retreat_61 : decode cX5_retreat 61 = .ok (.iload_n 2, 1) := by decide +kernel
theorem dX5_retreat_62 : decode cX5_retreat 62 = .ok (.istore_n 2, 1) := by decide +kernel
theorem dX5_retreat_63 : decode cX5_retreat 63 = .ok (.iinc 3 (-1), 3) := by decide +kernel
theorem dX5_retreat_66 : decode cX5_retreat 66 = .ok (.goto (-61), 3) := by decide +kernel
theorem dX5_retreat_69 : decode cX5_retreat 69 = .ok (.iload_n 2, 1) := by decide +kernel
theorem dX5_retreat_70 : decode cX5_retreat 70 = .ok (.ireturn, 1) := by decide +kernel
theorem dX5_nextDriven_0 : decode cX5_nextDriven 0 = .ok (.iconst (-1), 1) := by decide +kernel
theorem dX5_nextDriven_1 : decode cX5_nextDriven 1 = .ok (.istore_n 1, 1) := by decide +kernel
theorem dX5_nextDriven_2 : decode cX5_nextDriven 2 = .ok (.iconst 0, 1) := by decide +kernel
theorem dX5_nextDriven_3 : decode cX5_nextDriven 3 = .ok (.istore_n 2, 1) := by decide +kernel
theorem dX5_nextDriven_4 : decode cX5_nextDriven 4 = .ok (.iload_n 2, 1) := by decide +kernel
theorem dX5_nextDriven_5 : decode cX5_nextDriven 5 = .ok (.aload_n 0, 1) := by decide +kernel
theorem dX5_nextDriven_6 : decode cX5_nextDriven 6 = .ok (.getfield 7, 3) := by decide +kernel
theorem dX5_nextDriven_9 : decode cX5_nextDriven 9 = .ok (.bipush 9, 2) := by decide +kernel
theorem dX5_nextDriven_11 : decode cX5_nextDriven 11 = .ok (.iaload, 1) := by decide +kernel
theorem dX5_nextDriven_12 : decode cX5_nextDriven 12 = .ok (.if_icmp .ge 74, 3) := by decide +kernel
theorem dX5_nextDriven_15 : decode cX5_nextDriven 15 = .ok (.aload_n 0, 1) := by decide +kernel
theorem dX5_nextDriven_16 : decode cX5_nextDriven 16 = .ok (.getfield 41, 3) := by decide +kernel
theorem dX5_nextDriven_19 : decode cX5_nextDriven 19 = .ok (.iload_n 2, 1) := by decide +kernel
theorem dX5_nextDriven_20 : decode cX5_nextDriven 20 = .ok (.iaload, 1) := by decide +kernel
theorem dX5_nextDriven_21 : decode cX5_nextDriven 21 = .ok (.iconst (-1), 1) := by decide +kernel
theorem dX5_nextDriven_22 : decode cX5_nextDriven 22 = .ok (.if_icmp .eq 46, 3) := by decide +kernel
theorem dX5_nextDriven_25 : decode cX5_nextDriven 25 = .ok (.aload_n 0, 1) := by decide +kernel
theorem dX5_nextDriven_26 : decode cX5_nextDriven 26 = .ok (.getfield 47, 3) := by decide +kernel
theorem dX5_nextDriven_29 : decode cX5_nextDriven 29 = .ok (.iload_n 2, 1) := by decide +kernel
theorem dX5_nextDriven_30 : decode cX5_nextDriven 30 = .ok (.baload, 1) := by decide +kernel
theorem dX5_nextDriven_31 : decode cX5_nextDriven 31 = .ok (.ifCond .ne 37, 3) := by decide +kernel
theorem dX5_nextDriven_34 : decode cX5_nextDriven 34 = .ok (.iload_n 1, 1) := by decide +kernel
theorem dX5_nextDriven_35 : decode cX5_nextDriven 35 = .ok (.iconst (-1), 1) := by decide +kernel
theorem dX5_nextDriven_36 : decode cX5_nextDriven 36 = .ok (.if_icmp .eq 28, 3) := by decide +kernel
theorem dX5_nextDriven_39 : decode cX5_nextDriven 39 = .ok (.aload_n 0, 1) := by decide +kernel
theorem dX5_nextDriven_40 : decode cX5_nextDriven 40 = .ok (.getfield 32, 3) := by decide +kernel
theorem dX5_nextDriven_43 : decode cX5_nextDriven 43 = .ok (.aload_n 0, 1) := by decide +kernel
theorem dX5_nextDriven_44 : decode cX5_nextDriven 44 = .ok (.getfield 41, 3) := by decide +kernel
theorem dX5_nextDriven_47 : decode cX5_nextDriven 47 = .ok (.iload_n 2, 1) := by decide +kernel
theorem dX5_nextDriven_48 : decode cX5_nextDriven 48 = .ok (.iaload, 1) := by decide +kernel
theorem dX5_nextDriven_49 : decode cX5_nextDriven 49 = .ok (.iaload, 1) := by decide +kernel
theorem dX5_nextDriven_50 : decode cX5_nextDriven 50 = .ok (.aload_n 0, 1) := by decide +kernel
theorem dX5_nextDriven_51 : decode cX5_nextDriven 51 = .ok (.getfield 32, 3) := by decide +kernel
theorem dX5_nextDriven_54 : decode cX5_nextDriven 54 = .ok (.aload_n 0, 1) := by decide +kernel
theorem dX5_nextDriven_55 : decode cX5_nextDriven 55 = .ok (.getfield 41, 3) := by decide +kernel
theorem dX5_nextDriven_58 : decode cX5_nextDriven 58 = .ok (.iload_n 1, 1) := by decide +kernel
theorem dX5_nextDriven_59 : decode cX5_nextDriven 59 = .ok (.iaload, 1) := by decide +kernel
theorem dX5_nextDriven_60 : decode cX5_nextDriven 60 = .ok (.iaload, 1) := by decide +kernel
theorem dX5_nextDriven_61 : decode cX5_nextDriven 61 = .ok (.if_icmp .le 7, 3) := by decide +kernel
theorem dX5_nextDriven_64 : decode cX5_nextDriven 64 = .ok (.iconst 1, 1) := by decide +kernel
theorem dX5_nextDriven_65 : decode cX5_nextDriven 65 = .ok (.goto 4, 3) := by decide +kernel
theorem dX5_nextDriven_68 : decode cX5_nextDriven 68 = .ok (.iconst 0, 1) := by decide +kernel
theorem dX5_nextDriven_69 : decode cX5_nextDriven 69 = .ok (.istore_n 3, 1) := by decide +kernel
theorem dX5_nextDriven_70 : decode cX5_nextDriven 70 = .ok (.iload_n 3, 1) := by decide +kernel
theorem dX5_nextDriven_71 : decode cX5_nextDriven 71 = .ok (.ifCond .eq 7, 3) := by decide +kernel
theorem dX5_nextDriven_74 : decode cX5_nextDriven 74 = .ok (.iload_n 2, 1) := by decide +kernel
theorem dX5_nextDriven_75 : decode cX5_nextDriven 75 = .ok (.goto 4, 3) := by decide +kernel
theorem dX5_nextDriven_78 : decode cX5_nextDriven 78 = .ok (.iload_n 1, 1) := by decide +kernel
theorem dX5_nextDriven_79 : decode cX5_nextDriven 79 = .ok (.istore_n 1, 1) := by decide +kernel
theorem dX5_nextDriven_80 : decode cX5_nextDriven 80 = .ok (.iinc 2 1, 3) := by decide +kernel
theorem dX5_nextDriven_83 : decode cX5_nextDriven 83 = .ok (.goto (-79), 3) := by decide +kernel
theorem dX5_nextDriven_86 : decode cX5_nextDriven 86 = .ok (.iload_n 1, 1) := by decide +kernel
theorem dX5_nextDriven_87 : decode cX5_nextDriven 87 = .ok (.ireturn, 1) := by decide +kernel
set_option maxRecDepth 20000 in
theorem ggX5_layOpening_X5_layStrengths : GoodIn wsX5_layOpening wsX5_layStrengths := goodIn_r _ [9, 1, 10, 11, 12, 13, 3, 14, 4, 15, 16, 17, 8, 18, 19, 20, 21, 22, 23, 24, 25, 26, 27, 28, 29, 30, 31, 32, 33, 34, 35, 36, 37, 38, 39, 40, 41, 69, 70, 71, 72, 73, 74, 75, 76, 77, 78, 79, 80, 81, 82, 83, 84, 85, 86, 87, 88] (by decide +kernel) (by decide +kernel)
set_option maxRecDepth 20000 in
theorem gX5_layOpening_X5_layStrengths : GoodIn wsX5_layOpening (wsV RX5 98 RX5 yX5_layStrengths wsX5_layStrengths) := goodIn_app (goodIn_of _ (by decide +kernel)) ggX5_layOpening_X5_layStrengths
set_option maxRecDepth 20000 in
theorem ggX5_layOpening_X5_layFails : GoodIn wsX5_layOpening wsX5_layFails := goodIn_r _ [45, 1, 13, 14, 30, 31, 32, 8, 33, 15, 16, 17, 18, 19, 20, 21, 46, 47, 48, 49, 12, 26, 27, 28, 29, 38, 39, 40, 41, 50, 51, 52, 53, 69, 70, 71, 72, 73, 74, 75, 76, 77, 78, 79, 80, 81, 82, 83, 84, 85, 86, 87, 88] (by decide +kernel) (by decide +kernel)
set_option maxRecDepth 20000 in
theorem gX5_layOpening_X5_layFails : GoodIn wsX5_layOpening (wsV RX5 101 RX5 yX5_layFails wsX5_layFails) := goodIn_app (goodIn_of _ (by decide +kernel)) ggX5_layOpening_X5_layFails
set_option maxRecDepth 20000 in
theorem ggX5_layOpening_X5_stays : GoodIn wsX5_layOpening wsX5_stays := goodIn_r _ [53, 13, 30, 31, 32, 8, 33, 15, 16, 17, 18, 1, 19, 20, 21, 69, 70, 71, 72, 73, 74, 75, 76, 77, 78, 79, 80, 81, 82, 83, 84, 85, 86, 87, 88] (by decide +kernel) (by decide +kernel)
set_option maxRecDepth 20000 in
theorem gX5_layOpening_X5_stays : GoodIn wsX5_layOpening (wsV RX5 86 RX5 yX5_stays wsX5_stays) := goodIn_app (goodIn_of _ (by decide +kernel)) ggX5_layOpening_X5_stays
set_option maxRecDepth 20000 in
theorem ggX5_layOpening_X5_of : GoodIn wsX5_layOpening wsX5_of := goodIn_r _ [18, 1, 19, 20, 8, 21, 69, 70, 71, 72, 73, 74, 75, 76, 77, 78, 79, 80, 81, 82, 83, 84, 85, 86, 87, 88] (by decide +kernel) (by decide +kernel)
set_option maxRecDepth 20000 in
theorem gX5_layOpening_X5_of : GoodIn wsX5_layOpening (wsV RX5 65 RX5 yX5_of wsX5_of) := goodIn_app (goodIn_of _ (by decide +kernel)) ggX5_layOpening_X5_of
set_option maxRecDepth 20000 in
theorem ggX5_layOpening_X5_armyOn : GoodIn wsX5_layOpening wsX5_armyOn := goodIn_r _ [41, 1, 15, 16, 17, 8, 18, 19, 20, 21, 69, 70, 71, 72, 73, 74, 75, 76, 77, 78, 79, 80, 81, 82, 83, 84, 85, 86, 87, 88] (by decide +kernel) (by decide +kernel)
set_option maxRecDepth 20000 in
theorem gX5_layOpening_X5_armyOn : GoodIn wsX5_layOpening (wsV RX5 72 RX5 yX5_armyOn wsX5_armyOn) := goodIn_app (goodIn_of _ (by decide +kernel)) ggX5_layOpening_X5_armyOn
set_option maxRecDepth 20000 in
theorem ggX5_layOpening_X5_nextDriven : GoodIn wsX5_layOpening wsX5_nextDriven := goodIn_r _ [57, 1, 3, 4, 12, 69, 70, 71, 72, 73, 74, 75, 76, 77, 78, 79, 80, 81, 82, 83, 84, 85, 86, 87, 88] (by decide +kernel) (by decide +kernel)
set_option maxRecDepth 20000 in
theorem gX5_layOpening_X5_nextDriven : GoodIn wsX5_layOpening (wsV RX5 104 RX5 yX5_nextDriven wsX5_nextDriven) := goodIn_app (goodIn_of _ (by decide +kernel)) ggX5_layOpening_X5_nextDriven
set_option maxRecDepth 20000 in
theorem ggX5_layOpening_X5_retreat : GoodIn wsX5_layOpening wsX5_retreat := goodIn_r _ [61, 3, 15, 16, 17, 8, 18, 1, 19, 20, 21, 62, 63, 64, 65, 66, 67, 68, 2, 13, 14, 69, 70, 71, 72, 73, 74, 75, 76, 77, 78, 79, 80, 81, 82, 83, 84, 85, 86, 87, 88] (by decide +kernel) (by decide +kernel)
set_option maxRecDepth 20000 in
theorem gX5_layOpening_X5_retreat : GoodIn wsX5_layOpening (wsV RX5 108 RX5 yX5_retreat wsX5_retreat) := goodIn_app (goodIn_of _ (by decide +kernel)) ggX5_layOpening_X5_retreat
theorem dX5_layOpening_0 : decode cX5_layOpening 0 = .ok (.aload_n 0, 1) := by decide +kernel
theorem dX5_layOpening_1 : decode cX5_layOpening 1 = .ok (.invokevirtual 98, 3) := by decide +kernel
theorem dX5_layOpening_4 : decode cX5_layOpening 4 = .ok (.aload_n 0, 1) := by decide +kernel
theorem dX5_layOpening_5 : decode cX5_layOpening 5 = .ok (.invokevirtual 101, 3) := by decide +kernel
theorem dX5_layOpening_8 : decode cX5_layOpening 8 = .ok (.iconst 0, 1) := by decide +kernel
theorem dX5_layOpening_9 : decode cX5_layOpening 9 = .ok (.istore_n 1, 1) := by decide +kernel
theorem dX5_layOpening_10 : decode cX5_layOpening 10 = .ok (.iload_n 1, 1) := by decide +kernel
theorem dX5_layOpening_11 : decode cX5_layOpening 11 = .ok (.aload_n 0, 1) := by decide +kernel
theorem dX5_layOpening_12 : decode cX5_layOpening 12 = .ok (.getfield 7, 3) := by decide +kernel
theorem dX5_layOpening_15 : decode cX5_layOpening 15 = .ok (.bipush 9, 2) := by decide +kernel
theorem dX5_layOpening_17 : decode cX5_layOpening 17 = .ok (.iaload, 1) := by decide +kernel
theorem dX5_layOpening_18 : decode cX5_layOpening 18 = .ok (.if_icmp .ge 38, 3) := by decide +kernel
theorem dX5_layOpening_21 : decode cX5_layOpening 21 = .ok (.aload_n 0, 1) := by decide +kernel
theorem dX5_layOpening_22 : decode cX5_layOpening 22 = .ok (.getfield 44, 3) := by decide +kernel
theorem dX5_layOpening_25 : decode cX5_layOpening 25 = .ok (.iload_n 1, 1) := by decide +kernel
theorem dX5_layOpening_26 : decode cX5_layOpening 26 = .ok (.aload_n 0, 1) := by decide +kernel
theorem dX5_layOpening_27 : decode cX5_layOpening 27 = .ok (.iload_n 1, 1) := by decide +kernel
theorem dX5_layOpening_28 : decode cX5_layOpening 28 = .ok (.invokevirtual 86, 3) := by decide +kernel
theorem dX5_layOpening_31 : decode cX5_layOpening 31 = .ok (.ifCond .eq 12, 3) := by decide +kernel
theorem dX5_layOpening_34 : decode cX5_layOpening 34 = .ok (.aload_n 0, 1) := by decide +kernel
theorem dX5_layOpening_35 : decode cX5_layOpening 35 = .ok (.iload_n 1, 1) := by decide +kernel
theorem dX5_layOpening_36 : decode cX5_layOpening 36 = .ok (.iconst 1, 1) := by decide +kernel
theorem dX5_layOpening_37 : decode cX5_layOpening 37 = .ok (.invokevirtual 65, 3) := by decide +kernel
theorem dX5_layOpening_40 : decode cX5_layOpening 40 = .ok (.goto 9, 3) := by decide +kernel
theorem dX5_layOpening_43 : decode cX5_layOpening 43 = .ok (.aload_n 0, 1) := by decide +kernel
theorem dX5_layOpening_44 : decode cX5_layOpening 44 = .ok (.iload_n 1, 1) := by decide +kernel
theorem dX5_layOpening_45 : decode cX5_layOpening 45 = .ok (.iconst 3, 1) := by decide +kernel
theorem dX5_layOpening_46 : decode cX5_layOpening 46 = .ok (.invokevirtual 65, 3) := by decide +kernel
theorem dX5_layOpening_49 : decode cX5_layOpening 49 = .ok (.iastore, 1) := by decide +kernel
theorem dX5_layOpening_50 : decode cX5_layOpening 50 = .ok (.iinc 1 1, 3) := by decide +kernel
theorem dX5_layOpening_53 : decode cX5_layOpening 53 = .ok (.goto (-43), 3) := by decide +kernel
theorem dX5_layOpening_56 : decode cX5_layOpening 56 = .ok (.iconst 0, 1) := by decide +kernel
theorem dX5_layOpening_57 : decode cX5_layOpening 57 = .ok (.istore_n 1, 1) := by decide +kernel
theorem dX5_layOpening_58 : decode cX5_layOpening 58 = .ok (.iload_n 1, 1) := by decide +kernel
theorem dX5_layOpening_59 : decode cX5_layOpening 59 = .ok (.aload_n 0, 1) := by decide +kernel
theorem dX5_layOpening_60 : decode cX5_layOpening 60 = .ok (.getfield 7, 3) := by decide +kernel
theorem dX5_layOpening_63 : decode cX5_layOpening 63 = .ok (.bipush 9, 2) := by decide +kernel
theorem dX5_layOpening_65 : decode cX5_layOpening 65 = .ok (.iaload, 1) := by decide +kernel
theorem dX5_layOpening_66 : decode cX5_layOpening 66 = .ok (.if_icmp .ge 52, 3) := by decide +kernel
theorem dX5_layOpening_69 : decode cX5_layOpening 69 = .ok (.aload_n 0, 1) := by decide +kernel
theorem dX5_layOpening_70 : decode cX5_layOpening 70 = .ok (.iload_n 1, 1) := by decide +kernel
theorem dX5_layOpening_71 : decode cX5_layOpening 71 = .ok (.invokevirtual 86, 3) := by decide +kernel
theorem dX5_layOpening_74 : decode cX5_layOpening 74 = .ok (.ifCond .eq 7, 3) := by decide +kernel
theorem dX5_layOpening_77 : decode cX5_layOpening 77 = .ok (.iconst (-1), 1) := by decide +kernel
theorem dX5_layOpening_78 : decode cX5_layOpening 78 = .ok (.goto 13, 3) := by decide +kernel
theorem dX5_layOpening_81 : decode cX5_layOpening 81 = .ok (.aload_n 0, 1) := by decide +kernel
theorem dX5_layOpening_82 : decode cX5_layOpening 82 = .ok (.aload_n 0, 1) := by decide +kernel
theorem dX5_layOpening_83 : decode cX5_layOpening 83 = .ok (.iload_n 1, 1) := by decide +kernel
theorem dX5_layOpening_84 : decode cX5_layOpening 84 = .ok (.iconst 3, 1) := by decide +kernel
theorem dX5_layOpening_85 : decode cX5_layOpening 85 = .ok (.invokevirtual 65, 3) := by decide +kernel
theorem dX5_layOpening_88 : decode cX5_layOpening 88 = .ok (.invokevirtual 72, 3) := by decide +kernel
theorem dX5_layOpening_91 : decode cX5_layOpening 91 = .ok (.istore_n 2, 1) := by decide +kernel
theorem dX5_layOpening_92 : decode cX5_layOpening 92 = .ok (.iload_n 2, 1) := by decide +kernel
theorem dX5_layOpening_93 : decode cX5_layOpening 93 = .ok (.iconst (-1), 1) := by decide +kernel
theorem dX5_layOpening_94 : decode cX5_layOpening 94 = .ok (.if_icmp .eq 18, 3) := by decide +kernel
theorem dX5_layOpening_97 : decode cX5_layOpening 97 = .ok (.aload_n 0, 1) := by decide +kernel
theorem dX5_layOpening_98 : decode cX5_layOpening 98 = .ok (.iload_n 2, 1) := by decide +kernel
theorem dX5_layOpening_99 : decode cX5_layOpening 99 = .ok (.invokevirtual 86, 3) := by decide +kernel
theorem dX5_layOpening_102 : decode cX5_layOpening 102 = .ok (.ifCond .eq 10, 3) := by decide +kernel
theorem dX5_layOpening_105 : decode cX5_layOpening 105 = .ok (.aload_n 0, 1) := by decide +kernel
theorem dX5_layOpening_106 : decode cX5_layOpening 106 = .ok (.getfield 41, 3) := by decide +kernel
theorem dX5_layOpening_109 : decode cX5_layOpening 109 = .ok (.iload_n 2, 1) := by decide +kernel
theorem dX5_layOpening_110 : decode cX5_layOpening 110 = .ok (.iload_n 1, 1) := by decide +kernel
theorem dX5_layOpening_111 : decode cX5_layOpening 111 = .ok (.iastore, 1) := by decide +kernel
theorem dX5_layOpening_112 : decode cX5_layOpening 112 = .ok (.iinc 1 1, 3) := by decide +kernel
theorem dX5_layOpening_115 : decode cX5_layOpening 115 = .ok (.goto (-57), 3) := by decide +kernel
theorem dX5_layOpening_118 : decode cX5_layOpening 118 = .ok (.aload_n 0, 1) := by decide +kernel
theorem dX5_layOpening_119 : decode cX5_layOpening 119 = .ok (.invokevirtual 104, 3) := by decide +kernel
theorem dX5_layOpening_122 : decode cX5_layOpening 122 = .ok (.istore_n 1, 1) := by decide +kernel
theorem dX5_layOpening_123 : decode cX5_layOpening 123 = .ok (.iload_n 1, 1) := by decide +kernel
theorem dX5_layOpening_124 : decode cX5_layOpening 124 = .ok (.iconst (-1), 1) := by decide +kernel
