theorem dX5_init_0 : decode cX5_init 0 = .ok (.aload_n 0, 1) := by decide +kernel
theorem dX5_init_1 : decode cX5_init 1 = .ok (.invokespecial 1, 3) := by decide +kernel
theorem dX5_init_4 : decode cX5_init 4 = .ok (.aload_n 0, 1) := by decide +kernel
theorem dX5_init_5 : decode cX5_init 5 = .ok (.iconst 3, 1) := by decide +kernel
theorem dX5_init_6 : decode cX5_init 6 = .ok (.newarray .int, 2) := by decide +kernel
theorem dX5_init_8 : decode cX5_init 8 = .ok (.putfield 7, 3) := by decide +kernel
theorem dX5_init_11 : decode cX5_init 11 = .ok (.aload_n 0, 1) := by decide +kernel
theorem dX5_init_12 : decode cX5_init 12 = .ok (.iconst 3, 1) := by decide +kernel
theorem dX5_init_13 : decode cX5_init 13 = .ok (.newarray .int, 2) := by decide +kernel
theorem dX5_init_15 : decode cX5_init 15 = .ok (.putfield 13, 3) := by decide +kernel
theorem dX5_init_18 : decode cX5_init 18 = .ok (.aload_n 0, 1) := by decide +kernel
theorem dX5_init_19 : decode cX5_init 19 = .ok (.bipush 6, 2) := by decide +kernel
theorem dX5_init_21 : decode cX5_init 21 = .ok (.newarray .int, 2) := by decide +kernel
theorem dX5_init_23 : decode cX5_init 23 = .ok (.putfield 16, 3) := by decide +kernel
theorem dX5_init_26 : decode cX5_init 26 = .ok (.aload_n 0, 1) := by decide +kernel
theorem dX5_init_27 : decode cX5_init 27 = .ok (.bipush 6, 2) := by decide +kernel
theorem dX5_init_29 : decode cX5_init 29 = .ok (.newarray .int, 2) := by decide +kernel
theorem dX5_init_31 : decode cX5_init 31 = .ok (.putfield 19, 3) := by decide +kernel
theorem dX5_init_34 : decode cX5_init 34 = .ok (.aload_n 0, 1) := by decide +kernel
theorem dX5_init_35 : decode cX5_init 35 = .ok (.bipush 6, 2) := by decide +kernel
theorem dX5_init_37 : decode cX5_init 37 = .ok (.newarray .int, 2) := by decide +kernel
theorem dX5_init_39 : decode cX5_init 39 = .ok (.putfield 22, 3) := by decide +kernel
theorem dX5_init_42 : decode cX5_init 42 = .ok (.aload_n 0, 1) := by decide +kernel
theorem dX5_init_43 : decode cX5_init 43 = .ok (.bipush 26, 2) := by decide +kernel
theorem dX5_init_45 : decode cX5_init 45 = .ok (.newarray .byte, 2) := by decide +kernel
theorem dX5_init_47 : decode cX5_init 47 = .ok (.putfield 25, 3) := by decide +kernel
theorem dX5_init_50 : decode cX5_init 50 = .ok (.aload_n 0, 1) := by decide +kernel
theorem dX5_init_51 : decode cX5_init 51 = .ok (.bipush 72, 2) := by decide +kernel
theorem dX5_init_53 : decode cX5_init 53 = .ok (.newarray .int, 2) := by decide +kernel
theorem dX5_init_55 : decode cX5_init 55 = .ok (.putfield 29, 3) := by decide +kernel
theorem dX5_init_58 : decode cX5_init 58 = .ok (.aload_n 0, 1) := by decide +kernel
theorem dX5_init_59 : decode cX5_init 59 = .ok (.bipush 72, 2) := by decide +kernel
theorem dX5_init_61 : decode cX5_init 61 = .ok (.newarray .int, 2) := by decide +kernel
theorem dX5_init_63 : decode cX5_init 63 = .ok (.putfield 32, 3) := by decide +kernel
theorem dX5_init_66 : decode cX5_init 66 = .ok (.aload_n 0, 1) := by decide +kernel
theorem dX5_init_67 : decode cX5_init 67 = .ok (.iconst 3, 1) := by decide +kernel
theorem dX5_init_68 : decode cX5_init 68 = .ok (.newarray .int, 2) := by decide +kernel
theorem dX5_init_70 : decode cX5_init 70 = .ok (.putfield 35, 3) := by decide +kernel
theorem dX5_init_73 : decode cX5_init 73 = .ok (.aload_n 0, 1) := by decide +kernel
theorem dX5_init_74 : decode cX5_init 74 = .ok (.bipush 72, 2) := by decide +kernel
theorem dX5_init_76 : decode cX5_init 76 = .ok (.newarray .int, 2) := by decide +kernel
theorem dX5_init_78 : decode cX5_init 78 = .ok (.putfield 38, 3) := by decide +kernel
theorem dX5_init_81 : decode cX5_init 81 = .ok (.aload_n 0, 1) := by decide +kernel
theorem dX5_init_82 : decode cX5_init 82 = .ok (.iconst 3, 1) := by decide +kernel
theorem dX5_init_83 : decode cX5_init 83 = .ok (.newarray .int, 2) := by decide +kernel
theorem dX5_init_85 : decode cX5_init 85 = .ok (.putfield 41, 3) := by decide +kernel
theorem dX5_init_88 : decode cX5_init 88 = .ok (.aload_n 0, 1) := by decide +kernel
theorem dX5_init_89 : decode cX5_init 89 = .ok (.iconst 3, 1) := by decide +kernel
theorem dX5_init_90 : decode cX5_init 90 = .ok (.newarray .int, 2) := by decide +kernel
theorem dX5_init_92 : decode cX5_init 92 = .ok (.putfield 44, 3) := by decide +kernel
theorem dX5_init_95 : decode cX5_init 95 = .ok (.aload_n 0, 1) := by decide +kernel
theorem dX5_init_96 : decode cX5_init 96 = .ok (.iconst 3, 1) := by decide +kernel
theorem dX5_init_97 : decode cX5_init 97 = .ok (.newarray .int, 2) := by decide +kernel
theorem dX5_init_99 : decode cX5_init 99 = .ok (.putfield 47, 3) := by decide +kernel
theorem dX5_init_102 : decode cX5_init 102 = .ok (.aload_n 0, 1) := by decide +kernel
theorem dX5_init_103 : decode cX5_init 103 = .ok (.bipush 6, 2) := by decide +kernel
theorem dX5_init_105 : decode cX5_init 105 = .ok (.newarray .int, 2) := by decide +kernel
theorem dX5_init_107 : decode cX5_init 107 = .ok (.putfield 50, 3) := by decide +kernel
theorem dX5_init_110 : decode cX5_init 110 = .ok (.aload_n 0, 1) := by decide +kernel
theorem dX5_init_111 : decode cX5_init 111 = .ok (.bipush 6, 2) := by decide +kernel
theorem dX5_init_113 : decode cX5_init 113 = .ok (.newarray .int, 2) := by decide +kernel
theorem dX5_init_115 : decode cX5_init 115 = .ok (.putfield 53, 3) := by decide +kernel
theorem dX5_init_118 : decode cX5_init 118 = .ok (.aload_n 0, 1) := by decide +kernel
theorem dX5_init_119 : decode cX5_init 119 = .ok (.bipush 6, 2) := by decide +kernel
theorem dX5_init_121 : decode cX5_init 121 = .ok (.newarray .int, 2) := by decide +kernel
theorem dX5_init_123 : decode cX5_init 123 = .ok (.putfield 56, 3) := by decide +kernel
theorem dX5_init_126 : decode cX5_init 126 = .ok (.return_, 1) := by decide +kernel
theorem dX5_within_0 : decode cX5_within 0 = .ok (.iload_n 0, 1) := by decide +kernel
theorem dX5_within_1 : decode cX5_within 1 = .ok (.iload_n 1, 1) := by decide +kernel
theorem dX5_within_2 : decode cX5_within 2 = .ok (.if_icmp .lt 12, 3) := by decide +kernel
theorem dX5_within_5 : decode cX5_within 5 = .ok (.iload_n 0, 1) := by decide +kernel
theorem dX5_within_6 : decode cX5_within 6 = .ok (.iload_n 2, 1) := by decide +kernel
theorem dX5_within_7 : decode cX5_within 7 = .ok (.if_icmp .gt 7, 3) := by decide +kernel
theorem dX5_within_10 : decode cX5_within 10 = .ok (.iconst 1, 1) := by decide +kernel
theorem dX5_within_11 : decode cX5_within 11 = .ok (.goto 4, 3) := by decide +kernel
theorem dX5_within_14 : decode cX5_within 14 = .ok (.iconst 0, 1) := by decide +kernel
theorem dX5_within_15 : decode cX5_within 15 = .ok (.ireturn, 1) := by decide +kernel
theorem dX5_isIn_0 : decode cX5_isIn 0 = .ok (.iload_n 0, 1) := by decide +kernel
theorem dX5_isIn_1 : decode cX5_isIn 1 = .ok (.iload_n 1, 1) := by decide +kernel
theorem dX5_isIn_2 : decode cX5_isIn 2 = .ok (.ishr, 1) := by decide +kernel
theorem dX5_isIn_3 : decode cX5_isIn 3 = .ok (.iconst 1, 1) := by decide +kernel
theorem dX5_isIn_4 : decode cX5_isIn 4 = .ok (.iand, 1) := by decide +kernel
theorem dX5_isIn_5 : decode cX5_isIn 5 = .ok (.iconst 1, 1) := by decide +kernel
theorem dX5_isIn_6 : decode cX5_isIn 6 = .ok (.if_icmp .ne 7, 3) := by decide +kernel
theorem dX5_isIn_9 : decode cX5_isIn 9 = .ok (.iconst 1, 1) := by decide +kernel
theorem dX5_isIn_10 : decode cX5_isIn 10 = .ok (.goto 4, 3) := by decide +kernel
theorem dX5_isIn_13 : decode cX5_isIn 13 = .ok (.iconst 0, 1) := by decide +kernel
theorem dX5_isIn_14 : decode cX5_isIn 14 = .ok (.ireturn, 1) := by decide +kernel
theorem dX5_size_0 : decode cX5_size 0 = .ok (.iconst 0, 1) := by decide +kernel
theorem dX5_size_1 : decode cX5_size 1 = .ok (.istore_n 1, 1) := by decide +kernel
theorem dX5_size_2 : decode cX5_size 2 = .ok (.iconst 0, 1) := by decide +kernel
theorem dX5_size_3 : decode cX5_size 3 = .ok (.istore_n 2, 1) := by decide +kernel
theorem dX5_size_4 : decode cX5_size 4 = .ok (.iload_n 2, 1) := by decide +kernel
theorem dX5_size_5 : decode cX5_size 5 = .ok (.bipush 6, 2) := by decide +kernel
theorem dX5_size_7 : decode cX5_size 7 = .ok (.if_icmp .ge 17, 3) := by decide +kernel
theorem dX5_size_10 : decode cX5_size 10 = .ok (.iload_n 1, 1) := by decide +kernel
theorem dX5_size_11 : decode cX5_size 11 = .ok (.iload_n 0, 1) := by decide +kernel
theorem dX5_size_12 : decode cX5_size 12 = .ok (.iload_n 2, 1) := by decide +kernel
theorem dX5_size_13 : decode cX5_size 13 = .ok (.ishr, 1) := by decide +kernel
theorem dX5_size_14 : decode cX5_size 14 = .ok (.iconst 1, 1) := by decide +kernel
theorem dX5_size_15 : decode cX5_size 15 = .ok (.iand, 1) := by decide +kernel
theorem dX5_size_16 : decode cX5_size 16 = .ok (.iadd, 1) := by decide +kernel
theorem dX5_size_17 : decode cX5_size 17 = .ok (.istore_n 1, 1) := by decide +kernel
theorem dX5_size_18 : decode cX5_size 18 = .ok (.iinc 2 1, 3) := by decide +kernel
theorem dX5_size_21 : decode cX5_size 21 = .ok (.goto (-17), 3) := by decide +kernel
theorem dX5_size_24 : decode cX5_size 24 = .ok (.iload_n 1, 1) := by decide +kernel
theorem dX5_size_25 : decode cX5_size 25 = .ok (.ireturn, 1) := by decide +kernel
theorem dX5_divisor_0 : decode cX5_divisor 0 = .ok (.iload_n 0, 1) := by decide +kernel
theorem dX5_divisor_1 : decode cX5_divisor 1 = .ok (.istore_n 2, 1) := by decide +kernel
theorem dX5_divisor_2 : decode cX5_divisor 2 = .ok (.iload_n 1, 1) := by decide +kernel
theorem dX5_divisor_3 : decode cX5_divisor 3 = .ok (.istore_n 3, 1) := by decide +kernel
theorem dX5_divisor_4 : decode cX5_divisor 4 = .ok (.iload_n 3, 1) := by decide +kernel
theorem dX5_divisor_5 : decode cX5_divisor 5 = .ok (.ifCond .eq 16, 3) := by decide +kernel
theorem dX5_divisor_8 : decode cX5_divisor 8 = .ok (.iload_n 2, 1) := by decide +kernel
theorem dX5_divisor_9 : decode cX5_divisor 9 = .ok (.iload_n 3, 1) := by decide +kernel
theorem dX5_divisor_10 : decode cX5_divisor 10 = .ok (.irem, 1) := by decide +kernel
theorem dX5_divisor_11 : decode cX5_divisor 11 = .ok (.istore 4, 2) := by decide +kernel
theorem dX5_divisor_13 : decode cX5_divisor 13 = .ok (.iload_n 3, 1) := by decide +kernel
theorem dX5_divisor_14 : decode cX5_divisor 14 = .ok (.istore_n 2, 1) := by decide +kernel
theorem dX5_divisor_15 : decode cX5_divisor 15 = .ok (.iload 4, 2) := by decide +kernel
theorem dX5_divisor_17 : decode cX5_divisor 17 = .ok (.istore_n 3, 1) := by decide +kernel
theorem dX5_divisor_18 : decode cX5_divisor 18 = .ok (.goto (-14), 3) := by decide +kernel
theorem dX5_divisor_21 : decode cX5_divisor 21 = .ok (.iload_n 2, 1) := by decide +kernel
theorem dX5_divisor_22 : decode cX5_divisor 22 = .ok (.ireturn, 1) := by decide +kernel
set_option maxRecDepth 20000 in
theorem ggX5_letter_X5_within : GoodIn wsX5_letter wsX5_within := gdW wa_270 (by decide +kernel) (by decide +kernel)
set_option maxRecDepth 20000 in
theorem gX5_letter_X5_within : GoodIn wsX5_letter (va_wsS RX5 59 yX5_within wsX5_within) := (gd1 wa_268 (by decide +kernel) (gd1 wa_269 (by decide +kernel) (gd1 wa_5 (by decide +kernel) ggX5_letter_X5_within)))
theorem dX5_letter_0 : decode cX5_letter 0 = .ok (.iload_n 1, 1) := by decide +kernel
theorem dX5_letter_1 : decode cX5_letter 1 = .ok (.bipush 32, 2) := by decide +kernel
theorem dX5_letter_3 : decode cX5_letter 3 = .ok (.bipush 126, 2) := by decide +kernel
theorem dX5_letter_5 : decode cX5_letter 5 = .ok (.invokestatic 59, 3) := by decide +kernel
theorem dX5_letter_8 : decode cX5_letter 8 = .ok (.ifCond .ne 6, 3) := by decide +kernel
theorem dX5_letter_11 : decode cX5_letter 11 = .ok (.bipush (-102), 2) := by decide +kernel
theorem dX5_letter_13 : decode cX5_letter 13 = .ok (.ireturn, 1) := by decide +kernel
theorem dX5_letter_14 : decode cX5_letter 14 = .ok (.aload_n 0, 1) := by decide +kernel
theorem dX5_letter_15 : decode cX5_letter 15 = .ok (.getfield 63, 3) := by decide +kernel
theorem dX5_letter_18 : decode cX5_letter 18 = .ok (.bipush 26, 2) := by decide +kernel
theorem dX5_letter_20 : decode cX5_letter 20 = .ok (.if_icmp .ne 6, 3) := by decide +kernel
theorem dX5_letter_23 : decode cX5_letter 23 = .ok (.bipush (-104), 2) := by decide +kernel
theorem dX5_letter_25 : decode cX5_letter 25 = .ok (.ireturn, 1) := by decide +kernel
theorem dX5_letter_26 : decode cX5_letter 26 = .ok (.aload_n 0, 1) := by decide +kernel
theorem dX5_letter_27 : decode cX5_letter 27 = .ok (.getfield 25, 3) := by decide +kernel
theorem dX5_letter_30 : decode cX5_letter 30 = .ok (.aload_n 0, 1) := by decide +kernel
theorem dX5_letter_31 : decode cX5_letter 31 = .ok (.getfield 63, 3) := by decide +kernel
theorem dX5_letter_34 : decode cX5_letter 34 = .ok (.iload_n 1, 1) := by decide +kernel
theorem dX5_letter_35 : decode cX5_letter 35 = .ok (.i2b, 1) := by decide +kernel
theorem dX5_letter_36 : decode cX5_letter 36 = .ok (.bastore, 1) := by decide +kernel
theorem dX5_letter_37 : decode cX5_letter 37 = .ok (.aload_n 0, 1) := by decide +kernel
theorem dX5_letter_38 : decode cX5_letter 38 = .ok (.dup, 1) := by decide +kernel
theorem dX5_letter_39 : decode cX5_letter 39 = .ok (.getfield 63, 3) := by decide +kernel
theorem dX5_letter_42 : decode cX5_letter 42 = .ok (.iconst 1, 1) := by decide +kernel
theorem dX5_letter_43 : decode cX5_letter 43 = .ok (.iadd, 1) := by decide +kernel
theorem dX5_letter_44 : decode cX5_letter 44 = .ok (.putfield 63, 3) := by decide +kernel
theorem dX5_letter_47 : decode cX5_letter 47 = .ok (.aload_n 0, 1) := by decide +kernel
theorem dX5_letter_48 : decode cX5_letter 48 = .ok (.getfield 63, 3) := by decide +kernel
theorem dX5_letter_51 : decode cX5_letter 51 = .ok (.ireturn, 1) := by decide +kernel
theorem dX5_blank_0 : decode cX5_blank 0 = .ok (.aload_n 0, 1) := by decide +kernel
theorem dX5_blank_1 : decode cX5_blank 1 = .ok (.getfield 63, 3) := by decide +kernel
theorem dX5_blank_4 : decode cX5_blank 4 = .ok (.istore_n 1, 1) := by decide +kernel
theorem dX5_blank_5 : decode cX5_blank 5 = .ok (.aload_n 0, 1) := by decide +kernel
theorem dX5_blank_6 : decode cX5_blank 6 = .ok (.iconst 0, 1) := by decide +kernel
theorem dX5_blank_7 : decode cX5_blank 7 = .ok (.putfield 63, 3) := by decide +kernel
theorem dX5_blank_10 : decode cX5_blank 10 = .ok (.iload_n 1, 1) := by decide +kernel
theorem dX5_blank_11 : decode cX5_blank 11 = .ok (.ireturn, 1) := by decide +kernel
theorem dX5_kindBy_0 : decode cX5_kindBy 0 = .ok (.iload_n 0, 1) := by decide +kernel
theorem dX5_kindBy_1 : decode cX5_kindBy 1 = .ok (.lookupswitch 61 #[(99, 51), (102, 57), (104, 59), (115, 53), (116, 55)], 51) := by decide +kernel
theorem dX5_kindBy_52 : decode cX5_kindBy 52 = .ok (.iconst 0, 1) := by decide +kernel
theorem dX5_kindBy_53 : decode cX5_kindBy 53 = .ok (.ireturn, 1) := by decide +kernel
theorem dX5_kindBy_54 : decode cX5_kindBy 54 = .ok (.iconst 1, 1) := by decide +kernel
theorem dX5_kindBy_55 : decode cX5_kindBy 55 = .ok (.ireturn, 1) := by decide +kernel
theorem dX5_kindBy_56 : decode cX5_kindBy 56 = .ok (.iconst 2, 1) := by decide +kernel
theorem dX5_kindBy_57 : decode cX5_kindBy 57 = .ok (.ireturn, 1) := by decide +kernel
theorem dX5_kindBy_58 : decode cX5_kindBy 58 = .ok (.iconst 3, 1) := by decide +kernel
theorem dX5_kindBy_59 : decode cX5_kindBy 59 = .ok (.ireturn, 1) := by decide +kernel
theorem dX5_kindBy_60 : decode cX5_kindBy 60 = .ok (.iconst 4, 1) := by decide +kernel
theorem dX5_kindBy_61 : decode cX5_kindBy 61 = .ok (.ireturn, 1) := by decide +kernel
theorem dX5_kindBy_62 : decode cX5_kindBy 62 = .ok (.iconst (-1), 1) := by decide +kernel
theorem dX5_kindBy_63 : decode cX5_kindBy 63 = .ok (.ireturn, 1) := by decide +kernel
theorem dX5_at_0 : decode cX5_at 0 = .ok (.iload_n 1, 1) := by decide +kernel
theorem dX5_at_1 : decode cX5_at 1 = .ok (.aload_n 0, 1) := by decide +kernel
theorem dX5_at_2 : decode cX5_at 2 = .ok (.getfield 63, 3) := by decide +kernel
theorem dX5_at_5 : decode cX5_at 5 = .ok (.if_icmp .ge 12, 3) := by decide +kernel
theorem dX5_at_8 : decode cX5_at 8 = .ok (.aload_n 0, 1) := by decide +kernel
theorem dX5_at_9 : decode cX5_at 9 = .ok (.getfield 25, 3) := by decide +kernel
theorem dX5_at_12 : decode cX5_at 12 = .ok (.iload_n 1, 1) := by decide +kernel
theorem dX5_at_13 : decode cX5_at 13 = .ok (.baload, 1) := by decide +kernel
theorem dX5_at_14 : decode cX5_at 14 = .ok (.goto 4, 3) := by decide +kernel
theorem dX5_at_17 : decode cX5_at 17 = .ok (.iconst 0, 1) := by decide +kernel
theorem dX5_at_18 : decode cX5_at 18 = .ok (.ireturn, 1) := by decide +kernel
set_option maxRecDepth 20000 in
theorem ggX5_readCube_X5_at : GoodIn wsX5_readCube wsX5_at := gdW wa_592 (by decide +kernel) (by decide +kernel)
set_option maxRecDepth 20000 in
theorem gX5_readCube_X5_at : GoodIn wsX5_readCube (wsV RX5 67 RX5 yX5_at wsX5_at) := (gd1 wa_589 (by decide +kernel) (gd1 wa_590 (by decide +kernel) (gd1 wa_591 (by decide +kernel) (gd1 wa_5 (by decide +kernel) ggX5_readCube_X5_at))))
set_option maxRecDepth 20000 in
theorem ggX5_readCube_X5_kindBy : GoodIn wsX5_readCube wsX5_kindBy := gdW wa_595 (by decide +kernel) (by decide +kernel)
set_option maxRecDepth 20000 in
theorem gX5_readCube_X5_kindBy : GoodIn wsX5_readCube (va_wsS RX5 71 yX5_kindBy wsX5_kindBy) := (gd1 wa_593 (by decide +kernel) (gd1 wa_594 (by decide +kernel) (gd1 wa_5 (by decide +kernel) ggX5_readCube_X5_kindBy)))
set_option maxRecDepth 20000 in
theorem ggX5_readCube_X5_within : GoodIn wsX5_readCube wsX5_within := gdW wa_270 (by decide +kernel) (by decide +kernel)
set_option maxRecDepth 20000 in
theorem gX5_readCube_X5_within : GoodIn wsX5_readCube (va_wsS RX5 59 yX5_within wsX5_within) := (gd1 wa_268 (by decide +kernel) (gd1 wa_269 (by decide +kernel) (gd1 wa_5 (by decide +kernel) ggX5_readCube_X5_within)))
theorem dX5_readCube_0 : decode cX5_readCube 0 = .ok (.aload_n 0, 1) := by decide +kernel
theorem dX5_readCube_1 : decode cX5_readCube 1 = .ok (.iload_n 1, 1) := by decide +kernel
theorem dX5_readCube_2 : decode cX5_readCube 2 = .ok (.invokevirtual 67, 3) := by decide +kernel
theorem dX5_readCube_5 : decode cX5_readCube 5 = .ok (.invokestatic 71, 3) := by decide +kernel
theorem dX5_readCube_8 : decode cX5_readCube 8 = .ok (.iconst (-1), 1) := by decide +kernel
theorem dX5_readCube_9 : decode cX5_readCube 9 = .ok (.if_icmp .ne 5, 3) := by decide +kernel
theorem dX5_readCube_12 : decode cX5_readCube 12 = .ok (.iload_n 1, 1) := by decide +kernel
theorem dX5_readCube_13 : decode cX5_readCube 13 = .ok (.ireturn, 1) := by decide +kernel
theorem dX5_readCube_14 : decode cX5_readCube 14 = .ok (.iload_n 1, 1) := by decide +kernel
theorem dX5_readCube_15 : decode cX5_readCube 15 = .ok (.iconst 1, 1) := by decide +kernel
theorem dX5_readCube_16 : decode cX5_readCube 16 = .ok (.iadd, 1) := by decide +kernel
theorem dX5_readCube_17 : decode cX5_readCube 17 = .ok (.istore_n 2, 1) := by decide +kernel
theorem dX5_readCube_18 : decode cX5_readCube 18 = .ok (.iload_n 2, 1) := by decide +kernel
theorem dX5_readCube_19 : decode cX5_readCube 19 = .ok (.iload_n 1, 1) := by decide +kernel
theorem dX5_readCube_20 : decode cX5_readCube 20 = .ok (.bipush 6, 2) := by decide +kernel
theorem dX5_readCube_22 : decode cX5_readCube 22 = .ok (.iadd, 1) := by decide +kernel
theorem dX5_readCube_23 : decode cX5_readCube 23 = .ok (.if_icmp .gt 25, 3) := by decide +kernel
theorem dX5_readCube_26 : decode cX5_readCube 26 = .ok (.aload_n 0, 1) := by decide +kernel
theorem dX5_readCube_27 : decode cX5_readCube 27 = .ok (.iload_n 2, 1) := by decide +kernel
theorem dX5_readCube_28 : decode cX5_readCube 28 = .ok (.invokevirtual 67, 3) := by decide +kernel
theorem dX5_readCube_31 : decode cX5_readCube 31 = .ok (.bipush 97, 2) := by decide +kernel
theorem dX5_readCube_33 : decode cX5_readCube 33 = .ok (.isub, 1) := by decide +kernel
theorem dX5_readCube_34 : decode cX5_readCube 34 = .ok (.iconst 0, 1) := by decide +kernel
theorem dX5_readCube_35 : decode cX5_readCube 35 = .ok (.iconst 5, 1) := by decide +kernel
theorem dX5_readCube_36 : decode cX5_readCube 36 = .ok (.invokestatic 59, 3) := by decide +kernel
theorem dX5_readCube_39 : decode cX5_readCube 39 = .ok (.ifCond .eq 9, 3) := by decide +kernel
theorem dX5_readCube_42 : decode cX5_readCube 42 = .ok (.iinc 2 1, 3) := by decide +kernel
theorem dX5_readCube_45 : decode cX5_readCube 45 = .ok (.goto (-27), 3) := by decide +kernel
theorem dX5_readCube_48 : decode cX5_readCube 48 = .ok (.iload_n 2, 1) := by decide +kernel
theorem dX5_readCube_49 : decode cX5_readCube 49 = .ok (.ireturn, 1) := by decide +kernel
set_option maxRecDepth 20000 in
theorem ggX5_read_X5_readCube : GoodIn wsX5_read wsX5_readCube := gdW wa_588 (by decide +kernel) (by decide +kernel)
set_option maxRecDepth 20000 in
theorem gX5_read_X5_readCube : GoodIn wsX5_read (wsV RX5 81 RX5 yX5_readCube wsX5_readCube) := (gd1 wa_585 (by decide +kernel) (gd1 wa_586 (by decide +kernel) (gd1 wa_587 (by decide +kernel) (gd1 wa_5 (by decide +kernel) ggX5_read_X5_readCube))))
set_option maxRecDepth 20000 in
theorem ggX5_read_X5_at : GoodIn wsX5_read wsX5_at := gdW wa_592 (by decide +kernel) (by decide +kernel)
set_option maxRecDepth 20000 in
theorem gX5_read_X5_at : GoodIn wsX5_read (wsV RX5 67 RX5 yX5_at wsX5_at) := (gd1 wa_589 (by decide +kernel) (gd1 wa_590 (by decide +kernel) (gd1 wa_591 (by decide +kernel) (gd1 wa_5 (by decide +kernel) ggX5_read_X5_at))))
theorem dX5_read_0 : decode cX5_read 0 = .ok (.aload_n 0, 1) := by decide +kernel
theorem dX5_read_1 : decode cX5_read 1 = .ok (.iconst 0, 1) := by decide +kernel
theorem dX5_read_2 : decode cX5_read 2 = .ok (.putfield 74, 3) := by decide +kernel
theorem dX5_read_5 : decode cX5_read 5 = .ok (.aload_n 0, 1) := by decide +kernel
theorem dX5_read_6 : decode cX5_read 6 = .ok (.iconst 0, 1) := by decide +kernel
theorem dX5_read_7 : decode cX5_read 7 = .ok (.putfield 78, 3) := by decide +kernel
theorem dX5_read_10 : decode cX5_read 10 = .ok (.iconst 0, 1) := by decide +kernel
theorem dX5_read_11 : decode cX5_read 11 = .ok (.istore_n 1, 1) := by decide +kernel
theorem dX5_read_12 : decode cX5_read 12 = .ok (.aload_n 0, 1) := by decide +kernel
theorem dX5_read_13 : decode cX5_read 13 = .ok (.getfield 78, 3) := by decide +kernel
theorem dX5_read_16 : decode cX5_read 16 = .ok (.iconst 3, 1) := by decide +kernel
theorem dX5_read_17 : decode cX5_read 17 = .ok (.if_icmp .ge 84, 3) := by decide +kernel
theorem dX5_read_20 : decode cX5_read 20 = .ok (.aload_n 0, 1) := by decide +kernel
theorem dX5_read_21 : decode cX5_read 21 = .ok (.iload_n 1, 1) := by decide +kernel
theorem dX5_read_22 : decode cX5_read 22 = .ok (.invokevirtual 81, 3) := by decide +kernel
theorem dX5_read_25 : decode cX5_read 25 = .ok (.istore_n 2, 1) := by decide +kernel
theorem dX5_read_26 : decode cX5_read 26 = .ok (.iload_n 2, 1) := by decide +kernel
theorem dX5_read_27 : decode cX5_read 27 = .ok (.iload_n 1, 1) := by decide +kernel
theorem dX5_read_28 : decode cX5_read 28 = .ok (.iconst 1, 1) := by decide +kernel
theorem dX5_read_29 : decode cX5_read 29 = .ok (.iadd, 1) := by decide +kernel
theorem dX5_read_30 : decode cX5_read 30 = .ok (.bipush 6, 2) := by decide +kernel
theorem dX5_read_32 : decode cX5_read 32 = .ok (.iadd, 1) := by decide +kernel
theorem dX5_read_33 : decode cX5_read 33 = .ok (.if_icmp .eq 5, 3) := by decide +kernel
theorem dX5_read_36 : decode cX5_read 36 = .ok (.iload_n 2, 1) := by decide +kernel
theorem dX5_read_37 : decode cX5_read 37 = .ok (.ireturn, 1) := by decide +kernel
theorem dX5_read_38 : decode cX5_read 38 = .ok (.aload_n 0, 1) := by decide +kernel
theorem dX5_read_39 : decode cX5_read 39 = .ok (.dup, 1) := by decide +kernel
theorem dX5_read_40 : decode cX5_read 40 = .ok (.getfield 78, 3) := by decide +kernel
theorem dX5_read_43 : decode cX5_read 43 = .ok (.iconst 1, 1) := by decide +kernel
theorem dX5_read_44 : decode cX5_read 44 = .ok (.iadd, 1) := by decide +kernel
theorem dX5_read_45 : decode cX5_read 45 = .ok (.putfield 78, 3) := by decide +kernel
theorem dX5_read_48 : decode cX5_read 48 = .ok (.iload_n 2, 1) := by decide +kernel
theorem dX5_read_49 : decode cX5_read 49 = .ok (.istore_n 1, 1) := by decide +kernel
theorem dX5_read_50 : decode cX5_read 50 = .ok (.aload_n 0, 1) := by decide +kernel
theorem dX5_read_51 : decode cX5_read 51 = .ok (.aload_n 0, 1) := by decide +kernel
theorem dX5_read_52 : decode cX5_read 52 = .ok (.getfield 78, 3) := by decide +kernel
theorem dX5_read_55 : decode cX5_read 55 = .ok (.iconst 1, 1) := by decide +kernel
theorem dX5_read_56 : decode cX5_read 56 = .ok (.if_icmp .le 15, 3) := by decide +kernel
theorem dX5_read_59 : decode cX5_read 59 = .ok (.iload_n 1, 1) := by decide +kernel
theorem dX5_read_60 : decode cX5_read 60 = .ok (.aload_n 0, 1) := by decide +kernel
theorem dX5_read_61 : decode cX5_read 61 = .ok (.getfield 63, 3) := by decide +kernel
theorem dX5_read_64 : decode cX5_read 64 = .ok (.if_icmp .ne 7, 3) := by decide +kernel
theorem dX5_read_67 : decode cX5_read 67 = .ok (.iconst 1, 1) := by decide +kernel
theorem dX5_read_68 : decode cX5_read 68 = .ok (.goto 4, 3) := by decide +kernel
theorem dX5_read_71 : decode cX5_read 71 = .ok (.iconst 0, 1) := by decide +kernel
theorem dX5_read_72 : decode cX5_read 72 = .ok (.putfield 74, 3) := by decide +kernel
theorem dX5_read_75 : decode cX5_read 75 = .ok (.aload_n 0, 1) := by decide +kernel
theorem dX5_read_76 : decode cX5_read 76 = .ok (.getfield 78, 3) := by decide +kernel
theorem dX5_read_79 : decode cX5_read 79 = .ok (.iconst 3, 1) := by decide +kernel
theorem dX5_read_80 : decode cX5_read 80 = .ok (.if_icmp .eq 13, 3) := by decide +kernel
theorem dX5_read_83 : decode cX5_read 83 = .ok (.aload_n 0, 1) := by decide +kernel
theorem dX5_read_84 : decode cX5_read 84 = .ok (.iload_n 1, 1) := by decide +kernel
theorem dX5_read_85 : decode cX5_read 85 = .ok (.invokevirtual 67, 3) := by decide +kernel
theorem dX5_read_88 : decode cX5_read 88 = .ok (.bipush 44, 2) := by decide +kernel
theorem dX5_read_90 : decode cX5_read 90 = .ok (.if_icmp .eq 5, 3) := by decide +kernel
theorem dX5_read_93 : decode cX5_read 93 = .ok (.iload_n 1, 1) := by decide +kernel
theorem dX5_read_94 : decode cX5_read 94 = .ok (.ireturn, 1) := by decide +kernel
theorem dX5_read_95 : decode cX5_read 95 = .ok (.iinc 1 1, 3) := by decide +kernel
theorem dX5_read_98 : decode cX5_read 98 = .ok (.goto (-86), 3) := by decide +kernel
theorem dX5_read_101 : decode cX5_read 101 = .ok (.iload_n 1, 1) := by decide +kernel
theorem dX5_read_102 : decode cX5_read 102 = .ok (.ireturn, 1) := by decide +kernel
set_option maxRecDepth 20000 in
theorem ggX5_fault_X5_read : GoodIn wsX5_fault wsX5_read := gdW wa_582 (by decide +kernel) (by decide +kernel)
set_option maxRecDepth 20000 in
theorem gX5_fault_X5_read : GoodIn wsX5_fault (wsV RX5 84 RX5 yX5_read wsX5_read) := (gd1 wa_579 (by decide +kernel) (gd1 wa_580 (by decide +kernel) (gd1 wa_581 (by decide +kernel) (gd1 wa_5 (by decide +kernel) ggX5_fault_X5_read))))
theorem dX5_fault_0 : decode cX5_fault 0 = .ok (.aload_n 0, 1) := by decide +kernel
theorem dX5_fault_1 : decode cX5_fault 1 = .ok (.invokevirtual 84, 3) := by decide +kernel
theorem dX5_fault_4 : decode cX5_fault 4 = .ok (.ireturn, 1) := by decide +kernel
set_option maxRecDepth 20000 in
theorem ggX5_tower_X5_read : GoodIn wsX5_tower wsX5_read := gdW wa_582 (by decide +kernel) (by decide +kernel)
set_option maxRecDepth 20000 in
theorem gX5_tower_X5_read : GoodIn wsX5_tower (wsV RX5 84 RX5 yX5_read wsX5_read) := (gd1 wa_579 (by decide +kernel) (gd1 wa_580 (by decide +kernel) (gd1 wa_581 (by decide +kernel) (gd1 wa_5 (by decide +kernel) ggX5_tower_X5_read))))
set_option maxRecDepth 20000 in
theorem ggX5_tower_X5_kindBy : GoodIn wsX5_tower wsX5_kindBy := gdW wa_595 (by decide +kernel) (by decide +kernel)
set_option maxRecDepth 20000 in
theorem gX5_tower_X5_kindBy : GoodIn wsX5_tower (va_wsS RX5 71 yX5_kindBy wsX5_kindBy) := (gd1 wa_593 (by decide +kernel) (gd1 wa_594 (by decide +kernel) (gd1 wa_5 (by decide +kernel) ggX5_tower_X5_kindBy)))
theorem dX5_tower_0 : decode cX5_tower 0 = .ok (.aload_n 0, 1) := by decide +kernel
theorem dX5_tower_1 : decode cX5_tower 1 = .ok (.invokevirtual 84, 3) := by decide +kernel
theorem dX5_tower_4 : decode cX5_tower 4 = .ok (.pop, 1) := by decide +kernel
theorem dX5_tower_5 : decode cX5_tower 5 = .ok (.aload_n 0, 1) := by decide +kernel
theorem dX5_tower_6 : decode cX5_tower 6 = .ok (.getfield 74, 3) := by decide +kernel
theorem dX5_tower_9 : decode cX5_tower 9 = .ok (.ifCond .ne 6, 3) := by decide +kernel
theorem dX5_tower_12 : decode cX5_tower 12 = .ok (.bipush (-103), 2) := by decide +kernel
theorem dX5_tower_14 : decode cX5_tower 14 = .ok (.ireturn, 1) := by decide +kernel
theorem dX5_tower_15 : decode cX5_tower 15 = .ok (.aload_n 0, 1) := by decide +kernel
theorem dX5_tower_16 : decode cX5_tower 16 = .ok (.aload_n 0, 1) := by decide +kernel
theorem dX5_tower_17 : decode cX5_tower 17 = .ok (.getfield 78, 3) := by decide +kernel
theorem dX5_tower_20 : decode cX5_tower 20 = .ok (.putfield 88, 3) := by decide +kernel
theorem dX5_tower_23 : decode cX5_tower 23 = .ok (.iconst 0, 1) := by decide +kernel
theorem dX5_tower_24 : decode cX5_tower 24 = .ok (.istore_n 1, 1) := by decide +kernel
theorem dX5_tower_25 : decode cX5_tower 25 = .ok (.iload_n 1, 1) := by decide +kernel
theorem dX5_tower_26 : decode cX5_tower 26 = .ok (.aload_n 0, 1) := by decide +kernel
theorem dX5_tower_27 : decode cX5_tower 27 = .ok (.getfield 88, 3) := by decide +kernel
theorem dX5_tower_30 : decode cX5_tower 30 = .ok (.if_icmp .ge 77, 3) := by decide +kernel
theorem dX5_tower_33 : decode cX5_tower 33 = .ok (.aload_n 0, 1) := by decide +kernel
theorem dX5_tower_34 : decode cX5_tower 34 = .ok (.getfield 7, 3) := by decide +kernel
theorem dX5_tower_37 : decode cX5_tower 37 = .ok (.iload_n 1, 1) := by decide +kernel
theorem dX5_tower_38 : decode cX5_tower 38 = .ok (.aload_n 0, 1) := by decide +kernel
theorem dX5_tower_39 : decode cX5_tower 39 = .ok (.getfield 25, 3) := by decide +kernel
theorem dX5_tower_42 : decode cX5_tower 42 = .ok (.bipush 8, 2) := by decide +kernel
theorem dX5_tower_44 : decode cX5_tower 44 = .ok (.iload_n 1, 1) := by decide +kernel
theorem dX5_tower_45 : decode cX5_tower 45 = .ok (.imul, 1) := by decide +kernel
theorem dX5_tower_46 : decode cX5_tower 46 = .ok (.baload, 1) := by decide +kernel
theorem dX5_tower_47 : decode cX5_tower 47 = .ok (.invokestatic 71, 3) := by decide +kernel
theorem dX5_tower_50 : decode cX5_tower 50 = .ok (.iastore, 1) := by decide +kernel
theorem dX5_tower_51 : decode cX5_tower 51 = .ok (.aload_n 0, 1) := by decide +kernel
theorem dX5_tower_52 : decode cX5_tower 52 = .ok (.getfield 13, 3) := by decide +kernel
theorem dX5_tower_55 : decode cX5_tower 55 = .ok (.iload_n 1, 1) := by decide +kernel
theorem dX5_tower_56 : decode cX5_tower 56 = .ok (.iconst 0, 1) := by decide +kernel
theorem dX5_tower_57 : decode cX5_tower 57 = .ok (.iastore, 1) := by decide +kernel
theorem dX5_tower_58 : decode cX5_tower 58 = .ok (.iconst 0, 1) := by decide +kernel
theorem dX5_tower_59 : decode cX5_tower 59 = .ok (.istore_n 2, 1) := by decide +kernel
theorem dX5_tower_60 : decode cX5_tower 60 = .ok (.iload_n 2, 1) := by decide +kernel
theorem dX5_tower_61 : decode cX5_tower 61 = .ok (.bipush 6, 2) := by decide +kernel
theorem dX5_tower_63 : decode cX5_tower 63 = .ok (.if_icmp .ge 38, 3) := by decide +kernel
theorem dX5_tower_66 : decode cX5_tower 66 = .ok (.aload_n 0, 1) := by decide +kernel
theorem dX5_tower_67 : decode cX5_tower 67 = .ok (.getfield 13, 3) := by decide +kernel
theorem dX5_tower_70 : decode cX5_tower 70 = .ok (.iload_n 1, 1) := by decide +kernel
theorem dX5_tower_71 : decode cX5_tower 71 = .ok (.dup2, 1) := by decide +kernel
theorem dX5_tower_72 : decode cX5_tower 72 = .ok (.iaload, 1) := by decide +kernel
theorem dX5_tower_73 : decode cX5_tower 73 = .ok (.aload_n 0, 1) := by decide +kernel
theorem dX5_tower_74 : decode cX5_tower 74 = .ok (.getfield 25, 3) := by decide +kernel
theorem dX5_tower_77 : decode cX5_tower 77 = .ok (.bipush 8, 2) := by decide +kernel
theorem dX5_tower_79 : decode cX5_tower 79 = .ok (.iload_n 1, 1) := by decide +kernel
theorem dX5_tower_80 : decode cX5_tower 80 = .ok (.imul, 1) := by decide +kernel
theorem dX5_tower_81 : decode cX5_tower 81 = .ok (.iconst 1, 1) := by decide +kernel
theorem dX5_tower_82 : decode cX5_tower 82 = .ok (.iadd, 1) := by decide +kernel
theorem dX5_tower_83 : decode cX5_tower 83 = .ok (.iload_n 2, 1) := by decide +kernel
theorem dX5_tower_84 : decode cX5_tower 84 = .ok (.iadd, 1) := by decide +kernel
theorem dX5_tower_85 : decode cX5_tower 85 = .ok (.baload, 1) := by decide +kernel
theorem dX5_tower_86 : decode cX5_tower 86 = .ok (.bipush 97, 2) := by decide +kernel
theorem dX5_tower_88 : decode cX5_tower 88 = .ok (.isub, 1) := by decide +kernel
theorem dX5_tower_89 : decode cX5_tower 89 = .ok (.iconst 3, 1) := by decide +kernel
theorem dX5_tower_90 : decode cX5_tower 90 = .ok (.iload_n 2, 1) := by decide +kernel
theorem dX5_tower_91 : decode cX5_tower 91 = .ok (.imul, 1) := by decide +kernel
theorem dX5_tower_92 : decode cX5_tower 92 = .ok (.ishl, 1) := by decide +kernel
theorem dX5_tower_93 : decode cX5_tower 93 = .ok (.ior, 1) := by decide +kernel
theorem dX5_tower_94 : decode cX5_tower 94 = .ok (.iastore, 1) := by decide +kernel
theorem dX5_tower_95 : decode cX5_tower 95 = .ok (.iinc 2 1, 3) := by decide +kernel
theorem dX5_tower_98 : decode cX5_tower 98 = .ok (.goto (-38), 3) := by decide +kernel
theorem dX5_tower_101 : decode cX5_tower 101 = .ok (.iinc 1 1, 3) := by decide +kernel
theorem dX5_tower_104 : decode cX5_tower 104 = .ok (.goto (-79), 3) := by decide +kernel
theorem dX5_tower_107 : decode cX5_tower 107 = .ok (.aload_n 0, 1) := by decide +kernel
theorem dX5_tower_108 : decode cX5_tower 108 = .ok (.iconst 0, 1) := by decide +kernel
theorem dX5_tower_109 : decode cX5_tower 109 = .ok (.putfield 91, 3) := by decide +kernel
theorem dX5_tower_112 : decode cX5_tower 112 = .ok (.aload_n 0, 1) := by decide +kernel
theorem dX5_tower_113 : decode cX5_tower 113 = .ok (.dup, 1) := by decide +kernel
theorem dX5_tower_114 : decode cX5_tower 114 = .ok (.getfield 94, 3) := by decide +kernel
theorem dX5_tower_117 : decode cX5_tower 117 = .ok (.iconst 1, 1) := by decide +kernel
theorem dX5_tower_118 : decode cX5_tower 118 = .ok (.iadd, 1) := by decide +kernel
theorem dX5_tower_119 : decode cX5_tower 119 = .ok (.putfield 94, 3) := by decide +kernel
theorem dX5_tower_122 : decode cX5_tower 122 = .ok (.aload_n 0, 1) := by decide +kernel
theorem dX5_tower_123 : decode cX5_tower 123 = .ok (.iconst 0, 1) := by decide +kernel
theorem dX5_tower_124 : decode cX5_tower 124 = .ok (.putfield 97, 3) := by decide +kernel
theorem dX5_tower_127 : decode cX5_tower 127 = .ok (.aload_n 0, 1) := by decide +kernel
theorem dX5_tower_128 : decode cX5_tower 128 = .ok (.iconst 0, 1) := by decide +kernel
theorem dX5_tower_129 : decode cX5_tower 129 = .ok (.putfield 63, 3) := by decide +kernel
theorem dX5_tower_132 : decode cX5_tower 132 = .ok (.aload_n 0, 1) := by decide +kernel
theorem dX5_tower_133 : decode cX5_tower 133 = .ok (.getfield 88, 3) := by decide +kernel
theorem dX5_tower_136 : decode cX5_tower 136 = .ok (.ireturn, 1) := by decide +kernel
set_option maxRecDepth 20000 in
theorem ggX5_isCube_X5_within : GoodIn wsX5_isCube wsX5_within := gdW wa_270 (by decide +kernel) (by decide +kernel)
set_option maxRecDepth 20000 in
theorem gX5_isCube_X5_within : GoodIn wsX5_isCube (va_wsS RX5 59 yX5_within wsX5_within) := (gd1 wa_268 (by decide +kernel) (gd1 wa_269 (by decide +kernel) (gd1 wa_5 (by decide +kernel) ggX5_isCube_X5_within)))
theorem dX5_isCube_0 : decode cX5_isCube 0 = .ok (.iload_n 1, 1) := by decide +kernel
theorem dX5_isCube_1 : decode cX5_isCube 1 = .ok (.iconst 0, 1) := by decide +kernel
theorem dX5_isCube_2 : decode cX5_isCube 2 = .ok (.aload_n 0, 1) := by decide +kernel
theorem dX5_isCube_3 : decode cX5_isCube 3 = .ok (.getfield 88, 3) := by decide +kernel
theorem dX5_isCube_6 : decode cX5_isCube 6 = .ok (.iconst 1, 1) := by decide +kernel
theorem dX5_isCube_7 : decode cX5_isCube 7 = .ok (.isub, 1) := by decide +kernel
theorem dX5_isCube_8 : decode cX5_isCube 8 = .ok (.invokestatic 59, 3) := by decide +kernel
theorem dX5_isCube_11 : decode cX5_isCube 11 = .ok (.ireturn, 1) := by decide +kernel
theorem dX5_side_0 : decode cX5_side 0 = .ok (.iload_n 0, 1) := by decide +kernel
theorem dX5_side_1 : decode cX5_side 1 = .ok (.iconst 3, 1) := by decide +kernel
theorem dX5_side_2 : decode cX5_side 2 = .ok (.iload_n 1, 1) := by decide +kernel
theorem dX5_side_3 : decode cX5_side 3 = .ok (.imul, 1) := by decide +kernel
theorem dX5_side_4 : decode cX5_side 4 = .ok (.ishr, 1) := by decide +kernel
theorem dX5_side_5 : decode cX5_side 5 = .ok (.bipush 7, 2) := by decide +kernel
theorem dX5_side_7 : decode cX5_side 7 = .ok (.iand, 1) := by decide +kernel
theorem dX5_side_8 : decode cX5_side 8 = .ok (.ireturn, 1) := by decide +kernel
set_option maxRecDepth 20000 in
theorem ggX5_ring_X5_side : GoodIn wsX5_ring wsX5_side := gdW wa_848 (by decide +kernel) (by decide +kernel)
set_option maxRecDepth 20000 in
theorem gX5_ring_X5_side : GoodIn wsX5_ring (va_wsS RX5 100 yX5_side wsX5_side) := (gd1 wa_846 (by decide +kernel) (gd1 wa_847 (by decide +kernel) (gd1 wa_5 (by decide +kernel) ggX5_ring_X5_side)))
theorem dX5_ring_0 : decode cX5_ring 0 = .ok (.iload_n 0, 1) := by decide +kernel
theorem dX5_ring_1 : decode cX5_ring 1 = .ok (.bipush 7, 2) := by decide +kernel
theorem dX5_ring_3 : decode cX5_ring 3 = .ok (.iconst 3, 1) := by decide +kernel
theorem dX5_ring_4 : decode cX5_ring 4 = .ok (.iload_n 1, 1) := by decide +kernel
theorem dX5_ring_5 : decode cX5_ring 5 = .ok (.imul, 1) := by decide +kernel
theorem dX5_ring_6 : decode cX5_ring 6 = .ok (.ishl, 1) := by decide +kernel
theorem dX5_ring_7 : decode cX5_ring 7 = .ok (.bipush 7, 2) := by decide +kernel
theorem dX5_ring_9 : decode cX5_ring 9 = .ok (.iconst 3, 1) := by decide +kernel
theorem dX5_ring_10 : decode cX5_ring 10 = .ok (.iload_n 2, 1) := by decide +kernel
theorem dX5_ring_11 : decode cX5_ring 11 = .ok (.imul, 1) := by decide +kernel
theorem dX5_ring_12 : decode cX5_ring 12 = .ok (.ishl, 1) := by decide +kernel
theorem dX5_ring_13 : decode cX5_ring 13 = .ok (.ior, 1) := by decide +kernel
theorem dX5_ring_14 : decode cX5_ring 14 = .ok (.bipush 7, 2) := by decide +kernel
theorem dX5_ring_16 : decode cX5_ring 16 = .ok (.iconst 3, 1) := by decide +kernel
theorem dX5_ring_17 : decode cX5_ring 17 = .ok (.iload_n 3, 1) := by decide +kernel
theorem dX5_ring_18 : decode cX5_ring 18 = .ok (.imul, 1) := by decide +kernel
theorem dX5_ring_19 : decode cX5_ring 19 = .ok (.ishl, 1) := by decide +kernel
theorem dX5_ring_20 : decode cX5_ring 20 = .ok (.ior, 1) := by decide +kernel
theorem dX5_ring_21 : decode cX5_ring 21 = .ok (.bipush 7, 2) := by decide +kernel
theorem dX5_ring_23 : decode cX5_ring 23 = .ok (.iconst 3, 1) := by decide +kernel
theorem dX5_ring_24 : decode cX5_ring 24 = .ok (.iload 4, 2) := by decide +kernel
theorem dX5_ring_26 : decode cX5_ring 26 = .ok (.imul, 1) := by decide +kernel
theorem dX5_ring_27 : decode cX5_ring 27 = .ok (.ishl, 1) := by decide +kernel
theorem dX5_ring_28 : decode cX5_ring 28 = .ok (.ior, 1) := by decide +kernel
theorem dX5_ring_29 : decode cX5_ring 29 = .ok (.iconst (-1), 1) := by decide +kernel
theorem dX5_ring_30 : decode cX5_ring 30 = .ok (.ixor, 1) := by decide +kernel
theorem dX5_ring_31 : decode cX5_ring 31 = .ok (.iand, 1) := by decide +kernel
theorem dX5_ring_32 : decode cX5_ring 32 = .ok (.istore 5, 2) := by decide +kernel
theorem dX5_ring_34 : decode cX5_ring 34 = .ok (.iload 5, 2) := by decide +kernel
theorem dX5_ring_36 : decode cX5_ring 36 = .ok (.iload_n 0, 1) := by decide +kernel
theorem dX5_ring_37 : decode cX5_ring 37 = .ok (.iload_n 1, 1) := by decide +kernel
theorem dX5_ring_38 : decode cX5_ring 38 = .ok (.invokestatic 100, 3) := by decide +kernel
theorem dX5_ring_41 : decode cX5_ring 41 = .ok (.iconst 3, 1) := by decide +kernel
theorem dX5_ring_42 : decode cX5_ring 42 = .ok (.iload_n 2, 1) := by decide +kernel
theorem dX5_ring_43 : decode cX5_ring 43 = .ok (.imul, 1) := by decide +kernel
theorem dX5_ring_44 : decode cX5_ring 44 = .ok (.ishl, 1) := by decide +kernel
theorem dX5_ring_45 : decode cX5_ring 45 = .ok (.ior, 1) := by decide +kernel
theorem dX5_ring_46 : decode cX5_ring 46 = .ok (.iload_n 0, 1) := by decide +kernel
theorem dX5_ring_47 : decode cX5_ring 47 = .ok (.iload_n 2, 1) := by decide +kernel
theorem dX5_ring_48 : decode cX5_ring 48 = .ok (.invokestatic 100, 3) := by decide +kernel
theorem dX5_ring_51 : decode cX5_ring 51 = .ok (.iconst 3, 1) := by decide +kernel
theorem dX5_ring_52 : decode cX5_ring 52 = .ok (.iload_n 3, 1) := by decide +kernel
theorem dX5_ring_53 : decode cX5_ring 53 = .ok (.imul, 1) := by decide +kernel
theorem dX5_ring_54 : decode cX5_ring 54 = .ok (.ishl, 1) := by decide +kernel
theorem dX5_ring_55 : decode cX5_ring 55 = .ok (.ior, 1) := by decide +kernel
theorem dX5_ring_56 : decode cX5_ring 56 = .ok (.iload_n 0, 1) := by decide +kernel
theorem dX5_ring_57 : decode cX5_ring 57 = .ok (.iload_n 3, 1) := by decide +kernel
theorem dX5_ring_58 : decode cX5_ring 58 = .ok (.invokestatic 100, 3) := by decide +kernel
theorem dX5_ring_61 : decode cX5_ring 61 = .ok (.iconst 3, 1) := by decide +kernel
theorem dX5_ring_62 : decode cX5_ring 62 = .ok (.iload 4, 2) := by decide +kernel
theorem dX5_ring_64 : decode cX5_ring 64 = .ok (.imul, 1) := by decide +kernel
theorem dX5_ring_65 : decode cX5_ring 65 = .ok (.ishl, 1) := by decide +kernel
theorem dX5_ring_66 : decode cX5_ring 66 = .ok (.ior, 1) := by decide +kernel
theorem dX5_ring_67 : decode cX5_ring 67 = .ok (.iload_n 0, 1) := by decide +kernel
theorem dX5_ring_68 : decode cX5_ring 68 = .ok (.iload 4, 2) := by decide +kernel
theorem dX5_ring_70 : decode cX5_ring 70 = .ok (.invokestatic 100, 3) := by decide +kernel
theorem dX5_ring_73 : decode cX5_ring 73 = .ok (.iconst 3, 1) := by decide +kernel
theorem dX5_ring_74 : decode cX5_ring 74 = .ok (.iload_n 1, 1) := by decide +kernel
theorem dX5_ring_75 : decode cX5_ring 75 = .ok (.imul, 1) := by decide +kernel
theorem dX5_ring_76 : decode cX5_ring 76 = .ok (.ishl, 1) := by decide +kernel
theorem dX5_ring_77 : decode cX5_ring 77 = .ok (.ior, 1) := by decide +kernel
theorem dX5_ring_78 : decode cX5_ring 78 = .ok (.ireturn, 1) := by decide +kernel
set_option maxRecDepth 20000 in
theorem ggX5_quarter_X5_ring : GoodIn wsX5_quarter wsX5_ring := gdW wa_1029 (by decide +kernel) (by decide +kernel)
set_option maxRecDepth 20000 in
theorem gX5_quarter_X5_ring : GoodIn wsX5_quarter (va_wsS RX5 104 yX5_ring wsX5_ring) := (gd1 wa_1027 (by decide +kernel) (gd1 wa_1028 (by decide +kernel) (gd1 wa_5 (by decide +kernel) ggX5_quarter_X5_ring)))
theorem dX5_quarter_0 : decode cX5_quarter 0 = .ok (.iload_n 1, 1) := by decide +kernel
theorem dX5_quarter_1 : decode cX5_quarter 1 = .ok (.tableswitch 54 0 2 #[27, 36, 45], 27) := by decide +kernel
theorem dX5_quarter_28 : decode cX5_quarter 28 = .ok (.iload_n 0, 1) := by decide +kernel
theorem dX5_quarter_29 : decode cX5_quarter 29 = .ok (.iconst 2, 1) := by decide +kernel
theorem dX5_quarter_30 : decode cX5_quarter 30 = .ok (.iconst 4, 1) := by decide +kernel
theorem dX5_quarter_31 : decode cX5_quarter 31 = .ok (.iconst 3, 1) := by decide +kernel
theorem dX5_quarter_32 : decode cX5_quarter 32 = .ok (.iconst 5, 1) := by decide +kernel
theorem dX5_quarter_33 : decode cX5_quarter 33 = .ok (.invokestatic 104, 3) := by decide +kernel
theorem dX5_quarter_36 : decode cX5_quarter 36 = .ok (.ireturn, 1) := by decide +kernel
theorem dX5_quarter_37 : decode cX5_quarter 37 = .ok (.iload_n 0, 1) := by decide +kernel
theorem dX5_quarter_38 : decode cX5_quarter 38 = .ok (.iconst 5, 1) := by decide +kernel
theorem dX5_quarter_39 : decode cX5_quarter 39 = .ok (.iconst 3, 1) := by decide +kernel
theorem dX5_quarter_40 : decode cX5_quarter 40 = .ok (.iconst 4, 1) := by decide +kernel
theorem dX5_quarter_41 : decode cX5_quarter 41 = .ok (.iconst 2, 1) := by decide +kernel
theorem dX5_quarter_42 : decode cX5_quarter 42 = .ok (.invokestatic 104, 3) := by decide +kernel
theorem dX5_quarter_45 : decode cX5_quarter 45 = .ok (.ireturn, 1) := by decide +kernel
theorem dX5_quarter_46 : decode cX5_quarter 46 = .ok (.iload_n 0, 1) := by decide +kernel
theorem dX5_quarter_47 : decode cX5_quarter 47 = .ok (.iconst 0, 1) := by decide +kernel
theorem dX5_quarter_48 : decode cX5_quarter 48 = .ok (.iconst 2, 1) := by decide +kernel
theorem dX5_quarter_49 : decode cX5_quarter 49 = .ok (.iconst 1, 1) := by decide +kernel
theorem dX5_quarter_50 : decode cX5_quarter 50 = .ok (.iconst 3, 1) := by decide +kernel
theorem dX5_quarter_51 : decode cX5_quarter 51 = .ok (.invokestatic 104, 3) := by decide +kernel
theorem dX5_quarter_54 : decode cX5_quarter 54 = .ok (.ireturn, 1) := by decide +kernel
theorem dX5_quarter_55 : decode cX5_quarter 55 = .ok (.iload_n 0, 1) := by decide +kernel
theorem dX5_quarter_56 : decode cX5_quarter 56 = .ok (.iconst 3, 1) := by decide +kernel
theorem dX5_quarter_57 : decode cX5_quarter 57 = .ok (.iconst 1, 1) := by decide +kernel
theorem dX5_quarter_58 : decode cX5_quarter 58 = .ok (.iconst 2, 1) := by decide +kernel
theorem dX5_quarter_59 : decode cX5_quarter 59 = .ok (.iconst 0, 1) := by decide +kernel
theorem dX5_quarter_60 : decode cX5_quarter 60 = .ok (.invokestatic 104, 3) := by decide +kernel
theorem dX5_quarter_63 : decode cX5_quarter 63 = .ok (.ireturn, 1) := by decide +kernel
theorem dX5_turnsOf_0 : decode cX5_turnsOf 0 = .ok (.iload_n 0, 1) := by decide +kernel
theorem dX5_turnsOf_1 : decode cX5_turnsOf 1 = .ok (.tableswitch 38 1 4 #[31, 33, 36, 31], 31) := by decide +kernel
theorem dX5_turnsOf_32 : decode cX5_turnsOf 32 = .ok (.iconst 3, 1) := by decide +kernel
theorem dX5_turnsOf_33 : decode cX5_turnsOf 33 = .ok (.ireturn, 1) := by decide +kernel
theorem dX5_turnsOf_34 : decode cX5_turnsOf 34 = .ok (.bipush 12, 2) := by decide +kernel
theorem dX5_turnsOf_36 : decode cX5_turnsOf 36 = .ok (.ireturn, 1) := by decide +kernel
theorem dX5_turnsOf_37 : decode cX5_turnsOf 37 = .ok (.iconst 0, 1) := by decide +kernel
theorem dX5_turnsOf_38 : decode cX5_turnsOf 38 = .ok (.ireturn, 1) := by decide +kernel
theorem dX5_turnsOf_39 : decode cX5_turnsOf 39 = .ok (.bipush 15, 2) := by decide +kernel
theorem dX5_turnsOf_41 : decode cX5_turnsOf 41 = .ok (.ireturn, 1) := by decide +kernel
set_option maxRecDepth 20000 in
theorem ggX5_turned_X5_quarter : GoodIn wsX5_turned wsX5_quarter := gdW wa_1026 (by decide +kernel) (by decide +kernel)
set_option maxRecDepth 20000 in
theorem gX5_turned_X5_quarter : GoodIn wsX5_turned (va_wsS RX5 108 yX5_quarter wsX5_quarter) := (gd1 wa_1024 (by decide +kernel) (gd1 wa_1025 (by decide +kernel) (gd1 wa_5 (by decide +kernel) ggX5_turned_X5_quarter)))
theorem dX5_turned_0 : decode cX5_turned 0 = .ok (.iload_n 1, 1) := by decide +kernel
theorem dX5_turned_1 : decode cX5_turned 1 = .ok (.iload_n 2, 1) := by decide +kernel
theorem dX5_turned_2 : decode cX5_turned 2 = .ok (.invokestatic 108, 3) := by decide +kernel
theorem dX5_turned_5 : decode cX5_turned 5 = .ok (.istore_n 3, 1) := by decide +kernel
theorem dX5_turned_6 : decode cX5_turned 6 = .ok (.iload_n 0, 1) := by decide +kernel
theorem dX5_turned_7 : decode cX5_turned 7 = .ok (.iconst 4, 1) := by decide +kernel
theorem dX5_turned_8 : decode cX5_turned 8 = .ok (.if_icmp .ne 11, 3) := by decide +kernel
theorem dX5_turned_11 : decode cX5_turned 11 = .ok (.iload_n 3, 1) := by decide +kernel
theorem dX5_turned_12 : decode cX5_turned 12 = .ok (.iload_n 2, 1) := by decide +kernel
theorem dX5_turned_13 : decode cX5_turned 13 = .ok (.invokestatic 108, 3) := by decide +kernel
theorem dX5_turned_16 : decode cX5_turned 16 = .ok (.goto 4, 3) := by decide +kernel
theorem dX5_turned_19 : decode cX5_turned 19 = .ok (.iload_n 3, 1) := by decide +kernel
theorem dX5_turned_20 : decode cX5_turned 20 = .ok (.ireturn, 1) := by decide +kernel
theorem dX5_waysOf_0 : decode cX5_waysOf 0 = .ok (.iload_n 0, 1) := by decide +kernel
theorem dX5_waysOf_1 : decode cX5_waysOf 1 = .ok (.tableswitch 37 1 4 #[31, 31, 33, 35], 31) := by decide +kernel
theorem dX5_waysOf_32 : decode cX5_waysOf 32 = .ok (.iconst 4, 1) := by decide +kernel
theorem dX5_waysOf_33 : decode cX5_waysOf 33 = .ok (.ireturn, 1) := by decide +kernel
theorem dX5_waysOf_34 : decode cX5_waysOf 34 = .ok (.iconst 1, 1) := by decide +kernel
theorem dX5_waysOf_35 : decode cX5_waysOf 35 = .ok (.ireturn, 1) := by decide +kernel
theorem dX5_waysOf_36 : decode cX5_waysOf 36 = .ok (.iconst 2, 1) := by decide +kernel
theorem dX5_waysOf_37 : decode cX5_waysOf 37 = .ok (.ireturn, 1) := by decide +kernel
theorem dX5_waysOf_38 : decode cX5_waysOf 38 = .ok (.bipush 24, 2) := by decide +kernel
theorem dX5_waysOf_40 : decode cX5_waysOf 40 = .ok (.ireturn, 1) := by decide +kernel
set_option maxRecDepth 20000 in
theorem ggX5_cubeNow_X5_waysOf : GoodIn wsX5_cubeNow wsX5_waysOf := gdW wa_784 (by decide +kernel) (by decide +kernel)
set_option maxRecDepth 20000 in
theorem gX5_cubeNow_X5_waysOf : GoodIn wsX5_cubeNow (va_wsS RX5 111 yX5_waysOf wsX5_waysOf) := (gd1 wa_782 (by decide +kernel) (gd1 wa_783 (by decide +kernel) (gd1 wa_5 (by decide +kernel) ggX5_cubeNow_X5_waysOf)))
set_option maxRecDepth 20000 in
theorem ggX5_cubeNow_X5_sortsOf : GoodIn wsX5_cubeNow wsX5_sortsOf := gdW wa_788 (by decide +kernel) (by decide +kernel)
set_option maxRecDepth 20000 in
theorem gX5_cubeNow_X5_sortsOf : GoodIn wsX5_cubeNow (wsV RX5 114 RX5 yX5_sortsOf wsX5_sortsOf) := (gd1 wa_785 (by decide +kernel) (gd1 wa_786 (by decide +kernel) (gd1 wa_787 (by decide +kernel) (gd1 wa_5 (by decide +kernel) ggX5_cubeNow_X5_sortsOf))))
set_option maxRecDepth 20000 in
theorem ggX5_cubeNow_X5_askOf : GoodIn wsX5_cubeNow wsX5_askOf := gdW wa_835 (by decide +kernel) (by decide +kernel)
set_option maxRecDepth 20000 in
theorem gX5_cubeNow_X5_askOf : GoodIn wsX5_cubeNow (wsV RX5 117 RX5 yX5_askOf wsX5_askOf) := (gd1 wa_832 (by decide +kernel) (gd1 wa_833 (by decide +kernel) (gd1 wa_834 (by decide +kernel) (gd1 wa_5 (by decide +kernel) ggX5_cubeNow_X5_askOf))))
set_option maxRecDepth 20000 in
theorem ggX5_cubeNow_X5_turnsOf : GoodIn wsX5_cubeNow wsX5_turnsOf := gdW wa_845 (by decide +kernel) (by decide +kernel)
set_option maxRecDepth 20000 in
theorem gX5_cubeNow_X5_turnsOf : GoodIn wsX5_cubeNow (va_wsS RX5 120 yX5_turnsOf wsX5_turnsOf) := (gd1 wa_843 (by decide +kernel) (gd1 wa_844 (by decide +kernel) (gd1 wa_5 (by decide +kernel) ggX5_cubeNow_X5_turnsOf)))
set_option maxRecDepth 20000 in
theorem ggX5_cubeNow_X5_side : GoodIn wsX5_cubeNow wsX5_side := gdW wa_848 (by decide +kernel) (by decide +kernel)
set_option maxRecDepth 20000 in
theorem gX5_cubeNow_X5_side : GoodIn wsX5_cubeNow (va_wsS RX5 100 yX5_side wsX5_side) := (gd1 wa_846 (by decide +kernel) (gd1 wa_847 (by decide +kernel) (gd1 wa_5 (by decide +kernel) ggX5_cubeNow_X5_side)))
theorem dX5_cubeNow_0 : decode cX5_cubeNow 0 = .ok (.iload_n 2, 1) := by decide +kernel
theorem dX5_cubeNow_1 : decode cX5_cubeNow 1 = .ok (.tableswitch 74 0 4 #[35, 42, 52, 58, 64], 35) := by decide +kernel
theorem dX5_cubeNow_36 : decode cX5_cubeNow 36 = .ok (.aload_n 0, 1) := by decide +kernel
theorem dX5_cubeNow_37 : decode cX5_cubeNow 37 = .ok (.getfield 7, 3) := by decide +kernel
theorem dX5_cubeNow_40 : decode cX5_cubeNow 40 = .ok (.iload_n 1, 1) := by decide +kernel
theorem dX5_cubeNow_41 : decode cX5_cubeNow 41 = .ok (.iaload, 1) := by decide +kernel
theorem dX5_cubeNow_42 : decode cX5_cubeNow 42 = .ok (.ireturn, 1) := by decide +kernel
theorem dX5_cubeNow_43 : decode cX5_cubeNow 43 = .ok (.aload_n 0, 1) := by decide +kernel
theorem dX5_cubeNow_44 : decode cX5_cubeNow 44 = .ok (.getfield 7, 3) := by decide +kernel
theorem dX5_cubeNow_47 : decode cX5_cubeNow 47 = .ok (.iload_n 1, 1) := by decide +kernel
theorem dX5_cubeNow_48 : decode cX5_cubeNow 48 = .ok (.iaload, 1) := by decide +kernel
theorem dX5_cubeNow_49 : decode cX5_cubeNow 49 = .ok (.invokestatic 111, 3) := by decide +kernel
theorem dX5_cubeNow_52 : decode cX5_cubeNow 52 = .ok (.ireturn, 1) := by decide +kernel
theorem dX5_cubeNow_53 : decode cX5_cubeNow 53 = .ok (.aload_n 0, 1) := by decide +kernel
theorem dX5_cubeNow_54 : decode cX5_cubeNow 54 = .ok (.iload_n 1, 1) := by decide +kernel
theorem dX5_cubeNow_55 : decode cX5_cubeNow 55 = .ok (.invokevirtual 114, 3) := by decide +kernel
theorem dX5_cubeNow_58 : decode cX5_cubeNow 58 = .ok (.ireturn, 1) := by decide +kernel
theorem dX5_cubeNow_59 : decode cX5_cubeNow 59 = .ok (.aload_n 0, 1) := by decide +kernel
theorem dX5_cubeNow_60 : decode cX5_cubeNow 60 = .ok (.iload_n 1, 1) := by decide +kernel
theorem dX5_cubeNow_61 : decode cX5_cubeNow 61 = .ok (.invokevirtual 117, 3) := by decide +kernel
theorem dX5_cubeNow_64 : decode cX5_cubeNow 64 = .ok (.ireturn, 1) := by decide +kernel
theorem dX5_cubeNow_65 : decode cX5_cubeNow 65 = .ok (.aload_n 0, 1) := by decide +kernel
theorem dX5_cubeNow_66 : decode cX5_cubeNow 66 = .ok (.getfield 7, 3) := by decide +kernel
theorem dX5_cubeNow_69 : decode cX5_cubeNow 69 = .ok (.iload_n 1, 1) := by decide +kernel
theorem dX5_cubeNow_70 : decode cX5_cubeNow 70 = .ok (.iaload, 1) := by decide +kernel
theorem dX5_cubeNow_71 : decode cX5_cubeNow 71 = .ok (.invokestatic 120, 3) := by decide +kernel
theorem dX5_cubeNow_74 : decode cX5_cubeNow 74 = .ok (.ireturn, 1) := by decide +kernel
theorem dX5_cubeNow_75 : decode cX5_cubeNow 75 = .ok (.aload_n 0, 1) := by decide +kernel
theorem dX5_cubeNow_76 : decode cX5_cubeNow 76 = .ok (.getfield 13, 3) := by decide +kernel
theorem dX5_cubeNow_79 : decode cX5_cubeNow 79 = .ok (.iload_n 1, 1) := by decide +kernel
theorem dX5_cubeNow_80 : decode cX5_cubeNow 80 = .ok (.iaload, 1) := by decide +kernel
theorem dX5_cubeNow_81 : decode cX5_cubeNow 81 = .ok (.iload_n 2, 1) := by decide +kernel
theorem dX5_cubeNow_82 : decode cX5_cubeNow 82 = .ok (.bipush 10, 2) := by decide +kernel
theorem dX5_cubeNow_84 : decode cX5_cubeNow 84 = .ok (.isub, 1) := by decide +kernel
theorem dX5_cubeNow_85 : decode cX5_cubeNow 85 = .ok (.invokestatic 100, 3) := by decide +kernel
theorem dX5_cubeNow_88 : decode cX5_cubeNow 88 = .ok (.ireturn, 1) := by decide +kernel
set_option maxRecDepth 20000 in
theorem ggX5_cube_X5_isCube : GoodIn wsX5_cube wsX5_isCube := gdW wa_777 (by decide +kernel) (by decide +kernel)
set_option maxRecDepth 20000 in
theorem gX5_cube_X5_isCube : GoodIn wsX5_cube (wsV RX5 123 RX5 yX5_isCube wsX5_isCube) := (gd1 wa_774 (by decide +kernel) (gd1 wa_775 (by decide +kernel) (gd1 wa_776 (by decide +kernel) (gd1 wa_5 (by decide +kernel) ggX5_cube_X5_isCube))))
set_option maxRecDepth 20000 in
theorem ggX5_cube_X5_within : GoodIn wsX5_cube wsX5_within := gdW wa_270 (by decide +kernel) (by decide +kernel)
set_option maxRecDepth 20000 in
theorem gX5_cube_X5_within : GoodIn wsX5_cube (va_wsS RX5 59 yX5_within wsX5_within) := (gd1 wa_268 (by decide +kernel) (gd1 wa_269 (by decide +kernel) (gd1 wa_5 (by decide +kernel) ggX5_cube_X5_within)))
set_option maxRecDepth 20000 in
theorem ggX5_cube_X5_cubeNow : GoodIn wsX5_cube wsX5_cubeNow := gdW wa_781 (by decide +kernel) (by decide +kernel)
set_option maxRecDepth 20000 in
theorem gX5_cube_X5_cubeNow : GoodIn wsX5_cube (wsV RX5 127 RX5 yX5_cubeNow wsX5_cubeNow) := (gd1 wa_778 (by decide +kernel) (gd1 wa_779 (by decide +kernel) (gd1 wa_780 (by decide +kernel) (gd1 wa_5 (by decide +kernel) ggX5_cube_X5_cubeNow))))
theorem dX5_cube_0 : decode cX5_cube 0 = .ok (.aload_n 0, 1) := by decide +kernel
theorem dX5_cube_1 : decode cX5_cube 1 = .ok (.iload_n 1, 1) := by decide +kernel
theorem dX5_cube_2 : decode cX5_cube 2 = .ok (.invokevirtual 123, 3) := by decide +kernel
theorem dX5_cube_5 : decode cX5_cube 5 = .ok (.ifCond .ne 6, 3) := by decide +kernel
theorem dX5_cube_8 : decode cX5_cube 8 = .ok (.bipush (-101), 2) := by decide +kernel
theorem dX5_cube_10 : decode cX5_cube 10 = .ok (.ireturn, 1) := by decide +kernel
theorem dX5_cube_11 : decode cX5_cube 11 = .ok (.iload_n 2, 1) := by decide +kernel
theorem dX5_cube_12 : decode cX5_cube 12 = .ok (.iconst 0, 1) := by decide +kernel
theorem dX5_cube_13 : decode cX5_cube 13 = .ok (.iconst 4, 1) := by decide +kernel
theorem dX5_cube_14 : decode cX5_cube 14 = .ok (.invokestatic 59, 3) := by decide +kernel
theorem dX5_cube_17 : decode cX5_cube 17 = .ok (.ifCond .ne 14, 3) := by decide +kernel
theorem dX5_cube_20 : decode cX5_cube 20 = .ok (.iload_n 2, 1) := by decide +kernel
theorem dX5_cube_21 : decode cX5_cube 21 = .ok (.bipush 10, 2) := by decide +kernel
theorem dX5_cube_23 : decode cX5_cube 23 = .ok (.bipush 15, 2) := by decide +kernel
theorem dX5_cube_25 : decode cX5_cube 25 = .ok (.invokestatic 59, 3) := by decide +kernel
theorem dX5_cube_28 : decode cX5_cube 28 = .ok (.ifCond .eq 12, 3) := by decide +kernel
theorem dX5_cube_31 : decode cX5_cube 31 = .ok (.aload_n 0, 1) := by decide +kernel
theorem dX5_cube_32 : decode cX5_cube 32 = .ok (.iload_n 1, 1) := by decide +kernel
theorem dX5_cube_33 : decode cX5_cube 33 = .ok (.iload_n 2, 1) := by decide +kernel
theorem dX5_cube_34 : decode cX5_cube 34 = .ok (.invokevirtual 127, 3) := by decide +kernel
theorem dX5_cube_37 : decode cX5_cube 37 = .ok (.goto 5, 3) := by decide +kernel
theorem dX5_cube_40 : decode cX5_cube 40 = .ok (.bipush (-102), 2) := by decide +kernel
theorem dX5_cube_42 : decode cX5_cube 42 = .ok (.ireturn, 1) := by decide +kernel
set_option maxRecDepth 20000 in
theorem ggX5_as_X5_isCube : GoodIn wsX5_as wsX5_isCube := gdW wa_777 (by decide +kernel) (by decide +kernel)
set_option maxRecDepth 20000 in
theorem gX5_as_X5_isCube : GoodIn wsX5_as (wsV RX5 123 RX5 yX5_isCube wsX5_isCube) := (gd1 wa_774 (by decide +kernel) (gd1 wa_775 (by decide +kernel) (gd1 wa_776 (by decide +kernel) (gd1 wa_5 (by decide +kernel) ggX5_as_X5_isCube))))
set_option maxRecDepth 20000 in
theorem ggX5_as_X5_within : GoodIn wsX5_as wsX5_within := gdW wa_270 (by decide +kernel) (by decide +kernel)
set_option maxRecDepth 20000 in
theorem gX5_as_X5_within : GoodIn wsX5_as (va_wsS RX5 59 yX5_within wsX5_within) := (gd1 wa_268 (by decide +kernel) (gd1 wa_269 (by decide +kernel) (gd1 wa_5 (by decide +kernel) ggX5_as_X5_within)))
theorem dX5_as_0 : decode cX5_as 0 = .ok (.aload_n 0, 1) := by decide +kernel
theorem dX5_as_1 : decode cX5_as 1 = .ok (.iload_n 1, 1) := by decide +kernel
theorem dX5_as_2 : decode cX5_as 2 = .ok (.invokevirtual 123, 3) := by decide +kernel
theorem dX5_as_5 : decode cX5_as 5 = .ok (.ifCond .ne 6, 3) := by decide +kernel
theorem dX5_as_8 : decode cX5_as 8 = .ok (.bipush (-101), 2) := by decide +kernel
theorem dX5_as_10 : decode cX5_as 10 = .ok (.ireturn, 1) := by decide +kernel
theorem dX5_as_11 : decode cX5_as 11 = .ok (.iload_n 2, 1) := by decide +kernel
theorem dX5_as_12 : decode cX5_as 12 = .ok (.iconst 0, 1) := by decide +kernel
theorem dX5_as_13 : decode cX5_as 13 = .ok (.iconst 4, 1) := by decide +kernel
theorem dX5_as_14 : decode cX5_as 14 = .ok (.invokestatic 59, 3) := by decide +kernel
theorem dX5_as_17 : decode cX5_as 17 = .ok (.ifCond .ne 6, 3) := by decide +kernel
theorem dX5_as_20 : decode cX5_as 20 = .ok (.bipush (-102), 2) := by decide +kernel
theorem dX5_as_22 : decode cX5_as 22 = .ok (.ireturn, 1) := by decide +kernel
theorem dX5_as_23 : decode cX5_as 23 = .ok (.aload_n 0, 1) := by decide +kernel
theorem dX5_as_24 : decode cX5_as 24 = .ok (.getfield 7, 3) := by decide +kernel
theorem dX5_as_27 : decode cX5_as 27 = .ok (.iload_n 1, 1) := by decide +kernel
theorem dX5_as_28 : decode cX5_as 28 = .ok (.iaload, 1) := by decide +kernel
theorem dX5_as_29 : decode cX5_as 29 = .ok (.istore_n 3, 1) := by decide +kernel
theorem dX5_as_30 : decode cX5_as 30 = .ok (.iload_n 2, 1) := by decide +kernel
theorem dX5_as_31 : decode cX5_as 31 = .ok (.ifCond .eq 18, 3) := by decide +kernel
theorem dX5_as_34 : decode cX5_as 34 = .ok (.iload_n 3, 1) := by decide +kernel
theorem dX5_as_35 : decode cX5_as 35 = .ok (.iload_n 2, 1) := by decide +kernel
theorem dX5_as_36 : decode cX5_as 36 = .ok (.if_icmp .eq 13, 3) := by decide +kernel
theorem dX5_as_39 : decode cX5_as 39 = .ok (.iload_n 2, 1) := by decide +kernel
theorem dX5_as_40 : decode cX5_as 40 = .ok (.iconst 1, 1) := by decide +kernel
theorem dX5_as_41 : decode cX5_as 41 = .ok (.if_icmp .ne 12, 3) := by decide +kernel
theorem dX5_as_44 : decode cX5_as 44 = .ok (.iload_n 3, 1) := by decide +kernel
theorem dX5_as_45 : decode cX5_as 45 = .ok (.iconst 4, 1) := by decide +kernel
theorem dX5_as_46 : decode cX5_as 46 = .ok (.if_icmp .ne 7, 3) := by decide +kernel
theorem dX5_as_49 : decode cX5_as 49 = .ok (.iload_n 1, 1) := by decide +kernel
theorem dX5_as_50 : decode cX5_as 50 = .ok (.goto 4, 3) := by decide +kernel
theorem dX5_as_53 : decode cX5_as 53 = .ok (.iconst (-1), 1) := by decide +kernel
theorem dX5_as_54 : decode cX5_as 54 = .ok (.ireturn, 1) := by decide +kernel
set_option maxRecDepth 20000 in
theorem ggX5_same_X5_side : GoodIn wsX5_same wsX5_side := gdW wa_848 (by decide +kernel) (by decide +kernel)
set_option maxRecDepth 20000 in
theorem gX5_same_X5_side : GoodIn wsX5_same (va_wsS RX5 100 yX5_side wsX5_side) := (gd1 wa_846 (by decide +kernel) (gd1 wa_847 (by decide +kernel) (gd1 wa_5 (by decide +kernel) ggX5_same_X5_side)))
theorem dX5_same_0 : decode cX5_same 0 = .ok (.iload_n 0, 1) := by decide +kernel
theorem dX5_same_1 : decode cX5_same 1 = .ok (.iload_n 2, 1) := by decide +kernel
theorem dX5_same_2 : decode cX5_same 2 = .ok (.invokestatic 100, 3) := by decide +kernel
theorem dX5_same_5 : decode cX5_same 5 = .ok (.iload_n 1, 1) := by decide +kernel
theorem dX5_same_6 : decode cX5_same 6 = .ok (.iload_n 2, 1) := by decide +kernel
theorem dX5_same_7 : decode cX5_same 7 = .ok (.invokestatic 100, 3) := by decide +kernel
theorem dX5_same_10 : decode cX5_same 10 = .ok (.if_icmp .ne 7, 3) := by decide +kernel
theorem dX5_same_13 : decode cX5_same 13 = .ok (.iconst 1, 1) := by decide +kernel
