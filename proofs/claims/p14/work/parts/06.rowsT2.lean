theorem dX4_turnRow_94 : decode cX4_turnRow 94 = .ok (.iaload, 1) := by decide +kernel
theorem dX4_turnRow_95 : decode cX4_turnRow 95 = .ok (.iadd, 1) := by decide +kernel
theorem dX4_turnRow_96 : decode cX4_turnRow 96 = .ok (.iaload, 1) := by decide +kernel
theorem dX4_turnRow_97 : decode cX4_turnRow 97 = .ok (.iastore, 1) := by decide +kernel
theorem dX4_turnRow_98 : decode cX4_turnRow 98 = .ok (.iinc 9 (-1), 3) := by decide +kernel
theorem dX4_turnRow_101 : decode cX4_turnRow 101 = .ok (.goto (-36), 3) := by decide +kernel
theorem dX4_turnRow_104 : decode cX4_turnRow 104 = .ok (.aload_n 0, 1) := by decide +kernel
theorem dX4_turnRow_105 : decode cX4_turnRow 105 = .ok (.iload_n 1, 1) := by decide +kernel
theorem dX4_turnRow_106 : decode cX4_turnRow 106 = .ok (.getstatic 134, 3) := by decide +kernel
theorem dX4_turnRow_109 : decode cX4_turnRow 109 = .ok (.iload 6, 2) := by decide +kernel
theorem dX4_turnRow_111 : decode cX4_turnRow 111 = .ok (.iaload, 1) := by decide +kernel
theorem dX4_turnRow_112 : decode cX4_turnRow 112 = .ok (.iadd, 1) := by decide +kernel
theorem dX4_turnRow_113 : decode cX4_turnRow 113 = .ok (.iload 8, 2) := by decide +kernel
theorem dX4_turnRow_115 : decode cX4_turnRow 115 = .ok (.iastore, 1) := by decide +kernel
theorem dX4_turnRow_116 : decode cX4_turnRow 116 = .ok (.iinc 7 1, 3) := by decide +kernel
theorem dX4_turnRow_119 : decode cX4_turnRow 119 = .ok (.goto (-80), 3) := by decide +kernel
theorem dX4_turnRow_122 : decode cX4_turnRow 122 = .ok (.return_, 1) := by decide +kernel
set_option maxRecDepth 20000 in
theorem ggX4_ways_X4_lookAround : GoodIn wsX4_ways wsX4_lookAround := gdW wa_1154 (by decide +kernel) (by decide +kernel)
set_option maxRecDepth 20000 in
theorem gX4_ways_X4_lookAround : GoodIn wsX4_ways (wsV RX4 137 RX4 yX4_lookAround wsX4_lookAround) := (gd1 wa_1111 (by decide +kernel) (gd1 wa_1152 (by decide +kernel) (gd1 wa_1153 (by decide +kernel) (gd1 wa_2 (by decide +kernel) ggX4_ways_X4_lookAround))))
theorem dX4_ways_0 : decode cX4_ways 0 = .ok (.iload_n 1, 1) := by decide +kernel
theorem dX4_ways_1 : decode cX4_ways 1 = .ok (.ifCond .lt 8, 3) := by decide +kernel
theorem dX4_ways_4 : decode cX4_ways 4 = .ok (.iload_n 1, 1) := by decide +kernel
theorem dX4_ways_5 : decode cX4_ways 5 = .ok (.iconst 1, 1) := by decide +kernel
theorem dX4_ways_6 : decode cX4_ways 6 = .ok (.if_icmp .le 6, 3) := by decide +kernel
theorem dX4_ways_9 : decode cX4_ways 9 = .ok (.bipush (-102), 2) := by decide +kernel
theorem dX4_ways_11 : decode cX4_ways 11 = .ok (.ireturn, 1) := by decide +kernel
theorem dX4_ways_12 : decode cX4_ways 12 = .ok (.aload_n 0, 1) := by decide +kernel
theorem dX4_ways_13 : decode cX4_ways 13 = .ok (.getfield 16, 3) := by decide +kernel
theorem dX4_ways_16 : decode cX4_ways 16 = .ok (.getfield 52, 3) := by decide +kernel
theorem dX4_ways_19 : decode cX4_ways 19 = .ok (.ifCond .ne 6, 3) := by decide +kernel
theorem dX4_ways_22 : decode cX4_ways 22 = .ok (.bipush (-103), 2) := by decide +kernel
theorem dX4_ways_24 : decode cX4_ways 24 = .ok (.ireturn, 1) := by decide +kernel
theorem dX4_ways_25 : decode cX4_ways 25 = .ok (.aload_n 0, 1) := by decide +kernel
theorem dX4_ways_26 : decode cX4_ways 26 = .ok (.invokevirtual 137, 3) := by decide +kernel
theorem dX4_ways_29 : decode cX4_ways 29 = .ok (.iload_n 1, 1) := by decide +kernel
theorem dX4_ways_30 : decode cX4_ways 30 = .ok (.ifCond .ne 13, 3) := by decide +kernel
theorem dX4_ways_33 : decode cX4_ways 33 = .ok (.aload_n 0, 1) := by decide +kernel
theorem dX4_ways_34 : decode cX4_ways 34 = .ok (.getfield 29, 3) := by decide +kernel
theorem dX4_ways_37 : decode cX4_ways 37 = .ok (.getfield 140, 3) := by decide +kernel
theorem dX4_ways_40 : decode cX4_ways 40 = .ok (.goto 10, 3) := by decide +kernel
theorem dX4_ways_43 : decode cX4_ways 43 = .ok (.aload_n 0, 1) := by decide +kernel
theorem dX4_ways_44 : decode cX4_ways 44 = .ok (.getfield 29, 3) := by decide +kernel
theorem dX4_ways_47 : decode cX4_ways 47 = .ok (.getfield 143, 3) := by decide +kernel
theorem dX4_ways_50 : decode cX4_ways 50 = .ok (.ireturn, 1) := by decide +kernel
set_option maxRecDepth 20000 in
theorem ggX4_turning_X4_lookAround : GoodIn wsX4_turning wsX4_lookAround := gdW wa_1154 (by decide +kernel) (by decide +kernel)
set_option maxRecDepth 20000 in
theorem gX4_turning_X4_lookAround : GoodIn wsX4_turning (wsV RX4 137 RX4 yX4_lookAround wsX4_lookAround) := (gd1 wa_1111 (by decide +kernel) (gd1 wa_1152 (by decide +kernel) (gd1 wa_1153 (by decide +kernel) (gd1 wa_2 (by decide +kernel) ggX4_turning_X4_lookAround))))
set_option maxRecDepth 20000 in
theorem ggX4_turning_X1_firstTurn : GoodIn wsX4_turning wsX1_firstTurn := gdW wa_1413 (by decide +kernel) (by decide +kernel)
set_option maxRecDepth 20000 in
theorem gX4_turning_X1_firstTurn : GoodIn wsX4_turning (wsV RX4 149 RX1 yX1_firstTurn wsX1_firstTurn) := (gd1 wa_1410 (by decide +kernel) (gd1 wa_1411 (by decide +kernel) (gd1 wa_1412 (by decide +kernel) (gd1 wa_22 (by decide +kernel) ggX4_turning_X1_firstTurn))))
theorem dX4_turning_0 : decode cX4_turning 0 = .ok (.iload_n 1, 1) := by decide +kernel
theorem dX4_turning_1 : decode cX4_turning 1 = .ok (.ifCond .lt 8, 3) := by decide +kernel
theorem dX4_turning_4 : decode cX4_turning 4 = .ok (.iload_n 1, 1) := by decide +kernel
theorem dX4_turning_5 : decode cX4_turning 5 = .ok (.iconst 1, 1) := by decide +kernel
theorem dX4_turning_6 : decode cX4_turning 6 = .ok (.if_icmp .le 6, 3) := by decide +kernel
theorem dX4_turning_9 : decode cX4_turning 9 = .ok (.bipush (-102), 2) := by decide +kernel
theorem dX4_turning_11 : decode cX4_turning 11 = .ok (.ireturn, 1) := by decide +kernel
theorem dX4_turning_12 : decode cX4_turning 12 = .ok (.aload_n 0, 1) := by decide +kernel
theorem dX4_turning_13 : decode cX4_turning 13 = .ok (.getfield 16, 3) := by decide +kernel
theorem dX4_turning_16 : decode cX4_turning 16 = .ok (.getfield 52, 3) := by decide +kernel
theorem dX4_turning_19 : decode cX4_turning 19 = .ok (.ifCond .ne 6, 3) := by decide +kernel
theorem dX4_turning_22 : decode cX4_turning 22 = .ok (.bipush (-103), 2) := by decide +kernel
theorem dX4_turning_24 : decode cX4_turning 24 = .ok (.ireturn, 1) := by decide +kernel
theorem dX4_turning_25 : decode cX4_turning 25 = .ok (.aload_n 0, 1) := by decide +kernel
theorem dX4_turning_26 : decode cX4_turning 26 = .ok (.invokevirtual 137, 3) := by decide +kernel
theorem dX4_turning_29 : decode cX4_turning 29 = .ok (.aload_n 0, 1) := by decide +kernel
theorem dX4_turning_30 : decode cX4_turning 30 = .ok (.getfield 29, 3) := by decide +kernel
theorem dX4_turning_33 : decode cX4_turning 33 = .ok (.getfield 140, 3) := by decide +kernel
theorem dX4_turning_36 : decode cX4_turning 36 = .ok (.ifCond .ne 5, 3) := by decide +kernel
theorem dX4_turning_39 : decode cX4_turning 39 = .ok (.iconst (-1), 1) := by decide +kernel
theorem dX4_turning_40 : decode cX4_turning 40 = .ok (.ireturn, 1) := by decide +kernel
theorem dX4_turning_41 : decode cX4_turning 41 = .ok (.iload_n 1, 1) := by decide +kernel
theorem dX4_turning_42 : decode cX4_turning 42 = .ok (.ifCond .ne 13, 3) := by decide +kernel
theorem dX4_turning_45 : decode cX4_turning 45 = .ok (.aload_n 0, 1) := by decide +kernel
theorem dX4_turning_46 : decode cX4_turning 46 = .ok (.getfield 29, 3) := by decide +kernel
theorem dX4_turning_49 : decode cX4_turning 49 = .ok (.getfield 146, 3) := by decide +kernel
theorem dX4_turning_52 : decode cX4_turning 52 = .ok (.goto 10, 3) := by decide +kernel
theorem dX4_turning_55 : decode cX4_turning 55 = .ok (.aload_n 0, 1) := by decide +kernel
theorem dX4_turning_56 : decode cX4_turning 56 = .ok (.getfield 29, 3) := by decide +kernel
theorem dX4_turning_59 : decode cX4_turning 59 = .ok (.invokevirtual 149, 3) := by decide +kernel
theorem dX4_turning_62 : decode cX4_turning 62 = .ok (.ireturn, 1) := by decide +kernel
set_option maxRecDepth 20000 in
theorem ggX4_repaint_X4_lookAround : GoodIn wsX4_repaint wsX4_lookAround := gdW wa_1154 (by decide +kernel) (by decide +kernel)
set_option maxRecDepth 20000 in
theorem gX4_repaint_X4_lookAround : GoodIn wsX4_repaint (wsV RX4 137 RX4 yX4_lookAround wsX4_lookAround) := (gd1 wa_1111 (by decide +kernel) (gd1 wa_1152 (by decide +kernel) (gd1 wa_1153 (by decide +kernel) (gd1 wa_2 (by decide +kernel) ggX4_repaint_X4_lookAround))))
set_option maxRecDepth 20000 in
theorem ggX4_repaint_X1_sideToPaint : GoodIn wsX4_repaint wsX1_sideToPaint := gdW wa_1486 (by decide +kernel) (by decide +kernel)
set_option maxRecDepth 20000 in
theorem gX4_repaint_X1_sideToPaint : GoodIn wsX4_repaint (wsV RX4 155 RX1 yX1_sideToPaint wsX1_sideToPaint) := (gd1 wa_1483 (by decide +kernel) (gd1 wa_1484 (by decide +kernel) (gd1 wa_1485 (by decide +kernel) (gd1 wa_22 (by decide +kernel) ggX4_repaint_X1_sideToPaint))))
theorem dX4_repaint_0 : decode cX4_repaint 0 = .ok (.aload_n 0, 1) := by decide +kernel
theorem dX4_repaint_1 : decode cX4_repaint 1 = .ok (.getfield 16, 3) := by decide +kernel
theorem dX4_repaint_4 : decode cX4_repaint 4 = .ok (.getfield 52, 3) := by decide +kernel
theorem dX4_repaint_7 : decode cX4_repaint 7 = .ok (.ifCond .eq 12, 3) := by decide +kernel
theorem dX4_repaint_10 : decode cX4_repaint 10 = .ok (.aload_n 0, 1) := by decide +kernel
theorem dX4_repaint_11 : decode cX4_repaint 11 = .ok (.getfield 152, 3) := by decide +kernel
theorem dX4_repaint_14 : decode cX4_repaint 14 = .ok (.bipush 10, 2) := by decide +kernel
theorem dX4_repaint_16 : decode cX4_repaint 16 = .ok (.if_icmp .lt 6, 3) := by decide +kernel
theorem dX4_repaint_19 : decode cX4_repaint 19 = .ok (.bipush (-103), 2) := by decide +kernel
theorem dX4_repaint_21 : decode cX4_repaint 21 = .ok (.ireturn, 1) := by decide +kernel
theorem dX4_repaint_22 : decode cX4_repaint 22 = .ok (.aload_n 0, 1) := by decide +kernel
theorem dX4_repaint_23 : decode cX4_repaint 23 = .ok (.dup, 1) := by decide +kernel
theorem dX4_repaint_24 : decode cX4_repaint 24 = .ok (.getfield 152, 3) := by decide +kernel
theorem dX4_repaint_27 : decode cX4_repaint 27 = .ok (.iconst 1, 1) := by decide +kernel
theorem dX4_repaint_28 : decode cX4_repaint 28 = .ok (.iadd, 1) := by decide +kernel
theorem dX4_repaint_29 : decode cX4_repaint 29 = .ok (.putfield 152, 3) := by decide +kernel
theorem dX4_repaint_32 : decode cX4_repaint 32 = .ok (.aload_n 0, 1) := by decide +kernel
theorem dX4_repaint_33 : decode cX4_repaint 33 = .ok (.invokevirtual 137, 3) := by decide +kernel
theorem dX4_repaint_36 : decode cX4_repaint 36 = .ok (.aload_n 0, 1) := by decide +kernel
theorem dX4_repaint_37 : decode cX4_repaint 37 = .ok (.getfield 29, 3) := by decide +kernel
theorem dX4_repaint_40 : decode cX4_repaint 40 = .ok (.getfield 140, 3) := by decide +kernel
theorem dX4_repaint_43 : decode cX4_repaint 43 = .ok (.ifCond .le 8, 3) := by decide +kernel
theorem dX4_repaint_46 : decode cX4_repaint 46 = .ok (.bipush (-2), 2) := by decide +kernel
theorem dX4_repaint_48 : decode cX4_repaint 48 = .ok (.goto 17, 3) := by decide +kernel
theorem dX4_repaint_51 : decode cX4_repaint 51 = .ok (.aload_n 0, 1) := by decide +kernel
theorem dX4_repaint_52 : decode cX4_repaint 52 = .ok (.getfield 29, 3) := by decide +kernel
theorem dX4_repaint_55 : decode cX4_repaint 55 = .ok (.aload_n 0, 1) := by decide +kernel
theorem dX4_repaint_56 : decode cX4_repaint 56 = .ok (.getfield 16, 3) := by decide +kernel
theorem dX4_repaint_59 : decode cX4_repaint 59 = .ok (.getfield 52, 3) := by decide +kernel
theorem dX4_repaint_62 : decode cX4_repaint 62 = .ok (.invokevirtual 155, 3) := by decide +kernel
theorem dX4_repaint_65 : decode cX4_repaint 65 = .ok (.ireturn, 1) := by decide +kernel
set_option maxRecDepth 20000 in
theorem ggX4_odds_X4_lookAround : GoodIn wsX4_odds wsX4_lookAround := gdW wa_1154 (by decide +kernel) (by decide +kernel)
set_option maxRecDepth 20000 in
theorem gX4_odds_X4_lookAround : GoodIn wsX4_odds (wsV RX4 137 RX4 yX4_lookAround wsX4_lookAround) := (gd1 wa_1111 (by decide +kernel) (gd1 wa_1152 (by decide +kernel) (gd1 wa_1153 (by decide +kernel) (gd1 wa_2 (by decide +kernel) ggX4_odds_X4_lookAround))))
set_option maxRecDepth 20000 in
theorem ggX4_odds_X1_allWays : GoodIn wsX4_odds wsX1_allWays := gdW wa_1604 (by decide +kernel) (by decide +kernel)
set_option maxRecDepth 20000 in
theorem gX4_odds_X1_allWays : GoodIn wsX4_odds (wsV RX4 158 RX1 yX1_allWays wsX1_allWays) := (gd1 wa_1601 (by decide +kernel) (gd1 wa_1602 (by decide +kernel) (gd1 wa_1603 (by decide +kernel) (gd1 wa_22 (by decide +kernel) ggX4_odds_X1_allWays))))
set_option maxRecDepth 20000 in
theorem ggX4_odds_X4_commonDivisor : GoodIn wsX4_odds wsX4_commonDivisor := gdW wa_1607 (by decide +kernel) (by decide +kernel)
set_option maxRecDepth 20000 in
theorem gX4_odds_X4_commonDivisor : GoodIn wsX4_odds (va_wsS RX4 161 yX4_commonDivisor wsX4_commonDivisor) := (gd1 wa_1605 (by decide +kernel) (gd1 wa_1606 (by decide +kernel) (gd1 wa_2 (by decide +kernel) ggX4_odds_X4_commonDivisor)))
theorem dX4_odds_0 : decode cX4_odds 0 = .ok (.iload_n 1, 1) := by decide +kernel
theorem dX4_odds_1 : decode cX4_odds 1 = .ok (.ifCond .lt 8, 3) := by decide +kernel
theorem dX4_odds_4 : decode cX4_odds 4 = .ok (.iload_n 1, 1) := by decide +kernel
theorem dX4_odds_5 : decode cX4_odds 5 = .ok (.iconst 1, 1) := by decide +kernel
theorem dX4_odds_6 : decode cX4_odds 6 = .ok (.if_icmp .le 6, 3) := by decide +kernel
theorem dX4_odds_9 : decode cX4_odds 9 = .ok (.bipush (-102), 2) := by decide +kernel
theorem dX4_odds_11 : decode cX4_odds 11 = .ok (.ireturn, 1) := by decide +kernel
theorem dX4_odds_12 : decode cX4_odds 12 = .ok (.aload_n 0, 1) := by decide +kernel
theorem dX4_odds_13 : decode cX4_odds 13 = .ok (.getfield 16, 3) := by decide +kernel
theorem dX4_odds_16 : decode cX4_odds 16 = .ok (.getfield 52, 3) := by decide +kernel
theorem dX4_odds_19 : decode cX4_odds 19 = .ok (.ifCond .ne 6, 3) := by decide +kernel
theorem dX4_odds_22 : decode cX4_odds 22 = .ok (.bipush (-103), 2) := by decide +kernel
theorem dX4_odds_24 : decode cX4_odds 24 = .ok (.ireturn, 1) := by decide +kernel
theorem dX4_odds_25 : decode cX4_odds 25 = .ok (.aload_n 0, 1) := by decide +kernel
theorem dX4_odds_26 : decode cX4_odds 26 = .ok (.invokevirtual 137, 3) := by decide +kernel
theorem dX4_odds_29 : decode cX4_odds 29 = .ok (.aload_n 0, 1) := by decide +kernel
theorem dX4_odds_30 : decode cX4_odds 30 = .ok (.getfield 29, 3) := by decide +kernel
theorem dX4_odds_33 : decode cX4_odds 33 = .ok (.invokevirtual 158, 3) := by decide +kernel
theorem dX4_odds_36 : decode cX4_odds 36 = .ok (.istore_n 2, 1) := by decide +kernel
theorem dX4_odds_37 : decode cX4_odds 37 = .ok (.iload_n 2, 1) := by decide +kernel
theorem dX4_odds_38 : decode cX4_odds 38 = .ok (.aload_n 0, 1) := by decide +kernel
theorem dX4_odds_39 : decode cX4_odds 39 = .ok (.getfield 29, 3) := by decide +kernel
theorem dX4_odds_42 : decode cX4_odds 42 = .ok (.getfield 140, 3) := by decide +kernel
theorem dX4_odds_45 : decode cX4_odds 45 = .ok (.invokestatic 161, 3) := by decide +kernel
theorem dX4_odds_48 : decode cX4_odds 48 = .ok (.istore_n 3, 1) := by decide +kernel
theorem dX4_odds_49 : decode cX4_odds 49 = .ok (.iload_n 1, 1) := by decide +kernel
theorem dX4_odds_50 : decode cX4_odds 50 = .ok (.ifCond .ne 13, 3) := by decide +kernel
theorem dX4_odds_53 : decode cX4_odds 53 = .ok (.aload_n 0, 1) := by decide +kernel
theorem dX4_odds_54 : decode cX4_odds 54 = .ok (.getfield 29, 3) := by decide +kernel
theorem dX4_odds_57 : decode cX4_odds 57 = .ok (.getfield 140, 3) := by decide +kernel
theorem dX4_odds_60 : decode cX4_odds 60 = .ok (.goto 4, 3) := by decide +kernel
theorem dX4_odds_63 : decode cX4_odds 63 = .ok (.iload_n 2, 1) := by decide +kernel
theorem dX4_odds_64 : decode cX4_odds 64 = .ok (.istore 4, 2) := by decide +kernel
theorem dX4_odds_66 : decode cX4_odds 66 = .ok (.iload_n 3, 1) := by decide +kernel
theorem dX4_odds_67 : decode cX4_odds 67 = .ok (.ifCond .le 10, 3) := by decide +kernel
theorem dX4_odds_70 : decode cX4_odds 70 = .ok (.iload 4, 2) := by decide +kernel
theorem dX4_odds_72 : decode cX4_odds 72 = .ok (.iload_n 3, 1) := by decide +kernel
theorem dX4_odds_73 : decode cX4_odds 73 = .ok (.idiv, 1) := by decide +kernel
theorem dX4_odds_74 : decode cX4_odds 74 = .ok (.goto 5, 3) := by decide +kernel
theorem dX4_odds_77 : decode cX4_odds 77 = .ok (.iload 4, 2) := by decide +kernel
theorem dX4_odds_79 : decode cX4_odds 79 = .ok (.ireturn, 1) := by decide +kernel
set_option maxRecDepth 20000 in
theorem ggX4_lookAround_X1_look : GoodIn wsX4_lookAround wsX1_look := gdW wa_1158 (by decide +kernel) (by decide +kernel)
set_option maxRecDepth 20000 in
theorem gX4_lookAround_X1_look : GoodIn wsX4_lookAround (wsV RX4 164 RX1 yX1_look wsX1_look) := (gd1 wa_1155 (by decide +kernel) (gd1 wa_1156 (by decide +kernel) (gd1 wa_1157 (by decide +kernel) (gd1 wa_22 (by decide +kernel) ggX4_lookAround_X1_look))))
theorem dX4_lookAround_0 : decode cX4_lookAround 0 = .ok (.aload_n 0, 1) := by decide +kernel
theorem dX4_lookAround_1 : decode cX4_lookAround 1 = .ok (.getfield 55, 3) := by decide +kernel
theorem dX4_lookAround_4 : decode cX4_lookAround 4 = .ok (.ifCond .ne 19, 3) := by decide +kernel
theorem dX4_lookAround_7 : decode cX4_lookAround 7 = .ok (.aload_n 0, 1) := by decide +kernel
theorem dX4_lookAround_8 : decode cX4_lookAround 8 = .ok (.getfield 29, 3) := by decide +kernel
theorem dX4_lookAround_11 : decode cX4_lookAround 11 = .ok (.aload_n 0, 1) := by decide +kernel
theorem dX4_lookAround_12 : decode cX4_lookAround 12 = .ok (.getfield 16, 3) := by decide +kernel
theorem dX4_lookAround_15 : decode cX4_lookAround 15 = .ok (.invokevirtual 164, 3) := by decide +kernel
theorem dX4_lookAround_18 : decode cX4_lookAround 18 = .ok (.aload_n 0, 1) := by decide +kernel
theorem dX4_lookAround_19 : decode cX4_lookAround 19 = .ok (.iconst 1, 1) := by decide +kernel
theorem dX4_lookAround_20 : decode cX4_lookAround 20 = .ok (.putfield 55, 3) := by decide +kernel
theorem dX4_lookAround_23 : decode cX4_lookAround 23 = .ok (.return_, 1) := by decide +kernel
theorem dX4_commonDivisor_0 : decode cX4_commonDivisor 0 = .ok (.iload_n 0, 1) := by decide +kernel
theorem dX4_commonDivisor_1 : decode cX4_commonDivisor 1 = .ok (.istore_n 2, 1) := by decide +kernel
theorem dX4_commonDivisor_2 : decode cX4_commonDivisor 2 = .ok (.iload_n 1, 1) := by decide +kernel
theorem dX4_commonDivisor_3 : decode cX4_commonDivisor 3 = .ok (.istore_n 3, 1) := by decide +kernel
theorem dX4_commonDivisor_4 : decode cX4_commonDivisor 4 = .ok (.iconst 0, 1) := by decide +kernel
theorem dX4_commonDivisor_5 : decode cX4_commonDivisor 5 = .ok (.istore 4, 2) := by decide +kernel
theorem dX4_commonDivisor_7 : decode cX4_commonDivisor 7 = .ok (.iload 4, 2) := by decide +kernel
theorem dX4_commonDivisor_9 : decode cX4_commonDivisor 9 = .ok (.bipush 64, 2) := by decide +kernel
theorem dX4_commonDivisor_11 : decode cX4_commonDivisor 11 = .ok (.if_icmp .ge 23, 3) := by decide +kernel
theorem dX4_commonDivisor_14 : decode cX4_commonDivisor 14 = .ok (.iload_n 3, 1) := by decide +kernel
theorem dX4_commonDivisor_15 : decode cX4_commonDivisor 15 = .ok (.ifCond .eq 19, 3) := by decide +kernel
theorem dX4_commonDivisor_18 : decode cX4_commonDivisor 18 = .ok (.iload_n 2, 1) := by decide +kernel
theorem dX4_commonDivisor_19 : decode cX4_commonDivisor 19 = .ok (.iload_n 3, 1) := by decide +kernel
theorem dX4_commonDivisor_20 : decode cX4_commonDivisor 20 = .ok (.irem, 1) := by decide +kernel
theorem dX4_commonDivisor_21 : decode cX4_commonDivisor 21 = .ok (.istore 5, 2) := by decide +kernel
theorem dX4_commonDivisor_23 : decode cX4_commonDivisor 23 = .ok (.iload_n 3, 1) := by decide +kernel
theorem dX4_commonDivisor_24 : decode cX4_commonDivisor 24 = .ok (.istore_n 2, 1) := by decide +kernel
theorem dX4_commonDivisor_25 : decode cX4_commonDivisor 25 = .ok (.iload 5, 2) := by decide +kernel
theorem dX4_commonDivisor_27 : decode cX4_commonDivisor 27 = .ok (.istore_n 3, 1) := by decide +kernel
theorem dX4_commonDivisor_28 : decode cX4_commonDivisor 28 = .ok (.iinc 4 1, 3) := by decide +kernel
theorem dX4_commonDivisor_31 : decode cX4_commonDivisor 31 = .ok (.goto (-24), 3) := by decide +kernel
theorem dX4_commonDivisor_34 : decode cX4_commonDivisor 34 = .ok (.iload_n 2, 1) := by decide +kernel
theorem dX4_commonDivisor_35 : decode cX4_commonDivisor 35 = .ok (.ireturn, 1) := by decide +kernel
set_option maxRecDepth 20000 in
theorem ggX4_see_X2_has : GoodIn wsX4_see wsX2_has := gdW wa_716 (by decide +kernel) (by decide +kernel)
set_option maxRecDepth 20000 in
theorem gX4_see_X2_has : GoodIn wsX4_see (wsV RX4 85 RX2 yX2_has wsX2_has) := (gd1 wa_713 (by decide +kernel) (gd1 wa_714 (by decide +kernel) (gd1 wa_715 (by decide +kernel) (gd1 wa_16 (by decide +kernel) ggX4_see_X2_has))))
theorem dX4_see_0 : decode cX4_see 0 = .ok (.aload_n 0, 1) := by decide +kernel
theorem dX4_see_1 : decode cX4_see 1 = .ok (.getfield 16, 3) := by decide +kernel
theorem dX4_see_4 : decode cX4_see 4 = .ok (.iload_n 1, 1) := by decide +kernel
theorem dX4_see_5 : decode cX4_see 5 = .ok (.invokevirtual 85, 3) := by decide +kernel
theorem dX4_see_8 : decode cX4_see 8 = .ok (.ifCond .ne 6, 3) := by decide +kernel
theorem dX4_see_11 : decode cX4_see 11 = .ok (.bipush (-101), 2) := by decide +kernel
theorem dX4_see_13 : decode cX4_see 13 = .ok (.ireturn, 1) := by decide +kernel
theorem dX4_see_14 : decode cX4_see 14 = .ok (.iload_n 2, 1) := by decide +kernel
theorem dX4_see_15 : decode cX4_see 15 = .ok (.ifCond .lt 8, 3) := by decide +kernel
theorem dX4_see_18 : decode cX4_see 18 = .ok (.iload_n 2, 1) := by decide +kernel
theorem dX4_see_19 : decode cX4_see 19 = .ok (.iconst 3, 1) := by decide +kernel
theorem dX4_see_20 : decode cX4_see 20 = .ok (.if_icmp .lt 6, 3) := by decide +kernel
theorem dX4_see_23 : decode cX4_see 23 = .ok (.bipush (-102), 2) := by decide +kernel
theorem dX4_see_25 : decode cX4_see 25 = .ok (.ireturn, 1) := by decide +kernel
theorem dX4_see_26 : decode cX4_see 26 = .ok (.aload_n 0, 1) := by decide +kernel
theorem dX4_see_27 : decode cX4_see 27 = .ok (.getfield 16, 3) := by decide +kernel
theorem dX4_see_30 : decode cX4_see 30 = .ok (.getfield 168, 3) := by decide +kernel
theorem dX4_see_33 : decode cX4_see 33 = .ok (.bipush 6, 2) := by decide +kernel
theorem dX4_see_35 : decode cX4_see 35 = .ok (.if_icmp .lt 6, 3) := by decide +kernel
theorem dX4_see_38 : decode cX4_see 38 = .ok (.bipush (-104), 2) := by decide +kernel
theorem dX4_see_40 : decode cX4_see 40 = .ok (.ireturn, 1) := by decide +kernel
theorem dX4_see_41 : decode cX4_see 41 = .ok (.getstatic 111, 3) := by decide +kernel
theorem dX4_see_44 : decode cX4_see 44 = .ok (.iload_n 2, 1) := by decide +kernel
theorem dX4_see_45 : decode cX4_see 45 = .ok (.iaload, 1) := by decide +kernel
theorem dX4_see_46 : decode cX4_see 46 = .ok (.istore 4, 2) := by decide +kernel
theorem dX4_see_48 : decode cX4_see 48 = .ok (.aload_n 0, 1) := by decide +kernel
theorem dX4_see_49 : decode cX4_see 49 = .ok (.getfield 16, 3) := by decide +kernel
theorem dX4_see_52 : decode cX4_see 52 = .ok (.getfield 73, 3) := by decide +kernel
theorem dX4_see_55 : decode cX4_see 55 = .ok (.iload_n 1, 1) := by decide +kernel
theorem dX4_see_56 : decode cX4_see 56 = .ok (.aaload, 1) := by decide +kernel
theorem dX4_see_57 : decode cX4_see 57 = .ok (.dup, 1) := by decide +kernel
theorem dX4_see_58 : decode cX4_see 58 = .ok (.getfield 96, 3) := by decide +kernel
theorem dX4_see_61 : decode cX4_see 61 = .ok (.iload_n 3, 1) := by decide +kernel
theorem dX4_see_62 : decode cX4_see 62 = .ok (.ifCond .eq 8, 3) := by decide +kernel
theorem dX4_see_65 : decode cX4_see 65 = .ok (.iload 4, 2) := by decide +kernel
theorem dX4_see_67 : decode cX4_see 67 = .ok (.goto 7, 3) := by decide +kernel
theorem dX4_see_70 : decode cX4_see 70 = .ok (.iload 4, 2) := by decide +kernel
theorem dX4_see_72 : decode cX4_see 72 = .ok (.iconst (-1), 1) := by decide +kernel
theorem dX4_see_73 : decode cX4_see 73 = .ok (.ixor, 1) := by decide +kernel
theorem dX4_see_74 : decode cX4_see 74 = .ok (.iand, 1) := by decide +kernel
theorem dX4_see_75 : decode cX4_see 75 = .ok (.putfield 96, 3) := by decide +kernel
theorem dX4_see_78 : decode cX4_see 78 = .ok (.aload_n 0, 1) := by decide +kernel
theorem dX4_see_79 : decode cX4_see 79 = .ok (.getfield 16, 3) := by decide +kernel
theorem dX4_see_82 : decode cX4_see 82 = .ok (.dup, 1) := by decide +kernel
theorem dX4_see_83 : decode cX4_see 83 = .ok (.getfield 168, 3) := by decide +kernel
theorem dX4_see_86 : decode cX4_see 86 = .ok (.iconst 1, 1) := by decide +kernel
theorem dX4_see_87 : decode cX4_see 87 = .ok (.iadd, 1) := by decide +kernel
theorem dX4_see_88 : decode cX4_see 88 = .ok (.putfield 168, 3) := by decide +kernel
theorem dX4_see_91 : decode cX4_see 91 = .ok (.aload_n 0, 1) := by decide +kernel
theorem dX4_see_92 : decode cX4_see 92 = .ok (.getfield 16, 3) := by decide +kernel
theorem dX4_see_95 : decode cX4_see 95 = .ok (.getfield 168, 3) := by decide +kernel
theorem dX4_see_98 : decode cX4_see 98 = .ok (.ireturn, 1) := by decide +kernel
set_option maxRecDepth 20000 in
theorem ggX4_forget_X2_forgetAll : GoodIn wsX4_forget wsX2_forgetAll := gdW wa_655 (by decide +kernel) (by decide +kernel)
set_option maxRecDepth 20000 in
theorem gX4_forget_X2_forgetAll : GoodIn wsX4_forget (wsV RX4 70 RX2 yX2_forgetAll wsX2_forgetAll) := (gd1 wa_652 (by decide +kernel) (gd1 wa_653 (by decide +kernel) (gd1 wa_654 (by decide +kernel) (gd1 wa_16 (by decide +kernel) ggX4_forget_X2_forgetAll))))
theorem dX4_forget_0 : decode cX4_forget 0 = .ok (.aload_n 0, 1) := by decide +kernel
theorem dX4_forget_1 : decode cX4_forget 1 = .ok (.getfield 16, 3) := by decide +kernel
theorem dX4_forget_4 : decode cX4_forget 4 = .ok (.getfield 168, 3) := by decide +kernel
theorem dX4_forget_7 : decode cX4_forget 7 = .ok (.istore_n 1, 1) := by decide +kernel
theorem dX4_forget_8 : decode cX4_forget 8 = .ok (.aload_n 0, 1) := by decide +kernel
theorem dX4_forget_9 : decode cX4_forget 9 = .ok (.getfield 16, 3) := by decide +kernel
theorem dX4_forget_12 : decode cX4_forget 12 = .ok (.invokevirtual 70, 3) := by decide +kernel
theorem dX4_forget_15 : decode cX4_forget 15 = .ok (.iload_n 1, 1) := by decide +kernel
theorem dX4_forget_16 : decode cX4_forget 16 = .ok (.ireturn, 1) := by decide +kernel
set_option maxRecDepth 20000 in
theorem ggX4_runs_X2_copyFrom : GoodIn wsX4_runs wsX2_copyFrom := gdW wa_1683 (by decide +kernel) (by decide +kernel)
set_option maxRecDepth 20000 in
theorem gX4_runs_X2_copyFrom : GoodIn wsX4_runs (wsV RX4 171 RX2 yX2_copyFrom wsX2_copyFrom) := (gd1 wa_1680 (by decide +kernel) (gd1 wa_1681 (by decide +kernel) (gd1 wa_1682 (by decide +kernel) (gd1 wa_16 (by decide +kernel) ggX4_runs_X2_copyFrom))))
set_option maxRecDepth 20000 in
theorem ggX4_runs_X4_nextSeed : GoodIn wsX4_runs wsX4_nextSeed := gdW wa_1732 (by decide +kernel) (by decide +kernel)
set_option maxRecDepth 20000 in
theorem gX4_runs_X4_nextSeed : GoodIn wsX4_runs (va_wsS RX4 174 yX4_nextSeed wsX4_nextSeed) := (gd1 wa_1730 (by decide +kernel) (gd1 wa_1731 (by decide +kernel) (gd1 wa_2 (by decide +kernel) ggX4_runs_X4_nextSeed)))
set_option maxRecDepth 20000 in
theorem ggX4_runs_X4_draw : GoodIn wsX4_runs wsX4_draw := gdW wa_1738 (by decide +kernel) (by decide +kernel)
set_option maxRecDepth 20000 in
theorem gX4_runs_X4_draw : GoodIn wsX4_runs (va_wsS RX4 177 yX4_draw wsX4_draw) := (gd1 wa_1736 (by decide +kernel) (gd1 wa_1737 (by decide +kernel) (gd1 wa_2 (by decide +kernel) ggX4_runs_X4_draw)))
set_option maxRecDepth 20000 in
theorem ggX4_runs_X2_has : GoodIn wsX4_runs wsX2_has := gdW wa_716 (by decide +kernel) (by decide +kernel)
set_option maxRecDepth 20000 in
theorem gX4_runs_X2_has : GoodIn wsX4_runs (wsV RX4 85 RX2 yX2_has wsX2_has) := (gd1 wa_713 (by decide +kernel) (gd1 wa_714 (by decide +kernel) (gd1 wa_715 (by decide +kernel) (gd1 wa_16 (by decide +kernel) ggX4_runs_X2_has))))
set_option maxRecDepth 20000 in
theorem ggX4_runs_X4_canTurn : GoodIn wsX4_runs wsX4_canTurn := gdW wa_136 (by decide +kernel) (by decide +kernel)
set_option maxRecDepth 20000 in
theorem gX4_runs_X4_canTurn : GoodIn wsX4_runs (va_wsS RX4 125 yX4_canTurn wsX4_canTurn) := (gd1 wa_966 (by decide +kernel) (gd1 wa_135 (by decide +kernel) (gd1 wa_2 (by decide +kernel) ggX4_runs_X4_canTurn)))
set_option maxRecDepth 20000 in
theorem ggX4_runs_X0_turnOver : GoodIn wsX4_runs wsX0_turnOver := gdW wa_970 (by decide +kernel) (by decide +kernel)
set_option maxRecDepth 20000 in
theorem gX4_runs_X0_turnOver : GoodIn wsX4_runs (wsV RX4 128 RX0 yX0_turnOver wsX0_turnOver) := (gd1 wa_967 (by decide +kernel) (gd1 wa_968 (by decide +kernel) (gd1 wa_969 (by decide +kernel) (gd1 wa_69 (by decide +kernel) ggX4_runs_X0_turnOver))))
set_option maxRecDepth 20000 in
theorem ggX4_runs_X2_clashes : GoodIn wsX4_runs wsX2_clashes := gdW wa_975 (by decide +kernel) (by decide +kernel)
set_option maxRecDepth 20000 in
theorem gX4_runs_X2_clashes : GoodIn wsX4_runs (wsV RX4 131 RX2 yX2_clashes wsX2_clashes) := (gd1 wa_972 (by decide +kernel) (gd1 wa_973 (by decide +kernel) (gd1 wa_974 (by decide +kernel) (gd1 wa_16 (by decide +kernel) ggX4_runs_X2_clashes))))
theorem dX4_runs_0 : decode cX4_runs 0 = .ok (.iload_n 1, 1) := by decide +kernel
theorem dX4_runs_1 : decode cX4_runs 1 = .ok (.iconst 1, 1) := by decide +kernel
theorem dX4_runs_2 : decode cX4_runs 2 = .ok (.if_icmp .lt 22, 3) := by decide +kernel
theorem dX4_runs_5 : decode cX4_runs 5 = .ok (.iload_n 1, 1) := by decide +kernel
theorem dX4_runs_6 : decode cX4_runs 6 = .ok (.bipush 99, 2) := by decide +kernel
theorem dX4_runs_8 : decode cX4_runs 8 = .ok (.if_icmp .gt 16, 3) := by decide +kernel
theorem dX4_runs_11 : decode cX4_runs 11 = .ok (.iload_n 2, 1) := by decide +kernel
theorem dX4_runs_12 : decode cX4_runs 12 = .ok (.ifCond .lt 12, 3) := by decide +kernel
theorem dX4_runs_15 : decode cX4_runs 15 = .ok (.iload_n 3, 1) := by decide +kernel
theorem dX4_runs_16 : decode cX4_runs 16 = .ok (.ifCond .lt 8, 3) := by decide +kernel
theorem dX4_runs_19 : decode cX4_runs 19 = .ok (.iload_n 3, 1) := by decide +kernel
theorem dX4_runs_20 : decode cX4_runs 20 = .ok (.iconst 2, 1) := by decide +kernel
theorem dX4_runs_21 : decode cX4_runs 21 = .ok (.if_icmp .le 6, 3) := by decide +kernel
theorem dX4_runs_24 : decode cX4_runs 24 = .ok (.bipush (-102), 2) := by decide +kernel
theorem dX4_runs_26 : decode cX4_runs 26 = .ok (.ireturn, 1) := by decide +kernel
theorem dX4_runs_27 : decode cX4_runs 27 = .ok (.aload_n 0, 1) := by decide +kernel
theorem dX4_runs_28 : decode cX4_runs 28 = .ok (.getfield 16, 3) := by decide +kernel
theorem dX4_runs_31 : decode cX4_runs 31 = .ok (.getfield 52, 3) := by decide +kernel
theorem dX4_runs_34 : decode cX4_runs 34 = .ok (.ifCond .ne 6, 3) := by decide +kernel
theorem dX4_runs_37 : decode cX4_runs 37 = .ok (.bipush (-103), 2) := by decide +kernel
theorem dX4_runs_39 : decode cX4_runs 39 = .ok (.ireturn, 1) := by decide +kernel
theorem dX4_runs_40 : decode cX4_runs 40 = .ok (.aload_n 0, 1) := by decide +kernel
theorem dX4_runs_41 : decode cX4_runs 41 = .ok (.getfield 23, 3) := by decide +kernel
theorem dX4_runs_44 : decode cX4_runs 44 = .ok (.aload_n 0, 1) := by decide +kernel
theorem dX4_runs_45 : decode cX4_runs 45 = .ok (.getfield 16, 3) := by decide +kernel
theorem dX4_runs_48 : decode cX4_runs 48 = .ok (.invokevirtual 171, 3) := by decide +kernel
theorem dX4_runs_51 : decode cX4_runs 51 = .ok (.iload_n 2, 1) := by decide +kernel
theorem dX4_runs_52 : decode cX4_runs 52 = .ok (.istore 4, 2) := by decide +kernel
theorem dX4_runs_54 : decode cX4_runs 54 = .ok (.iconst 0, 1) := by decide +kernel
theorem dX4_runs_55 : decode cX4_runs 55 = .ok (.istore 5, 2) := by decide +kernel
theorem dX4_runs_57 : decode cX4_runs 57 = .ok (.iconst 0, 1) := by decide +kernel
theorem dX4_runs_58 : decode cX4_runs 58 = .ok (.istore 6, 2) := by decide +kernel
theorem dX4_runs_60 : decode cX4_runs 60 = .ok (.iload 6, 2) := by decide +kernel
theorem dX4_runs_62 : decode cX4_runs 62 = .ok (.iload_n 1, 1) := by decide +kernel
theorem dX4_runs_63 : decode cX4_runs 63 = .ok (.if_icmp .ge 106, 3) := by decide +kernel
theorem dX4_runs_66 : decode cX4_runs 66 = .ok (.iload 4, 2) := by decide +kernel
theorem dX4_runs_68 : decode cX4_runs 68 = .ok (.invokestatic 174, 3) := by decide +kernel
theorem dX4_runs_71 : decode cX4_runs 71 = .ok (.istore 4, 2) := by decide +kernel
theorem dX4_runs_73 : decode cX4_runs 73 = .ok (.iload 4, 2) := by decide +kernel
theorem dX4_runs_75 : decode cX4_runs 75 = .ok (.aload_n 0, 1) := by decide +kernel
theorem dX4_runs_76 : decode cX4_runs 76 = .ok (.getfield 23, 3) := by decide +kernel
theorem dX4_runs_79 : decode cX4_runs 79 = .ok (.getfield 52, 3) := by decide +kernel
theorem dX4_runs_82 : decode cX4_runs 82 = .ok (.invokestatic 177, 3) := by decide +kernel
theorem dX4_runs_85 : decode cX4_runs 85 = .ok (.istore 7, 2) := by decide +kernel
theorem dX4_runs_87 : decode cX4_runs 87 = .ok (.iload 4, 2) := by decide +kernel
theorem dX4_runs_89 : decode cX4_runs 89 = .ok (.invokestatic 174, 3) := by decide +kernel
theorem dX4_runs_92 : decode cX4_runs 92 = .ok (.istore 4, 2) := by decide +kernel
theorem dX4_runs_94 : decode cX4_runs 94 = .ok (.iload 4, 2) := by decide +kernel
theorem dX4_runs_96 : decode cX4_runs 96 = .ok (.iconst 4, 1) := by decide +kernel
theorem dX4_runs_97 : decode cX4_runs 97 = .ok (.invokestatic 177, 3) := by decide +kernel
theorem dX4_runs_100 : decode cX4_runs 100 = .ok (.istore 8, 2) := by decide +kernel
theorem dX4_runs_102 : decode cX4_runs 102 = .ok (.aload_n 0, 1) := by decide +kernel
theorem dX4_runs_103 : decode cX4_runs 103 = .ok (.getfield 23, 3) := by decide +kernel
theorem dX4_runs_106 : decode cX4_runs 106 = .ok (.iload 7, 2) := by decide +kernel
theorem dX4_runs_108 : decode cX4_runs 108 = .ok (.invokevirtual 85, 3) := by decide +kernel
theorem dX4_runs_111 : decode cX4_runs 111 = .ok (.ifCond .eq 39, 3) := by decide +kernel
theorem dX4_runs_114 : decode cX4_runs 114 = .ok (.aload_n 0, 1) := by decide +kernel
theorem dX4_runs_115 : decode cX4_runs 115 = .ok (.getfield 23, 3) := by decide +kernel
theorem dX4_runs_118 : decode cX4_runs 118 = .ok (.getfield 73, 3) := by decide +kernel
theorem dX4_runs_121 : decode cX4_runs 121 = .ok (.iload 7, 2) := by decide +kernel
theorem dX4_runs_123 : decode cX4_runs 123 = .ok (.aaload, 1) := by decide +kernel
theorem dX4_runs_124 : decode cX4_runs 124 = .ok (.getfield 77, 3) := by decide +kernel
theorem dX4_runs_127 : decode cX4_runs 127 = .ok (.iload 8, 2) := by decide +kernel
theorem dX4_runs_129 : decode cX4_runs 129 = .ok (.invokestatic 125, 3) := by decide +kernel
theorem dX4_runs_132 : decode cX4_runs 132 = .ok (.ifCond .eq 18, 3) := by decide +kernel
theorem dX4_runs_135 : decode cX4_runs 135 = .ok (.aload_n 0, 1) := by decide +kernel
theorem dX4_runs_136 : decode cX4_runs 136 = .ok (.getfield 23, 3) := by decide +kernel
theorem dX4_runs_139 : decode cX4_runs 139 = .ok (.getfield 73, 3) := by decide +kernel
theorem dX4_runs_142 : decode cX4_runs 142 = .ok (.iload 7, 2) := by decide +kernel
theorem dX4_runs_144 : decode cX4_runs 144 = .ok (.aaload, 1) := by decide +kernel
theorem dX4_runs_145 : decode cX4_runs 145 = .ok (.iload 8, 2) := by decide +kernel
theorem dX4_runs_147 : decode cX4_runs 147 = .ok (.invokevirtual 128, 3) := by decide +kernel
theorem dX4_runs_150 : decode cX4_runs 150 = .ok (.aload_n 0, 1) := by decide +kernel
theorem dX4_runs_151 : decode cX4_runs 151 = .ok (.getfield 23, 3) := by decide +kernel
theorem dX4_runs_154 : decode cX4_runs 154 = .ok (.invokevirtual 131, 3) := by decide +kernel
theorem dX4_runs_157 : decode cX4_runs 157 = .ok (.ifCond .ne 6, 3) := by decide +kernel
theorem dX4_runs_160 : decode cX4_runs 160 = .ok (.iinc 5 1, 3) := by decide +kernel
theorem dX4_runs_163 : decode cX4_runs 163 = .ok (.iinc 6 1, 3) := by decide +kernel
theorem dX4_runs_166 : decode cX4_runs 166 = .ok (.goto (-106), 3) := by decide +kernel
theorem dX4_runs_169 : decode cX4_runs 169 = .ok (.iload_n 3, 1) := by decide +kernel
theorem dX4_runs_170 : decode cX4_runs 170 = .ok (.ifCond .ne 8, 3) := by decide +kernel
theorem dX4_runs_173 : decode cX4_runs 173 = .ok (.iload 5, 2) := by decide +kernel
theorem dX4_runs_175 : decode cX4_runs 175 = .ok (.goto 20, 3) := by decide +kernel
theorem dX4_runs_178 : decode cX4_runs 178 = .ok (.iload_n 3, 1) := by decide +kernel
theorem dX4_runs_179 : decode cX4_runs 179 = .ok (.iconst 1, 1) := by decide +kernel
theorem dX4_runs_180 : decode cX4_runs 180 = .ok (.if_icmp .ne 13, 3) := by decide +kernel
theorem dX4_runs_183 : decode cX4_runs 183 = .ok (.aload_n 0, 1) := by decide +kernel
theorem dX4_runs_184 : decode cX4_runs 184 = .ok (.getfield 23, 3) := by decide +kernel
theorem dX4_runs_187 : decode cX4_runs 187 = .ok (.invokevirtual 131, 3) := by decide +kernel
theorem dX4_runs_190 : decode cX4_runs 190 = .ok (.goto 5, 3) := by decide +kernel
theorem dX4_runs_193 : decode cX4_runs 193 = .ok (.iload 4, 2) := by decide +kernel
theorem dX4_runs_195 : decode cX4_runs 195 = .ok (.ireturn, 1) := by decide +kernel
theorem dX4_nextSeed_0 : decode cX4_nextSeed 0 = .ok (.ldc2_w 180, 3) := by decide +kernel
theorem dX4_nextSeed_3 : decode cX4_nextSeed 3 = .ok (.iload_n 0, 1) := by decide +kernel
theorem dX4_nextSeed_4 : decode cX4_nextSeed 4 = .ok (.i2l, 1) := by decide +kernel
theorem dX4_nextSeed_5 : decode cX4_nextSeed 5 = .ok (.lmul, 1) := by decide +kernel
theorem dX4_nextSeed_6 : decode cX4_nextSeed 6 = .ok (.ldc2_w 182, 3) := by decide +kernel
theorem dX4_nextSeed_9 : decode cX4_nextSeed 9 = .ok (.ladd, 1) := by decide +kernel
theorem dX4_nextSeed_10 : decode cX4_nextSeed 10 = .ok (.ldc2_w 184, 3) := by decide +kernel
theorem dX4_nextSeed_13 : decode cX4_nextSeed 13 = .ok (.land, 1) := by decide +kernel
theorem dX4_nextSeed_14 : decode cX4_nextSeed 14 = .ok (.l2i, 1) := by decide +kernel
theorem dX4_nextSeed_15 : decode cX4_nextSeed 15 = .ok (.ireturn, 1) := by decide +kernel
theorem dX4_draw_0 : decode cX4_draw 0 = .ok (.iload_n 1, 1) := by decide +kernel
theorem dX4_draw_1 : decode cX4_draw 1 = .ok (.ifCond .le 12, 3) := by decide +kernel
theorem dX4_draw_4 : decode cX4_draw 4 = .ok (.iload_n 0, 1) := by decide +kernel
theorem dX4_draw_5 : decode cX4_draw 5 = .ok (.ldc 186, 2) := by decide +kernel
theorem dX4_draw_7 : decode cX4_draw 7 = .ok (.idiv, 1) := by decide +kernel
theorem dX4_draw_8 : decode cX4_draw 8 = .ok (.iload_n 1, 1) := by decide +kernel
theorem dX4_draw_9 : decode cX4_draw 9 = .ok (.irem, 1) := by decide +kernel
theorem dX4_draw_10 : decode cX4_draw 10 = .ok (.goto 4, 3) := by decide +kernel
theorem dX4_draw_13 : decode cX4_draw 13 = .ok (.iconst 0, 1) := by decide +kernel
theorem dX4_draw_14 : decode cX4_draw 14 = .ok (.ireturn, 1) := by decide +kernel
set_option maxRecDepth 20000 in
theorem ggX4_image_X2_copyFrom : GoodIn wsX4_image wsX2_copyFrom := gdW wa_1683 (by decide +kernel) (by decide +kernel)
set_option maxRecDepth 20000 in
theorem gX4_image_X2_copyFrom : GoodIn wsX4_image (wsV RX4 171 RX2 yX2_copyFrom wsX2_copyFrom) := (gd1 wa_1680 (by decide +kernel) (gd1 wa_1681 (by decide +kernel) (gd1 wa_1682 (by decide +kernel) (gd1 wa_16 (by decide +kernel) ggX4_image_X2_copyFrom))))
theorem dX4_image_0 : decode cX4_image 0 = .ok (.aload_n 0, 1) := by decide +kernel
theorem dX4_image_1 : decode cX4_image 1 = .ok (.getfield 16, 3) := by decide +kernel
theorem dX4_image_4 : decode cX4_image 4 = .ok (.getfield 52, 3) := by decide +kernel
theorem dX4_image_7 : decode cX4_image 7 = .ok (.ifCond .ne 6, 3) := by decide +kernel
theorem dX4_image_10 : decode cX4_image 10 = .ok (.bipush (-103), 2) := by decide +kernel
theorem dX4_image_12 : decode cX4_image 12 = .ok (.ireturn, 1) := by decide +kernel
theorem dX4_image_13 : decode cX4_image 13 = .ok (.aload_n 0, 1) := by decide +kernel
theorem dX4_image_14 : decode cX4_image 14 = .ok (.getfield 20, 3) := by decide +kernel
theorem dX4_image_17 : decode cX4_image 17 = .ok (.aload_n 0, 1) := by decide +kernel
theorem dX4_image_18 : decode cX4_image 18 = .ok (.getfield 16, 3) := by decide +kernel
theorem dX4_image_21 : decode cX4_image 21 = .ok (.invokevirtual 171, 3) := by decide +kernel
theorem dX4_image_24 : decode cX4_image 24 = .ok (.aload_n 0, 1) := by decide +kernel
theorem dX4_image_25 : decode cX4_image 25 = .ok (.getfield 20, 3) := by decide +kernel
theorem dX4_image_28 : decode cX4_image 28 = .ok (.getfield 67, 3) := by decide +kernel
theorem dX4_image_31 : decode cX4_image 31 = .ok (.ireturn, 1) := by decide +kernel
set_option maxRecDepth 20000 in
theorem ggX4_restore_X2_copyFrom : GoodIn wsX4_restore wsX2_copyFrom := gdW wa_1683 (by decide +kernel) (by decide +kernel)
set_option maxRecDepth 20000 in
theorem gX4_restore_X2_copyFrom : GoodIn wsX4_restore (wsV RX4 171 RX2 yX2_copyFrom wsX2_copyFrom) := (gd1 wa_1680 (by decide +kernel) (gd1 wa_1681 (by decide +kernel) (gd1 wa_1682 (by decide +kernel) (gd1 wa_16 (by decide +kernel) ggX4_restore_X2_copyFrom))))
theorem dX4_restore_0 : decode cX4_restore 0 = .ok (.aload_n 0, 1) := by decide +kernel
theorem dX4_restore_1 : decode cX4_restore 1 = .ok (.getfield 20, 3) := by decide +kernel
theorem dX4_restore_4 : decode cX4_restore 4 = .ok (.getfield 52, 3) := by decide +kernel
theorem dX4_restore_7 : decode cX4_restore 7 = .ok (.ifCond .ne 6, 3) := by decide +kernel
theorem dX4_restore_10 : decode cX4_restore 10 = .ok (.bipush (-103), 2) := by decide +kernel
theorem dX4_restore_12 : decode cX4_restore 12 = .ok (.ireturn, 1) := by decide +kernel
theorem dX4_restore_13 : decode cX4_restore 13 = .ok (.aload_n 0, 1) := by decide +kernel
theorem dX4_restore_14 : decode cX4_restore 14 = .ok (.getfield 16, 3) := by decide +kernel
theorem dX4_restore_17 : decode cX4_restore 17 = .ok (.aload_n 0, 1) := by decide +kernel
theorem dX4_restore_18 : decode cX4_restore 18 = .ok (.getfield 20, 3) := by decide +kernel
theorem dX4_restore_21 : decode cX4_restore 21 = .ok (.invokevirtual 171, 3) := by decide +kernel
theorem dX4_restore_24 : decode cX4_restore 24 = .ok (.aload_n 0, 1) := by decide +kernel
theorem dX4_restore_25 : decode cX4_restore 25 = .ok (.iconst 0, 1) := by decide +kernel
theorem dX4_restore_26 : decode cX4_restore 26 = .ok (.putfield 55, 3) := by decide +kernel
theorem dX4_restore_29 : decode cX4_restore 29 = .ok (.aload_n 0, 1) := by decide +kernel
theorem dX4_restore_30 : decode cX4_restore 30 = .ok (.getfield 16, 3) := by decide +kernel
theorem dX4_restore_33 : decode cX4_restore 33 = .ok (.getfield 67, 3) := by decide +kernel
theorem dX4_restore_36 : decode cX4_restore 36 = .ok (.ireturn, 1) := by decide +kernel
set_option maxRecDepth 20000 in
theorem ggX4_count_X2_clashes : GoodIn wsX4_count wsX2_clashes := gdW wa_975 (by decide +kernel) (by decide +kernel)
set_option maxRecDepth 20000 in
theorem gX4_count_X2_clashes : GoodIn wsX4_count (wsV RX4 131 RX2 yX2_clashes wsX2_clashes) := (gd1 wa_972 (by decide +kernel) (gd1 wa_973 (by decide +kernel) (gd1 wa_974 (by decide +kernel) (gd1 wa_16 (by decide +kernel) ggX4_count_X2_clashes))))
set_option maxRecDepth 20000 in
theorem ggX4_count_X2_goodWalls : GoodIn wsX4_count wsX2_goodWalls := gdW wa_1864 (by decide +kernel) (by decide +kernel)
set_option maxRecDepth 20000 in
theorem gX4_count_X2_goodWalls : GoodIn wsX4_count (wsV RX4 187 RX2 yX2_goodWalls wsX2_goodWalls) := (gd1 wa_1861 (by decide +kernel) (gd1 wa_1862 (by decide +kernel) (gd1 wa_1863 (by decide +kernel) (gd1 wa_16 (by decide +kernel) ggX4_count_X2_goodWalls))))
set_option maxRecDepth 20000 in
theorem ggX4_count_X2_coloursUsed : GoodIn wsX4_count wsX2_coloursUsed := gdW wa_1868 (by decide +kernel) (by decide +kernel)
set_option maxRecDepth 20000 in
theorem gX4_count_X2_coloursUsed : GoodIn wsX4_count (wsV RX4 190 RX2 yX2_coloursUsed wsX2_coloursUsed) := (gd1 wa_1865 (by decide +kernel) (gd1 wa_1866 (by decide +kernel) (gd1 wa_1867 (by decide +kernel) (gd1 wa_16 (by decide +kernel) ggX4_count_X2_coloursUsed))))
theorem dX4_count_0 : decode cX4_count 0 = .ok (.iload_n 1, 1) := by decide +kernel
theorem dX4_count_1 : decode cX4_count 1 = .ok (.tableswitch 114 0 8 #[51, 59, 67, 75, 83, 91, 99, 104, 109], 51) := by decide +kernel
theorem dX4_count_52 : decode cX4_count 52 = .ok (.aload_n 0, 1) := by decide +kernel
theorem dX4_count_53 : decode cX4_count 53 = .ok (.getfield 16, 3) := by decide +kernel
theorem dX4_count_56 : decode cX4_count 56 = .ok (.getfield 52, 3) := by decide +kernel
theorem dX4_count_59 : decode cX4_count 59 = .ok (.ireturn, 1) := by decide +kernel
theorem dX4_count_60 : decode cX4_count 60 = .ok (.aload_n 0, 1) := by decide +kernel
theorem dX4_count_61 : decode cX4_count 61 = .ok (.getfield 16, 3) := by decide +kernel
theorem dX4_count_64 : decode cX4_count 64 = .ok (.invokevirtual 131, 3) := by decide +kernel
theorem dX4_count_67 : decode cX4_count 67 = .ok (.ireturn, 1) := by decide +kernel
theorem dX4_count_68 : decode cX4_count 68 = .ok (.aload_n 0, 1) := by decide +kernel
theorem dX4_count_69 : decode cX4_count 69 = .ok (.getfield 16, 3) := by decide +kernel
theorem dX4_count_72 : decode cX4_count 72 = .ok (.invokevirtual 187, 3) := by decide +kernel
theorem dX4_count_75 : decode cX4_count 75 = .ok (.ireturn, 1) := by decide +kernel
theorem dX4_count_76 : decode cX4_count 76 = .ok (.aload_n 0, 1) := by decide +kernel
theorem dX4_count_77 : decode cX4_count 77 = .ok (.getfield 16, 3) := by decide +kernel
theorem dX4_count_80 : decode cX4_count 80 = .ok (.invokevirtual 190, 3) := by decide +kernel
theorem dX4_count_83 : decode cX4_count 83 = .ok (.ireturn, 1) := by decide +kernel
theorem dX4_count_84 : decode cX4_count 84 = .ok (.aload_n 0, 1) := by decide +kernel
theorem dX4_count_85 : decode cX4_count 85 = .ok (.getfield 16, 3) := by decide +kernel
theorem dX4_count_88 : decode cX4_count 88 = .ok (.getfield 67, 3) := by decide +kernel
theorem dX4_count_91 : decode cX4_count 91 = .ok (.ireturn, 1) := by decide +kernel
theorem dX4_count_92 : decode cX4_count 92 = .ok (.aload_n 0, 1) := by decide +kernel
theorem dX4_count_93 : decode cX4_count 93 = .ok (.getfield 16, 3) := by decide +kernel
theorem dX4_count_96 : decode cX4_count 96 = .ok (.getfield 168, 3) := by decide +kernel
theorem dX4_count_99 : decode cX4_count 99 = .ok (.ireturn, 1) := by decide +kernel
theorem dX4_count_100 : decode cX4_count 100 = .ok (.aload_n 0, 1) := by decide +kernel
theorem dX4_count_101 : decode cX4_count 101 = .ok (.getfield 33, 3) := by decide +kernel
theorem dX4_count_104 : decode cX4_count 104 = .ok (.ireturn, 1) := by decide +kernel
theorem dX4_count_105 : decode cX4_count 105 = .ok (.aload_n 0, 1) := by decide +kernel
theorem dX4_count_106 : decode cX4_count 106 = .ok (.getfield 49, 3) := by decide +kernel
theorem dX4_count_109 : decode cX4_count 109 = .ok (.ireturn, 1) := by decide +kernel
theorem dX4_count_110 : decode cX4_count 110 = .ok (.aload_n 0, 1) := by decide +kernel
theorem dX4_count_111 : decode cX4_count 111 = .ok (.getfield 152, 3) := by decide +kernel
theorem dX4_count_114 : decode cX4_count 114 = .ok (.ireturn, 1) := by decide +kernel
theorem dX4_count_115 : decode cX4_count 115 = .ok (.bipush (-102), 2) := by decide +kernel
theorem dX4_count_117 : decode cX4_count 117 = .ok (.ireturn, 1) := by decide +kernel
set_option maxRecDepth 20000 in
theorem ggX4_digest_X4_addCube : GoodIn wsX4_digest wsX4_addCube := gdW wa_1935 (by decide +kernel) (by decide +kernel)
set_option maxRecDepth 20000 in
theorem gX4_digest_X4_addCube : GoodIn wsX4_digest (wsV RX4 195 RX4 yX4_addCube wsX4_addCube) := (gd1 wa_1932 (by decide +kernel) (gd1 wa_1933 (by decide +kernel) (gd1 wa_1934 (by decide +kernel) (gd1 wa_2 (by decide +kernel) ggX4_digest_X4_addCube))))
set_option maxRecDepth 20000 in
theorem ggX4_digest_X4_addWholeTower : GoodIn wsX4_digest wsX4_addWholeTower := gdW wa_1940 (by decide +kernel) (by decide +kernel)
set_option maxRecDepth 20000 in
theorem gX4_digest_X4_addWholeTower : GoodIn wsX4_digest (wsV RX4 199 RX4 yX4_addWholeTower wsX4_addWholeTower) := (gd1 wa_1937 (by decide +kernel) (gd1 wa_1938 (by decide +kernel) (gd1 wa_1939 (by decide +kernel) (gd1 wa_2 (by decide +kernel) ggX4_digest_X4_addWholeTower))))
set_option maxRecDepth 20000 in
theorem ggX4_digest_X4_count : GoodIn wsX4_digest wsX4_count := gdW wa_1860 (by decide +kernel) (by decide +kernel)
set_option maxRecDepth 20000 in
theorem gX4_digest_X4_count : GoodIn wsX4_digest (wsV RX4 205 RX4 yX4_count wsX4_count) := (gd1 wa_1985 (by decide +kernel) (gd1 wa_1858 (by decide +kernel) (gd1 wa_1859 (by decide +kernel) (gd1 wa_2 (by decide +kernel) ggX4_digest_X4_count))))
theorem dX4_digest_0 : decode cX4_digest 0 = .ok (.ldc2_w 193, 3) := by decide +kernel
theorem dX4_digest_3 : decode cX4_digest 3 = .ok (.lstore_n 1, 1) := by decide +kernel
theorem dX4_digest_4 : decode cX4_digest 4 = .ok (.iconst 0, 1) := by decide +kernel
theorem dX4_digest_5 : decode cX4_digest 5 = .ok (.istore_n 3, 1) := by decide +kernel
theorem dX4_digest_6 : decode cX4_digest 6 = .ok (.iload_n 3, 1) := by decide +kernel
theorem dX4_digest_7 : decode cX4_digest 7 = .ok (.aload_n 0, 1) := by decide +kernel
theorem dX4_digest_8 : decode cX4_digest 8 = .ok (.getfield 16, 3) := by decide +kernel
theorem dX4_digest_11 : decode cX4_digest 11 = .ok (.getfield 52, 3) := by decide +kernel
theorem dX4_digest_14 : decode cX4_digest 14 = .ok (.if_icmp .ge 16, 3) := by decide +kernel
theorem dX4_digest_17 : decode cX4_digest 17 = .ok (.aload_n 0, 1) := by decide +kernel
theorem dX4_digest_18 : decode cX4_digest 18 = .ok (.lload_n 1, 1) := by decide +kernel
theorem dX4_digest_19 : decode cX4_digest 19 = .ok (.iload_n 3, 1) := by decide +kernel
theorem dX4_digest_20 : decode cX4_digest 20 = .ok (.invokevirtual 195, 3) := by decide +kernel
theorem dX4_digest_23 : decode cX4_digest 23 = .ok (.lstore_n 1, 1) := by decide +kernel
theorem dX4_digest_24 : decode cX4_digest 24 = .ok (.iinc 3 1, 3) := by decide +kernel
theorem dX4_digest_27 : decode cX4_digest 27 = .ok (.goto (-21), 3) := by decide +kernel
theorem dX4_digest_30 : decode cX4_digest 30 = .ok (.aload_n 0, 1) := by decide +kernel
theorem dX4_digest_31 : decode cX4_digest 31 = .ok (.getfield 16, 3) := by decide +kernel
theorem dX4_digest_34 : decode cX4_digest 34 = .ok (.getfield 52, 3) := by decide +kernel
theorem dX4_digest_37 : decode cX4_digest 37 = .ok (.ifCond .le 9, 3) := by decide +kernel
theorem dX4_digest_40 : decode cX4_digest 40 = .ok (.aload_n 0, 1) := by decide +kernel
theorem dX4_digest_41 : decode cX4_digest 41 = .ok (.lload_n 1, 1) := by decide +kernel
theorem dX4_digest_42 : decode cX4_digest 42 = .ok (.invokevirtual 199, 3) := by decide +kernel
theorem dX4_digest_45 : decode cX4_digest 45 = .ok (.lstore_n 1, 1) := by decide +kernel
theorem dX4_digest_46 : decode cX4_digest 46 = .ok (.iconst 0, 1) := by decide +kernel
theorem dX4_digest_47 : decode cX4_digest 47 = .ok (.istore_n 3, 1) := by decide +kernel
theorem dX4_digest_48 : decode cX4_digest 48 = .ok (.iload_n 3, 1) := by decide +kernel
theorem dX4_digest_49 : decode cX4_digest 49 = .ok (.aload_n 0, 1) := by decide +kernel
theorem dX4_digest_50 : decode cX4_digest 50 = .ok (.getfield 33, 3) := by decide +kernel
theorem dX4_digest_53 : decode cX4_digest 53 = .ok (.if_icmp .ge 23, 3) := by decide +kernel
theorem dX4_digest_56 : decode cX4_digest 56 = .ok (.ldc2_w 203, 3) := by decide +kernel
theorem dX4_digest_59 : decode cX4_digest 59 = .ok (.lload_n 1, 1) := by decide +kernel
theorem dX4_digest_60 : decode cX4_digest 60 = .ok (.lmul, 1) := by decide +kernel
theorem dX4_digest_61 : decode cX4_digest 61 = .ok (.aload_n 0, 1) := by decide +kernel
theorem dX4_digest_62 : decode cX4_digest 62 = .ok (.getfield 9, 3) := by decide +kernel
theorem dX4_digest_65 : decode cX4_digest 65 = .ok (.iload_n 3, 1) := by decide +kernel
theorem dX4_digest_66 : decode cX4_digest 66 = .ok (.iaload, 1) := by decide +kernel
theorem dX4_digest_67 : decode cX4_digest 67 = .ok (.i2l, 1) := by decide +kernel
theorem dX4_digest_68 : decode cX4_digest 68 = .ok (.ladd, 1) := by decide +kernel
theorem dX4_digest_69 : decode cX4_digest 69 = .ok (.lstore_n 1, 1) := by decide +kernel
theorem dX4_digest_70 : decode cX4_digest 70 = .ok (.iinc 3 1, 3) := by decide +kernel
theorem dX4_digest_73 : decode cX4_digest 73 = .ok (.goto (-25), 3) := by decide +kernel
theorem dX4_digest_76 : decode cX4_digest 76 = .ok (.iconst 0, 1) := by decide +kernel
theorem dX4_digest_77 : decode cX4_digest 77 = .ok (.istore_n 3, 1) := by decide +kernel
theorem dX4_digest_78 : decode cX4_digest 78 = .ok (.iload_n 3, 1) := by decide +kernel
theorem dX4_digest_79 : decode cX4_digest 79 = .ok (.bipush 8, 2) := by decide +kernel
theorem dX4_digest_81 : decode cX4_digest 81 = .ok (.if_icmp .gt 22, 3) := by decide +kernel
theorem dX4_digest_84 : decode cX4_digest 84 = .ok (.ldc2_w 203, 3) := by decide +kernel
theorem dX4_digest_87 : decode cX4_digest 87 = .ok (.lload_n 1, 1) := by decide +kernel
theorem dX4_digest_88 : decode cX4_digest 88 = .ok (.lmul, 1) := by decide +kernel
theorem dX4_digest_89 : decode cX4_digest 89 = .ok (.aload_n 0, 1) := by decide +kernel
theorem dX4_digest_90 : decode cX4_digest 90 = .ok (.iload_n 3, 1) := by decide +kernel
theorem dX4_digest_91 : decode cX4_digest 91 = .ok (.invokevirtual 205, 3) := by decide +kernel
theorem dX4_digest_94 : decode cX4_digest 94 = .ok (.i2l, 1) := by decide +kernel
theorem dX4_digest_95 : decode cX4_digest 95 = .ok (.ladd, 1) := by decide +kernel
theorem dX4_digest_96 : decode cX4_digest 96 = .ok (.lstore_n 1, 1) := by decide +kernel
theorem dX4_digest_97 : decode cX4_digest 97 = .ok (.iinc 3 1, 3) := by decide +kernel
theorem dX4_digest_100 : decode cX4_digest 100 = .ok (.goto (-22), 3) := by decide +kernel
theorem dX4_digest_103 : decode cX4_digest 103 = .ok (.lload_n 1, 1) := by decide +kernel
theorem dX4_digest_104 : decode cX4_digest 104 = .ok (.lreturn, 1) := by decide +kernel
set_option maxRecDepth 20000 in
theorem ggX4_addCube_X4_cube : GoodIn wsX4_addCube wsX4_cube := gdW wa_709 (by decide +kernel) (by decide +kernel)
set_option maxRecDepth 20000 in
theorem gX4_addCube_X4_cube : GoodIn wsX4_addCube (wsV RX4 208 RX4 yX4_cube wsX4_cube) := (gd1 wa_1936 (by decide +kernel) (gd1 wa_707 (by decide +kernel) (gd1 wa_708 (by decide +kernel) (gd1 wa_2 (by decide +kernel) ggX4_addCube_X4_cube))))
theorem dX4_addCube_0 : decode cX4_addCube 0 = .ok (.lload_n 1, 1) := by decide +kernel
theorem dX4_addCube_1 : decode cX4_addCube 1 = .ok (.lstore 4, 2) := by decide +kernel
theorem dX4_addCube_3 : decode cX4_addCube 3 = .ok (.iconst 0, 1) := by decide +kernel
theorem dX4_addCube_4 : decode cX4_addCube 4 = .ok (.istore 6, 2) := by decide +kernel
theorem dX4_addCube_6 : decode cX4_addCube 6 = .ok (.iload 6, 2) := by decide +kernel
theorem dX4_addCube_8 : decode cX4_addCube 8 = .ok (.iconst 4, 1) := by decide +kernel
theorem dX4_addCube_9 : decode cX4_addCube 9 = .ok (.if_icmp .gt 26, 3) := by decide +kernel
theorem dX4_addCube_12 : decode cX4_addCube 12 = .ok (.ldc2_w 203, 3) := by decide +kernel
theorem dX4_addCube_15 : decode cX4_addCube 15 = .ok (.lload 4, 2) := by decide +kernel
theorem dX4_addCube_17 : decode cX4_addCube 17 = .ok (.lmul, 1) := by decide +kernel
theorem dX4_addCube_18 : decode cX4_addCube 18 = .ok (.aload_n 0, 1) := by decide +kernel
theorem dX4_addCube_19 : decode cX4_addCube 19 = .ok (.iload_n 3, 1) := by decide +kernel
theorem dX4_addCube_20 : decode cX4_addCube 20 = .ok (.iload 6, 2) := by decide +kernel
theorem dX4_addCube_22 : decode cX4_addCube 22 = .ok (.invokevirtual 208, 3) := by decide +kernel
theorem dX4_addCube_25 : decode cX4_addCube 25 = .ok (.i2l, 1) := by decide +kernel
theorem dX4_addCube_26 : decode cX4_addCube 26 = .ok (.ladd, 1) := by decide +kernel
theorem dX4_addCube_27 : decode cX4_addCube 27 = .ok (.lstore 4, 2) := by decide +kernel
theorem dX4_addCube_29 : decode cX4_addCube 29 = .ok (.iinc 6 1, 3) := by decide +kernel
theorem dX4_addCube_32 : decode cX4_addCube 32 = .ok (.goto (-26), 3) := by decide +kernel
theorem dX4_addCube_35 : decode cX4_addCube 35 = .ok (.iconst 0, 1) := by decide +kernel
theorem dX4_addCube_36 : decode cX4_addCube 36 = .ok (.istore 6, 2) := by decide +kernel
theorem dX4_addCube_38 : decode cX4_addCube 38 = .ok (.iload 6, 2) := by decide +kernel
theorem dX4_addCube_40 : decode cX4_addCube 40 = .ok (.bipush 6, 2) := by decide +kernel
theorem dX4_addCube_42 : decode cX4_addCube 42 = .ok (.if_icmp .ge 29, 3) := by decide +kernel
theorem dX4_addCube_45 : decode cX4_addCube 45 = .ok (.ldc2_w 203, 3) := by decide +kernel
theorem dX4_addCube_48 : decode cX4_addCube 48 = .ok (.lload 4, 2) := by decide +kernel
theorem dX4_addCube_50 : decode cX4_addCube 50 = .ok (.lmul, 1) := by decide +kernel
theorem dX4_addCube_51 : decode cX4_addCube 51 = .ok (.aload_n 0, 1) := by decide +kernel
theorem dX4_addCube_52 : decode cX4_addCube 52 = .ok (.iload_n 3, 1) := by decide +kernel
theorem dX4_addCube_53 : decode cX4_addCube 53 = .ok (.bipush 10, 2) := by decide +kernel
theorem dX4_addCube_55 : decode cX4_addCube 55 = .ok (.iload 6, 2) := by decide +kernel
theorem dX4_addCube_57 : decode cX4_addCube 57 = .ok (.iadd, 1) := by decide +kernel
theorem dX4_addCube_58 : decode cX4_addCube 58 = .ok (.invokevirtual 208, 3) := by decide +kernel
theorem dX4_addCube_61 : decode cX4_addCube 61 = .ok (.i2l, 1) := by decide +kernel
theorem dX4_addCube_62 : decode cX4_addCube 62 = .ok (.ladd, 1) := by decide +kernel
theorem dX4_addCube_63 : decode cX4_addCube 63 = .ok (.lstore 4, 2) := by decide +kernel
theorem dX4_addCube_65 : decode cX4_addCube 65 = .ok (.iinc 6 1, 3) := by decide +kernel
theorem dX4_addCube_68 : decode cX4_addCube 68 = .ok (.goto (-30), 3) := by decide +kernel
theorem dX4_addCube_71 : decode cX4_addCube 71 = .ok (.lload 4, 2) := by decide +kernel
theorem dX4_addCube_73 : decode cX4_addCube 73 = .ok (.lreturn, 1) := by decide +kernel
set_option maxRecDepth 20000 in
theorem ggX4_addWholeTower_X4_wall : GoodIn wsX4_addWholeTower wsX4_wall := gdW wa_901 (by decide +kernel) (by decide +kernel)
set_option maxRecDepth 20000 in
theorem gX4_addWholeTower_X4_wall : GoodIn wsX4_addWholeTower (wsV RX4 211 RX4 yX4_wall wsX4_wall) := (gd1 wa_1941 (by decide +kernel) (gd1 wa_899 (by decide +kernel) (gd1 wa_900 (by decide +kernel) (gd1 wa_2 (by decide +kernel) ggX4_addWholeTower_X4_wall))))
set_option maxRecDepth 20000 in
theorem ggX4_addWholeTower_X4_ways : GoodIn wsX4_addWholeTower wsX4_ways := gdW wa_1108 (by decide +kernel) (by decide +kernel)
set_option maxRecDepth 20000 in
theorem gX4_addWholeTower_X4_ways : GoodIn wsX4_addWholeTower (wsV RX4 214 RX4 yX4_ways wsX4_ways) := (gd1 wa_1942 (by decide +kernel) (gd1 wa_1106 (by decide +kernel) (gd1 wa_1107 (by decide +kernel) (gd1 wa_2 (by decide +kernel) ggX4_addWholeTower_X4_ways))))
set_option maxRecDepth 20000 in
theorem ggX4_addWholeTower_X4_turning : GoodIn wsX4_addWholeTower wsX4_turning := gdW wa_1408 (by decide +kernel) (by decide +kernel)
set_option maxRecDepth 20000 in
theorem gX4_addWholeTower_X4_turning : GoodIn wsX4_addWholeTower (wsV RX4 217 RX4 yX4_turning wsX4_turning) := (gd1 wa_1943 (by decide +kernel) (gd1 wa_1366 (by decide +kernel) (gd1 wa_1367 (by decide +kernel) (gd1 wa_2 (by decide +kernel) ggX4_addWholeTower_X4_turning))))
set_option maxRecDepth 20000 in
theorem ggX4_addWholeTower_X4_odds : GoodIn wsX4_addWholeTower wsX4_odds := gdW wa_1600 (by decide +kernel) (by decide +kernel)
set_option maxRecDepth 20000 in
theorem gX4_addWholeTower_X4_odds : GoodIn wsX4_addWholeTower (wsV RX4 220 RX4 yX4_odds wsX4_odds) := (gd1 wa_1984 (by decide +kernel) (gd1 wa_1558 (by decide +kernel) (gd1 wa_1559 (by decide +kernel) (gd1 wa_2 (by decide +kernel) ggX4_addWholeTower_X4_odds))))
theorem dX4_addWholeTower_0 : decode cX4_addWholeTower 0 = .ok (.lload_n 1, 1) := by decide +kernel
theorem dX4_addWholeTower_1 : decode cX4_addWholeTower 1 = .ok (.lstore_n 3, 1) := by decide +kernel
theorem dX4_addWholeTower_2 : decode cX4_addWholeTower 2 = .ok (.iconst 0, 1) := by decide +kernel
theorem dX4_addWholeTower_3 : decode cX4_addWholeTower 3 = .ok (.istore 5, 2) := by decide +kernel
theorem dX4_addWholeTower_5 : decode cX4_addWholeTower 5 = .ok (.iload 5, 2) := by decide +kernel
theorem dX4_addWholeTower_7 : decode cX4_addWholeTower 7 = .ok (.iconst 4, 1) := by decide +kernel
theorem dX4_addWholeTower_8 : decode cX4_addWholeTower 8 = .ok (.if_icmp .ge 39, 3) := by decide +kernel
theorem dX4_addWholeTower_11 : decode cX4_addWholeTower 11 = .ok (.ldc2_w 203, 3) := by decide +kernel
theorem dX4_addWholeTower_14 : decode cX4_addWholeTower 14 = .ok (.lload_n 3, 1) := by decide +kernel
theorem dX4_addWholeTower_15 : decode cX4_addWholeTower 15 = .ok (.lmul, 1) := by decide +kernel
theorem dX4_addWholeTower_16 : decode cX4_addWholeTower 16 = .ok (.aload_n 0, 1) := by decide +kernel
theorem dX4_addWholeTower_17 : decode cX4_addWholeTower 17 = .ok (.iload 5, 2) := by decide +kernel
theorem dX4_addWholeTower_19 : decode cX4_addWholeTower 19 = .ok (.iconst 0, 1) := by decide +kernel
theorem dX4_addWholeTower_20 : decode cX4_addWholeTower 20 = .ok (.invokevirtual 211, 3) := by decide +kernel
theorem dX4_addWholeTower_23 : decode cX4_addWholeTower 23 = .ok (.i2l, 1) := by decide +kernel
theorem dX4_addWholeTower_24 : decode cX4_addWholeTower 24 = .ok (.ladd, 1) := by decide +kernel
theorem dX4_addWholeTower_25 : decode cX4_addWholeTower 25 = .ok (.lstore_n 3, 1) := by decide +kernel
theorem dX4_addWholeTower_26 : decode cX4_addWholeTower 26 = .ok (.ldc2_w 203, 3) := by decide +kernel
theorem dX4_addWholeTower_29 : decode cX4_addWholeTower 29 = .ok (.lload_n 3, 1) := by decide +kernel
theorem dX4_addWholeTower_30 : decode cX4_addWholeTower 30 = .ok (.lmul, 1) := by decide +kernel
theorem dX4_addWholeTower_31 : decode cX4_addWholeTower 31 = .ok (.aload_n 0, 1) := by decide +kernel
theorem dX4_addWholeTower_32 : decode cX4_addWholeTower 32 = .ok (.iload 5, 2) := by decide +kernel
theorem dX4_addWholeTower_34 : decode cX4_addWholeTower 34 = .ok (.iconst 1, 1) := by decide +kernel
theorem dX4_addWholeTower_35 : decode cX4_addWholeTower 35 = .ok (.invokevirtual 211, 3) := by decide +kernel
theorem dX4_addWholeTower_38 : decode cX4_addWholeTower 38 = .ok (.i2l, 1) := by decide +kernel
theorem dX4_addWholeTower_39 : decode cX4_addWholeTower 39 = .ok (.ladd, 1) := by decide +kernel
theorem dX4_addWholeTower_40 : decode cX4_addWholeTower 40 = .ok (.lstore_n 3, 1) := by decide +kernel
theorem dX4_addWholeTower_41 : decode cX4_addWholeTower 41 = .ok (.iinc 5 1, 3) := by decide +kernel
theorem dX4_addWholeTower_44 : decode cX4_addWholeTower 44 = .ok (.goto (-39), 3) := by decide +kernel
theorem dX4_addWholeTower_47 : decode cX4_addWholeTower 47 = .ok (.ldc2_w 203, 3) := by decide +kernel
theorem dX4_addWholeTower_50 : decode cX4_addWholeTower 50 = .ok (.lload_n 3, 1) := by decide +kernel
theorem dX4_addWholeTower_51 : decode cX4_addWholeTower 51 = .ok (.lmul, 1) := by decide +kernel
theorem dX4_addWholeTower_52 : decode cX4_addWholeTower 52 = .ok (.aload_n 0, 1) := by decide +kernel
theorem dX4_addWholeTower_53 : decode cX4_addWholeTower 53 = .ok (.iconst 0, 1) := by decide +kernel
theorem dX4_addWholeTower_54 : decode cX4_addWholeTower 54 = .ok (.invokevirtual 214, 3) := by decide +kernel
theorem dX4_addWholeTower_57 : decode cX4_addWholeTower 57 = .ok (.i2l, 1) := by decide +kernel
theorem dX4_addWholeTower_58 : decode cX4_addWholeTower 58 = .ok (.ladd, 1) := by decide +kernel
theorem dX4_addWholeTower_59 : decode cX4_addWholeTower 59 = .ok (.lstore_n 3, 1) := by decide +kernel
theorem dX4_addWholeTower_60 : decode cX4_addWholeTower 60 = .ok (.ldc2_w 203, 3) := by decide +kernel
theorem dX4_addWholeTower_63 : decode cX4_addWholeTower 63 = .ok (.lload_n 3, 1) := by decide +kernel
theorem dX4_addWholeTower_64 : decode cX4_addWholeTower 64 = .ok (.lmul, 1) := by decide +kernel
theorem dX4_addWholeTower_65 : decode cX4_addWholeTower 65 = .ok (.aload_n 0, 1) := by decide +kernel
theorem dX4_addWholeTower_66 : decode cX4_addWholeTower 66 = .ok (.iconst 1, 1) := by decide +kernel
theorem dX4_addWholeTower_67 : decode cX4_addWholeTower 67 = .ok (.invokevirtual 214, 3) := by decide +kernel
theorem dX4_addWholeTower_70 : decode cX4_addWholeTower 70 = .ok (.i2l, 1) := by decide +kernel
theorem dX4_addWholeTower_71 : decode cX4_addWholeTower 71 = .ok (.ladd, 1) := by decide +kernel
theorem dX4_addWholeTower_72 : decode cX4_addWholeTower 72 = .ok (.lstore_n 3, 1) := by decide +kernel
theorem dX4_addWholeTower_73 : decode cX4_addWholeTower 73 = .ok (.ldc2_w 203, 3) := by decide +kernel
theorem dX4_addWholeTower_76 : decode cX4_addWholeTower 76 = .ok (.lload_n 3, 1) := by decide +kernel
theorem dX4_addWholeTower_77 : decode cX4_addWholeTower 77 = .ok (.lmul, 1) := by decide +kernel
theorem dX4_addWholeTower_78 : decode cX4_addWholeTower 78 = .ok (.aload_n 0, 1) := by decide +kernel
theorem dX4_addWholeTower_79 : decode cX4_addWholeTower 79 = .ok (.iconst 0, 1) := by decide +kernel
theorem dX4_addWholeTower_80 : decode cX4_addWholeTower 80 = .ok (.invokevirtual 217, 3) := by decide +kernel
theorem dX4_addWholeTower_83 : decode cX4_addWholeTower 83 = .ok (.i2l, 1) := by decide +kernel
theorem dX4_addWholeTower_84 : decode cX4_addWholeTower 84 = .ok (.ladd, 1) := by decide +kernel
theorem dX4_addWholeTower_85 : decode cX4_addWholeTower 85 = .ok (.lstore_n 3, 1) := by decide +kernel
theorem dX4_addWholeTower_86 : decode cX4_addWholeTower 86 = .ok (.ldc2_w 203, 3) := by decide +kernel
theorem dX4_addWholeTower_89 : decode cX4_addWholeTower 89 = .ok (.lload_n 3, 1) := by decide +kernel
theorem dX4_addWholeTower_90 : decode cX4_addWholeTower 90 = .ok (.lmul, 1) := by decide +kernel
theorem dX4_addWholeTower_91 : decode cX4_addWholeTower 91 = .ok (.aload_n 0, 1) := by decide +kernel
theorem dX4_addWholeTower_92 : decode cX4_addWholeTower 92 = .ok (.iconst 1, 1) := by decide +kernel
theorem dX4_addWholeTower_93 : decode cX4_addWholeTower 93 = .ok (.invokevirtual 217, 3) := by decide +kernel
theorem dX4_addWholeTower_96 : decode cX4_addWholeTower 96 = .ok (.i2l, 1) := by decide +kernel
theorem dX4_addWholeTower_97 : decode cX4_addWholeTower 97 = .ok (.ladd, 1) := by decide +kernel
theorem dX4_addWholeTower_98 : decode cX4_addWholeTower 98 = .ok (.lstore_n 3, 1) := by decide +kernel
theorem dX4_addWholeTower_99 : decode cX4_addWholeTower 99 = .ok (.ldc2_w 203, 3) := by decide +kernel
theorem dX4_addWholeTower_102 : decode cX4_addWholeTower 102 = .ok (.lload_n 3, 1) := by decide +kernel
theorem dX4_addWholeTower_103 : decode cX4_addWholeTower 103 = .ok (.lmul, 1) := by decide +kernel
theorem dX4_addWholeTower_104 : decode cX4_addWholeTower 104 = .ok (.aload_n 0, 1) := by decide +kernel
theorem dX4_addWholeTower_105 : decode cX4_addWholeTower 105 = .ok (.iconst 0, 1) := by decide +kernel
theorem dX4_addWholeTower_106 : decode cX4_addWholeTower 106 = .ok (.invokevirtual 220, 3) := by decide +kernel
theorem dX4_addWholeTower_109 : decode cX4_addWholeTower 109 = .ok (.i2l, 1) := by decide +kernel
theorem dX4_addWholeTower_110 : decode cX4_addWholeTower 110 = .ok (.ladd, 1) := by decide +kernel
theorem dX4_addWholeTower_111 : decode cX4_addWholeTower 111 = .ok (.lstore_n 3, 1) := by decide +kernel
theorem dX4_addWholeTower_112 : decode cX4_addWholeTower 112 = .ok (.ldc2_w 203, 3) := by decide +kernel
theorem dX4_addWholeTower_115 : decode cX4_addWholeTower 115 = .ok (.lload_n 3, 1) := by decide +kernel
theorem dX4_addWholeTower_116 : decode cX4_addWholeTower 116 = .ok (.lmul, 1) := by decide +kernel
theorem dX4_addWholeTower_117 : decode cX4_addWholeTower 117 = .ok (.aload_n 0, 1) := by decide +kernel
theorem dX4_addWholeTower_118 : decode cX4_addWholeTower 118 = .ok (.iconst 1, 1) := by decide +kernel
theorem dX4_addWholeTower_119 : decode cX4_addWholeTower 119 = .ok (.invokevirtual 220, 3) := by decide +kernel
theorem dX4_addWholeTower_122 : decode cX4_addWholeTower 122 = .ok (.i2l, 1) := by decide +kernel
theorem dX4_addWholeTower_123 : decode cX4_addWholeTower 123 = .ok (.ladd, 1) := by decide +kernel
theorem dX4_addWholeTower_124 : decode cX4_addWholeTower 124 = .ok (.lreturn, 1) := by decide +kernel
