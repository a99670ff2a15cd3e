theorem dX5_same_14 : decode cX5_same 14 = .ok (.goto 4, 3) := by decide +kernel
theorem dX5_same_17 : decode cX5_same 17 = .ok (.iconst 0, 1) := by decide +kernel
theorem dX5_same_18 : decode cX5_same 18 = .ok (.ireturn, 1) := by decide +kernel
set_option maxRecDepth 20000 in
theorem ggX5_clashesOn_X5_same : GoodIn wsX5_clashesOn wsX5_same := gdW wa_961 (by decide +kernel) (by decide +kernel)
set_option maxRecDepth 20000 in
theorem gX5_clashesOn_X5_same : GoodIn wsX5_clashesOn (va_wsS RX5 130 yX5_same wsX5_same) := (gd1 wa_919 (by decide +kernel) (gd1 wa_960 (by decide +kernel) (gd1 wa_5 (by decide +kernel) ggX5_clashesOn_X5_same)))
theorem dX5_clashesOn_0 : decode cX5_clashesOn 0 = .ok (.aload_n 0, 1) := by decide +kernel
theorem dX5_clashesOn_1 : decode cX5_clashesOn 1 = .ok (.getfield 88, 3) := by decide +kernel
theorem dX5_clashesOn_4 : decode cX5_clashesOn 4 = .ok (.iconst 2, 1) := by decide +kernel
theorem dX5_clashesOn_5 : decode cX5_clashesOn 5 = .ok (.if_icmp .ne 12, 3) := by decide +kernel
theorem dX5_clashesOn_8 : decode cX5_clashesOn 8 = .ok (.iload_n 2, 1) := by decide +kernel
theorem dX5_clashesOn_9 : decode cX5_clashesOn 9 = .ok (.iload_n 3, 1) := by decide +kernel
theorem dX5_clashesOn_10 : decode cX5_clashesOn 10 = .ok (.iload_n 1, 1) := by decide +kernel
theorem dX5_clashesOn_11 : decode cX5_clashesOn 11 = .ok (.invokestatic 130, 3) := by decide +kernel
theorem dX5_clashesOn_14 : decode cX5_clashesOn 14 = .ok (.goto 25, 3) := by decide +kernel
theorem dX5_clashesOn_17 : decode cX5_clashesOn 17 = .ok (.iload_n 2, 1) := by decide +kernel
theorem dX5_clashesOn_18 : decode cX5_clashesOn 18 = .ok (.iload_n 3, 1) := by decide +kernel
theorem dX5_clashesOn_19 : decode cX5_clashesOn 19 = .ok (.iload_n 1, 1) := by decide +kernel
theorem dX5_clashesOn_20 : decode cX5_clashesOn 20 = .ok (.invokestatic 130, 3) := by decide +kernel
theorem dX5_clashesOn_23 : decode cX5_clashesOn 23 = .ok (.iload_n 2, 1) := by decide +kernel
theorem dX5_clashesOn_24 : decode cX5_clashesOn 24 = .ok (.iload 4, 2) := by decide +kernel
theorem dX5_clashesOn_26 : decode cX5_clashesOn 26 = .ok (.iload_n 1, 1) := by decide +kernel
theorem dX5_clashesOn_27 : decode cX5_clashesOn 27 = .ok (.invokestatic 130, 3) := by decide +kernel
theorem dX5_clashesOn_30 : decode cX5_clashesOn 30 = .ok (.iadd, 1) := by decide +kernel
theorem dX5_clashesOn_31 : decode cX5_clashesOn 31 = .ok (.iload_n 3, 1) := by decide +kernel
theorem dX5_clashesOn_32 : decode cX5_clashesOn 32 = .ok (.iload 4, 2) := by decide +kernel
theorem dX5_clashesOn_34 : decode cX5_clashesOn 34 = .ok (.iload_n 1, 1) := by decide +kernel
theorem dX5_clashesOn_35 : decode cX5_clashesOn 35 = .ok (.invokestatic 130, 3) := by decide +kernel
theorem dX5_clashesOn_38 : decode cX5_clashesOn 38 = .ok (.iadd, 1) := by decide +kernel
theorem dX5_clashesOn_39 : decode cX5_clashesOn 39 = .ok (.ireturn, 1) := by decide +kernel
set_option maxRecDepth 20000 in
theorem ggX5_clashesOf_X5_clashesOn : GoodIn wsX5_clashesOf wsX5_clashesOn := gdW wa_918 (by decide +kernel) (by decide +kernel)
set_option maxRecDepth 20000 in
theorem gX5_clashesOf_X5_clashesOn : GoodIn wsX5_clashesOf (wsV RX5 134 RX5 yX5_clashesOn wsX5_clashesOn) := (gd1 wa_915 (by decide +kernel) (gd1 wa_916 (by decide +kernel) (gd1 wa_917 (by decide +kernel) (gd1 wa_5 (by decide +kernel) ggX5_clashesOf_X5_clashesOn))))
theorem dX5_clashesOf_0 : decode cX5_clashesOf 0 = .ok (.iconst 0, 1) := by decide +kernel
theorem dX5_clashesOf_1 : decode cX5_clashesOf 1 = .ok (.istore 4, 2) := by decide +kernel
theorem dX5_clashesOf_3 : decode cX5_clashesOf 3 = .ok (.iconst 2, 1) := by decide +kernel
theorem dX5_clashesOf_4 : decode cX5_clashesOf 4 = .ok (.istore 5, 2) := by decide +kernel
theorem dX5_clashesOf_6 : decode cX5_clashesOf 6 = .ok (.iload 5, 2) := by decide +kernel
theorem dX5_clashesOf_8 : decode cX5_clashesOf 8 = .ok (.bipush 6, 2) := by decide +kernel
theorem dX5_clashesOf_10 : decode cX5_clashesOf 10 = .ok (.if_icmp .ge 23, 3) := by decide +kernel
theorem dX5_clashesOf_13 : decode cX5_clashesOf 13 = .ok (.iload 4, 2) := by decide +kernel
theorem dX5_clashesOf_15 : decode cX5_clashesOf 15 = .ok (.aload_n 0, 1) := by decide +kernel
theorem dX5_clashesOf_16 : decode cX5_clashesOf 16 = .ok (.iload 5, 2) := by decide +kernel
theorem dX5_clashesOf_18 : decode cX5_clashesOf 18 = .ok (.iload_n 1, 1) := by decide +kernel
theorem dX5_clashesOf_19 : decode cX5_clashesOf 19 = .ok (.iload_n 2, 1) := by decide +kernel
theorem dX5_clashesOf_20 : decode cX5_clashesOf 20 = .ok (.iload_n 3, 1) := by decide +kernel
theorem dX5_clashesOf_21 : decode cX5_clashesOf 21 = .ok (.invokevirtual 134, 3) := by decide +kernel
theorem dX5_clashesOf_24 : decode cX5_clashesOf 24 = .ok (.iadd, 1) := by decide +kernel
theorem dX5_clashesOf_25 : decode cX5_clashesOf 25 = .ok (.istore 4, 2) := by decide +kernel
theorem dX5_clashesOf_27 : decode cX5_clashesOf 27 = .ok (.iinc 5 1, 3) := by decide +kernel
theorem dX5_clashesOf_30 : decode cX5_clashesOf 30 = .ok (.goto (-24), 3) := by decide +kernel
theorem dX5_clashesOf_33 : decode cX5_clashesOf 33 = .ok (.iload 4, 2) := by decide +kernel
theorem dX5_clashesOf_35 : decode cX5_clashesOf 35 = .ok (.ireturn, 1) := by decide +kernel
set_option maxRecDepth 20000 in
theorem ggX5_clashes_X5_clashesOf : GoodIn wsX5_clashes wsX5_clashesOf := gdW wa_1037 (by decide +kernel) (by decide +kernel)
set_option maxRecDepth 20000 in
theorem gX5_clashes_X5_clashesOf : GoodIn wsX5_clashes (wsV RX5 138 RX5 yX5_clashesOf wsX5_clashesOf) := (gd1 wa_1034 (by decide +kernel) (gd1 wa_1035 (by decide +kernel) (gd1 wa_1036 (by decide +kernel) (gd1 wa_5 (by decide +kernel) ggX5_clashes_X5_clashesOf))))
theorem dX5_clashes_0 : decode cX5_clashes 0 = .ok (.aload_n 0, 1) := by decide +kernel
theorem dX5_clashes_1 : decode cX5_clashes 1 = .ok (.getfield 88, 3) := by decide +kernel
theorem dX5_clashes_4 : decode cX5_clashes 4 = .ok (.ifCond .ne 7, 3) := by decide +kernel
theorem dX5_clashes_7 : decode cX5_clashes 7 = .ok (.iconst 0, 1) := by decide +kernel
theorem dX5_clashes_8 : decode cX5_clashes 8 = .ok (.goto 25, 3) := by decide +kernel
theorem dX5_clashes_11 : decode cX5_clashes 11 = .ok (.aload_n 0, 1) := by decide +kernel
theorem dX5_clashes_12 : decode cX5_clashes 12 = .ok (.aload_n 0, 1) := by decide +kernel
theorem dX5_clashes_13 : decode cX5_clashes 13 = .ok (.getfield 13, 3) := by decide +kernel
theorem dX5_clashes_16 : decode cX5_clashes 16 = .ok (.iconst 0, 1) := by decide +kernel
theorem dX5_clashes_17 : decode cX5_clashes 17 = .ok (.iaload, 1) := by decide +kernel
theorem dX5_clashes_18 : decode cX5_clashes 18 = .ok (.aload_n 0, 1) := by decide +kernel
theorem dX5_clashes_19 : decode cX5_clashes 19 = .ok (.getfield 13, 3) := by decide +kernel
theorem dX5_clashes_22 : decode cX5_clashes 22 = .ok (.iconst 1, 1) := by decide +kernel
theorem dX5_clashes_23 : decode cX5_clashes 23 = .ok (.iaload, 1) := by decide +kernel
theorem dX5_clashes_24 : decode cX5_clashes 24 = .ok (.aload_n 0, 1) := by decide +kernel
theorem dX5_clashes_25 : decode cX5_clashes 25 = .ok (.getfield 13, 3) := by decide +kernel
theorem dX5_clashes_28 : decode cX5_clashes 28 = .ok (.iconst 2, 1) := by decide +kernel
theorem dX5_clashes_29 : decode cX5_clashes 29 = .ok (.iaload, 1) := by decide +kernel
theorem dX5_clashes_30 : decode cX5_clashes 30 = .ok (.invokevirtual 138, 3) := by decide +kernel
theorem dX5_clashes_33 : decode cX5_clashes 33 = .ok (.ireturn, 1) := by decide +kernel
set_option maxRecDepth 20000 in
theorem ggX5_wallNow_X5_clashesOn : GoodIn wsX5_wallNow wsX5_clashesOn := gdW wa_918 (by decide +kernel) (by decide +kernel)
set_option maxRecDepth 20000 in
theorem gX5_wallNow_X5_clashesOn : GoodIn wsX5_wallNow (wsV RX5 134 RX5 yX5_clashesOn wsX5_clashesOn) := (gd1 wa_915 (by decide +kernel) (gd1 wa_916 (by decide +kernel) (gd1 wa_917 (by decide +kernel) (gd1 wa_5 (by decide +kernel) ggX5_wallNow_X5_clashesOn))))
theorem dX5_wallNow_0 : decode cX5_wallNow 0 = .ok (.aload_n 0, 1) := by decide +kernel
theorem dX5_wallNow_1 : decode cX5_wallNow 1 = .ok (.iload_n 1, 1) := by decide +kernel
theorem dX5_wallNow_2 : decode cX5_wallNow 2 = .ok (.iconst 2, 1) := by decide +kernel
theorem dX5_wallNow_3 : decode cX5_wallNow 3 = .ok (.iadd, 1) := by decide +kernel
theorem dX5_wallNow_4 : decode cX5_wallNow 4 = .ok (.aload_n 0, 1) := by decide +kernel
theorem dX5_wallNow_5 : decode cX5_wallNow 5 = .ok (.getfield 13, 3) := by decide +kernel
theorem dX5_wallNow_8 : decode cX5_wallNow 8 = .ok (.iconst 0, 1) := by decide +kernel
theorem dX5_wallNow_9 : decode cX5_wallNow 9 = .ok (.iaload, 1) := by decide +kernel
theorem dX5_wallNow_10 : decode cX5_wallNow 10 = .ok (.aload_n 0, 1) := by decide +kernel
theorem dX5_wallNow_11 : decode cX5_wallNow 11 = .ok (.getfield 13, 3) := by decide +kernel
theorem dX5_wallNow_14 : decode cX5_wallNow 14 = .ok (.iconst 1, 1) := by decide +kernel
theorem dX5_wallNow_15 : decode cX5_wallNow 15 = .ok (.iaload, 1) := by decide +kernel
theorem dX5_wallNow_16 : decode cX5_wallNow 16 = .ok (.aload_n 0, 1) := by decide +kernel
theorem dX5_wallNow_17 : decode cX5_wallNow 17 = .ok (.getfield 13, 3) := by decide +kernel
theorem dX5_wallNow_20 : decode cX5_wallNow 20 = .ok (.iconst 2, 1) := by decide +kernel
theorem dX5_wallNow_21 : decode cX5_wallNow 21 = .ok (.iaload, 1) := by decide +kernel
theorem dX5_wallNow_22 : decode cX5_wallNow 22 = .ok (.invokevirtual 134, 3) := by decide +kernel
theorem dX5_wallNow_25 : decode cX5_wallNow 25 = .ok (.istore_n 3, 1) := by decide +kernel
theorem dX5_wallNow_26 : decode cX5_wallNow 26 = .ok (.iload_n 2, 1) := by decide +kernel
theorem dX5_wallNow_27 : decode cX5_wallNow 27 = .ok (.iconst 1, 1) := by decide +kernel
theorem dX5_wallNow_28 : decode cX5_wallNow 28 = .ok (.if_icmp .ne 7, 3) := by decide +kernel
theorem dX5_wallNow_31 : decode cX5_wallNow 31 = .ok (.iload_n 3, 1) := by decide +kernel
theorem dX5_wallNow_32 : decode cX5_wallNow 32 = .ok (.goto 12, 3) := by decide +kernel
theorem dX5_wallNow_35 : decode cX5_wallNow 35 = .ok (.iload_n 3, 1) := by decide +kernel
theorem dX5_wallNow_36 : decode cX5_wallNow 36 = .ok (.ifCond .ne 7, 3) := by decide +kernel
theorem dX5_wallNow_39 : decode cX5_wallNow 39 = .ok (.iconst 1, 1) := by decide +kernel
theorem dX5_wallNow_40 : decode cX5_wallNow 40 = .ok (.goto 4, 3) := by decide +kernel
theorem dX5_wallNow_43 : decode cX5_wallNow 43 = .ok (.iconst 0, 1) := by decide +kernel
theorem dX5_wallNow_44 : decode cX5_wallNow 44 = .ok (.ireturn, 1) := by decide +kernel
set_option maxRecDepth 20000 in
theorem ggX5_wall_X5_within : GoodIn wsX5_wall wsX5_within := gdW wa_270 (by decide +kernel) (by decide +kernel)
set_option maxRecDepth 20000 in
theorem gX5_wall_X5_within : GoodIn wsX5_wall (va_wsS RX5 59 yX5_within wsX5_within) := (gd1 wa_268 (by decide +kernel) (gd1 wa_269 (by decide +kernel) (gd1 wa_5 (by decide +kernel) ggX5_wall_X5_within)))
set_option maxRecDepth 20000 in
theorem ggX5_wall_X5_wallNow : GoodIn wsX5_wall wsX5_wallNow := gdW wa_914 (by decide +kernel) (by decide +kernel)
set_option maxRecDepth 20000 in
theorem gX5_wall_X5_wallNow : GoodIn wsX5_wall (wsV RX5 141 RX5 yX5_wallNow wsX5_wallNow) := (gd1 wa_911 (by decide +kernel) (gd1 wa_912 (by decide +kernel) (gd1 wa_913 (by decide +kernel) (gd1 wa_5 (by decide +kernel) ggX5_wall_X5_wallNow))))
theorem dX5_wall_0 : decode cX5_wall 0 = .ok (.aload_n 0, 1) := by decide +kernel
theorem dX5_wall_1 : decode cX5_wall 1 = .ok (.getfield 88, 3) := by decide +kernel
theorem dX5_wall_4 : decode cX5_wall 4 = .ok (.ifCond .eq 12, 3) := by decide +kernel
theorem dX5_wall_7 : decode cX5_wall 7 = .ok (.iload_n 1, 1) := by decide +kernel
theorem dX5_wall_8 : decode cX5_wall 8 = .ok (.iconst 0, 1) := by decide +kernel
theorem dX5_wall_9 : decode cX5_wall 9 = .ok (.iconst 3, 1) := by decide +kernel
theorem dX5_wall_10 : decode cX5_wall 10 = .ok (.invokestatic 59, 3) := by decide +kernel
theorem dX5_wall_13 : decode cX5_wall 13 = .ok (.ifCond .ne 6, 3) := by decide +kernel
theorem dX5_wall_16 : decode cX5_wall 16 = .ok (.bipush (-101), 2) := by decide +kernel
theorem dX5_wall_18 : decode cX5_wall 18 = .ok (.ireturn, 1) := by decide +kernel
theorem dX5_wall_19 : decode cX5_wall 19 = .ok (.iload_n 2, 1) := by decide +kernel
theorem dX5_wall_20 : decode cX5_wall 20 = .ok (.iconst 0, 1) := by decide +kernel
theorem dX5_wall_21 : decode cX5_wall 21 = .ok (.iconst 1, 1) := by decide +kernel
theorem dX5_wall_22 : decode cX5_wall 22 = .ok (.invokestatic 59, 3) := by decide +kernel
theorem dX5_wall_25 : decode cX5_wall 25 = .ok (.ifCond .eq 12, 3) := by decide +kernel
theorem dX5_wall_28 : decode cX5_wall 28 = .ok (.aload_n 0, 1) := by decide +kernel
theorem dX5_wall_29 : decode cX5_wall 29 = .ok (.iload_n 1, 1) := by decide +kernel
theorem dX5_wall_30 : decode cX5_wall 30 = .ok (.iload_n 2, 1) := by decide +kernel
theorem dX5_wall_31 : decode cX5_wall 31 = .ok (.invokevirtual 141, 3) := by decide +kernel
theorem dX5_wall_34 : decode cX5_wall 34 = .ok (.goto 5, 3) := by decide +kernel
theorem dX5_wall_37 : decode cX5_wall 37 = .ok (.bipush (-102), 2) := by decide +kernel
theorem dX5_wall_39 : decode cX5_wall 39 = .ok (.ireturn, 1) := by decide +kernel
set_option maxRecDepth 20000 in
theorem ggX5_turn_X5_isCube : GoodIn wsX5_turn wsX5_isCube := gdW wa_777 (by decide +kernel) (by decide +kernel)
set_option maxRecDepth 20000 in
theorem gX5_turn_X5_isCube : GoodIn wsX5_turn (wsV RX5 123 RX5 yX5_isCube wsX5_isCube) := (gd1 wa_774 (by decide +kernel) (gd1 wa_775 (by decide +kernel) (gd1 wa_776 (by decide +kernel) (gd1 wa_5 (by decide +kernel) ggX5_turn_X5_isCube))))
set_option maxRecDepth 20000 in
theorem ggX5_turn_X5_within : GoodIn wsX5_turn wsX5_within := gdW wa_270 (by decide +kernel) (by decide +kernel)
set_option maxRecDepth 20000 in
theorem gX5_turn_X5_within : GoodIn wsX5_turn (va_wsS RX5 59 yX5_within wsX5_within) := (gd1 wa_268 (by decide +kernel) (gd1 wa_269 (by decide +kernel) (gd1 wa_5 (by decide +kernel) ggX5_turn_X5_within)))
set_option maxRecDepth 20000 in
theorem ggX5_turn_X5_turnsOf : GoodIn wsX5_turn wsX5_turnsOf := gdW wa_845 (by decide +kernel) (by decide +kernel)
set_option maxRecDepth 20000 in
theorem gX5_turn_X5_turnsOf : GoodIn wsX5_turn (va_wsS RX5 120 yX5_turnsOf wsX5_turnsOf) := (gd1 wa_843 (by decide +kernel) (gd1 wa_844 (by decide +kernel) (gd1 wa_5 (by decide +kernel) ggX5_turn_X5_turnsOf)))
set_option maxRecDepth 20000 in
theorem ggX5_turn_X5_isIn : GoodIn wsX5_turn wsX5_isIn := gdW wa_839 (by decide +kernel) (by decide +kernel)
set_option maxRecDepth 20000 in
theorem gX5_turn_X5_isIn : GoodIn wsX5_turn (va_wsS RX5 144 yX5_isIn wsX5_isIn) := (gd1 wa_837 (by decide +kernel) (gd1 wa_838 (by decide +kernel) (gd1 wa_5 (by decide +kernel) ggX5_turn_X5_isIn)))
set_option maxRecDepth 20000 in
theorem ggX5_turn_X5_turned : GoodIn wsX5_turn wsX5_turned := gdW wa_983 (by decide +kernel) (by decide +kernel)
set_option maxRecDepth 20000 in
theorem gX5_turn_X5_turned : GoodIn wsX5_turn (va_wsS RX5 148 yX5_turned wsX5_turned) := (gd1 wa_981 (by decide +kernel) (gd1 wa_982 (by decide +kernel) (gd1 wa_5 (by decide +kernel) ggX5_turn_X5_turned)))
set_option maxRecDepth 20000 in
theorem ggX5_turn_X5_clashes : GoodIn wsX5_turn wsX5_clashes := gdW wa_1033 (by decide +kernel) (by decide +kernel)
set_option maxRecDepth 20000 in
theorem gX5_turn_X5_clashes : GoodIn wsX5_turn (wsV RX5 151 RX5 yX5_clashes wsX5_clashes) := (gd1 wa_1030 (by decide +kernel) (gd1 wa_1031 (by decide +kernel) (gd1 wa_1032 (by decide +kernel) (gd1 wa_5 (by decide +kernel) ggX5_turn_X5_clashes))))
theorem dX5_turn_0 : decode cX5_turn 0 = .ok (.aload_n 0, 1) := by decide +kernel
theorem dX5_turn_1 : decode cX5_turn 1 = .ok (.iload_n 1, 1) := by decide +kernel
theorem dX5_turn_2 : decode cX5_turn 2 = .ok (.invokevirtual 123, 3) := by decide +kernel
theorem dX5_turn_5 : decode cX5_turn 5 = .ok (.ifCond .ne 6, 3) := by decide +kernel
theorem dX5_turn_8 : decode cX5_turn 8 = .ok (.bipush (-101), 2) := by decide +kernel
theorem dX5_turn_10 : decode cX5_turn 10 = .ok (.ireturn, 1) := by decide +kernel
theorem dX5_turn_11 : decode cX5_turn 11 = .ok (.iload_n 2, 1) := by decide +kernel
theorem dX5_turn_12 : decode cX5_turn 12 = .ok (.iconst 0, 1) := by decide +kernel
theorem dX5_turn_13 : decode cX5_turn 13 = .ok (.iconst 3, 1) := by decide +kernel
theorem dX5_turn_14 : decode cX5_turn 14 = .ok (.invokestatic 59, 3) := by decide +kernel
theorem dX5_turn_17 : decode cX5_turn 17 = .ok (.ifCond .ne 6, 3) := by decide +kernel
theorem dX5_turn_20 : decode cX5_turn 20 = .ok (.bipush (-102), 2) := by decide +kernel
theorem dX5_turn_22 : decode cX5_turn 22 = .ok (.ireturn, 1) := by decide +kernel
theorem dX5_turn_23 : decode cX5_turn 23 = .ok (.aload_n 0, 1) := by decide +kernel
theorem dX5_turn_24 : decode cX5_turn 24 = .ok (.getfield 7, 3) := by decide +kernel
theorem dX5_turn_27 : decode cX5_turn 27 = .ok (.iload_n 1, 1) := by decide +kernel
theorem dX5_turn_28 : decode cX5_turn 28 = .ok (.iaload, 1) := by decide +kernel
theorem dX5_turn_29 : decode cX5_turn 29 = .ok (.invokestatic 120, 3) := by decide +kernel
theorem dX5_turn_32 : decode cX5_turn 32 = .ok (.iload_n 2, 1) := by decide +kernel
theorem dX5_turn_33 : decode cX5_turn 33 = .ok (.invokestatic 144, 3) := by decide +kernel
theorem dX5_turn_36 : decode cX5_turn 36 = .ok (.ifCond .ne 6, 3) := by decide +kernel
theorem dX5_turn_39 : decode cX5_turn 39 = .ok (.bipush (-103), 2) := by decide +kernel
theorem dX5_turn_41 : decode cX5_turn 41 = .ok (.ireturn, 1) := by decide +kernel
theorem dX5_turn_42 : decode cX5_turn 42 = .ok (.aload_n 0, 1) := by decide +kernel
theorem dX5_turn_43 : decode cX5_turn 43 = .ok (.getfield 91, 3) := by decide +kernel
theorem dX5_turn_46 : decode cX5_turn 46 = .ok (.sipush 999, 3) := by decide +kernel
theorem dX5_turn_49 : decode cX5_turn 49 = .ok (.if_icmp .ne 6, 3) := by decide +kernel
theorem dX5_turn_52 : decode cX5_turn 52 = .ok (.bipush (-104), 2) := by decide +kernel
theorem dX5_turn_54 : decode cX5_turn 54 = .ok (.ireturn, 1) := by decide +kernel
theorem dX5_turn_55 : decode cX5_turn 55 = .ok (.aload_n 0, 1) := by decide +kernel
theorem dX5_turn_56 : decode cX5_turn 56 = .ok (.getfield 13, 3) := by decide +kernel
theorem dX5_turn_59 : decode cX5_turn 59 = .ok (.iload_n 1, 1) := by decide +kernel
theorem dX5_turn_60 : decode cX5_turn 60 = .ok (.aload_n 0, 1) := by decide +kernel
theorem dX5_turn_61 : decode cX5_turn 61 = .ok (.getfield 7, 3) := by decide +kernel
theorem dX5_turn_64 : decode cX5_turn 64 = .ok (.iload_n 1, 1) := by decide +kernel
theorem dX5_turn_65 : decode cX5_turn 65 = .ok (.iaload, 1) := by decide +kernel
theorem dX5_turn_66 : decode cX5_turn 66 = .ok (.aload_n 0, 1) := by decide +kernel
theorem dX5_turn_67 : decode cX5_turn 67 = .ok (.getfield 13, 3) := by decide +kernel
theorem dX5_turn_70 : decode cX5_turn 70 = .ok (.iload_n 1, 1) := by decide +kernel
theorem dX5_turn_71 : decode cX5_turn 71 = .ok (.iaload, 1) := by decide +kernel
theorem dX5_turn_72 : decode cX5_turn 72 = .ok (.iload_n 2, 1) := by decide +kernel
theorem dX5_turn_73 : decode cX5_turn 73 = .ok (.invokestatic 148, 3) := by decide +kernel
theorem dX5_turn_76 : decode cX5_turn 76 = .ok (.iastore, 1) := by decide +kernel
theorem dX5_turn_77 : decode cX5_turn 77 = .ok (.aload_n 0, 1) := by decide +kernel
theorem dX5_turn_78 : decode cX5_turn 78 = .ok (.dup, 1) := by decide +kernel
theorem dX5_turn_79 : decode cX5_turn 79 = .ok (.getfield 91, 3) := by decide +kernel
theorem dX5_turn_82 : decode cX5_turn 82 = .ok (.iconst 1, 1) := by decide +kernel
theorem dX5_turn_83 : decode cX5_turn 83 = .ok (.iadd, 1) := by decide +kernel
theorem dX5_turn_84 : decode cX5_turn 84 = .ok (.putfield 91, 3) := by decide +kernel
theorem dX5_turn_87 : decode cX5_turn 87 = .ok (.aload_n 0, 1) := by decide +kernel
theorem dX5_turn_88 : decode cX5_turn 88 = .ok (.invokevirtual 151, 3) := by decide +kernel
theorem dX5_turn_91 : decode cX5_turn 91 = .ok (.ireturn, 1) := by decide +kernel
theorem dX5_painted_0 : decode cX5_painted 0 = .ok (.iload_n 0, 1) := by decide +kernel
theorem dX5_painted_1 : decode cX5_painted 1 = .ok (.bipush 7, 2) := by decide +kernel
theorem dX5_painted_3 : decode cX5_painted 3 = .ok (.iconst 3, 1) := by decide +kernel
theorem dX5_painted_4 : decode cX5_painted 4 = .ok (.iload_n 1, 1) := by decide +kernel
theorem dX5_painted_5 : decode cX5_painted 5 = .ok (.imul, 1) := by decide +kernel
theorem dX5_painted_6 : decode cX5_painted 6 = .ok (.ishl, 1) := by decide +kernel
theorem dX5_painted_7 : decode cX5_painted 7 = .ok (.iconst (-1), 1) := by decide +kernel
theorem dX5_painted_8 : decode cX5_painted 8 = .ok (.ixor, 1) := by decide +kernel
theorem dX5_painted_9 : decode cX5_painted 9 = .ok (.iand, 1) := by decide +kernel
theorem dX5_painted_10 : decode cX5_painted 10 = .ok (.iload_n 2, 1) := by decide +kernel
theorem dX5_painted_11 : decode cX5_painted 11 = .ok (.iconst 3, 1) := by decide +kernel
theorem dX5_painted_12 : decode cX5_painted 12 = .ok (.iload_n 1, 1) := by decide +kernel
theorem dX5_painted_13 : decode cX5_painted 13 = .ok (.imul, 1) := by decide +kernel
theorem dX5_painted_14 : decode cX5_painted 14 = .ok (.ishl, 1) := by decide +kernel
theorem dX5_painted_15 : decode cX5_painted 15 = .ok (.ior, 1) := by decide +kernel
theorem dX5_painted_16 : decode cX5_painted 16 = .ok (.ireturn, 1) := by decide +kernel
set_option maxRecDepth 20000 in
theorem ggX5_paint_X5_isCube : GoodIn wsX5_paint wsX5_isCube := gdW wa_777 (by decide +kernel) (by decide +kernel)
set_option maxRecDepth 20000 in
theorem gX5_paint_X5_isCube : GoodIn wsX5_paint (wsV RX5 123 RX5 yX5_isCube wsX5_isCube) := (gd1 wa_774 (by decide +kernel) (gd1 wa_775 (by decide +kernel) (gd1 wa_776 (by decide +kernel) (gd1 wa_5 (by decide +kernel) ggX5_paint_X5_isCube))))
set_option maxRecDepth 20000 in
theorem ggX5_paint_X5_within : GoodIn wsX5_paint wsX5_within := gdW wa_270 (by decide +kernel) (by decide +kernel)
set_option maxRecDepth 20000 in
theorem gX5_paint_X5_within : GoodIn wsX5_paint (va_wsS RX5 59 yX5_within wsX5_within) := (gd1 wa_268 (by decide +kernel) (gd1 wa_269 (by decide +kernel) (gd1 wa_5 (by decide +kernel) ggX5_paint_X5_within)))
set_option maxRecDepth 20000 in
theorem ggX5_paint_X5_side : GoodIn wsX5_paint wsX5_side := gdW wa_848 (by decide +kernel) (by decide +kernel)
set_option maxRecDepth 20000 in
theorem gX5_paint_X5_side : GoodIn wsX5_paint (va_wsS RX5 100 yX5_side wsX5_side) := (gd1 wa_846 (by decide +kernel) (gd1 wa_847 (by decide +kernel) (gd1 wa_5 (by decide +kernel) ggX5_paint_X5_side)))
set_option maxRecDepth 20000 in
theorem ggX5_paint_X5_painted : GoodIn wsX5_paint wsX5_painted := gdW wa_1088 (by decide +kernel) (by decide +kernel)
set_option maxRecDepth 20000 in
theorem gX5_paint_X5_painted : GoodIn wsX5_paint (va_wsS RX5 154 yX5_painted wsX5_painted) := (gd1 wa_1046 (by decide +kernel) (gd1 wa_1047 (by decide +kernel) (gd1 wa_5 (by decide +kernel) ggX5_paint_X5_painted)))
theorem dX5_paint_0 : decode cX5_paint 0 = .ok (.aload_n 0, 1) := by decide +kernel
theorem dX5_paint_1 : decode cX5_paint 1 = .ok (.iload_n 1, 1) := by decide +kernel
theorem dX5_paint_2 : decode cX5_paint 2 = .ok (.invokevirtual 123, 3) := by decide +kernel
theorem dX5_paint_5 : decode cX5_paint 5 = .ok (.ifCond .eq 12, 3) := by decide +kernel
theorem dX5_paint_8 : decode cX5_paint 8 = .ok (.iload_n 2, 1) := by decide +kernel
theorem dX5_paint_9 : decode cX5_paint 9 = .ok (.iconst 0, 1) := by decide +kernel
theorem dX5_paint_10 : decode cX5_paint 10 = .ok (.iconst 5, 1) := by decide +kernel
theorem dX5_paint_11 : decode cX5_paint 11 = .ok (.invokestatic 59, 3) := by decide +kernel
theorem dX5_paint_14 : decode cX5_paint 14 = .ok (.ifCond .ne 6, 3) := by decide +kernel
theorem dX5_paint_17 : decode cX5_paint 17 = .ok (.bipush (-101), 2) := by decide +kernel
theorem dX5_paint_19 : decode cX5_paint 19 = .ok (.ireturn, 1) := by decide +kernel
theorem dX5_paint_20 : decode cX5_paint 20 = .ok (.iload_n 3, 1) := by decide +kernel
theorem dX5_paint_21 : decode cX5_paint 21 = .ok (.iconst 0, 1) := by decide +kernel
theorem dX5_paint_22 : decode cX5_paint 22 = .ok (.iconst 5, 1) := by decide +kernel
theorem dX5_paint_23 : decode cX5_paint 23 = .ok (.invokestatic 59, 3) := by decide +kernel
theorem dX5_paint_26 : decode cX5_paint 26 = .ok (.ifCond .ne 6, 3) := by decide +kernel
theorem dX5_paint_29 : decode cX5_paint 29 = .ok (.bipush (-102), 2) := by decide +kernel
theorem dX5_paint_31 : decode cX5_paint 31 = .ok (.ireturn, 1) := by decide +kernel
theorem dX5_paint_32 : decode cX5_paint 32 = .ok (.aload_n 0, 1) := by decide +kernel
theorem dX5_paint_33 : decode cX5_paint 33 = .ok (.getfield 13, 3) := by decide +kernel
theorem dX5_paint_36 : decode cX5_paint 36 = .ok (.iload_n 1, 1) := by decide +kernel
theorem dX5_paint_37 : decode cX5_paint 37 = .ok (.iaload, 1) := by decide +kernel
theorem dX5_paint_38 : decode cX5_paint 38 = .ok (.iload_n 2, 1) := by decide +kernel
theorem dX5_paint_39 : decode cX5_paint 39 = .ok (.invokestatic 100, 3) := by decide +kernel
theorem dX5_paint_42 : decode cX5_paint 42 = .ok (.istore 4, 2) := by decide +kernel
theorem dX5_paint_44 : decode cX5_paint 44 = .ok (.aload_n 0, 1) := by decide +kernel
theorem dX5_paint_45 : decode cX5_paint 45 = .ok (.getfield 13, 3) := by decide +kernel
theorem dX5_paint_48 : decode cX5_paint 48 = .ok (.iload_n 1, 1) := by decide +kernel
theorem dX5_paint_49 : decode cX5_paint 49 = .ok (.aload_n 0, 1) := by decide +kernel
theorem dX5_paint_50 : decode cX5_paint 50 = .ok (.getfield 13, 3) := by decide +kernel
theorem dX5_paint_53 : decode cX5_paint 53 = .ok (.iload_n 1, 1) := by decide +kernel
theorem dX5_paint_54 : decode cX5_paint 54 = .ok (.iaload, 1) := by decide +kernel
theorem dX5_paint_55 : decode cX5_paint 55 = .ok (.iload_n 2, 1) := by decide +kernel
theorem dX5_paint_56 : decode cX5_paint 56 = .ok (.iload_n 3, 1) := by decide +kernel
theorem dX5_paint_57 : decode cX5_paint 57 = .ok (.invokestatic 154, 3) := by decide +kernel
theorem dX5_paint_60 : decode cX5_paint 60 = .ok (.iastore, 1) := by decide +kernel
theorem dX5_paint_61 : decode cX5_paint 61 = .ok (.iload 4, 2) := by decide +kernel
theorem dX5_paint_63 : decode cX5_paint 63 = .ok (.ireturn, 1) := by decide +kernel
set_option maxRecDepth 20000 in
theorem ggX5_swap_X5_isCube : GoodIn wsX5_swap wsX5_isCube := gdW wa_777 (by decide +kernel) (by decide +kernel)
set_option maxRecDepth 20000 in
theorem gX5_swap_X5_isCube : GoodIn wsX5_swap (wsV RX5 123 RX5 yX5_isCube wsX5_isCube) := (gd1 wa_774 (by decide +kernel) (gd1 wa_775 (by decide +kernel) (gd1 wa_776 (by decide +kernel) (gd1 wa_5 (by decide +kernel) ggX5_swap_X5_isCube))))
set_option maxRecDepth 20000 in
theorem ggX5_swap_X5_clashes : GoodIn wsX5_swap wsX5_clashes := gdW wa_1033 (by decide +kernel) (by decide +kernel)
set_option maxRecDepth 20000 in
theorem gX5_swap_X5_clashes : GoodIn wsX5_swap (wsV RX5 151 RX5 yX5_clashes wsX5_clashes) := (gd1 wa_1030 (by decide +kernel) (gd1 wa_1031 (by decide +kernel) (gd1 wa_1032 (by decide +kernel) (gd1 wa_5 (by decide +kernel) ggX5_swap_X5_clashes))))
theorem dX5_swap_0 : decode cX5_swap 0 = .ok (.aload_n 0, 1) := by decide +kernel
theorem dX5_swap_1 : decode cX5_swap 1 = .ok (.iload_n 1, 1) := by decide +kernel
theorem dX5_swap_2 : decode cX5_swap 2 = .ok (.invokevirtual 123, 3) := by decide +kernel
theorem dX5_swap_5 : decode cX5_swap 5 = .ok (.ifCond .eq 16, 3) := by decide +kernel
theorem dX5_swap_8 : decode cX5_swap 8 = .ok (.aload_n 0, 1) := by decide +kernel
theorem dX5_swap_9 : decode cX5_swap 9 = .ok (.iload_n 2, 1) := by decide +kernel
theorem dX5_swap_10 : decode cX5_swap 10 = .ok (.invokevirtual 123, 3) := by decide +kernel
theorem dX5_swap_13 : decode cX5_swap 13 = .ok (.ifCond .eq 8, 3) := by decide +kernel
theorem dX5_swap_16 : decode cX5_swap 16 = .ok (.iload_n 1, 1) := by decide +kernel
theorem dX5_swap_17 : decode cX5_swap 17 = .ok (.iload_n 2, 1) := by decide +kernel
theorem dX5_swap_18 : decode cX5_swap 18 = .ok (.if_icmp .ne 6, 3) := by decide +kernel
theorem dX5_swap_21 : decode cX5_swap 21 = .ok (.bipush (-101), 2) := by decide +kernel
theorem dX5_swap_23 : decode cX5_swap 23 = .ok (.ireturn, 1) := by decide +kernel
theorem dX5_swap_24 : decode cX5_swap 24 = .ok (.aload_n 0, 1) := by decide +kernel
theorem dX5_swap_25 : decode cX5_swap 25 = .ok (.getfield 7, 3) := by decide +kernel
theorem dX5_swap_28 : decode cX5_swap 28 = .ok (.iload_n 1, 1) := by decide +kernel
theorem dX5_swap_29 : decode cX5_swap 29 = .ok (.iaload, 1) := by decide +kernel
theorem dX5_swap_30 : decode cX5_swap 30 = .ok (.istore_n 3, 1) := by decide +kernel
theorem dX5_swap_31 : decode cX5_swap 31 = .ok (.aload_n 0, 1) := by decide +kernel
theorem dX5_swap_32 : decode cX5_swap 32 = .ok (.getfield 13, 3) := by decide +kernel
theorem dX5_swap_35 : decode cX5_swap 35 = .ok (.iload_n 1, 1) := by decide +kernel
theorem dX5_swap_36 : decode cX5_swap 36 = .ok (.iaload, 1) := by decide +kernel
theorem dX5_swap_37 : decode cX5_swap 37 = .ok (.istore 4, 2) := by decide +kernel
theorem dX5_swap_39 : decode cX5_swap 39 = .ok (.aload_n 0, 1) := by decide +kernel
theorem dX5_swap_40 : decode cX5_swap 40 = .ok (.getfield 7, 3) := by decide +kernel
theorem dX5_swap_43 : decode cX5_swap 43 = .ok (.iload_n 1, 1) := by decide +kernel
theorem dX5_swap_44 : decode cX5_swap 44 = .ok (.aload_n 0, 1) := by decide +kernel
theorem dX5_swap_45 : decode cX5_swap 45 = .ok (.getfield 7, 3) := by decide +kernel
theorem dX5_swap_48 : decode cX5_swap 48 = .ok (.iload_n 2, 1) := by decide +kernel
theorem dX5_swap_49 : decode cX5_swap 49 = .ok (.iaload, 1) := by decide +kernel
theorem dX5_swap_50 : decode cX5_swap 50 = .ok (.iastore, 1) := by decide +kernel
theorem dX5_swap_51 : decode cX5_swap 51 = .ok (.aload_n 0, 1) := by decide +kernel
theorem dX5_swap_52 : decode cX5_swap 52 = .ok (.getfield 13, 3) := by decide +kernel
theorem dX5_swap_55 : decode cX5_swap 55 = .ok (.iload_n 1, 1) := by decide +kernel
theorem dX5_swap_56 : decode cX5_swap 56 = .ok (.aload_n 0, 1) := by decide +kernel
theorem dX5_swap_57 : decode cX5_swap 57 = .ok (.getfield 13, 3) := by decide +kernel
theorem dX5_swap_60 : decode cX5_swap 60 = .ok (.iload_n 2, 1) := by decide +kernel
theorem dX5_swap_61 : decode cX5_swap 61 = .ok (.iaload, 1) := by decide +kernel
theorem dX5_swap_62 : decode cX5_swap 62 = .ok (.iastore, 1) := by decide +kernel
theorem dX5_swap_63 : decode cX5_swap 63 = .ok (.aload_n 0, 1) := by decide +kernel
theorem dX5_swap_64 : decode cX5_swap 64 = .ok (.getfield 7, 3) := by decide +kernel
theorem dX5_swap_67 : decode cX5_swap 67 = .ok (.iload_n 2, 1) := by decide +kernel
theorem dX5_swap_68 : decode cX5_swap 68 = .ok (.iload_n 3, 1) := by decide +kernel
theorem dX5_swap_69 : decode cX5_swap 69 = .ok (.iastore, 1) := by decide +kernel
theorem dX5_swap_70 : decode cX5_swap 70 = .ok (.aload_n 0, 1) := by decide +kernel
theorem dX5_swap_71 : decode cX5_swap 71 = .ok (.getfield 13, 3) := by decide +kernel
theorem dX5_swap_74 : decode cX5_swap 74 = .ok (.iload_n 2, 1) := by decide +kernel
theorem dX5_swap_75 : decode cX5_swap 75 = .ok (.iload 4, 2) := by decide +kernel
theorem dX5_swap_77 : decode cX5_swap 77 = .ok (.iastore, 1) := by decide +kernel
theorem dX5_swap_78 : decode cX5_swap 78 = .ok (.aload_n 0, 1) := by decide +kernel
theorem dX5_swap_79 : decode cX5_swap 79 = .ok (.invokevirtual 151, 3) := by decide +kernel
theorem dX5_swap_82 : decode cX5_swap 82 = .ok (.ireturn, 1) := by decide +kernel
set_option maxRecDepth 20000 in
theorem ggX5_be_X5_isCube : GoodIn wsX5_be wsX5_isCube := gdW wa_777 (by decide +kernel) (by decide +kernel)
set_option maxRecDepth 20000 in
theorem gX5_be_X5_isCube : GoodIn wsX5_be (wsV RX5 123 RX5 yX5_isCube wsX5_isCube) := (gd1 wa_774 (by decide +kernel) (gd1 wa_775 (by decide +kernel) (gd1 wa_776 (by decide +kernel) (gd1 wa_5 (by decide +kernel) ggX5_be_X5_isCube))))
set_option maxRecDepth 20000 in
theorem ggX5_be_X5_within : GoodIn wsX5_be wsX5_within := gdW wa_270 (by decide +kernel) (by decide +kernel)
set_option maxRecDepth 20000 in
theorem gX5_be_X5_within : GoodIn wsX5_be (va_wsS RX5 59 yX5_within wsX5_within) := (gd1 wa_268 (by decide +kernel) (gd1 wa_269 (by decide +kernel) (gd1 wa_5 (by decide +kernel) ggX5_be_X5_within)))
theorem dX5_be_0 : decode cX5_be 0 = .ok (.aload_n 0, 1) := by decide +kernel
theorem dX5_be_1 : decode cX5_be 1 = .ok (.iload_n 1, 1) := by decide +kernel
theorem dX5_be_2 : decode cX5_be 2 = .ok (.invokevirtual 123, 3) := by decide +kernel
theorem dX5_be_5 : decode cX5_be 5 = .ok (.ifCond .ne 6, 3) := by decide +kernel
theorem dX5_be_8 : decode cX5_be 8 = .ok (.bipush (-101), 2) := by decide +kernel
theorem dX5_be_10 : decode cX5_be 10 = .ok (.ireturn, 1) := by decide +kernel
theorem dX5_be_11 : decode cX5_be 11 = .ok (.iload_n 2, 1) := by decide +kernel
theorem dX5_be_12 : decode cX5_be 12 = .ok (.iconst 0, 1) := by decide +kernel
theorem dX5_be_13 : decode cX5_be 13 = .ok (.iconst 4, 1) := by decide +kernel
theorem dX5_be_14 : decode cX5_be 14 = .ok (.invokestatic 59, 3) := by decide +kernel
theorem dX5_be_17 : decode cX5_be 17 = .ok (.ifCond .ne 6, 3) := by decide +kernel
theorem dX5_be_20 : decode cX5_be 20 = .ok (.bipush (-102), 2) := by decide +kernel
theorem dX5_be_22 : decode cX5_be 22 = .ok (.ireturn, 1) := by decide +kernel
theorem dX5_be_23 : decode cX5_be 23 = .ok (.aload_n 0, 1) := by decide +kernel
theorem dX5_be_24 : decode cX5_be 24 = .ok (.getfield 7, 3) := by decide +kernel
theorem dX5_be_27 : decode cX5_be 27 = .ok (.iload_n 1, 1) := by decide +kernel
theorem dX5_be_28 : decode cX5_be 28 = .ok (.iaload, 1) := by decide +kernel
theorem dX5_be_29 : decode cX5_be 29 = .ok (.istore_n 3, 1) := by decide +kernel
theorem dX5_be_30 : decode cX5_be 30 = .ok (.aload_n 0, 1) := by decide +kernel
theorem dX5_be_31 : decode cX5_be 31 = .ok (.getfield 7, 3) := by decide +kernel
theorem dX5_be_34 : decode cX5_be 34 = .ok (.iload_n 1, 1) := by decide +kernel
theorem dX5_be_35 : decode cX5_be 35 = .ok (.iload_n 2, 1) := by decide +kernel
theorem dX5_be_36 : decode cX5_be 36 = .ok (.iastore, 1) := by decide +kernel
theorem dX5_be_37 : decode cX5_be 37 = .ok (.iload_n 3, 1) := by decide +kernel
theorem dX5_be_38 : decode cX5_be 38 = .ok (.ireturn, 1) := by decide +kernel
theorem dX5_take_0 : decode cX5_take 0 = .ok (.iconst 0, 1) := by decide +kernel
theorem dX5_take_1 : decode cX5_take 1 = .ok (.istore 4, 2) := by decide +kernel
theorem dX5_take_3 : decode cX5_take 3 = .ok (.iload 4, 2) := by decide +kernel
theorem dX5_take_5 : decode cX5_take 5 = .ok (.aload_n 0, 1) := by decide +kernel
theorem dX5_take_6 : decode cX5_take 6 = .ok (.getfield 35, 3) := by decide +kernel
theorem dX5_take_9 : decode cX5_take 9 = .ok (.iload_n 1, 1) := by decide +kernel
theorem dX5_take_10 : decode cX5_take 10 = .ok (.iaload, 1) := by decide +kernel
theorem dX5_take_11 : decode cX5_take 11 = .ok (.if_icmp .ge 26, 3) := by decide +kernel
theorem dX5_take_14 : decode cX5_take 14 = .ok (.aload_n 0, 1) := by decide +kernel
theorem dX5_take_15 : decode cX5_take 15 = .ok (.getfield 29, 3) := by decide +kernel
theorem dX5_take_18 : decode cX5_take 18 = .ok (.bipush 24, 2) := by decide +kernel
theorem dX5_take_20 : decode cX5_take 20 = .ok (.iload_n 1, 1) := by decide +kernel
theorem dX5_take_21 : decode cX5_take 21 = .ok (.imul, 1) := by decide +kernel
theorem dX5_take_22 : decode cX5_take 22 = .ok (.iload 4, 2) := by decide +kernel
theorem dX5_take_24 : decode cX5_take 24 = .ok (.iadd, 1) := by decide +kernel
theorem dX5_take_25 : decode cX5_take 25 = .ok (.iaload, 1) := by decide +kernel
theorem dX5_take_26 : decode cX5_take 26 = .ok (.iload_n 2, 1) := by decide +kernel
theorem dX5_take_27 : decode cX5_take 27 = .ok (.if_icmp .ne 4, 3) := by decide +kernel
theorem dX5_take_30 : decode cX5_take 30 = .ok (.return_, 1) := by decide +kernel
theorem dX5_take_31 : decode cX5_take 31 = .ok (.iinc 4 1, 3) := by decide +kernel
theorem dX5_take_34 : decode cX5_take 34 = .ok (.goto (-31), 3) := by decide +kernel
theorem dX5_take_37 : decode cX5_take 37 = .ok (.aload_n 0, 1) := by decide +kernel
theorem dX5_take_38 : decode cX5_take 38 = .ok (.getfield 29, 3) := by decide +kernel
theorem dX5_take_41 : decode cX5_take 41 = .ok (.bipush 24, 2) := by decide +kernel
theorem dX5_take_43 : decode cX5_take 43 = .ok (.iload_n 1, 1) := by decide +kernel
theorem dX5_take_44 : decode cX5_take 44 = .ok (.imul, 1) := by decide +kernel
theorem dX5_take_45 : decode cX5_take 45 = .ok (.aload_n 0, 1) := by decide +kernel
theorem dX5_take_46 : decode cX5_take 46 = .ok (.getfield 35, 3) := by decide +kernel
theorem dX5_take_49 : decode cX5_take 49 = .ok (.iload_n 1, 1) := by decide +kernel
theorem dX5_take_50 : decode cX5_take 50 = .ok (.iaload, 1) := by decide +kernel
theorem dX5_take_51 : decode cX5_take 51 = .ok (.iadd, 1) := by decide +kernel
theorem dX5_take_52 : decode cX5_take 52 = .ok (.iload_n 2, 1) := by decide +kernel
theorem dX5_take_53 : decode cX5_take 53 = .ok (.iastore, 1) := by decide +kernel
theorem dX5_take_54 : decode cX5_take 54 = .ok (.aload_n 0, 1) := by decide +kernel
theorem dX5_take_55 : decode cX5_take 55 = .ok (.getfield 32, 3) := by decide +kernel
theorem dX5_take_58 : decode cX5_take 58 = .ok (.bipush 24, 2) := by decide +kernel
theorem dX5_take_60 : decode cX5_take 60 = .ok (.iload_n 1, 1) := by decide +kernel
theorem dX5_take_61 : decode cX5_take 61 = .ok (.imul, 1) := by decide +kernel
theorem dX5_take_62 : decode cX5_take 62 = .ok (.aload_n 0, 1) := by decide +kernel
theorem dX5_take_63 : decode cX5_take 63 = .ok (.getfield 35, 3) := by decide +kernel
theorem dX5_take_66 : decode cX5_take 66 = .ok (.iload_n 1, 1) := by decide +kernel
theorem dX5_take_67 : decode cX5_take 67 = .ok (.iaload, 1) := by decide +kernel
theorem dX5_take_68 : decode cX5_take 68 = .ok (.iadd, 1) := by decide +kernel
theorem dX5_take_69 : decode cX5_take 69 = .ok (.iload_n 3, 1) := by decide +kernel
theorem dX5_take_70 : decode cX5_take 70 = .ok (.iastore, 1) := by decide +kernel
theorem dX5_take_71 : decode cX5_take 71 = .ok (.aload_n 0, 1) := by decide +kernel
theorem dX5_take_72 : decode cX5_take 72 = .ok (.getfield 35, 3) := by decide +kernel
theorem dX5_take_75 : decode cX5_take 75 = .ok (.iload_n 1, 1) := by decide +kernel
theorem dX5_take_76 : decode cX5_take 76 = .ok (.dup2, 1) := by decide +kernel
theorem dX5_take_77 : decode cX5_take 77 = .ok (.iaload, 1) := by decide +kernel
theorem dX5_take_78 : decode cX5_take 78 = .ok (.iconst 1, 1) := by decide +kernel
theorem dX5_take_79 : decode cX5_take 79 = .ok (.iadd, 1) := by decide +kernel
theorem dX5_take_80 : decode cX5_take 80 = .ok (.iastore, 1) := by decide +kernel
theorem dX5_take_81 : decode cX5_take 81 = .ok (.return_, 1) := by decide +kernel
set_option maxRecDepth 20000 in
theorem ggX5_layWays_X5_take : GoodIn wsX5_layWays wsX5_take := gdW wa_1289 (by decide +kernel) (by decide +kernel)
set_option maxRecDepth 20000 in
theorem gX5_layWays_X5_take : GoodIn wsX5_layWays (wsV RX5 157 RX5 yX5_take wsX5_take) := (gd1 wa_1286 (by decide +kernel) (gd1 wa_1287 (by decide +kernel) (gd1 wa_1288 (by decide +kernel) (gd1 wa_5 (by decide +kernel) ggX5_layWays_X5_take))))
set_option maxRecDepth 20000 in
theorem ggX5_layWays_X5_turnsOf : GoodIn wsX5_layWays wsX5_turnsOf := gdW wa_845 (by decide +kernel) (by decide +kernel)
set_option maxRecDepth 20000 in
theorem gX5_layWays_X5_turnsOf : GoodIn wsX5_layWays (va_wsS RX5 120 yX5_turnsOf wsX5_turnsOf) := (gd1 wa_843 (by decide +kernel) (gd1 wa_844 (by decide +kernel) (gd1 wa_5 (by decide +kernel) ggX5_layWays_X5_turnsOf)))
set_option maxRecDepth 20000 in
theorem ggX5_layWays_X5_isIn : GoodIn wsX5_layWays wsX5_isIn := gdW wa_839 (by decide +kernel) (by decide +kernel)
set_option maxRecDepth 20000 in
theorem gX5_layWays_X5_isIn : GoodIn wsX5_layWays (va_wsS RX5 144 yX5_isIn wsX5_isIn) := (gd1 wa_837 (by decide +kernel) (gd1 wa_838 (by decide +kernel) (gd1 wa_5 (by decide +kernel) ggX5_layWays_X5_isIn)))
set_option maxRecDepth 20000 in
theorem ggX5_layWays_X5_turned : GoodIn wsX5_layWays wsX5_turned := gdW wa_983 (by decide +kernel) (by decide +kernel)
set_option maxRecDepth 20000 in
theorem gX5_layWays_X5_turned : GoodIn wsX5_layWays (va_wsS RX5 148 yX5_turned wsX5_turned) := (gd1 wa_981 (by decide +kernel) (gd1 wa_982 (by decide +kernel) (gd1 wa_5 (by decide +kernel) ggX5_layWays_X5_turned)))
theorem dX5_layWays_0 : decode cX5_layWays 0 = .ok (.aload_n 0, 1) := by decide +kernel
theorem dX5_layWays_1 : decode cX5_layWays 1 = .ok (.getfield 35, 3) := by decide +kernel
theorem dX5_layWays_4 : decode cX5_layWays 4 = .ok (.iload_n 1, 1) := by decide +kernel
theorem dX5_layWays_5 : decode cX5_layWays 5 = .ok (.iconst 0, 1) := by decide +kernel
theorem dX5_layWays_6 : decode cX5_layWays 6 = .ok (.iastore, 1) := by decide +kernel
theorem dX5_layWays_7 : decode cX5_layWays 7 = .ok (.aload_n 0, 1) := by decide +kernel
theorem dX5_layWays_8 : decode cX5_layWays 8 = .ok (.iload_n 1, 1) := by decide +kernel
theorem dX5_layWays_9 : decode cX5_layWays 9 = .ok (.iload_n 2, 1) := by decide +kernel
theorem dX5_layWays_10 : decode cX5_layWays 10 = .ok (.iconst 0, 1) := by decide +kernel
theorem dX5_layWays_11 : decode cX5_layWays 11 = .ok (.invokevirtual 157, 3) := by decide +kernel
theorem dX5_layWays_14 : decode cX5_layWays 14 = .ok (.iconst 0, 1) := by decide +kernel
theorem dX5_layWays_15 : decode cX5_layWays 15 = .ok (.istore_n 3, 1) := by decide +kernel
theorem dX5_layWays_16 : decode cX5_layWays 16 = .ok (.iload_n 3, 1) := by decide +kernel
theorem dX5_layWays_17 : decode cX5_layWays 17 = .ok (.aload_n 0, 1) := by decide +kernel
theorem dX5_layWays_18 : decode cX5_layWays 18 = .ok (.getfield 35, 3) := by decide +kernel
theorem dX5_layWays_21 : decode cX5_layWays 21 = .ok (.iload_n 1, 1) := by decide +kernel
theorem dX5_layWays_22 : decode cX5_layWays 22 = .ok (.iaload, 1) := by decide +kernel
theorem dX5_layWays_23 : decode cX5_layWays 23 = .ok (.if_icmp .ge 81, 3) := by decide +kernel
theorem dX5_layWays_26 : decode cX5_layWays 26 = .ok (.iconst 0, 1) := by decide +kernel
theorem dX5_layWays_27 : decode cX5_layWays 27 = .ok (.istore 4, 2) := by decide +kernel
theorem dX5_layWays_29 : decode cX5_layWays 29 = .ok (.iload 4, 2) := by decide +kernel
theorem dX5_layWays_31 : decode cX5_layWays 31 = .ok (.iconst 4, 1) := by decide +kernel
theorem dX5_layWays_32 : decode cX5_layWays 32 = .ok (.if_icmp .ge 66, 3) := by decide +kernel
theorem dX5_layWays_35 : decode cX5_layWays 35 = .ok (.aload_n 0, 1) := by decide +kernel
theorem dX5_layWays_36 : decode cX5_layWays 36 = .ok (.getfield 7, 3) := by decide +kernel
theorem dX5_layWays_39 : decode cX5_layWays 39 = .ok (.iload_n 1, 1) := by decide +kernel
theorem dX5_layWays_40 : decode cX5_layWays 40 = .ok (.iaload, 1) := by decide +kernel
theorem dX5_layWays_41 : decode cX5_layWays 41 = .ok (.invokestatic 120, 3) := by decide +kernel
theorem dX5_layWays_44 : decode cX5_layWays 44 = .ok (.iload 4, 2) := by decide +kernel
theorem dX5_layWays_46 : decode cX5_layWays 46 = .ok (.invokestatic 144, 3) := by decide +kernel
theorem dX5_layWays_49 : decode cX5_layWays 49 = .ok (.ifCond .eq 43, 3) := by decide +kernel
theorem dX5_layWays_52 : decode cX5_layWays 52 = .ok (.aload_n 0, 1) := by decide +kernel
theorem dX5_layWays_53 : decode cX5_layWays 53 = .ok (.iload_n 1, 1) := by decide +kernel
theorem dX5_layWays_54 : decode cX5_layWays 54 = .ok (.aload_n 0, 1) := by decide +kernel
theorem dX5_layWays_55 : decode cX5_layWays 55 = .ok (.getfield 7, 3) := by decide +kernel
theorem dX5_layWays_58 : decode cX5_layWays 58 = .ok (.iload_n 1, 1) := by decide +kernel
theorem dX5_layWays_59 : decode cX5_layWays 59 = .ok (.iaload, 1) := by decide +kernel
theorem dX5_layWays_60 : decode cX5_layWays 60 = .ok (.aload_n 0, 1) := by decide +kernel
theorem dX5_layWays_61 : decode cX5_layWays 61 = .ok (.getfield 29, 3) := by decide +kernel
theorem dX5_layWays_64 : decode cX5_layWays 64 = .ok (.bipush 24, 2) := by decide +kernel
theorem dX5_layWays_66 : decode cX5_layWays 66 = .ok (.iload_n 1, 1) := by decide +kernel
theorem dX5_layWays_67 : decode cX5_layWays 67 = .ok (.imul, 1) := by decide +kernel
theorem dX5_layWays_68 : decode cX5_layWays 68 = .ok (.iload_n 3, 1) := by decide +kernel
theorem dX5_layWays_69 : decode cX5_layWays 69 = .ok (.iadd, 1) := by decide +kernel
theorem dX5_layWays_70 : decode cX5_layWays 70 = .ok (.iaload, 1) := by decide +kernel
theorem dX5_layWays_71 : decode cX5_layWays 71 = .ok (.iload 4, 2) := by decide +kernel
theorem dX5_layWays_73 : decode cX5_layWays 73 = .ok (.invokestatic 148, 3) := by decide +kernel
theorem dX5_layWays_76 : decode cX5_layWays 76 = .ok (.aload_n 0, 1) := by decide +kernel
theorem dX5_layWays_77 : decode cX5_layWays 77 = .ok (.getfield 32, 3) := by decide +kernel
theorem dX5_layWays_80 : decode cX5_layWays 80 = .ok (.bipush 24, 2) := by decide +kernel
theorem dX5_layWays_82 : decode cX5_layWays 82 = .ok (.iload_n 1, 1) := by decide +kernel
theorem dX5_layWays_83 : decode cX5_layWays 83 = .ok (.imul, 1) := by decide +kernel
theorem dX5_layWays_84 : decode cX5_layWays 84 = .ok (.iload_n 3, 1) := by decide +kernel
theorem dX5_layWays_85 : decode cX5_layWays 85 = .ok (.iadd, 1) := by decide +kernel
theorem dX5_layWays_86 : decode cX5_layWays 86 = .ok (.iaload, 1) := by decide +kernel
theorem dX5_layWays_87 : decode cX5_layWays 87 = .ok (.iconst 1, 1) := by decide +kernel
theorem dX5_layWays_88 : decode cX5_layWays 88 = .ok (.iadd, 1) := by decide +kernel
theorem dX5_layWays_89 : decode cX5_layWays 89 = .ok (.invokevirtual 157, 3) := by decide +kernel
theorem dX5_layWays_92 : decode cX5_layWays 92 = .ok (.iinc 4 1, 3) := by decide +kernel
theorem dX5_layWays_95 : decode cX5_layWays 95 = .ok (.goto (-66), 3) := by decide +kernel
theorem dX5_layWays_98 : decode cX5_layWays 98 = .ok (.iinc 3 1, 3) := by decide +kernel
theorem dX5_layWays_101 : decode cX5_layWays 101 = .ok (.goto (-85), 3) := by decide +kernel
theorem dX5_layWays_104 : decode cX5_layWays 104 = .ok (.return_, 1) := by decide +kernel
set_option maxRecDepth 20000 in
theorem ggX5_laid_X5_side : GoodIn wsX5_laid wsX5_side := gdW wa_848 (by decide +kernel) (by decide +kernel)
set_option maxRecDepth 20000 in
theorem gX5_laid_X5_side : GoodIn wsX5_laid (va_wsS RX5 100 yX5_side wsX5_side) := (gd1 wa_846 (by decide +kernel) (gd1 wa_847 (by decide +kernel) (gd1 wa_5 (by decide +kernel) ggX5_laid_X5_side)))
theorem dX5_laid_0 : decode cX5_laid 0 = .ok (.iconst 0, 1) := by decide +kernel
theorem dX5_laid_1 : decode cX5_laid 1 = .ok (.istore_n 2, 1) := by decide +kernel
theorem dX5_laid_2 : decode cX5_laid 2 = .ok (.iconst 0, 1) := by decide +kernel
theorem dX5_laid_3 : decode cX5_laid 3 = .ok (.istore_n 3, 1) := by decide +kernel
theorem dX5_laid_4 : decode cX5_laid 4 = .ok (.iload_n 3, 1) := by decide +kernel
theorem dX5_laid_5 : decode cX5_laid 5 = .ok (.bipush 6, 2) := by decide +kernel
theorem dX5_laid_7 : decode cX5_laid 7 = .ok (.if_icmp .ge 25, 3) := by decide +kernel
theorem dX5_laid_10 : decode cX5_laid 10 = .ok (.iload_n 2, 1) := by decide +kernel
theorem dX5_laid_11 : decode cX5_laid 11 = .ok (.iload_n 0, 1) := by decide +kernel
theorem dX5_laid_12 : decode cX5_laid 12 = .ok (.iload_n 1, 1) := by decide +kernel
theorem dX5_laid_13 : decode cX5_laid 13 = .ok (.iload_n 3, 1) := by decide +kernel
theorem dX5_laid_14 : decode cX5_laid 14 = .ok (.invokestatic 100, 3) := by decide +kernel
theorem dX5_laid_17 : decode cX5_laid 17 = .ok (.invokestatic 100, 3) := by decide +kernel
theorem dX5_laid_20 : decode cX5_laid 20 = .ok (.iconst 3, 1) := by decide +kernel
theorem dX5_laid_21 : decode cX5_laid 21 = .ok (.iload_n 3, 1) := by decide +kernel
theorem dX5_laid_22 : decode cX5_laid 22 = .ok (.imul, 1) := by decide +kernel
theorem dX5_laid_23 : decode cX5_laid 23 = .ok (.ishl, 1) := by decide +kernel
theorem dX5_laid_24 : decode cX5_laid 24 = .ok (.ior, 1) := by decide +kernel
theorem dX5_laid_25 : decode cX5_laid 25 = .ok (.istore_n 2, 1) := by decide +kernel
theorem dX5_laid_26 : decode cX5_laid 26 = .ok (.iinc 3 1, 3) := by decide +kernel
theorem dX5_laid_29 : decode cX5_laid 29 = .ok (.goto (-25), 3) := by decide +kernel
theorem dX5_laid_32 : decode cX5_laid 32 = .ok (.iload_n 2, 1) := by decide +kernel
theorem dX5_laid_33 : decode cX5_laid 33 = .ok (.ireturn, 1) := by decide +kernel
set_option maxRecDepth 20000 in
theorem ggX5_layColours_X5_laid : GoodIn wsX5_layColours wsX5_laid := gdW wa_1296 (by decide +kernel) (by decide +kernel)
set_option maxRecDepth 20000 in
theorem gX5_layColours_X5_laid : GoodIn wsX5_layColours (va_wsS RX5 161 yX5_laid wsX5_laid) := (gd1 wa_1294 (by decide +kernel) (gd1 wa_1295 (by decide +kernel) (gd1 wa_5 (by decide +kernel) ggX5_layColours_X5_laid)))
theorem dX5_layColours_0 : decode cX5_layColours 0 = .ok (.iconst 0, 1) := by decide +kernel
theorem dX5_layColours_1 : decode cX5_layColours 1 = .ok (.istore_n 2, 1) := by decide +kernel
theorem dX5_layColours_2 : decode cX5_layColours 2 = .ok (.iload_n 2, 1) := by decide +kernel
theorem dX5_layColours_3 : decode cX5_layColours 3 = .ok (.aload_n 0, 1) := by decide +kernel
theorem dX5_layColours_4 : decode cX5_layColours 4 = .ok (.getfield 35, 3) := by decide +kernel
theorem dX5_layColours_7 : decode cX5_layColours 7 = .ok (.iload_n 1, 1) := by decide +kernel
theorem dX5_layColours_8 : decode cX5_layColours 8 = .ok (.iaload, 1) := by decide +kernel
theorem dX5_layColours_9 : decode cX5_layColours 9 = .ok (.if_icmp .ge 40, 3) := by decide +kernel
theorem dX5_layColours_12 : decode cX5_layColours 12 = .ok (.aload_n 0, 1) := by decide +kernel
theorem dX5_layColours_13 : decode cX5_layColours 13 = .ok (.getfield 38, 3) := by decide +kernel
theorem dX5_layColours_16 : decode cX5_layColours 16 = .ok (.bipush 24, 2) := by decide +kernel
theorem dX5_layColours_18 : decode cX5_layColours 18 = .ok (.iload_n 1, 1) := by decide +kernel
theorem dX5_layColours_19 : decode cX5_layColours 19 = .ok (.imul, 1) := by decide +kernel
theorem dX5_layColours_20 : decode cX5_layColours 20 = .ok (.iload_n 2, 1) := by decide +kernel
theorem dX5_layColours_21 : decode cX5_layColours 21 = .ok (.iadd, 1) := by decide +kernel
theorem dX5_layColours_22 : decode cX5_layColours 22 = .ok (.aload_n 0, 1) := by decide +kernel
theorem dX5_layColours_23 : decode cX5_layColours 23 = .ok (.getfield 13, 3) := by decide +kernel
theorem dX5_layColours_26 : decode cX5_layColours 26 = .ok (.iload_n 1, 1) := by decide +kernel
theorem dX5_layColours_27 : decode cX5_layColours 27 = .ok (.iaload, 1) := by decide +kernel
theorem dX5_layColours_28 : decode cX5_layColours 28 = .ok (.aload_n 0, 1) := by decide +kernel
theorem dX5_layColours_29 : decode cX5_layColours 29 = .ok (.getfield 29, 3) := by decide +kernel
theorem dX5_layColours_32 : decode cX5_layColours 32 = .ok (.bipush 24, 2) := by decide +kernel
theorem dX5_layColours_34 : decode cX5_layColours 34 = .ok (.iload_n 1, 1) := by decide +kernel
theorem dX5_layColours_35 : decode cX5_layColours 35 = .ok (.imul, 1) := by decide +kernel
theorem dX5_layColours_36 : decode cX5_layColours 36 = .ok (.iload_n 2, 1) := by decide +kernel
theorem dX5_layColours_37 : decode cX5_layColours 37 = .ok (.iadd, 1) := by decide +kernel
theorem dX5_layColours_38 : decode cX5_layColours 38 = .ok (.iaload, 1) := by decide +kernel
theorem dX5_layColours_39 : decode cX5_layColours 39 = .ok (.invokestatic 161, 3) := by decide +kernel
theorem dX5_layColours_42 : decode cX5_layColours 42 = .ok (.iastore, 1) := by decide +kernel
theorem dX5_layColours_43 : decode cX5_layColours 43 = .ok (.iinc 2 1, 3) := by decide +kernel
theorem dX5_layColours_46 : decode cX5_layColours 46 = .ok (.goto (-44), 3) := by decide +kernel
theorem dX5_layColours_49 : decode cX5_layColours 49 = .ok (.return_, 1) := by decide +kernel
set_option maxRecDepth 20000 in
theorem ggX5_layAll_X5_layWays : GoodIn wsX5_layAll wsX5_layWays := gdW wa_1285 (by decide +kernel) (by decide +kernel)
set_option maxRecDepth 20000 in
theorem gX5_layAll_X5_layWays : GoodIn wsX5_layAll (wsV RX5 165 RX5 yX5_layWays wsX5_layWays) := (gd1 wa_1282 (by decide +kernel) (gd1 wa_1283 (by decide +kernel) (gd1 wa_1284 (by decide +kernel) (gd1 wa_5 (by decide +kernel) ggX5_layAll_X5_layWays))))
set_option maxRecDepth 20000 in
theorem ggX5_layAll_X5_layColours : GoodIn wsX5_layAll wsX5_layColours := gdW wa_1293 (by decide +kernel) (by decide +kernel)
set_option maxRecDepth 20000 in
theorem gX5_layAll_X5_layColours : GoodIn wsX5_layAll (wsV RX5 169 RX5 yX5_layColours wsX5_layColours) := (gd1 wa_1290 (by decide +kernel) (gd1 wa_1291 (by decide +kernel) (gd1 wa_1292 (by decide +kernel) (gd1 wa_5 (by decide +kernel) ggX5_layAll_X5_layColours))))
theorem dX5_layAll_0 : decode cX5_layAll 0 = .ok (.aload_n 0, 1) := by decide +kernel
theorem dX5_layAll_1 : decode cX5_layAll 1 = .ok (.getfield 35, 3) := by decide +kernel
theorem dX5_layAll_4 : decode cX5_layAll 4 = .ok (.iconst 2, 1) := by decide +kernel
theorem dX5_layAll_5 : decode cX5_layAll 5 = .ok (.iconst 1, 1) := by decide +kernel
theorem dX5_layAll_6 : decode cX5_layAll 6 = .ok (.iastore, 1) := by decide +kernel
theorem dX5_layAll_7 : decode cX5_layAll 7 = .ok (.iconst 0, 1) := by decide +kernel
theorem dX5_layAll_8 : decode cX5_layAll 8 = .ok (.istore_n 1, 1) := by decide +kernel
theorem dX5_layAll_9 : decode cX5_layAll 9 = .ok (.iload_n 1, 1) := by decide +kernel
theorem dX5_layAll_10 : decode cX5_layAll 10 = .ok (.aload_n 0, 1) := by decide +kernel
theorem dX5_layAll_11 : decode cX5_layAll 11 = .ok (.getfield 88, 3) := by decide +kernel
theorem dX5_layAll_14 : decode cX5_layAll 14 = .ok (.if_icmp .ge 21, 3) := by decide +kernel
theorem dX5_layAll_17 : decode cX5_layAll 17 = .ok (.aload_n 0, 1) := by decide +kernel
theorem dX5_layAll_18 : decode cX5_layAll 18 = .ok (.iload_n 1, 1) := by decide +kernel
theorem dX5_layAll_19 : decode cX5_layAll 19 = .ok (.ldc 164, 2) := by decide +kernel
theorem dX5_layAll_21 : decode cX5_layAll 21 = .ok (.invokevirtual 165, 3) := by decide +kernel
theorem dX5_layAll_24 : decode cX5_layAll 24 = .ok (.aload_n 0, 1) := by decide +kernel
theorem dX5_layAll_25 : decode cX5_layAll 25 = .ok (.iload_n 1, 1) := by decide +kernel
theorem dX5_layAll_26 : decode cX5_layAll 26 = .ok (.invokevirtual 169, 3) := by decide +kernel
theorem dX5_layAll_29 : decode cX5_layAll 29 = .ok (.iinc 1 1, 3) := by decide +kernel
theorem dX5_layAll_32 : decode cX5_layAll 32 = .ok (.goto (-23), 3) := by decide +kernel
theorem dX5_layAll_35 : decode cX5_layAll 35 = .ok (.return_, 1) := by decide +kernel
theorem dX5_all_0 : decode cX5_all 0 = .ok (.iconst 1, 1) := by decide +kernel
theorem dX5_all_1 : decode cX5_all 1 = .ok (.istore_n 1, 1) := by decide +kernel
theorem dX5_all_2 : decode cX5_all 2 = .ok (.iconst 0, 1) := by decide +kernel
theorem dX5_all_3 : decode cX5_all 3 = .ok (.istore_n 2, 1) := by decide +kernel
theorem dX5_all_4 : decode cX5_all 4 = .ok (.iload_n 2, 1) := by decide +kernel
theorem dX5_all_5 : decode cX5_all 5 = .ok (.aload_n 0, 1) := by decide +kernel
theorem dX5_all_6 : decode cX5_all 6 = .ok (.getfield 88, 3) := by decide +kernel
theorem dX5_all_9 : decode cX5_all 9 = .ok (.if_icmp .ge 18, 3) := by decide +kernel
theorem dX5_all_12 : decode cX5_all 12 = .ok (.iload_n 1, 1) := by decide +kernel
theorem dX5_all_13 : decode cX5_all 13 = .ok (.aload_n 0, 1) := by decide +kernel
theorem dX5_all_14 : decode cX5_all 14 = .ok (.getfield 35, 3) := by decide +kernel
theorem dX5_all_17 : decode cX5_all 17 = .ok (.iload_n 2, 1) := by decide +kernel
theorem dX5_all_18 : decode cX5_all 18 = .ok (.iaload, 1) := by decide +kernel
theorem dX5_all_19 : decode cX5_all 19 = .ok (.imul, 1) := by decide +kernel
theorem dX5_all_20 : decode cX5_all 20 = .ok (.istore_n 1, 1) := by decide +kernel
theorem dX5_all_21 : decode cX5_all 21 = .ok (.iinc 2 1, 3) := by decide +kernel
theorem dX5_all_24 : decode cX5_all 24 = .ok (.goto (-20), 3) := by decide +kernel
theorem dX5_all_27 : decode cX5_all 27 = .ok (.iload_n 1, 1) := by decide +kernel
theorem dX5_all_28 : decode cX5_all 28 = .ok (.ireturn, 1) := by decide +kernel
theorem dX5_first_0 : decode cX5_first 0 = .ok (.iload_n 1, 1) := by decide +kernel
theorem dX5_first_1 : decode cX5_first 1 = .ok (.aload_n 0, 1) := by decide +kernel
theorem dX5_first_2 : decode cX5_first 2 = .ok (.getfield 35, 3) := by decide +kernel
theorem dX5_first_5 : decode cX5_first 5 = .ok (.iconst 0, 1) := by decide +kernel
theorem dX5_first_6 : decode cX5_first 6 = .ok (.iaload, 1) := by decide +kernel
theorem dX5_first_7 : decode cX5_first 7 = .ok (.irem, 1) := by decide +kernel
theorem dX5_first_8 : decode cX5_first 8 = .ok (.ireturn, 1) := by decide +kernel
theorem dX5_second_0 : decode cX5_second 0 = .ok (.bipush 24, 2) := by decide +kernel
theorem dX5_second_2 : decode cX5_second 2 = .ok (.iload_n 1, 1) := by decide +kernel
theorem dX5_second_3 : decode cX5_second 3 = .ok (.aload_n 0, 1) := by decide +kernel
theorem dX5_second_4 : decode cX5_second 4 = .ok (.getfield 35, 3) := by decide +kernel
theorem dX5_second_7 : decode cX5_second 7 = .ok (.iconst 0, 1) := by decide +kernel
theorem dX5_second_8 : decode cX5_second 8 = .ok (.iaload, 1) := by decide +kernel
theorem dX5_second_9 : decode cX5_second 9 = .ok (.idiv, 1) := by decide +kernel
theorem dX5_second_10 : decode cX5_second 10 = .ok (.aload_n 0, 1) := by decide +kernel
theorem dX5_second_11 : decode cX5_second 11 = .ok (.getfield 35, 3) := by decide +kernel
theorem dX5_second_14 : decode cX5_second 14 = .ok (.iconst 1, 1) := by decide +kernel
theorem dX5_second_15 : decode cX5_second 15 = .ok (.iaload, 1) := by decide +kernel
theorem dX5_second_16 : decode cX5_second 16 = .ok (.irem, 1) := by decide +kernel
theorem dX5_second_17 : decode cX5_second 17 = .ok (.iadd, 1) := by decide +kernel
theorem dX5_second_18 : decode cX5_second 18 = .ok (.ireturn, 1) := by decide +kernel
theorem dX5_third_0 : decode cX5_third 0 = .ok (.bipush 48, 2) := by decide +kernel
theorem dX5_third_2 : decode cX5_third 2 = .ok (.iload_n 1, 1) := by decide +kernel
theorem dX5_third_3 : decode cX5_third 3 = .ok (.aload_n 0, 1) := by decide +kernel
theorem dX5_third_4 : decode cX5_third 4 = .ok (.getfield 35, 3) := by decide +kernel
theorem dX5_third_7 : decode cX5_third 7 = .ok (.iconst 0, 1) := by decide +kernel
theorem dX5_third_8 : decode cX5_third 8 = .ok (.iaload, 1) := by decide +kernel
theorem dX5_third_9 : decode cX5_third 9 = .ok (.idiv, 1) := by decide +kernel
theorem dX5_third_10 : decode cX5_third 10 = .ok (.aload_n 0, 1) := by decide +kernel
theorem dX5_third_11 : decode cX5_third 11 = .ok (.getfield 35, 3) := by decide +kernel
theorem dX5_third_14 : decode cX5_third 14 = .ok (.iconst 1, 1) := by decide +kernel
theorem dX5_third_15 : decode cX5_third 15 = .ok (.iaload, 1) := by decide +kernel
theorem dX5_third_16 : decode cX5_third 16 = .ok (.idiv, 1) := by decide +kernel
theorem dX5_third_17 : decode cX5_third 17 = .ok (.iadd, 1) := by decide +kernel
theorem dX5_third_18 : decode cX5_third 18 = .ok (.ireturn, 1) := by decide +kernel
set_option maxRecDepth 20000 in
theorem ggX5_clashesBy_X5_first : GoodIn wsX5_clashesBy wsX5_first := gdW wa_1352 (by decide +kernel) (by decide +kernel)
set_option maxRecDepth 20000 in
theorem gX5_clashesBy_X5_first : GoodIn wsX5_clashesBy (wsV RX5 173 RX5 yX5_first wsX5_first) := (gd1 wa_1349 (by decide +kernel) (gd1 wa_1350 (by decide +kernel) (gd1 wa_1351 (by decide +kernel) (gd1 wa_5 (by decide +kernel) ggX5_clashesBy_X5_first))))
set_option maxRecDepth 20000 in
theorem ggX5_clashesBy_X5_second : GoodIn wsX5_clashesBy wsX5_second := gdW wa_1356 (by decide +kernel) (by decide +kernel)
set_option maxRecDepth 20000 in
theorem gX5_clashesBy_X5_second : GoodIn wsX5_clashesBy (wsV RX5 176 RX5 yX5_second wsX5_second) := (gd1 wa_1353 (by decide +kernel) (gd1 wa_1354 (by decide +kernel) (gd1 wa_1355 (by decide +kernel) (gd1 wa_5 (by decide +kernel) ggX5_clashesBy_X5_second))))
set_option maxRecDepth 20000 in
theorem ggX5_clashesBy_X5_third : GoodIn wsX5_clashesBy wsX5_third := gdW wa_1360 (by decide +kernel) (by decide +kernel)
set_option maxRecDepth 20000 in
theorem gX5_clashesBy_X5_third : GoodIn wsX5_clashesBy (wsV RX5 179 RX5 yX5_third wsX5_third) := (gd1 wa_1357 (by decide +kernel) (gd1 wa_1358 (by decide +kernel) (gd1 wa_1359 (by decide +kernel) (gd1 wa_5 (by decide +kernel) ggX5_clashesBy_X5_third))))
set_option maxRecDepth 20000 in
theorem ggX5_clashesBy_X5_clashesOf : GoodIn wsX5_clashesBy wsX5_clashesOf := gdW wa_1037 (by decide +kernel) (by decide +kernel)
set_option maxRecDepth 20000 in
theorem gX5_clashesBy_X5_clashesOf : GoodIn wsX5_clashesBy (wsV RX5 138 RX5 yX5_clashesOf wsX5_clashesOf) := (gd1 wa_1034 (by decide +kernel) (gd1 wa_1035 (by decide +kernel) (gd1 wa_1036 (by decide +kernel) (gd1 wa_5 (by decide +kernel) ggX5_clashesBy_X5_clashesOf))))
theorem dX5_clashesBy_0 : decode cX5_clashesBy 0 = .ok (.aload_n 0, 1) := by decide +kernel
theorem dX5_clashesBy_1 : decode cX5_clashesBy 1 = .ok (.aload_n 0, 1) := by decide +kernel
theorem dX5_clashesBy_2 : decode cX5_clashesBy 2 = .ok (.getfield 38, 3) := by decide +kernel
theorem dX5_clashesBy_5 : decode cX5_clashesBy 5 = .ok (.aload_n 0, 1) := by decide +kernel
theorem dX5_clashesBy_6 : decode cX5_clashesBy 6 = .ok (.iload_n 1, 1) := by decide +kernel
theorem dX5_clashesBy_7 : decode cX5_clashesBy 7 = .ok (.invokevirtual 173, 3) := by decide +kernel
theorem dX5_clashesBy_10 : decode cX5_clashesBy 10 = .ok (.iaload, 1) := by decide +kernel
theorem dX5_clashesBy_11 : decode cX5_clashesBy 11 = .ok (.aload_n 0, 1) := by decide +kernel
theorem dX5_clashesBy_12 : decode cX5_clashesBy 12 = .ok (.getfield 38, 3) := by decide +kernel
theorem dX5_clashesBy_15 : decode cX5_clashesBy 15 = .ok (.aload_n 0, 1) := by decide +kernel
theorem dX5_clashesBy_16 : decode cX5_clashesBy 16 = .ok (.iload_n 1, 1) := by decide +kernel
theorem dX5_clashesBy_17 : decode cX5_clashesBy 17 = .ok (.invokevirtual 176, 3) := by decide +kernel
theorem dX5_clashesBy_20 : decode cX5_clashesBy 20 = .ok (.iaload, 1) := by decide +kernel
theorem dX5_clashesBy_21 : decode cX5_clashesBy 21 = .ok (.aload_n 0, 1) := by decide +kernel
theorem dX5_clashesBy_22 : decode cX5_clashesBy 22 = .ok (.getfield 38, 3) := by decide +kernel
theorem dX5_clashesBy_25 : decode cX5_clashesBy 25 = .ok (.aload_n 0, 1) := by decide +kernel
theorem dX5_clashesBy_26 : decode cX5_clashesBy 26 = .ok (.iload_n 1, 1) := by decide +kernel
theorem dX5_clashesBy_27 : decode cX5_clashesBy 27 = .ok (.invokevirtual 179, 3) := by decide +kernel
theorem dX5_clashesBy_30 : decode cX5_clashesBy 30 = .ok (.iaload, 1) := by decide +kernel
theorem dX5_clashesBy_31 : decode cX5_clashesBy 31 = .ok (.invokevirtual 138, 3) := by decide +kernel
theorem dX5_clashesBy_34 : decode cX5_clashesBy 34 = .ok (.ireturn, 1) := by decide +kernel
set_option maxRecDepth 20000 in
theorem ggX5_solutions_X5_all : GoodIn wsX5_solutions wsX5_all := gdW wa_1344 (by decide +kernel) (by decide +kernel)
set_option maxRecDepth 20000 in
theorem gX5_solutions_X5_all : GoodIn wsX5_solutions (wsV RX5 182 RX5 yX5_all wsX5_all) := (gd1 wa_1301 (by decide +kernel) (gd1 wa_1302 (by decide +kernel) (gd1 wa_1303 (by decide +kernel) (gd1 wa_5 (by decide +kernel) ggX5_solutions_X5_all))))
