set_option maxRecDepth 20000 in
theorem ggX5_askOf_X5_could : GoodIn wsX5_askOf wsX5_could := gdW wa_791 (by decide +kernel) (by decide +kernel)
set_option maxRecDepth 20000 in
theorem gX5_askOf_X5_could : GoodIn wsX5_askOf (va_wsS RX5 228 yX5_could wsX5_could) := (gd1 wa_789 (by decide +kernel) (gd1 wa_790 (by decide +kernel) (gd1 wa_5 (by decide +kernel) ggX5_askOf_X5_could)))
set_option maxRecDepth 20000 in
theorem ggX5_askOf_X5_size : GoodIn wsX5_askOf wsX5_size := gdW wa_842 (by decide +kernel) (by decide +kernel)
set_option maxRecDepth 20000 in
theorem gX5_askOf_X5_size : GoodIn wsX5_askOf (va_wsS RX5 231 yX5_size wsX5_size) := (gd1 wa_840 (by decide +kernel) (gd1 wa_841 (by decide +kernel) (gd1 wa_5 (by decide +kernel) ggX5_askOf_X5_size)))
theorem dX5_askOf_0 : decode cX5_askOf 0 = .ok (.aload_n 0, 1) := by decide +kernel
theorem dX5_askOf_1 : decode cX5_askOf 1 = .ok (.iload_n 1, 1) := by decide +kernel
theorem dX5_askOf_2 : decode cX5_askOf 2 = .ok (.invokevirtual 114, 3) := by decide +kernel
theorem dX5_askOf_5 : decode cX5_askOf 5 = .ok (.istore_n 2, 1) := by decide +kernel
theorem dX5_askOf_6 : decode cX5_askOf 6 = .ok (.iconst (-1), 1) := by decide +kernel
theorem dX5_askOf_7 : decode cX5_askOf 7 = .ok (.istore_n 3, 1) := by decide +kernel
theorem dX5_askOf_8 : decode cX5_askOf 8 = .ok (.ldc 188, 2) := by decide +kernel
theorem dX5_askOf_10 : decode cX5_askOf 10 = .ok (.istore 4, 2) := by decide +kernel
theorem dX5_askOf_12 : decode cX5_askOf 12 = .ok (.iconst 0, 1) := by decide +kernel
theorem dX5_askOf_13 : decode cX5_askOf 13 = .ok (.istore 5, 2) := by decide +kernel
theorem dX5_askOf_15 : decode cX5_askOf 15 = .ok (.iload 5, 2) := by decide +kernel
theorem dX5_askOf_17 : decode cX5_askOf 17 = .ok (.iconst 3, 1) := by decide +kernel
theorem dX5_askOf_18 : decode cX5_askOf 18 = .ok (.if_icmp .ge 115, 3) := by decide +kernel
theorem dX5_askOf_21 : decode cX5_askOf 21 = .ok (.iload_n 2, 1) := by decide +kernel
theorem dX5_askOf_22 : decode cX5_askOf 22 = .ok (.ifCond .eq 111, 3) := by decide +kernel
theorem dX5_askOf_25 : decode cX5_askOf 25 = .ok (.iconst 0, 1) := by decide +kernel
theorem dX5_askOf_26 : decode cX5_askOf 26 = .ok (.istore 6, 2) := by decide +kernel
theorem dX5_askOf_28 : decode cX5_askOf 28 = .ok (.iconst 0, 1) := by decide +kernel
theorem dX5_askOf_29 : decode cX5_askOf 29 = .ok (.istore 7, 2) := by decide +kernel
theorem dX5_askOf_31 : decode cX5_askOf 31 = .ok (.iload 7, 2) := by decide +kernel
theorem dX5_askOf_33 : decode cX5_askOf 33 = .ok (.iconst 4, 1) := by decide +kernel
theorem dX5_askOf_34 : decode cX5_askOf 34 = .ok (.if_icmp .gt 38, 3) := by decide +kernel
theorem dX5_askOf_37 : decode cX5_askOf 37 = .ok (.iload 6, 2) := by decide +kernel
theorem dX5_askOf_39 : decode cX5_askOf 39 = .ok (.iload_n 2, 1) := by decide +kernel
theorem dX5_askOf_40 : decode cX5_askOf 40 = .ok (.iload 7, 2) := by decide +kernel
theorem dX5_askOf_42 : decode cX5_askOf 42 = .ok (.invokestatic 144, 3) := by decide +kernel
theorem dX5_askOf_45 : decode cX5_askOf 45 = .ok (.ifCond .eq 17, 3) := by decide +kernel
theorem dX5_askOf_48 : decode cX5_askOf 48 = .ok (.iload 7, 2) := by decide +kernel
theorem dX5_askOf_50 : decode cX5_askOf 50 = .ok (.iload 5, 2) := by decide +kernel
theorem dX5_askOf_52 : decode cX5_askOf 52 = .ok (.invokestatic 228, 3) := by decide +kernel
theorem dX5_askOf_55 : decode cX5_askOf 55 = .ok (.ifCond .eq 7, 3) := by decide +kernel
theorem dX5_askOf_58 : decode cX5_askOf 58 = .ok (.iconst 1, 1) := by decide +kernel
theorem dX5_askOf_59 : decode cX5_askOf 59 = .ok (.goto 4, 3) := by decide +kernel
theorem dX5_askOf_62 : decode cX5_askOf 62 = .ok (.iconst 0, 1) := by decide +kernel
theorem dX5_askOf_63 : decode cX5_askOf 63 = .ok (.iadd, 1) := by decide +kernel
theorem dX5_askOf_64 : decode cX5_askOf 64 = .ok (.istore 6, 2) := by decide +kernel
theorem dX5_askOf_66 : decode cX5_askOf 66 = .ok (.iinc 7 1, 3) := by decide +kernel
theorem dX5_askOf_69 : decode cX5_askOf 69 = .ok (.goto (-38), 3) := by decide +kernel
theorem dX5_askOf_72 : decode cX5_askOf 72 = .ok (.iload_n 2, 1) := by decide +kernel
theorem dX5_askOf_73 : decode cX5_askOf 73 = .ok (.invokestatic 231, 3) := by decide +kernel
theorem dX5_askOf_76 : decode cX5_askOf 76 = .ok (.iload 6, 2) := by decide +kernel
theorem dX5_askOf_78 : decode cX5_askOf 78 = .ok (.isub, 1) := by decide +kernel
theorem dX5_askOf_79 : decode cX5_askOf 79 = .ok (.istore 7, 2) := by decide +kernel
theorem dX5_askOf_81 : decode cX5_askOf 81 = .ok (.iload 6, 2) := by decide +kernel
theorem dX5_askOf_83 : decode cX5_askOf 83 = .ok (.iload 7, 2) := by decide +kernel
theorem dX5_askOf_85 : decode cX5_askOf 85 = .ok (.if_icmp .le 8, 3) := by decide +kernel
theorem dX5_askOf_88 : decode cX5_askOf 88 = .ok (.iload 6, 2) := by decide +kernel
theorem dX5_askOf_90 : decode cX5_askOf 90 = .ok (.goto 5, 3) := by decide +kernel
theorem dX5_askOf_93 : decode cX5_askOf 93 = .ok (.iload 7, 2) := by decide +kernel
theorem dX5_askOf_95 : decode cX5_askOf 95 = .ok (.istore 8, 2) := by decide +kernel
theorem dX5_askOf_97 : decode cX5_askOf 97 = .ok (.iload 8, 2) := by decide +kernel
theorem dX5_askOf_99 : decode cX5_askOf 99 = .ok (.iload 4, 2) := by decide +kernel
theorem dX5_askOf_101 : decode cX5_askOf 101 = .ok (.if_icmp .ge 8, 3) := by decide +kernel
theorem dX5_askOf_104 : decode cX5_askOf 104 = .ok (.iload 5, 2) := by decide +kernel
theorem dX5_askOf_106 : decode cX5_askOf 106 = .ok (.goto 4, 3) := by decide +kernel
theorem dX5_askOf_109 : decode cX5_askOf 109 = .ok (.iload_n 3, 1) := by decide +kernel
theorem dX5_askOf_110 : decode cX5_askOf 110 = .ok (.istore_n 3, 1) := by decide +kernel
theorem dX5_askOf_111 : decode cX5_askOf 111 = .ok (.iload 8, 2) := by decide +kernel
theorem dX5_askOf_113 : decode cX5_askOf 113 = .ok (.iload 4, 2) := by decide +kernel
theorem dX5_askOf_115 : decode cX5_askOf 115 = .ok (.if_icmp .ge 8, 3) := by decide +kernel
theorem dX5_askOf_118 : decode cX5_askOf 118 = .ok (.iload 8, 2) := by decide +kernel
theorem dX5_askOf_120 : decode cX5_askOf 120 = .ok (.goto 5, 3) := by decide +kernel
theorem dX5_askOf_123 : decode cX5_askOf 123 = .ok (.iload 4, 2) := by decide +kernel
theorem dX5_askOf_125 : decode cX5_askOf 125 = .ok (.istore 4, 2) := by decide +kernel
theorem dX5_askOf_127 : decode cX5_askOf 127 = .ok (.iinc 5 1, 3) := by decide +kernel
theorem dX5_askOf_130 : decode cX5_askOf 130 = .ok (.goto (-115), 3) := by decide +kernel
theorem dX5_askOf_133 : decode cX5_askOf 133 = .ok (.iload_n 3, 1) := by decide +kernel
theorem dX5_askOf_134 : decode cX5_askOf 134 = .ok (.ireturn, 1) := by decide +kernel
theorem dX5_draw_0 : decode cX5_draw 0 = .ok (.aload_n 0, 1) := by decide +kernel
theorem dX5_draw_1 : decode cX5_draw 1 = .ok (.ldc2_w 234, 3) := by decide +kernel
theorem dX5_draw_4 : decode cX5_draw 4 = .ok (.aload_n 0, 1) := by decide +kernel
theorem dX5_draw_5 : decode cX5_draw 5 = .ok (.getfield 236, 3) := by decide +kernel
theorem dX5_draw_8 : decode cX5_draw 8 = .ok (.lmul, 1) := by decide +kernel
theorem dX5_draw_9 : decode cX5_draw 9 = .ok (.ldc2_w 240, 3) := by decide +kernel
theorem dX5_draw_12 : decode cX5_draw 12 = .ok (.ladd, 1) := by decide +kernel
theorem dX5_draw_13 : decode cX5_draw 13 = .ok (.ldc2_w 242, 3) := by decide +kernel
theorem dX5_draw_16 : decode cX5_draw 16 = .ok (.land, 1) := by decide +kernel
theorem dX5_draw_17 : decode cX5_draw 17 = .ok (.putfield 236, 3) := by decide +kernel
theorem dX5_draw_20 : decode cX5_draw 20 = .ok (.aload_n 0, 1) := by decide +kernel
theorem dX5_draw_21 : decode cX5_draw 21 = .ok (.getfield 236, 3) := by decide +kernel
theorem dX5_draw_24 : decode cX5_draw 24 = .ok (.ldc2_w 244, 3) := by decide +kernel
theorem dX5_draw_27 : decode cX5_draw 27 = .ok (.ldiv, 1) := by decide +kernel
theorem dX5_draw_28 : decode cX5_draw 28 = .ok (.iload_n 1, 1) := by decide +kernel
theorem dX5_draw_29 : decode cX5_draw 29 = .ok (.i2l, 1) := by decide +kernel
theorem dX5_draw_30 : decode cX5_draw 30 = .ok (.lrem, 1) := by decide +kernel
theorem dX5_draw_31 : decode cX5_draw 31 = .ok (.l2i, 1) := by decide +kernel
theorem dX5_draw_32 : decode cX5_draw 32 = .ok (.ireturn, 1) := by decide +kernel
set_option maxRecDepth 20000 in
theorem ggX5_runsNow_X5_draw : GoodIn wsX5_runsNow wsX5_draw := gdW wa_1792 (by decide +kernel) (by decide +kernel)
set_option maxRecDepth 20000 in
theorem gX5_runsNow_X5_draw : GoodIn wsX5_runsNow (wsV RX5 246 RX5 yX5_draw wsX5_draw) := (gd1 wa_1749 (by decide +kernel) (gd1 wa_1750 (by decide +kernel) (gd1 wa_1751 (by decide +kernel) (gd1 wa_5 (by decide +kernel) ggX5_runsNow_X5_draw))))
set_option maxRecDepth 20000 in
theorem ggX5_runsNow_X5_turnsOf : GoodIn wsX5_runsNow wsX5_turnsOf := gdW wa_845 (by decide +kernel) (by decide +kernel)
set_option maxRecDepth 20000 in
theorem gX5_runsNow_X5_turnsOf : GoodIn wsX5_runsNow (va_wsS RX5 120 yX5_turnsOf wsX5_turnsOf) := (gd1 wa_843 (by decide +kernel) (gd1 wa_844 (by decide +kernel) (gd1 wa_5 (by decide +kernel) ggX5_runsNow_X5_turnsOf)))
set_option maxRecDepth 20000 in
theorem ggX5_runsNow_X5_isIn : GoodIn wsX5_runsNow wsX5_isIn := gdW wa_839 (by decide +kernel) (by decide +kernel)
set_option maxRecDepth 20000 in
theorem gX5_runsNow_X5_isIn : GoodIn wsX5_runsNow (va_wsS RX5 144 yX5_isIn wsX5_isIn) := (gd1 wa_837 (by decide +kernel) (gd1 wa_838 (by decide +kernel) (gd1 wa_5 (by decide +kernel) ggX5_runsNow_X5_isIn)))
set_option maxRecDepth 20000 in
theorem ggX5_runsNow_X5_turned : GoodIn wsX5_runsNow wsX5_turned := gdW wa_983 (by decide +kernel) (by decide +kernel)
set_option maxRecDepth 20000 in
theorem gX5_runsNow_X5_turned : GoodIn wsX5_runsNow (va_wsS RX5 148 yX5_turned wsX5_turned) := (gd1 wa_981 (by decide +kernel) (gd1 wa_982 (by decide +kernel) (gd1 wa_5 (by decide +kernel) ggX5_runsNow_X5_turned)))
set_option maxRecDepth 20000 in
theorem ggX5_runsNow_X5_clashesOf : GoodIn wsX5_runsNow wsX5_clashesOf := gdW wa_1037 (by decide +kernel) (by decide +kernel)
set_option maxRecDepth 20000 in
theorem gX5_runsNow_X5_clashesOf : GoodIn wsX5_runsNow (wsV RX5 138 RX5 yX5_clashesOf wsX5_clashesOf) := (gd1 wa_1034 (by decide +kernel) (gd1 wa_1035 (by decide +kernel) (gd1 wa_1036 (by decide +kernel) (gd1 wa_5 (by decide +kernel) ggX5_runsNow_X5_clashesOf))))
theorem dX5_runsNow_0 : decode cX5_runsNow 0 = .ok (.aload_n 0, 1) := by decide +kernel
theorem dX5_runsNow_1 : decode cX5_runsNow 1 = .ok (.iload_n 2, 1) := by decide +kernel
theorem dX5_runsNow_2 : decode cX5_runsNow 2 = .ok (.i2l, 1) := by decide +kernel
theorem dX5_runsNow_3 : decode cX5_runsNow 3 = .ok (.putfield 236, 3) := by decide +kernel
theorem dX5_runsNow_6 : decode cX5_runsNow 6 = .ok (.iconst 0, 1) := by decide +kernel
theorem dX5_runsNow_7 : decode cX5_runsNow 7 = .ok (.istore 4, 2) := by decide +kernel
theorem dX5_runsNow_9 : decode cX5_runsNow 9 = .ok (.iconst 0, 1) := by decide +kernel
theorem dX5_runsNow_10 : decode cX5_runsNow 10 = .ok (.istore 5, 2) := by decide +kernel
theorem dX5_runsNow_12 : decode cX5_runsNow 12 = .ok (.iload 5, 2) := by decide +kernel
theorem dX5_runsNow_14 : decode cX5_runsNow 14 = .ok (.iconst 3, 1) := by decide +kernel
theorem dX5_runsNow_15 : decode cX5_runsNow 15 = .ok (.if_icmp .ge 23, 3) := by decide +kernel
theorem dX5_runsNow_18 : decode cX5_runsNow 18 = .ok (.aload_n 0, 1) := by decide +kernel
theorem dX5_runsNow_19 : decode cX5_runsNow 19 = .ok (.getfield 41, 3) := by decide +kernel
theorem dX5_runsNow_22 : decode cX5_runsNow 22 = .ok (.iload 5, 2) := by decide +kernel
theorem dX5_runsNow_24 : decode cX5_runsNow 24 = .ok (.aload_n 0, 1) := by decide +kernel
theorem dX5_runsNow_25 : decode cX5_runsNow 25 = .ok (.getfield 13, 3) := by decide +kernel
theorem dX5_runsNow_28 : decode cX5_runsNow 28 = .ok (.iload 5, 2) := by decide +kernel
theorem dX5_runsNow_30 : decode cX5_runsNow 30 = .ok (.iaload, 1) := by decide +kernel
theorem dX5_runsNow_31 : decode cX5_runsNow 31 = .ok (.iastore, 1) := by decide +kernel
theorem dX5_runsNow_32 : decode cX5_runsNow 32 = .ok (.iinc 5 1, 3) := by decide +kernel
theorem dX5_runsNow_35 : decode cX5_runsNow 35 = .ok (.goto (-23), 3) := by decide +kernel
theorem dX5_runsNow_38 : decode cX5_runsNow 38 = .ok (.iconst 0, 1) := by decide +kernel
theorem dX5_runsNow_39 : decode cX5_runsNow 39 = .ok (.istore 5, 2) := by decide +kernel
theorem dX5_runsNow_41 : decode cX5_runsNow 41 = .ok (.iload 5, 2) := by decide +kernel
theorem dX5_runsNow_43 : decode cX5_runsNow 43 = .ok (.iload_n 1, 1) := by decide +kernel
theorem dX5_runsNow_44 : decode cX5_runsNow 44 = .ok (.if_icmp .ge 105, 3) := by decide +kernel
theorem dX5_runsNow_47 : decode cX5_runsNow 47 = .ok (.aload_n 0, 1) := by decide +kernel
theorem dX5_runsNow_48 : decode cX5_runsNow 48 = .ok (.aload_n 0, 1) := by decide +kernel
theorem dX5_runsNow_49 : decode cX5_runsNow 49 = .ok (.getfield 88, 3) := by decide +kernel
theorem dX5_runsNow_52 : decode cX5_runsNow 52 = .ok (.invokevirtual 246, 3) := by decide +kernel
theorem dX5_runsNow_55 : decode cX5_runsNow 55 = .ok (.istore 6, 2) := by decide +kernel
theorem dX5_runsNow_57 : decode cX5_runsNow 57 = .ok (.aload_n 0, 1) := by decide +kernel
theorem dX5_runsNow_58 : decode cX5_runsNow 58 = .ok (.iconst 4, 1) := by decide +kernel
theorem dX5_runsNow_59 : decode cX5_runsNow 59 = .ok (.invokevirtual 246, 3) := by decide +kernel
theorem dX5_runsNow_62 : decode cX5_runsNow 62 = .ok (.istore 7, 2) := by decide +kernel
theorem dX5_runsNow_64 : decode cX5_runsNow 64 = .ok (.aload_n 0, 1) := by decide +kernel
theorem dX5_runsNow_65 : decode cX5_runsNow 65 = .ok (.getfield 7, 3) := by decide +kernel
theorem dX5_runsNow_68 : decode cX5_runsNow 68 = .ok (.iload 6, 2) := by decide +kernel
theorem dX5_runsNow_70 : decode cX5_runsNow 70 = .ok (.iaload, 1) := by decide +kernel
theorem dX5_runsNow_71 : decode cX5_runsNow 71 = .ok (.invokestatic 120, 3) := by decide +kernel
theorem dX5_runsNow_74 : decode cX5_runsNow 74 = .ok (.iload 7, 2) := by decide +kernel
theorem dX5_runsNow_76 : decode cX5_runsNow 76 = .ok (.invokestatic 144, 3) := by decide +kernel
theorem dX5_runsNow_79 : decode cX5_runsNow 79 = .ok (.ifCond .eq 29, 3) := by decide +kernel
theorem dX5_runsNow_82 : decode cX5_runsNow 82 = .ok (.aload_n 0, 1) := by decide +kernel
theorem dX5_runsNow_83 : decode cX5_runsNow 83 = .ok (.getfield 41, 3) := by decide +kernel
theorem dX5_runsNow_86 : decode cX5_runsNow 86 = .ok (.iload 6, 2) := by decide +kernel
theorem dX5_runsNow_88 : decode cX5_runsNow 88 = .ok (.aload_n 0, 1) := by decide +kernel
theorem dX5_runsNow_89 : decode cX5_runsNow 89 = .ok (.getfield 7, 3) := by decide +kernel
theorem dX5_runsNow_92 : decode cX5_runsNow 92 = .ok (.iload 6, 2) := by decide +kernel
theorem dX5_runsNow_94 : decode cX5_runsNow 94 = .ok (.iaload, 1) := by decide +kernel
theorem dX5_runsNow_95 : decode cX5_runsNow 95 = .ok (.aload_n 0, 1) := by decide +kernel
theorem dX5_runsNow_96 : decode cX5_runsNow 96 = .ok (.getfield 41, 3) := by decide +kernel
theorem dX5_runsNow_99 : decode cX5_runsNow 99 = .ok (.iload 6, 2) := by decide +kernel
theorem dX5_runsNow_101 : decode cX5_runsNow 101 = .ok (.iaload, 1) := by decide +kernel
theorem dX5_runsNow_102 : decode cX5_runsNow 102 = .ok (.iload 7, 2) := by decide +kernel
theorem dX5_runsNow_104 : decode cX5_runsNow 104 = .ok (.invokestatic 148, 3) := by decide +kernel
theorem dX5_runsNow_107 : decode cX5_runsNow 107 = .ok (.iastore, 1) := by decide +kernel
theorem dX5_runsNow_108 : decode cX5_runsNow 108 = .ok (.iload 4, 2) := by decide +kernel
theorem dX5_runsNow_110 : decode cX5_runsNow 110 = .ok (.aload_n 0, 1) := by decide +kernel
theorem dX5_runsNow_111 : decode cX5_runsNow 111 = .ok (.aload_n 0, 1) := by decide +kernel
theorem dX5_runsNow_112 : decode cX5_runsNow 112 = .ok (.getfield 41, 3) := by decide +kernel
theorem dX5_runsNow_115 : decode cX5_runsNow 115 = .ok (.iconst 0, 1) := by decide +kernel
theorem dX5_runsNow_116 : decode cX5_runsNow 116 = .ok (.iaload, 1) := by decide +kernel
theorem dX5_runsNow_117 : decode cX5_runsNow 117 = .ok (.aload_n 0, 1) := by decide +kernel
theorem dX5_runsNow_118 : decode cX5_runsNow 118 = .ok (.getfield 41, 3) := by decide +kernel
theorem dX5_runsNow_121 : decode cX5_runsNow 121 = .ok (.iconst 1, 1) := by decide +kernel
theorem dX5_runsNow_122 : decode cX5_runsNow 122 = .ok (.iaload, 1) := by decide +kernel
theorem dX5_runsNow_123 : decode cX5_runsNow 123 = .ok (.aload_n 0, 1) := by decide +kernel
theorem dX5_runsNow_124 : decode cX5_runsNow 124 = .ok (.getfield 41, 3) := by decide +kernel
theorem dX5_runsNow_127 : decode cX5_runsNow 127 = .ok (.iconst 2, 1) := by decide +kernel
theorem dX5_runsNow_128 : decode cX5_runsNow 128 = .ok (.iaload, 1) := by decide +kernel
theorem dX5_runsNow_129 : decode cX5_runsNow 129 = .ok (.invokevirtual 138, 3) := by decide +kernel
theorem dX5_runsNow_132 : decode cX5_runsNow 132 = .ok (.ifCond .ne 7, 3) := by decide +kernel
theorem dX5_runsNow_135 : decode cX5_runsNow 135 = .ok (.iconst 1, 1) := by decide +kernel
theorem dX5_runsNow_136 : decode cX5_runsNow 136 = .ok (.goto 4, 3) := by decide +kernel
theorem dX5_runsNow_139 : decode cX5_runsNow 139 = .ok (.iconst 0, 1) := by decide +kernel
theorem dX5_runsNow_140 : decode cX5_runsNow 140 = .ok (.iadd, 1) := by decide +kernel
theorem dX5_runsNow_141 : decode cX5_runsNow 141 = .ok (.istore 4, 2) := by decide +kernel
theorem dX5_runsNow_143 : decode cX5_runsNow 143 = .ok (.iinc 5 1, 3) := by decide +kernel
theorem dX5_runsNow_146 : decode cX5_runsNow 146 = .ok (.goto (-105), 3) := by decide +kernel
theorem dX5_runsNow_149 : decode cX5_runsNow 149 = .ok (.iload_n 3, 1) := by decide +kernel
theorem dX5_runsNow_150 : decode cX5_runsNow 150 = .ok (.ifCond .ne 8, 3) := by decide +kernel
theorem dX5_runsNow_153 : decode cX5_runsNow 153 = .ok (.iload 4, 2) := by decide +kernel
theorem dX5_runsNow_155 : decode cX5_runsNow 155 = .ok (.goto 38, 3) := by decide +kernel
theorem dX5_runsNow_158 : decode cX5_runsNow 158 = .ok (.iload_n 3, 1) := by decide +kernel
theorem dX5_runsNow_159 : decode cX5_runsNow 159 = .ok (.iconst 1, 1) := by decide +kernel
theorem dX5_runsNow_160 : decode cX5_runsNow 160 = .ok (.if_icmp .ne 28, 3) := by decide +kernel
theorem dX5_runsNow_163 : decode cX5_runsNow 163 = .ok (.aload_n 0, 1) := by decide +kernel
theorem dX5_runsNow_164 : decode cX5_runsNow 164 = .ok (.aload_n 0, 1) := by decide +kernel
theorem dX5_runsNow_165 : decode cX5_runsNow 165 = .ok (.getfield 41, 3) := by decide +kernel
theorem dX5_runsNow_168 : decode cX5_runsNow 168 = .ok (.iconst 0, 1) := by decide +kernel
theorem dX5_runsNow_169 : decode cX5_runsNow 169 = .ok (.iaload, 1) := by decide +kernel
theorem dX5_runsNow_170 : decode cX5_runsNow 170 = .ok (.aload_n 0, 1) := by decide +kernel
theorem dX5_runsNow_171 : decode cX5_runsNow 171 = .ok (.getfield 41, 3) := by decide +kernel
theorem dX5_runsNow_174 : decode cX5_runsNow 174 = .ok (.iconst 1, 1) := by decide +kernel
theorem dX5_runsNow_175 : decode cX5_runsNow 175 = .ok (.iaload, 1) := by decide +kernel
theorem dX5_runsNow_176 : decode cX5_runsNow 176 = .ok (.aload_n 0, 1) := by decide +kernel
theorem dX5_runsNow_177 : decode cX5_runsNow 177 = .ok (.getfield 41, 3) := by decide +kernel
theorem dX5_runsNow_180 : decode cX5_runsNow 180 = .ok (.iconst 2, 1) := by decide +kernel
theorem dX5_runsNow_181 : decode cX5_runsNow 181 = .ok (.iaload, 1) := by decide +kernel
theorem dX5_runsNow_182 : decode cX5_runsNow 182 = .ok (.invokevirtual 138, 3) := by decide +kernel
theorem dX5_runsNow_185 : decode cX5_runsNow 185 = .ok (.goto 8, 3) := by decide +kernel
theorem dX5_runsNow_188 : decode cX5_runsNow 188 = .ok (.aload_n 0, 1) := by decide +kernel
theorem dX5_runsNow_189 : decode cX5_runsNow 189 = .ok (.getfield 236, 3) := by decide +kernel
theorem dX5_runsNow_192 : decode cX5_runsNow 192 = .ok (.l2i, 1) := by decide +kernel
theorem dX5_runsNow_193 : decode cX5_runsNow 193 = .ok (.ireturn, 1) := by decide +kernel
set_option maxRecDepth 20000 in
theorem ggX5_runs_X5_within : GoodIn wsX5_runs wsX5_within := gdW wa_270 (by decide +kernel) (by decide +kernel)
set_option maxRecDepth 20000 in
theorem gX5_runs_X5_within : GoodIn wsX5_runs (va_wsS RX5 59 yX5_within wsX5_within) := (gd1 wa_268 (by decide +kernel) (gd1 wa_269 (by decide +kernel) (gd1 wa_5 (by decide +kernel) ggX5_runs_X5_within)))
set_option maxRecDepth 20000 in
theorem ggX5_runs_X5_runsNow : GoodIn wsX5_runs wsX5_runsNow := gdW wa_1747 (by decide +kernel) (by decide +kernel)
set_option maxRecDepth 20000 in
theorem gX5_runs_X5_runsNow : GoodIn wsX5_runs (wsV RX5 249 RX5 yX5_runsNow wsX5_runsNow) := (gd1 wa_1744 (by decide +kernel) (gd1 wa_1745 (by decide +kernel) (gd1 wa_1746 (by decide +kernel) (gd1 wa_5 (by decide +kernel) ggX5_runs_X5_runsNow))))
theorem dX5_runs_0 : decode cX5_runs 0 = .ok (.iload_n 1, 1) := by decide +kernel
theorem dX5_runs_1 : decode cX5_runs 1 = .ok (.iconst 1, 1) := by decide +kernel
theorem dX5_runs_2 : decode cX5_runs 2 = .ok (.bipush 99, 2) := by decide +kernel
theorem dX5_runs_4 : decode cX5_runs 4 = .ok (.invokestatic 59, 3) := by decide +kernel
theorem dX5_runs_7 : decode cX5_runs 7 = .ok (.ifCond .eq 16, 3) := by decide +kernel
theorem dX5_runs_10 : decode cX5_runs 10 = .ok (.iload_n 2, 1) := by decide +kernel
theorem dX5_runs_11 : decode cX5_runs 11 = .ok (.ifCond .lt 12, 3) := by decide +kernel
theorem dX5_runs_14 : decode cX5_runs 14 = .ok (.iload_n 3, 1) := by decide +kernel
theorem dX5_runs_15 : decode cX5_runs 15 = .ok (.iconst 0, 1) := by decide +kernel
theorem dX5_runs_16 : decode cX5_runs 16 = .ok (.iconst 2, 1) := by decide +kernel
theorem dX5_runs_17 : decode cX5_runs 17 = .ok (.invokestatic 59, 3) := by decide +kernel
theorem dX5_runs_20 : decode cX5_runs 20 = .ok (.ifCond .ne 6, 3) := by decide +kernel
theorem dX5_runs_23 : decode cX5_runs 23 = .ok (.bipush (-102), 2) := by decide +kernel
theorem dX5_runs_25 : decode cX5_runs 25 = .ok (.ireturn, 1) := by decide +kernel
theorem dX5_runs_26 : decode cX5_runs 26 = .ok (.aload_n 0, 1) := by decide +kernel
theorem dX5_runs_27 : decode cX5_runs 27 = .ok (.getfield 88, 3) := by decide +kernel
theorem dX5_runs_30 : decode cX5_runs 30 = .ok (.ifCond .ne 8, 3) := by decide +kernel
theorem dX5_runs_33 : decode cX5_runs 33 = .ok (.bipush (-103), 2) := by decide +kernel
theorem dX5_runs_35 : decode cX5_runs 35 = .ok (.goto 10, 3) := by decide +kernel
theorem dX5_runs_38 : decode cX5_runs 38 = .ok (.aload_n 0, 1) := by decide +kernel
theorem dX5_runs_39 : decode cX5_runs 39 = .ok (.iload_n 1, 1) := by decide +kernel
theorem dX5_runs_40 : decode cX5_runs 40 = .ok (.iload_n 2, 1) := by decide +kernel
theorem dX5_runs_41 : decode cX5_runs 41 = .ok (.iload_n 3, 1) := by decide +kernel
theorem dX5_runs_42 : decode cX5_runs 42 = .ok (.invokevirtual 249, 3) := by decide +kernel
theorem dX5_runs_45 : decode cX5_runs 45 = .ok (.ireturn, 1) := by decide +kernel
theorem dX5_image_0 : decode cX5_image 0 = .ok (.aload_n 0, 1) := by decide +kernel
theorem dX5_image_1 : decode cX5_image 1 = .ok (.getfield 88, 3) := by decide +kernel
theorem dX5_image_4 : decode cX5_image 4 = .ok (.ifCond .ne 6, 3) := by decide +kernel
theorem dX5_image_7 : decode cX5_image 7 = .ok (.bipush (-103), 2) := by decide +kernel
theorem dX5_image_9 : decode cX5_image 9 = .ok (.ireturn, 1) := by decide +kernel
theorem dX5_image_10 : decode cX5_image 10 = .ok (.aload_n 0, 1) := by decide +kernel
theorem dX5_image_11 : decode cX5_image 11 = .ok (.iconst 1, 1) := by decide +kernel
theorem dX5_image_12 : decode cX5_image 12 = .ok (.putfield 252, 3) := by decide +kernel
theorem dX5_image_15 : decode cX5_image 15 = .ok (.aload_n 0, 1) := by decide +kernel
theorem dX5_image_16 : decode cX5_image 16 = .ok (.aload_n 0, 1) := by decide +kernel
theorem dX5_image_17 : decode cX5_image 17 = .ok (.getfield 94, 3) := by decide +kernel
theorem dX5_image_20 : decode cX5_image 20 = .ok (.putfield 255, 3) := by decide +kernel
theorem dX5_image_23 : decode cX5_image 23 = .ok (.aload_n 0, 1) := by decide +kernel
theorem dX5_image_24 : decode cX5_image 24 = .ok (.aload_n 0, 1) := by decide +kernel
theorem dX5_image_25 : decode cX5_image 25 = .ok (.getfield 91, 3) := by decide +kernel
theorem dX5_image_28 : decode cX5_image 28 = .ok (.putfield 258, 3) := by decide +kernel
theorem dX5_image_31 : decode cX5_image 31 = .ok (.aload_n 0, 1) := by decide +kernel
theorem dX5_image_32 : decode cX5_image 32 = .ok (.aload_n 0, 1) := by decide +kernel
theorem dX5_image_33 : decode cX5_image 33 = .ok (.getfield 97, 3) := by decide +kernel
theorem dX5_image_36 : decode cX5_image 36 = .ok (.putfield 261, 3) := by decide +kernel
theorem dX5_image_39 : decode cX5_image 39 = .ok (.iconst 0, 1) := by decide +kernel
theorem dX5_image_40 : decode cX5_image 40 = .ok (.istore_n 1, 1) := by decide +kernel
theorem dX5_image_41 : decode cX5_image 41 = .ok (.iload_n 1, 1) := by decide +kernel
theorem dX5_image_42 : decode cX5_image 42 = .ok (.iconst 3, 1) := by decide +kernel
theorem dX5_image_43 : decode cX5_image 43 = .ok (.if_icmp .ge 33, 3) := by decide +kernel
theorem dX5_image_46 : decode cX5_image 46 = .ok (.aload_n 0, 1) := by decide +kernel
theorem dX5_image_47 : decode cX5_image 47 = .ok (.getfield 44, 3) := by decide +kernel
theorem dX5_image_50 : decode cX5_image 50 = .ok (.iload_n 1, 1) := by decide +kernel
theorem dX5_image_51 : decode cX5_image 51 = .ok (.aload_n 0, 1) := by decide +kernel
theorem dX5_image_52 : decode cX5_image 52 = .ok (.getfield 7, 3) := by decide +kernel
theorem dX5_image_55 : decode cX5_image 55 = .ok (.iload_n 1, 1) := by decide +kernel
theorem dX5_image_56 : decode cX5_image 56 = .ok (.iaload, 1) := by decide +kernel
theorem dX5_image_57 : decode cX5_image 57 = .ok (.iastore, 1) := by decide +kernel
theorem dX5_image_58 : decode cX5_image 58 = .ok (.aload_n 0, 1) := by decide +kernel
theorem dX5_image_59 : decode cX5_image 59 = .ok (.getfield 47, 3) := by decide +kernel
theorem dX5_image_62 : decode cX5_image 62 = .ok (.iload_n 1, 1) := by decide +kernel
theorem dX5_image_63 : decode cX5_image 63 = .ok (.aload_n 0, 1) := by decide +kernel
theorem dX5_image_64 : decode cX5_image 64 = .ok (.getfield 13, 3) := by decide +kernel
theorem dX5_image_67 : decode cX5_image 67 = .ok (.iload_n 1, 1) := by decide +kernel
theorem dX5_image_68 : decode cX5_image 68 = .ok (.iaload, 1) := by decide +kernel
theorem dX5_image_69 : decode cX5_image 69 = .ok (.iastore, 1) := by decide +kernel
theorem dX5_image_70 : decode cX5_image 70 = .ok (.iinc 1 1, 3) := by decide +kernel
theorem dX5_image_73 : decode cX5_image 73 = .ok (.goto (-32), 3) := by decide +kernel
theorem dX5_image_76 : decode cX5_image 76 = .ok (.iconst 0, 1) := by decide +kernel
theorem dX5_image_77 : decode cX5_image 77 = .ok (.istore_n 1, 1) := by decide +kernel
theorem dX5_image_78 : decode cX5_image 78 = .ok (.iload_n 1, 1) := by decide +kernel
theorem dX5_image_79 : decode cX5_image 79 = .ok (.bipush 6, 2) := by decide +kernel
theorem dX5_image_81 : decode cX5_image 81 = .ok (.if_icmp .ge 45, 3) := by decide +kernel
theorem dX5_image_84 : decode cX5_image 84 = .ok (.aload_n 0, 1) := by decide +kernel
theorem dX5_image_85 : decode cX5_image 85 = .ok (.getfield 50, 3) := by decide +kernel
theorem dX5_image_88 : decode cX5_image 88 = .ok (.iload_n 1, 1) := by decide +kernel
theorem dX5_image_89 : decode cX5_image 89 = .ok (.aload_n 0, 1) := by decide +kernel
theorem dX5_image_90 : decode cX5_image 90 = .ok (.getfield 16, 3) := by decide +kernel
theorem dX5_image_93 : decode cX5_image 93 = .ok (.iload_n 1, 1) := by decide +kernel
theorem dX5_image_94 : decode cX5_image 94 = .ok (.iaload, 1) := by decide +kernel
theorem dX5_image_95 : decode cX5_image 95 = .ok (.iastore, 1) := by decide +kernel
theorem dX5_image_96 : decode cX5_image 96 = .ok (.aload_n 0, 1) := by decide +kernel
theorem dX5_image_97 : decode cX5_image 97 = .ok (.getfield 53, 3) := by decide +kernel
theorem dX5_image_100 : decode cX5_image 100 = .ok (.iload_n 1, 1) := by decide +kernel
theorem dX5_image_101 : decode cX5_image 101 = .ok (.aload_n 0, 1) := by decide +kernel
theorem dX5_image_102 : decode cX5_image 102 = .ok (.getfield 19, 3) := by decide +kernel
theorem dX5_image_105 : decode cX5_image 105 = .ok (.iload_n 1, 1) := by decide +kernel
theorem dX5_image_106 : decode cX5_image 106 = .ok (.iaload, 1) := by decide +kernel
theorem dX5_image_107 : decode cX5_image 107 = .ok (.iastore, 1) := by decide +kernel
theorem dX5_image_108 : decode cX5_image 108 = .ok (.aload_n 0, 1) := by decide +kernel
theorem dX5_image_109 : decode cX5_image 109 = .ok (.getfield 56, 3) := by decide +kernel
theorem dX5_image_112 : decode cX5_image 112 = .ok (.iload_n 1, 1) := by decide +kernel
theorem dX5_image_113 : decode cX5_image 113 = .ok (.aload_n 0, 1) := by decide +kernel
theorem dX5_image_114 : decode cX5_image 114 = .ok (.getfield 22, 3) := by decide +kernel
theorem dX5_image_117 : decode cX5_image 117 = .ok (.iload_n 1, 1) := by decide +kernel
theorem dX5_image_118 : decode cX5_image 118 = .ok (.iaload, 1) := by decide +kernel
theorem dX5_image_119 : decode cX5_image 119 = .ok (.iastore, 1) := by decide +kernel
theorem dX5_image_120 : decode cX5_image 120 = .ok (.iinc 1 1, 3) := by decide +kernel
theorem dX5_image_123 : decode cX5_image 123 = .ok (.goto (-45), 3) := by decide +kernel
theorem dX5_image_126 : decode cX5_image 126 = .ok (.aload_n 0, 1) := by decide +kernel
theorem dX5_image_127 : decode cX5_image 127 = .ok (.getfield 91, 3) := by decide +kernel
theorem dX5_image_130 : decode cX5_image 130 = .ok (.ireturn, 1) := by decide +kernel
theorem dX5_restore_0 : decode cX5_restore 0 = .ok (.aload_n 0, 1) := by decide +kernel
theorem dX5_restore_1 : decode cX5_restore 1 = .ok (.getfield 252, 3) := by decide +kernel
theorem dX5_restore_4 : decode cX5_restore 4 = .ok (.ifCond .eq 14, 3) := by decide +kernel
theorem dX5_restore_7 : decode cX5_restore 7 = .ok (.aload_n 0, 1) := by decide +kernel
theorem dX5_restore_8 : decode cX5_restore 8 = .ok (.getfield 255, 3) := by decide +kernel
theorem dX5_restore_11 : decode cX5_restore 11 = .ok (.aload_n 0, 1) := by decide +kernel
theorem dX5_restore_12 : decode cX5_restore 12 = .ok (.getfield 94, 3) := by decide +kernel
theorem dX5_restore_15 : decode cX5_restore 15 = .ok (.if_icmp .eq 6, 3) := by decide +kernel
theorem dX5_restore_18 : decode cX5_restore 18 = .ok (.bipush (-103), 2) := by decide +kernel
theorem dX5_restore_20 : decode cX5_restore 20 = .ok (.ireturn, 1) := by decide +kernel
theorem dX5_restore_21 : decode cX5_restore 21 = .ok (.aload_n 0, 1) := by decide +kernel
theorem dX5_restore_22 : decode cX5_restore 22 = .ok (.aload_n 0, 1) := by decide +kernel
theorem dX5_restore_23 : decode cX5_restore 23 = .ok (.getfield 258, 3) := by decide +kernel
theorem dX5_restore_26 : decode cX5_restore 26 = .ok (.putfield 91, 3) := by decide +kernel
theorem dX5_restore_29 : decode cX5_restore 29 = .ok (.aload_n 0, 1) := by decide +kernel
theorem dX5_restore_30 : decode cX5_restore 30 = .ok (.aload_n 0, 1) := by decide +kernel
theorem dX5_restore_31 : decode cX5_restore 31 = .ok (.getfield 261, 3) := by decide +kernel
theorem dX5_restore_34 : decode cX5_restore 34 = .ok (.putfield 97, 3) := by decide +kernel
theorem dX5_restore_37 : decode cX5_restore 37 = .ok (.iconst 0, 1) := by decide +kernel
theorem dX5_restore_38 : decode cX5_restore 38 = .ok (.istore_n 1, 1) := by decide +kernel
theorem dX5_restore_39 : decode cX5_restore 39 = .ok (.iload_n 1, 1) := by decide +kernel
theorem dX5_restore_40 : decode cX5_restore 40 = .ok (.iconst 3, 1) := by decide +kernel
theorem dX5_restore_41 : decode cX5_restore 41 = .ok (.if_icmp .ge 33, 3) := by decide +kernel
theorem dX5_restore_44 : decode cX5_restore 44 = .ok (.aload_n 0, 1) := by decide +kernel
theorem dX5_restore_45 : decode cX5_restore 45 = .ok (.getfield 7, 3) := by decide +kernel
theorem dX5_restore_48 : decode cX5_restore 48 = .ok (.iload_n 1, 1) := by decide +kernel
theorem dX5_restore_49 : decode cX5_restore 49 = .ok (.aload_n 0, 1) := by decide +kernel
theorem dX5_restore_50 : decode cX5_restore 50 = .ok (.getfield 44, 3) := by decide +kernel
theorem dX5_restore_53 : decode cX5_restore 53 = .ok (.iload_n 1, 1) := by decide +kernel
theorem dX5_restore_54 : decode cX5_restore 54 = .ok (.iaload, 1) := by decide +kernel
theorem dX5_restore_55 : decode cX5_restore 55 = .ok (.iastore, 1) := by decide +kernel
theorem dX5_restore_56 : decode cX5_restore 56 = .ok (.aload_n 0, 1) := by decide +kernel
theorem dX5_restore_57 : decode cX5_restore 57 = .ok (.getfield 13, 3) := by decide +kernel
theorem dX5_restore_60 : decode cX5_restore 60 = .ok (.iload_n 1, 1) := by decide +kernel
theorem dX5_restore_61 : decode cX5_restore 61 = .ok (.aload_n 0, 1) := by decide +kernel
theorem dX5_restore_62 : decode cX5_restore 62 = .ok (.getfield 47, 3) := by decide +kernel
theorem dX5_restore_65 : decode cX5_restore 65 = .ok (.iload_n 1, 1) := by decide +kernel
theorem dX5_restore_66 : decode cX5_restore 66 = .ok (.iaload, 1) := by decide +kernel
theorem dX5_restore_67 : decode cX5_restore 67 = .ok (.iastore, 1) := by decide +kernel
theorem dX5_restore_68 : decode cX5_restore 68 = .ok (.iinc 1 1, 3) := by decide +kernel
theorem dX5_restore_71 : decode cX5_restore 71 = .ok (.goto (-32), 3) := by decide +kernel
theorem dX5_restore_74 : decode cX5_restore 74 = .ok (.iconst 0, 1) := by decide +kernel
theorem dX5_restore_75 : decode cX5_restore 75 = .ok (.istore_n 1, 1) := by decide +kernel
theorem dX5_restore_76 : decode cX5_restore 76 = .ok (.iload_n 1, 1) := by decide +kernel
theorem dX5_restore_77 : decode cX5_restore 77 = .ok (.bipush 6, 2) := by decide +kernel
theorem dX5_restore_79 : decode cX5_restore 79 = .ok (.if_icmp .ge 45, 3) := by decide +kernel
theorem dX5_restore_82 : decode cX5_restore 82 = .ok (.aload_n 0, 1) := by decide +kernel
theorem dX5_restore_83 : decode cX5_restore 83 = .ok (.getfield 16, 3) := by decide +kernel
theorem dX5_restore_86 : decode cX5_restore 86 = .ok (.iload_n 1, 1) := by decide +kernel
theorem dX5_restore_87 : decode cX5_restore 87 = .ok (.aload_n 0, 1) := by decide +kernel
theorem dX5_restore_88 : decode cX5_restore 88 = .ok (.getfield 50, 3) := by decide +kernel
theorem dX5_restore_91 : decode cX5_restore 91 = .ok (.iload_n 1, 1) := by decide +kernel
theorem dX5_restore_92 : decode cX5_restore 92 = .ok (.iaload, 1) := by decide +kernel
theorem dX5_restore_93 : decode cX5_restore 93 = .ok (.iastore, 1) := by decide +kernel
theorem dX5_restore_94 : decode cX5_restore 94 = .ok (.aload_n 0, 1) := by decide +kernel
theorem dX5_restore_95 : decode cX5_restore 95 = .ok (.getfield 19, 3) := by decide +kernel
theorem dX5_restore_98 : decode cX5_restore 98 = .ok (.iload_n 1, 1) := by decide +kernel
theorem dX5_restore_99 : decode cX5_restore 99 = .ok (.aload_n 0, 1) := by decide +kernel
theorem dX5_restore_100 : decode cX5_restore 100 = .ok (.getfield 53, 3) := by decide +kernel
theorem dX5_restore_103 : decode cX5_restore 103 = .ok (.iload_n 1, 1) := by decide +kernel
theorem dX5_restore_104 : decode cX5_restore 104 = .ok (.iaload, 1) := by decide +kernel
theorem dX5_restore_105 : decode cX5_restore 105 = .ok (.iastore, 1) := by decide +kernel
theorem dX5_restore_106 : decode cX5_restore 106 = .ok (.aload_n 0, 1) := by decide +kernel
theorem dX5_restore_107 : decode cX5_restore 107 = .ok (.getfield 22, 3) := by decide +kernel
theorem dX5_restore_110 : decode cX5_restore 110 = .ok (.iload_n 1, 1) := by decide +kernel
theorem dX5_restore_111 : decode cX5_restore 111 = .ok (.aload_n 0, 1) := by decide +kernel
theorem dX5_restore_112 : decode cX5_restore 112 = .ok (.getfield 56, 3) := by decide +kernel
theorem dX5_restore_115 : decode cX5_restore 115 = .ok (.iload_n 1, 1) := by decide +kernel
theorem dX5_restore_116 : decode cX5_restore 116 = .ok (.iaload, 1) := by decide +kernel
theorem dX5_restore_117 : decode cX5_restore 117 = .ok (.iastore, 1) := by decide +kernel
theorem dX5_restore_118 : decode cX5_restore 118 = .ok (.iinc 1 1, 3) := by decide +kernel
theorem dX5_restore_121 : decode cX5_restore 121 = .ok (.goto (-45), 3) := by decide +kernel
theorem dX5_restore_124 : decode cX5_restore 124 = .ok (.aload_n 0, 1) := by decide +kernel
theorem dX5_restore_125 : decode cX5_restore 125 = .ok (.getfield 91, 3) := by decide +kernel
theorem dX5_restore_128 : decode cX5_restore 128 = .ok (.ireturn, 1) := by decide +kernel
set_option maxRecDepth 20000 in
theorem ggX5_colours_X5_side : GoodIn wsX5_colours wsX5_side := gdW wa_848 (by decide +kernel) (by decide +kernel)
set_option maxRecDepth 20000 in
theorem gX5_colours_X5_side : GoodIn wsX5_colours (va_wsS RX5 100 yX5_side wsX5_side) := (gd1 wa_846 (by decide +kernel) (gd1 wa_847 (by decide +kernel) (gd1 wa_5 (by decide +kernel) ggX5_colours_X5_side)))
set_option maxRecDepth 20000 in
theorem ggX5_colours_X5_size : GoodIn wsX5_colours wsX5_size := gdW wa_842 (by decide +kernel) (by decide +kernel)
set_option maxRecDepth 20000 in
theorem gX5_colours_X5_size : GoodIn wsX5_colours (va_wsS RX5 231 yX5_size wsX5_size) := (gd1 wa_840 (by decide +kernel) (gd1 wa_841 (by decide +kernel) (gd1 wa_5 (by decide +kernel) ggX5_colours_X5_size)))
theorem dX5_colours_0 : decode cX5_colours 0 = .ok (.iconst 0, 1) := by decide +kernel
theorem dX5_colours_1 : decode cX5_colours 1 = .ok (.istore_n 1, 1) := by decide +kernel
theorem dX5_colours_2 : decode cX5_colours 2 = .ok (.iconst 0, 1) := by decide +kernel
theorem dX5_colours_3 : decode cX5_colours 3 = .ok (.istore_n 2, 1) := by decide +kernel
theorem dX5_colours_4 : decode cX5_colours 4 = .ok (.iload_n 2, 1) := by decide +kernel
theorem dX5_colours_5 : decode cX5_colours 5 = .ok (.aload_n 0, 1) := by decide +kernel
theorem dX5_colours_6 : decode cX5_colours 6 = .ok (.getfield 88, 3) := by decide +kernel
theorem dX5_colours_9 : decode cX5_colours 9 = .ok (.if_icmp .ge 38, 3) := by decide +kernel
theorem dX5_colours_12 : decode cX5_colours 12 = .ok (.iconst 0, 1) := by decide +kernel
theorem dX5_colours_13 : decode cX5_colours 13 = .ok (.istore_n 3, 1) := by decide +kernel
theorem dX5_colours_14 : decode cX5_colours 14 = .ok (.iload_n 3, 1) := by decide +kernel
theorem dX5_colours_15 : decode cX5_colours 15 = .ok (.bipush 6, 2) := by decide +kernel
theorem dX5_colours_17 : decode cX5_colours 17 = .ok (.if_icmp .ge 24, 3) := by decide +kernel
theorem dX5_colours_20 : decode cX5_colours 20 = .ok (.iload_n 1, 1) := by decide +kernel
theorem dX5_colours_21 : decode cX5_colours 21 = .ok (.iconst 1, 1) := by decide +kernel
theorem dX5_colours_22 : decode cX5_colours 22 = .ok (.aload_n 0, 1) := by decide +kernel
theorem dX5_colours_23 : decode cX5_colours 23 = .ok (.getfield 13, 3) := by decide +kernel
theorem dX5_colours_26 : decode cX5_colours 26 = .ok (.iload_n 2, 1) := by decide +kernel
theorem dX5_colours_27 : decode cX5_colours 27 = .ok (.iaload, 1) := by decide +kernel
theorem dX5_colours_28 : decode cX5_colours 28 = .ok (.iload_n 3, 1) := by decide +kernel
theorem dX5_colours_29 : decode cX5_colours 29 = .ok (.invokestatic 100, 3) := by decide +kernel
theorem dX5_colours_32 : decode cX5_colours 32 = .ok (.ishl, 1) := by decide +kernel
theorem dX5_colours_33 : decode cX5_colours 33 = .ok (.ior, 1) := by decide +kernel
theorem dX5_colours_34 : decode cX5_colours 34 = .ok (.istore_n 1, 1) := by decide +kernel
theorem dX5_colours_35 : decode cX5_colours 35 = .ok (.iinc 3 1, 3) := by decide +kernel
theorem dX5_colours_38 : decode cX5_colours 38 = .ok (.goto (-24), 3) := by decide +kernel
theorem dX5_colours_41 : decode cX5_colours 41 = .ok (.iinc 2 1, 3) := by decide +kernel
theorem dX5_colours_44 : decode cX5_colours 44 = .ok (.goto (-40), 3) := by decide +kernel
theorem dX5_colours_47 : decode cX5_colours 47 = .ok (.iload_n 1, 1) := by decide +kernel
theorem dX5_colours_48 : decode cX5_colours 48 = .ok (.invokestatic 231, 3) := by decide +kernel
theorem dX5_colours_51 : decode cX5_colours 51 = .ok (.ireturn, 1) := by decide +kernel
set_option maxRecDepth 20000 in
theorem ggX5_goodWalls_X5_wallNow : GoodIn wsX5_goodWalls wsX5_wallNow := gdW wa_914 (by decide +kernel) (by decide +kernel)
set_option maxRecDepth 20000 in
theorem gX5_goodWalls_X5_wallNow : GoodIn wsX5_goodWalls (wsV RX5 141 RX5 yX5_wallNow wsX5_wallNow) := (gd1 wa_911 (by decide +kernel) (gd1 wa_912 (by decide +kernel) (gd1 wa_913 (by decide +kernel) (gd1 wa_5 (by decide +kernel) ggX5_goodWalls_X5_wallNow))))
theorem dX5_goodWalls_0 : decode cX5_goodWalls 0 = .ok (.iconst 0, 1) := by decide +kernel
theorem dX5_goodWalls_1 : decode cX5_goodWalls 1 = .ok (.istore_n 1, 1) := by decide +kernel
theorem dX5_goodWalls_2 : decode cX5_goodWalls 2 = .ok (.iconst 0, 1) := by decide +kernel
theorem dX5_goodWalls_3 : decode cX5_goodWalls 3 = .ok (.istore_n 2, 1) := by decide +kernel
theorem dX5_goodWalls_4 : decode cX5_goodWalls 4 = .ok (.iload_n 2, 1) := by decide +kernel
theorem dX5_goodWalls_5 : decode cX5_goodWalls 5 = .ok (.iconst 4, 1) := by decide +kernel
theorem dX5_goodWalls_6 : decode cX5_goodWalls 6 = .ok (.if_icmp .ge 25, 3) := by decide +kernel
theorem dX5_goodWalls_9 : decode cX5_goodWalls 9 = .ok (.aload_n 0, 1) := by decide +kernel
theorem dX5_goodWalls_10 : decode cX5_goodWalls 10 = .ok (.getfield 88, 3) := by decide +kernel
theorem dX5_goodWalls_13 : decode cX5_goodWalls 13 = .ok (.ifCond .le 18, 3) := by decide +kernel
theorem dX5_goodWalls_16 : decode cX5_goodWalls 16 = .ok (.iload_n 1, 1) := by decide +kernel
theorem dX5_goodWalls_17 : decode cX5_goodWalls 17 = .ok (.aload_n 0, 1) := by decide +kernel
theorem dX5_goodWalls_18 : decode cX5_goodWalls 18 = .ok (.iload_n 2, 1) := by decide +kernel
theorem dX5_goodWalls_19 : decode cX5_goodWalls 19 = .ok (.iconst 0, 1) := by decide +kernel
theorem dX5_goodWalls_20 : decode cX5_goodWalls 20 = .ok (.invokevirtual 141, 3) := by decide +kernel
theorem dX5_goodWalls_23 : decode cX5_goodWalls 23 = .ok (.iadd, 1) := by decide +kernel
theorem dX5_goodWalls_24 : decode cX5_goodWalls 24 = .ok (.istore_n 1, 1) := by decide +kernel
theorem dX5_goodWalls_25 : decode cX5_goodWalls 25 = .ok (.iinc 2 1, 3) := by decide +kernel
theorem dX5_goodWalls_28 : decode cX5_goodWalls 28 = .ok (.goto (-24), 3) := by decide +kernel
theorem dX5_goodWalls_31 : decode cX5_goodWalls 31 = .ok (.iload_n 1, 1) := by decide +kernel
theorem dX5_goodWalls_32 : decode cX5_goodWalls 32 = .ok (.ireturn, 1) := by decide +kernel
set_option maxRecDepth 20000 in
theorem ggX5_howMany_X5_clashes : GoodIn wsX5_howMany wsX5_clashes := gdW wa_1033 (by decide +kernel) (by decide +kernel)
set_option maxRecDepth 20000 in
theorem gX5_howMany_X5_clashes : GoodIn wsX5_howMany (wsV RX5 151 RX5 yX5_clashes wsX5_clashes) := (gd1 wa_1030 (by decide +kernel) (gd1 wa_1031 (by decide +kernel) (gd1 wa_1032 (by decide +kernel) (gd1 wa_5 (by decide +kernel) ggX5_howMany_X5_clashes))))
set_option maxRecDepth 20000 in
theorem ggX5_howMany_X5_goodWalls : GoodIn wsX5_howMany wsX5_goodWalls := gdW wa_1921 (by decide +kernel) (by decide +kernel)
set_option maxRecDepth 20000 in
theorem gX5_howMany_X5_goodWalls : GoodIn wsX5_howMany (wsV RX5 264 RX5 yX5_goodWalls wsX5_goodWalls) := (gd1 wa_1878 (by decide +kernel) (gd1 wa_1879 (by decide +kernel) (gd1 wa_1920 (by decide +kernel) (gd1 wa_5 (by decide +kernel) ggX5_howMany_X5_goodWalls))))
set_option maxRecDepth 20000 in
theorem ggX5_howMany_X5_colours : GoodIn wsX5_howMany wsX5_colours := gdW wa_1925 (by decide +kernel) (by decide +kernel)
set_option maxRecDepth 20000 in
theorem gX5_howMany_X5_colours : GoodIn wsX5_howMany (wsV RX5 267 RX5 yX5_colours wsX5_colours) := (gd1 wa_1922 (by decide +kernel) (gd1 wa_1923 (by decide +kernel) (gd1 wa_1924 (by decide +kernel) (gd1 wa_5 (by decide +kernel) ggX5_howMany_X5_colours))))
theorem dX5_howMany_0 : decode cX5_howMany 0 = .ok (.iload_n 1, 1) := by decide +kernel
theorem dX5_howMany_1 : decode cX5_howMany 1 = .ok (.tableswitch 96 0 8 #[51, 56, 61, 66, 71, 76, 81, 86, 91], 51) := by decide +kernel
theorem dX5_howMany_52 : decode cX5_howMany 52 = .ok (.aload_n 0, 1) := by decide +kernel
theorem dX5_howMany_53 : decode cX5_howMany 53 = .ok (.getfield 88, 3) := by decide +kernel
theorem dX5_howMany_56 : decode cX5_howMany 56 = .ok (.ireturn, 1) := by decide +kernel
theorem dX5_howMany_57 : decode cX5_howMany 57 = .ok (.aload_n 0, 1) := by decide +kernel
theorem dX5_howMany_58 : decode cX5_howMany 58 = .ok (.invokevirtual 151, 3) := by decide +kernel
theorem dX5_howMany_61 : decode cX5_howMany 61 = .ok (.ireturn, 1) := by decide +kernel
theorem dX5_howMany_62 : decode cX5_howMany 62 = .ok (.aload_n 0, 1) := by decide +kernel
theorem dX5_howMany_63 : decode cX5_howMany 63 = .ok (.invokevirtual 264, 3) := by decide +kernel
theorem dX5_howMany_66 : decode cX5_howMany 66 = .ok (.ireturn, 1) := by decide +kernel
theorem dX5_howMany_67 : decode cX5_howMany 67 = .ok (.aload_n 0, 1) := by decide +kernel
theorem dX5_howMany_68 : decode cX5_howMany 68 = .ok (.invokevirtual 267, 3) := by decide +kernel
theorem dX5_howMany_71 : decode cX5_howMany 71 = .ok (.ireturn, 1) := by decide +kernel
theorem dX5_howMany_72 : decode cX5_howMany 72 = .ok (.aload_n 0, 1) := by decide +kernel
theorem dX5_howMany_73 : decode cX5_howMany 73 = .ok (.getfield 91, 3) := by decide +kernel
theorem dX5_howMany_76 : decode cX5_howMany 76 = .ok (.ireturn, 1) := by decide +kernel
theorem dX5_howMany_77 : decode cX5_howMany 77 = .ok (.aload_n 0, 1) := by decide +kernel
theorem dX5_howMany_78 : decode cX5_howMany 78 = .ok (.getfield 97, 3) := by decide +kernel
theorem dX5_howMany_81 : decode cX5_howMany 81 = .ok (.ireturn, 1) := by decide +kernel
theorem dX5_howMany_82 : decode cX5_howMany 82 = .ok (.aload_n 0, 1) := by decide +kernel
theorem dX5_howMany_83 : decode cX5_howMany 83 = .ok (.getfield 63, 3) := by decide +kernel
theorem dX5_howMany_86 : decode cX5_howMany 86 = .ok (.ireturn, 1) := by decide +kernel
theorem dX5_howMany_87 : decode cX5_howMany 87 = .ok (.aload_n 0, 1) := by decide +kernel
theorem dX5_howMany_88 : decode cX5_howMany 88 = .ok (.getfield 94, 3) := by decide +kernel
theorem dX5_howMany_91 : decode cX5_howMany 91 = .ok (.ireturn, 1) := by decide +kernel
theorem dX5_howMany_92 : decode cX5_howMany 92 = .ok (.aload_n 0, 1) := by decide +kernel
theorem dX5_howMany_93 : decode cX5_howMany 93 = .ok (.getfield 216, 3) := by decide +kernel
theorem dX5_howMany_96 : decode cX5_howMany 96 = .ok (.ireturn, 1) := by decide +kernel
theorem dX5_howMany_97 : decode cX5_howMany 97 = .ok (.bipush (-102), 2) := by decide +kernel
theorem dX5_howMany_99 : decode cX5_howMany 99 = .ok (.ireturn, 1) := by decide +kernel
set_option maxRecDepth 20000 in
theorem ggX5_count_X5_howMany : GoodIn wsX5_count wsX5_howMany := gdW wa_1877 (by decide +kernel) (by decide +kernel)
set_option maxRecDepth 20000 in
theorem gX5_count_X5_howMany : GoodIn wsX5_count (wsV RX5 270 RX5 yX5_howMany wsX5_howMany) := (gd1 wa_1874 (by decide +kernel) (gd1 wa_1875 (by decide +kernel) (gd1 wa_1876 (by decide +kernel) (gd1 wa_5 (by decide +kernel) ggX5_count_X5_howMany))))
theorem dX5_count_0 : decode cX5_count 0 = .ok (.aload_n 0, 1) := by decide +kernel
theorem dX5_count_1 : decode cX5_count 1 = .ok (.iload_n 1, 1) := by decide +kernel
theorem dX5_count_2 : decode cX5_count 2 = .ok (.invokevirtual 270, 3) := by decide +kernel
theorem dX5_count_5 : decode cX5_count 5 = .ok (.ireturn, 1) := by decide +kernel
theorem dX5_mix_0 : decode cX5_mix 0 = .ok (.aload_n 0, 1) := by decide +kernel
theorem dX5_mix_1 : decode cX5_mix 1 = .ok (.ldc2_w 273, 3) := by decide +kernel
theorem dX5_mix_4 : decode cX5_mix 4 = .ok (.aload_n 0, 1) := by decide +kernel
theorem dX5_mix_5 : decode cX5_mix 5 = .ok (.getfield 275, 3) := by decide +kernel
theorem dX5_mix_8 : decode cX5_mix 8 = .ok (.lmul, 1) := by decide +kernel
theorem dX5_mix_9 : decode cX5_mix 9 = .ok (.lload_n 1, 1) := by decide +kernel
theorem dX5_mix_10 : decode cX5_mix 10 = .ok (.ladd, 1) := by decide +kernel
theorem dX5_mix_11 : decode cX5_mix 11 = .ok (.putfield 275, 3) := by decide +kernel
theorem dX5_mix_14 : decode cX5_mix 14 = .ok (.return_, 1) := by decide +kernel
set_option maxRecDepth 20000 in
theorem ggX5_mixTower_X5_wallNow : GoodIn wsX5_mixTower wsX5_wallNow := gdW wa_914 (by decide +kernel) (by decide +kernel)
set_option maxRecDepth 20000 in
theorem gX5_mixTower_X5_wallNow : GoodIn wsX5_mixTower (wsV RX5 141 RX5 yX5_wallNow wsX5_wallNow) := (gd1 wa_911 (by decide +kernel) (gd1 wa_912 (by decide +kernel) (gd1 wa_913 (by decide +kernel) (gd1 wa_5 (by decide +kernel) ggX5_mixTower_X5_wallNow))))
set_option maxRecDepth 20000 in
theorem ggX5_mixTower_X5_mix : GoodIn wsX5_mixTower wsX5_mix := gdW wa_1995 (by decide +kernel) (by decide +kernel)
set_option maxRecDepth 20000 in
theorem gX5_mixTower_X5_mix : GoodIn wsX5_mixTower (wsV RX5 278 RX5 yX5_mix wsX5_mix) := (gd1 wa_1992 (by decide +kernel) (gd1 wa_1993 (by decide +kernel) (gd1 wa_1994 (by decide +kernel) (gd1 wa_5 (by decide +kernel) ggX5_mixTower_X5_mix))))
set_option maxRecDepth 20000 in
theorem ggX5_mixTower_X5_waysNow : GoodIn wsX5_mixTower wsX5_waysNow := gdW wa_1236 (by decide +kernel) (by decide +kernel)
set_option maxRecDepth 20000 in
theorem gX5_mixTower_X5_waysNow : GoodIn wsX5_mixTower (wsV RX5 198 RX5 yX5_waysNow wsX5_waysNow) := (gd1 wa_1233 (by decide +kernel) (gd1 wa_1234 (by decide +kernel) (gd1 wa_1235 (by decide +kernel) (gd1 wa_5 (by decide +kernel) ggX5_mixTower_X5_waysNow))))
set_option maxRecDepth 20000 in
theorem ggX5_mixTower_X5_turningNow : GoodIn wsX5_mixTower wsX5_turningNow := gdW wa_1425 (by decide +kernel) (by decide +kernel)
set_option maxRecDepth 20000 in
theorem gX5_mixTower_X5_turningNow : GoodIn wsX5_mixTower (wsV RX5 210 RX5 yX5_turningNow wsX5_turningNow) := (gd1 wa_1422 (by decide +kernel) (gd1 wa_1423 (by decide +kernel) (gd1 wa_1424 (by decide +kernel) (gd1 wa_5 (by decide +kernel) ggX5_mixTower_X5_turningNow))))
set_option maxRecDepth 20000 in
theorem ggX5_mixTower_X5_oddsNow : GoodIn wsX5_mixTower wsX5_oddsNow := gdW wa_1615 (by decide +kernel) (by decide +kernel)
set_option maxRecDepth 20000 in
theorem gX5_mixTower_X5_oddsNow : GoodIn wsX5_mixTower (wsV RX5 225 RX5 yX5_oddsNow wsX5_oddsNow) := (gd1 wa_1612 (by decide +kernel) (gd1 wa_1613 (by decide +kernel) (gd1 wa_1614 (by decide +kernel) (gd1 wa_5 (by decide +kernel) ggX5_mixTower_X5_oddsNow))))
theorem dX5_mixTower_0 : decode cX5_mixTower 0 = .ok (.iconst 0, 1) := by decide +kernel
theorem dX5_mixTower_1 : decode cX5_mixTower 1 = .ok (.istore_n 1, 1) := by decide +kernel
theorem dX5_mixTower_2 : decode cX5_mixTower 2 = .ok (.iload_n 1, 1) := by decide +kernel
theorem dX5_mixTower_3 : decode cX5_mixTower 3 = .ok (.iconst 4, 1) := by decide +kernel
theorem dX5_mixTower_4 : decode cX5_mixTower 4 = .ok (.if_icmp .ge 31, 3) := by decide +kernel
theorem dX5_mixTower_7 : decode cX5_mixTower 7 = .ok (.aload_n 0, 1) := by decide +kernel
theorem dX5_mixTower_8 : decode cX5_mixTower 8 = .ok (.aload_n 0, 1) := by decide +kernel
theorem dX5_mixTower_9 : decode cX5_mixTower 9 = .ok (.iload_n 1, 1) := by decide +kernel
theorem dX5_mixTower_10 : decode cX5_mixTower 10 = .ok (.iconst 0, 1) := by decide +kernel
theorem dX5_mixTower_11 : decode cX5_mixTower 11 = .ok (.invokevirtual 141, 3) := by decide +kernel
theorem dX5_mixTower_14 : decode cX5_mixTower 14 = .ok (.i2l, 1) := by decide +kernel
theorem dX5_mixTower_15 : decode cX5_mixTower 15 = .ok (.invokevirtual 278, 3) := by decide +kernel
theorem dX5_mixTower_18 : decode cX5_mixTower 18 = .ok (.aload_n 0, 1) := by decide +kernel
theorem dX5_mixTower_19 : decode cX5_mixTower 19 = .ok (.aload_n 0, 1) := by decide +kernel
theorem dX5_mixTower_20 : decode cX5_mixTower 20 = .ok (.iload_n 1, 1) := by decide +kernel
theorem dX5_mixTower_21 : decode cX5_mixTower 21 = .ok (.iconst 1, 1) := by decide +kernel
theorem dX5_mixTower_22 : decode cX5_mixTower 22 = .ok (.invokevirtual 141, 3) := by decide +kernel
theorem dX5_mixTower_25 : decode cX5_mixTower 25 = .ok (.i2l, 1) := by decide +kernel
theorem dX5_mixTower_26 : decode cX5_mixTower 26 = .ok (.invokevirtual 278, 3) := by decide +kernel
theorem dX5_mixTower_29 : decode cX5_mixTower 29 = .ok (.iinc 1 1, 3) := by decide +kernel
theorem dX5_mixTower_32 : decode cX5_mixTower 32 = .ok (.goto (-30), 3) := by decide +kernel
theorem dX5_mixTower_35 : decode cX5_mixTower 35 = .ok (.iconst 0, 1) := by decide +kernel
theorem dX5_mixTower_36 : decode cX5_mixTower 36 = .ok (.istore_n 1, 1) := by decide +kernel
theorem dX5_mixTower_37 : decode cX5_mixTower 37 = .ok (.iload_n 1, 1) := by decide +kernel
theorem dX5_mixTower_38 : decode cX5_mixTower 38 = .ok (.iconst 2, 1) := by decide +kernel
theorem dX5_mixTower_39 : decode cX5_mixTower 39 = .ok (.if_icmp .ge 19, 3) := by decide +kernel
theorem dX5_mixTower_42 : decode cX5_mixTower 42 = .ok (.aload_n 0, 1) := by decide +kernel
theorem dX5_mixTower_43 : decode cX5_mixTower 43 = .ok (.aload_n 0, 1) := by decide +kernel
theorem dX5_mixTower_44 : decode cX5_mixTower 44 = .ok (.iload_n 1, 1) := by decide +kernel
theorem dX5_mixTower_45 : decode cX5_mixTower 45 = .ok (.invokevirtual 198, 3) := by decide +kernel
theorem dX5_mixTower_48 : decode cX5_mixTower 48 = .ok (.i2l, 1) := by decide +kernel
theorem dX5_mixTower_49 : decode cX5_mixTower 49 = .ok (.invokevirtual 278, 3) := by decide +kernel
theorem dX5_mixTower_52 : decode cX5_mixTower 52 = .ok (.iinc 1 1, 3) := by decide +kernel
theorem dX5_mixTower_55 : decode cX5_mixTower 55 = .ok (.goto (-18), 3) := by decide +kernel
theorem dX5_mixTower_58 : decode cX5_mixTower 58 = .ok (.iconst 0, 1) := by decide +kernel
theorem dX5_mixTower_59 : decode cX5_mixTower 59 = .ok (.istore_n 1, 1) := by decide +kernel
theorem dX5_mixTower_60 : decode cX5_mixTower 60 = .ok (.iload_n 1, 1) := by decide +kernel
theorem dX5_mixTower_61 : decode cX5_mixTower 61 = .ok (.iconst 2, 1) := by decide +kernel
theorem dX5_mixTower_62 : decode cX5_mixTower 62 = .ok (.if_icmp .ge 19, 3) := by decide +kernel
theorem dX5_mixTower_65 : decode cX5_mixTower 65 = .ok (.aload_n 0, 1) := by decide +kernel
theorem dX5_mixTower_66 : decode cX5_mixTower 66 = .ok (.aload_n 0, 1) := by decide +kernel
theorem dX5_mixTower_67 : decode cX5_mixTower 67 = .ok (.iload_n 1, 1) := by decide +kernel
theorem dX5_mixTower_68 : decode cX5_mixTower 68 = .ok (.invokevirtual 210, 3) := by decide +kernel
theorem dX5_mixTower_71 : decode cX5_mixTower 71 = .ok (.i2l, 1) := by decide +kernel
theorem dX5_mixTower_72 : decode cX5_mixTower 72 = .ok (.invokevirtual 278, 3) := by decide +kernel
theorem dX5_mixTower_75 : decode cX5_mixTower 75 = .ok (.iinc 1 1, 3) := by decide +kernel
theorem dX5_mixTower_78 : decode cX5_mixTower 78 = .ok (.goto (-18), 3) := by decide +kernel
theorem dX5_mixTower_81 : decode cX5_mixTower 81 = .ok (.aload_n 0, 1) := by decide +kernel
theorem dX5_mixTower_82 : decode cX5_mixTower 82 = .ok (.aload_n 0, 1) := by decide +kernel
theorem dX5_mixTower_83 : decode cX5_mixTower 83 = .ok (.iconst 0, 1) := by decide +kernel
theorem dX5_mixTower_84 : decode cX5_mixTower 84 = .ok (.invokevirtual 225, 3) := by decide +kernel
theorem dX5_mixTower_87 : decode cX5_mixTower 87 = .ok (.i2l, 1) := by decide +kernel
theorem dX5_mixTower_88 : decode cX5_mixTower 88 = .ok (.invokevirtual 278, 3) := by decide +kernel
theorem dX5_mixTower_91 : decode cX5_mixTower 91 = .ok (.aload_n 0, 1) := by decide +kernel
theorem dX5_mixTower_92 : decode cX5_mixTower 92 = .ok (.aload_n 0, 1) := by decide +kernel
theorem dX5_mixTower_93 : decode cX5_mixTower 93 = .ok (.iconst 1, 1) := by decide +kernel
theorem dX5_mixTower_94 : decode cX5_mixTower 94 = .ok (.invokevirtual 225, 3) := by decide +kernel
theorem dX5_mixTower_97 : decode cX5_mixTower 97 = .ok (.i2l, 1) := by decide +kernel
theorem dX5_mixTower_98 : decode cX5_mixTower 98 = .ok (.invokevirtual 278, 3) := by decide +kernel
theorem dX5_mixTower_101 : decode cX5_mixTower 101 = .ok (.return_, 1) := by decide +kernel
set_option maxRecDepth 20000 in
theorem ggX5_digest_X5_cubeNow : GoodIn wsX5_digest wsX5_cubeNow := gdW wa_781 (by decide +kernel) (by decide +kernel)
set_option maxRecDepth 20000 in
theorem gX5_digest_X5_cubeNow : GoodIn wsX5_digest (wsV RX5 127 RX5 yX5_cubeNow wsX5_cubeNow) := (gd1 wa_778 (by decide +kernel) (gd1 wa_779 (by decide +kernel) (gd1 wa_780 (by decide +kernel) (gd1 wa_5 (by decide +kernel) ggX5_digest_X5_cubeNow))))
set_option maxRecDepth 20000 in
theorem ggX5_digest_X5_mix : GoodIn wsX5_digest wsX5_mix := gdW wa_1995 (by decide +kernel) (by decide +kernel)
set_option maxRecDepth 20000 in
theorem gX5_digest_X5_mix : GoodIn wsX5_digest (wsV RX5 278 RX5 yX5_mix wsX5_mix) := (gd1 wa_1992 (by decide +kernel) (gd1 wa_1993 (by decide +kernel) (gd1 wa_1994 (by decide +kernel) (gd1 wa_5 (by decide +kernel) ggX5_digest_X5_mix))))
set_option maxRecDepth 20000 in
theorem ggX5_digest_X5_mixTower : GoodIn wsX5_digest wsX5_mixTower := gdW wa_2000 (by decide +kernel) (by decide +kernel)
set_option maxRecDepth 20000 in
theorem gX5_digest_X5_mixTower : GoodIn wsX5_digest (wsV RX5 284 RX5 yX5_mixTower wsX5_mixTower) := (gd1 wa_1997 (by decide +kernel) (gd1 wa_1998 (by decide +kernel) (gd1 wa_1999 (by decide +kernel) (gd1 wa_5 (by decide +kernel) ggX5_digest_X5_mixTower))))
set_option maxRecDepth 20000 in
theorem ggX5_digest_X5_howMany : GoodIn wsX5_digest wsX5_howMany := gdW wa_1877 (by decide +kernel) (by decide +kernel)
set_option maxRecDepth 20000 in
theorem gX5_digest_X5_howMany : GoodIn wsX5_digest (wsV RX5 270 RX5 yX5_howMany wsX5_howMany) := (gd1 wa_1874 (by decide +kernel) (gd1 wa_1875 (by decide +kernel) (gd1 wa_1876 (by decide +kernel) (gd1 wa_5 (by decide +kernel) ggX5_digest_X5_howMany))))
theorem dX5_digest_0 : decode cX5_digest 0 = .ok (.aload_n 0, 1) := by decide +kernel
theorem dX5_digest_1 : decode cX5_digest 1 = .ok (.ldc2_w 282, 3) := by decide +kernel
theorem dX5_digest_4 : decode cX5_digest 4 = .ok (.putfield 275, 3) := by decide +kernel
theorem dX5_digest_7 : decode cX5_digest 7 = .ok (.iconst 0, 1) := by decide +kernel
theorem dX5_digest_8 : decode cX5_digest 8 = .ok (.istore_n 1, 1) := by decide +kernel
theorem dX5_digest_9 : decode cX5_digest 9 = .ok (.iload_n 1, 1) := by decide +kernel
theorem dX5_digest_10 : decode cX5_digest 10 = .ok (.aload_n 0, 1) := by decide +kernel
theorem dX5_digest_11 : decode cX5_digest 11 = .ok (.getfield 88, 3) := by decide +kernel
theorem dX5_digest_14 : decode cX5_digest 14 = .ok (.if_icmp .ge 59, 3) := by decide +kernel
theorem dX5_digest_17 : decode cX5_digest 17 = .ok (.iconst 0, 1) := by decide +kernel
theorem dX5_digest_18 : decode cX5_digest 18 = .ok (.istore_n 2, 1) := by decide +kernel
theorem dX5_digest_19 : decode cX5_digest 19 = .ok (.iload_n 2, 1) := by decide +kernel
theorem dX5_digest_20 : decode cX5_digest 20 = .ok (.iconst 5, 1) := by decide +kernel
theorem dX5_digest_21 : decode cX5_digest 21 = .ok (.if_icmp .ge 20, 3) := by decide +kernel
theorem dX5_digest_24 : decode cX5_digest 24 = .ok (.aload_n 0, 1) := by decide +kernel
theorem dX5_digest_25 : decode cX5_digest 25 = .ok (.aload_n 0, 1) := by decide +kernel
theorem dX5_digest_26 : decode cX5_digest 26 = .ok (.iload_n 1, 1) := by decide +kernel
theorem dX5_digest_27 : decode cX5_digest 27 = .ok (.iload_n 2, 1) := by decide +kernel
theorem dX5_digest_28 : decode cX5_digest 28 = .ok (.invokevirtual 127, 3) := by decide +kernel
theorem dX5_digest_31 : decode cX5_digest 31 = .ok (.i2l, 1) := by decide +kernel
theorem dX5_digest_32 : decode cX5_digest 32 = .ok (.invokevirtual 278, 3) := by decide +kernel
theorem dX5_digest_35 : decode cX5_digest 35 = .ok (.iinc 2 1, 3) := by decide +kernel
theorem dX5_digest_38 : decode cX5_digest 38 = .ok (.goto (-19), 3) := by decide +kernel
theorem dX5_digest_41 : decode cX5_digest 41 = .ok (.bipush 10, 2) := by decide +kernel
theorem dX5_digest_43 : decode cX5_digest 43 = .ok (.istore_n 2, 1) := by decide +kernel
theorem dX5_digest_44 : decode cX5_digest 44 = .ok (.iload_n 2, 1) := by decide +kernel
theorem dX5_digest_45 : decode cX5_digest 45 = .ok (.bipush 16, 2) := by decide +kernel
theorem dX5_digest_47 : decode cX5_digest 47 = .ok (.if_icmp .ge 20, 3) := by decide +kernel
theorem dX5_digest_50 : decode cX5_digest 50 = .ok (.aload_n 0, 1) := by decide +kernel
theorem dX5_digest_51 : decode cX5_digest 51 = .ok (.aload_n 0, 1) := by decide +kernel
theorem dX5_digest_52 : decode cX5_digest 52 = .ok (.iload_n 1, 1) := by decide +kernel
theorem dX5_digest_53 : decode cX5_digest 53 = .ok (.iload_n 2, 1) := by decide +kernel
theorem dX5_digest_54 : decode cX5_digest 54 = .ok (.invokevirtual 127, 3) := by decide +kernel
theorem dX5_digest_57 : decode cX5_digest 57 = .ok (.i2l, 1) := by decide +kernel
theorem dX5_digest_58 : decode cX5_digest 58 = .ok (.invokevirtual 278, 3) := by decide +kernel
theorem dX5_digest_61 : decode cX5_digest 61 = .ok (.iinc 2 1, 3) := by decide +kernel
theorem dX5_digest_64 : decode cX5_digest 64 = .ok (.goto (-20), 3) := by decide +kernel
theorem dX5_digest_67 : decode cX5_digest 67 = .ok (.iinc 1 1, 3) := by decide +kernel
theorem dX5_digest_70 : decode cX5_digest 70 = .ok (.goto (-61), 3) := by decide +kernel
theorem dX5_digest_73 : decode cX5_digest 73 = .ok (.aload_n 0, 1) := by decide +kernel
theorem dX5_digest_74 : decode cX5_digest 74 = .ok (.getfield 88, 3) := by decide +kernel
theorem dX5_digest_77 : decode cX5_digest 77 = .ok (.ifCond .le 7, 3) := by decide +kernel
theorem dX5_digest_80 : decode cX5_digest 80 = .ok (.aload_n 0, 1) := by decide +kernel
theorem dX5_digest_81 : decode cX5_digest 81 = .ok (.invokevirtual 284, 3) := by decide +kernel
theorem dX5_digest_84 : decode cX5_digest 84 = .ok (.iconst 0, 1) := by decide +kernel
theorem dX5_digest_85 : decode cX5_digest 85 = .ok (.istore_n 1, 1) := by decide +kernel
theorem dX5_digest_86 : decode cX5_digest 86 = .ok (.iload_n 1, 1) := by decide +kernel
theorem dX5_digest_87 : decode cX5_digest 87 = .ok (.aload_n 0, 1) := by decide +kernel
theorem dX5_digest_88 : decode cX5_digest 88 = .ok (.getfield 63, 3) := by decide +kernel
theorem dX5_digest_91 : decode cX5_digest 91 = .ok (.if_icmp .ge 20, 3) := by decide +kernel
theorem dX5_digest_94 : decode cX5_digest 94 = .ok (.aload_n 0, 1) := by decide +kernel
theorem dX5_digest_95 : decode cX5_digest 95 = .ok (.aload_n 0, 1) := by decide +kernel
theorem dX5_digest_96 : decode cX5_digest 96 = .ok (.getfield 25, 3) := by decide +kernel
theorem dX5_digest_99 : decode cX5_digest 99 = .ok (.iload_n 1, 1) := by decide +kernel
theorem dX5_digest_100 : decode cX5_digest 100 = .ok (.baload, 1) := by decide +kernel
theorem dX5_digest_101 : decode cX5_digest 101 = .ok (.i2l, 1) := by decide +kernel
theorem dX5_digest_102 : decode cX5_digest 102 = .ok (.invokevirtual 278, 3) := by decide +kernel
theorem dX5_digest_105 : decode cX5_digest 105 = .ok (.iinc 1 1, 3) := by decide +kernel
theorem dX5_digest_108 : decode cX5_digest 108 = .ok (.goto (-22), 3) := by decide +kernel
theorem dX5_digest_111 : decode cX5_digest 111 = .ok (.iconst 0, 1) := by decide +kernel
theorem dX5_digest_112 : decode cX5_digest 112 = .ok (.istore_n 1, 1) := by decide +kernel
theorem dX5_digest_113 : decode cX5_digest 113 = .ok (.iload_n 1, 1) := by decide +kernel
theorem dX5_digest_114 : decode cX5_digest 114 = .ok (.bipush 9, 2) := by decide +kernel
theorem dX5_digest_116 : decode cX5_digest 116 = .ok (.if_icmp .ge 19, 3) := by decide +kernel
theorem dX5_digest_119 : decode cX5_digest 119 = .ok (.aload_n 0, 1) := by decide +kernel
theorem dX5_digest_120 : decode cX5_digest 120 = .ok (.aload_n 0, 1) := by decide +kernel
theorem dX5_digest_121 : decode cX5_digest 121 = .ok (.iload_n 1, 1) := by decide +kernel
theorem dX5_digest_122 : decode cX5_digest 122 = .ok (.invokevirtual 270, 3) := by decide +kernel
theorem dX5_digest_125 : decode cX5_digest 125 = .ok (.i2l, 1) := by decide +kernel
theorem dX5_digest_126 : decode cX5_digest 126 = .ok (.invokevirtual 278, 3) := by decide +kernel
theorem dX5_digest_129 : decode cX5_digest 129 = .ok (.iinc 1 1, 3) := by decide +kernel
theorem dX5_digest_132 : decode cX5_digest 132 = .ok (.goto (-19), 3) := by decide +kernel
theorem dX5_digest_135 : decode cX5_digest 135 = .ok (.aload_n 0, 1) := by decide +kernel
theorem dX5_digest_136 : decode cX5_digest 136 = .ok (.getfield 275, 3) := by decide +kernel
theorem dX5_digest_139 : decode cX5_digest 139 = .ok (.lreturn, 1) := by decide +kernel
