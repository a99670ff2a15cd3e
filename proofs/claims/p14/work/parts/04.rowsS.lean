set_option maxRecDepth 20000 in
theorem ggX1_init_X3_init : GoodIn wsX1_init wsX3_init := gdW wa_129 (by decide +kernel) (by decide +kernel)
set_option maxRecDepth 20000 in
theorem gX1_init_X3_init : GoodIn wsX1_init (wsX3_init) := ggX1_init_X3_init
theorem dX1_init_0 : decode cX1_init 0 = .ok (.aload_n 0, 1) := by decide +kernel
theorem dX1_init_1 : decode cX1_init 1 = .ok (.invokespecial 3, 3) := by decide +kernel
theorem dX1_init_4 : decode cX1_init 4 = .ok (.aload_n 0, 1) := by decide +kernel
theorem dX1_init_5 : decode cX1_init 5 = .ok (.iconst 5, 1) := by decide +kernel
theorem dX1_init_6 : decode cX1_init 6 = .ok (.anewarray 9, 3) := by decide +kernel
theorem dX1_init_9 : decode cX1_init 9 = .ok (.dup, 1) := by decide +kernel
theorem dX1_init_10 : decode cX1_init 10 = .ok (.iconst 0, 1) := by decide +kernel
theorem dX1_init_11 : decode cX1_init 11 = .ok (.new 9, 3) := by decide +kernel
theorem dX1_init_14 : decode cX1_init 14 = .ok (.dup, 1) := by decide +kernel
theorem dX1_init_15 : decode cX1_init 15 = .ok (.iconst 0, 1) := by decide +kernel
theorem dX1_init_16 : decode cX1_init 16 = .ok (.invokespecial 11, 3) := by decide +kernel
theorem dX1_init_19 : decode cX1_init 19 = .ok (.aastore, 1) := by decide +kernel
theorem dX1_init_20 : decode cX1_init 20 = .ok (.dup, 1) := by decide +kernel
theorem dX1_init_21 : decode cX1_init 21 = .ok (.iconst 1, 1) := by decide +kernel
theorem dX1_init_22 : decode cX1_init 22 = .ok (.new 9, 3) := by decide +kernel
theorem dX1_init_25 : decode cX1_init 25 = .ok (.dup, 1) := by decide +kernel
theorem dX1_init_26 : decode cX1_init 26 = .ok (.iconst 1, 1) := by decide +kernel
theorem dX1_init_27 : decode cX1_init 27 = .ok (.invokespecial 11, 3) := by decide +kernel
theorem dX1_init_30 : decode cX1_init 30 = .ok (.aastore, 1) := by decide +kernel
theorem dX1_init_31 : decode cX1_init 31 = .ok (.dup, 1) := by decide +kernel
theorem dX1_init_32 : decode cX1_init 32 = .ok (.iconst 2, 1) := by decide +kernel
theorem dX1_init_33 : decode cX1_init 33 = .ok (.new 9, 3) := by decide +kernel
theorem dX1_init_36 : decode cX1_init 36 = .ok (.dup, 1) := by decide +kernel
theorem dX1_init_37 : decode cX1_init 37 = .ok (.iconst 2, 1) := by decide +kernel
theorem dX1_init_38 : decode cX1_init 38 = .ok (.invokespecial 11, 3) := by decide +kernel
theorem dX1_init_41 : decode cX1_init 41 = .ok (.aastore, 1) := by decide +kernel
theorem dX1_init_42 : decode cX1_init 42 = .ok (.dup, 1) := by decide +kernel
theorem dX1_init_43 : decode cX1_init 43 = .ok (.iconst 3, 1) := by decide +kernel
theorem dX1_init_44 : decode cX1_init 44 = .ok (.new 9, 3) := by decide +kernel
theorem dX1_init_47 : decode cX1_init 47 = .ok (.dup, 1) := by decide +kernel
theorem dX1_init_48 : decode cX1_init 48 = .ok (.iconst 3, 1) := by decide +kernel
theorem dX1_init_49 : decode cX1_init 49 = .ok (.invokespecial 11, 3) := by decide +kernel
theorem dX1_init_52 : decode cX1_init 52 = .ok (.aastore, 1) := by decide +kernel
theorem dX1_init_53 : decode cX1_init 53 = .ok (.dup, 1) := by decide +kernel
theorem dX1_init_54 : decode cX1_init 54 = .ok (.iconst 4, 1) := by decide +kernel
theorem dX1_init_55 : decode cX1_init 55 = .ok (.new 9, 3) := by decide +kernel
theorem dX1_init_58 : decode cX1_init 58 = .ok (.dup, 1) := by decide +kernel
theorem dX1_init_59 : decode cX1_init 59 = .ok (.iconst 4, 1) := by decide +kernel
theorem dX1_init_60 : decode cX1_init 60 = .ok (.invokespecial 11, 3) := by decide +kernel
theorem dX1_init_63 : decode cX1_init 63 = .ok (.aastore, 1) := by decide +kernel
theorem dX1_init_64 : decode cX1_init 64 = .ok (.putfield 14, 3) := by decide +kernel
theorem dX1_init_67 : decode cX1_init 67 = .ok (.aload_n 0, 1) := by decide +kernel
theorem dX1_init_68 : decode cX1_init 68 = .ok (.iconst 3, 1) := by decide +kernel
theorem dX1_init_69 : decode cX1_init 69 = .ok (.anewarray 9, 3) := by decide +kernel
theorem dX1_init_72 : decode cX1_init 72 = .ok (.dup, 1) := by decide +kernel
theorem dX1_init_73 : decode cX1_init 73 = .ok (.iconst 0, 1) := by decide +kernel
theorem dX1_init_74 : decode cX1_init 74 = .ok (.aload_n 0, 1) := by decide +kernel
theorem dX1_init_75 : decode cX1_init 75 = .ok (.getfield 14, 3) := by decide +kernel
theorem dX1_init_78 : decode cX1_init 78 = .ok (.iconst 3, 1) := by decide +kernel
theorem dX1_init_79 : decode cX1_init 79 = .ok (.aaload, 1) := by decide +kernel
theorem dX1_init_80 : decode cX1_init 80 = .ok (.aastore, 1) := by decide +kernel
theorem dX1_init_81 : decode cX1_init 81 = .ok (.dup, 1) := by decide +kernel
theorem dX1_init_82 : decode cX1_init 82 = .ok (.iconst 1, 1) := by decide +kernel
theorem dX1_init_83 : decode cX1_init 83 = .ok (.aload_n 0, 1) := by decide +kernel
theorem dX1_init_84 : decode cX1_init 84 = .ok (.getfield 14, 3) := by decide +kernel
theorem dX1_init_87 : decode cX1_init 87 = .ok (.iconst 3, 1) := by decide +kernel
theorem dX1_init_88 : decode cX1_init 88 = .ok (.aaload, 1) := by decide +kernel
theorem dX1_init_89 : decode cX1_init 89 = .ok (.aastore, 1) := by decide +kernel
theorem dX1_init_90 : decode cX1_init 90 = .ok (.dup, 1) := by decide +kernel
theorem dX1_init_91 : decode cX1_init 91 = .ok (.iconst 2, 1) := by decide +kernel
theorem dX1_init_92 : decode cX1_init 92 = .ok (.aload_n 0, 1) := by decide +kernel
theorem dX1_init_93 : decode cX1_init 93 = .ok (.getfield 14, 3) := by decide +kernel
theorem dX1_init_96 : decode cX1_init 96 = .ok (.iconst 3, 1) := by decide +kernel
theorem dX1_init_97 : decode cX1_init 97 = .ok (.aaload, 1) := by decide +kernel
theorem dX1_init_98 : decode cX1_init 98 = .ok (.aastore, 1) := by decide +kernel
theorem dX1_init_99 : decode cX1_init 99 = .ok (.putfield 20, 3) := by decide +kernel
theorem dX1_init_102 : decode cX1_init 102 = .ok (.aload_n 0, 1) := by decide +kernel
theorem dX1_init_103 : decode cX1_init 103 = .ok (.iconst 3, 1) := by decide +kernel
theorem dX1_init_104 : decode cX1_init 104 = .ok (.bipush 24, 2) := by decide +kernel
theorem dX1_init_106 : decode cX1_init 106 = .ok (.multianewarray 23 2, 4) := by decide +kernel
theorem dX1_init_110 : decode cX1_init 110 = .ok (.putfield 25, 3) := by decide +kernel
theorem dX1_init_113 : decode cX1_init 113 = .ok (.aload_n 0, 1) := by decide +kernel
theorem dX1_init_114 : decode cX1_init 114 = .ok (.sipush 576, 3) := by decide +kernel
theorem dX1_init_117 : decode cX1_init 117 = .ok (.newarray .int, 2) := by decide +kernel
theorem dX1_init_119 : decode cX1_init 119 = .ok (.putfield 28, 3) := by decide +kernel
theorem dX1_init_122 : decode cX1_init 122 = .ok (.return_, 1) := by decide +kernel
set_option maxRecDepth 20000 in
theorem ggX1_look_X1_layOut : GoodIn wsX1_look wsX1_layOut := gdW wa_1168 (by decide +kernel) (by decide +kernel)
set_option maxRecDepth 20000 in
theorem gX1_look_X1_layOut : GoodIn wsX1_look (wsV RX1 32 RX1 yX1_layOut wsX1_layOut) := (gd1 wa_1165 (by decide +kernel) (gd1 wa_1166 (by decide +kernel) (gd1 wa_1167 (by decide +kernel) (gd1 wa_22 (by decide +kernel) ggX1_look_X1_layOut))))
set_option maxRecDepth 20000 in
theorem ggX1_look_J6_bitCount_0f7a4 : GoodIn wsX1_look wsJ6_bitCount_0f7a4 := gdW wa_726 (by decide +kernel) (by decide +kernel)
set_option maxRecDepth 20000 in
theorem gX1_look_J6_bitCount_0f7a4 : GoodIn wsX1_look (va_wsS RX1 55 yJ6_bitCount_0f7a4 wsJ6_bitCount_0f7a4) := (gd1 wa_1217 (by decide +kernel) (gd1 wa_724 (by decide +kernel) (gd1 wa_725 (by decide +kernel) ggX1_look_J6_bitCount_0f7a4)))
set_option maxRecDepth 20000 in
theorem ggX1_look_X1_tryThird : GoodIn wsX1_look wsX1_tryThird := gdW wa_1221 (by decide +kernel) (by decide +kernel)
set_option maxRecDepth 20000 in
theorem gX1_look_X1_tryThird : GoodIn wsX1_look (wsV RX1 59 RX1 yX1_tryThird wsX1_tryThird) := (gd1 wa_1218 (by decide +kernel) (gd1 wa_1219 (by decide +kernel) (gd1 wa_1220 (by decide +kernel) (gd1 wa_22 (by decide +kernel) ggX1_look_X1_tryThird))))
theorem dX1_look_0 : decode cX1_look 0 = .ok (.iconst 0, 1) := by decide +kernel
theorem dX1_look_1 : decode cX1_look 1 = .ok (.istore_n 2, 1) := by decide +kernel
theorem dX1_look_2 : decode cX1_look 2 = .ok (.iload_n 2, 1) := by decide +kernel
theorem dX1_look_3 : decode cX1_look 3 = .ok (.iconst 3, 1) := by decide +kernel
theorem dX1_look_4 : decode cX1_look 4 = .ok (.if_icmp .ge 15, 3) := by decide +kernel
theorem dX1_look_7 : decode cX1_look 7 = .ok (.aload_n 0, 1) := by decide +kernel
theorem dX1_look_8 : decode cX1_look 8 = .ok (.aload_n 1, 1) := by decide +kernel
theorem dX1_look_9 : decode cX1_look 9 = .ok (.iload_n 2, 1) := by decide +kernel
theorem dX1_look_10 : decode cX1_look 10 = .ok (.invokevirtual 32, 3) := by decide +kernel
theorem dX1_look_13 : decode cX1_look 13 = .ok (.iinc 2 1, 3) := by decide +kernel
theorem dX1_look_16 : decode cX1_look 16 = .ok (.goto (-14), 3) := by decide +kernel
theorem dX1_look_19 : decode cX1_look 19 = .ok (.aload_n 0, 1) := by decide +kernel
theorem dX1_look_20 : decode cX1_look 20 = .ok (.iconst 0, 1) := by decide +kernel
theorem dX1_look_21 : decode cX1_look 21 = .ok (.putfield 36, 3) := by decide +kernel
theorem dX1_look_24 : decode cX1_look 24 = .ok (.aload_n 0, 1) := by decide +kernel
theorem dX1_look_25 : decode cX1_look 25 = .ok (.iconst 0, 1) := by decide +kernel
theorem dX1_look_26 : decode cX1_look 26 = .ok (.putfield 40, 3) := by decide +kernel
theorem dX1_look_29 : decode cX1_look 29 = .ok (.aload_n 0, 1) := by decide +kernel
theorem dX1_look_30 : decode cX1_look 30 = .ok (.iconst 0, 1) := by decide +kernel
theorem dX1_look_31 : decode cX1_look 31 = .ok (.putfield 43, 3) := by decide +kernel
theorem dX1_look_34 : decode cX1_look 34 = .ok (.aload_n 0, 1) := by decide +kernel
theorem dX1_look_35 : decode cX1_look 35 = .ok (.ldc 48, 2) := by decide +kernel
theorem dX1_look_37 : decode cX1_look 37 = .ok (.putfield 49, 3) := by decide +kernel
theorem dX1_look_40 : decode cX1_look 40 = .ok (.iconst 0, 1) := by decide +kernel
theorem dX1_look_41 : decode cX1_look 41 = .ok (.istore_n 2, 1) := by decide +kernel
theorem dX1_look_42 : decode cX1_look 42 = .ok (.iload_n 2, 1) := by decide +kernel
theorem dX1_look_43 : decode cX1_look 43 = .ok (.aload_n 0, 1) := by decide +kernel
theorem dX1_look_44 : decode cX1_look 44 = .ok (.getfield 20, 3) := by decide +kernel
theorem dX1_look_47 : decode cX1_look 47 = .ok (.iconst 0, 1) := by decide +kernel
theorem dX1_look_48 : decode cX1_look 48 = .ok (.aaload, 1) := by decide +kernel
theorem dX1_look_49 : decode cX1_look 49 = .ok (.getfield 52, 3) := by decide +kernel
theorem dX1_look_52 : decode cX1_look 52 = .ok (.if_icmp .ge 74, 3) := by decide +kernel
theorem dX1_look_55 : decode cX1_look 55 = .ok (.iconst 0, 1) := by decide +kernel
theorem dX1_look_56 : decode cX1_look 56 = .ok (.istore_n 3, 1) := by decide +kernel
theorem dX1_look_57 : decode cX1_look 57 = .ok (.iload_n 3, 1) := by decide +kernel
theorem dX1_look_58 : decode cX1_look 58 = .ok (.aload_n 0, 1) := by decide +kernel
theorem dX1_look_59 : decode cX1_look 59 = .ok (.getfield 20, 3) := by decide +kernel
theorem dX1_look_62 : decode cX1_look 62 = .ok (.iconst 1, 1) := by decide +kernel
theorem dX1_look_63 : decode cX1_look 63 = .ok (.aaload, 1) := by decide +kernel
theorem dX1_look_64 : decode cX1_look 64 = .ok (.getfield 52, 3) := by decide +kernel
theorem dX1_look_67 : decode cX1_look 67 = .ok (.if_icmp .ge 53, 3) := by decide +kernel
theorem dX1_look_70 : decode cX1_look 70 = .ok (.aload_n 0, 1) := by decide +kernel
theorem dX1_look_71 : decode cX1_look 71 = .ok (.getfield 25, 3) := by decide +kernel
theorem dX1_look_74 : decode cX1_look 74 = .ok (.iconst 0, 1) := by decide +kernel
theorem dX1_look_75 : decode cX1_look 75 = .ok (.aaload, 1) := by decide +kernel
theorem dX1_look_76 : decode cX1_look 76 = .ok (.iload_n 2, 1) := by decide +kernel
theorem dX1_look_77 : decode cX1_look 77 = .ok (.iaload, 1) := by decide +kernel
theorem dX1_look_78 : decode cX1_look 78 = .ok (.aload_n 0, 1) := by decide +kernel
theorem dX1_look_79 : decode cX1_look 79 = .ok (.getfield 25, 3) := by decide +kernel
theorem dX1_look_82 : decode cX1_look 82 = .ok (.iconst 1, 1) := by decide +kernel
theorem dX1_look_83 : decode cX1_look 83 = .ok (.aaload, 1) := by decide +kernel
theorem dX1_look_84 : decode cX1_look 84 = .ok (.iload_n 3, 1) := by decide +kernel
theorem dX1_look_85 : decode cX1_look 85 = .ok (.iaload, 1) := by decide +kernel
theorem dX1_look_86 : decode cX1_look 86 = .ok (.iand, 1) := by decide +kernel
theorem dX1_look_87 : decode cX1_look 87 = .ok (.invokestatic 55, 3) := by decide +kernel
theorem dX1_look_90 : decode cX1_look 90 = .ok (.istore 4, 2) := by decide +kernel
theorem dX1_look_92 : decode cX1_look 92 = .ok (.iload 4, 2) := by decide +kernel
theorem dX1_look_94 : decode cX1_look 94 = .ok (.ifCond .eq 12, 3) := by decide +kernel
theorem dX1_look_97 : decode cX1_look 97 = .ok (.iload 4, 2) := by decide +kernel
theorem dX1_look_99 : decode cX1_look 99 = .ok (.aload_n 0, 1) := by decide +kernel
theorem dX1_look_100 : decode cX1_look 100 = .ok (.getfield 49, 3) := by decide +kernel
theorem dX1_look_103 : decode cX1_look 103 = .ok (.if_icmp .ge 11, 3) := by decide +kernel
theorem dX1_look_106 : decode cX1_look 106 = .ok (.aload_n 0, 1) := by decide +kernel
theorem dX1_look_107 : decode cX1_look 107 = .ok (.iload_n 2, 1) := by decide +kernel
theorem dX1_look_108 : decode cX1_look 108 = .ok (.iload_n 3, 1) := by decide +kernel
theorem dX1_look_109 : decode cX1_look 109 = .ok (.iload 4, 2) := by decide +kernel
theorem dX1_look_111 : decode cX1_look 111 = .ok (.invokevirtual 59, 3) := by decide +kernel
theorem dX1_look_114 : decode cX1_look 114 = .ok (.iinc 3 1, 3) := by decide +kernel
theorem dX1_look_117 : decode cX1_look 117 = .ok (.goto (-60), 3) := by decide +kernel
theorem dX1_look_120 : decode cX1_look 120 = .ok (.iinc 2 1, 3) := by decide +kernel
theorem dX1_look_123 : decode cX1_look 123 = .ok (.goto (-81), 3) := by decide +kernel
theorem dX1_look_126 : decode cX1_look 126 = .ok (.return_, 1) := by decide +kernel
set_option maxRecDepth 20000 in
theorem ggX1_layOut_X2_has : GoodIn wsX1_layOut wsX2_has := gdW wa_716 (by decide +kernel) (by decide +kernel)
set_option maxRecDepth 20000 in
theorem gX1_layOut_X2_has : GoodIn wsX1_layOut (wsV RX1 63 RX2 yX2_has wsX2_has) := (gd1 wa_1171 (by decide +kernel) (gd1 wa_714 (by decide +kernel) (gd1 wa_715 (by decide +kernel) (gd1 wa_16 (by decide +kernel) ggX1_layOut_X2_has))))
set_option maxRecDepth 20000 in
theorem ggX1_layOut_X1_wallsOf : GoodIn wsX1_layOut wsX1_wallsOf := gdW wa_1174 (by decide +kernel) (by decide +kernel)
set_option maxRecDepth 20000 in
theorem gX1_layOut_X1_wallsOf : GoodIn wsX1_layOut (va_wsS RX1 78 yX1_wallsOf wsX1_wallsOf) := (gd1 wa_1172 (by decide +kernel) (gd1 wa_1173 (by decide +kernel) (gd1 wa_22 (by decide +kernel) ggX1_layOut_X1_wallsOf)))
theorem dX1_layOut_0 : decode cX1_layOut 0 = .ok (.aload_n 1, 1) := by decide +kernel
theorem dX1_layOut_1 : decode cX1_layOut 1 = .ok (.iload_n 2, 1) := by decide +kernel
theorem dX1_layOut_2 : decode cX1_layOut 2 = .ok (.invokevirtual 63, 3) := by decide +kernel
theorem dX1_layOut_5 : decode cX1_layOut 5 = .ok (.istore_n 3, 1) := by decide +kernel
theorem dX1_layOut_6 : decode cX1_layOut 6 = .ok (.aload_n 1, 1) := by decide +kernel
theorem dX1_layOut_7 : decode cX1_layOut 7 = .ok (.getfield 69, 3) := by decide +kernel
theorem dX1_layOut_10 : decode cX1_layOut 10 = .ok (.iload_n 2, 1) := by decide +kernel
theorem dX1_layOut_11 : decode cX1_layOut 11 = .ok (.aaload, 1) := by decide +kernel
theorem dX1_layOut_12 : decode cX1_layOut 12 = .ok (.astore 4, 2) := by decide +kernel
theorem dX1_layOut_14 : decode cX1_layOut 14 = .ok (.aload_n 0, 1) := by decide +kernel
theorem dX1_layOut_15 : decode cX1_layOut 15 = .ok (.getfield 14, 3) := by decide +kernel
theorem dX1_layOut_18 : decode cX1_layOut 18 = .ok (.iload_n 3, 1) := by decide +kernel
theorem dX1_layOut_19 : decode cX1_layOut 19 = .ok (.ifCond .eq 11, 3) := by decide +kernel
theorem dX1_layOut_22 : decode cX1_layOut 22 = .ok (.aload 4, 2) := by decide +kernel
theorem dX1_layOut_24 : decode cX1_layOut 24 = .ok (.getfield 73, 3) := by decide +kernel
theorem dX1_layOut_27 : decode cX1_layOut 27 = .ok (.goto 4, 3) := by decide +kernel
theorem dX1_layOut_30 : decode cX1_layOut 30 = .ok (.iconst 3, 1) := by decide +kernel
theorem dX1_layOut_31 : decode cX1_layOut 31 = .ok (.aaload, 1) := by decide +kernel
theorem dX1_layOut_32 : decode cX1_layOut 32 = .ok (.astore 5, 2) := by decide +kernel
theorem dX1_layOut_34 : decode cX1_layOut 34 = .ok (.aload_n 0, 1) := by decide +kernel
theorem dX1_layOut_35 : decode cX1_layOut 35 = .ok (.getfield 20, 3) := by decide +kernel
theorem dX1_layOut_38 : decode cX1_layOut 38 = .ok (.iload_n 2, 1) := by decide +kernel
theorem dX1_layOut_39 : decode cX1_layOut 39 = .ok (.aload 5, 2) := by decide +kernel
theorem dX1_layOut_41 : decode cX1_layOut 41 = .ok (.aastore, 1) := by decide +kernel
theorem dX1_layOut_42 : decode cX1_layOut 42 = .ok (.iconst 0, 1) := by decide +kernel
theorem dX1_layOut_43 : decode cX1_layOut 43 = .ok (.istore 6, 2) := by decide +kernel
theorem dX1_layOut_45 : decode cX1_layOut 45 = .ok (.iload 6, 2) := by decide +kernel
theorem dX1_layOut_47 : decode cX1_layOut 47 = .ok (.aload 5, 2) := by decide +kernel
theorem dX1_layOut_49 : decode cX1_layOut 49 = .ok (.getfield 52, 3) := by decide +kernel
theorem dX1_layOut_52 : decode cX1_layOut 52 = .ok (.if_icmp .ge 35, 3) := by decide +kernel
theorem dX1_layOut_55 : decode cX1_layOut 55 = .ok (.aload_n 0, 1) := by decide +kernel
theorem dX1_layOut_56 : decode cX1_layOut 56 = .ok (.getfield 25, 3) := by decide +kernel
theorem dX1_layOut_59 : decode cX1_layOut 59 = .ok (.iload_n 2, 1) := by decide +kernel
theorem dX1_layOut_60 : decode cX1_layOut 60 = .ok (.aaload, 1) := by decide +kernel
theorem dX1_layOut_61 : decode cX1_layOut 61 = .ok (.iload 6, 2) := by decide +kernel
theorem dX1_layOut_63 : decode cX1_layOut 63 = .ok (.iload_n 3, 1) := by decide +kernel
theorem dX1_layOut_64 : decode cX1_layOut 64 = .ok (.ifCond .eq 15, 3) := by decide +kernel
theorem dX1_layOut_67 : decode cX1_layOut 67 = .ok (.aload 4, 2) := by decide +kernel
theorem dX1_layOut_69 : decode cX1_layOut 69 = .ok (.aload 5, 2) := by decide +kernel
theorem dX1_layOut_71 : decode cX1_layOut 71 = .ok (.iload 6, 2) := by decide +kernel
theorem dX1_layOut_73 : decode cX1_layOut 73 = .ok (.invokestatic 78, 3) := by decide +kernel
theorem dX1_layOut_76 : decode cX1_layOut 76 = .ok (.goto 4, 3) := by decide +kernel
theorem dX1_layOut_79 : decode cX1_layOut 79 = .ok (.iconst 0, 1) := by decide +kernel
theorem dX1_layOut_80 : decode cX1_layOut 80 = .ok (.iastore, 1) := by decide +kernel
theorem dX1_layOut_81 : decode cX1_layOut 81 = .ok (.iinc 6 1, 3) := by decide +kernel
theorem dX1_layOut_84 : decode cX1_layOut 84 = .ok (.goto (-39), 3) := by decide +kernel
theorem dX1_layOut_87 : decode cX1_layOut 87 = .ok (.return_, 1) := by decide +kernel
theorem dX1_wallsOf_0 : decode cX1_wallsOf 0 = .ok (.iconst 0, 1) := by decide +kernel
theorem dX1_wallsOf_1 : decode cX1_wallsOf 1 = .ok (.istore_n 3, 1) := by decide +kernel
theorem dX1_wallsOf_2 : decode cX1_wallsOf 2 = .ok (.iconst 0, 1) := by decide +kernel
theorem dX1_wallsOf_3 : decode cX1_wallsOf 3 = .ok (.istore 4, 2) := by decide +kernel
theorem dX1_wallsOf_5 : decode cX1_wallsOf 5 = .ok (.iload 4, 2) := by decide +kernel
theorem dX1_wallsOf_7 : decode cX1_wallsOf 7 = .ok (.iconst 4, 1) := by decide +kernel
theorem dX1_wallsOf_8 : decode cX1_wallsOf 8 = .ok (.if_icmp .ge 43, 3) := by decide +kernel
theorem dX1_wallsOf_11 : decode cX1_wallsOf 11 = .ok (.aload_n 1, 1) := by decide +kernel
theorem dX1_wallsOf_12 : decode cX1_wallsOf 12 = .ok (.getfield 82, 3) := by decide +kernel
theorem dX1_wallsOf_15 : decode cX1_wallsOf 15 = .ok (.iload_n 2, 1) := by decide +kernel
theorem dX1_wallsOf_16 : decode cX1_wallsOf 16 = .ok (.bipush 6, 2) := by decide +kernel
theorem dX1_wallsOf_18 : decode cX1_wallsOf 18 = .ok (.imul, 1) := by decide +kernel
theorem dX1_wallsOf_19 : decode cX1_wallsOf 19 = .ok (.iconst 2, 1) := by decide +kernel
theorem dX1_wallsOf_20 : decode cX1_wallsOf 20 = .ok (.iadd, 1) := by decide +kernel
theorem dX1_wallsOf_21 : decode cX1_wallsOf 21 = .ok (.iload 4, 2) := by decide +kernel
theorem dX1_wallsOf_23 : decode cX1_wallsOf 23 = .ok (.iadd, 1) := by decide +kernel
theorem dX1_wallsOf_24 : decode cX1_wallsOf 24 = .ok (.iaload, 1) := by decide +kernel
theorem dX1_wallsOf_25 : decode cX1_wallsOf 25 = .ok (.istore 5, 2) := by decide +kernel
theorem dX1_wallsOf_27 : decode cX1_wallsOf 27 = .ok (.iload_n 3, 1) := by decide +kernel
theorem dX1_wallsOf_28 : decode cX1_wallsOf 28 = .ok (.iconst 1, 1) := by decide +kernel
theorem dX1_wallsOf_29 : decode cX1_wallsOf 29 = .ok (.iload 4, 2) := by decide +kernel
theorem dX1_wallsOf_31 : decode cX1_wallsOf 31 = .ok (.bipush 6, 2) := by decide +kernel
theorem dX1_wallsOf_33 : decode cX1_wallsOf 33 = .ok (.imul, 1) := by decide +kernel
theorem dX1_wallsOf_34 : decode cX1_wallsOf 34 = .ok (.aload_n 0, 1) := by decide +kernel
theorem dX1_wallsOf_35 : decode cX1_wallsOf 35 = .ok (.getfield 85, 3) := by decide +kernel
theorem dX1_wallsOf_38 : decode cX1_wallsOf 38 = .ok (.iload 5, 2) := by decide +kernel
theorem dX1_wallsOf_40 : decode cX1_wallsOf 40 = .ok (.iaload, 1) := by decide +kernel
theorem dX1_wallsOf_41 : decode cX1_wallsOf 41 = .ok (.iadd, 1) := by decide +kernel
theorem dX1_wallsOf_42 : decode cX1_wallsOf 42 = .ok (.ishl, 1) := by decide +kernel
theorem dX1_wallsOf_43 : decode cX1_wallsOf 43 = .ok (.ior, 1) := by decide +kernel
theorem dX1_wallsOf_44 : decode cX1_wallsOf 44 = .ok (.istore_n 3, 1) := by decide +kernel
theorem dX1_wallsOf_45 : decode cX1_wallsOf 45 = .ok (.iinc 4 1, 3) := by decide +kernel
theorem dX1_wallsOf_48 : decode cX1_wallsOf 48 = .ok (.goto (-43), 3) := by decide +kernel
theorem dX1_wallsOf_51 : decode cX1_wallsOf 51 = .ok (.iload_n 3, 1) := by decide +kernel
theorem dX1_wallsOf_52 : decode cX1_wallsOf 52 = .ok (.ireturn, 1) := by decide +kernel
set_option maxRecDepth 20000 in
theorem ggX1_tryThird_J6_bitCount_0f7a4 : GoodIn wsX1_tryThird wsJ6_bitCount_0f7a4 := gdW wa_726 (by decide +kernel) (by decide +kernel)
set_option maxRecDepth 20000 in
theorem gX1_tryThird_J6_bitCount_0f7a4 : GoodIn wsX1_tryThird (va_wsS RX1 55 yJ6_bitCount_0f7a4 wsJ6_bitCount_0f7a4) := (gd1 wa_1217 (by decide +kernel) (gd1 wa_724 (by decide +kernel) (gd1 wa_725 (by decide +kernel) ggX1_tryThird_J6_bitCount_0f7a4)))
set_option maxRecDepth 20000 in
theorem ggX1_tryThird_X1_addSolution : GoodIn wsX1_tryThird wsX1_addSolution := gdW wa_1226 (by decide +kernel) (by decide +kernel)
set_option maxRecDepth 20000 in
theorem gX1_tryThird_X1_addSolution : GoodIn wsX1_tryThird (wsV RX1 94 RX1 yX1_addSolution wsX1_addSolution) := (gd1 wa_1223 (by decide +kernel) (gd1 wa_1224 (by decide +kernel) (gd1 wa_1225 (by decide +kernel) (gd1 wa_22 (by decide +kernel) ggX1_tryThird_X1_addSolution))))
theorem dX1_tryThird_0 : decode cX1_tryThird 0 = .ok (.aload_n 0, 1) := by decide +kernel
theorem dX1_tryThird_1 : decode cX1_tryThird 1 = .ok (.getfield 25, 3) := by decide +kernel
theorem dX1_tryThird_4 : decode cX1_tryThird 4 = .ok (.iconst 0, 1) := by decide +kernel
theorem dX1_tryThird_5 : decode cX1_tryThird 5 = .ok (.aaload, 1) := by decide +kernel
theorem dX1_tryThird_6 : decode cX1_tryThird 6 = .ok (.iload_n 1, 1) := by decide +kernel
theorem dX1_tryThird_7 : decode cX1_tryThird 7 = .ok (.iaload, 1) := by decide +kernel
theorem dX1_tryThird_8 : decode cX1_tryThird 8 = .ok (.istore 4, 2) := by decide +kernel
theorem dX1_tryThird_10 : decode cX1_tryThird 10 = .ok (.aload_n 0, 1) := by decide +kernel
theorem dX1_tryThird_11 : decode cX1_tryThird 11 = .ok (.getfield 25, 3) := by decide +kernel
theorem dX1_tryThird_14 : decode cX1_tryThird 14 = .ok (.iconst 1, 1) := by decide +kernel
theorem dX1_tryThird_15 : decode cX1_tryThird 15 = .ok (.aaload, 1) := by decide +kernel
theorem dX1_tryThird_16 : decode cX1_tryThird 16 = .ok (.iload_n 2, 1) := by decide +kernel
theorem dX1_tryThird_17 : decode cX1_tryThird 17 = .ok (.iaload, 1) := by decide +kernel
theorem dX1_tryThird_18 : decode cX1_tryThird 18 = .ok (.istore 5, 2) := by decide +kernel
theorem dX1_tryThird_20 : decode cX1_tryThird 20 = .ok (.iconst 0, 1) := by decide +kernel
theorem dX1_tryThird_21 : decode cX1_tryThird 21 = .ok (.istore 6, 2) := by decide +kernel
theorem dX1_tryThird_23 : decode cX1_tryThird 23 = .ok (.iload 6, 2) := by decide +kernel
theorem dX1_tryThird_25 : decode cX1_tryThird 25 = .ok (.aload_n 0, 1) := by decide +kernel
theorem dX1_tryThird_26 : decode cX1_tryThird 26 = .ok (.getfield 20, 3) := by decide +kernel
theorem dX1_tryThird_29 : decode cX1_tryThird 29 = .ok (.iconst 2, 1) := by decide +kernel
theorem dX1_tryThird_30 : decode cX1_tryThird 30 = .ok (.aaload, 1) := by decide +kernel
theorem dX1_tryThird_31 : decode cX1_tryThird 31 = .ok (.getfield 52, 3) := by decide +kernel
theorem dX1_tryThird_34 : decode cX1_tryThird 34 = .ok (.if_icmp .ge 67, 3) := by decide +kernel
theorem dX1_tryThird_37 : decode cX1_tryThird 37 = .ok (.aload_n 0, 1) := by decide +kernel
theorem dX1_tryThird_38 : decode cX1_tryThird 38 = .ok (.getfield 25, 3) := by decide +kernel
theorem dX1_tryThird_41 : decode cX1_tryThird 41 = .ok (.iconst 2, 1) := by decide +kernel
theorem dX1_tryThird_42 : decode cX1_tryThird 42 = .ok (.aaload, 1) := by decide +kernel
theorem dX1_tryThird_43 : decode cX1_tryThird 43 = .ok (.iload 6, 2) := by decide +kernel
theorem dX1_tryThird_45 : decode cX1_tryThird 45 = .ok (.iaload, 1) := by decide +kernel
theorem dX1_tryThird_46 : decode cX1_tryThird 46 = .ok (.istore 7, 2) := by decide +kernel
theorem dX1_tryThird_48 : decode cX1_tryThird 48 = .ok (.iload_n 3, 1) := by decide +kernel
theorem dX1_tryThird_49 : decode cX1_tryThird 49 = .ok (.iload 7, 2) := by decide +kernel
theorem dX1_tryThird_51 : decode cX1_tryThird 51 = .ok (.iload 4, 2) := by decide +kernel
theorem dX1_tryThird_53 : decode cX1_tryThird 53 = .ok (.iand, 1) := by decide +kernel
theorem dX1_tryThird_54 : decode cX1_tryThird 54 = .ok (.invokestatic 55, 3) := by decide +kernel
theorem dX1_tryThird_57 : decode cX1_tryThird 57 = .ok (.iadd, 1) := by decide +kernel
theorem dX1_tryThird_58 : decode cX1_tryThird 58 = .ok (.iload 7, 2) := by decide +kernel
theorem dX1_tryThird_60 : decode cX1_tryThird 60 = .ok (.iload 5, 2) := by decide +kernel
theorem dX1_tryThird_62 : decode cX1_tryThird 62 = .ok (.iand, 1) := by decide +kernel
theorem dX1_tryThird_63 : decode cX1_tryThird 63 = .ok (.invokestatic 55, 3) := by decide +kernel
theorem dX1_tryThird_66 : decode cX1_tryThird 66 = .ok (.iadd, 1) := by decide +kernel
theorem dX1_tryThird_67 : decode cX1_tryThird 67 = .ok (.istore 8, 2) := by decide +kernel
theorem dX1_tryThird_69 : decode cX1_tryThird 69 = .ok (.aload_n 0, 1) := by decide +kernel
theorem dX1_tryThird_70 : decode cX1_tryThird 70 = .ok (.aload_n 0, 1) := by decide +kernel
theorem dX1_tryThird_71 : decode cX1_tryThird 71 = .ok (.getfield 49, 3) := by decide +kernel
theorem dX1_tryThird_74 : decode cX1_tryThird 74 = .ok (.iload 8, 2) := by decide +kernel
theorem dX1_tryThird_76 : decode cX1_tryThird 76 = .ok (.invokestatic 88, 3) := by decide +kernel
theorem dX1_tryThird_79 : decode cX1_tryThird 79 = .ok (.putfield 49, 3) := by decide +kernel
theorem dX1_tryThird_82 : decode cX1_tryThird 82 = .ok (.iload 8, 2) := by decide +kernel
theorem dX1_tryThird_84 : decode cX1_tryThird 84 = .ok (.ifCond .ne 11, 3) := by decide +kernel
theorem dX1_tryThird_87 : decode cX1_tryThird 87 = .ok (.aload_n 0, 1) := by decide +kernel
theorem dX1_tryThird_88 : decode cX1_tryThird 88 = .ok (.iload_n 1, 1) := by decide +kernel
theorem dX1_tryThird_89 : decode cX1_tryThird 89 = .ok (.iload_n 2, 1) := by decide +kernel
theorem dX1_tryThird_90 : decode cX1_tryThird 90 = .ok (.iload 6, 2) := by decide +kernel
theorem dX1_tryThird_92 : decode cX1_tryThird 92 = .ok (.invokevirtual 94, 3) := by decide +kernel
theorem dX1_tryThird_95 : decode cX1_tryThird 95 = .ok (.iinc 6 1, 3) := by decide +kernel
theorem dX1_tryThird_98 : decode cX1_tryThird 98 = .ok (.goto (-75), 3) := by decide +kernel
theorem dX1_tryThird_101 : decode cX1_tryThird 101 = .ok (.return_, 1) := by decide +kernel
theorem dX1_addSolution_0 : decode cX1_addSolution 0 = .ok (.aload_n 0, 1) := by decide +kernel
theorem dX1_addSolution_1 : decode cX1_addSolution 1 = .ok (.getfield 20, 3) := by decide +kernel
theorem dX1_addSolution_4 : decode cX1_addSolution 4 = .ok (.iconst 0, 1) := by decide +kernel
theorem dX1_addSolution_5 : decode cX1_addSolution 5 = .ok (.aaload, 1) := by decide +kernel
theorem dX1_addSolution_6 : decode cX1_addSolution 6 = .ok (.getfield 97, 3) := by decide +kernel
theorem dX1_addSolution_9 : decode cX1_addSolution 9 = .ok (.iload_n 1, 1) := by decide +kernel
theorem dX1_addSolution_10 : decode cX1_addSolution 10 = .ok (.iaload, 1) := by decide +kernel
theorem dX1_addSolution_11 : decode cX1_addSolution 11 = .ok (.aload_n 0, 1) := by decide +kernel
theorem dX1_addSolution_12 : decode cX1_addSolution 12 = .ok (.getfield 20, 3) := by decide +kernel
theorem dX1_addSolution_15 : decode cX1_addSolution 15 = .ok (.iconst 1, 1) := by decide +kernel
theorem dX1_addSolution_16 : decode cX1_addSolution 16 = .ok (.aaload, 1) := by decide +kernel
theorem dX1_addSolution_17 : decode cX1_addSolution 17 = .ok (.getfield 97, 3) := by decide +kernel
theorem dX1_addSolution_20 : decode cX1_addSolution 20 = .ok (.iload_n 2, 1) := by decide +kernel
theorem dX1_addSolution_21 : decode cX1_addSolution 21 = .ok (.iaload, 1) := by decide +kernel
theorem dX1_addSolution_22 : decode cX1_addSolution 22 = .ok (.iadd, 1) := by decide +kernel
theorem dX1_addSolution_23 : decode cX1_addSolution 23 = .ok (.aload_n 0, 1) := by decide +kernel
theorem dX1_addSolution_24 : decode cX1_addSolution 24 = .ok (.getfield 20, 3) := by decide +kernel
theorem dX1_addSolution_27 : decode cX1_addSolution 27 = .ok (.iconst 2, 1) := by decide +kernel
theorem dX1_addSolution_28 : decode cX1_addSolution 28 = .ok (.aaload, 1) := by decide +kernel
theorem dX1_addSolution_29 : decode cX1_addSolution 29 = .ok (.getfield 97, 3) := by decide +kernel
theorem dX1_addSolution_32 : decode cX1_addSolution 32 = .ok (.iload_n 3, 1) := by decide +kernel
theorem dX1_addSolution_33 : decode cX1_addSolution 33 = .ok (.iaload, 1) := by decide +kernel
theorem dX1_addSolution_34 : decode cX1_addSolution 34 = .ok (.iadd, 1) := by decide +kernel
theorem dX1_addSolution_35 : decode cX1_addSolution 35 = .ok (.istore 4, 2) := by decide +kernel
theorem dX1_addSolution_37 : decode cX1_addSolution 37 = .ok (.aload_n 0, 1) := by decide +kernel
theorem dX1_addSolution_38 : decode cX1_addSolution 38 = .ok (.getfield 36, 3) := by decide +kernel
theorem dX1_addSolution_41 : decode cX1_addSolution 41 = .ok (.ifCond .eq 12, 3) := by decide +kernel
theorem dX1_addSolution_44 : decode cX1_addSolution 44 = .ok (.iload 4, 2) := by decide +kernel
theorem dX1_addSolution_46 : decode cX1_addSolution 46 = .ok (.aload_n 0, 1) := by decide +kernel
theorem dX1_addSolution_47 : decode cX1_addSolution 47 = .ok (.getfield 40, 3) := by decide +kernel
theorem dX1_addSolution_50 : decode cX1_addSolution 50 = .ok (.if_icmp .ge 14, 3) := by decide +kernel
theorem dX1_addSolution_53 : decode cX1_addSolution 53 = .ok (.aload_n 0, 1) := by decide +kernel
theorem dX1_addSolution_54 : decode cX1_addSolution 54 = .ok (.iload 4, 2) := by decide +kernel
theorem dX1_addSolution_56 : decode cX1_addSolution 56 = .ok (.putfield 40, 3) := by decide +kernel
theorem dX1_addSolution_59 : decode cX1_addSolution 59 = .ok (.aload_n 0, 1) := by decide +kernel
theorem dX1_addSolution_60 : decode cX1_addSolution 60 = .ok (.iconst 0, 1) := by decide +kernel
theorem dX1_addSolution_61 : decode cX1_addSolution 61 = .ok (.putfield 43, 3) := by decide +kernel
theorem dX1_addSolution_64 : decode cX1_addSolution 64 = .ok (.iload 4, 2) := by decide +kernel
theorem dX1_addSolution_66 : decode cX1_addSolution 66 = .ok (.aload_n 0, 1) := by decide +kernel
theorem dX1_addSolution_67 : decode cX1_addSolution 67 = .ok (.getfield 40, 3) := by decide +kernel
theorem dX1_addSolution_70 : decode cX1_addSolution 70 = .ok (.if_icmp .ne 52, 3) := by decide +kernel
theorem dX1_addSolution_73 : decode cX1_addSolution 73 = .ok (.aload_n 0, 1) := by decide +kernel
theorem dX1_addSolution_74 : decode cX1_addSolution 74 = .ok (.dup, 1) := by decide +kernel
theorem dX1_addSolution_75 : decode cX1_addSolution 75 = .ok (.getfield 43, 3) := by decide +kernel
theorem dX1_addSolution_78 : decode cX1_addSolution 78 = .ok (.aload_n 0, 1) := by decide +kernel
theorem dX1_addSolution_79 : decode cX1_addSolution 79 = .ok (.getfield 20, 3) := by decide +kernel
theorem dX1_addSolution_82 : decode cX1_addSolution 82 = .ok (.iconst 0, 1) := by decide +kernel
theorem dX1_addSolution_83 : decode cX1_addSolution 83 = .ok (.aaload, 1) := by decide +kernel
theorem dX1_addSolution_84 : decode cX1_addSolution 84 = .ok (.getfield 100, 3) := by decide +kernel
theorem dX1_addSolution_87 : decode cX1_addSolution 87 = .ok (.iload_n 1, 1) := by decide +kernel
theorem dX1_addSolution_88 : decode cX1_addSolution 88 = .ok (.iaload, 1) := by decide +kernel
theorem dX1_addSolution_89 : decode cX1_addSolution 89 = .ok (.aload_n 0, 1) := by decide +kernel
theorem dX1_addSolution_90 : decode cX1_addSolution 90 = .ok (.getfield 20, 3) := by decide +kernel
theorem dX1_addSolution_93 : decode cX1_addSolution 93 = .ok (.iconst 1, 1) := by decide +kernel
theorem dX1_addSolution_94 : decode cX1_addSolution 94 = .ok (.aaload, 1) := by decide +kernel
theorem dX1_addSolution_95 : decode cX1_addSolution 95 = .ok (.getfield 100, 3) := by decide +kernel
theorem dX1_addSolution_98 : decode cX1_addSolution 98 = .ok (.iload_n 2, 1) := by decide +kernel
theorem dX1_addSolution_99 : decode cX1_addSolution 99 = .ok (.iaload, 1) := by decide +kernel
theorem dX1_addSolution_100 : decode cX1_addSolution 100 = .ok (.iconst 4, 1) := by decide +kernel
theorem dX1_addSolution_101 : decode cX1_addSolution 101 = .ok (.ishl, 1) := by decide +kernel
theorem dX1_addSolution_102 : decode cX1_addSolution 102 = .ok (.ior, 1) := by decide +kernel
theorem dX1_addSolution_103 : decode cX1_addSolution 103 = .ok (.aload_n 0, 1) := by decide +kernel
theorem dX1_addSolution_104 : decode cX1_addSolution 104 = .ok (.getfield 20, 3) := by decide +kernel
theorem dX1_addSolution_107 : decode cX1_addSolution 107 = .ok (.iconst 2, 1) := by decide +kernel
theorem dX1_addSolution_108 : decode cX1_addSolution 108 = .ok (.aaload, 1) := by decide +kernel
theorem dX1_addSolution_109 : decode cX1_addSolution 109 = .ok (.getfield 100, 3) := by decide +kernel
theorem dX1_addSolution_112 : decode cX1_addSolution 112 = .ok (.iload_n 3, 1) := by decide +kernel
theorem dX1_addSolution_113 : decode cX1_addSolution 113 = .ok (.iaload, 1) := by decide +kernel
theorem dX1_addSolution_114 : decode cX1_addSolution 114 = .ok (.bipush 8, 2) := by decide +kernel
theorem dX1_addSolution_116 : decode cX1_addSolution 116 = .ok (.ishl, 1) := by decide +kernel
theorem dX1_addSolution_117 : decode cX1_addSolution 117 = .ok (.ior, 1) := by decide +kernel
theorem dX1_addSolution_118 : decode cX1_addSolution 118 = .ok (.ior, 1) := by decide +kernel
theorem dX1_addSolution_119 : decode cX1_addSolution 119 = .ok (.putfield 43, 3) := by decide +kernel
theorem dX1_addSolution_122 : decode cX1_addSolution 122 = .ok (.aload_n 0, 1) := by decide +kernel
theorem dX1_addSolution_123 : decode cX1_addSolution 123 = .ok (.dup, 1) := by decide +kernel
theorem dX1_addSolution_124 : decode cX1_addSolution 124 = .ok (.getfield 36, 3) := by decide +kernel
theorem dX1_addSolution_127 : decode cX1_addSolution 127 = .ok (.iconst 1, 1) := by decide +kernel
theorem dX1_addSolution_128 : decode cX1_addSolution 128 = .ok (.iadd, 1) := by decide +kernel
theorem dX1_addSolution_129 : decode cX1_addSolution 129 = .ok (.putfield 36, 3) := by decide +kernel
theorem dX1_addSolution_132 : decode cX1_addSolution 132 = .ok (.return_, 1) := by decide +kernel
set_option maxRecDepth 20000 in
theorem ggX1_firstTurn_J6_numberOfTrailingZeros_0f7a4 : GoodIn wsX1_firstTurn wsJ6_numberOfTrailingZeros_0f7a4 := gdW wa_1416 (by decide +kernel) (by decide +kernel)
set_option maxRecDepth 20000 in
theorem gX1_firstTurn_J6_numberOfTrailingZeros_0f7a4 : GoodIn wsX1_firstTurn (va_wsS RX1 102 yJ6_numberOfTrailingZeros_0f7a4 wsJ6_numberOfTrailingZeros_0f7a4) := (gd1 wa_1414 (by decide +kernel) (gd1 wa_1415 (by decide +kernel) (gd1 wa_725 (by decide +kernel) ggX1_firstTurn_J6_numberOfTrailingZeros_0f7a4)))
theorem dX1_firstTurn_0 : decode cX1_firstTurn 0 = .ok (.aload_n 0, 1) := by decide +kernel
theorem dX1_firstTurn_1 : decode cX1_firstTurn 1 = .ok (.getfield 43, 3) := by decide +kernel
theorem dX1_firstTurn_4 : decode cX1_firstTurn 4 = .ok (.ifCond .ne 5, 3) := by decide +kernel
theorem dX1_firstTurn_7 : decode cX1_firstTurn 7 = .ok (.iconst (-1), 1) := by decide +kernel
theorem dX1_firstTurn_8 : decode cX1_firstTurn 8 = .ok (.ireturn, 1) := by decide +kernel
theorem dX1_firstTurn_9 : decode cX1_firstTurn 9 = .ok (.aload_n 0, 1) := by decide +kernel
theorem dX1_firstTurn_10 : decode cX1_firstTurn 10 = .ok (.getfield 43, 3) := by decide +kernel
theorem dX1_firstTurn_13 : decode cX1_firstTurn 13 = .ok (.invokestatic 102, 3) := by decide +kernel
theorem dX1_firstTurn_16 : decode cX1_firstTurn 16 = .ok (.istore_n 1, 1) := by decide +kernel
theorem dX1_firstTurn_17 : decode cX1_firstTurn 17 = .ok (.bipush 10, 2) := by decide +kernel
theorem dX1_firstTurn_19 : decode cX1_firstTurn 19 = .ok (.iload_n 1, 1) := by decide +kernel
theorem dX1_firstTurn_20 : decode cX1_firstTurn 20 = .ok (.iconst 4, 1) := by decide +kernel
theorem dX1_firstTurn_21 : decode cX1_firstTurn 21 = .ok (.idiv, 1) := by decide +kernel
theorem dX1_firstTurn_22 : decode cX1_firstTurn 22 = .ok (.imul, 1) := by decide +kernel
theorem dX1_firstTurn_23 : decode cX1_firstTurn 23 = .ok (.iload_n 1, 1) := by decide +kernel
theorem dX1_firstTurn_24 : decode cX1_firstTurn 24 = .ok (.iconst 4, 1) := by decide +kernel
theorem dX1_firstTurn_25 : decode cX1_firstTurn 25 = .ok (.irem, 1) := by decide +kernel
theorem dX1_firstTurn_26 : decode cX1_firstTurn 26 = .ok (.iadd, 1) := by decide +kernel
theorem dX1_firstTurn_27 : decode cX1_firstTurn 27 = .ok (.ireturn, 1) := by decide +kernel
theorem dX1_allWays_0 : decode cX1_allWays 0 = .ok (.aload_n 0, 1) := by decide +kernel
theorem dX1_allWays_1 : decode cX1_allWays 1 = .ok (.getfield 20, 3) := by decide +kernel
theorem dX1_allWays_4 : decode cX1_allWays 4 = .ok (.iconst 0, 1) := by decide +kernel
theorem dX1_allWays_5 : decode cX1_allWays 5 = .ok (.aaload, 1) := by decide +kernel
theorem dX1_allWays_6 : decode cX1_allWays 6 = .ok (.getfield 52, 3) := by decide +kernel
theorem dX1_allWays_9 : decode cX1_allWays 9 = .ok (.aload_n 0, 1) := by decide +kernel
theorem dX1_allWays_10 : decode cX1_allWays 10 = .ok (.getfield 20, 3) := by decide +kernel
theorem dX1_allWays_13 : decode cX1_allWays 13 = .ok (.iconst 1, 1) := by decide +kernel
theorem dX1_allWays_14 : decode cX1_allWays 14 = .ok (.aaload, 1) := by decide +kernel
theorem dX1_allWays_15 : decode cX1_allWays 15 = .ok (.getfield 52, 3) := by decide +kernel
theorem dX1_allWays_18 : decode cX1_allWays 18 = .ok (.imul, 1) := by decide +kernel
theorem dX1_allWays_19 : decode cX1_allWays 19 = .ok (.aload_n 0, 1) := by decide +kernel
theorem dX1_allWays_20 : decode cX1_allWays 20 = .ok (.getfield 20, 3) := by decide +kernel
theorem dX1_allWays_23 : decode cX1_allWays 23 = .ok (.iconst 2, 1) := by decide +kernel
theorem dX1_allWays_24 : decode cX1_allWays 24 = .ok (.aaload, 1) := by decide +kernel
theorem dX1_allWays_25 : decode cX1_allWays 25 = .ok (.getfield 52, 3) := by decide +kernel
theorem dX1_allWays_28 : decode cX1_allWays 28 = .ok (.imul, 1) := by decide +kernel
theorem dX1_allWays_29 : decode cX1_allWays 29 = .ok (.ireturn, 1) := by decide +kernel
set_option maxRecDepth 20000 in
theorem ggX1_sideToPaint_X1_pairOthers : GoodIn wsX1_sideToPaint wsX1_pairOthers := gdW wa_1490 (by decide +kernel) (by decide +kernel)
set_option maxRecDepth 20000 in
theorem gX1_sideToPaint_X1_pairOthers : GoodIn wsX1_sideToPaint (wsV RX1 105 RX1 yX1_pairOthers wsX1_pairOthers) := (gd1 wa_1487 (by decide +kernel) (gd1 wa_1488 (by decide +kernel) (gd1 wa_1489 (by decide +kernel) (gd1 wa_22 (by decide +kernel) ggX1_sideToPaint_X1_pairOthers))))
set_option maxRecDepth 20000 in
theorem ggX1_sideToPaint_X1_helpfulColours : GoodIn wsX1_sideToPaint wsX1_helpfulColours := gdW wa_1495 (by decide +kernel) (by decide +kernel)
set_option maxRecDepth 20000 in
theorem gX1_sideToPaint_X1_helpfulColours : GoodIn wsX1_sideToPaint (wsV RX1 108 RX1 yX1_helpfulColours wsX1_helpfulColours) := (gd1 wa_1492 (by decide +kernel) (gd1 wa_1493 (by decide +kernel) (gd1 wa_1494 (by decide +kernel) (gd1 wa_22 (by decide +kernel) ggX1_sideToPaint_X1_helpfulColours))))
set_option maxRecDepth 20000 in
theorem ggX1_sideToPaint_J6_numberOfTrailingZeros_0f7a4 : GoodIn wsX1_sideToPaint wsJ6_numberOfTrailingZeros_0f7a4 := gdW wa_1416 (by decide +kernel) (by decide +kernel)
set_option maxRecDepth 20000 in
theorem gX1_sideToPaint_J6_numberOfTrailingZeros_0f7a4 : GoodIn wsX1_sideToPaint (va_wsS RX1 102 yJ6_numberOfTrailingZeros_0f7a4 wsJ6_numberOfTrailingZeros_0f7a4) := (gd1 wa_1414 (by decide +kernel) (gd1 wa_1415 (by decide +kernel) (gd1 wa_725 (by decide +kernel) ggX1_sideToPaint_J6_numberOfTrailingZeros_0f7a4)))
theorem dX1_sideToPaint_0 : decode cX1_sideToPaint 0 = .ok (.iconst 0, 1) := by decide +kernel
theorem dX1_sideToPaint_1 : decode cX1_sideToPaint 1 = .ok (.istore_n 2, 1) := by decide +kernel
theorem dX1_sideToPaint_2 : decode cX1_sideToPaint 2 = .ok (.iload_n 2, 1) := by decide +kernel
theorem dX1_sideToPaint_3 : decode cX1_sideToPaint 3 = .ok (.iload_n 1, 1) := by decide +kernel
theorem dX1_sideToPaint_4 : decode cX1_sideToPaint 4 = .ok (.if_icmp .ge 62, 3) := by decide +kernel
theorem dX1_sideToPaint_7 : decode cX1_sideToPaint 7 = .ok (.iload_n 2, 1) := by decide +kernel
theorem dX1_sideToPaint_8 : decode cX1_sideToPaint 8 = .ok (.iconst 3, 1) := by decide +kernel
theorem dX1_sideToPaint_9 : decode cX1_sideToPaint 9 = .ok (.if_icmp .ge 57, 3) := by decide +kernel
theorem dX1_sideToPaint_12 : decode cX1_sideToPaint 12 = .ok (.aload_n 0, 1) := by decide +kernel
theorem dX1_sideToPaint_13 : decode cX1_sideToPaint 13 = .ok (.iload_n 2, 1) := by decide +kernel
theorem dX1_sideToPaint_14 : decode cX1_sideToPaint 14 = .ok (.invokevirtual 105, 3) := by decide +kernel
theorem dX1_sideToPaint_17 : decode cX1_sideToPaint 17 = .ok (.iconst 0, 1) := by decide +kernel
theorem dX1_sideToPaint_18 : decode cX1_sideToPaint 18 = .ok (.istore_n 3, 1) := by decide +kernel
theorem dX1_sideToPaint_19 : decode cX1_sideToPaint 19 = .ok (.iload_n 3, 1) := by decide +kernel
theorem dX1_sideToPaint_20 : decode cX1_sideToPaint 20 = .ok (.bipush 6, 2) := by decide +kernel
theorem dX1_sideToPaint_22 : decode cX1_sideToPaint 22 = .ok (.if_icmp .ge 38, 3) := by decide +kernel
theorem dX1_sideToPaint_25 : decode cX1_sideToPaint 25 = .ok (.aload_n 0, 1) := by decide +kernel
theorem dX1_sideToPaint_26 : decode cX1_sideToPaint 26 = .ok (.iload_n 2, 1) := by decide +kernel
theorem dX1_sideToPaint_27 : decode cX1_sideToPaint 27 = .ok (.iload_n 3, 1) := by decide +kernel
theorem dX1_sideToPaint_28 : decode cX1_sideToPaint 28 = .ok (.invokevirtual 108, 3) := by decide +kernel
theorem dX1_sideToPaint_31 : decode cX1_sideToPaint 31 = .ok (.istore 4, 2) := by decide +kernel
theorem dX1_sideToPaint_33 : decode cX1_sideToPaint 33 = .ok (.iload 4, 2) := by decide +kernel
theorem dX1_sideToPaint_35 : decode cX1_sideToPaint 35 = .ok (.ifCond .eq 19, 3) := by decide +kernel
theorem dX1_sideToPaint_38 : decode cX1_sideToPaint 38 = .ok (.bipush 100, 2) := by decide +kernel
theorem dX1_sideToPaint_40 : decode cX1_sideToPaint 40 = .ok (.iload_n 2, 1) := by decide +kernel
theorem dX1_sideToPaint_41 : decode cX1_sideToPaint 41 = .ok (.imul, 1) := by decide +kernel
theorem dX1_sideToPaint_42 : decode cX1_sideToPaint 42 = .ok (.bipush 10, 2) := by decide +kernel
theorem dX1_sideToPaint_44 : decode cX1_sideToPaint 44 = .ok (.iload_n 3, 1) := by decide +kernel
theorem dX1_sideToPaint_45 : decode cX1_sideToPaint 45 = .ok (.imul, 1) := by decide +kernel
theorem dX1_sideToPaint_46 : decode cX1_sideToPaint 46 = .ok (.iadd, 1) := by decide +kernel
theorem dX1_sideToPaint_47 : decode cX1_sideToPaint 47 = .ok (.iload 4, 2) := by decide +kernel
theorem dX1_sideToPaint_49 : decode cX1_sideToPaint 49 = .ok (.invokestatic 102, 3) := by decide +kernel
theorem dX1_sideToPaint_52 : decode cX1_sideToPaint 52 = .ok (.iadd, 1) := by decide +kernel
theorem dX1_sideToPaint_53 : decode cX1_sideToPaint 53 = .ok (.ireturn, 1) := by decide +kernel
theorem dX1_sideToPaint_54 : decode cX1_sideToPaint 54 = .ok (.iinc 3 1, 3) := by decide +kernel
theorem dX1_sideToPaint_57 : decode cX1_sideToPaint 57 = .ok (.goto (-38), 3) := by decide +kernel
theorem dX1_sideToPaint_60 : decode cX1_sideToPaint 60 = .ok (.iinc 2 1, 3) := by decide +kernel
theorem dX1_sideToPaint_63 : decode cX1_sideToPaint 63 = .ok (.goto (-61), 3) := by decide +kernel
theorem dX1_sideToPaint_66 : decode cX1_sideToPaint 66 = .ok (.iconst (-1), 1) := by decide +kernel
theorem dX1_sideToPaint_67 : decode cX1_sideToPaint 67 = .ok (.ireturn, 1) := by decide +kernel
theorem dX1_pairOthers_0 : decode cX1_pairOthers 0 = .ok (.iload_n 1, 1) := by decide +kernel
theorem dX1_pairOthers_1 : decode cX1_pairOthers 1 = .ok (.iconst 1, 1) := by decide +kernel
theorem dX1_pairOthers_2 : decode cX1_pairOthers 2 = .ok (.iadd, 1) := by decide +kernel
theorem dX1_pairOthers_3 : decode cX1_pairOthers 3 = .ok (.iconst 3, 1) := by decide +kernel
theorem dX1_pairOthers_4 : decode cX1_pairOthers 4 = .ok (.irem, 1) := by decide +kernel
theorem dX1_pairOthers_5 : decode cX1_pairOthers 5 = .ok (.istore_n 2, 1) := by decide +kernel
theorem dX1_pairOthers_6 : decode cX1_pairOthers 6 = .ok (.iload_n 1, 1) := by decide +kernel
theorem dX1_pairOthers_7 : decode cX1_pairOthers 7 = .ok (.iconst 2, 1) := by decide +kernel
theorem dX1_pairOthers_8 : decode cX1_pairOthers 8 = .ok (.iadd, 1) := by decide +kernel
theorem dX1_pairOthers_9 : decode cX1_pairOthers 9 = .ok (.iconst 3, 1) := by decide +kernel
theorem dX1_pairOthers_10 : decode cX1_pairOthers 10 = .ok (.irem, 1) := by decide +kernel
theorem dX1_pairOthers_11 : decode cX1_pairOthers 11 = .ok (.istore_n 3, 1) := by decide +kernel
theorem dX1_pairOthers_12 : decode cX1_pairOthers 12 = .ok (.aload_n 0, 1) := by decide +kernel
theorem dX1_pairOthers_13 : decode cX1_pairOthers 13 = .ok (.iconst 0, 1) := by decide +kernel
theorem dX1_pairOthers_14 : decode cX1_pairOthers 14 = .ok (.putfield 111, 3) := by decide +kernel
theorem dX1_pairOthers_17 : decode cX1_pairOthers 17 = .ok (.iconst 0, 1) := by decide +kernel
theorem dX1_pairOthers_18 : decode cX1_pairOthers 18 = .ok (.istore 4, 2) := by decide +kernel
theorem dX1_pairOthers_20 : decode cX1_pairOthers 20 = .ok (.iload 4, 2) := by decide +kernel
theorem dX1_pairOthers_22 : decode cX1_pairOthers 22 = .ok (.aload_n 0, 1) := by decide +kernel
theorem dX1_pairOthers_23 : decode cX1_pairOthers 23 = .ok (.getfield 20, 3) := by decide +kernel
theorem dX1_pairOthers_26 : decode cX1_pairOthers 26 = .ok (.iload_n 2, 1) := by decide +kernel
theorem dX1_pairOthers_27 : decode cX1_pairOthers 27 = .ok (.aaload, 1) := by decide +kernel
theorem dX1_pairOthers_28 : decode cX1_pairOthers 28 = .ok (.getfield 52, 3) := by decide +kernel
theorem dX1_pairOthers_31 : decode cX1_pairOthers 31 = .ok (.if_icmp .ge 98, 3) := by decide +kernel
theorem dX1_pairOthers_34 : decode cX1_pairOthers 34 = .ok (.iconst 0, 1) := by decide +kernel
theorem dX1_pairOthers_35 : decode cX1_pairOthers 35 = .ok (.istore 5, 2) := by decide +kernel
theorem dX1_pairOthers_37 : decode cX1_pairOthers 37 = .ok (.iload 5, 2) := by decide +kernel
theorem dX1_pairOthers_39 : decode cX1_pairOthers 39 = .ok (.aload_n 0, 1) := by decide +kernel
theorem dX1_pairOthers_40 : decode cX1_pairOthers 40 = .ok (.getfield 20, 3) := by decide +kernel
theorem dX1_pairOthers_43 : decode cX1_pairOthers 43 = .ok (.iload_n 3, 1) := by decide +kernel
theorem dX1_pairOthers_44 : decode cX1_pairOthers 44 = .ok (.aaload, 1) := by decide +kernel
theorem dX1_pairOthers_45 : decode cX1_pairOthers 45 = .ok (.getfield 52, 3) := by decide +kernel
theorem dX1_pairOthers_48 : decode cX1_pairOthers 48 = .ok (.if_icmp .ge 75, 3) := by decide +kernel
theorem dX1_pairOthers_51 : decode cX1_pairOthers 51 = .ok (.aload_n 0, 1) := by decide +kernel
theorem dX1_pairOthers_52 : decode cX1_pairOthers 52 = .ok (.getfield 25, 3) := by decide +kernel
theorem dX1_pairOthers_55 : decode cX1_pairOthers 55 = .ok (.iload_n 2, 1) := by decide +kernel
theorem dX1_pairOthers_56 : decode cX1_pairOthers 56 = .ok (.aaload, 1) := by decide +kernel
theorem dX1_pairOthers_57 : decode cX1_pairOthers 57 = .ok (.iload 4, 2) := by decide +kernel
theorem dX1_pairOthers_59 : decode cX1_pairOthers 59 = .ok (.iaload, 1) := by decide +kernel
theorem dX1_pairOthers_60 : decode cX1_pairOthers 60 = .ok (.istore 6, 2) := by decide +kernel
theorem dX1_pairOthers_62 : decode cX1_pairOthers 62 = .ok (.aload_n 0, 1) := by decide +kernel
theorem dX1_pairOthers_63 : decode cX1_pairOthers 63 = .ok (.getfield 25, 3) := by decide +kernel
theorem dX1_pairOthers_66 : decode cX1_pairOthers 66 = .ok (.iload_n 3, 1) := by decide +kernel
theorem dX1_pairOthers_67 : decode cX1_pairOthers 67 = .ok (.aaload, 1) := by decide +kernel
theorem dX1_pairOthers_68 : decode cX1_pairOthers 68 = .ok (.iload 5, 2) := by decide +kernel
theorem dX1_pairOthers_70 : decode cX1_pairOthers 70 = .ok (.iaload, 1) := by decide +kernel
theorem dX1_pairOthers_71 : decode cX1_pairOthers 71 = .ok (.istore 7, 2) := by decide +kernel
theorem dX1_pairOthers_73 : decode cX1_pairOthers 73 = .ok (.iload 6, 2) := by decide +kernel
theorem dX1_pairOthers_75 : decode cX1_pairOthers 75 = .ok (.iload 7, 2) := by decide +kernel
theorem dX1_pairOthers_77 : decode cX1_pairOthers 77 = .ok (.iand, 1) := by decide +kernel
theorem dX1_pairOthers_78 : decode cX1_pairOthers 78 = .ok (.ifCond .ne 39, 3) := by decide +kernel
theorem dX1_pairOthers_81 : decode cX1_pairOthers 81 = .ok (.aload_n 0, 1) := by decide +kernel
theorem dX1_pairOthers_82 : decode cX1_pairOthers 82 = .ok (.getfield 111, 3) := by decide +kernel
theorem dX1_pairOthers_85 : decode cX1_pairOthers 85 = .ok (.aload_n 0, 1) := by decide +kernel
theorem dX1_pairOthers_86 : decode cX1_pairOthers 86 = .ok (.getfield 28, 3) := by decide +kernel
theorem dX1_pairOthers_89 : decode cX1_pairOthers 89 = .ok (.arraylength, 1) := by decide +kernel
theorem dX1_pairOthers_90 : decode cX1_pairOthers 90 = .ok (.if_icmp .ge 27, 3) := by decide +kernel
theorem dX1_pairOthers_93 : decode cX1_pairOthers 93 = .ok (.aload_n 0, 1) := by decide +kernel
theorem dX1_pairOthers_94 : decode cX1_pairOthers 94 = .ok (.getfield 28, 3) := by decide +kernel
theorem dX1_pairOthers_97 : decode cX1_pairOthers 97 = .ok (.aload_n 0, 1) := by decide +kernel
theorem dX1_pairOthers_98 : decode cX1_pairOthers 98 = .ok (.getfield 111, 3) := by decide +kernel
theorem dX1_pairOthers_101 : decode cX1_pairOthers 101 = .ok (.iload 6, 2) := by decide +kernel
theorem dX1_pairOthers_103 : decode cX1_pairOthers 103 = .ok (.iload 7, 2) := by decide +kernel
theorem dX1_pairOthers_105 : decode cX1_pairOthers 105 = .ok (.ior, 1) := by decide +kernel
theorem dX1_pairOthers_106 : decode cX1_pairOthers 106 = .ok (.iastore, 1) := by decide +kernel
theorem dX1_pairOthers_107 : decode cX1_pairOthers 107 = .ok (.aload_n 0, 1) := by decide +kernel
theorem dX1_pairOthers_108 : decode cX1_pairOthers 108 = .ok (.dup, 1) := by decide +kernel
theorem dX1_pairOthers_109 : decode cX1_pairOthers 109 = .ok (.getfield 111, 3) := by decide +kernel
theorem dX1_pairOthers_112 : decode cX1_pairOthers 112 = .ok (.iconst 1, 1) := by decide +kernel
theorem dX1_pairOthers_113 : decode cX1_pairOthers 113 = .ok (.iadd, 1) := by decide +kernel
theorem dX1_pairOthers_114 : decode cX1_pairOthers 114 = .ok (.putfield 111, 3) := by decide +kernel
theorem dX1_pairOthers_117 : decode cX1_pairOthers 117 = .ok (.iinc 5 1, 3) := by decide +kernel
theorem dX1_pairOthers_120 : decode cX1_pairOthers 120 = .ok (.goto (-83), 3) := by decide +kernel
theorem dX1_pairOthers_123 : decode cX1_pairOthers 123 = .ok (.iinc 4 1, 3) := by decide +kernel
theorem dX1_pairOthers_126 : decode cX1_pairOthers 126 = .ok (.goto (-106), 3) := by decide +kernel
theorem dX1_pairOthers_129 : decode cX1_pairOthers 129 = .ok (.return_, 1) := by decide +kernel
set_option maxRecDepth 20000 in
theorem ggX1_helpfulColours_X3_placeOf : GoodIn wsX1_helpfulColours wsX3_placeOf := gdW wa_1539 (by decide +kernel) (by decide +kernel)
set_option maxRecDepth 20000 in
theorem gX1_helpfulColours_X3_placeOf : GoodIn wsX1_helpfulColours (wsV RX1 114 RX3 yX3_placeOf wsX3_placeOf) := (gd1 wa_1536 (by decide +kernel) (gd1 wa_1537 (by decide +kernel) (gd1 wa_1538 (by decide +kernel) (gd1 wa_81 (by decide +kernel) ggX1_helpfulColours_X3_placeOf))))
set_option maxRecDepth 20000 in
theorem ggX1_helpfulColours_X1_coloursFree : GoodIn wsX1_helpfulColours wsX1_coloursFree := gdW wa_1543 (by decide +kernel) (by decide +kernel)
set_option maxRecDepth 20000 in
theorem gX1_helpfulColours_X1_coloursFree : GoodIn wsX1_helpfulColours (wsV RX1 117 RX1 yX1_coloursFree wsX1_coloursFree) := (gd1 wa_1540 (by decide +kernel) (gd1 wa_1541 (by decide +kernel) (gd1 wa_1542 (by decide +kernel) (gd1 wa_22 (by decide +kernel) ggX1_helpfulColours_X1_coloursFree))))
theorem dX1_helpfulColours_0 : decode cX1_helpfulColours 0 = .ok (.iconst 0, 1) := by decide +kernel
theorem dX1_helpfulColours_1 : decode cX1_helpfulColours 1 = .ok (.istore_n 3, 1) := by decide +kernel
theorem dX1_helpfulColours_2 : decode cX1_helpfulColours 2 = .ok (.iconst 0, 1) := by decide +kernel
theorem dX1_helpfulColours_3 : decode cX1_helpfulColours 3 = .ok (.istore 4, 2) := by decide +kernel
theorem dX1_helpfulColours_5 : decode cX1_helpfulColours 5 = .ok (.iload 4, 2) := by decide +kernel
theorem dX1_helpfulColours_7 : decode cX1_helpfulColours 7 = .ok (.aload_n 0, 1) := by decide +kernel
theorem dX1_helpfulColours_8 : decode cX1_helpfulColours 8 = .ok (.getfield 20, 3) := by decide +kernel
theorem dX1_helpfulColours_11 : decode cX1_helpfulColours 11 = .ok (.iload_n 1, 1) := by decide +kernel
theorem dX1_helpfulColours_12 : decode cX1_helpfulColours 12 = .ok (.aaload, 1) := by decide +kernel
theorem dX1_helpfulColours_13 : decode cX1_helpfulColours 13 = .ok (.getfield 52, 3) := by decide +kernel
theorem dX1_helpfulColours_16 : decode cX1_helpfulColours 16 = .ok (.if_icmp .ge 51, 3) := by decide +kernel
theorem dX1_helpfulColours_19 : decode cX1_helpfulColours 19 = .ok (.aload_n 0, 1) := by decide +kernel
theorem dX1_helpfulColours_20 : decode cX1_helpfulColours 20 = .ok (.getfield 20, 3) := by decide +kernel
theorem dX1_helpfulColours_23 : decode cX1_helpfulColours 23 = .ok (.iload_n 1, 1) := by decide +kernel
theorem dX1_helpfulColours_24 : decode cX1_helpfulColours 24 = .ok (.aaload, 1) := by decide +kernel
theorem dX1_helpfulColours_25 : decode cX1_helpfulColours 25 = .ok (.iload_n 2, 1) := by decide +kernel
theorem dX1_helpfulColours_26 : decode cX1_helpfulColours 26 = .ok (.iload 4, 2) := by decide +kernel
theorem dX1_helpfulColours_28 : decode cX1_helpfulColours 28 = .ok (.invokevirtual 114, 3) := by decide +kernel
theorem dX1_helpfulColours_31 : decode cX1_helpfulColours 31 = .ok (.iconst 2, 1) := by decide +kernel
theorem dX1_helpfulColours_32 : decode cX1_helpfulColours 32 = .ok (.isub, 1) := by decide +kernel
theorem dX1_helpfulColours_33 : decode cX1_helpfulColours 33 = .ok (.istore 5, 2) := by decide +kernel
theorem dX1_helpfulColours_35 : decode cX1_helpfulColours 35 = .ok (.iload 5, 2) := by decide +kernel
theorem dX1_helpfulColours_37 : decode cX1_helpfulColours 37 = .ok (.ifCond .lt 24, 3) := by decide +kernel
theorem dX1_helpfulColours_40 : decode cX1_helpfulColours 40 = .ok (.iload_n 3, 1) := by decide +kernel
theorem dX1_helpfulColours_41 : decode cX1_helpfulColours 41 = .ok (.aload_n 0, 1) := by decide +kernel
theorem dX1_helpfulColours_42 : decode cX1_helpfulColours 42 = .ok (.aload_n 0, 1) := by decide +kernel
theorem dX1_helpfulColours_43 : decode cX1_helpfulColours 43 = .ok (.getfield 25, 3) := by decide +kernel
theorem dX1_helpfulColours_46 : decode cX1_helpfulColours 46 = .ok (.iload_n 1, 1) := by decide +kernel
theorem dX1_helpfulColours_47 : decode cX1_helpfulColours 47 = .ok (.aaload, 1) := by decide +kernel
theorem dX1_helpfulColours_48 : decode cX1_helpfulColours 48 = .ok (.iload 4, 2) := by decide +kernel
theorem dX1_helpfulColours_50 : decode cX1_helpfulColours 50 = .ok (.iaload, 1) := by decide +kernel
theorem dX1_helpfulColours_51 : decode cX1_helpfulColours 51 = .ok (.iload 5, 2) := by decide +kernel
theorem dX1_helpfulColours_53 : decode cX1_helpfulColours 53 = .ok (.bipush 6, 2) := by decide +kernel
theorem dX1_helpfulColours_55 : decode cX1_helpfulColours 55 = .ok (.imul, 1) := by decide +kernel
theorem dX1_helpfulColours_56 : decode cX1_helpfulColours 56 = .ok (.invokevirtual 117, 3) := by decide +kernel
theorem dX1_helpfulColours_59 : decode cX1_helpfulColours 59 = .ok (.ior, 1) := by decide +kernel
theorem dX1_helpfulColours_60 : decode cX1_helpfulColours 60 = .ok (.istore_n 3, 1) := by decide +kernel
theorem dX1_helpfulColours_61 : decode cX1_helpfulColours 61 = .ok (.iinc 4 1, 3) := by decide +kernel
theorem dX1_helpfulColours_64 : decode cX1_helpfulColours 64 = .ok (.goto (-59), 3) := by decide +kernel
theorem dX1_helpfulColours_67 : decode cX1_helpfulColours 67 = .ok (.iload_n 3, 1) := by decide +kernel
theorem dX1_helpfulColours_68 : decode cX1_helpfulColours 68 = .ok (.ireturn, 1) := by decide +kernel
theorem dX1_coloursFree_0 : decode cX1_coloursFree 0 = .ok (.iload_n 1, 1) := by decide +kernel
theorem dX1_coloursFree_1 : decode cX1_coloursFree 1 = .ok (.bipush 63, 2) := by decide +kernel
theorem dX1_coloursFree_3 : decode cX1_coloursFree 3 = .ok (.iload_n 2, 1) := by decide +kernel
theorem dX1_coloursFree_4 : decode cX1_coloursFree 4 = .ok (.ishl, 1) := by decide +kernel
theorem dX1_coloursFree_5 : decode cX1_coloursFree 5 = .ok (.iconst (-1), 1) := by decide +kernel
theorem dX1_coloursFree_6 : decode cX1_coloursFree 6 = .ok (.ixor, 1) := by decide +kernel
theorem dX1_coloursFree_7 : decode cX1_coloursFree 7 = .ok (.iand, 1) := by decide +kernel
theorem dX1_coloursFree_8 : decode cX1_coloursFree 8 = .ok (.istore_n 3, 1) := by decide +kernel
theorem dX1_coloursFree_9 : decode cX1_coloursFree 9 = .ok (.iconst 0, 1) := by decide +kernel
theorem dX1_coloursFree_10 : decode cX1_coloursFree 10 = .ok (.istore 4, 2) := by decide +kernel
theorem dX1_coloursFree_12 : decode cX1_coloursFree 12 = .ok (.iconst 0, 1) := by decide +kernel
theorem dX1_coloursFree_13 : decode cX1_coloursFree 13 = .ok (.istore 5, 2) := by decide +kernel
theorem dX1_coloursFree_15 : decode cX1_coloursFree 15 = .ok (.iload 5, 2) := by decide +kernel
theorem dX1_coloursFree_17 : decode cX1_coloursFree 17 = .ok (.aload_n 0, 1) := by decide +kernel
theorem dX1_coloursFree_18 : decode cX1_coloursFree 18 = .ok (.getfield 111, 3) := by decide +kernel
theorem dX1_coloursFree_21 : decode cX1_coloursFree 21 = .ok (.if_icmp .ge 40, 3) := by decide +kernel
theorem dX1_coloursFree_24 : decode cX1_coloursFree 24 = .ok (.aload_n 0, 1) := by decide +kernel
theorem dX1_coloursFree_25 : decode cX1_coloursFree 25 = .ok (.getfield 28, 3) := by decide +kernel
theorem dX1_coloursFree_28 : decode cX1_coloursFree 28 = .ok (.iload 5, 2) := by decide +kernel
theorem dX1_coloursFree_30 : decode cX1_coloursFree 30 = .ok (.iaload, 1) := by decide +kernel
theorem dX1_coloursFree_31 : decode cX1_coloursFree 31 = .ok (.iload_n 3, 1) := by decide +kernel
theorem dX1_coloursFree_32 : decode cX1_coloursFree 32 = .ok (.iand, 1) := by decide +kernel
theorem dX1_coloursFree_33 : decode cX1_coloursFree 33 = .ok (.ifCond .ne 22, 3) := by decide +kernel
theorem dX1_coloursFree_36 : decode cX1_coloursFree 36 = .ok (.iload 4, 2) := by decide +kernel
theorem dX1_coloursFree_38 : decode cX1_coloursFree 38 = .ok (.aload_n 0, 1) := by decide +kernel
theorem dX1_coloursFree_39 : decode cX1_coloursFree 39 = .ok (.getfield 28, 3) := by decide +kernel
theorem dX1_coloursFree_42 : decode cX1_coloursFree 42 = .ok (.iload 5, 2) := by decide +kernel
theorem dX1_coloursFree_44 : decode cX1_coloursFree 44 = .ok (.iaload, 1) := by decide +kernel
theorem dX1_coloursFree_45 : decode cX1_coloursFree 45 = .ok (.iload_n 2, 1) := by decide +kernel
theorem dX1_coloursFree_46 : decode cX1_coloursFree 46 = .ok (.ishr, 1) := by decide +kernel
theorem dX1_coloursFree_47 : decode cX1_coloursFree 47 = .ok (.iconst (-1), 1) := by decide +kernel
theorem dX1_coloursFree_48 : decode cX1_coloursFree 48 = .ok (.ixor, 1) := by decide +kernel
theorem dX1_coloursFree_49 : decode cX1_coloursFree 49 = .ok (.bipush 63, 2) := by decide +kernel
theorem dX1_coloursFree_51 : decode cX1_coloursFree 51 = .ok (.iand, 1) := by decide +kernel
theorem dX1_coloursFree_52 : decode cX1_coloursFree 52 = .ok (.ior, 1) := by decide +kernel
theorem dX1_coloursFree_53 : decode cX1_coloursFree 53 = .ok (.istore 4, 2) := by decide +kernel
theorem dX1_coloursFree_55 : decode cX1_coloursFree 55 = .ok (.iinc 5 1, 3) := by decide +kernel
theorem dX1_coloursFree_58 : decode cX1_coloursFree 58 = .ok (.goto (-43), 3) := by decide +kernel
theorem dX1_coloursFree_61 : decode cX1_coloursFree 61 = .ok (.iload 4, 2) := by decide +kernel
theorem dX1_coloursFree_63 : decode cX1_coloursFree 63 = .ok (.ireturn, 1) := by decide +kernel
