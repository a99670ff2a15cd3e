theorem dX0_init_0 : decode cX0_init 0 = .ok (.aload_n 0, 1) := by decide +kernel
theorem dX0_init_1 : decode cX0_init 1 = .ok (.invokespecial 3, 3) := by decide +kernel
theorem dX0_init_4 : decode cX0_init 4 = .ok (.aload_n 0, 1) := by decide +kernel
theorem dX0_init_5 : decode cX0_init 5 = .ok (.bipush 31, 2) := by decide +kernel
theorem dX0_init_7 : decode cX0_init 7 = .ok (.putfield 9, 3) := by decide +kernel
theorem dX0_init_10 : decode cX0_init 10 = .ok (.aload_n 0, 1) := by decide +kernel
theorem dX0_init_11 : decode cX0_init 11 = .ok (.bipush 6, 2) := by decide +kernel
theorem dX0_init_13 : decode cX0_init 13 = .ok (.newarray .int, 2) := by decide +kernel
theorem dX0_init_15 : decode cX0_init 15 = .ok (.putfield 15, 3) := by decide +kernel
theorem dX0_init_18 : decode cX0_init 18 = .ok (.return_, 1) := by decide +kernel
set_option maxRecDepth 20000 in
theorem ggX0_turnOver_X4_turnRow : GoodIn wsX0_turnOver wsX4_turnRow := gdW wa_147 (by decide +kernel) (by decide +kernel)
set_option maxRecDepth 20000 in
theorem gX0_turnOver_X4_turnRow_n22 : GoodIn wsX0_turnOver (wsX4_turnRow) := ggX0_turnOver_X4_turnRow
theorem dX0_turnOver_0 : decode cX0_turnOver 0 = .ok (.aload_n 0, 1) := by decide +kernel
theorem dX0_turnOver_1 : decode cX0_turnOver 1 = .ok (.getfield 15, 3) := by decide +kernel
theorem dX0_turnOver_4 : decode cX0_turnOver 4 = .ok (.iconst 0, 1) := by decide +kernel
theorem dX0_turnOver_5 : decode cX0_turnOver 5 = .ok (.aload_n 0, 1) := by decide +kernel
theorem dX0_turnOver_6 : decode cX0_turnOver 6 = .ok (.getfield 19, 3) := by decide +kernel
theorem dX0_turnOver_9 : decode cX0_turnOver 9 = .ok (.iload_n 1, 1) := by decide +kernel
theorem dX0_turnOver_10 : decode cX0_turnOver 10 = .ok (.invokestatic 22, 3) := by decide +kernel
theorem dX0_turnOver_13 : decode cX0_turnOver 13 = .ok (.return_, 1) := by decide +kernel
theorem dX0_copyFrom_0 : decode cX0_copyFrom 0 = .ok (.aload_n 0, 1) := by decide +kernel
theorem dX0_copyFrom_1 : decode cX0_copyFrom 1 = .ok (.aload_n 1, 1) := by decide +kernel
theorem dX0_copyFrom_2 : decode cX0_copyFrom 2 = .ok (.getfield 19, 3) := by decide +kernel
theorem dX0_copyFrom_5 : decode cX0_copyFrom 5 = .ok (.putfield 19, 3) := by decide +kernel
theorem dX0_copyFrom_8 : decode cX0_copyFrom 8 = .ok (.aload_n 0, 1) := by decide +kernel
theorem dX0_copyFrom_9 : decode cX0_copyFrom 9 = .ok (.aload_n 1, 1) := by decide +kernel
theorem dX0_copyFrom_10 : decode cX0_copyFrom 10 = .ok (.getfield 9, 3) := by decide +kernel
theorem dX0_copyFrom_13 : decode cX0_copyFrom 13 = .ok (.putfield 9, 3) := by decide +kernel
theorem dX0_copyFrom_16 : decode cX0_copyFrom 16 = .ok (.aload_n 1, 1) := by decide +kernel
theorem dX0_copyFrom_17 : decode cX0_copyFrom 17 = .ok (.getfield 15, 3) := by decide +kernel
theorem dX0_copyFrom_20 : decode cX0_copyFrom 20 = .ok (.iconst 0, 1) := by decide +kernel
theorem dX0_copyFrom_21 : decode cX0_copyFrom 21 = .ok (.aload_n 0, 1) := by decide +kernel
theorem dX0_copyFrom_22 : decode cX0_copyFrom 22 = .ok (.getfield 15, 3) := by decide +kernel
theorem dX0_copyFrom_25 : decode cX0_copyFrom 25 = .ok (.iconst 0, 1) := by decide +kernel
theorem dX0_copyFrom_26 : decode cX0_copyFrom 26 = .ok (.bipush 6, 2) := by decide +kernel
theorem dX0_copyFrom_28 : decode cX0_copyFrom 28 = .ok (.invokestatic 26, 3) := by decide +kernel
theorem dX0_copyFrom_31 : decode cX0_copyFrom 31 = .ok (.return_, 1) := by decide +kernel
set_option maxRecDepth 20000 in
theorem ggX2_init_X0_init : GoodIn wsX2_init wsX0_init := gdW wa_72 (by decide +kernel) (by decide +kernel)
set_option maxRecDepth 20000 in
theorem gX2_init_X0_init_n11 : GoodIn wsX2_init (wsX0_init) := ggX2_init_X0_init
theorem dX2_init_0 : decode cX2_init 0 = .ok (.aload_n 0, 1) := by decide +kernel
theorem dX2_init_1 : decode cX2_init 1 = .ok (.invokespecial 3, 3) := by decide +kernel
theorem dX2_init_4 : decode cX2_init 4 = .ok (.aload_n 0, 1) := by decide +kernel
theorem dX2_init_5 : decode cX2_init 5 = .ok (.iconst 3, 1) := by decide +kernel
theorem dX2_init_6 : decode cX2_init 6 = .ok (.anewarray 9, 3) := by decide +kernel
theorem dX2_init_9 : decode cX2_init 9 = .ok (.dup, 1) := by decide +kernel
theorem dX2_init_10 : decode cX2_init 10 = .ok (.iconst 0, 1) := by decide +kernel
theorem dX2_init_11 : decode cX2_init 11 = .ok (.new 9, 3) := by decide +kernel
theorem dX2_init_14 : decode cX2_init 14 = .ok (.dup, 1) := by decide +kernel
theorem dX2_init_15 : decode cX2_init 15 = .ok (.invokespecial 11, 3) := by decide +kernel
theorem dX2_init_18 : decode cX2_init 18 = .ok (.aastore, 1) := by decide +kernel
theorem dX2_init_19 : decode cX2_init 19 = .ok (.dup, 1) := by decide +kernel
theorem dX2_init_20 : decode cX2_init 20 = .ok (.iconst 1, 1) := by decide +kernel
theorem dX2_init_21 : decode cX2_init 21 = .ok (.new 9, 3) := by decide +kernel
theorem dX2_init_24 : decode cX2_init 24 = .ok (.dup, 1) := by decide +kernel
theorem dX2_init_25 : decode cX2_init 25 = .ok (.invokespecial 11, 3) := by decide +kernel
theorem dX2_init_28 : decode cX2_init 28 = .ok (.aastore, 1) := by decide +kernel
theorem dX2_init_29 : decode cX2_init 29 = .ok (.dup, 1) := by decide +kernel
theorem dX2_init_30 : decode cX2_init 30 = .ok (.iconst 2, 1) := by decide +kernel
theorem dX2_init_31 : decode cX2_init 31 = .ok (.new 9, 3) := by decide +kernel
theorem dX2_init_34 : decode cX2_init 34 = .ok (.dup, 1) := by decide +kernel
theorem dX2_init_35 : decode cX2_init 35 = .ok (.invokespecial 11, 3) := by decide +kernel
theorem dX2_init_38 : decode cX2_init 38 = .ok (.aastore, 1) := by decide +kernel
theorem dX2_init_39 : decode cX2_init 39 = .ok (.putfield 12, 3) := by decide +kernel
theorem dX2_init_42 : decode cX2_init 42 = .ok (.return_, 1) := by decide +kernel
theorem dX2_has_0 : decode cX2_has 0 = .ok (.iload_n 1, 1) := by decide +kernel
theorem dX2_has_1 : decode cX2_has 1 = .ok (.ifCond .lt 20, 3) := by decide +kernel
theorem dX2_has_4 : decode cX2_has 4 = .ok (.iload_n 1, 1) := by decide +kernel
theorem dX2_has_5 : decode cX2_has 5 = .ok (.aload_n 0, 1) := by decide +kernel
theorem dX2_has_6 : decode cX2_has 6 = .ok (.getfield 18, 3) := by decide +kernel
theorem dX2_has_9 : decode cX2_has 9 = .ok (.if_icmp .ge 12, 3) := by decide +kernel
theorem dX2_has_12 : decode cX2_has 12 = .ok (.iload_n 1, 1) := by decide +kernel
theorem dX2_has_13 : decode cX2_has 13 = .ok (.iconst 3, 1) := by decide +kernel
theorem dX2_has_14 : decode cX2_has 14 = .ok (.if_icmp .ge 7, 3) := by decide +kernel
theorem dX2_has_17 : decode cX2_has 17 = .ok (.iconst 1, 1) := by decide +kernel
theorem dX2_has_18 : decode cX2_has 18 = .ok (.goto 4, 3) := by decide +kernel
theorem dX2_has_21 : decode cX2_has 21 = .ok (.iconst 0, 1) := by decide +kernel
theorem dX2_has_22 : decode cX2_has 22 = .ok (.ireturn, 1) := by decide +kernel
set_option maxRecDepth 20000 in
theorem ggX2_copyFrom_X0_copyFrom : GoodIn wsX2_copyFrom wsX0_copyFrom := gdW wa_1728 (by decide +kernel) (by decide +kernel)
set_option maxRecDepth 20000 in
theorem gX2_copyFrom_X0_copyFrom : GoodIn wsX2_copyFrom (wsV RX2 28 RX0 yX0_copyFrom wsX0_copyFrom) := (gd1 wa_1685 (by decide +kernel) (gd1 wa_1686 (by decide +kernel) (gd1 wa_1687 (by decide +kernel) (gd1 wa_69 (by decide +kernel) ggX2_copyFrom_X0_copyFrom))))
theorem dX2_copyFrom_0 : decode cX2_copyFrom 0 = .ok (.aload_n 0, 1) := by decide +kernel
theorem dX2_copyFrom_1 : decode cX2_copyFrom 1 = .ok (.aload_n 1, 1) := by decide +kernel
theorem dX2_copyFrom_2 : decode cX2_copyFrom 2 = .ok (.getfield 18, 3) := by decide +kernel
theorem dX2_copyFrom_5 : decode cX2_copyFrom 5 = .ok (.putfield 18, 3) := by decide +kernel
theorem dX2_copyFrom_8 : decode cX2_copyFrom 8 = .ok (.aload_n 0, 1) := by decide +kernel
theorem dX2_copyFrom_9 : decode cX2_copyFrom 9 = .ok (.aload_n 1, 1) := by decide +kernel
theorem dX2_copyFrom_10 : decode cX2_copyFrom 10 = .ok (.getfield 22, 3) := by decide +kernel
theorem dX2_copyFrom_13 : decode cX2_copyFrom 13 = .ok (.putfield 22, 3) := by decide +kernel
theorem dX2_copyFrom_16 : decode cX2_copyFrom 16 = .ok (.aload_n 0, 1) := by decide +kernel
theorem dX2_copyFrom_17 : decode cX2_copyFrom 17 = .ok (.aload_n 1, 1) := by decide +kernel
theorem dX2_copyFrom_18 : decode cX2_copyFrom 18 = .ok (.getfield 25, 3) := by decide +kernel
theorem dX2_copyFrom_21 : decode cX2_copyFrom 21 = .ok (.putfield 25, 3) := by decide +kernel
theorem dX2_copyFrom_24 : decode cX2_copyFrom 24 = .ok (.iconst 0, 1) := by decide +kernel
theorem dX2_copyFrom_25 : decode cX2_copyFrom 25 = .ok (.istore_n 2, 1) := by decide +kernel
theorem dX2_copyFrom_26 : decode cX2_copyFrom 26 = .ok (.iload_n 2, 1) := by decide +kernel
theorem dX2_copyFrom_27 : decode cX2_copyFrom 27 = .ok (.iconst 3, 1) := by decide +kernel
theorem dX2_copyFrom_28 : decode cX2_copyFrom 28 = .ok (.if_icmp .ge 24, 3) := by decide +kernel
theorem dX2_copyFrom_31 : decode cX2_copyFrom 31 = .ok (.aload_n 0, 1) := by decide +kernel
theorem dX2_copyFrom_32 : decode cX2_copyFrom 32 = .ok (.getfield 12, 3) := by decide +kernel
theorem dX2_copyFrom_35 : decode cX2_copyFrom 35 = .ok (.iload_n 2, 1) := by decide +kernel
theorem dX2_copyFrom_36 : decode cX2_copyFrom 36 = .ok (.aaload, 1) := by decide +kernel
theorem dX2_copyFrom_37 : decode cX2_copyFrom 37 = .ok (.aload_n 1, 1) := by decide +kernel
theorem dX2_copyFrom_38 : decode cX2_copyFrom 38 = .ok (.getfield 12, 3) := by decide +kernel
theorem dX2_copyFrom_41 : decode cX2_copyFrom 41 = .ok (.iload_n 2, 1) := by decide +kernel
theorem dX2_copyFrom_42 : decode cX2_copyFrom 42 = .ok (.aaload, 1) := by decide +kernel
theorem dX2_copyFrom_43 : decode cX2_copyFrom 43 = .ok (.invokevirtual 28, 3) := by decide +kernel
theorem dX2_copyFrom_46 : decode cX2_copyFrom 46 = .ok (.iinc 2 1, 3) := by decide +kernel
theorem dX2_copyFrom_49 : decode cX2_copyFrom 49 = .ok (.goto (-23), 3) := by decide +kernel
theorem dX2_copyFrom_52 : decode cX2_copyFrom 52 = .ok (.return_, 1) := by decide +kernel
theorem dX2_forgetAll_0 : decode cX2_forgetAll 0 = .ok (.aload_n 0, 1) := by decide +kernel
theorem dX2_forgetAll_1 : decode cX2_forgetAll 1 = .ok (.iconst 0, 1) := by decide +kernel
theorem dX2_forgetAll_2 : decode cX2_forgetAll 2 = .ok (.putfield 25, 3) := by decide +kernel
theorem dX2_forgetAll_5 : decode cX2_forgetAll 5 = .ok (.iconst 0, 1) := by decide +kernel
theorem dX2_forgetAll_6 : decode cX2_forgetAll 6 = .ok (.istore_n 1, 1) := by decide +kernel
theorem dX2_forgetAll_7 : decode cX2_forgetAll 7 = .ok (.iload_n 1, 1) := by decide +kernel
theorem dX2_forgetAll_8 : decode cX2_forgetAll 8 = .ok (.iconst 3, 1) := by decide +kernel
theorem dX2_forgetAll_9 : decode cX2_forgetAll 9 = .ok (.if_icmp .ge 20, 3) := by decide +kernel
theorem dX2_forgetAll_12 : decode cX2_forgetAll 12 = .ok (.aload_n 0, 1) := by decide +kernel
theorem dX2_forgetAll_13 : decode cX2_forgetAll 13 = .ok (.getfield 12, 3) := by decide +kernel
theorem dX2_forgetAll_16 : decode cX2_forgetAll 16 = .ok (.iload_n 1, 1) := by decide +kernel
theorem dX2_forgetAll_17 : decode cX2_forgetAll 17 = .ok (.aaload, 1) := by decide +kernel
theorem dX2_forgetAll_18 : decode cX2_forgetAll 18 = .ok (.bipush 31, 2) := by decide +kernel
theorem dX2_forgetAll_20 : decode cX2_forgetAll 20 = .ok (.putfield 32, 3) := by decide +kernel
theorem dX2_forgetAll_23 : decode cX2_forgetAll 23 = .ok (.iinc 1 1, 3) := by decide +kernel
theorem dX2_forgetAll_26 : decode cX2_forgetAll 26 = .ok (.goto (-19), 3) := by decide +kernel
theorem dX2_forgetAll_29 : decode cX2_forgetAll 29 = .ok (.return_, 1) := by decide +kernel
theorem dX2_clashesOn_0 : decode cX2_clashesOn 0 = .ok (.iconst 2, 1) := by decide +kernel
theorem dX2_clashesOn_1 : decode cX2_clashesOn 1 = .ok (.iload_n 1, 1) := by decide +kernel
theorem dX2_clashesOn_2 : decode cX2_clashesOn 2 = .ok (.iadd, 1) := by decide +kernel
theorem dX2_clashesOn_3 : decode cX2_clashesOn 3 = .ok (.istore_n 2, 1) := by decide +kernel
theorem dX2_clashesOn_4 : decode cX2_clashesOn 4 = .ok (.iconst 0, 1) := by decide +kernel
theorem dX2_clashesOn_5 : decode cX2_clashesOn 5 = .ok (.istore_n 3, 1) := by decide +kernel
theorem dX2_clashesOn_6 : decode cX2_clashesOn 6 = .ok (.iconst 1, 1) := by decide +kernel
theorem dX2_clashesOn_7 : decode cX2_clashesOn 7 = .ok (.istore 4, 2) := by decide +kernel
theorem dX2_clashesOn_9 : decode cX2_clashesOn 9 = .ok (.iload 4, 2) := by decide +kernel
theorem dX2_clashesOn_11 : decode cX2_clashesOn 11 = .ok (.aload_n 0, 1) := by decide +kernel
theorem dX2_clashesOn_12 : decode cX2_clashesOn 12 = .ok (.getfield 18, 3) := by decide +kernel
theorem dX2_clashesOn_15 : decode cX2_clashesOn 15 = .ok (.if_icmp .ge 61, 3) := by decide +kernel
theorem dX2_clashesOn_18 : decode cX2_clashesOn 18 = .ok (.iload 4, 2) := by decide +kernel
theorem dX2_clashesOn_20 : decode cX2_clashesOn 20 = .ok (.iconst 3, 1) := by decide +kernel
theorem dX2_clashesOn_21 : decode cX2_clashesOn 21 = .ok (.if_icmp .ge 55, 3) := by decide +kernel
theorem dX2_clashesOn_24 : decode cX2_clashesOn 24 = .ok (.iconst 0, 1) := by decide +kernel
theorem dX2_clashesOn_25 : decode cX2_clashesOn 25 = .ok (.istore 5, 2) := by decide +kernel
theorem dX2_clashesOn_27 : decode cX2_clashesOn 27 = .ok (.iload 5, 2) := by decide +kernel
theorem dX2_clashesOn_29 : decode cX2_clashesOn 29 = .ok (.iload 4, 2) := by decide +kernel
theorem dX2_clashesOn_31 : decode cX2_clashesOn 31 = .ok (.if_icmp .ge 39, 3) := by decide +kernel
theorem dX2_clashesOn_34 : decode cX2_clashesOn 34 = .ok (.aload_n 0, 1) := by decide +kernel
theorem dX2_clashesOn_35 : decode cX2_clashesOn 35 = .ok (.getfield 12, 3) := by decide +kernel
theorem dX2_clashesOn_38 : decode cX2_clashesOn 38 = .ok (.iload 4, 2) := by decide +kernel
theorem dX2_clashesOn_40 : decode cX2_clashesOn 40 = .ok (.aaload, 1) := by decide +kernel
theorem dX2_clashesOn_41 : decode cX2_clashesOn 41 = .ok (.getfield 35, 3) := by decide +kernel
theorem dX2_clashesOn_44 : decode cX2_clashesOn 44 = .ok (.iload_n 2, 1) := by decide +kernel
theorem dX2_clashesOn_45 : decode cX2_clashesOn 45 = .ok (.iaload, 1) := by decide +kernel
theorem dX2_clashesOn_46 : decode cX2_clashesOn 46 = .ok (.aload_n 0, 1) := by decide +kernel
theorem dX2_clashesOn_47 : decode cX2_clashesOn 47 = .ok (.getfield 12, 3) := by decide +kernel
theorem dX2_clashesOn_50 : decode cX2_clashesOn 50 = .ok (.iload 5, 2) := by decide +kernel
theorem dX2_clashesOn_52 : decode cX2_clashesOn 52 = .ok (.aaload, 1) := by decide +kernel
theorem dX2_clashesOn_53 : decode cX2_clashesOn 53 = .ok (.getfield 35, 3) := by decide +kernel
theorem dX2_clashesOn_56 : decode cX2_clashesOn 56 = .ok (.iload_n 2, 1) := by decide +kernel
theorem dX2_clashesOn_57 : decode cX2_clashesOn 57 = .ok (.iaload, 1) := by decide +kernel
theorem dX2_clashesOn_58 : decode cX2_clashesOn 58 = .ok (.if_icmp .ne 6, 3) := by decide +kernel
theorem dX2_clashesOn_61 : decode cX2_clashesOn 61 = .ok (.iinc 3 1, 3) := by decide +kernel
theorem dX2_clashesOn_64 : decode cX2_clashesOn 64 = .ok (.iinc 5 1, 3) := by decide +kernel
theorem dX2_clashesOn_67 : decode cX2_clashesOn 67 = .ok (.goto (-40), 3) := by decide +kernel
theorem dX2_clashesOn_70 : decode cX2_clashesOn 70 = .ok (.iinc 4 1, 3) := by decide +kernel
theorem dX2_clashesOn_73 : decode cX2_clashesOn 73 = .ok (.goto (-64), 3) := by decide +kernel
theorem dX2_clashesOn_76 : decode cX2_clashesOn 76 = .ok (.iload_n 3, 1) := by decide +kernel
theorem dX2_clashesOn_77 : decode cX2_clashesOn 77 = .ok (.ireturn, 1) := by decide +kernel
set_option maxRecDepth 20000 in
theorem ggX2_clashes_X2_clashesOn : GoodIn wsX2_clashes wsX2_clashesOn := gdW wa_905 (by decide +kernel) (by decide +kernel)
set_option maxRecDepth 20000 in
theorem gX2_clashes_X2_clashesOn : GoodIn wsX2_clashes (wsV RX2 39 RX2 yX2_clashesOn wsX2_clashesOn) := (gd1 wa_976 (by decide +kernel) (gd1 wa_903 (by decide +kernel) (gd1 wa_904 (by decide +kernel) (gd1 wa_16 (by decide +kernel) ggX2_clashes_X2_clashesOn))))
theorem dX2_clashes_0 : decode cX2_clashes 0 = .ok (.iconst 0, 1) := by decide +kernel
theorem dX2_clashes_1 : decode cX2_clashes 1 = .ok (.istore_n 1, 1) := by decide +kernel
theorem dX2_clashes_2 : decode cX2_clashes 2 = .ok (.iconst 0, 1) := by decide +kernel
theorem dX2_clashes_3 : decode cX2_clashes 3 = .ok (.istore_n 2, 1) := by decide +kernel
theorem dX2_clashes_4 : decode cX2_clashes 4 = .ok (.iload_n 2, 1) := by decide +kernel
theorem dX2_clashes_5 : decode cX2_clashes 5 = .ok (.iconst 4, 1) := by decide +kernel
theorem dX2_clashes_6 : decode cX2_clashes 6 = .ok (.if_icmp .ge 17, 3) := by decide +kernel
theorem dX2_clashes_9 : decode cX2_clashes 9 = .ok (.iload_n 1, 1) := by decide +kernel
theorem dX2_clashes_10 : decode cX2_clashes 10 = .ok (.aload_n 0, 1) := by decide +kernel
theorem dX2_clashes_11 : decode cX2_clashes 11 = .ok (.iload_n 2, 1) := by decide +kernel
theorem dX2_clashes_12 : decode cX2_clashes 12 = .ok (.invokevirtual 39, 3) := by decide +kernel
theorem dX2_clashes_15 : decode cX2_clashes 15 = .ok (.iadd, 1) := by decide +kernel
theorem dX2_clashes_16 : decode cX2_clashes 16 = .ok (.istore_n 1, 1) := by decide +kernel
theorem dX2_clashes_17 : decode cX2_clashes 17 = .ok (.iinc 2 1, 3) := by decide +kernel
theorem dX2_clashes_20 : decode cX2_clashes 20 = .ok (.goto (-16), 3) := by decide +kernel
theorem dX2_clashes_23 : decode cX2_clashes 23 = .ok (.iload_n 1, 1) := by decide +kernel
theorem dX2_clashes_24 : decode cX2_clashes 24 = .ok (.ireturn, 1) := by decide +kernel
set_option maxRecDepth 20000 in
theorem ggX2_goodWalls_X2_clashesOn : GoodIn wsX2_goodWalls wsX2_clashesOn := gdW wa_905 (by decide +kernel) (by decide +kernel)
set_option maxRecDepth 20000 in
theorem gX2_goodWalls_X2_clashesOn : GoodIn wsX2_goodWalls (wsV RX2 39 RX2 yX2_clashesOn wsX2_clashesOn) := (gd1 wa_976 (by decide +kernel) (gd1 wa_903 (by decide +kernel) (gd1 wa_904 (by decide +kernel) (gd1 wa_16 (by decide +kernel) ggX2_goodWalls_X2_clashesOn))))
theorem dX2_goodWalls_0 : decode cX2_goodWalls 0 = .ok (.iconst 0, 1) := by decide +kernel
theorem dX2_goodWalls_1 : decode cX2_goodWalls 1 = .ok (.istore_n 1, 1) := by decide +kernel
theorem dX2_goodWalls_2 : decode cX2_goodWalls 2 = .ok (.iconst 0, 1) := by decide +kernel
theorem dX2_goodWalls_3 : decode cX2_goodWalls 3 = .ok (.istore_n 2, 1) := by decide +kernel
theorem dX2_goodWalls_4 : decode cX2_goodWalls 4 = .ok (.iload_n 2, 1) := by decide +kernel
theorem dX2_goodWalls_5 : decode cX2_goodWalls 5 = .ok (.iconst 4, 1) := by decide +kernel
theorem dX2_goodWalls_6 : decode cX2_goodWalls 6 = .ok (.if_icmp .ge 27, 3) := by decide +kernel
theorem dX2_goodWalls_9 : decode cX2_goodWalls 9 = .ok (.aload_n 0, 1) := by decide +kernel
theorem dX2_goodWalls_10 : decode cX2_goodWalls 10 = .ok (.getfield 18, 3) := by decide +kernel
theorem dX2_goodWalls_13 : decode cX2_goodWalls 13 = .ok (.ifCond .le 20, 3) := by decide +kernel
theorem dX2_goodWalls_16 : decode cX2_goodWalls 16 = .ok (.aload_n 0, 1) := by decide +kernel
theorem dX2_goodWalls_17 : decode cX2_goodWalls 17 = .ok (.iload_n 2, 1) := by decide +kernel
theorem dX2_goodWalls_18 : decode cX2_goodWalls 18 = .ok (.invokevirtual 39, 3) := by decide +kernel
theorem dX2_goodWalls_21 : decode cX2_goodWalls 21 = .ok (.ifCond .ne 6, 3) := by decide +kernel
theorem dX2_goodWalls_24 : decode cX2_goodWalls 24 = .ok (.iinc 1 1, 3) := by decide +kernel
theorem dX2_goodWalls_27 : decode cX2_goodWalls 27 = .ok (.iinc 2 1, 3) := by decide +kernel
theorem dX2_goodWalls_30 : decode cX2_goodWalls 30 = .ok (.goto (-26), 3) := by decide +kernel
theorem dX2_goodWalls_33 : decode cX2_goodWalls 33 = .ok (.iload_n 1, 1) := by decide +kernel
theorem dX2_goodWalls_34 : decode cX2_goodWalls 34 = .ok (.ireturn, 1) := by decide +kernel
set_option maxRecDepth 20000 in
theorem ggX2_coloursUsed_J6_bitCount_0f7a4 : GoodIn wsX2_coloursUsed wsJ6_bitCount_0f7a4 := gdW wa_726 (by decide +kernel) (by decide +kernel)
set_option maxRecDepth 20000 in
theorem gX2_coloursUsed_J6_bitCount_0f7a4 : GoodIn wsX2_coloursUsed (va_wsS RX2 43 yJ6_bitCount_0f7a4 wsJ6_bitCount_0f7a4) := (gd1 wa_1869 (by decide +kernel) (gd1 wa_724 (by decide +kernel) (gd1 wa_725 (by decide +kernel) ggX2_coloursUsed_J6_bitCount_0f7a4)))
theorem dX2_coloursUsed_0 : decode cX2_coloursUsed 0 = .ok (.iconst 0, 1) := by decide +kernel
theorem dX2_coloursUsed_1 : decode cX2_coloursUsed 1 = .ok (.istore_n 1, 1) := by decide +kernel
theorem dX2_coloursUsed_2 : decode cX2_coloursUsed 2 = .ok (.iconst 0, 1) := by decide +kernel
theorem dX2_coloursUsed_3 : decode cX2_coloursUsed 3 = .ok (.istore_n 2, 1) := by decide +kernel
theorem dX2_coloursUsed_4 : decode cX2_coloursUsed 4 = .ok (.iload_n 2, 1) := by decide +kernel
theorem dX2_coloursUsed_5 : decode cX2_coloursUsed 5 = .ok (.aload_n 0, 1) := by decide +kernel
theorem dX2_coloursUsed_6 : decode cX2_coloursUsed 6 = .ok (.getfield 18, 3) := by decide +kernel
theorem dX2_coloursUsed_9 : decode cX2_coloursUsed 9 = .ok (.if_icmp .ge 44, 3) := by decide +kernel
theorem dX2_coloursUsed_12 : decode cX2_coloursUsed 12 = .ok (.iload_n 2, 1) := by decide +kernel
theorem dX2_coloursUsed_13 : decode cX2_coloursUsed 13 = .ok (.iconst 3, 1) := by decide +kernel
theorem dX2_coloursUsed_14 : decode cX2_coloursUsed 14 = .ok (.if_icmp .ge 39, 3) := by decide +kernel
theorem dX2_coloursUsed_17 : decode cX2_coloursUsed 17 = .ok (.iconst 0, 1) := by decide +kernel
theorem dX2_coloursUsed_18 : decode cX2_coloursUsed 18 = .ok (.istore_n 3, 1) := by decide +kernel
theorem dX2_coloursUsed_19 : decode cX2_coloursUsed 19 = .ok (.iload_n 3, 1) := by decide +kernel
theorem dX2_coloursUsed_20 : decode cX2_coloursUsed 20 = .ok (.bipush 6, 2) := by decide +kernel
theorem dX2_coloursUsed_22 : decode cX2_coloursUsed 22 = .ok (.if_icmp .ge 25, 3) := by decide +kernel
theorem dX2_coloursUsed_25 : decode cX2_coloursUsed 25 = .ok (.iload_n 1, 1) := by decide +kernel
theorem dX2_coloursUsed_26 : decode cX2_coloursUsed 26 = .ok (.iconst 1, 1) := by decide +kernel
theorem dX2_coloursUsed_27 : decode cX2_coloursUsed 27 = .ok (.aload_n 0, 1) := by decide +kernel
theorem dX2_coloursUsed_28 : decode cX2_coloursUsed 28 = .ok (.getfield 12, 3) := by decide +kernel
theorem dX2_coloursUsed_31 : decode cX2_coloursUsed 31 = .ok (.iload_n 2, 1) := by decide +kernel
theorem dX2_coloursUsed_32 : decode cX2_coloursUsed 32 = .ok (.aaload, 1) := by decide +kernel
theorem dX2_coloursUsed_33 : decode cX2_coloursUsed 33 = .ok (.getfield 35, 3) := by decide +kernel
theorem dX2_coloursUsed_36 : decode cX2_coloursUsed 36 = .ok (.iload_n 3, 1) := by decide +kernel
theorem dX2_coloursUsed_37 : decode cX2_coloursUsed 37 = .ok (.iaload, 1) := by decide +kernel
theorem dX2_coloursUsed_38 : decode cX2_coloursUsed 38 = .ok (.ishl, 1) := by decide +kernel
theorem dX2_coloursUsed_39 : decode cX2_coloursUsed 39 = .ok (.ior, 1) := by decide +kernel
theorem dX2_coloursUsed_40 : decode cX2_coloursUsed 40 = .ok (.istore_n 1, 1) := by decide +kernel
theorem dX2_coloursUsed_41 : decode cX2_coloursUsed 41 = .ok (.iinc 3 1, 3) := by decide +kernel
theorem dX2_coloursUsed_44 : decode cX2_coloursUsed 44 = .ok (.goto (-25), 3) := by decide +kernel
theorem dX2_coloursUsed_47 : decode cX2_coloursUsed 47 = .ok (.iinc 2 1, 3) := by decide +kernel
theorem dX2_coloursUsed_50 : decode cX2_coloursUsed 50 = .ok (.goto (-46), 3) := by decide +kernel
theorem dX2_coloursUsed_53 : decode cX2_coloursUsed 53 = .ok (.iload_n 1, 1) := by decide +kernel
theorem dX2_coloursUsed_54 : decode cX2_coloursUsed 54 = .ok (.invokestatic 43, 3) := by decide +kernel
theorem dX2_coloursUsed_57 : decode cX2_coloursUsed 57 = .ok (.ireturn, 1) := by decide +kernel
set_option maxRecDepth 20000 in
theorem ggX3_init_X4_canTurn : GoodIn wsX3_init wsX4_canTurn := gdW wa_136 (by decide +kernel) (by decide +kernel)
set_option maxRecDepth 20000 in
theorem gX3_init_X4_canTurn_n25 : GoodIn wsX3_init (wsX4_canTurn) := ggX3_init_X4_canTurn
set_option maxRecDepth 20000 in
theorem ggX3_init_X3_reach : GoodIn wsX3_init wsX3_reach := gdW wa_141 (by decide +kernel) (by decide +kernel)
set_option maxRecDepth 20000 in
theorem gX3_init_X3_reach : GoodIn wsX3_init (wsV RX3 29 RX3 yX3_reach wsX3_reach) := (gd1 wa_138 (by decide +kernel) (gd1 wa_139 (by decide +kernel) (gd1 wa_140 (by decide +kernel) (gd1 wa_81 (by decide +kernel) ggX3_init_X3_reach))))
theorem dX3_init_0 : decode cX3_init 0 = .ok (.aload_n 0, 1) := by decide +kernel
theorem dX3_init_1 : decode cX3_init 1 = .ok (.invokespecial 3, 3) := by decide +kernel
theorem dX3_init_4 : decode cX3_init 4 = .ok (.aload_n 0, 1) := by decide +kernel
theorem dX3_init_5 : decode cX3_init 5 = .ok (.iconst 1, 1) := by decide +kernel
theorem dX3_init_6 : decode cX3_init 6 = .ok (.putfield 9, 3) := by decide +kernel
theorem dX3_init_9 : decode cX3_init 9 = .ok (.aload_n 0, 1) := by decide +kernel
theorem dX3_init_10 : decode cX3_init 10 = .ok (.sipush 150, 3) := by decide +kernel
theorem dX3_init_13 : decode cX3_init 13 = .ok (.newarray .int, 2) := by decide +kernel
theorem dX3_init_15 : decode cX3_init 15 = .ok (.putfield 15, 3) := by decide +kernel
theorem dX3_init_18 : decode cX3_init 18 = .ok (.aload_n 0, 1) := by decide +kernel
theorem dX3_init_19 : decode cX3_init 19 = .ok (.bipush 24, 2) := by decide +kernel
theorem dX3_init_21 : decode cX3_init 21 = .ok (.newarray .int, 2) := by decide +kernel
theorem dX3_init_23 : decode cX3_init 23 = .ok (.putfield 19, 3) := by decide +kernel
theorem dX3_init_26 : decode cX3_init 26 = .ok (.aload_n 0, 1) := by decide +kernel
theorem dX3_init_27 : decode cX3_init 27 = .ok (.bipush 24, 2) := by decide +kernel
theorem dX3_init_29 : decode cX3_init 29 = .ok (.newarray .int, 2) := by decide +kernel
theorem dX3_init_31 : decode cX3_init 31 = .ok (.putfield 22, 3) := by decide +kernel
theorem dX3_init_34 : decode cX3_init 34 = .ok (.iconst 0, 1) := by decide +kernel
theorem dX3_init_35 : decode cX3_init 35 = .ok (.istore_n 2, 1) := by decide +kernel
theorem dX3_init_36 : decode cX3_init 36 = .ok (.iload_n 2, 1) := by decide +kernel
theorem dX3_init_37 : decode cX3_init 37 = .ok (.bipush 6, 2) := by decide +kernel
theorem dX3_init_39 : decode cX3_init 39 = .ok (.if_icmp .ge 16, 3) := by decide +kernel
theorem dX3_init_42 : decode cX3_init 42 = .ok (.aload_n 0, 1) := by decide +kernel
theorem dX3_init_43 : decode cX3_init 43 = .ok (.getfield 15, 3) := by decide +kernel
theorem dX3_init_46 : decode cX3_init 46 = .ok (.iload_n 2, 1) := by decide +kernel
theorem dX3_init_47 : decode cX3_init 47 = .ok (.iload_n 2, 1) := by decide +kernel
theorem dX3_init_48 : decode cX3_init 48 = .ok (.iastore, 1) := by decide +kernel
theorem dX3_init_49 : decode cX3_init 49 = .ok (.iinc 2 1, 3) := by decide +kernel
theorem dX3_init_52 : decode cX3_init 52 = .ok (.goto (-16), 3) := by decide +kernel
theorem dX3_init_55 : decode cX3_init 55 = .ok (.iconst 0, 1) := by decide +kernel
theorem dX3_init_56 : decode cX3_init 56 = .ok (.istore_n 2, 1) := by decide +kernel
theorem dX3_init_57 : decode cX3_init 57 = .ok (.iload_n 2, 1) := by decide +kernel
theorem dX3_init_58 : decode cX3_init 58 = .ok (.aload_n 0, 1) := by decide +kernel
theorem dX3_init_59 : decode cX3_init 59 = .ok (.getfield 9, 3) := by decide +kernel
theorem dX3_init_62 : decode cX3_init 62 = .ok (.if_icmp .ge 43, 3) := by decide +kernel
theorem dX3_init_65 : decode cX3_init 65 = .ok (.iload_n 2, 1) := by decide +kernel
theorem dX3_init_66 : decode cX3_init 66 = .ok (.bipush 24, 2) := by decide +kernel
theorem dX3_init_68 : decode cX3_init 68 = .ok (.if_icmp .ge 37, 3) := by decide +kernel
theorem dX3_init_71 : decode cX3_init 71 = .ok (.iconst 0, 1) := by decide +kernel
theorem dX3_init_72 : decode cX3_init 72 = .ok (.istore_n 3, 1) := by decide +kernel
theorem dX3_init_73 : decode cX3_init 73 = .ok (.iload_n 3, 1) := by decide +kernel
theorem dX3_init_74 : decode cX3_init 74 = .ok (.iconst 4, 1) := by decide +kernel
theorem dX3_init_75 : decode cX3_init 75 = .ok (.if_icmp .ge 24, 3) := by decide +kernel
theorem dX3_init_78 : decode cX3_init 78 = .ok (.iload_n 1, 1) := by decide +kernel
theorem dX3_init_79 : decode cX3_init 79 = .ok (.iload_n 3, 1) := by decide +kernel
theorem dX3_init_80 : decode cX3_init 80 = .ok (.invokestatic 25, 3) := by decide +kernel
theorem dX3_init_83 : decode cX3_init 83 = .ok (.ifCond .eq 10, 3) := by decide +kernel
theorem dX3_init_86 : decode cX3_init 86 = .ok (.aload_n 0, 1) := by decide +kernel
theorem dX3_init_87 : decode cX3_init 87 = .ok (.iload_n 2, 1) := by decide +kernel
theorem dX3_init_88 : decode cX3_init 88 = .ok (.iload_n 1, 1) := by decide +kernel
theorem dX3_init_89 : decode cX3_init 89 = .ok (.iload_n 3, 1) := by decide +kernel
theorem dX3_init_90 : decode cX3_init 90 = .ok (.invokevirtual 29, 3) := by decide +kernel
theorem dX3_init_93 : decode cX3_init 93 = .ok (.iinc 3 1, 3) := by decide +kernel
theorem dX3_init_96 : decode cX3_init 96 = .ok (.goto (-23), 3) := by decide +kernel
theorem dX3_init_99 : decode cX3_init 99 = .ok (.iinc 2 1, 3) := by decide +kernel
theorem dX3_init_102 : decode cX3_init 102 = .ok (.goto (-45), 3) := by decide +kernel
theorem dX3_init_105 : decode cX3_init 105 = .ok (.return_, 1) := by decide +kernel
set_option maxRecDepth 20000 in
theorem ggX3_reach_X4_turnRow : GoodIn wsX3_reach wsX4_turnRow := gdW wa_147 (by decide +kernel) (by decide +kernel)
set_option maxRecDepth 20000 in
theorem gX3_reach_X4_turnRow_n39 : GoodIn wsX3_reach (wsX4_turnRow) := ggX3_reach_X4_turnRow
set_option maxRecDepth 20000 in
theorem ggX3_reach_X3_find : GoodIn wsX3_reach wsX3_find := gdW wa_192 (by decide +kernel) (by decide +kernel)
set_option maxRecDepth 20000 in
theorem gX3_reach_X3_find : GoodIn wsX3_reach (wsV RX3 43 RX3 yX3_find wsX3_find) := (gd1 wa_149 (by decide +kernel) (gd1 wa_150 (by decide +kernel) (gd1 wa_151 (by decide +kernel) (gd1 wa_81 (by decide +kernel) ggX3_reach_X3_find))))
theorem dX3_reach_0 : decode cX3_reach 0 = .ok (.aload_n 0, 1) := by decide +kernel
theorem dX3_reach_1 : decode cX3_reach 1 = .ok (.getfield 15, 3) := by decide +kernel
theorem dX3_reach_4 : decode cX3_reach 4 = .ok (.iload_n 1, 1) := by decide +kernel
theorem dX3_reach_5 : decode cX3_reach 5 = .ok (.bipush 6, 2) := by decide +kernel
theorem dX3_reach_7 : decode cX3_reach 7 = .ok (.imul, 1) := by decide +kernel
theorem dX3_reach_8 : decode cX3_reach 8 = .ok (.aload_n 0, 1) := by decide +kernel
theorem dX3_reach_9 : decode cX3_reach 9 = .ok (.getfield 15, 3) := by decide +kernel
theorem dX3_reach_12 : decode cX3_reach 12 = .ok (.aload_n 0, 1) := by decide +kernel
theorem dX3_reach_13 : decode cX3_reach 13 = .ok (.getfield 9, 3) := by decide +kernel
theorem dX3_reach_16 : decode cX3_reach 16 = .ok (.bipush 6, 2) := by decide +kernel
theorem dX3_reach_18 : decode cX3_reach 18 = .ok (.imul, 1) := by decide +kernel
theorem dX3_reach_19 : decode cX3_reach 19 = .ok (.bipush 6, 2) := by decide +kernel
theorem dX3_reach_21 : decode cX3_reach 21 = .ok (.invokestatic 33, 3) := by decide +kernel
theorem dX3_reach_24 : decode cX3_reach 24 = .ok (.aload_n 0, 1) := by decide +kernel
theorem dX3_reach_25 : decode cX3_reach 25 = .ok (.getfield 15, 3) := by decide +kernel
theorem dX3_reach_28 : decode cX3_reach 28 = .ok (.aload_n 0, 1) := by decide +kernel
theorem dX3_reach_29 : decode cX3_reach 29 = .ok (.getfield 9, 3) := by decide +kernel
theorem dX3_reach_32 : decode cX3_reach 32 = .ok (.bipush 6, 2) := by decide +kernel
theorem dX3_reach_34 : decode cX3_reach 34 = .ok (.imul, 1) := by decide +kernel
theorem dX3_reach_35 : decode cX3_reach 35 = .ok (.iload_n 2, 1) := by decide +kernel
theorem dX3_reach_36 : decode cX3_reach 36 = .ok (.iload_n 3, 1) := by decide +kernel
theorem dX3_reach_37 : decode cX3_reach 37 = .ok (.invokestatic 39, 3) := by decide +kernel
theorem dX3_reach_40 : decode cX3_reach 40 = .ok (.aload_n 0, 1) := by decide +kernel
theorem dX3_reach_41 : decode cX3_reach 41 = .ok (.invokevirtual 43, 3) := by decide +kernel
theorem dX3_reach_44 : decode cX3_reach 44 = .ok (.istore 4, 2) := by decide +kernel
theorem dX3_reach_46 : decode cX3_reach 46 = .ok (.iload 4, 2) := by decide +kernel
theorem dX3_reach_48 : decode cX3_reach 48 = .ok (.aload_n 0, 1) := by decide +kernel
theorem dX3_reach_49 : decode cX3_reach 49 = .ok (.getfield 9, 3) := by decide +kernel
theorem dX3_reach_52 : decode cX3_reach 52 = .ok (.if_icmp .ne 37, 3) := by decide +kernel
theorem dX3_reach_55 : decode cX3_reach 55 = .ok (.aload_n 0, 1) := by decide +kernel
theorem dX3_reach_56 : decode cX3_reach 56 = .ok (.getfield 9, 3) := by decide +kernel
theorem dX3_reach_59 : decode cX3_reach 59 = .ok (.bipush 24, 2) := by decide +kernel
theorem dX3_reach_61 : decode cX3_reach 61 = .ok (.if_icmp .ge 28, 3) := by decide +kernel
theorem dX3_reach_64 : decode cX3_reach 64 = .ok (.aload_n 0, 1) := by decide +kernel
theorem dX3_reach_65 : decode cX3_reach 65 = .ok (.getfield 19, 3) := by decide +kernel
theorem dX3_reach_68 : decode cX3_reach 68 = .ok (.iload 4, 2) := by decide +kernel
theorem dX3_reach_70 : decode cX3_reach 70 = .ok (.aload_n 0, 1) := by decide +kernel
theorem dX3_reach_71 : decode cX3_reach 71 = .ok (.getfield 19, 3) := by decide +kernel
theorem dX3_reach_74 : decode cX3_reach 74 = .ok (.iload_n 1, 1) := by decide +kernel
theorem dX3_reach_75 : decode cX3_reach 75 = .ok (.iaload, 1) := by decide +kernel
theorem dX3_reach_76 : decode cX3_reach 76 = .ok (.iconst 1, 1) := by decide +kernel
theorem dX3_reach_77 : decode cX3_reach 77 = .ok (.iadd, 1) := by decide +kernel
theorem dX3_reach_78 : decode cX3_reach 78 = .ok (.iastore, 1) := by decide +kernel
theorem dX3_reach_79 : decode cX3_reach 79 = .ok (.aload_n 0, 1) := by decide +kernel
theorem dX3_reach_80 : decode cX3_reach 80 = .ok (.dup, 1) := by decide +kernel
theorem dX3_reach_81 : decode cX3_reach 81 = .ok (.getfield 9, 3) := by decide +kernel
theorem dX3_reach_84 : decode cX3_reach 84 = .ok (.iconst 1, 1) := by decide +kernel
theorem dX3_reach_85 : decode cX3_reach 85 = .ok (.iadd, 1) := by decide +kernel
theorem dX3_reach_86 : decode cX3_reach 86 = .ok (.putfield 9, 3) := by decide +kernel
theorem dX3_reach_89 : decode cX3_reach 89 = .ok (.iload 4, 2) := by decide +kernel
theorem dX3_reach_91 : decode cX3_reach 91 = .ok (.aload_n 0, 1) := by decide +kernel
theorem dX3_reach_92 : decode cX3_reach 92 = .ok (.getfield 9, 3) := by decide +kernel
theorem dX3_reach_95 : decode cX3_reach 95 = .ok (.if_icmp .ge 47, 3) := by decide +kernel
theorem dX3_reach_98 : decode cX3_reach 98 = .ok (.aload_n 0, 1) := by decide +kernel
theorem dX3_reach_99 : decode cX3_reach 99 = .ok (.getfield 19, 3) := by decide +kernel
theorem dX3_reach_102 : decode cX3_reach 102 = .ok (.iload 4, 2) := by decide +kernel
theorem dX3_reach_104 : decode cX3_reach 104 = .ok (.iaload, 1) := by decide +kernel
theorem dX3_reach_105 : decode cX3_reach 105 = .ok (.aload_n 0, 1) := by decide +kernel
theorem dX3_reach_106 : decode cX3_reach 106 = .ok (.getfield 19, 3) := by decide +kernel
theorem dX3_reach_109 : decode cX3_reach 109 = .ok (.iload_n 1, 1) := by decide +kernel
theorem dX3_reach_110 : decode cX3_reach 110 = .ok (.iaload, 1) := by decide +kernel
theorem dX3_reach_111 : decode cX3_reach 111 = .ok (.iconst 1, 1) := by decide +kernel
theorem dX3_reach_112 : decode cX3_reach 112 = .ok (.iadd, 1) := by decide +kernel
theorem dX3_reach_113 : decode cX3_reach 113 = .ok (.if_icmp .ne 29, 3) := by decide +kernel
theorem dX3_reach_116 : decode cX3_reach 116 = .ok (.aload_n 0, 1) := by decide +kernel
theorem dX3_reach_117 : decode cX3_reach 117 = .ok (.getfield 22, 3) := by decide +kernel
theorem dX3_reach_120 : decode cX3_reach 120 = .ok (.iload 4, 2) := by decide +kernel
theorem dX3_reach_122 : decode cX3_reach 122 = .ok (.dup2, 1) := by decide +kernel
theorem dX3_reach_123 : decode cX3_reach 123 = .ok (.iaload, 1) := by decide +kernel
theorem dX3_reach_124 : decode cX3_reach 124 = .ok (.iload_n 1, 1) := by decide +kernel
theorem dX3_reach_125 : decode cX3_reach 125 = .ok (.ifCond .ne 9, 3) := by decide +kernel
theorem dX3_reach_128 : decode cX3_reach 128 = .ok (.iconst 1, 1) := by decide +kernel
theorem dX3_reach_129 : decode cX3_reach 129 = .ok (.iload_n 3, 1) := by decide +kernel
theorem dX3_reach_130 : decode cX3_reach 130 = .ok (.ishl, 1) := by decide +kernel
theorem dX3_reach_131 : decode cX3_reach 131 = .ok (.goto 9, 3) := by decide +kernel
theorem dX3_reach_134 : decode cX3_reach 134 = .ok (.aload_n 0, 1) := by decide +kernel
theorem dX3_reach_135 : decode cX3_reach 135 = .ok (.getfield 22, 3) := by decide +kernel
theorem dX3_reach_138 : decode cX3_reach 138 = .ok (.iload_n 1, 1) := by decide +kernel
theorem dX3_reach_139 : decode cX3_reach 139 = .ok (.iaload, 1) := by decide +kernel
theorem dX3_reach_140 : decode cX3_reach 140 = .ok (.ior, 1) := by decide +kernel
theorem dX3_reach_141 : decode cX3_reach 141 = .ok (.iastore, 1) := by decide +kernel
theorem dX3_reach_142 : decode cX3_reach 142 = .ok (.return_, 1) := by decide +kernel
set_option maxRecDepth 20000 in
theorem ggX3_find_X3_sameRows : GoodIn wsX3_find wsX3_sameRows := gdW wa_196 (by decide +kernel) (by decide +kernel)
set_option maxRecDepth 20000 in
theorem gX3_find_X3_sameRows : GoodIn wsX3_find (wsV RX3 47 RX3 yX3_sameRows wsX3_sameRows) := (gd1 wa_193 (by decide +kernel) (gd1 wa_194 (by decide +kernel) (gd1 wa_195 (by decide +kernel) (gd1 wa_81 (by decide +kernel) ggX3_find_X3_sameRows))))
theorem dX3_find_0 : decode cX3_find 0 = .ok (.iconst 0, 1) := by decide +kernel
theorem dX3_find_1 : decode cX3_find 1 = .ok (.istore_n 1, 1) := by decide +kernel
theorem dX3_find_2 : decode cX3_find 2 = .ok (.iload_n 1, 1) := by decide +kernel
theorem dX3_find_3 : decode cX3_find 3 = .ok (.aload_n 0, 1) := by decide +kernel
theorem dX3_find_4 : decode cX3_find 4 = .ok (.getfield 9, 3) := by decide +kernel
theorem dX3_find_7 : decode cX3_find 7 = .ok (.if_icmp .ge 21, 3) := by decide +kernel
theorem dX3_find_10 : decode cX3_find 10 = .ok (.aload_n 0, 1) := by decide +kernel
theorem dX3_find_11 : decode cX3_find 11 = .ok (.iload_n 1, 1) := by decide +kernel
theorem dX3_find_12 : decode cX3_find 12 = .ok (.aload_n 0, 1) := by decide +kernel
theorem dX3_find_13 : decode cX3_find 13 = .ok (.getfield 9, 3) := by decide +kernel
theorem dX3_find_16 : decode cX3_find 16 = .ok (.invokevirtual 47, 3) := by decide +kernel
theorem dX3_find_19 : decode cX3_find 19 = .ok (.ifCond .ne 9, 3) := by decide +kernel
theorem dX3_find_22 : decode cX3_find 22 = .ok (.iinc 1 1, 3) := by decide +kernel
theorem dX3_find_25 : decode cX3_find 25 = .ok (.goto (-23), 3) := by decide +kernel
theorem dX3_find_28 : decode cX3_find 28 = .ok (.iload_n 1, 1) := by decide +kernel
theorem dX3_find_29 : decode cX3_find 29 = .ok (.ireturn, 1) := by decide +kernel
theorem dX3_sameRows_0 : decode cX3_sameRows 0 = .ok (.iconst 0, 1) := by decide +kernel
theorem dX3_sameRows_1 : decode cX3_sameRows 1 = .ok (.istore_n 3, 1) := by decide +kernel
theorem dX3_sameRows_2 : decode cX3_sameRows 2 = .ok (.iload_n 3, 1) := by decide +kernel
theorem dX3_sameRows_3 : decode cX3_sameRows 3 = .ok (.bipush 6, 2) := by decide +kernel
theorem dX3_sameRows_5 : decode cX3_sameRows 5 = .ok (.if_icmp .ge 36, 3) := by decide +kernel
theorem dX3_sameRows_8 : decode cX3_sameRows 8 = .ok (.aload_n 0, 1) := by decide +kernel
theorem dX3_sameRows_9 : decode cX3_sameRows 9 = .ok (.getfield 15, 3) := by decide +kernel
theorem dX3_sameRows_12 : decode cX3_sameRows 12 = .ok (.iload_n 1, 1) := by decide +kernel
theorem dX3_sameRows_13 : decode cX3_sameRows 13 = .ok (.bipush 6, 2) := by decide +kernel
theorem dX3_sameRows_15 : decode cX3_sameRows 15 = .ok (.imul, 1) := by decide +kernel
theorem dX3_sameRows_16 : decode cX3_sameRows 16 = .ok (.iload_n 3, 1) := by decide +kernel
theorem dX3_sameRows_17 : decode cX3_sameRows 17 = .ok (.iadd, 1) := by decide +kernel
theorem dX3_sameRows_18 : decode cX3_sameRows 18 = .ok (.iaload, 1) := by decide +kernel
theorem dX3_sameRows_19 : decode cX3_sameRows 19 = .ok (.aload_n 0, 1) := by decide +kernel
theorem dX3_sameRows_20 : decode cX3_sameRows 20 = .ok (.getfield 15, 3) := by decide +kernel
theorem dX3_sameRows_23 : decode cX3_sameRows 23 = .ok (.iload_n 2, 1) := by decide +kernel
theorem dX3_sameRows_24 : decode cX3_sameRows 24 = .ok (.bipush 6, 2) := by decide +kernel
theorem dX3_sameRows_26 : decode cX3_sameRows 26 = .ok (.imul, 1) := by decide +kernel
theorem dX3_sameRows_27 : decode cX3_sameRows 27 = .ok (.iload_n 3, 1) := by decide +kernel
theorem dX3_sameRows_28 : decode cX3_sameRows 28 = .ok (.iadd, 1) := by decide +kernel
theorem dX3_sameRows_29 : decode cX3_sameRows 29 = .ok (.iaload, 1) := by decide +kernel
theorem dX3_sameRows_30 : decode cX3_sameRows 30 = .ok (.if_icmp .eq 5, 3) := by decide +kernel
theorem dX3_sameRows_33 : decode cX3_sameRows 33 = .ok (.iconst 0, 1) := by decide +kernel
theorem dX3_sameRows_34 : decode cX3_sameRows 34 = .ok (.ireturn, 1) := by decide +kernel
theorem dX3_sameRows_35 : decode cX3_sameRows 35 = .ok (.iinc 3 1, 3) := by decide +kernel
theorem dX3_sameRows_38 : decode cX3_sameRows 38 = .ok (.goto (-36), 3) := by decide +kernel
theorem dX3_sameRows_41 : decode cX3_sameRows 41 = .ok (.iconst 1, 1) := by decide +kernel
theorem dX3_sameRows_42 : decode cX3_sameRows 42 = .ok (.ireturn, 1) := by decide +kernel
theorem dX3_placeOf_0 : decode cX3_placeOf 0 = .ok (.iconst 0, 1) := by decide +kernel
theorem dX3_placeOf_1 : decode cX3_placeOf 1 = .ok (.istore_n 3, 1) := by decide +kernel
theorem dX3_placeOf_2 : decode cX3_placeOf 2 = .ok (.iload_n 3, 1) := by decide +kernel
theorem dX3_placeOf_3 : decode cX3_placeOf 3 = .ok (.iconst 5, 1) := by decide +kernel
theorem dX3_placeOf_4 : decode cX3_placeOf 4 = .ok (.if_icmp .ge 24, 3) := by decide +kernel
theorem dX3_placeOf_7 : decode cX3_placeOf 7 = .ok (.aload_n 0, 1) := by decide +kernel
theorem dX3_placeOf_8 : decode cX3_placeOf 8 = .ok (.getfield 15, 3) := by decide +kernel
theorem dX3_placeOf_11 : decode cX3_placeOf 11 = .ok (.iload_n 2, 1) := by decide +kernel
theorem dX3_placeOf_12 : decode cX3_placeOf 12 = .ok (.bipush 6, 2) := by decide +kernel
theorem dX3_placeOf_14 : decode cX3_placeOf 14 = .ok (.imul, 1) := by decide +kernel
theorem dX3_placeOf_15 : decode cX3_placeOf 15 = .ok (.iload_n 3, 1) := by decide +kernel
theorem dX3_placeOf_16 : decode cX3_placeOf 16 = .ok (.iadd, 1) := by decide +kernel
theorem dX3_placeOf_17 : decode cX3_placeOf 17 = .ok (.iaload, 1) := by decide +kernel
theorem dX3_placeOf_18 : decode cX3_placeOf 18 = .ok (.iload_n 1, 1) := by decide +kernel
theorem dX3_placeOf_19 : decode cX3_placeOf 19 = .ok (.if_icmp .eq 9, 3) := by decide +kernel
theorem dX3_placeOf_22 : decode cX3_placeOf 22 = .ok (.iinc 3 1, 3) := by decide +kernel
theorem dX3_placeOf_25 : decode cX3_placeOf 25 = .ok (.goto (-23), 3) := by decide +kernel
theorem dX3_placeOf_28 : decode cX3_placeOf 28 = .ok (.iload_n 3, 1) := by decide +kernel
theorem dX3_placeOf_29 : decode cX3_placeOf 29 = .ok (.ireturn, 1) := by decide +kernel
