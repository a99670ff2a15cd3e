set_option maxRecDepth 20000 in
theorem ggX4_init_X2_init : GoodIn wsX4_init wsX2_init := gdW wa_65 (by decide +kernel) (by decide +kernel)
set_option maxRecDepth 20000 in
theorem gX4_init_X2_init_n15 : GoodIn wsX4_init (wsX2_init) := ggX4_init_X2_init
set_option maxRecDepth 20000 in
theorem ggX4_init_X1_init : GoodIn wsX4_init wsX1_init := gdW wa_77 (by decide +kernel) (by decide +kernel)
set_option maxRecDepth 20000 in
theorem gX4_init_X1_init_n28 : GoodIn wsX4_init (wsX1_init) := ggX4_init_X1_init
theorem dX4_init_0 : decode cX4_init 0 = .ok (.aload_n 0, 1) := by decide +kernel
theorem dX4_init_1 : decode cX4_init 1 = .ok (.invokespecial 3, 3) := by decide +kernel
theorem dX4_init_4 : decode cX4_init 4 = .ok (.aload_n 0, 1) := by decide +kernel
theorem dX4_init_5 : decode cX4_init 5 = .ok (.bipush 26, 2) := by decide +kernel
theorem dX4_init_7 : decode cX4_init 7 = .ok (.newarray .int, 2) := by decide +kernel
theorem dX4_init_9 : decode cX4_init 9 = .ok (.putfield 9, 3) := by decide +kernel
theorem dX4_init_12 : decode cX4_init 12 = .ok (.aload_n 0, 1) := by decide +kernel
theorem dX4_init_13 : decode cX4_init 13 = .ok (.new 13, 3) := by decide +kernel
theorem dX4_init_16 : decode cX4_init 16 = .ok (.dup, 1) := by decide +kernel
theorem dX4_init_17 : decode cX4_init 17 = .ok (.invokespecial 15, 3) := by decide +kernel
theorem dX4_init_20 : decode cX4_init 20 = .ok (.putfield 16, 3) := by decide +kernel
theorem dX4_init_23 : decode cX4_init 23 = .ok (.aload_n 0, 1) := by decide +kernel
theorem dX4_init_24 : decode cX4_init 24 = .ok (.new 13, 3) := by decide +kernel
theorem dX4_init_27 : decode cX4_init 27 = .ok (.dup, 1) := by decide +kernel
theorem dX4_init_28 : decode cX4_init 28 = .ok (.invokespecial 15, 3) := by decide +kernel
theorem dX4_init_31 : decode cX4_init 31 = .ok (.putfield 20, 3) := by decide +kernel
theorem dX4_init_34 : decode cX4_init 34 = .ok (.aload_n 0, 1) := by decide +kernel
theorem dX4_init_35 : decode cX4_init 35 = .ok (.new 13, 3) := by decide +kernel
theorem dX4_init_38 : decode cX4_init 38 = .ok (.dup, 1) := by decide +kernel
theorem dX4_init_39 : decode cX4_init 39 = .ok (.invokespecial 15, 3) := by decide +kernel
theorem dX4_init_42 : decode cX4_init 42 = .ok (.putfield 23, 3) := by decide +kernel
theorem dX4_init_45 : decode cX4_init 45 = .ok (.aload_n 0, 1) := by decide +kernel
theorem dX4_init_46 : decode cX4_init 46 = .ok (.new 26, 3) := by decide +kernel
theorem dX4_init_49 : decode cX4_init 49 = .ok (.dup, 1) := by decide +kernel
theorem dX4_init_50 : decode cX4_init 50 = .ok (.invokespecial 28, 3) := by decide +kernel
theorem dX4_init_53 : decode cX4_init 53 = .ok (.putfield 29, 3) := by decide +kernel
theorem dX4_init_56 : decode cX4_init 56 = .ok (.return_, 1) := by decide +kernel
theorem dX4_letter_0 : decode cX4_letter 0 = .ok (.iload_n 1, 1) := by decide +kernel
theorem dX4_letter_1 : decode cX4_letter 1 = .ok (.bipush 32, 2) := by decide +kernel
theorem dX4_letter_3 : decode cX4_letter 3 = .ok (.if_icmp .lt 9, 3) := by decide +kernel
theorem dX4_letter_6 : decode cX4_letter 6 = .ok (.iload_n 1, 1) := by decide +kernel
theorem dX4_letter_7 : decode cX4_letter 7 = .ok (.bipush 126, 2) := by decide +kernel
theorem dX4_letter_9 : decode cX4_letter 9 = .ok (.if_icmp .le 6, 3) := by decide +kernel
theorem dX4_letter_12 : decode cX4_letter 12 = .ok (.bipush (-102), 2) := by decide +kernel
theorem dX4_letter_14 : decode cX4_letter 14 = .ok (.ireturn, 1) := by decide +kernel
theorem dX4_letter_15 : decode cX4_letter 15 = .ok (.aload_n 0, 1) := by decide +kernel
theorem dX4_letter_16 : decode cX4_letter 16 = .ok (.getfield 33, 3) := by decide +kernel
theorem dX4_letter_19 : decode cX4_letter 19 = .ok (.bipush 26, 2) := by decide +kernel
theorem dX4_letter_21 : decode cX4_letter 21 = .ok (.if_icmp .lt 6, 3) := by decide +kernel
theorem dX4_letter_24 : decode cX4_letter 24 = .ok (.bipush (-104), 2) := by decide +kernel
theorem dX4_letter_26 : decode cX4_letter 26 = .ok (.ireturn, 1) := by decide +kernel
theorem dX4_letter_27 : decode cX4_letter 27 = .ok (.aload_n 0, 1) := by decide +kernel
theorem dX4_letter_28 : decode cX4_letter 28 = .ok (.getfield 9, 3) := by decide +kernel
theorem dX4_letter_31 : decode cX4_letter 31 = .ok (.aload_n 0, 1) := by decide +kernel
theorem dX4_letter_32 : decode cX4_letter 32 = .ok (.getfield 33, 3) := by decide +kernel
theorem dX4_letter_35 : decode cX4_letter 35 = .ok (.iload_n 1, 1) := by decide +kernel
theorem dX4_letter_36 : decode cX4_letter 36 = .ok (.iastore, 1) := by decide +kernel
theorem dX4_letter_37 : decode cX4_letter 37 = .ok (.aload_n 0, 1) := by decide +kernel
theorem dX4_letter_38 : decode cX4_letter 38 = .ok (.dup, 1) := by decide +kernel
theorem dX4_letter_39 : decode cX4_letter 39 = .ok (.getfield 33, 3) := by decide +kernel
theorem dX4_letter_42 : decode cX4_letter 42 = .ok (.iconst 1, 1) := by decide +kernel
theorem dX4_letter_43 : decode cX4_letter 43 = .ok (.iadd, 1) := by decide +kernel
theorem dX4_letter_44 : decode cX4_letter 44 = .ok (.putfield 33, 3) := by decide +kernel
theorem dX4_letter_47 : decode cX4_letter 47 = .ok (.aload_n 0, 1) := by decide +kernel
theorem dX4_letter_48 : decode cX4_letter 48 = .ok (.getfield 33, 3) := by decide +kernel
theorem dX4_letter_51 : decode cX4_letter 51 = .ok (.ireturn, 1) := by decide +kernel
theorem dX4_blank_0 : decode cX4_blank 0 = .ok (.aload_n 0, 1) := by decide +kernel
theorem dX4_blank_1 : decode cX4_blank 1 = .ok (.getfield 33, 3) := by decide +kernel
theorem dX4_blank_4 : decode cX4_blank 4 = .ok (.istore_n 1, 1) := by decide +kernel
theorem dX4_blank_5 : decode cX4_blank 5 = .ok (.aload_n 0, 1) := by decide +kernel
theorem dX4_blank_6 : decode cX4_blank 6 = .ok (.iconst 0, 1) := by decide +kernel
theorem dX4_blank_7 : decode cX4_blank 7 = .ok (.putfield 33, 3) := by decide +kernel
theorem dX4_blank_10 : decode cX4_blank 10 = .ok (.iload_n 1, 1) := by decide +kernel
theorem dX4_blank_11 : decode cX4_blank 11 = .ok (.ireturn, 1) := by decide +kernel
set_option maxRecDepth 20000 in
theorem ggX4_fault_X4_fits : GoodIn wsX4_fault wsX4_fits := gdW wa_325 (by decide +kernel) (by decide +kernel)
set_option maxRecDepth 20000 in
theorem gX4_fault_X4_fits : GoodIn wsX4_fault (va_wsS RX4 37 yX4_fits wsX4_fits) := (gd1 wa_323 (by decide +kernel) (gd1 wa_324 (by decide +kernel) (gd1 wa_2 (by decide +kernel) ggX4_fault_X4_fits)))
theorem dX4_fault_0 : decode cX4_fault 0 = .ok (.iconst 0, 1) := by decide +kernel
theorem dX4_fault_1 : decode cX4_fault 1 = .ok (.istore_n 1, 1) := by decide +kernel
theorem dX4_fault_2 : decode cX4_fault 2 = .ok (.iload_n 1, 1) := by decide +kernel
theorem dX4_fault_3 : decode cX4_fault 3 = .ok (.aload_n 0, 1) := by decide +kernel
theorem dX4_fault_4 : decode cX4_fault 4 = .ok (.getfield 33, 3) := by decide +kernel
theorem dX4_fault_7 : decode cX4_fault 7 = .ok (.if_icmp .ge 22, 3) := by decide +kernel
theorem dX4_fault_10 : decode cX4_fault 10 = .ok (.aload_n 0, 1) := by decide +kernel
theorem dX4_fault_11 : decode cX4_fault 11 = .ok (.getfield 9, 3) := by decide +kernel
theorem dX4_fault_14 : decode cX4_fault 14 = .ok (.iload_n 1, 1) := by decide +kernel
theorem dX4_fault_15 : decode cX4_fault 15 = .ok (.iaload, 1) := by decide +kernel
theorem dX4_fault_16 : decode cX4_fault 16 = .ok (.iload_n 1, 1) := by decide +kernel
theorem dX4_fault_17 : decode cX4_fault 17 = .ok (.invokestatic 37, 3) := by decide +kernel
theorem dX4_fault_20 : decode cX4_fault 20 = .ok (.ifCond .eq 9, 3) := by decide +kernel
theorem dX4_fault_23 : decode cX4_fault 23 = .ok (.iinc 1 1, 3) := by decide +kernel
theorem dX4_fault_26 : decode cX4_fault 26 = .ok (.goto (-24), 3) := by decide +kernel
theorem dX4_fault_29 : decode cX4_fault 29 = .ok (.iload_n 1, 1) := by decide +kernel
theorem dX4_fault_30 : decode cX4_fault 30 = .ok (.ireturn, 1) := by decide +kernel
set_option maxRecDepth 20000 in
theorem ggX4_tower_X4_fault : GoodIn wsX4_tower wsX4_fault := gdW wa_322 (by decide +kernel) (by decide +kernel)
set_option maxRecDepth 20000 in
theorem gX4_tower_X4_fault : GoodIn wsX4_tower (wsV RX4 41 RX4 yX4_fault wsX4_fault) := (gd1 wa_643 (by decide +kernel) (gd1 wa_320 (by decide +kernel) (gd1 wa_321 (by decide +kernel) (gd1 wa_2 (by decide +kernel) ggX4_tower_X4_fault))))
set_option maxRecDepth 20000 in
theorem ggX4_tower_X4_readPage : GoodIn wsX4_tower wsX4_readPage := gdW wa_647 (by decide +kernel) (by decide +kernel)
set_option maxRecDepth 20000 in
theorem gX4_tower_X4_readPage : GoodIn wsX4_tower (wsV RX4 45 RX4 yX4_readPage wsX4_readPage) := (gd1 wa_644 (by decide +kernel) (gd1 wa_645 (by decide +kernel) (gd1 wa_646 (by decide +kernel) (gd1 wa_2 (by decide +kernel) ggX4_tower_X4_readPage))))
theorem dX4_tower_0 : decode cX4_tower 0 = .ok (.aload_n 0, 1) := by decide +kernel
theorem dX4_tower_1 : decode cX4_tower 1 = .ok (.getfield 33, 3) := by decide +kernel
theorem dX4_tower_4 : decode cX4_tower 4 = .ok (.iconst 1, 1) := by decide +kernel
theorem dX4_tower_5 : decode cX4_tower 5 = .ok (.iadd, 1) := by decide +kernel
theorem dX4_tower_6 : decode cX4_tower 6 = .ok (.bipush 8, 2) := by decide +kernel
theorem dX4_tower_8 : decode cX4_tower 8 = .ok (.idiv, 1) := by decide +kernel
theorem dX4_tower_9 : decode cX4_tower 9 = .ok (.istore_n 1, 1) := by decide +kernel
theorem dX4_tower_10 : decode cX4_tower 10 = .ok (.iload_n 1, 1) := by decide +kernel
theorem dX4_tower_11 : decode cX4_tower 11 = .ok (.iconst 2, 1) := by decide +kernel
theorem dX4_tower_12 : decode cX4_tower 12 = .ok (.if_icmp .lt 20, 3) := by decide +kernel
theorem dX4_tower_15 : decode cX4_tower 15 = .ok (.iload_n 1, 1) := by decide +kernel
theorem dX4_tower_16 : decode cX4_tower 16 = .ok (.bipush 8, 2) := by decide +kernel
theorem dX4_tower_18 : decode cX4_tower 18 = .ok (.imul, 1) := by decide +kernel
theorem dX4_tower_19 : decode cX4_tower 19 = .ok (.aload_n 0, 1) := by decide +kernel
theorem dX4_tower_20 : decode cX4_tower 20 = .ok (.getfield 33, 3) := by decide +kernel
theorem dX4_tower_23 : decode cX4_tower 23 = .ok (.iconst 1, 1) := by decide +kernel
theorem dX4_tower_24 : decode cX4_tower 24 = .ok (.iadd, 1) := by decide +kernel
theorem dX4_tower_25 : decode cX4_tower 25 = .ok (.if_icmp .ne 7, 3) := by decide +kernel
theorem dX4_tower_28 : decode cX4_tower 28 = .ok (.iconst 1, 1) := by decide +kernel
theorem dX4_tower_29 : decode cX4_tower 29 = .ok (.goto 4, 3) := by decide +kernel
theorem dX4_tower_32 : decode cX4_tower 32 = .ok (.iconst 0, 1) := by decide +kernel
theorem dX4_tower_33 : decode cX4_tower 33 = .ok (.istore_n 2, 1) := by decide +kernel
theorem dX4_tower_34 : decode cX4_tower 34 = .ok (.iload_n 2, 1) := by decide +kernel
theorem dX4_tower_35 : decode cX4_tower 35 = .ok (.ifCond .eq 14, 3) := by decide +kernel
theorem dX4_tower_38 : decode cX4_tower 38 = .ok (.aload_n 0, 1) := by decide +kernel
theorem dX4_tower_39 : decode cX4_tower 39 = .ok (.invokevirtual 41, 3) := by decide +kernel
theorem dX4_tower_42 : decode cX4_tower 42 = .ok (.aload_n 0, 1) := by decide +kernel
theorem dX4_tower_43 : decode cX4_tower 43 = .ok (.getfield 33, 3) := by decide +kernel
theorem dX4_tower_46 : decode cX4_tower 46 = .ok (.if_icmp .ge 6, 3) := by decide +kernel
theorem dX4_tower_49 : decode cX4_tower 49 = .ok (.bipush (-103), 2) := by decide +kernel
theorem dX4_tower_51 : decode cX4_tower 51 = .ok (.ireturn, 1) := by decide +kernel
theorem dX4_tower_52 : decode cX4_tower 52 = .ok (.aload_n 0, 1) := by decide +kernel
theorem dX4_tower_53 : decode cX4_tower 53 = .ok (.iload_n 1, 1) := by decide +kernel
theorem dX4_tower_54 : decode cX4_tower 54 = .ok (.invokevirtual 45, 3) := by decide +kernel
theorem dX4_tower_57 : decode cX4_tower 57 = .ok (.aload_n 0, 1) := by decide +kernel
theorem dX4_tower_58 : decode cX4_tower 58 = .ok (.iconst 0, 1) := by decide +kernel
theorem dX4_tower_59 : decode cX4_tower 59 = .ok (.putfield 33, 3) := by decide +kernel
theorem dX4_tower_62 : decode cX4_tower 62 = .ok (.aload_n 0, 1) := by decide +kernel
theorem dX4_tower_63 : decode cX4_tower 63 = .ok (.dup, 1) := by decide +kernel
theorem dX4_tower_64 : decode cX4_tower 64 = .ok (.getfield 49, 3) := by decide +kernel
theorem dX4_tower_67 : decode cX4_tower 67 = .ok (.iconst 1, 1) := by decide +kernel
theorem dX4_tower_68 : decode cX4_tower 68 = .ok (.iadd, 1) := by decide +kernel
theorem dX4_tower_69 : decode cX4_tower 69 = .ok (.putfield 49, 3) := by decide +kernel
theorem dX4_tower_72 : decode cX4_tower 72 = .ok (.aload_n 0, 1) := by decide +kernel
theorem dX4_tower_73 : decode cX4_tower 73 = .ok (.getfield 20, 3) := by decide +kernel
theorem dX4_tower_76 : decode cX4_tower 76 = .ok (.iconst 0, 1) := by decide +kernel
theorem dX4_tower_77 : decode cX4_tower 77 = .ok (.putfield 52, 3) := by decide +kernel
theorem dX4_tower_80 : decode cX4_tower 80 = .ok (.aload_n 0, 1) := by decide +kernel
theorem dX4_tower_81 : decode cX4_tower 81 = .ok (.iconst 0, 1) := by decide +kernel
theorem dX4_tower_82 : decode cX4_tower 82 = .ok (.putfield 55, 3) := by decide +kernel
theorem dX4_tower_85 : decode cX4_tower 85 = .ok (.iload_n 1, 1) := by decide +kernel
theorem dX4_tower_86 : decode cX4_tower 86 = .ok (.ireturn, 1) := by decide +kernel
set_option maxRecDepth 20000 in
theorem ggX4_fits_J0_indexOf_0f7a4 : GoodIn wsX4_fits wsJ0_indexOf_0f7a4 := gdW wa_330 (by decide +kernel) (by decide +kernel)
set_option maxRecDepth 20000 in
theorem gX4_fits_J0_indexOf_0f7a4 : GoodIn wsX4_fits (wsV RX4 61 RJ0 yJ0_indexOf_0f7a4 wsJ0_indexOf_0f7a4) := (gd1 wa_326 (by decide +kernel) (gd1 wa_327 (by decide +kernel) (gd1 wa_328 (by decide +kernel) (gd1 wa_329 (by decide +kernel) ggX4_fits_J0_indexOf_0f7a4))))
theorem dX4_fits_0 : decode cX4_fits 0 = .ok (.iload_n 1, 1) := by decide +kernel
theorem dX4_fits_1 : decode cX4_fits 1 = .ok (.bipush 23, 2) := by decide +kernel
theorem dX4_fits_3 : decode cX4_fits 3 = .ok (.if_icmp .lt 5, 3) := by decide +kernel
theorem dX4_fits_6 : decode cX4_fits 6 = .ok (.iconst 0, 1) := by decide +kernel
theorem dX4_fits_7 : decode cX4_fits 7 = .ok (.ireturn, 1) := by decide +kernel
theorem dX4_fits_8 : decode cX4_fits 8 = .ok (.iload_n 1, 1) := by decide +kernel
theorem dX4_fits_9 : decode cX4_fits 9 = .ok (.bipush 8, 2) := by decide +kernel
theorem dX4_fits_11 : decode cX4_fits 11 = .ok (.irem, 1) := by decide +kernel
theorem dX4_fits_12 : decode cX4_fits 12 = .ok (.istore_n 2, 1) := by decide +kernel
theorem dX4_fits_13 : decode cX4_fits 13 = .ok (.iload_n 2, 1) := by decide +kernel
theorem dX4_fits_14 : decode cX4_fits 14 = .ok (.ifCond .ne 19, 3) := by decide +kernel
theorem dX4_fits_17 : decode cX4_fits 17 = .ok (.ldc 59, 2) := by decide +kernel
theorem dX4_fits_19 : decode cX4_fits 19 = .ok (.iload_n 0, 1) := by decide +kernel
theorem dX4_fits_20 : decode cX4_fits 20 = .ok (.i2c, 1) := by decide +kernel
theorem dX4_fits_21 : decode cX4_fits 21 = .ok (.invokevirtual 61, 3) := by decide +kernel
theorem dX4_fits_24 : decode cX4_fits 24 = .ok (.ifCond .lt 7, 3) := by decide +kernel
theorem dX4_fits_27 : decode cX4_fits 27 = .ok (.iconst 1, 1) := by decide +kernel
theorem dX4_fits_28 : decode cX4_fits 28 = .ok (.goto 4, 3) := by decide +kernel
theorem dX4_fits_31 : decode cX4_fits 31 = .ok (.iconst 0, 1) := by decide +kernel
theorem dX4_fits_32 : decode cX4_fits 32 = .ok (.ireturn, 1) := by decide +kernel
theorem dX4_fits_33 : decode cX4_fits 33 = .ok (.iload_n 2, 1) := by decide +kernel
theorem dX4_fits_34 : decode cX4_fits 34 = .ok (.bipush 7, 2) := by decide +kernel
theorem dX4_fits_36 : decode cX4_fits 36 = .ok (.if_icmp .ne 15, 3) := by decide +kernel
theorem dX4_fits_39 : decode cX4_fits 39 = .ok (.iload_n 0, 1) := by decide +kernel
theorem dX4_fits_40 : decode cX4_fits 40 = .ok (.bipush 44, 2) := by decide +kernel
theorem dX4_fits_42 : decode cX4_fits 42 = .ok (.if_icmp .ne 7, 3) := by decide +kernel
theorem dX4_fits_45 : decode cX4_fits 45 = .ok (.iconst 1, 1) := by decide +kernel
theorem dX4_fits_46 : decode cX4_fits 46 = .ok (.goto 4, 3) := by decide +kernel
theorem dX4_fits_49 : decode cX4_fits 49 = .ok (.iconst 0, 1) := by decide +kernel
theorem dX4_fits_50 : decode cX4_fits 50 = .ok (.ireturn, 1) := by decide +kernel
theorem dX4_fits_51 : decode cX4_fits 51 = .ok (.iload_n 0, 1) := by decide +kernel
theorem dX4_fits_52 : decode cX4_fits 52 = .ok (.bipush 97, 2) := by decide +kernel
theorem dX4_fits_54 : decode cX4_fits 54 = .ok (.if_icmp .lt 13, 3) := by decide +kernel
theorem dX4_fits_57 : decode cX4_fits 57 = .ok (.iload_n 0, 1) := by decide +kernel
theorem dX4_fits_58 : decode cX4_fits 58 = .ok (.bipush 103, 2) := by decide +kernel
theorem dX4_fits_60 : decode cX4_fits 60 = .ok (.if_icmp .ge 7, 3) := by decide +kernel
theorem dX4_fits_63 : decode cX4_fits 63 = .ok (.iconst 1, 1) := by decide +kernel
theorem dX4_fits_64 : decode cX4_fits 64 = .ok (.goto 4, 3) := by decide +kernel
theorem dX4_fits_67 : decode cX4_fits 67 = .ok (.iconst 0, 1) := by decide +kernel
theorem dX4_fits_68 : decode cX4_fits 68 = .ok (.ireturn, 1) := by decide +kernel
set_option maxRecDepth 20000 in
theorem ggX4_readPage_X2_forgetAll : GoodIn wsX4_readPage wsX2_forgetAll := gdW wa_655 (by decide +kernel) (by decide +kernel)
set_option maxRecDepth 20000 in
theorem gX4_readPage_X2_forgetAll : GoodIn wsX4_readPage (wsV RX4 70 RX2 yX2_forgetAll wsX2_forgetAll) := (gd1 wa_652 (by decide +kernel) (gd1 wa_653 (by decide +kernel) (gd1 wa_654 (by decide +kernel) (gd1 wa_16 (by decide +kernel) ggX4_readPage_X2_forgetAll))))
set_option maxRecDepth 20000 in
theorem ggX4_readPage_J0_indexOf_0f7a4 : GoodIn wsX4_readPage wsJ0_indexOf_0f7a4 := gdW wa_330 (by decide +kernel) (by decide +kernel)
set_option maxRecDepth 20000 in
theorem gX4_readPage_J0_indexOf_0f7a4 : GoodIn wsX4_readPage (wsV RX4 61 RJ0 yJ0_indexOf_0f7a4 wsJ0_indexOf_0f7a4) := (gd1 wa_326 (by decide +kernel) (gd1 wa_327 (by decide +kernel) (gd1 wa_328 (by decide +kernel) (gd1 wa_329 (by decide +kernel) ggX4_readPage_J0_indexOf_0f7a4))))
theorem dX4_readPage_0 : decode cX4_readPage 0 = .ok (.aload_n 0, 1) := by decide +kernel
theorem dX4_readPage_1 : decode cX4_readPage 1 = .ok (.getfield 16, 3) := by decide +kernel
theorem dX4_readPage_4 : decode cX4_readPage 4 = .ok (.iload_n 1, 1) := by decide +kernel
theorem dX4_readPage_5 : decode cX4_readPage 5 = .ok (.putfield 52, 3) := by decide +kernel
theorem dX4_readPage_8 : decode cX4_readPage 8 = .ok (.aload_n 0, 1) := by decide +kernel
theorem dX4_readPage_9 : decode cX4_readPage 9 = .ok (.getfield 16, 3) := by decide +kernel
theorem dX4_readPage_12 : decode cX4_readPage 12 = .ok (.iconst 0, 1) := by decide +kernel
theorem dX4_readPage_13 : decode cX4_readPage 13 = .ok (.putfield 67, 3) := by decide +kernel
theorem dX4_readPage_16 : decode cX4_readPage 16 = .ok (.aload_n 0, 1) := by decide +kernel
theorem dX4_readPage_17 : decode cX4_readPage 17 = .ok (.getfield 16, 3) := by decide +kernel
theorem dX4_readPage_20 : decode cX4_readPage 20 = .ok (.invokevirtual 70, 3) := by decide +kernel
theorem dX4_readPage_23 : decode cX4_readPage 23 = .ok (.iconst 0, 1) := by decide +kernel
theorem dX4_readPage_24 : decode cX4_readPage 24 = .ok (.istore_n 2, 1) := by decide +kernel
theorem dX4_readPage_25 : decode cX4_readPage 25 = .ok (.iload_n 2, 1) := by decide +kernel
theorem dX4_readPage_26 : decode cX4_readPage 26 = .ok (.iload_n 1, 1) := by decide +kernel
theorem dX4_readPage_27 : decode cX4_readPage 27 = .ok (.if_icmp .ge 88, 3) := by decide +kernel
theorem dX4_readPage_30 : decode cX4_readPage 30 = .ok (.iload_n 2, 1) := by decide +kernel
theorem dX4_readPage_31 : decode cX4_readPage 31 = .ok (.iconst 3, 1) := by decide +kernel
theorem dX4_readPage_32 : decode cX4_readPage 32 = .ok (.if_icmp .ge 83, 3) := by decide +kernel
theorem dX4_readPage_35 : decode cX4_readPage 35 = .ok (.iload_n 2, 1) := by decide +kernel
theorem dX4_readPage_36 : decode cX4_readPage 36 = .ok (.bipush 8, 2) := by decide +kernel
theorem dX4_readPage_38 : decode cX4_readPage 38 = .ok (.imul, 1) := by decide +kernel
theorem dX4_readPage_39 : decode cX4_readPage 39 = .ok (.istore_n 3, 1) := by decide +kernel
theorem dX4_readPage_40 : decode cX4_readPage 40 = .ok (.aload_n 0, 1) := by decide +kernel
theorem dX4_readPage_41 : decode cX4_readPage 41 = .ok (.getfield 16, 3) := by decide +kernel
theorem dX4_readPage_44 : decode cX4_readPage 44 = .ok (.getfield 73, 3) := by decide +kernel
theorem dX4_readPage_47 : decode cX4_readPage 47 = .ok (.iload_n 2, 1) := by decide +kernel
theorem dX4_readPage_48 : decode cX4_readPage 48 = .ok (.aaload, 1) := by decide +kernel
theorem dX4_readPage_49 : decode cX4_readPage 49 = .ok (.ldc 59, 2) := by decide +kernel
theorem dX4_readPage_51 : decode cX4_readPage 51 = .ok (.aload_n 0, 1) := by decide +kernel
theorem dX4_readPage_52 : decode cX4_readPage 52 = .ok (.getfield 9, 3) := by decide +kernel
theorem dX4_readPage_55 : decode cX4_readPage 55 = .ok (.iload_n 3, 1) := by decide +kernel
theorem dX4_readPage_56 : decode cX4_readPage 56 = .ok (.iaload, 1) := by decide +kernel
theorem dX4_readPage_57 : decode cX4_readPage 57 = .ok (.i2c, 1) := by decide +kernel
theorem dX4_readPage_58 : decode cX4_readPage 58 = .ok (.invokevirtual 61, 3) := by decide +kernel
theorem dX4_readPage_61 : decode cX4_readPage 61 = .ok (.putfield 77, 3) := by decide +kernel
theorem dX4_readPage_64 : decode cX4_readPage 64 = .ok (.iconst 0, 1) := by decide +kernel
theorem dX4_readPage_65 : decode cX4_readPage 65 = .ok (.istore 4, 2) := by decide +kernel
theorem dX4_readPage_67 : decode cX4_readPage 67 = .ok (.iload 4, 2) := by decide +kernel
theorem dX4_readPage_69 : decode cX4_readPage 69 = .ok (.bipush 6, 2) := by decide +kernel
theorem dX4_readPage_71 : decode cX4_readPage 71 = .ok (.if_icmp .ge 38, 3) := by decide +kernel
theorem dX4_readPage_74 : decode cX4_readPage 74 = .ok (.aload_n 0, 1) := by decide +kernel
theorem dX4_readPage_75 : decode cX4_readPage 75 = .ok (.getfield 16, 3) := by decide +kernel
theorem dX4_readPage_78 : decode cX4_readPage 78 = .ok (.getfield 73, 3) := by decide +kernel
theorem dX4_readPage_81 : decode cX4_readPage 81 = .ok (.iload_n 2, 1) := by decide +kernel
theorem dX4_readPage_82 : decode cX4_readPage 82 = .ok (.aaload, 1) := by decide +kernel
theorem dX4_readPage_83 : decode cX4_readPage 83 = .ok (.getfield 82, 3) := by decide +kernel
theorem dX4_readPage_86 : decode cX4_readPage 86 = .ok (.iload 4, 2) := by decide +kernel
theorem dX4_readPage_88 : decode cX4_readPage 88 = .ok (.aload_n 0, 1) := by decide +kernel
theorem dX4_readPage_89 : decode cX4_readPage 89 = .ok (.getfield 9, 3) := by decide +kernel
theorem dX4_readPage_92 : decode cX4_readPage 92 = .ok (.iload_n 3, 1) := by decide +kernel
theorem dX4_readPage_93 : decode cX4_readPage 93 = .ok (.iconst 1, 1) := by decide +kernel
theorem dX4_readPage_94 : decode cX4_readPage 94 = .ok (.iadd, 1) := by decide +kernel
theorem dX4_readPage_95 : decode cX4_readPage 95 = .ok (.iload 4, 2) := by decide +kernel
theorem dX4_readPage_97 : decode cX4_readPage 97 = .ok (.iadd, 1) := by decide +kernel
theorem dX4_readPage_98 : decode cX4_readPage 98 = .ok (.iaload, 1) := by decide +kernel
theorem dX4_readPage_99 : decode cX4_readPage 99 = .ok (.bipush 97, 2) := by decide +kernel
theorem dX4_readPage_101 : decode cX4_readPage 101 = .ok (.isub, 1) := by decide +kernel
theorem dX4_readPage_102 : decode cX4_readPage 102 = .ok (.iastore, 1) := by decide +kernel
theorem dX4_readPage_103 : decode cX4_readPage 103 = .ok (.iinc 4 1, 3) := by decide +kernel
theorem dX4_readPage_106 : decode cX4_readPage 106 = .ok (.goto (-39), 3) := by decide +kernel
theorem dX4_readPage_109 : decode cX4_readPage 109 = .ok (.iinc 2 1, 3) := by decide +kernel
theorem dX4_readPage_112 : decode cX4_readPage 112 = .ok (.goto (-87), 3) := by decide +kernel
theorem dX4_readPage_115 : decode cX4_readPage 115 = .ok (.return_, 1) := by decide +kernel
set_option maxRecDepth 20000 in
theorem ggX4_cube_X2_has : GoodIn wsX4_cube wsX2_has := gdW wa_716 (by decide +kernel) (by decide +kernel)
set_option maxRecDepth 20000 in
theorem gX4_cube_X2_has : GoodIn wsX4_cube (wsV RX4 85 RX2 yX2_has wsX2_has) := (gd1 wa_713 (by decide +kernel) (gd1 wa_714 (by decide +kernel) (gd1 wa_715 (by decide +kernel) (gd1 wa_16 (by decide +kernel) ggX4_cube_X2_has))))
set_option maxRecDepth 20000 in
theorem ggX4_cube_X4_nextQuestion : GoodIn wsX4_cube wsX4_nextQuestion := gdW wa_720 (by decide +kernel) (by decide +kernel)
set_option maxRecDepth 20000 in
theorem gX4_cube_X4_nextQuestion : GoodIn wsX4_cube (va_wsS RX4 99 yX4_nextQuestion wsX4_nextQuestion) := (gd1 wa_718 (by decide +kernel) (gd1 wa_719 (by decide +kernel) (gd1 wa_2 (by decide +kernel) ggX4_cube_X4_nextQuestion)))
theorem dX4_cube_0 : decode cX4_cube 0 = .ok (.aload_n 0, 1) := by decide +kernel
theorem dX4_cube_1 : decode cX4_cube 1 = .ok (.getfield 16, 3) := by decide +kernel
theorem dX4_cube_4 : decode cX4_cube 4 = .ok (.iload_n 1, 1) := by decide +kernel
theorem dX4_cube_5 : decode cX4_cube 5 = .ok (.invokevirtual 85, 3) := by decide +kernel
theorem dX4_cube_8 : decode cX4_cube 8 = .ok (.ifCond .ne 6, 3) := by decide +kernel
theorem dX4_cube_11 : decode cX4_cube 11 = .ok (.bipush (-101), 2) := by decide +kernel
theorem dX4_cube_13 : decode cX4_cube 13 = .ok (.ireturn, 1) := by decide +kernel
theorem dX4_cube_14 : decode cX4_cube 14 = .ok (.aload_n 0, 1) := by decide +kernel
theorem dX4_cube_15 : decode cX4_cube 15 = .ok (.getfield 16, 3) := by decide +kernel
theorem dX4_cube_18 : decode cX4_cube 18 = .ok (.getfield 73, 3) := by decide +kernel
theorem dX4_cube_21 : decode cX4_cube 21 = .ok (.iload_n 1, 1) := by decide +kernel
theorem dX4_cube_22 : decode cX4_cube 22 = .ok (.aaload, 1) := by decide +kernel
theorem dX4_cube_23 : decode cX4_cube 23 = .ok (.astore_n 3, 1) := by decide +kernel
theorem dX4_cube_24 : decode cX4_cube 24 = .ok (.iload_n 2, 1) := by decide +kernel
theorem dX4_cube_25 : decode cX4_cube 25 = .ok (.bipush 10, 2) := by decide +kernel
theorem dX4_cube_27 : decode cX4_cube 27 = .ok (.if_icmp .lt 19, 3) := by decide +kernel
theorem dX4_cube_30 : decode cX4_cube 30 = .ok (.iload_n 2, 1) := by decide +kernel
theorem dX4_cube_31 : decode cX4_cube 31 = .ok (.bipush 16, 2) := by decide +kernel
theorem dX4_cube_33 : decode cX4_cube 33 = .ok (.if_icmp .ge 13, 3) := by decide +kernel
theorem dX4_cube_36 : decode cX4_cube 36 = .ok (.aload_n 3, 1) := by decide +kernel
theorem dX4_cube_37 : decode cX4_cube 37 = .ok (.getfield 82, 3) := by decide +kernel
theorem dX4_cube_40 : decode cX4_cube 40 = .ok (.iload_n 2, 1) := by decide +kernel
theorem dX4_cube_41 : decode cX4_cube 41 = .ok (.bipush 10, 2) := by decide +kernel
theorem dX4_cube_43 : decode cX4_cube 43 = .ok (.isub, 1) := by decide +kernel
theorem dX4_cube_44 : decode cX4_cube 44 = .ok (.iaload, 1) := by decide +kernel
theorem dX4_cube_45 : decode cX4_cube 45 = .ok (.ireturn, 1) := by decide +kernel
theorem dX4_cube_46 : decode cX4_cube 46 = .ok (.iload_n 2, 1) := by decide +kernel
theorem dX4_cube_47 : decode cX4_cube 47 = .ok (.tableswitch 76 0 4 #[33, 38, 54, 59, 67], 33) := by decide +kernel
theorem dX4_cube_80 : decode cX4_cube 80 = .ok (.aload_n 3, 1) := by decide +kernel
theorem dX4_cube_81 : decode cX4_cube 81 = .ok (.getfield 77, 3) := by decide +kernel
theorem dX4_cube_84 : decode cX4_cube 84 = .ok (.ireturn, 1) := by decide +kernel
theorem dX4_cube_85 : decode cX4_cube 85 = .ok (.aload_n 0, 1) := by decide +kernel
theorem dX4_cube_86 : decode cX4_cube 86 = .ok (.getfield 29, 3) := by decide +kernel
theorem dX4_cube_89 : decode cX4_cube 89 = .ok (.getfield 89, 3) := by decide +kernel
theorem dX4_cube_92 : decode cX4_cube 92 = .ok (.aload_n 3, 1) := by decide +kernel
theorem dX4_cube_93 : decode cX4_cube 93 = .ok (.getfield 77, 3) := by decide +kernel
theorem dX4_cube_96 : decode cX4_cube 96 = .ok (.aaload, 1) := by decide +kernel
theorem dX4_cube_97 : decode cX4_cube 97 = .ok (.getfield 93, 3) := by decide +kernel
theorem dX4_cube_100 : decode cX4_cube 100 = .ok (.ireturn, 1) := by decide +kernel
theorem dX4_cube_101 : decode cX4_cube 101 = .ok (.aload_n 3, 1) := by decide +kernel
theorem dX4_cube_102 : decode cX4_cube 102 = .ok (.getfield 96, 3) := by decide +kernel
theorem dX4_cube_105 : decode cX4_cube 105 = .ok (.ireturn, 1) := by decide +kernel
theorem dX4_cube_106 : decode cX4_cube 106 = .ok (.aload_n 3, 1) := by decide +kernel
theorem dX4_cube_107 : decode cX4_cube 107 = .ok (.getfield 96, 3) := by decide +kernel
theorem dX4_cube_110 : decode cX4_cube 110 = .ok (.invokestatic 99, 3) := by decide +kernel
theorem dX4_cube_113 : decode cX4_cube 113 = .ok (.ireturn, 1) := by decide +kernel
theorem dX4_cube_114 : decode cX4_cube 114 = .ok (.getstatic 102, 3) := by decide +kernel
theorem dX4_cube_117 : decode cX4_cube 117 = .ok (.aload_n 3, 1) := by decide +kernel
theorem dX4_cube_118 : decode cX4_cube 118 = .ok (.getfield 77, 3) := by decide +kernel
theorem dX4_cube_121 : decode cX4_cube 121 = .ok (.iaload, 1) := by decide +kernel
theorem dX4_cube_122 : decode cX4_cube 122 = .ok (.ireturn, 1) := by decide +kernel
theorem dX4_cube_123 : decode cX4_cube 123 = .ok (.bipush (-102), 2) := by decide +kernel
theorem dX4_cube_125 : decode cX4_cube 125 = .ok (.ireturn, 1) := by decide +kernel
set_option maxRecDepth 20000 in
theorem ggX4_as_X2_has : GoodIn wsX4_as wsX2_has := gdW wa_716 (by decide +kernel) (by decide +kernel)
set_option maxRecDepth 20000 in
theorem gX4_as_X2_has : GoodIn wsX4_as (wsV RX4 85 RX2 yX2_has wsX2_has) := (gd1 wa_713 (by decide +kernel) (gd1 wa_714 (by decide +kernel) (gd1 wa_715 (by decide +kernel) (gd1 wa_16 (by decide +kernel) ggX4_as_X2_has))))
theorem dX4_as_0 : decode cX4_as 0 = .ok (.aload_n 0, 1) := by decide +kernel
theorem dX4_as_1 : decode cX4_as 1 = .ok (.getfield 16, 3) := by decide +kernel
theorem dX4_as_4 : decode cX4_as 4 = .ok (.iload_n 1, 1) := by decide +kernel
theorem dX4_as_5 : decode cX4_as 5 = .ok (.invokevirtual 85, 3) := by decide +kernel
theorem dX4_as_8 : decode cX4_as 8 = .ok (.ifCond .ne 6, 3) := by decide +kernel
theorem dX4_as_11 : decode cX4_as 11 = .ok (.bipush (-101), 2) := by decide +kernel
theorem dX4_as_13 : decode cX4_as 13 = .ok (.ireturn, 1) := by decide +kernel
theorem dX4_as_14 : decode cX4_as 14 = .ok (.iload_n 2, 1) := by decide +kernel
theorem dX4_as_15 : decode cX4_as 15 = .ok (.ifCond .lt 8, 3) := by decide +kernel
theorem dX4_as_18 : decode cX4_as 18 = .ok (.iload_n 2, 1) := by decide +kernel
theorem dX4_as_19 : decode cX4_as 19 = .ok (.iconst 5, 1) := by decide +kernel
theorem dX4_as_20 : decode cX4_as 20 = .ok (.if_icmp .lt 6, 3) := by decide +kernel
theorem dX4_as_23 : decode cX4_as 23 = .ok (.bipush (-102), 2) := by decide +kernel
theorem dX4_as_25 : decode cX4_as 25 = .ok (.ireturn, 1) := by decide +kernel
theorem dX4_as_26 : decode cX4_as 26 = .ok (.getstatic 105, 3) := by decide +kernel
theorem dX4_as_29 : decode cX4_as 29 = .ok (.aload_n 0, 1) := by decide +kernel
theorem dX4_as_30 : decode cX4_as 30 = .ok (.getfield 16, 3) := by decide +kernel
theorem dX4_as_33 : decode cX4_as 33 = .ok (.getfield 73, 3) := by decide +kernel
theorem dX4_as_36 : decode cX4_as 36 = .ok (.iload_n 1, 1) := by decide +kernel
theorem dX4_as_37 : decode cX4_as 37 = .ok (.aaload, 1) := by decide +kernel
theorem dX4_as_38 : decode cX4_as 38 = .ok (.getfield 77, 3) := by decide +kernel
theorem dX4_as_41 : decode cX4_as 41 = .ok (.iaload, 1) := by decide +kernel
theorem dX4_as_42 : decode cX4_as 42 = .ok (.iload_n 2, 1) := by decide +kernel
theorem dX4_as_43 : decode cX4_as 43 = .ok (.ishr, 1) := by decide +kernel
theorem dX4_as_44 : decode cX4_as 44 = .ok (.iconst 1, 1) := by decide +kernel
theorem dX4_as_45 : decode cX4_as 45 = .ok (.iand, 1) := by decide +kernel
theorem dX4_as_46 : decode cX4_as 46 = .ok (.iconst 1, 1) := by decide +kernel
theorem dX4_as_47 : decode cX4_as 47 = .ok (.if_icmp .ne 7, 3) := by decide +kernel
theorem dX4_as_50 : decode cX4_as 50 = .ok (.iload_n 1, 1) := by decide +kernel
theorem dX4_as_51 : decode cX4_as 51 = .ok (.goto 4, 3) := by decide +kernel
theorem dX4_as_54 : decode cX4_as 54 = .ok (.iconst (-1), 1) := by decide +kernel
theorem dX4_as_55 : decode cX4_as 55 = .ok (.ireturn, 1) := by decide +kernel
set_option maxRecDepth 20000 in
theorem ggX4_wall_X2_clashesOn : GoodIn wsX4_wall wsX2_clashesOn := gdW wa_905 (by decide +kernel) (by decide +kernel)
set_option maxRecDepth 20000 in
theorem gX4_wall_X2_clashesOn : GoodIn wsX4_wall (wsV RX4 108 RX2 yX2_clashesOn wsX2_clashesOn) := (gd1 wa_902 (by decide +kernel) (gd1 wa_903 (by decide +kernel) (gd1 wa_904 (by decide +kernel) (gd1 wa_16 (by decide +kernel) ggX4_wall_X2_clashesOn))))
theorem dX4_wall_0 : decode cX4_wall 0 = .ok (.iload_n 1, 1) := by decide +kernel
theorem dX4_wall_1 : decode cX4_wall 1 = .ok (.ifCond .lt 18, 3) := by decide +kernel
theorem dX4_wall_4 : decode cX4_wall 4 = .ok (.iload_n 1, 1) := by decide +kernel
theorem dX4_wall_5 : decode cX4_wall 5 = .ok (.iconst 4, 1) := by decide +kernel
theorem dX4_wall_6 : decode cX4_wall 6 = .ok (.if_icmp .ge 13, 3) := by decide +kernel
theorem dX4_wall_9 : decode cX4_wall 9 = .ok (.aload_n 0, 1) := by decide +kernel
theorem dX4_wall_10 : decode cX4_wall 10 = .ok (.getfield 16, 3) := by decide +kernel
theorem dX4_wall_13 : decode cX4_wall 13 = .ok (.getfield 52, 3) := by decide +kernel
theorem dX4_wall_16 : decode cX4_wall 16 = .ok (.ifCond .ne 6, 3) := by decide +kernel
theorem dX4_wall_19 : decode cX4_wall 19 = .ok (.bipush (-101), 2) := by decide +kernel
theorem dX4_wall_21 : decode cX4_wall 21 = .ok (.ireturn, 1) := by decide +kernel
theorem dX4_wall_22 : decode cX4_wall 22 = .ok (.iload_n 2, 1) := by decide +kernel
theorem dX4_wall_23 : decode cX4_wall 23 = .ok (.ifCond .lt 8, 3) := by decide +kernel
theorem dX4_wall_26 : decode cX4_wall 26 = .ok (.iload_n 2, 1) := by decide +kernel
theorem dX4_wall_27 : decode cX4_wall 27 = .ok (.iconst 1, 1) := by decide +kernel
theorem dX4_wall_28 : decode cX4_wall 28 = .ok (.if_icmp .le 6, 3) := by decide +kernel
theorem dX4_wall_31 : decode cX4_wall 31 = .ok (.bipush (-102), 2) := by decide +kernel
theorem dX4_wall_33 : decode cX4_wall 33 = .ok (.ireturn, 1) := by decide +kernel
theorem dX4_wall_34 : decode cX4_wall 34 = .ok (.aload_n 0, 1) := by decide +kernel
theorem dX4_wall_35 : decode cX4_wall 35 = .ok (.getfield 16, 3) := by decide +kernel
theorem dX4_wall_38 : decode cX4_wall 38 = .ok (.iload_n 1, 1) := by decide +kernel
theorem dX4_wall_39 : decode cX4_wall 39 = .ok (.invokevirtual 108, 3) := by decide +kernel
theorem dX4_wall_42 : decode cX4_wall 42 = .ok (.istore_n 3, 1) := by decide +kernel
theorem dX4_wall_43 : decode cX4_wall 43 = .ok (.iload_n 2, 1) := by decide +kernel
theorem dX4_wall_44 : decode cX4_wall 44 = .ok (.iconst 1, 1) := by decide +kernel
theorem dX4_wall_45 : decode cX4_wall 45 = .ok (.if_icmp .ne 7, 3) := by decide +kernel
theorem dX4_wall_48 : decode cX4_wall 48 = .ok (.iload_n 3, 1) := by decide +kernel
theorem dX4_wall_49 : decode cX4_wall 49 = .ok (.goto 12, 3) := by decide +kernel
theorem dX4_wall_52 : decode cX4_wall 52 = .ok (.iload_n 3, 1) := by decide +kernel
theorem dX4_wall_53 : decode cX4_wall 53 = .ok (.ifCond .ne 7, 3) := by decide +kernel
theorem dX4_wall_56 : decode cX4_wall 56 = .ok (.iconst 1, 1) := by decide +kernel
theorem dX4_wall_57 : decode cX4_wall 57 = .ok (.goto 4, 3) := by decide +kernel
theorem dX4_wall_60 : decode cX4_wall 60 = .ok (.iconst 0, 1) := by decide +kernel
theorem dX4_wall_61 : decode cX4_wall 61 = .ok (.ireturn, 1) := by decide +kernel
set_option maxRecDepth 20000 in
theorem ggX4_nextQuestion_J6_bitCount_0f7a4 : GoodIn wsX4_nextQuestion wsJ6_bitCount_0f7a4 := gdW wa_726 (by decide +kernel) (by decide +kernel)
set_option maxRecDepth 20000 in
theorem gX4_nextQuestion_J6_bitCount_0f7a4 : GoodIn wsX4_nextQuestion (va_wsS RX4 114 yJ6_bitCount_0f7a4 wsJ6_bitCount_0f7a4) := (gd1 wa_723 (by decide +kernel) (gd1 wa_724 (by decide +kernel) (gd1 wa_725 (by decide +kernel) ggX4_nextQuestion_J6_bitCount_0f7a4)))
theorem dX4_nextQuestion_0 : decode cX4_nextQuestion 0 = .ok (.iload_n 0, 1) := by decide +kernel
theorem dX4_nextQuestion_1 : decode cX4_nextQuestion 1 = .ok (.ifCond .ne 5, 3) := by decide +kernel
theorem dX4_nextQuestion_4 : decode cX4_nextQuestion 4 = .ok (.iconst (-1), 1) := by decide +kernel
theorem dX4_nextQuestion_5 : decode cX4_nextQuestion 5 = .ok (.ireturn, 1) := by decide +kernel
theorem dX4_nextQuestion_6 : decode cX4_nextQuestion 6 = .ok (.iconst 0, 1) := by decide +kernel
theorem dX4_nextQuestion_7 : decode cX4_nextQuestion 7 = .ok (.istore_n 1, 1) := by decide +kernel
theorem dX4_nextQuestion_8 : decode cX4_nextQuestion 8 = .ok (.bipush 6, 2) := by decide +kernel
theorem dX4_nextQuestion_10 : decode cX4_nextQuestion 10 = .ok (.istore_n 2, 1) := by decide +kernel
theorem dX4_nextQuestion_11 : decode cX4_nextQuestion 11 = .ok (.iconst 0, 1) := by decide +kernel
theorem dX4_nextQuestion_12 : decode cX4_nextQuestion 12 = .ok (.istore_n 3, 1) := by decide +kernel
theorem dX4_nextQuestion_13 : decode cX4_nextQuestion 13 = .ok (.iload_n 3, 1) := by decide +kernel
theorem dX4_nextQuestion_14 : decode cX4_nextQuestion 14 = .ok (.iconst 3, 1) := by decide +kernel
theorem dX4_nextQuestion_15 : decode cX4_nextQuestion 15 = .ok (.if_icmp .ge 55, 3) := by decide +kernel
theorem dX4_nextQuestion_18 : decode cX4_nextQuestion 18 = .ok (.iload_n 0, 1) := by decide +kernel
theorem dX4_nextQuestion_19 : decode cX4_nextQuestion 19 = .ok (.getstatic 111, 3) := by decide +kernel
theorem dX4_nextQuestion_22 : decode cX4_nextQuestion 22 = .ok (.iload_n 3, 1) := by decide +kernel
theorem dX4_nextQuestion_23 : decode cX4_nextQuestion 23 = .ok (.iaload, 1) := by decide +kernel
theorem dX4_nextQuestion_24 : decode cX4_nextQuestion 24 = .ok (.iand, 1) := by decide +kernel
theorem dX4_nextQuestion_25 : decode cX4_nextQuestion 25 = .ok (.invokestatic 114, 3) := by decide +kernel
theorem dX4_nextQuestion_28 : decode cX4_nextQuestion 28 = .ok (.istore 4, 2) := by decide +kernel
theorem dX4_nextQuestion_30 : decode cX4_nextQuestion 30 = .ok (.iload_n 0, 1) := by decide +kernel
theorem dX4_nextQuestion_31 : decode cX4_nextQuestion 31 = .ok (.getstatic 111, 3) := by decide +kernel
theorem dX4_nextQuestion_34 : decode cX4_nextQuestion 34 = .ok (.iload_n 3, 1) := by decide +kernel
theorem dX4_nextQuestion_35 : decode cX4_nextQuestion 35 = .ok (.iaload, 1) := by decide +kernel
theorem dX4_nextQuestion_36 : decode cX4_nextQuestion 36 = .ok (.iconst (-1), 1) := by decide +kernel
theorem dX4_nextQuestion_37 : decode cX4_nextQuestion 37 = .ok (.ixor, 1) := by decide +kernel
theorem dX4_nextQuestion_38 : decode cX4_nextQuestion 38 = .ok (.iand, 1) := by decide +kernel
theorem dX4_nextQuestion_39 : decode cX4_nextQuestion 39 = .ok (.invokestatic 114, 3) := by decide +kernel
theorem dX4_nextQuestion_42 : decode cX4_nextQuestion 42 = .ok (.istore 5, 2) := by decide +kernel
theorem dX4_nextQuestion_44 : decode cX4_nextQuestion 44 = .ok (.iload 4, 2) := by decide +kernel
theorem dX4_nextQuestion_46 : decode cX4_nextQuestion 46 = .ok (.iload 5, 2) := by decide +kernel
theorem dX4_nextQuestion_48 : decode cX4_nextQuestion 48 = .ok (.invokestatic 119, 3) := by decide +kernel
theorem dX4_nextQuestion_51 : decode cX4_nextQuestion 51 = .ok (.istore 6, 2) := by decide +kernel
theorem dX4_nextQuestion_53 : decode cX4_nextQuestion 53 = .ok (.iload 6, 2) := by decide +kernel
theorem dX4_nextQuestion_55 : decode cX4_nextQuestion 55 = .ok (.iload_n 2, 1) := by decide +kernel
theorem dX4_nextQuestion_56 : decode cX4_nextQuestion 56 = .ok (.if_icmp .ge 8, 3) := by decide +kernel
theorem dX4_nextQuestion_59 : decode cX4_nextQuestion 59 = .ok (.iload 6, 2) := by decide +kernel
theorem dX4_nextQuestion_61 : decode cX4_nextQuestion 61 = .ok (.istore_n 2, 1) := by decide +kernel
theorem dX4_nextQuestion_62 : decode cX4_nextQuestion 62 = .ok (.iload_n 3, 1) := by decide +kernel
theorem dX4_nextQuestion_63 : decode cX4_nextQuestion 63 = .ok (.istore_n 1, 1) := by decide +kernel
theorem dX4_nextQuestion_64 : decode cX4_nextQuestion 64 = .ok (.iinc 3 1, 3) := by decide +kernel
theorem dX4_nextQuestion_67 : decode cX4_nextQuestion 67 = .ok (.goto (-54), 3) := by decide +kernel
theorem dX4_nextQuestion_70 : decode cX4_nextQuestion 70 = .ok (.iload_n 1, 1) := by decide +kernel
theorem dX4_nextQuestion_71 : decode cX4_nextQuestion 71 = .ok (.ireturn, 1) := by decide +kernel
set_option maxRecDepth 20000 in
theorem ggX4_turn_X2_has : GoodIn wsX4_turn wsX2_has := gdW wa_716 (by decide +kernel) (by decide +kernel)
set_option maxRecDepth 20000 in
theorem gX4_turn_X2_has : GoodIn wsX4_turn (wsV RX4 85 RX2 yX2_has wsX2_has) := (gd1 wa_713 (by decide +kernel) (gd1 wa_714 (by decide +kernel) (gd1 wa_715 (by decide +kernel) (gd1 wa_16 (by decide +kernel) ggX4_turn_X2_has))))
set_option maxRecDepth 20000 in
theorem ggX4_turn_X4_canTurn : GoodIn wsX4_turn wsX4_canTurn := gdW wa_136 (by decide +kernel) (by decide +kernel)
set_option maxRecDepth 20000 in
theorem gX4_turn_X4_canTurn : GoodIn wsX4_turn (va_wsS RX4 125 yX4_canTurn wsX4_canTurn) := (gd1 wa_966 (by decide +kernel) (gd1 wa_135 (by decide +kernel) (gd1 wa_2 (by decide +kernel) ggX4_turn_X4_canTurn)))
set_option maxRecDepth 20000 in
theorem ggX4_turn_X0_turnOver : GoodIn wsX4_turn wsX0_turnOver := gdW wa_970 (by decide +kernel) (by decide +kernel)
set_option maxRecDepth 20000 in
theorem gX4_turn_X0_turnOver : GoodIn wsX4_turn (wsV RX4 128 RX0 yX0_turnOver wsX0_turnOver) := (gd1 wa_967 (by decide +kernel) (gd1 wa_968 (by decide +kernel) (gd1 wa_969 (by decide +kernel) (gd1 wa_69 (by decide +kernel) ggX4_turn_X0_turnOver))))
set_option maxRecDepth 20000 in
theorem ggX4_turn_X2_clashes : GoodIn wsX4_turn wsX2_clashes := gdW wa_975 (by decide +kernel) (by decide +kernel)
set_option maxRecDepth 20000 in
theorem gX4_turn_X2_clashes : GoodIn wsX4_turn (wsV RX4 131 RX2 yX2_clashes wsX2_clashes) := (gd1 wa_972 (by decide +kernel) (gd1 wa_973 (by decide +kernel) (gd1 wa_974 (by decide +kernel) (gd1 wa_16 (by decide +kernel) ggX4_turn_X2_clashes))))
theorem dX4_turn_0 : decode cX4_turn 0 = .ok (.aload_n 0, 1) := by decide +kernel
theorem dX4_turn_1 : decode cX4_turn 1 = .ok (.getfield 16, 3) := by decide +kernel
theorem dX4_turn_4 : decode cX4_turn 4 = .ok (.iload_n 1, 1) := by decide +kernel
theorem dX4_turn_5 : decode cX4_turn 5 = .ok (.invokevirtual 85, 3) := by decide +kernel
theorem dX4_turn_8 : decode cX4_turn 8 = .ok (.ifCond .ne 6, 3) := by decide +kernel
theorem dX4_turn_11 : decode cX4_turn 11 = .ok (.bipush (-101), 2) := by decide +kernel
theorem dX4_turn_13 : decode cX4_turn 13 = .ok (.ireturn, 1) := by decide +kernel
theorem dX4_turn_14 : decode cX4_turn 14 = .ok (.iload_n 2, 1) := by decide +kernel
theorem dX4_turn_15 : decode cX4_turn 15 = .ok (.ifCond .lt 8, 3) := by decide +kernel
theorem dX4_turn_18 : decode cX4_turn 18 = .ok (.iload_n 2, 1) := by decide +kernel
theorem dX4_turn_19 : decode cX4_turn 19 = .ok (.iconst 4, 1) := by decide +kernel
theorem dX4_turn_20 : decode cX4_turn 20 = .ok (.if_icmp .lt 6, 3) := by decide +kernel
theorem dX4_turn_23 : decode cX4_turn 23 = .ok (.bipush (-102), 2) := by decide +kernel
theorem dX4_turn_25 : decode cX4_turn 25 = .ok (.ireturn, 1) := by decide +kernel
theorem dX4_turn_26 : decode cX4_turn 26 = .ok (.aload_n 0, 1) := by decide +kernel
theorem dX4_turn_27 : decode cX4_turn 27 = .ok (.getfield 16, 3) := by decide +kernel
theorem dX4_turn_30 : decode cX4_turn 30 = .ok (.getfield 73, 3) := by decide +kernel
theorem dX4_turn_33 : decode cX4_turn 33 = .ok (.iload_n 1, 1) := by decide +kernel
theorem dX4_turn_34 : decode cX4_turn 34 = .ok (.aaload, 1) := by decide +kernel
theorem dX4_turn_35 : decode cX4_turn 35 = .ok (.getfield 77, 3) := by decide +kernel
theorem dX4_turn_38 : decode cX4_turn 38 = .ok (.iload_n 2, 1) := by decide +kernel
theorem dX4_turn_39 : decode cX4_turn 39 = .ok (.invokestatic 125, 3) := by decide +kernel
theorem dX4_turn_42 : decode cX4_turn 42 = .ok (.ifCond .ne 6, 3) := by decide +kernel
theorem dX4_turn_45 : decode cX4_turn 45 = .ok (.bipush (-103), 2) := by decide +kernel
theorem dX4_turn_47 : decode cX4_turn 47 = .ok (.ireturn, 1) := by decide +kernel
theorem dX4_turn_48 : decode cX4_turn 48 = .ok (.aload_n 0, 1) := by decide +kernel
theorem dX4_turn_49 : decode cX4_turn 49 = .ok (.getfield 16, 3) := by decide +kernel
theorem dX4_turn_52 : decode cX4_turn 52 = .ok (.getfield 67, 3) := by decide +kernel
theorem dX4_turn_55 : decode cX4_turn 55 = .ok (.sipush 999, 3) := by decide +kernel
theorem dX4_turn_58 : decode cX4_turn 58 = .ok (.if_icmp .lt 6, 3) := by decide +kernel
theorem dX4_turn_61 : decode cX4_turn 61 = .ok (.bipush (-104), 2) := by decide +kernel
theorem dX4_turn_63 : decode cX4_turn 63 = .ok (.ireturn, 1) := by decide +kernel
theorem dX4_turn_64 : decode cX4_turn 64 = .ok (.aload_n 0, 1) := by decide +kernel
theorem dX4_turn_65 : decode cX4_turn 65 = .ok (.getfield 16, 3) := by decide +kernel
theorem dX4_turn_68 : decode cX4_turn 68 = .ok (.getfield 73, 3) := by decide +kernel
theorem dX4_turn_71 : decode cX4_turn 71 = .ok (.iload_n 1, 1) := by decide +kernel
theorem dX4_turn_72 : decode cX4_turn 72 = .ok (.aaload, 1) := by decide +kernel
theorem dX4_turn_73 : decode cX4_turn 73 = .ok (.iload_n 2, 1) := by decide +kernel
theorem dX4_turn_74 : decode cX4_turn 74 = .ok (.invokevirtual 128, 3) := by decide +kernel
theorem dX4_turn_77 : decode cX4_turn 77 = .ok (.aload_n 0, 1) := by decide +kernel
theorem dX4_turn_78 : decode cX4_turn 78 = .ok (.getfield 16, 3) := by decide +kernel
theorem dX4_turn_81 : decode cX4_turn 81 = .ok (.dup, 1) := by decide +kernel
theorem dX4_turn_82 : decode cX4_turn 82 = .ok (.getfield 67, 3) := by decide +kernel
theorem dX4_turn_85 : decode cX4_turn 85 = .ok (.iconst 1, 1) := by decide +kernel
theorem dX4_turn_86 : decode cX4_turn 86 = .ok (.iadd, 1) := by decide +kernel
theorem dX4_turn_87 : decode cX4_turn 87 = .ok (.putfield 67, 3) := by decide +kernel
theorem dX4_turn_90 : decode cX4_turn 90 = .ok (.aload_n 0, 1) := by decide +kernel
theorem dX4_turn_91 : decode cX4_turn 91 = .ok (.iconst 0, 1) := by decide +kernel
theorem dX4_turn_92 : decode cX4_turn 92 = .ok (.putfield 55, 3) := by decide +kernel
theorem dX4_turn_95 : decode cX4_turn 95 = .ok (.aload_n 0, 1) := by decide +kernel
theorem dX4_turn_96 : decode cX4_turn 96 = .ok (.getfield 16, 3) := by decide +kernel
theorem dX4_turn_99 : decode cX4_turn 99 = .ok (.invokevirtual 131, 3) := by decide +kernel
theorem dX4_turn_102 : decode cX4_turn 102 = .ok (.ireturn, 1) := by decide +kernel
set_option maxRecDepth 20000 in
theorem ggX4_paint_X2_has : GoodIn wsX4_paint wsX2_has := gdW wa_716 (by decide +kernel) (by decide +kernel)
set_option maxRecDepth 20000 in
theorem gX4_paint_X2_has : GoodIn wsX4_paint (wsV RX4 85 RX2 yX2_has wsX2_has) := (gd1 wa_713 (by decide +kernel) (gd1 wa_714 (by decide +kernel) (gd1 wa_715 (by decide +kernel) (gd1 wa_16 (by decide +kernel) ggX4_paint_X2_has))))
theorem dX4_paint_0 : decode cX4_paint 0 = .ok (.aload_n 0, 1) := by decide +kernel
theorem dX4_paint_1 : decode cX4_paint 1 = .ok (.getfield 16, 3) := by decide +kernel
theorem dX4_paint_4 : decode cX4_paint 4 = .ok (.iload_n 1, 1) := by decide +kernel
theorem dX4_paint_5 : decode cX4_paint 5 = .ok (.invokevirtual 85, 3) := by decide +kernel
theorem dX4_paint_8 : decode cX4_paint 8 = .ok (.ifCond .eq 13, 3) := by decide +kernel
theorem dX4_paint_11 : decode cX4_paint 11 = .ok (.iload_n 2, 1) := by decide +kernel
theorem dX4_paint_12 : decode cX4_paint 12 = .ok (.ifCond .lt 9, 3) := by decide +kernel
theorem dX4_paint_15 : decode cX4_paint 15 = .ok (.iload_n 2, 1) := by decide +kernel
theorem dX4_paint_16 : decode cX4_paint 16 = .ok (.bipush 6, 2) := by decide +kernel
theorem dX4_paint_18 : decode cX4_paint 18 = .ok (.if_icmp .lt 6, 3) := by decide +kernel
theorem dX4_paint_21 : decode cX4_paint 21 = .ok (.bipush (-101), 2) := by decide +kernel
theorem dX4_paint_23 : decode cX4_paint 23 = .ok (.ireturn, 1) := by decide +kernel
theorem dX4_paint_24 : decode cX4_paint 24 = .ok (.iload_n 3, 1) := by decide +kernel
theorem dX4_paint_25 : decode cX4_paint 25 = .ok (.ifCond .lt 9, 3) := by decide +kernel
theorem dX4_paint_28 : decode cX4_paint 28 = .ok (.iload_n 3, 1) := by decide +kernel
theorem dX4_paint_29 : decode cX4_paint 29 = .ok (.bipush 6, 2) := by decide +kernel
theorem dX4_paint_31 : decode cX4_paint 31 = .ok (.if_icmp .lt 6, 3) := by decide +kernel
theorem dX4_paint_34 : decode cX4_paint 34 = .ok (.bipush (-102), 2) := by decide +kernel
theorem dX4_paint_36 : decode cX4_paint 36 = .ok (.ireturn, 1) := by decide +kernel
theorem dX4_paint_37 : decode cX4_paint 37 = .ok (.aload_n 0, 1) := by decide +kernel
theorem dX4_paint_38 : decode cX4_paint 38 = .ok (.getfield 16, 3) := by decide +kernel
theorem dX4_paint_41 : decode cX4_paint 41 = .ok (.getfield 73, 3) := by decide +kernel
theorem dX4_paint_44 : decode cX4_paint 44 = .ok (.iload_n 1, 1) := by decide +kernel
theorem dX4_paint_45 : decode cX4_paint 45 = .ok (.aaload, 1) := by decide +kernel
theorem dX4_paint_46 : decode cX4_paint 46 = .ok (.getfield 82, 3) := by decide +kernel
theorem dX4_paint_49 : decode cX4_paint 49 = .ok (.iload_n 2, 1) := by decide +kernel
theorem dX4_paint_50 : decode cX4_paint 50 = .ok (.iaload, 1) := by decide +kernel
theorem dX4_paint_51 : decode cX4_paint 51 = .ok (.istore 4, 2) := by decide +kernel
theorem dX4_paint_53 : decode cX4_paint 53 = .ok (.aload_n 0, 1) := by decide +kernel
theorem dX4_paint_54 : decode cX4_paint 54 = .ok (.getfield 16, 3) := by decide +kernel
theorem dX4_paint_57 : decode cX4_paint 57 = .ok (.getfield 73, 3) := by decide +kernel
theorem dX4_paint_60 : decode cX4_paint 60 = .ok (.iload_n 1, 1) := by decide +kernel
theorem dX4_paint_61 : decode cX4_paint 61 = .ok (.aaload, 1) := by decide +kernel
theorem dX4_paint_62 : decode cX4_paint 62 = .ok (.getfield 82, 3) := by decide +kernel
theorem dX4_paint_65 : decode cX4_paint 65 = .ok (.iload_n 2, 1) := by decide +kernel
theorem dX4_paint_66 : decode cX4_paint 66 = .ok (.iload_n 3, 1) := by decide +kernel
theorem dX4_paint_67 : decode cX4_paint 67 = .ok (.iastore, 1) := by decide +kernel
theorem dX4_paint_68 : decode cX4_paint 68 = .ok (.aload_n 0, 1) := by decide +kernel
theorem dX4_paint_69 : decode cX4_paint 69 = .ok (.iconst 0, 1) := by decide +kernel
theorem dX4_paint_70 : decode cX4_paint 70 = .ok (.putfield 55, 3) := by decide +kernel
theorem dX4_paint_73 : decode cX4_paint 73 = .ok (.iload 4, 2) := by decide +kernel
theorem dX4_paint_75 : decode cX4_paint 75 = .ok (.ireturn, 1) := by decide +kernel
set_option maxRecDepth 20000 in
theorem ggX4_swap_X2_has : GoodIn wsX4_swap wsX2_has := gdW wa_716 (by decide +kernel) (by decide +kernel)
set_option maxRecDepth 20000 in
theorem gX4_swap_X2_has : GoodIn wsX4_swap (wsV RX4 85 RX2 yX2_has wsX2_has) := (gd1 wa_713 (by decide +kernel) (gd1 wa_714 (by decide +kernel) (gd1 wa_715 (by decide +kernel) (gd1 wa_16 (by decide +kernel) ggX4_swap_X2_has))))
set_option maxRecDepth 20000 in
theorem ggX4_swap_X2_clashes : GoodIn wsX4_swap wsX2_clashes := gdW wa_975 (by decide +kernel) (by decide +kernel)
set_option maxRecDepth 20000 in
theorem gX4_swap_X2_clashes : GoodIn wsX4_swap (wsV RX4 131 RX2 yX2_clashes wsX2_clashes) := (gd1 wa_972 (by decide +kernel) (gd1 wa_973 (by decide +kernel) (gd1 wa_974 (by decide +kernel) (gd1 wa_16 (by decide +kernel) ggX4_swap_X2_clashes))))
theorem dX4_swap_0 : decode cX4_swap 0 = .ok (.aload_n 0, 1) := by decide +kernel
theorem dX4_swap_1 : decode cX4_swap 1 = .ok (.getfield 16, 3) := by decide +kernel
theorem dX4_swap_4 : decode cX4_swap 4 = .ok (.iload_n 1, 1) := by decide +kernel
theorem dX4_swap_5 : decode cX4_swap 5 = .ok (.invokevirtual 85, 3) := by decide +kernel
theorem dX4_swap_8 : decode cX4_swap 8 = .ok (.ifCond .eq 19, 3) := by decide +kernel
theorem dX4_swap_11 : decode cX4_swap 11 = .ok (.aload_n 0, 1) := by decide +kernel
theorem dX4_swap_12 : decode cX4_swap 12 = .ok (.getfield 16, 3) := by decide +kernel
theorem dX4_swap_15 : decode cX4_swap 15 = .ok (.iload_n 2, 1) := by decide +kernel
theorem dX4_swap_16 : decode cX4_swap 16 = .ok (.invokevirtual 85, 3) := by decide +kernel
theorem dX4_swap_19 : decode cX4_swap 19 = .ok (.ifCond .eq 8, 3) := by decide +kernel
theorem dX4_swap_22 : decode cX4_swap 22 = .ok (.iload_n 1, 1) := by decide +kernel
theorem dX4_swap_23 : decode cX4_swap 23 = .ok (.iload_n 2, 1) := by decide +kernel
theorem dX4_swap_24 : decode cX4_swap 24 = .ok (.if_icmp .ne 6, 3) := by decide +kernel
theorem dX4_swap_27 : decode cX4_swap 27 = .ok (.bipush (-101), 2) := by decide +kernel
theorem dX4_swap_29 : decode cX4_swap 29 = .ok (.ireturn, 1) := by decide +kernel
theorem dX4_swap_30 : decode cX4_swap 30 = .ok (.aload_n 0, 1) := by decide +kernel
theorem dX4_swap_31 : decode cX4_swap 31 = .ok (.getfield 16, 3) := by decide +kernel
theorem dX4_swap_34 : decode cX4_swap 34 = .ok (.getfield 73, 3) := by decide +kernel
theorem dX4_swap_37 : decode cX4_swap 37 = .ok (.iload_n 1, 1) := by decide +kernel
theorem dX4_swap_38 : decode cX4_swap 38 = .ok (.aaload, 1) := by decide +kernel
theorem dX4_swap_39 : decode cX4_swap 39 = .ok (.astore_n 3, 1) := by decide +kernel
theorem dX4_swap_40 : decode cX4_swap 40 = .ok (.aload_n 0, 1) := by decide +kernel
theorem dX4_swap_41 : decode cX4_swap 41 = .ok (.getfield 16, 3) := by decide +kernel
theorem dX4_swap_44 : decode cX4_swap 44 = .ok (.getfield 73, 3) := by decide +kernel
theorem dX4_swap_47 : decode cX4_swap 47 = .ok (.iload_n 1, 1) := by decide +kernel
theorem dX4_swap_48 : decode cX4_swap 48 = .ok (.aload_n 0, 1) := by decide +kernel
theorem dX4_swap_49 : decode cX4_swap 49 = .ok (.getfield 16, 3) := by decide +kernel
theorem dX4_swap_52 : decode cX4_swap 52 = .ok (.getfield 73, 3) := by decide +kernel
theorem dX4_swap_55 : decode cX4_swap 55 = .ok (.iload_n 2, 1) := by decide +kernel
theorem dX4_swap_56 : decode cX4_swap 56 = .ok (.aaload, 1) := by decide +kernel
theorem dX4_swap_57 : decode cX4_swap 57 = .ok (.aastore, 1) := by decide +kernel
theorem dX4_swap_58 : decode cX4_swap 58 = .ok (.aload_n 0, 1) := by decide +kernel
theorem dX4_swap_59 : decode cX4_swap 59 = .ok (.getfield 16, 3) := by decide +kernel
theorem dX4_swap_62 : decode cX4_swap 62 = .ok (.getfield 73, 3) := by decide +kernel
theorem dX4_swap_65 : decode cX4_swap 65 = .ok (.iload_n 2, 1) := by decide +kernel
theorem dX4_swap_66 : decode cX4_swap 66 = .ok (.aload_n 3, 1) := by decide +kernel
theorem dX4_swap_67 : decode cX4_swap 67 = .ok (.aastore, 1) := by decide +kernel
theorem dX4_swap_68 : decode cX4_swap 68 = .ok (.aload_n 0, 1) := by decide +kernel
theorem dX4_swap_69 : decode cX4_swap 69 = .ok (.iconst 0, 1) := by decide +kernel
theorem dX4_swap_70 : decode cX4_swap 70 = .ok (.putfield 55, 3) := by decide +kernel
theorem dX4_swap_73 : decode cX4_swap 73 = .ok (.aload_n 0, 1) := by decide +kernel
theorem dX4_swap_74 : decode cX4_swap 74 = .ok (.getfield 16, 3) := by decide +kernel
theorem dX4_swap_77 : decode cX4_swap 77 = .ok (.invokevirtual 131, 3) := by decide +kernel
theorem dX4_swap_80 : decode cX4_swap 80 = .ok (.ireturn, 1) := by decide +kernel
set_option maxRecDepth 20000 in
theorem ggX4_be_X2_has : GoodIn wsX4_be wsX2_has := gdW wa_716 (by decide +kernel) (by decide +kernel)
set_option maxRecDepth 20000 in
theorem gX4_be_X2_has : GoodIn wsX4_be (wsV RX4 85 RX2 yX2_has wsX2_has) := (gd1 wa_713 (by decide +kernel) (gd1 wa_714 (by decide +kernel) (gd1 wa_715 (by decide +kernel) (gd1 wa_16 (by decide +kernel) ggX4_be_X2_has))))
theorem dX4_be_0 : decode cX4_be 0 = .ok (.aload_n 0, 1) := by decide +kernel
theorem dX4_be_1 : decode cX4_be 1 = .ok (.getfield 16, 3) := by decide +kernel
theorem dX4_be_4 : decode cX4_be 4 = .ok (.iload_n 1, 1) := by decide +kernel
theorem dX4_be_5 : decode cX4_be 5 = .ok (.invokevirtual 85, 3) := by decide +kernel
theorem dX4_be_8 : decode cX4_be 8 = .ok (.ifCond .ne 6, 3) := by decide +kernel
theorem dX4_be_11 : decode cX4_be 11 = .ok (.bipush (-101), 2) := by decide +kernel
theorem dX4_be_13 : decode cX4_be 13 = .ok (.ireturn, 1) := by decide +kernel
theorem dX4_be_14 : decode cX4_be 14 = .ok (.iload_n 2, 1) := by decide +kernel
theorem dX4_be_15 : decode cX4_be 15 = .ok (.ifCond .lt 8, 3) := by decide +kernel
theorem dX4_be_18 : decode cX4_be 18 = .ok (.iload_n 2, 1) := by decide +kernel
theorem dX4_be_19 : decode cX4_be 19 = .ok (.iconst 5, 1) := by decide +kernel
theorem dX4_be_20 : decode cX4_be 20 = .ok (.if_icmp .lt 6, 3) := by decide +kernel
theorem dX4_be_23 : decode cX4_be 23 = .ok (.bipush (-102), 2) := by decide +kernel
theorem dX4_be_25 : decode cX4_be 25 = .ok (.ireturn, 1) := by decide +kernel
theorem dX4_be_26 : decode cX4_be 26 = .ok (.aload_n 0, 1) := by decide +kernel
theorem dX4_be_27 : decode cX4_be 27 = .ok (.getfield 16, 3) := by decide +kernel
theorem dX4_be_30 : decode cX4_be 30 = .ok (.getfield 73, 3) := by decide +kernel
theorem dX4_be_33 : decode cX4_be 33 = .ok (.iload_n 1, 1) := by decide +kernel
theorem dX4_be_34 : decode cX4_be 34 = .ok (.aaload, 1) := by decide +kernel
theorem dX4_be_35 : decode cX4_be 35 = .ok (.getfield 77, 3) := by decide +kernel
theorem dX4_be_38 : decode cX4_be 38 = .ok (.istore_n 3, 1) := by decide +kernel
theorem dX4_be_39 : decode cX4_be 39 = .ok (.aload_n 0, 1) := by decide +kernel
theorem dX4_be_40 : decode cX4_be 40 = .ok (.getfield 16, 3) := by decide +kernel
theorem dX4_be_43 : decode cX4_be 43 = .ok (.getfield 73, 3) := by decide +kernel
theorem dX4_be_46 : decode cX4_be 46 = .ok (.iload_n 1, 1) := by decide +kernel
theorem dX4_be_47 : decode cX4_be 47 = .ok (.aaload, 1) := by decide +kernel
theorem dX4_be_48 : decode cX4_be 48 = .ok (.iload_n 2, 1) := by decide +kernel
theorem dX4_be_49 : decode cX4_be 49 = .ok (.putfield 77, 3) := by decide +kernel
theorem dX4_be_52 : decode cX4_be 52 = .ok (.aload_n 0, 1) := by decide +kernel
theorem dX4_be_53 : decode cX4_be 53 = .ok (.iconst 0, 1) := by decide +kernel
theorem dX4_be_54 : decode cX4_be 54 = .ok (.putfield 55, 3) := by decide +kernel
theorem dX4_be_57 : decode cX4_be 57 = .ok (.iload_n 3, 1) := by decide +kernel
theorem dX4_be_58 : decode cX4_be 58 = .ok (.ireturn, 1) := by decide +kernel
theorem dX4_canTurn_0 : decode cX4_canTurn 0 = .ok (.getstatic 102, 3) := by decide +kernel
theorem dX4_canTurn_3 : decode cX4_canTurn 3 = .ok (.iload_n 0, 1) := by decide +kernel
theorem dX4_canTurn_4 : decode cX4_canTurn 4 = .ok (.iaload, 1) := by decide +kernel
theorem dX4_canTurn_5 : decode cX4_canTurn 5 = .ok (.iload_n 1, 1) := by decide +kernel
theorem dX4_canTurn_6 : decode cX4_canTurn 6 = .ok (.ishr, 1) := by decide +kernel
theorem dX4_canTurn_7 : decode cX4_canTurn 7 = .ok (.iconst 1, 1) := by decide +kernel
theorem dX4_canTurn_8 : decode cX4_canTurn 8 = .ok (.iand, 1) := by decide +kernel
theorem dX4_canTurn_9 : decode cX4_canTurn 9 = .ok (.iconst 1, 1) := by decide +kernel
theorem dX4_canTurn_10 : decode cX4_canTurn 10 = .ok (.if_icmp .ne 7, 3) := by decide +kernel
theorem dX4_canTurn_13 : decode cX4_canTurn 13 = .ok (.iconst 1, 1) := by decide +kernel
theorem dX4_canTurn_14 : decode cX4_canTurn 14 = .ok (.goto 4, 3) := by decide +kernel
theorem dX4_canTurn_17 : decode cX4_canTurn 17 = .ok (.iconst 0, 1) := by decide +kernel
theorem dX4_canTurn_18 : decode cX4_canTurn 18 = .ok (.ireturn, 1) := by decide +kernel
theorem dX4_turnRow_0 : decode cX4_turnRow 0 = .ok (.iload_n 2, 1) := by decide +kernel
theorem dX4_turnRow_1 : decode cX4_turnRow 1 = .ok (.iconst 4, 1) := by decide +kernel
theorem dX4_turnRow_2 : decode cX4_turnRow 2 = .ok (.if_icmp .ne 7, 3) := by decide +kernel
theorem dX4_turnRow_5 : decode cX4_turnRow 5 = .ok (.iconst 2, 1) := by decide +kernel
theorem dX4_turnRow_6 : decode cX4_turnRow 6 = .ok (.goto 4, 3) := by decide +kernel
theorem dX4_turnRow_9 : decode cX4_turnRow 9 = .ok (.iconst 1, 1) := by decide +kernel
theorem dX4_turnRow_10 : decode cX4_turnRow 10 = .ok (.istore 4, 2) := by decide +kernel
theorem dX4_turnRow_12 : decode cX4_turnRow 12 = .ok (.iload_n 3, 1) := by decide +kernel
theorem dX4_turnRow_13 : decode cX4_turnRow 13 = .ok (.iconst 2, 1) := by decide +kernel
theorem dX4_turnRow_14 : decode cX4_turnRow 14 = .ok (.irem, 1) := by decide +kernel
theorem dX4_turnRow_15 : decode cX4_turnRow 15 = .ok (.ifCond .ne 8, 3) := by decide +kernel
theorem dX4_turnRow_18 : decode cX4_turnRow 18 = .ok (.iload 4, 2) := by decide +kernel
theorem dX4_turnRow_20 : decode cX4_turnRow 20 = .ok (.goto 7, 3) := by decide +kernel
theorem dX4_turnRow_23 : decode cX4_turnRow 23 = .ok (.iconst 4, 1) := by decide +kernel
theorem dX4_turnRow_24 : decode cX4_turnRow 24 = .ok (.iload 4, 2) := by decide +kernel
theorem dX4_turnRow_26 : decode cX4_turnRow 26 = .ok (.isub, 1) := by decide +kernel
theorem dX4_turnRow_27 : decode cX4_turnRow 27 = .ok (.istore 5, 2) := by decide +kernel
theorem dX4_turnRow_29 : decode cX4_turnRow 29 = .ok (.iload_n 3, 1) := by decide +kernel
theorem dX4_turnRow_30 : decode cX4_turnRow 30 = .ok (.iconst 2, 1) := by decide +kernel
theorem dX4_turnRow_31 : decode cX4_turnRow 31 = .ok (.idiv, 1) := by decide +kernel
theorem dX4_turnRow_32 : decode cX4_turnRow 32 = .ok (.iconst 4, 1) := by decide +kernel
theorem dX4_turnRow_33 : decode cX4_turnRow 33 = .ok (.imul, 1) := by decide +kernel
theorem dX4_turnRow_34 : decode cX4_turnRow 34 = .ok (.istore 6, 2) := by decide +kernel
theorem dX4_turnRow_36 : decode cX4_turnRow 36 = .ok (.iconst 0, 1) := by decide +kernel
theorem dX4_turnRow_37 : decode cX4_turnRow 37 = .ok (.istore 7, 2) := by decide +kernel
theorem dX4_turnRow_39 : decode cX4_turnRow 39 = .ok (.iload 7, 2) := by decide +kernel
theorem dX4_turnRow_41 : decode cX4_turnRow 41 = .ok (.iload 5, 2) := by decide +kernel
theorem dX4_turnRow_43 : decode cX4_turnRow 43 = .ok (.if_icmp .ge 79, 3) := by decide +kernel
theorem dX4_turnRow_46 : decode cX4_turnRow 46 = .ok (.aload_n 0, 1) := by decide +kernel
theorem dX4_turnRow_47 : decode cX4_turnRow 47 = .ok (.iload_n 1, 1) := by decide +kernel
theorem dX4_turnRow_48 : decode cX4_turnRow 48 = .ok (.getstatic 134, 3) := by decide +kernel
theorem dX4_turnRow_51 : decode cX4_turnRow 51 = .ok (.iload 6, 2) := by decide +kernel
theorem dX4_turnRow_53 : decode cX4_turnRow 53 = .ok (.iconst 4, 1) := by decide +kernel
theorem dX4_turnRow_54 : decode cX4_turnRow 54 = .ok (.iadd, 1) := by decide +kernel
theorem dX4_turnRow_55 : decode cX4_turnRow 55 = .ok (.iconst 1, 1) := by decide +kernel
theorem dX4_turnRow_56 : decode cX4_turnRow 56 = .ok (.isub, 1) := by decide +kernel
theorem dX4_turnRow_57 : decode cX4_turnRow 57 = .ok (.iaload, 1) := by decide +kernel
theorem dX4_turnRow_58 : decode cX4_turnRow 58 = .ok (.iadd, 1) := by decide +kernel
theorem dX4_turnRow_59 : decode cX4_turnRow 59 = .ok (.iaload, 1) := by decide +kernel
theorem dX4_turnRow_60 : decode cX4_turnRow 60 = .ok (.istore 8, 2) := by decide +kernel
theorem dX4_turnRow_62 : decode cX4_turnRow 62 = .ok (.iconst 3, 1) := by decide +kernel
theorem dX4_turnRow_63 : decode cX4_turnRow 63 = .ok (.istore 9, 2) := by decide +kernel
theorem dX4_turnRow_65 : decode cX4_turnRow 65 = .ok (.iload 9, 2) := by decide +kernel
theorem dX4_turnRow_67 : decode cX4_turnRow 67 = .ok (.ifCond .le 37, 3) := by decide +kernel
theorem dX4_turnRow_70 : decode cX4_turnRow 70 = .ok (.aload_n 0, 1) := by decide +kernel
theorem dX4_turnRow_71 : decode cX4_turnRow 71 = .ok (.iload_n 1, 1) := by decide +kernel
theorem dX4_turnRow_72 : decode cX4_turnRow 72 = .ok (.getstatic 134, 3) := by decide +kernel
theorem dX4_turnRow_75 : decode cX4_turnRow 75 = .ok (.iload 6, 2) := by decide +kernel
theorem dX4_turnRow_77 : decode cX4_turnRow 77 = .ok (.iload 9, 2) := by decide +kernel
theorem dX4_turnRow_79 : decode cX4_turnRow 79 = .ok (.iadd, 1) := by decide +kernel
theorem dX4_turnRow_80 : decode cX4_turnRow 80 = .ok (.iaload, 1) := by decide +kernel
theorem dX4_turnRow_81 : decode cX4_turnRow 81 = .ok (.iadd, 1) := by decide +kernel
theorem dX4_turnRow_82 : decode cX4_turnRow 82 = .ok (.aload_n 0, 1) := by decide +kernel
theorem dX4_turnRow_83 : decode cX4_turnRow 83 = .ok (.iload_n 1, 1) := by decide +kernel
theorem dX4_turnRow_84 : decode cX4_turnRow 84 = .ok (.getstatic 134, 3) := by decide +kernel
theorem dX4_turnRow_87 : decode cX4_turnRow 87 = .ok (.iload 6, 2) := by decide +kernel
theorem dX4_turnRow_89 : decode cX4_turnRow 89 = .ok (.iload 9, 2) := by decide +kernel
theorem dX4_turnRow_91 : decode cX4_turnRow 91 = .ok (.iadd, 1) := by decide +kernel
theorem dX4_turnRow_92 : decode cX4_turnRow 92 = .ok (.iconst 1, 1) := by decide +kernel
theorem dX4_turnRow_93 : decode cX4_turnRow 93 = .ok (.isub, 1) := by decide +kernel
