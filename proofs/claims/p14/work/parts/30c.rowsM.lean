set_option maxRecDepth 20000 in
theorem ggX5_solutions_X5_clashesBy : GoodIn wsX5_solutions wsX5_clashesBy := gdW wa_1348 (by decide +kernel) (by decide +kernel)
set_option maxRecDepth 20000 in
theorem gX5_solutions_X5_clashesBy : GoodIn wsX5_solutions (wsV RX5 185 RX5 yX5_clashesBy wsX5_clashesBy) := (gd1 wa_1345 (by decide +kernel) (gd1 wa_1346 (by decide +kernel) (gd1 wa_1347 (by decide +kernel) (gd1 wa_5 (by decide +kernel) ggX5_solutions_X5_clashesBy))))
theorem dX5_solutions_0 : decode cX5_solutions 0 = .ok (.iconst 0, 1) := by decide +kernel
theorem dX5_solutions_1 : decode cX5_solutions 1 = .ok (.istore_n 1, 1) := by decide +kernel
theorem dX5_solutions_2 : decode cX5_solutions 2 = .ok (.iconst 0, 1) := by decide +kernel
theorem dX5_solutions_3 : decode cX5_solutions 3 = .ok (.istore_n 2, 1) := by decide +kernel
theorem dX5_solutions_4 : decode cX5_solutions 4 = .ok (.iload_n 2, 1) := by decide +kernel
theorem dX5_solutions_5 : decode cX5_solutions 5 = .ok (.aload_n 0, 1) := by decide +kernel
theorem dX5_solutions_6 : decode cX5_solutions 6 = .ok (.invokevirtual 182, 3) := by decide +kernel
theorem dX5_solutions_9 : decode cX5_solutions 9 = .ok (.if_icmp .ge 25, 3) := by decide +kernel
theorem dX5_solutions_12 : decode cX5_solutions 12 = .ok (.iload_n 1, 1) := by decide +kernel
theorem dX5_solutions_13 : decode cX5_solutions 13 = .ok (.aload_n 0, 1) := by decide +kernel
theorem dX5_solutions_14 : decode cX5_solutions 14 = .ok (.iload_n 2, 1) := by decide +kernel
theorem dX5_solutions_15 : decode cX5_solutions 15 = .ok (.invokevirtual 185, 3) := by decide +kernel
theorem dX5_solutions_18 : decode cX5_solutions 18 = .ok (.ifCond .ne 7, 3) := by decide +kernel
theorem dX5_solutions_21 : decode cX5_solutions 21 = .ok (.iconst 1, 1) := by decide +kernel
theorem dX5_solutions_22 : decode cX5_solutions 22 = .ok (.goto 4, 3) := by decide +kernel
theorem dX5_solutions_25 : decode cX5_solutions 25 = .ok (.iconst 0, 1) := by decide +kernel
theorem dX5_solutions_26 : decode cX5_solutions 26 = .ok (.iadd, 1) := by decide +kernel
theorem dX5_solutions_27 : decode cX5_solutions 27 = .ok (.istore_n 1, 1) := by decide +kernel
theorem dX5_solutions_28 : decode cX5_solutions 28 = .ok (.iinc 2 1, 3) := by decide +kernel
theorem dX5_solutions_31 : decode cX5_solutions 31 = .ok (.goto (-27), 3) := by decide +kernel
theorem dX5_solutions_34 : decode cX5_solutions 34 = .ok (.iload_n 1, 1) := by decide +kernel
theorem dX5_solutions_35 : decode cX5_solutions 35 = .ok (.ireturn, 1) := by decide +kernel
set_option maxRecDepth 20000 in
theorem ggX5_leastClashes_X5_all : GoodIn wsX5_leastClashes wsX5_all := gdW wa_1344 (by decide +kernel) (by decide +kernel)
set_option maxRecDepth 20000 in
theorem gX5_leastClashes_X5_all : GoodIn wsX5_leastClashes (wsV RX5 182 RX5 yX5_all wsX5_all) := (gd1 wa_1301 (by decide +kernel) (gd1 wa_1302 (by decide +kernel) (gd1 wa_1303 (by decide +kernel) (gd1 wa_5 (by decide +kernel) ggX5_leastClashes_X5_all))))
set_option maxRecDepth 20000 in
theorem ggX5_leastClashes_X5_clashesBy : GoodIn wsX5_leastClashes wsX5_clashesBy := gdW wa_1348 (by decide +kernel) (by decide +kernel)
set_option maxRecDepth 20000 in
theorem gX5_leastClashes_X5_clashesBy : GoodIn wsX5_leastClashes (wsV RX5 185 RX5 yX5_clashesBy wsX5_clashesBy) := (gd1 wa_1345 (by decide +kernel) (gd1 wa_1346 (by decide +kernel) (gd1 wa_1347 (by decide +kernel) (gd1 wa_5 (by decide +kernel) ggX5_leastClashes_X5_clashesBy))))
theorem dX5_leastClashes_0 : decode cX5_leastClashes 0 = .ok (.ldc 188, 2) := by decide +kernel
theorem dX5_leastClashes_2 : decode cX5_leastClashes 2 = .ok (.istore_n 1, 1) := by decide +kernel
theorem dX5_leastClashes_3 : decode cX5_leastClashes 3 = .ok (.iconst 0, 1) := by decide +kernel
theorem dX5_leastClashes_4 : decode cX5_leastClashes 4 = .ok (.istore_n 2, 1) := by decide +kernel
theorem dX5_leastClashes_5 : decode cX5_leastClashes 5 = .ok (.iload_n 2, 1) := by decide +kernel
theorem dX5_leastClashes_6 : decode cX5_leastClashes 6 = .ok (.aload_n 0, 1) := by decide +kernel
theorem dX5_leastClashes_7 : decode cX5_leastClashes 7 = .ok (.invokevirtual 182, 3) := by decide +kernel
theorem dX5_leastClashes_10 : decode cX5_leastClashes 10 = .ok (.if_icmp .ge 28, 3) := by decide +kernel
theorem dX5_leastClashes_13 : decode cX5_leastClashes 13 = .ok (.aload_n 0, 1) := by decide +kernel
theorem dX5_leastClashes_14 : decode cX5_leastClashes 14 = .ok (.iload_n 2, 1) := by decide +kernel
theorem dX5_leastClashes_15 : decode cX5_leastClashes 15 = .ok (.invokevirtual 185, 3) := by decide +kernel
theorem dX5_leastClashes_18 : decode cX5_leastClashes 18 = .ok (.iload_n 1, 1) := by decide +kernel
theorem dX5_leastClashes_19 : decode cX5_leastClashes 19 = .ok (.if_icmp .ge 11, 3) := by decide +kernel
theorem dX5_leastClashes_22 : decode cX5_leastClashes 22 = .ok (.aload_n 0, 1) := by decide +kernel
theorem dX5_leastClashes_23 : decode cX5_leastClashes 23 = .ok (.iload_n 2, 1) := by decide +kernel
theorem dX5_leastClashes_24 : decode cX5_leastClashes 24 = .ok (.invokevirtual 185, 3) := by decide +kernel
theorem dX5_leastClashes_27 : decode cX5_leastClashes 27 = .ok (.goto 4, 3) := by decide +kernel
theorem dX5_leastClashes_30 : decode cX5_leastClashes 30 = .ok (.iload_n 1, 1) := by decide +kernel
theorem dX5_leastClashes_31 : decode cX5_leastClashes 31 = .ok (.istore_n 1, 1) := by decide +kernel
theorem dX5_leastClashes_32 : decode cX5_leastClashes 32 = .ok (.iinc 2 1, 3) := by decide +kernel
theorem dX5_leastClashes_35 : decode cX5_leastClashes 35 = .ok (.goto (-30), 3) := by decide +kernel
theorem dX5_leastClashes_38 : decode cX5_leastClashes 38 = .ok (.iload_n 1, 1) := by decide +kernel
theorem dX5_leastClashes_39 : decode cX5_leastClashes 39 = .ok (.ireturn, 1) := by decide +kernel
set_option maxRecDepth 20000 in
theorem ggX5_waysNow_X5_layAll : GoodIn wsX5_waysNow wsX5_layAll := gdW wa_1280 (by decide +kernel) (by decide +kernel)
set_option maxRecDepth 20000 in
theorem gX5_waysNow_X5_layAll : GoodIn wsX5_waysNow (wsV RX5 189 RX5 yX5_layAll wsX5_layAll) := (gd1 wa_1237 (by decide +kernel) (gd1 wa_1238 (by decide +kernel) (gd1 wa_1239 (by decide +kernel) (gd1 wa_5 (by decide +kernel) ggX5_waysNow_X5_layAll))))
set_option maxRecDepth 20000 in
theorem ggX5_waysNow_X5_solutions : GoodIn wsX5_waysNow wsX5_solutions := gdW wa_1300 (by decide +kernel) (by decide +kernel)
set_option maxRecDepth 20000 in
theorem gX5_waysNow_X5_solutions : GoodIn wsX5_waysNow (wsV RX5 192 RX5 yX5_solutions wsX5_solutions) := (gd1 wa_1297 (by decide +kernel) (gd1 wa_1298 (by decide +kernel) (gd1 wa_1299 (by decide +kernel) (gd1 wa_5 (by decide +kernel) ggX5_waysNow_X5_solutions))))
set_option maxRecDepth 20000 in
theorem ggX5_waysNow_X5_leastClashes : GoodIn wsX5_waysNow wsX5_leastClashes := gdW wa_1364 (by decide +kernel) (by decide +kernel)
set_option maxRecDepth 20000 in
theorem gX5_waysNow_X5_leastClashes : GoodIn wsX5_waysNow (wsV RX5 195 RX5 yX5_leastClashes wsX5_leastClashes) := (gd1 wa_1361 (by decide +kernel) (gd1 wa_1362 (by decide +kernel) (gd1 wa_1363 (by decide +kernel) (gd1 wa_5 (by decide +kernel) ggX5_waysNow_X5_leastClashes))))
theorem dX5_waysNow_0 : decode cX5_waysNow 0 = .ok (.aload_n 0, 1) := by decide +kernel
theorem dX5_waysNow_1 : decode cX5_waysNow 1 = .ok (.invokevirtual 189, 3) := by decide +kernel
theorem dX5_waysNow_4 : decode cX5_waysNow 4 = .ok (.iload_n 1, 1) := by decide +kernel
theorem dX5_waysNow_5 : decode cX5_waysNow 5 = .ok (.ifCond .ne 10, 3) := by decide +kernel
theorem dX5_waysNow_8 : decode cX5_waysNow 8 = .ok (.aload_n 0, 1) := by decide +kernel
theorem dX5_waysNow_9 : decode cX5_waysNow 9 = .ok (.invokevirtual 192, 3) := by decide +kernel
theorem dX5_waysNow_12 : decode cX5_waysNow 12 = .ok (.goto 7, 3) := by decide +kernel
theorem dX5_waysNow_15 : decode cX5_waysNow 15 = .ok (.aload_n 0, 1) := by decide +kernel
theorem dX5_waysNow_16 : decode cX5_waysNow 16 = .ok (.invokevirtual 195, 3) := by decide +kernel
theorem dX5_waysNow_19 : decode cX5_waysNow 19 = .ok (.ireturn, 1) := by decide +kernel
set_option maxRecDepth 20000 in
theorem ggX5_ways_X5_within : GoodIn wsX5_ways wsX5_within := gdW wa_270 (by decide +kernel) (by decide +kernel)
set_option maxRecDepth 20000 in
theorem gX5_ways_X5_within : GoodIn wsX5_ways (va_wsS RX5 59 yX5_within wsX5_within) := (gd1 wa_268 (by decide +kernel) (gd1 wa_269 (by decide +kernel) (gd1 wa_5 (by decide +kernel) ggX5_ways_X5_within)))
set_option maxRecDepth 20000 in
theorem ggX5_ways_X5_waysNow : GoodIn wsX5_ways wsX5_waysNow := gdW wa_1236 (by decide +kernel) (by decide +kernel)
set_option maxRecDepth 20000 in
theorem gX5_ways_X5_waysNow : GoodIn wsX5_ways (wsV RX5 198 RX5 yX5_waysNow wsX5_waysNow) := (gd1 wa_1233 (by decide +kernel) (gd1 wa_1234 (by decide +kernel) (gd1 wa_1235 (by decide +kernel) (gd1 wa_5 (by decide +kernel) ggX5_ways_X5_waysNow))))
theorem dX5_ways_0 : decode cX5_ways 0 = .ok (.iload_n 1, 1) := by decide +kernel
theorem dX5_ways_1 : decode cX5_ways 1 = .ok (.iconst 0, 1) := by decide +kernel
theorem dX5_ways_2 : decode cX5_ways 2 = .ok (.iconst 1, 1) := by decide +kernel
theorem dX5_ways_3 : decode cX5_ways 3 = .ok (.invokestatic 59, 3) := by decide +kernel
theorem dX5_ways_6 : decode cX5_ways 6 = .ok (.ifCond .ne 6, 3) := by decide +kernel
theorem dX5_ways_9 : decode cX5_ways 9 = .ok (.bipush (-102), 2) := by decide +kernel
theorem dX5_ways_11 : decode cX5_ways 11 = .ok (.ireturn, 1) := by decide +kernel
theorem dX5_ways_12 : decode cX5_ways 12 = .ok (.aload_n 0, 1) := by decide +kernel
theorem dX5_ways_13 : decode cX5_ways 13 = .ok (.getfield 88, 3) := by decide +kernel
theorem dX5_ways_16 : decode cX5_ways 16 = .ok (.ifCond .ne 8, 3) := by decide +kernel
theorem dX5_ways_19 : decode cX5_ways 19 = .ok (.bipush (-103), 2) := by decide +kernel
theorem dX5_ways_21 : decode cX5_ways 21 = .ok (.goto 8, 3) := by decide +kernel
theorem dX5_ways_24 : decode cX5_ways 24 = .ok (.aload_n 0, 1) := by decide +kernel
theorem dX5_ways_25 : decode cX5_ways 25 = .ok (.iload_n 1, 1) := by decide +kernel
theorem dX5_ways_26 : decode cX5_ways 26 = .ok (.invokevirtual 198, 3) := by decide +kernel
theorem dX5_ways_29 : decode cX5_ways 29 = .ok (.ireturn, 1) := by decide +kernel
set_option maxRecDepth 20000 in
theorem ggX5_farBy_X5_first : GoodIn wsX5_farBy wsX5_first := gdW wa_1352 (by decide +kernel) (by decide +kernel)
set_option maxRecDepth 20000 in
theorem gX5_farBy_X5_first : GoodIn wsX5_farBy (wsV RX5 173 RX5 yX5_first wsX5_first) := (gd1 wa_1349 (by decide +kernel) (gd1 wa_1350 (by decide +kernel) (gd1 wa_1351 (by decide +kernel) (gd1 wa_5 (by decide +kernel) ggX5_farBy_X5_first))))
set_option maxRecDepth 20000 in
theorem ggX5_farBy_X5_second : GoodIn wsX5_farBy wsX5_second := gdW wa_1356 (by decide +kernel) (by decide +kernel)
set_option maxRecDepth 20000 in
theorem gX5_farBy_X5_second : GoodIn wsX5_farBy (wsV RX5 176 RX5 yX5_second wsX5_second) := (gd1 wa_1353 (by decide +kernel) (gd1 wa_1354 (by decide +kernel) (gd1 wa_1355 (by decide +kernel) (gd1 wa_5 (by decide +kernel) ggX5_farBy_X5_second))))
set_option maxRecDepth 20000 in
theorem ggX5_farBy_X5_third : GoodIn wsX5_farBy wsX5_third := gdW wa_1360 (by decide +kernel) (by decide +kernel)
set_option maxRecDepth 20000 in
theorem gX5_farBy_X5_third : GoodIn wsX5_farBy (wsV RX5 179 RX5 yX5_third wsX5_third) := (gd1 wa_1357 (by decide +kernel) (gd1 wa_1358 (by decide +kernel) (gd1 wa_1359 (by decide +kernel) (gd1 wa_5 (by decide +kernel) ggX5_farBy_X5_third))))
theorem dX5_farBy_0 : decode cX5_farBy 0 = .ok (.aload_n 0, 1) := by decide +kernel
theorem dX5_farBy_1 : decode cX5_farBy 1 = .ok (.getfield 32, 3) := by decide +kernel
theorem dX5_farBy_4 : decode cX5_farBy 4 = .ok (.aload_n 0, 1) := by decide +kernel
theorem dX5_farBy_5 : decode cX5_farBy 5 = .ok (.iload_n 1, 1) := by decide +kernel
theorem dX5_farBy_6 : decode cX5_farBy 6 = .ok (.invokevirtual 173, 3) := by decide +kernel
theorem dX5_farBy_9 : decode cX5_farBy 9 = .ok (.iaload, 1) := by decide +kernel
theorem dX5_farBy_10 : decode cX5_farBy 10 = .ok (.aload_n 0, 1) := by decide +kernel
theorem dX5_farBy_11 : decode cX5_farBy 11 = .ok (.getfield 32, 3) := by decide +kernel
theorem dX5_farBy_14 : decode cX5_farBy 14 = .ok (.aload_n 0, 1) := by decide +kernel
theorem dX5_farBy_15 : decode cX5_farBy 15 = .ok (.iload_n 1, 1) := by decide +kernel
theorem dX5_farBy_16 : decode cX5_farBy 16 = .ok (.invokevirtual 176, 3) := by decide +kernel
theorem dX5_farBy_19 : decode cX5_farBy 19 = .ok (.iaload, 1) := by decide +kernel
theorem dX5_farBy_20 : decode cX5_farBy 20 = .ok (.iadd, 1) := by decide +kernel
theorem dX5_farBy_21 : decode cX5_farBy 21 = .ok (.aload_n 0, 1) := by decide +kernel
theorem dX5_farBy_22 : decode cX5_farBy 22 = .ok (.getfield 88, 3) := by decide +kernel
theorem dX5_farBy_25 : decode cX5_farBy 25 = .ok (.iconst 3, 1) := by decide +kernel
theorem dX5_farBy_26 : decode cX5_farBy 26 = .ok (.if_icmp .ne 16, 3) := by decide +kernel
theorem dX5_farBy_29 : decode cX5_farBy 29 = .ok (.aload_n 0, 1) := by decide +kernel
theorem dX5_farBy_30 : decode cX5_farBy 30 = .ok (.getfield 32, 3) := by decide +kernel
theorem dX5_farBy_33 : decode cX5_farBy 33 = .ok (.aload_n 0, 1) := by decide +kernel
theorem dX5_farBy_34 : decode cX5_farBy 34 = .ok (.iload_n 1, 1) := by decide +kernel
theorem dX5_farBy_35 : decode cX5_farBy 35 = .ok (.invokevirtual 179, 3) := by decide +kernel
theorem dX5_farBy_38 : decode cX5_farBy 38 = .ok (.iaload, 1) := by decide +kernel
theorem dX5_farBy_39 : decode cX5_farBy 39 = .ok (.goto 4, 3) := by decide +kernel
theorem dX5_farBy_42 : decode cX5_farBy 42 = .ok (.iconst 0, 1) := by decide +kernel
theorem dX5_farBy_43 : decode cX5_farBy 43 = .ok (.iadd, 1) := by decide +kernel
theorem dX5_farBy_44 : decode cX5_farBy 44 = .ok (.ireturn, 1) := by decide +kernel
set_option maxRecDepth 20000 in
theorem ggX5_fewestTurns_X5_all : GoodIn wsX5_fewestTurns wsX5_all := gdW wa_1344 (by decide +kernel) (by decide +kernel)
set_option maxRecDepth 20000 in
theorem gX5_fewestTurns_X5_all : GoodIn wsX5_fewestTurns (wsV RX5 182 RX5 yX5_all wsX5_all) := (gd1 wa_1301 (by decide +kernel) (gd1 wa_1302 (by decide +kernel) (gd1 wa_1303 (by decide +kernel) (gd1 wa_5 (by decide +kernel) ggX5_fewestTurns_X5_all))))
set_option maxRecDepth 20000 in
theorem ggX5_fewestTurns_X5_clashesBy : GoodIn wsX5_fewestTurns wsX5_clashesBy := gdW wa_1348 (by decide +kernel) (by decide +kernel)
set_option maxRecDepth 20000 in
theorem gX5_fewestTurns_X5_clashesBy : GoodIn wsX5_fewestTurns (wsV RX5 185 RX5 yX5_clashesBy wsX5_clashesBy) := (gd1 wa_1345 (by decide +kernel) (gd1 wa_1346 (by decide +kernel) (gd1 wa_1347 (by decide +kernel) (gd1 wa_5 (by decide +kernel) ggX5_fewestTurns_X5_clashesBy))))
set_option maxRecDepth 20000 in
theorem ggX5_fewestTurns_X5_farBy : GoodIn wsX5_fewestTurns wsX5_farBy := gdW wa_1473 (by decide +kernel) (by decide +kernel)
set_option maxRecDepth 20000 in
theorem gX5_fewestTurns_X5_farBy : GoodIn wsX5_fewestTurns (wsV RX5 201 RX5 yX5_farBy wsX5_farBy) := (gd1 wa_1430 (by decide +kernel) (gd1 wa_1431 (by decide +kernel) (gd1 wa_1472 (by decide +kernel) (gd1 wa_5 (by decide +kernel) ggX5_fewestTurns_X5_farBy))))
theorem dX5_fewestTurns_0 : decode cX5_fewestTurns 0 = .ok (.ldc 188, 2) := by decide +kernel
theorem dX5_fewestTurns_2 : decode cX5_fewestTurns 2 = .ok (.istore_n 1, 1) := by decide +kernel
theorem dX5_fewestTurns_3 : decode cX5_fewestTurns 3 = .ok (.iconst 0, 1) := by decide +kernel
theorem dX5_fewestTurns_4 : decode cX5_fewestTurns 4 = .ok (.istore_n 2, 1) := by decide +kernel
theorem dX5_fewestTurns_5 : decode cX5_fewestTurns 5 = .ok (.iload_n 2, 1) := by decide +kernel
theorem dX5_fewestTurns_6 : decode cX5_fewestTurns 6 = .ok (.aload_n 0, 1) := by decide +kernel
theorem dX5_fewestTurns_7 : decode cX5_fewestTurns 7 = .ok (.invokevirtual 182, 3) := by decide +kernel
theorem dX5_fewestTurns_10 : decode cX5_fewestTurns 10 = .ok (.if_icmp .ge 36, 3) := by decide +kernel
theorem dX5_fewestTurns_13 : decode cX5_fewestTurns 13 = .ok (.aload_n 0, 1) := by decide +kernel
theorem dX5_fewestTurns_14 : decode cX5_fewestTurns 14 = .ok (.iload_n 2, 1) := by decide +kernel
theorem dX5_fewestTurns_15 : decode cX5_fewestTurns 15 = .ok (.invokevirtual 185, 3) := by decide +kernel
theorem dX5_fewestTurns_18 : decode cX5_fewestTurns 18 = .ok (.ifCond .ne 20, 3) := by decide +kernel
theorem dX5_fewestTurns_21 : decode cX5_fewestTurns 21 = .ok (.aload_n 0, 1) := by decide +kernel
theorem dX5_fewestTurns_22 : decode cX5_fewestTurns 22 = .ok (.iload_n 2, 1) := by decide +kernel
theorem dX5_fewestTurns_23 : decode cX5_fewestTurns 23 = .ok (.invokevirtual 201, 3) := by decide +kernel
theorem dX5_fewestTurns_26 : decode cX5_fewestTurns 26 = .ok (.iload_n 1, 1) := by decide +kernel
theorem dX5_fewestTurns_27 : decode cX5_fewestTurns 27 = .ok (.if_icmp .ge 11, 3) := by decide +kernel
theorem dX5_fewestTurns_30 : decode cX5_fewestTurns 30 = .ok (.aload_n 0, 1) := by decide +kernel
theorem dX5_fewestTurns_31 : decode cX5_fewestTurns 31 = .ok (.iload_n 2, 1) := by decide +kernel
theorem dX5_fewestTurns_32 : decode cX5_fewestTurns 32 = .ok (.invokevirtual 201, 3) := by decide +kernel
theorem dX5_fewestTurns_35 : decode cX5_fewestTurns 35 = .ok (.goto 4, 3) := by decide +kernel
theorem dX5_fewestTurns_38 : decode cX5_fewestTurns 38 = .ok (.iload_n 1, 1) := by decide +kernel
theorem dX5_fewestTurns_39 : decode cX5_fewestTurns 39 = .ok (.istore_n 1, 1) := by decide +kernel
theorem dX5_fewestTurns_40 : decode cX5_fewestTurns 40 = .ok (.iinc 2 1, 3) := by decide +kernel
theorem dX5_fewestTurns_43 : decode cX5_fewestTurns 43 = .ok (.goto (-38), 3) := by decide +kernel
theorem dX5_fewestTurns_46 : decode cX5_fewestTurns 46 = .ok (.iload_n 1, 1) := by decide +kernel
theorem dX5_fewestTurns_47 : decode cX5_fewestTurns 47 = .ok (.ireturn, 1) := by decide +kernel
set_option maxRecDepth 20000 in
theorem ggX5_firstTurn_X5_turnsOf : GoodIn wsX5_firstTurn wsX5_turnsOf := gdW wa_845 (by decide +kernel) (by decide +kernel)
set_option maxRecDepth 20000 in
theorem gX5_firstTurn_X5_turnsOf : GoodIn wsX5_firstTurn (va_wsS RX5 120 yX5_turnsOf wsX5_turnsOf) := (gd1 wa_843 (by decide +kernel) (gd1 wa_844 (by decide +kernel) (gd1 wa_5 (by decide +kernel) ggX5_firstTurn_X5_turnsOf)))
set_option maxRecDepth 20000 in
theorem ggX5_firstTurn_X5_isIn : GoodIn wsX5_firstTurn wsX5_isIn := gdW wa_839 (by decide +kernel) (by decide +kernel)
set_option maxRecDepth 20000 in
theorem gX5_firstTurn_X5_isIn : GoodIn wsX5_firstTurn (va_wsS RX5 144 yX5_isIn wsX5_isIn) := (gd1 wa_837 (by decide +kernel) (gd1 wa_838 (by decide +kernel) (gd1 wa_5 (by decide +kernel) ggX5_firstTurn_X5_isIn)))
set_option maxRecDepth 20000 in
theorem ggX5_firstTurn_X5_turned : GoodIn wsX5_firstTurn wsX5_turned := gdW wa_983 (by decide +kernel) (by decide +kernel)
set_option maxRecDepth 20000 in
theorem gX5_firstTurn_X5_turned : GoodIn wsX5_firstTurn (va_wsS RX5 148 yX5_turned wsX5_turned) := (gd1 wa_981 (by decide +kernel) (gd1 wa_982 (by decide +kernel) (gd1 wa_5 (by decide +kernel) ggX5_firstTurn_X5_turned)))
set_option maxRecDepth 20000 in
theorem ggX5_firstTurn_X5_layWays : GoodIn wsX5_firstTurn wsX5_layWays := gdW wa_1285 (by decide +kernel) (by decide +kernel)
set_option maxRecDepth 20000 in
theorem gX5_firstTurn_X5_layWays : GoodIn wsX5_firstTurn (wsV RX5 165 RX5 yX5_layWays wsX5_layWays) := (gd1 wa_1282 (by decide +kernel) (gd1 wa_1283 (by decide +kernel) (gd1 wa_1284 (by decide +kernel) (gd1 wa_5 (by decide +kernel) ggX5_firstTurn_X5_layWays))))
set_option maxRecDepth 20000 in
theorem ggX5_firstTurn_X5_layColours : GoodIn wsX5_firstTurn wsX5_layColours := gdW wa_1293 (by decide +kernel) (by decide +kernel)
set_option maxRecDepth 20000 in
theorem gX5_firstTurn_X5_layColours : GoodIn wsX5_firstTurn (wsV RX5 169 RX5 yX5_layColours wsX5_layColours) := (gd1 wa_1290 (by decide +kernel) (gd1 wa_1291 (by decide +kernel) (gd1 wa_1292 (by decide +kernel) (gd1 wa_5 (by decide +kernel) ggX5_firstTurn_X5_layColours))))
set_option maxRecDepth 20000 in
theorem ggX5_firstTurn_X5_fewestTurns : GoodIn wsX5_firstTurn wsX5_fewestTurns := gdW wa_1429 (by decide +kernel) (by decide +kernel)
set_option maxRecDepth 20000 in
theorem gX5_firstTurn_X5_fewestTurns : GoodIn wsX5_firstTurn (wsV RX5 204 RX5 yX5_fewestTurns wsX5_fewestTurns) := (gd1 wa_1426 (by decide +kernel) (gd1 wa_1427 (by decide +kernel) (gd1 wa_1428 (by decide +kernel) (gd1 wa_5 (by decide +kernel) ggX5_firstTurn_X5_fewestTurns))))
theorem dX5_firstTurn_0 : decode cX5_firstTurn 0 = .ok (.iconst 0, 1) := by decide +kernel
theorem dX5_firstTurn_1 : decode cX5_firstTurn 1 = .ok (.istore_n 2, 1) := by decide +kernel
theorem dX5_firstTurn_2 : decode cX5_firstTurn 2 = .ok (.iload_n 2, 1) := by decide +kernel
theorem dX5_firstTurn_3 : decode cX5_firstTurn 3 = .ok (.iconst 4, 1) := by decide +kernel
theorem dX5_firstTurn_4 : decode cX5_firstTurn 4 = .ok (.aload_n 0, 1) := by decide +kernel
theorem dX5_firstTurn_5 : decode cX5_firstTurn 5 = .ok (.getfield 88, 3) := by decide +kernel
theorem dX5_firstTurn_8 : decode cX5_firstTurn 8 = .ok (.imul, 1) := by decide +kernel
theorem dX5_firstTurn_9 : decode cX5_firstTurn 9 = .ok (.if_icmp .ge 98, 3) := by decide +kernel
theorem dX5_firstTurn_12 : decode cX5_firstTurn 12 = .ok (.iload_n 2, 1) := by decide +kernel
theorem dX5_firstTurn_13 : decode cX5_firstTurn 13 = .ok (.iconst 4, 1) := by decide +kernel
theorem dX5_firstTurn_14 : decode cX5_firstTurn 14 = .ok (.idiv, 1) := by decide +kernel
theorem dX5_firstTurn_15 : decode cX5_firstTurn 15 = .ok (.istore_n 3, 1) := by decide +kernel
theorem dX5_firstTurn_16 : decode cX5_firstTurn 16 = .ok (.aload_n 0, 1) := by decide +kernel
theorem dX5_firstTurn_17 : decode cX5_firstTurn 17 = .ok (.getfield 7, 3) := by decide +kernel
theorem dX5_firstTurn_20 : decode cX5_firstTurn 20 = .ok (.iload_n 3, 1) := by decide +kernel
theorem dX5_firstTurn_21 : decode cX5_firstTurn 21 = .ok (.iaload, 1) := by decide +kernel
theorem dX5_firstTurn_22 : decode cX5_firstTurn 22 = .ok (.invokestatic 120, 3) := by decide +kernel
theorem dX5_firstTurn_25 : decode cX5_firstTurn 25 = .ok (.iload_n 2, 1) := by decide +kernel
theorem dX5_firstTurn_26 : decode cX5_firstTurn 26 = .ok (.iconst 4, 1) := by decide +kernel
theorem dX5_firstTurn_27 : decode cX5_firstTurn 27 = .ok (.irem, 1) := by decide +kernel
theorem dX5_firstTurn_28 : decode cX5_firstTurn 28 = .ok (.invokestatic 144, 3) := by decide +kernel
theorem dX5_firstTurn_31 : decode cX5_firstTurn 31 = .ok (.ifCond .eq 70, 3) := by decide +kernel
theorem dX5_firstTurn_34 : decode cX5_firstTurn 34 = .ok (.aload_n 0, 1) := by decide +kernel
theorem dX5_firstTurn_35 : decode cX5_firstTurn 35 = .ok (.iload_n 3, 1) := by decide +kernel
theorem dX5_firstTurn_36 : decode cX5_firstTurn 36 = .ok (.aload_n 0, 1) := by decide +kernel
theorem dX5_firstTurn_37 : decode cX5_firstTurn 37 = .ok (.getfield 7, 3) := by decide +kernel
theorem dX5_firstTurn_40 : decode cX5_firstTurn 40 = .ok (.iload_n 3, 1) := by decide +kernel
theorem dX5_firstTurn_41 : decode cX5_firstTurn 41 = .ok (.iaload, 1) := by decide +kernel
theorem dX5_firstTurn_42 : decode cX5_firstTurn 42 = .ok (.ldc 164, 2) := by decide +kernel
theorem dX5_firstTurn_44 : decode cX5_firstTurn 44 = .ok (.iload_n 2, 1) := by decide +kernel
theorem dX5_firstTurn_45 : decode cX5_firstTurn 45 = .ok (.iconst 4, 1) := by decide +kernel
theorem dX5_firstTurn_46 : decode cX5_firstTurn 46 = .ok (.irem, 1) := by decide +kernel
theorem dX5_firstTurn_47 : decode cX5_firstTurn 47 = .ok (.invokestatic 148, 3) := by decide +kernel
theorem dX5_firstTurn_50 : decode cX5_firstTurn 50 = .ok (.invokevirtual 165, 3) := by decide +kernel
theorem dX5_firstTurn_53 : decode cX5_firstTurn 53 = .ok (.aload_n 0, 1) := by decide +kernel
theorem dX5_firstTurn_54 : decode cX5_firstTurn 54 = .ok (.iload_n 3, 1) := by decide +kernel
theorem dX5_firstTurn_55 : decode cX5_firstTurn 55 = .ok (.invokevirtual 169, 3) := by decide +kernel
theorem dX5_firstTurn_58 : decode cX5_firstTurn 58 = .ok (.aload_n 0, 1) := by decide +kernel
theorem dX5_firstTurn_59 : decode cX5_firstTurn 59 = .ok (.invokevirtual 204, 3) := by decide +kernel
theorem dX5_firstTurn_62 : decode cX5_firstTurn 62 = .ok (.iload_n 1, 1) := by decide +kernel
theorem dX5_firstTurn_63 : decode cX5_firstTurn 63 = .ok (.iconst 1, 1) := by decide +kernel
theorem dX5_firstTurn_64 : decode cX5_firstTurn 64 = .ok (.isub, 1) := by decide +kernel
theorem dX5_firstTurn_65 : decode cX5_firstTurn 65 = .ok (.if_icmp .ne 7, 3) := by decide +kernel
theorem dX5_firstTurn_68 : decode cX5_firstTurn 68 = .ok (.iconst 1, 1) := by decide +kernel
theorem dX5_firstTurn_69 : decode cX5_firstTurn 69 = .ok (.goto 4, 3) := by decide +kernel
theorem dX5_firstTurn_72 : decode cX5_firstTurn 72 = .ok (.iconst 0, 1) := by decide +kernel
theorem dX5_firstTurn_73 : decode cX5_firstTurn 73 = .ok (.istore 4, 2) := by decide +kernel
theorem dX5_firstTurn_75 : decode cX5_firstTurn 75 = .ok (.aload_n 0, 1) := by decide +kernel
theorem dX5_firstTurn_76 : decode cX5_firstTurn 76 = .ok (.iload_n 3, 1) := by decide +kernel
theorem dX5_firstTurn_77 : decode cX5_firstTurn 77 = .ok (.ldc 164, 2) := by decide +kernel
theorem dX5_firstTurn_79 : decode cX5_firstTurn 79 = .ok (.invokevirtual 165, 3) := by decide +kernel
theorem dX5_firstTurn_82 : decode cX5_firstTurn 82 = .ok (.aload_n 0, 1) := by decide +kernel
theorem dX5_firstTurn_83 : decode cX5_firstTurn 83 = .ok (.iload_n 3, 1) := by decide +kernel
theorem dX5_firstTurn_84 : decode cX5_firstTurn 84 = .ok (.invokevirtual 169, 3) := by decide +kernel
theorem dX5_firstTurn_87 : decode cX5_firstTurn 87 = .ok (.iload 4, 2) := by decide +kernel
theorem dX5_firstTurn_89 : decode cX5_firstTurn 89 = .ok (.ifCond .eq 12, 3) := by decide +kernel
theorem dX5_firstTurn_92 : decode cX5_firstTurn 92 = .ok (.bipush 10, 2) := by decide +kernel
theorem dX5_firstTurn_94 : decode cX5_firstTurn 94 = .ok (.iload_n 3, 1) := by decide +kernel
theorem dX5_firstTurn_95 : decode cX5_firstTurn 95 = .ok (.imul, 1) := by decide +kernel
theorem dX5_firstTurn_96 : decode cX5_firstTurn 96 = .ok (.iload_n 2, 1) := by decide +kernel
theorem dX5_firstTurn_97 : decode cX5_firstTurn 97 = .ok (.iconst 4, 1) := by decide +kernel
theorem dX5_firstTurn_98 : decode cX5_firstTurn 98 = .ok (.irem, 1) := by decide +kernel
theorem dX5_firstTurn_99 : decode cX5_firstTurn 99 = .ok (.iadd, 1) := by decide +kernel
theorem dX5_firstTurn_100 : decode cX5_firstTurn 100 = .ok (.ireturn, 1) := by decide +kernel
theorem dX5_firstTurn_101 : decode cX5_firstTurn 101 = .ok (.iinc 2 1, 3) := by decide +kernel
theorem dX5_firstTurn_104 : decode cX5_firstTurn 104 = .ok (.goto (-102), 3) := by decide +kernel
theorem dX5_firstTurn_107 : decode cX5_firstTurn 107 = .ok (.iconst (-1), 1) := by decide +kernel
theorem dX5_firstTurn_108 : decode cX5_firstTurn 108 = .ok (.ireturn, 1) := by decide +kernel
set_option maxRecDepth 20000 in
theorem ggX5_turningNow_X5_layAll : GoodIn wsX5_turningNow wsX5_layAll := gdW wa_1280 (by decide +kernel) (by decide +kernel)
set_option maxRecDepth 20000 in
theorem gX5_turningNow_X5_layAll : GoodIn wsX5_turningNow (wsV RX5 189 RX5 yX5_layAll wsX5_layAll) := (gd1 wa_1237 (by decide +kernel) (gd1 wa_1238 (by decide +kernel) (gd1 wa_1239 (by decide +kernel) (gd1 wa_5 (by decide +kernel) ggX5_turningNow_X5_layAll))))
set_option maxRecDepth 20000 in
theorem ggX5_turningNow_X5_fewestTurns : GoodIn wsX5_turningNow wsX5_fewestTurns := gdW wa_1429 (by decide +kernel) (by decide +kernel)
set_option maxRecDepth 20000 in
theorem gX5_turningNow_X5_fewestTurns : GoodIn wsX5_turningNow (wsV RX5 204 RX5 yX5_fewestTurns wsX5_fewestTurns) := (gd1 wa_1426 (by decide +kernel) (gd1 wa_1427 (by decide +kernel) (gd1 wa_1428 (by decide +kernel) (gd1 wa_5 (by decide +kernel) ggX5_turningNow_X5_fewestTurns))))
set_option maxRecDepth 20000 in
theorem ggX5_turningNow_X5_firstTurn : GoodIn wsX5_turningNow wsX5_firstTurn := gdW wa_1477 (by decide +kernel) (by decide +kernel)
set_option maxRecDepth 20000 in
theorem gX5_turningNow_X5_firstTurn : GoodIn wsX5_turningNow (wsV RX5 207 RX5 yX5_firstTurn wsX5_firstTurn) := (gd1 wa_1474 (by decide +kernel) (gd1 wa_1475 (by decide +kernel) (gd1 wa_1476 (by decide +kernel) (gd1 wa_5 (by decide +kernel) ggX5_turningNow_X5_firstTurn))))
theorem dX5_turningNow_0 : decode cX5_turningNow 0 = .ok (.aload_n 0, 1) := by decide +kernel
theorem dX5_turningNow_1 : decode cX5_turningNow 1 = .ok (.invokevirtual 189, 3) := by decide +kernel
theorem dX5_turningNow_4 : decode cX5_turningNow 4 = .ok (.aload_n 0, 1) := by decide +kernel
theorem dX5_turningNow_5 : decode cX5_turningNow 5 = .ok (.invokevirtual 204, 3) := by decide +kernel
theorem dX5_turningNow_8 : decode cX5_turningNow 8 = .ok (.istore_n 2, 1) := by decide +kernel
theorem dX5_turningNow_9 : decode cX5_turningNow 9 = .ok (.iload_n 2, 1) := by decide +kernel
theorem dX5_turningNow_10 : decode cX5_turningNow 10 = .ok (.ldc 188, 2) := by decide +kernel
theorem dX5_turningNow_12 : decode cX5_turningNow 12 = .ok (.if_icmp .ne 7, 3) := by decide +kernel
theorem dX5_turningNow_15 : decode cX5_turningNow 15 = .ok (.iconst (-1), 1) := by decide +kernel
theorem dX5_turningNow_16 : decode cX5_turningNow 16 = .ok (.goto 24, 3) := by decide +kernel
theorem dX5_turningNow_19 : decode cX5_turningNow 19 = .ok (.iload_n 1, 1) := by decide +kernel
theorem dX5_turningNow_20 : decode cX5_turningNow 20 = .ok (.ifCond .ne 7, 3) := by decide +kernel
theorem dX5_turningNow_23 : decode cX5_turningNow 23 = .ok (.iload_n 2, 1) := by decide +kernel
theorem dX5_turningNow_24 : decode cX5_turningNow 24 = .ok (.goto 16, 3) := by decide +kernel
theorem dX5_turningNow_27 : decode cX5_turningNow 27 = .ok (.iload_n 2, 1) := by decide +kernel
theorem dX5_turningNow_28 : decode cX5_turningNow 28 = .ok (.ifCond .ne 7, 3) := by decide +kernel
theorem dX5_turningNow_31 : decode cX5_turningNow 31 = .ok (.iconst (-1), 1) := by decide +kernel
theorem dX5_turningNow_32 : decode cX5_turningNow 32 = .ok (.goto 8, 3) := by decide +kernel
theorem dX5_turningNow_35 : decode cX5_turningNow 35 = .ok (.aload_n 0, 1) := by decide +kernel
theorem dX5_turningNow_36 : decode cX5_turningNow 36 = .ok (.iload_n 2, 1) := by decide +kernel
theorem dX5_turningNow_37 : decode cX5_turningNow 37 = .ok (.invokevirtual 207, 3) := by decide +kernel
theorem dX5_turningNow_40 : decode cX5_turningNow 40 = .ok (.ireturn, 1) := by decide +kernel
set_option maxRecDepth 20000 in
theorem ggX5_turning_X5_within : GoodIn wsX5_turning wsX5_within := gdW wa_270 (by decide +kernel) (by decide +kernel)
set_option maxRecDepth 20000 in
theorem gX5_turning_X5_within : GoodIn wsX5_turning (va_wsS RX5 59 yX5_within wsX5_within) := (gd1 wa_268 (by decide +kernel) (gd1 wa_269 (by decide +kernel) (gd1 wa_5 (by decide +kernel) ggX5_turning_X5_within)))
set_option maxRecDepth 20000 in
theorem ggX5_turning_X5_turningNow : GoodIn wsX5_turning wsX5_turningNow := gdW wa_1425 (by decide +kernel) (by decide +kernel)
set_option maxRecDepth 20000 in
theorem gX5_turning_X5_turningNow : GoodIn wsX5_turning (wsV RX5 210 RX5 yX5_turningNow wsX5_turningNow) := (gd1 wa_1422 (by decide +kernel) (gd1 wa_1423 (by decide +kernel) (gd1 wa_1424 (by decide +kernel) (gd1 wa_5 (by decide +kernel) ggX5_turning_X5_turningNow))))
theorem dX5_turning_0 : decode cX5_turning 0 = .ok (.iload_n 1, 1) := by decide +kernel
theorem dX5_turning_1 : decode cX5_turning 1 = .ok (.iconst 0, 1) := by decide +kernel
theorem dX5_turning_2 : decode cX5_turning 2 = .ok (.iconst 1, 1) := by decide +kernel
theorem dX5_turning_3 : decode cX5_turning 3 = .ok (.invokestatic 59, 3) := by decide +kernel
theorem dX5_turning_6 : decode cX5_turning 6 = .ok (.ifCond .ne 6, 3) := by decide +kernel
theorem dX5_turning_9 : decode cX5_turning 9 = .ok (.bipush (-102), 2) := by decide +kernel
theorem dX5_turning_11 : decode cX5_turning 11 = .ok (.ireturn, 1) := by decide +kernel
theorem dX5_turning_12 : decode cX5_turning 12 = .ok (.aload_n 0, 1) := by decide +kernel
theorem dX5_turning_13 : decode cX5_turning 13 = .ok (.getfield 88, 3) := by decide +kernel
theorem dX5_turning_16 : decode cX5_turning 16 = .ok (.ifCond .ne 8, 3) := by decide +kernel
theorem dX5_turning_19 : decode cX5_turning 19 = .ok (.bipush (-103), 2) := by decide +kernel
theorem dX5_turning_21 : decode cX5_turning 21 = .ok (.goto 8, 3) := by decide +kernel
theorem dX5_turning_24 : decode cX5_turning 24 = .ok (.aload_n 0, 1) := by decide +kernel
theorem dX5_turning_25 : decode cX5_turning 25 = .ok (.iload_n 1, 1) := by decide +kernel
theorem dX5_turning_26 : decode cX5_turning 26 = .ok (.invokevirtual 210, 3) := by decide +kernel
theorem dX5_turning_29 : decode cX5_turning 29 = .ok (.ireturn, 1) := by decide +kernel
set_option maxRecDepth 20000 in
theorem ggX5_isBy_X5_painted : GoodIn wsX5_isBy wsX5_painted := gdW wa_1088 (by decide +kernel) (by decide +kernel)
set_option maxRecDepth 20000 in
theorem gX5_isBy_X5_painted : GoodIn wsX5_isBy (va_wsS RX5 154 yX5_painted wsX5_painted) := (gd1 wa_1046 (by decide +kernel) (gd1 wa_1047 (by decide +kernel) (gd1 wa_5 (by decide +kernel) ggX5_isBy_X5_painted)))
set_option maxRecDepth 20000 in
theorem ggX5_isBy_X5_layColours : GoodIn wsX5_isBy wsX5_layColours := gdW wa_1293 (by decide +kernel) (by decide +kernel)
set_option maxRecDepth 20000 in
theorem gX5_isBy_X5_layColours : GoodIn wsX5_isBy (wsV RX5 169 RX5 yX5_layColours wsX5_layColours) := (gd1 wa_1290 (by decide +kernel) (gd1 wa_1291 (by decide +kernel) (gd1 wa_1292 (by decide +kernel) (gd1 wa_5 (by decide +kernel) ggX5_isBy_X5_layColours))))
set_option maxRecDepth 20000 in
theorem ggX5_isBy_X5_solutions : GoodIn wsX5_isBy wsX5_solutions := gdW wa_1300 (by decide +kernel) (by decide +kernel)
set_option maxRecDepth 20000 in
theorem gX5_isBy_X5_solutions : GoodIn wsX5_isBy (wsV RX5 192 RX5 yX5_solutions wsX5_solutions) := (gd1 wa_1297 (by decide +kernel) (gd1 wa_1298 (by decide +kernel) (gd1 wa_1299 (by decide +kernel) (gd1 wa_5 (by decide +kernel) ggX5_isBy_X5_solutions))))
theorem dX5_isBy_0 : decode cX5_isBy 0 = .ok (.aload_n 0, 1) := by decide +kernel
theorem dX5_isBy_1 : decode cX5_isBy 1 = .ok (.getfield 13, 3) := by decide +kernel
theorem dX5_isBy_4 : decode cX5_isBy 4 = .ok (.iload_n 1, 1) := by decide +kernel
theorem dX5_isBy_5 : decode cX5_isBy 5 = .ok (.iaload, 1) := by decide +kernel
theorem dX5_isBy_6 : decode cX5_isBy 6 = .ok (.istore 4, 2) := by decide +kernel
theorem dX5_isBy_8 : decode cX5_isBy 8 = .ok (.aload_n 0, 1) := by decide +kernel
theorem dX5_isBy_9 : decode cX5_isBy 9 = .ok (.getfield 13, 3) := by decide +kernel
theorem dX5_isBy_12 : decode cX5_isBy 12 = .ok (.iload_n 1, 1) := by decide +kernel
theorem dX5_isBy_13 : decode cX5_isBy 13 = .ok (.iload 4, 2) := by decide +kernel
theorem dX5_isBy_15 : decode cX5_isBy 15 = .ok (.iload_n 2, 1) := by decide +kernel
theorem dX5_isBy_16 : decode cX5_isBy 16 = .ok (.iload_n 3, 1) := by decide +kernel
theorem dX5_isBy_17 : decode cX5_isBy 17 = .ok (.invokestatic 154, 3) := by decide +kernel
theorem dX5_isBy_20 : decode cX5_isBy 20 = .ok (.iastore, 1) := by decide +kernel
theorem dX5_isBy_21 : decode cX5_isBy 21 = .ok (.aload_n 0, 1) := by decide +kernel
theorem dX5_isBy_22 : decode cX5_isBy 22 = .ok (.iload_n 1, 1) := by decide +kernel
theorem dX5_isBy_23 : decode cX5_isBy 23 = .ok (.invokevirtual 169, 3) := by decide +kernel
theorem dX5_isBy_26 : decode cX5_isBy 26 = .ok (.aload_n 0, 1) := by decide +kernel
theorem dX5_isBy_27 : decode cX5_isBy 27 = .ok (.invokevirtual 192, 3) := by decide +kernel
theorem dX5_isBy_30 : decode cX5_isBy 30 = .ok (.ifCond .le 7, 3) := by decide +kernel
theorem dX5_isBy_33 : decode cX5_isBy 33 = .ok (.iconst 1, 1) := by decide +kernel
theorem dX5_isBy_34 : decode cX5_isBy 34 = .ok (.goto 4, 3) := by decide +kernel
theorem dX5_isBy_37 : decode cX5_isBy 37 = .ok (.iconst 0, 1) := by decide +kernel
theorem dX5_isBy_38 : decode cX5_isBy 38 = .ok (.istore 5, 2) := by decide +kernel
theorem dX5_isBy_40 : decode cX5_isBy 40 = .ok (.aload_n 0, 1) := by decide +kernel
theorem dX5_isBy_41 : decode cX5_isBy 41 = .ok (.getfield 13, 3) := by decide +kernel
theorem dX5_isBy_44 : decode cX5_isBy 44 = .ok (.iload_n 1, 1) := by decide +kernel
theorem dX5_isBy_45 : decode cX5_isBy 45 = .ok (.iload 4, 2) := by decide +kernel
theorem dX5_isBy_47 : decode cX5_isBy 47 = .ok (.iastore, 1) := by decide +kernel
theorem dX5_isBy_48 : decode cX5_isBy 48 = .ok (.aload_n 0, 1) := by decide +kernel
theorem dX5_isBy_49 : decode cX5_isBy 49 = .ok (.iload_n 1, 1) := by decide +kernel
theorem dX5_isBy_50 : decode cX5_isBy 50 = .ok (.invokevirtual 169, 3) := by decide +kernel
theorem dX5_isBy_53 : decode cX5_isBy 53 = .ok (.iload 5, 2) := by decide +kernel
theorem dX5_isBy_55 : decode cX5_isBy 55 = .ok (.ireturn, 1) := by decide +kernel
set_option maxRecDepth 20000 in
theorem ggX5_repaintNow_X5_layAll : GoodIn wsX5_repaintNow wsX5_layAll := gdW wa_1280 (by decide +kernel) (by decide +kernel)
set_option maxRecDepth 20000 in
theorem gX5_repaintNow_X5_layAll : GoodIn wsX5_repaintNow (wsV RX5 189 RX5 yX5_layAll wsX5_layAll) := (gd1 wa_1237 (by decide +kernel) (gd1 wa_1238 (by decide +kernel) (gd1 wa_1239 (by decide +kernel) (gd1 wa_5 (by decide +kernel) ggX5_repaintNow_X5_layAll))))
set_option maxRecDepth 20000 in
theorem ggX5_repaintNow_X5_solutions : GoodIn wsX5_repaintNow wsX5_solutions := gdW wa_1300 (by decide +kernel) (by decide +kernel)
set_option maxRecDepth 20000 in
theorem gX5_repaintNow_X5_solutions : GoodIn wsX5_repaintNow (wsV RX5 192 RX5 yX5_solutions wsX5_solutions) := (gd1 wa_1297 (by decide +kernel) (gd1 wa_1298 (by decide +kernel) (gd1 wa_1299 (by decide +kernel) (gd1 wa_5 (by decide +kernel) ggX5_repaintNow_X5_solutions))))
set_option maxRecDepth 20000 in
theorem ggX5_repaintNow_X5_side : GoodIn wsX5_repaintNow wsX5_side := gdW wa_848 (by decide +kernel) (by decide +kernel)
set_option maxRecDepth 20000 in
theorem gX5_repaintNow_X5_side : GoodIn wsX5_repaintNow (va_wsS RX5 100 yX5_side wsX5_side) := (gd1 wa_846 (by decide +kernel) (gd1 wa_847 (by decide +kernel) (gd1 wa_5 (by decide +kernel) ggX5_repaintNow_X5_side)))
set_option maxRecDepth 20000 in
theorem ggX5_repaintNow_X5_isBy : GoodIn wsX5_repaintNow wsX5_isBy := gdW wa_1556 (by decide +kernel) (by decide +kernel)
set_option maxRecDepth 20000 in
theorem gX5_repaintNow_X5_isBy : GoodIn wsX5_repaintNow (wsV RX5 213 RX5 yX5_isBy wsX5_isBy) := (gd1 wa_1553 (by decide +kernel) (gd1 wa_1554 (by decide +kernel) (gd1 wa_1555 (by decide +kernel) (gd1 wa_5 (by decide +kernel) ggX5_repaintNow_X5_isBy))))
theorem dX5_repaintNow_0 : decode cX5_repaintNow 0 = .ok (.aload_n 0, 1) := by decide +kernel
theorem dX5_repaintNow_1 : decode cX5_repaintNow 1 = .ok (.invokevirtual 189, 3) := by decide +kernel
theorem dX5_repaintNow_4 : decode cX5_repaintNow 4 = .ok (.aload_n 0, 1) := by decide +kernel
theorem dX5_repaintNow_5 : decode cX5_repaintNow 5 = .ok (.invokevirtual 192, 3) := by decide +kernel
theorem dX5_repaintNow_8 : decode cX5_repaintNow 8 = .ok (.ifCond .le 6, 3) := by decide +kernel
theorem dX5_repaintNow_11 : decode cX5_repaintNow 11 = .ok (.bipush (-2), 2) := by decide +kernel
theorem dX5_repaintNow_13 : decode cX5_repaintNow 13 = .ok (.ireturn, 1) := by decide +kernel
theorem dX5_repaintNow_14 : decode cX5_repaintNow 14 = .ok (.iconst 0, 1) := by decide +kernel
theorem dX5_repaintNow_15 : decode cX5_repaintNow 15 = .ok (.istore_n 1, 1) := by decide +kernel
theorem dX5_repaintNow_16 : decode cX5_repaintNow 16 = .ok (.iload_n 1, 1) := by decide +kernel
theorem dX5_repaintNow_17 : decode cX5_repaintNow 17 = .ok (.bipush 36, 2) := by decide +kernel
theorem dX5_repaintNow_19 : decode cX5_repaintNow 19 = .ok (.aload_n 0, 1) := by decide +kernel
theorem dX5_repaintNow_20 : decode cX5_repaintNow 20 = .ok (.getfield 88, 3) := by decide +kernel
theorem dX5_repaintNow_23 : decode cX5_repaintNow 23 = .ok (.imul, 1) := by decide +kernel
theorem dX5_repaintNow_24 : decode cX5_repaintNow 24 = .ok (.if_icmp .ge 67, 3) := by decide +kernel
theorem dX5_repaintNow_27 : decode cX5_repaintNow 27 = .ok (.iload_n 1, 1) := by decide +kernel
theorem dX5_repaintNow_28 : decode cX5_repaintNow 28 = .ok (.bipush 36, 2) := by decide +kernel
theorem dX5_repaintNow_30 : decode cX5_repaintNow 30 = .ok (.idiv, 1) := by decide +kernel
theorem dX5_repaintNow_31 : decode cX5_repaintNow 31 = .ok (.istore_n 2, 1) := by decide +kernel
theorem dX5_repaintNow_32 : decode cX5_repaintNow 32 = .ok (.iload_n 1, 1) := by decide +kernel
theorem dX5_repaintNow_33 : decode cX5_repaintNow 33 = .ok (.bipush 6, 2) := by decide +kernel
theorem dX5_repaintNow_35 : decode cX5_repaintNow 35 = .ok (.idiv, 1) := by decide +kernel
theorem dX5_repaintNow_36 : decode cX5_repaintNow 36 = .ok (.bipush 6, 2) := by decide +kernel
theorem dX5_repaintNow_38 : decode cX5_repaintNow 38 = .ok (.irem, 1) := by decide +kernel
theorem dX5_repaintNow_39 : decode cX5_repaintNow 39 = .ok (.istore_n 3, 1) := by decide +kernel
theorem dX5_repaintNow_40 : decode cX5_repaintNow 40 = .ok (.iload_n 1, 1) := by decide +kernel
theorem dX5_repaintNow_41 : decode cX5_repaintNow 41 = .ok (.bipush 6, 2) := by decide +kernel
theorem dX5_repaintNow_43 : decode cX5_repaintNow 43 = .ok (.irem, 1) := by decide +kernel
theorem dX5_repaintNow_44 : decode cX5_repaintNow 44 = .ok (.istore 4, 2) := by decide +kernel
theorem dX5_repaintNow_46 : decode cX5_repaintNow 46 = .ok (.aload_n 0, 1) := by decide +kernel
theorem dX5_repaintNow_47 : decode cX5_repaintNow 47 = .ok (.getfield 13, 3) := by decide +kernel
theorem dX5_repaintNow_50 : decode cX5_repaintNow 50 = .ok (.iload_n 2, 1) := by decide +kernel
theorem dX5_repaintNow_51 : decode cX5_repaintNow 51 = .ok (.iaload, 1) := by decide +kernel
theorem dX5_repaintNow_52 : decode cX5_repaintNow 52 = .ok (.iload_n 3, 1) := by decide +kernel
theorem dX5_repaintNow_53 : decode cX5_repaintNow 53 = .ok (.invokestatic 100, 3) := by decide +kernel
theorem dX5_repaintNow_56 : decode cX5_repaintNow 56 = .ok (.iload 4, 2) := by decide +kernel
theorem dX5_repaintNow_58 : decode cX5_repaintNow 58 = .ok (.if_icmp .eq 27, 3) := by decide +kernel
theorem dX5_repaintNow_61 : decode cX5_repaintNow 61 = .ok (.aload_n 0, 1) := by decide +kernel
theorem dX5_repaintNow_62 : decode cX5_repaintNow 62 = .ok (.iload_n 2, 1) := by decide +kernel
theorem dX5_repaintNow_63 : decode cX5_repaintNow 63 = .ok (.iload_n 3, 1) := by decide +kernel
theorem dX5_repaintNow_64 : decode cX5_repaintNow 64 = .ok (.iload 4, 2) := by decide +kernel
theorem dX5_repaintNow_66 : decode cX5_repaintNow 66 = .ok (.invokevirtual 213, 3) := by decide +kernel
theorem dX5_repaintNow_69 : decode cX5_repaintNow 69 = .ok (.ifCond .eq 16, 3) := by decide +kernel
theorem dX5_repaintNow_72 : decode cX5_repaintNow 72 = .ok (.bipush 100, 2) := by decide +kernel
theorem dX5_repaintNow_74 : decode cX5_repaintNow 74 = .ok (.iload_n 2, 1) := by decide +kernel
theorem dX5_repaintNow_75 : decode cX5_repaintNow 75 = .ok (.imul, 1) := by decide +kernel
theorem dX5_repaintNow_76 : decode cX5_repaintNow 76 = .ok (.bipush 10, 2) := by decide +kernel
theorem dX5_repaintNow_78 : decode cX5_repaintNow 78 = .ok (.iload_n 3, 1) := by decide +kernel
theorem dX5_repaintNow_79 : decode cX5_repaintNow 79 = .ok (.imul, 1) := by decide +kernel
theorem dX5_repaintNow_80 : decode cX5_repaintNow 80 = .ok (.iadd, 1) := by decide +kernel
theorem dX5_repaintNow_81 : decode cX5_repaintNow 81 = .ok (.iload 4, 2) := by decide +kernel
theorem dX5_repaintNow_83 : decode cX5_repaintNow 83 = .ok (.iadd, 1) := by decide +kernel
theorem dX5_repaintNow_84 : decode cX5_repaintNow 84 = .ok (.ireturn, 1) := by decide +kernel
theorem dX5_repaintNow_85 : decode cX5_repaintNow 85 = .ok (.iinc 1 1, 3) := by decide +kernel
theorem dX5_repaintNow_88 : decode cX5_repaintNow 88 = .ok (.goto (-72), 3) := by decide +kernel
theorem dX5_repaintNow_91 : decode cX5_repaintNow 91 = .ok (.iconst (-1), 1) := by decide +kernel
theorem dX5_repaintNow_92 : decode cX5_repaintNow 92 = .ok (.ireturn, 1) := by decide +kernel
set_option maxRecDepth 20000 in
theorem ggX5_repaint_X5_repaintNow : GoodIn wsX5_repaint wsX5_repaintNow := gdW wa_1552 (by decide +kernel) (by decide +kernel)
set_option maxRecDepth 20000 in
theorem gX5_repaint_X5_repaintNow : GoodIn wsX5_repaint (wsV RX5 219 RX5 yX5_repaintNow wsX5_repaintNow) := (gd1 wa_1549 (by decide +kernel) (gd1 wa_1550 (by decide +kernel) (gd1 wa_1551 (by decide +kernel) (gd1 wa_5 (by decide +kernel) ggX5_repaint_X5_repaintNow))))
theorem dX5_repaint_0 : decode cX5_repaint 0 = .ok (.aload_n 0, 1) := by decide +kernel
theorem dX5_repaint_1 : decode cX5_repaint 1 = .ok (.getfield 88, 3) := by decide +kernel
theorem dX5_repaint_4 : decode cX5_repaint 4 = .ok (.ifCond .eq 12, 3) := by decide +kernel
theorem dX5_repaint_7 : decode cX5_repaint 7 = .ok (.aload_n 0, 1) := by decide +kernel
theorem dX5_repaint_8 : decode cX5_repaint 8 = .ok (.getfield 216, 3) := by decide +kernel
theorem dX5_repaint_11 : decode cX5_repaint 11 = .ok (.bipush 10, 2) := by decide +kernel
theorem dX5_repaint_13 : decode cX5_repaint 13 = .ok (.if_icmp .ne 6, 3) := by decide +kernel
theorem dX5_repaint_16 : decode cX5_repaint 16 = .ok (.bipush (-103), 2) := by decide +kernel
theorem dX5_repaint_18 : decode cX5_repaint 18 = .ok (.ireturn, 1) := by decide +kernel
theorem dX5_repaint_19 : decode cX5_repaint 19 = .ok (.aload_n 0, 1) := by decide +kernel
theorem dX5_repaint_20 : decode cX5_repaint 20 = .ok (.dup, 1) := by decide +kernel
theorem dX5_repaint_21 : decode cX5_repaint 21 = .ok (.getfield 216, 3) := by decide +kernel
theorem dX5_repaint_24 : decode cX5_repaint 24 = .ok (.iconst 1, 1) := by decide +kernel
theorem dX5_repaint_25 : decode cX5_repaint 25 = .ok (.iadd, 1) := by decide +kernel
theorem dX5_repaint_26 : decode cX5_repaint 26 = .ok (.putfield 216, 3) := by decide +kernel
theorem dX5_repaint_29 : decode cX5_repaint 29 = .ok (.aload_n 0, 1) := by decide +kernel
theorem dX5_repaint_30 : decode cX5_repaint 30 = .ok (.invokevirtual 219, 3) := by decide +kernel
theorem dX5_repaint_33 : decode cX5_repaint 33 = .ok (.ireturn, 1) := by decide +kernel
set_option maxRecDepth 20000 in
theorem ggX5_oddsNow_X5_layAll : GoodIn wsX5_oddsNow wsX5_layAll := gdW wa_1280 (by decide +kernel) (by decide +kernel)
set_option maxRecDepth 20000 in
theorem gX5_oddsNow_X5_layAll : GoodIn wsX5_oddsNow (wsV RX5 189 RX5 yX5_layAll wsX5_layAll) := (gd1 wa_1237 (by decide +kernel) (gd1 wa_1238 (by decide +kernel) (gd1 wa_1239 (by decide +kernel) (gd1 wa_5 (by decide +kernel) ggX5_oddsNow_X5_layAll))))
set_option maxRecDepth 20000 in
theorem ggX5_oddsNow_X5_solutions : GoodIn wsX5_oddsNow wsX5_solutions := gdW wa_1300 (by decide +kernel) (by decide +kernel)
set_option maxRecDepth 20000 in
theorem gX5_oddsNow_X5_solutions : GoodIn wsX5_oddsNow (wsV RX5 192 RX5 yX5_solutions wsX5_solutions) := (gd1 wa_1297 (by decide +kernel) (gd1 wa_1298 (by decide +kernel) (gd1 wa_1299 (by decide +kernel) (gd1 wa_5 (by decide +kernel) ggX5_oddsNow_X5_solutions))))
set_option maxRecDepth 20000 in
theorem ggX5_oddsNow_X5_all : GoodIn wsX5_oddsNow wsX5_all := gdW wa_1344 (by decide +kernel) (by decide +kernel)
set_option maxRecDepth 20000 in
theorem gX5_oddsNow_X5_all : GoodIn wsX5_oddsNow (wsV RX5 182 RX5 yX5_all wsX5_all) := (gd1 wa_1301 (by decide +kernel) (gd1 wa_1302 (by decide +kernel) (gd1 wa_1303 (by decide +kernel) (gd1 wa_5 (by decide +kernel) ggX5_oddsNow_X5_all))))
set_option maxRecDepth 20000 in
theorem ggX5_oddsNow_X5_divisor : GoodIn wsX5_oddsNow wsX5_divisor := gdW wa_1618 (by decide +kernel) (by decide +kernel)
set_option maxRecDepth 20000 in
theorem gX5_oddsNow_X5_divisor : GoodIn wsX5_oddsNow (va_wsS RX5 222 yX5_divisor wsX5_divisor) := (gd1 wa_1616 (by decide +kernel) (gd1 wa_1617 (by decide +kernel) (gd1 wa_5 (by decide +kernel) ggX5_oddsNow_X5_divisor)))
theorem dX5_oddsNow_0 : decode cX5_oddsNow 0 = .ok (.aload_n 0, 1) := by decide +kernel
theorem dX5_oddsNow_1 : decode cX5_oddsNow 1 = .ok (.invokevirtual 189, 3) := by decide +kernel
theorem dX5_oddsNow_4 : decode cX5_oddsNow 4 = .ok (.aload_n 0, 1) := by decide +kernel
theorem dX5_oddsNow_5 : decode cX5_oddsNow 5 = .ok (.invokevirtual 192, 3) := by decide +kernel
theorem dX5_oddsNow_8 : decode cX5_oddsNow 8 = .ok (.istore_n 2, 1) := by decide +kernel
theorem dX5_oddsNow_9 : decode cX5_oddsNow 9 = .ok (.iload_n 2, 1) := by decide +kernel
theorem dX5_oddsNow_10 : decode cX5_oddsNow 10 = .ok (.aload_n 0, 1) := by decide +kernel
theorem dX5_oddsNow_11 : decode cX5_oddsNow 11 = .ok (.invokevirtual 182, 3) := by decide +kernel
theorem dX5_oddsNow_14 : decode cX5_oddsNow 14 = .ok (.invokestatic 222, 3) := by decide +kernel
theorem dX5_oddsNow_17 : decode cX5_oddsNow 17 = .ok (.istore_n 3, 1) := by decide +kernel
theorem dX5_oddsNow_18 : decode cX5_oddsNow 18 = .ok (.iload_n 1, 1) := by decide +kernel
theorem dX5_oddsNow_19 : decode cX5_oddsNow 19 = .ok (.ifCond .ne 9, 3) := by decide +kernel
theorem dX5_oddsNow_22 : decode cX5_oddsNow 22 = .ok (.iload_n 2, 1) := by decide +kernel
theorem dX5_oddsNow_23 : decode cX5_oddsNow 23 = .ok (.iload_n 3, 1) := by decide +kernel
theorem dX5_oddsNow_24 : decode cX5_oddsNow 24 = .ok (.idiv, 1) := by decide +kernel
theorem dX5_oddsNow_25 : decode cX5_oddsNow 25 = .ok (.goto 9, 3) := by decide +kernel
theorem dX5_oddsNow_28 : decode cX5_oddsNow 28 = .ok (.aload_n 0, 1) := by decide +kernel
theorem dX5_oddsNow_29 : decode cX5_oddsNow 29 = .ok (.invokevirtual 182, 3) := by decide +kernel
theorem dX5_oddsNow_32 : decode cX5_oddsNow 32 = .ok (.iload_n 3, 1) := by decide +kernel
theorem dX5_oddsNow_33 : decode cX5_oddsNow 33 = .ok (.idiv, 1) := by decide +kernel
theorem dX5_oddsNow_34 : decode cX5_oddsNow 34 = .ok (.ireturn, 1) := by decide +kernel
set_option maxRecDepth 20000 in
theorem ggX5_odds_X5_within : GoodIn wsX5_odds wsX5_within := gdW wa_270 (by decide +kernel) (by decide +kernel)
set_option maxRecDepth 20000 in
theorem gX5_odds_X5_within : GoodIn wsX5_odds (va_wsS RX5 59 yX5_within wsX5_within) := (gd1 wa_268 (by decide +kernel) (gd1 wa_269 (by decide +kernel) (gd1 wa_5 (by decide +kernel) ggX5_odds_X5_within)))
set_option maxRecDepth 20000 in
theorem ggX5_odds_X5_oddsNow : GoodIn wsX5_odds wsX5_oddsNow := gdW wa_1615 (by decide +kernel) (by decide +kernel)
set_option maxRecDepth 20000 in
theorem gX5_odds_X5_oddsNow : GoodIn wsX5_odds (wsV RX5 225 RX5 yX5_oddsNow wsX5_oddsNow) := (gd1 wa_1612 (by decide +kernel) (gd1 wa_1613 (by decide +kernel) (gd1 wa_1614 (by decide +kernel) (gd1 wa_5 (by decide +kernel) ggX5_odds_X5_oddsNow))))
theorem dX5_odds_0 : decode cX5_odds 0 = .ok (.iload_n 1, 1) := by decide +kernel
theorem dX5_odds_1 : decode cX5_odds 1 = .ok (.iconst 0, 1) := by decide +kernel
theorem dX5_odds_2 : decode cX5_odds 2 = .ok (.iconst 1, 1) := by decide +kernel
theorem dX5_odds_3 : decode cX5_odds 3 = .ok (.invokestatic 59, 3) := by decide +kernel
theorem dX5_odds_6 : decode cX5_odds 6 = .ok (.ifCond .ne 6, 3) := by decide +kernel
theorem dX5_odds_9 : decode cX5_odds 9 = .ok (.bipush (-102), 2) := by decide +kernel
theorem dX5_odds_11 : decode cX5_odds 11 = .ok (.ireturn, 1) := by decide +kernel
theorem dX5_odds_12 : decode cX5_odds 12 = .ok (.aload_n 0, 1) := by decide +kernel
theorem dX5_odds_13 : decode cX5_odds 13 = .ok (.getfield 88, 3) := by decide +kernel
theorem dX5_odds_16 : decode cX5_odds 16 = .ok (.ifCond .ne 8, 3) := by decide +kernel
theorem dX5_odds_19 : decode cX5_odds 19 = .ok (.bipush (-103), 2) := by decide +kernel
theorem dX5_odds_21 : decode cX5_odds 21 = .ok (.goto 8, 3) := by decide +kernel
theorem dX5_odds_24 : decode cX5_odds 24 = .ok (.aload_n 0, 1) := by decide +kernel
theorem dX5_odds_25 : decode cX5_odds 25 = .ok (.iload_n 1, 1) := by decide +kernel
theorem dX5_odds_26 : decode cX5_odds 26 = .ok (.invokevirtual 225, 3) := by decide +kernel
theorem dX5_odds_29 : decode cX5_odds 29 = .ok (.ireturn, 1) := by decide +kernel
theorem dX5_could_0 : decode cX5_could 0 = .ok (.iload_n 1, 1) := by decide +kernel
theorem dX5_could_1 : decode cX5_could 1 = .ok (.lookupswitch 57 #[(0, 27), (1, 42)], 27) := by decide +kernel
theorem dX5_could_28 : decode cX5_could 28 = .ok (.iload_n 0, 1) := by decide +kernel
theorem dX5_could_29 : decode cX5_could 29 = .ok (.ifCond .eq 8, 3) := by decide +kernel
theorem dX5_could_32 : decode cX5_could 32 = .ok (.iload_n 0, 1) := by decide +kernel
theorem dX5_could_33 : decode cX5_could 33 = .ok (.iconst 1, 1) := by decide +kernel
theorem dX5_could_34 : decode cX5_could 34 = .ok (.if_icmp .ne 7, 3) := by decide +kernel
theorem dX5_could_37 : decode cX5_could 37 = .ok (.iconst 1, 1) := by decide +kernel
theorem dX5_could_38 : decode cX5_could 38 = .ok (.goto 4, 3) := by decide +kernel
theorem dX5_could_41 : decode cX5_could 41 = .ok (.iconst 0, 1) := by decide +kernel
theorem dX5_could_42 : decode cX5_could 42 = .ok (.ireturn, 1) := by decide +kernel
theorem dX5_could_43 : decode cX5_could 43 = .ok (.iload_n 0, 1) := by decide +kernel
theorem dX5_could_44 : decode cX5_could 44 = .ok (.ifCond .eq 8, 3) := by decide +kernel
theorem dX5_could_47 : decode cX5_could 47 = .ok (.iload_n 0, 1) := by decide +kernel
theorem dX5_could_48 : decode cX5_could 48 = .ok (.iconst 2, 1) := by decide +kernel
theorem dX5_could_49 : decode cX5_could 49 = .ok (.if_icmp .ne 7, 3) := by decide +kernel
theorem dX5_could_52 : decode cX5_could 52 = .ok (.iconst 1, 1) := by decide +kernel
theorem dX5_could_53 : decode cX5_could 53 = .ok (.goto 4, 3) := by decide +kernel
theorem dX5_could_56 : decode cX5_could 56 = .ok (.iconst 0, 1) := by decide +kernel
theorem dX5_could_57 : decode cX5_could 57 = .ok (.ireturn, 1) := by decide +kernel
theorem dX5_could_58 : decode cX5_could 58 = .ok (.iload_n 0, 1) := by decide +kernel
theorem dX5_could_59 : decode cX5_could 59 = .ok (.ifCond .eq 13, 3) := by decide +kernel
theorem dX5_could_62 : decode cX5_could 62 = .ok (.iload_n 0, 1) := by decide +kernel
theorem dX5_could_63 : decode cX5_could 63 = .ok (.iconst 1, 1) := by decide +kernel
theorem dX5_could_64 : decode cX5_could 64 = .ok (.if_icmp .eq 8, 3) := by decide +kernel
theorem dX5_could_67 : decode cX5_could 67 = .ok (.iload_n 0, 1) := by decide +kernel
theorem dX5_could_68 : decode cX5_could 68 = .ok (.iconst 4, 1) := by decide +kernel
theorem dX5_could_69 : decode cX5_could 69 = .ok (.if_icmp .ne 7, 3) := by decide +kernel
theorem dX5_could_72 : decode cX5_could 72 = .ok (.iconst 1, 1) := by decide +kernel
theorem dX5_could_73 : decode cX5_could 73 = .ok (.goto 4, 3) := by decide +kernel
theorem dX5_could_76 : decode cX5_could 76 = .ok (.iconst 0, 1) := by decide +kernel
theorem dX5_could_77 : decode cX5_could 77 = .ok (.ireturn, 1) := by decide +kernel
set_option maxRecDepth 20000 in
theorem ggX5_see_X5_isCube : GoodIn wsX5_see wsX5_isCube := gdW wa_777 (by decide +kernel) (by decide +kernel)
set_option maxRecDepth 20000 in
theorem gX5_see_X5_isCube : GoodIn wsX5_see (wsV RX5 123 RX5 yX5_isCube wsX5_isCube) := (gd1 wa_774 (by decide +kernel) (gd1 wa_775 (by decide +kernel) (gd1 wa_776 (by decide +kernel) (gd1 wa_5 (by decide +kernel) ggX5_see_X5_isCube))))
set_option maxRecDepth 20000 in
theorem ggX5_see_X5_within : GoodIn wsX5_see wsX5_within := gdW wa_270 (by decide +kernel) (by decide +kernel)
set_option maxRecDepth 20000 in
theorem gX5_see_X5_within : GoodIn wsX5_see (va_wsS RX5 59 yX5_within wsX5_within) := (gd1 wa_268 (by decide +kernel) (gd1 wa_269 (by decide +kernel) (gd1 wa_5 (by decide +kernel) ggX5_see_X5_within)))
theorem dX5_see_0 : decode cX5_see 0 = .ok (.aload_n 0, 1) := by decide +kernel
theorem dX5_see_1 : decode cX5_see 1 = .ok (.iload_n 1, 1) := by decide +kernel
theorem dX5_see_2 : decode cX5_see 2 = .ok (.invokevirtual 123, 3) := by decide +kernel
theorem dX5_see_5 : decode cX5_see 5 = .ok (.ifCond .ne 6, 3) := by decide +kernel
theorem dX5_see_8 : decode cX5_see 8 = .ok (.bipush (-101), 2) := by decide +kernel
theorem dX5_see_10 : decode cX5_see 10 = .ok (.ireturn, 1) := by decide +kernel
theorem dX5_see_11 : decode cX5_see 11 = .ok (.iload_n 2, 1) := by decide +kernel
theorem dX5_see_12 : decode cX5_see 12 = .ok (.iconst 0, 1) := by decide +kernel
theorem dX5_see_13 : decode cX5_see 13 = .ok (.iconst 2, 1) := by decide +kernel
theorem dX5_see_14 : decode cX5_see 14 = .ok (.invokestatic 59, 3) := by decide +kernel
theorem dX5_see_17 : decode cX5_see 17 = .ok (.ifCond .ne 6, 3) := by decide +kernel
theorem dX5_see_20 : decode cX5_see 20 = .ok (.bipush (-102), 2) := by decide +kernel
theorem dX5_see_22 : decode cX5_see 22 = .ok (.ireturn, 1) := by decide +kernel
theorem dX5_see_23 : decode cX5_see 23 = .ok (.aload_n 0, 1) := by decide +kernel
theorem dX5_see_24 : decode cX5_see 24 = .ok (.getfield 97, 3) := by decide +kernel
theorem dX5_see_27 : decode cX5_see 27 = .ok (.bipush 6, 2) := by decide +kernel
theorem dX5_see_29 : decode cX5_see 29 = .ok (.if_icmp .ne 6, 3) := by decide +kernel
theorem dX5_see_32 : decode cX5_see 32 = .ok (.bipush (-104), 2) := by decide +kernel
theorem dX5_see_34 : decode cX5_see 34 = .ok (.ireturn, 1) := by decide +kernel
theorem dX5_see_35 : decode cX5_see 35 = .ok (.aload_n 0, 1) := by decide +kernel
theorem dX5_see_36 : decode cX5_see 36 = .ok (.getfield 16, 3) := by decide +kernel
theorem dX5_see_39 : decode cX5_see 39 = .ok (.aload_n 0, 1) := by decide +kernel
theorem dX5_see_40 : decode cX5_see 40 = .ok (.getfield 97, 3) := by decide +kernel
theorem dX5_see_43 : decode cX5_see 43 = .ok (.iload_n 1, 1) := by decide +kernel
theorem dX5_see_44 : decode cX5_see 44 = .ok (.iastore, 1) := by decide +kernel
theorem dX5_see_45 : decode cX5_see 45 = .ok (.aload_n 0, 1) := by decide +kernel
theorem dX5_see_46 : decode cX5_see 46 = .ok (.getfield 19, 3) := by decide +kernel
theorem dX5_see_49 : decode cX5_see 49 = .ok (.aload_n 0, 1) := by decide +kernel
theorem dX5_see_50 : decode cX5_see 50 = .ok (.getfield 97, 3) := by decide +kernel
theorem dX5_see_53 : decode cX5_see 53 = .ok (.iload_n 2, 1) := by decide +kernel
theorem dX5_see_54 : decode cX5_see 54 = .ok (.iastore, 1) := by decide +kernel
theorem dX5_see_55 : decode cX5_see 55 = .ok (.aload_n 0, 1) := by decide +kernel
theorem dX5_see_56 : decode cX5_see 56 = .ok (.getfield 22, 3) := by decide +kernel
theorem dX5_see_59 : decode cX5_see 59 = .ok (.aload_n 0, 1) := by decide +kernel
theorem dX5_see_60 : decode cX5_see 60 = .ok (.getfield 97, 3) := by decide +kernel
theorem dX5_see_63 : decode cX5_see 63 = .ok (.iload_n 3, 1) := by decide +kernel
theorem dX5_see_64 : decode cX5_see 64 = .ok (.ifCond .eq 7, 3) := by decide +kernel
theorem dX5_see_67 : decode cX5_see 67 = .ok (.iconst 1, 1) := by decide +kernel
theorem dX5_see_68 : decode cX5_see 68 = .ok (.goto 4, 3) := by decide +kernel
theorem dX5_see_71 : decode cX5_see 71 = .ok (.iconst 0, 1) := by decide +kernel
theorem dX5_see_72 : decode cX5_see 72 = .ok (.iastore, 1) := by decide +kernel
theorem dX5_see_73 : decode cX5_see 73 = .ok (.aload_n 0, 1) := by decide +kernel
theorem dX5_see_74 : decode cX5_see 74 = .ok (.dup, 1) := by decide +kernel
theorem dX5_see_75 : decode cX5_see 75 = .ok (.getfield 97, 3) := by decide +kernel
theorem dX5_see_78 : decode cX5_see 78 = .ok (.iconst 1, 1) := by decide +kernel
theorem dX5_see_79 : decode cX5_see 79 = .ok (.iadd, 1) := by decide +kernel
theorem dX5_see_80 : decode cX5_see 80 = .ok (.putfield 97, 3) := by decide +kernel
theorem dX5_see_83 : decode cX5_see 83 = .ok (.aload_n 0, 1) := by decide +kernel
theorem dX5_see_84 : decode cX5_see 84 = .ok (.getfield 97, 3) := by decide +kernel
theorem dX5_see_87 : decode cX5_see 87 = .ok (.ireturn, 1) := by decide +kernel
theorem dX5_forget_0 : decode cX5_forget 0 = .ok (.aload_n 0, 1) := by decide +kernel
theorem dX5_forget_1 : decode cX5_forget 1 = .ok (.getfield 97, 3) := by decide +kernel
theorem dX5_forget_4 : decode cX5_forget 4 = .ok (.istore_n 1, 1) := by decide +kernel
theorem dX5_forget_5 : decode cX5_forget 5 = .ok (.aload_n 0, 1) := by decide +kernel
theorem dX5_forget_6 : decode cX5_forget 6 = .ok (.iconst 0, 1) := by decide +kernel
theorem dX5_forget_7 : decode cX5_forget 7 = .ok (.putfield 97, 3) := by decide +kernel
theorem dX5_forget_10 : decode cX5_forget 10 = .ok (.iload_n 1, 1) := by decide +kernel
theorem dX5_forget_11 : decode cX5_forget 11 = .ok (.ireturn, 1) := by decide +kernel
set_option maxRecDepth 20000 in
theorem ggX5_sortsOf_X5_could : GoodIn wsX5_sortsOf wsX5_could := gdW wa_791 (by decide +kernel) (by decide +kernel)
set_option maxRecDepth 20000 in
theorem gX5_sortsOf_X5_could : GoodIn wsX5_sortsOf (va_wsS RX5 228 yX5_could wsX5_could) := (gd1 wa_789 (by decide +kernel) (gd1 wa_790 (by decide +kernel) (gd1 wa_5 (by decide +kernel) ggX5_sortsOf_X5_could)))
theorem dX5_sortsOf_0 : decode cX5_sortsOf 0 = .ok (.iconst 0, 1) := by decide +kernel
theorem dX5_sortsOf_1 : decode cX5_sortsOf 1 = .ok (.istore_n 2, 1) := by decide +kernel
theorem dX5_sortsOf_2 : decode cX5_sortsOf 2 = .ok (.iconst 0, 1) := by decide +kernel
theorem dX5_sortsOf_3 : decode cX5_sortsOf 3 = .ok (.istore_n 3, 1) := by decide +kernel
theorem dX5_sortsOf_4 : decode cX5_sortsOf 4 = .ok (.iload_n 3, 1) := by decide +kernel
theorem dX5_sortsOf_5 : decode cX5_sortsOf 5 = .ok (.iconst 4, 1) := by decide +kernel
theorem dX5_sortsOf_6 : decode cX5_sortsOf 6 = .ok (.if_icmp .gt 98, 3) := by decide +kernel
theorem dX5_sortsOf_9 : decode cX5_sortsOf 9 = .ok (.iconst 1, 1) := by decide +kernel
theorem dX5_sortsOf_10 : decode cX5_sortsOf 10 = .ok (.istore 4, 2) := by decide +kernel
theorem dX5_sortsOf_12 : decode cX5_sortsOf 12 = .ok (.iconst 0, 1) := by decide +kernel
theorem dX5_sortsOf_13 : decode cX5_sortsOf 13 = .ok (.istore 5, 2) := by decide +kernel
theorem dX5_sortsOf_15 : decode cX5_sortsOf 15 = .ok (.iload 5, 2) := by decide +kernel
theorem dX5_sortsOf_17 : decode cX5_sortsOf 17 = .ok (.aload_n 0, 1) := by decide +kernel
theorem dX5_sortsOf_18 : decode cX5_sortsOf 18 = .ok (.getfield 97, 3) := by decide +kernel
theorem dX5_sortsOf_21 : decode cX5_sortsOf 21 = .ok (.if_icmp .ge 62, 3) := by decide +kernel
theorem dX5_sortsOf_24 : decode cX5_sortsOf 24 = .ok (.iload 4, 2) := by decide +kernel
theorem dX5_sortsOf_26 : decode cX5_sortsOf 26 = .ok (.ifCond .eq 48, 3) := by decide +kernel
theorem dX5_sortsOf_29 : decode cX5_sortsOf 29 = .ok (.aload_n 0, 1) := by decide +kernel
theorem dX5_sortsOf_30 : decode cX5_sortsOf 30 = .ok (.getfield 16, 3) := by decide +kernel
theorem dX5_sortsOf_33 : decode cX5_sortsOf 33 = .ok (.iload 5, 2) := by decide +kernel
theorem dX5_sortsOf_35 : decode cX5_sortsOf 35 = .ok (.iaload, 1) := by decide +kernel
theorem dX5_sortsOf_36 : decode cX5_sortsOf 36 = .ok (.iload_n 1, 1) := by decide +kernel
theorem dX5_sortsOf_37 : decode cX5_sortsOf 37 = .ok (.if_icmp .ne 33, 3) := by decide +kernel
theorem dX5_sortsOf_40 : decode cX5_sortsOf 40 = .ok (.iload_n 3, 1) := by decide +kernel
theorem dX5_sortsOf_41 : decode cX5_sortsOf 41 = .ok (.aload_n 0, 1) := by decide +kernel
theorem dX5_sortsOf_42 : decode cX5_sortsOf 42 = .ok (.getfield 19, 3) := by decide +kernel
theorem dX5_sortsOf_45 : decode cX5_sortsOf 45 = .ok (.iload 5, 2) := by decide +kernel
theorem dX5_sortsOf_47 : decode cX5_sortsOf 47 = .ok (.iaload, 1) := by decide +kernel
theorem dX5_sortsOf_48 : decode cX5_sortsOf 48 = .ok (.invokestatic 228, 3) := by decide +kernel
theorem dX5_sortsOf_51 : decode cX5_sortsOf 51 = .ok (.aload_n 0, 1) := by decide +kernel
theorem dX5_sortsOf_52 : decode cX5_sortsOf 52 = .ok (.getfield 22, 3) := by decide +kernel
theorem dX5_sortsOf_55 : decode cX5_sortsOf 55 = .ok (.iload 5, 2) := by decide +kernel
theorem dX5_sortsOf_57 : decode cX5_sortsOf 57 = .ok (.iaload, 1) := by decide +kernel
theorem dX5_sortsOf_58 : decode cX5_sortsOf 58 = .ok (.iconst 1, 1) := by decide +kernel
theorem dX5_sortsOf_59 : decode cX5_sortsOf 59 = .ok (.if_icmp .ne 7, 3) := by decide +kernel
theorem dX5_sortsOf_62 : decode cX5_sortsOf 62 = .ok (.iconst 1, 1) := by decide +kernel
theorem dX5_sortsOf_63 : decode cX5_sortsOf 63 = .ok (.goto 4, 3) := by decide +kernel
theorem dX5_sortsOf_66 : decode cX5_sortsOf 66 = .ok (.iconst 0, 1) := by decide +kernel
theorem dX5_sortsOf_67 : decode cX5_sortsOf 67 = .ok (.if_icmp .ne 7, 3) := by decide +kernel
theorem dX5_sortsOf_70 : decode cX5_sortsOf 70 = .ok (.iconst 1, 1) := by decide +kernel
theorem dX5_sortsOf_71 : decode cX5_sortsOf 71 = .ok (.goto 4, 3) := by decide +kernel
theorem dX5_sortsOf_74 : decode cX5_sortsOf 74 = .ok (.iconst 0, 1) := by decide +kernel
theorem dX5_sortsOf_75 : decode cX5_sortsOf 75 = .ok (.istore 4, 2) := by decide +kernel
theorem dX5_sortsOf_77 : decode cX5_sortsOf 77 = .ok (.iinc 5 1, 3) := by decide +kernel
theorem dX5_sortsOf_80 : decode cX5_sortsOf 80 = .ok (.goto (-65), 3) := by decide +kernel
theorem dX5_sortsOf_83 : decode cX5_sortsOf 83 = .ok (.iload_n 2, 1) := by decide +kernel
theorem dX5_sortsOf_84 : decode cX5_sortsOf 84 = .ok (.iload 4, 2) := by decide +kernel
theorem dX5_sortsOf_86 : decode cX5_sortsOf 86 = .ok (.ifCond .eq 9, 3) := by decide +kernel
theorem dX5_sortsOf_89 : decode cX5_sortsOf 89 = .ok (.iconst 1, 1) := by decide +kernel
theorem dX5_sortsOf_90 : decode cX5_sortsOf 90 = .ok (.iload_n 3, 1) := by decide +kernel
theorem dX5_sortsOf_91 : decode cX5_sortsOf 91 = .ok (.ishl, 1) := by decide +kernel
theorem dX5_sortsOf_92 : decode cX5_sortsOf 92 = .ok (.goto 4, 3) := by decide +kernel
theorem dX5_sortsOf_95 : decode cX5_sortsOf 95 = .ok (.iconst 0, 1) := by decide +kernel
theorem dX5_sortsOf_96 : decode cX5_sortsOf 96 = .ok (.ior, 1) := by decide +kernel
theorem dX5_sortsOf_97 : decode cX5_sortsOf 97 = .ok (.istore_n 2, 1) := by decide +kernel
theorem dX5_sortsOf_98 : decode cX5_sortsOf 98 = .ok (.iinc 3 1, 3) := by decide +kernel
theorem dX5_sortsOf_101 : decode cX5_sortsOf 101 = .ok (.goto (-97), 3) := by decide +kernel
theorem dX5_sortsOf_104 : decode cX5_sortsOf 104 = .ok (.iload_n 2, 1) := by decide +kernel
theorem dX5_sortsOf_105 : decode cX5_sortsOf 105 = .ok (.ireturn, 1) := by decide +kernel
set_option maxRecDepth 20000 in
theorem ggX5_askOf_X5_sortsOf : GoodIn wsX5_askOf wsX5_sortsOf := gdW wa_788 (by decide +kernel) (by decide +kernel)
set_option maxRecDepth 20000 in
theorem gX5_askOf_X5_sortsOf : GoodIn wsX5_askOf (wsV RX5 114 RX5 yX5_sortsOf wsX5_sortsOf) := (gd1 wa_785 (by decide +kernel) (gd1 wa_786 (by decide +kernel) (gd1 wa_787 (by decide +kernel) (gd1 wa_5 (by decide +kernel) ggX5_askOf_X5_sortsOf))))
set_option maxRecDepth 20000 in
theorem ggX5_askOf_X5_isIn : GoodIn wsX5_askOf wsX5_isIn := gdW wa_839 (by decide +kernel) (by decide +kernel)
set_option maxRecDepth 20000 in
theorem gX5_askOf_X5_isIn : GoodIn wsX5_askOf (va_wsS RX5 144 yX5_isIn wsX5_isIn) := (gd1 wa_837 (by decide +kernel) (gd1 wa_838 (by decide +kernel) (gd1 wa_5 (by decide +kernel) ggX5_askOf_X5_isIn)))
