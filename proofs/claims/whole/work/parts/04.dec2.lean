set_option maxRecDepth 20000 in
theorem gX2_setAddition_X2_startAnew : GoodIn wsX2_setAddition (wsV RX2 43 RX2 yX2_startAnew wsX2_startAnew) := goodIn_app (goodIn_of _ (by decide +kernel)) ggX2_setAddition_X2_startAnew
theorem dX2_setAddition_0 : decode cX2_setAddition 0 = .ok (.aload_n 0, 1) := by decide +kernel
theorem dX2_setAddition_1 : decode cX2_setAddition 1 = .ok (.iload_n 1, 1) := by decide +kernel
theorem dX2_setAddition_2 : decode cX2_setAddition 2 = .ok (.putfield 37, 3) := by decide +kernel
theorem dX2_setAddition_5 : decode cX2_setAddition 5 = .ok (.aload_n 0, 1) := by decide +kernel
theorem dX2_setAddition_6 : decode cX2_setAddition 6 = .ok (.iload_n 2, 1) := by decide +kernel
theorem dX2_setAddition_7 : decode cX2_setAddition 7 = .ok (.putfield 40, 3) := by decide +kernel
theorem dX2_setAddition_10 : decode cX2_setAddition 10 = .ok (.aload_n 0, 1) := by decide +kernel
theorem dX2_setAddition_11 : decode cX2_setAddition 11 = .ok (.invokevirtual 43, 3) := by decide +kernel
theorem dX2_setAddition_14 : decode cX2_setAddition 14 = .ok (.return_, 1) := by decide +kernel
theorem dX2_timesIn_0 : decode cX2_timesIn 0 = .ok (.aload_n 0, 1) := by decide +kernel
theorem dX2_timesIn_1 : decode cX2_timesIn 1 = .ok (.getfield 24, 3) := by decide +kernel
theorem dX2_timesIn_4 : decode cX2_timesIn 4 = .ok (.iload_n 1, 1) := by decide +kernel
theorem dX2_timesIn_5 : decode cX2_timesIn 5 = .ok (.bipush 8, 2) := by decide +kernel
theorem dX2_timesIn_7 : decode cX2_timesIn 7 = .ok (.imul, 1) := by decide +kernel
theorem dX2_timesIn_8 : decode cX2_timesIn 8 = .ok (.iload_n 2, 1) := by decide +kernel
theorem dX2_timesIn_9 : decode cX2_timesIn 9 = .ok (.iadd, 1) := by decide +kernel
theorem dX2_timesIn_10 : decode cX2_timesIn 10 = .ok (.iaload, 1) := by decide +kernel
theorem dX2_timesIn_11 : decode cX2_timesIn 11 = .ok (.ireturn, 1) := by decide +kernel
theorem dX2_wordsIn_0 : decode cX2_wordsIn 0 = .ok (.aload_n 0, 1) := by decide +kernel
theorem dX2_wordsIn_1 : decode cX2_wordsIn 1 = .ok (.getfield 27, 3) := by decide +kernel
theorem dX2_wordsIn_4 : decode cX2_wordsIn 4 = .ok (.iload_n 1, 1) := by decide +kernel
theorem dX2_wordsIn_5 : decode cX2_wordsIn 5 = .ok (.iaload, 1) := by decide +kernel
theorem dX2_wordsIn_6 : decode cX2_wordsIn 6 = .ok (.ireturn, 1) := by decide +kernel
theorem dX2_rowsIn_0 : decode cX2_rowsIn 0 = .ok (.aload_n 0, 1) := by decide +kernel
theorem dX2_rowsIn_1 : decode cX2_rowsIn 1 = .ok (.getfield 30, 3) := by decide +kernel
theorem dX2_rowsIn_4 : decode cX2_rowsIn 4 = .ok (.iload_n 1, 1) := by decide +kernel
theorem dX2_rowsIn_5 : decode cX2_rowsIn 5 = .ok (.iaload, 1) := by decide +kernel
theorem dX2_rowsIn_6 : decode cX2_rowsIn 6 = .ok (.ireturn, 1) := by decide +kernel
theorem dX2_guessOf_0 : decode cX2_guessOf 0 = .ok (.aload_n 0, 1) := by decide +kernel
theorem dX2_guessOf_1 : decode cX2_guessOf 1 = .ok (.getfield 15, 3) := by decide +kernel
theorem dX2_guessOf_4 : decode cX2_guessOf 4 = .ok (.iload_n 1, 1) := by decide +kernel
theorem dX2_guessOf_5 : decode cX2_guessOf 5 = .ok (.iaload, 1) := by decide +kernel
theorem dX2_guessOf_6 : decode cX2_guessOf 6 = .ok (.ireturn, 1) := by decide +kernel
theorem dX2_wordSet_0 : decode cX2_wordSet 0 = .ok (.iconst 0, 1) := by decide +kernel
theorem dX2_wordSet_1 : decode cX2_wordSet 1 = .ok (.istore_n 2, 1) := by decide +kernel
theorem dX2_wordSet_2 : decode cX2_wordSet 2 = .ok (.iconst 0, 1) := by decide +kernel
theorem dX2_wordSet_3 : decode cX2_wordSet 3 = .ok (.istore_n 3, 1) := by decide +kernel
theorem dX2_wordSet_4 : decode cX2_wordSet 4 = .ok (.iload_n 3, 1) := by decide +kernel
theorem dX2_wordSet_5 : decode cX2_wordSet 5 = .ok (.aload_n 0, 1) := by decide +kernel
theorem dX2_wordSet_6 : decode cX2_wordSet 6 = .ok (.getfield 18, 3) := by decide +kernel
theorem dX2_wordSet_9 : decode cX2_wordSet 9 = .ok (.iload_n 1, 1) := by decide +kernel
theorem dX2_wordSet_10 : decode cX2_wordSet 10 = .ok (.iaload, 1) := by decide +kernel
theorem dX2_wordSet_11 : decode cX2_wordSet 11 = .ok (.if_icmp .ge 25, 3) := by decide +kernel
theorem dX2_wordSet_14 : decode cX2_wordSet 14 = .ok (.iload_n 2, 1) := by decide +kernel
theorem dX2_wordSet_15 : decode cX2_wordSet 15 = .ok (.iconst 1, 1) := by decide +kernel
theorem dX2_wordSet_16 : decode cX2_wordSet 16 = .ok (.aload_n 0, 1) := by decide +kernel
theorem dX2_wordSet_17 : decode cX2_wordSet 17 = .ok (.getfield 21, 3) := by decide +kernel
theorem dX2_wordSet_20 : decode cX2_wordSet 20 = .ok (.iload_n 1, 1) := by decide +kernel
theorem dX2_wordSet_21 : decode cX2_wordSet 21 = .ok (.bipush 6, 2) := by decide +kernel
theorem dX2_wordSet_23 : decode cX2_wordSet 23 = .ok (.imul, 1) := by decide +kernel
theorem dX2_wordSet_24 : decode cX2_wordSet 24 = .ok (.iload_n 3, 1) := by decide +kernel
theorem dX2_wordSet_25 : decode cX2_wordSet 25 = .ok (.iadd, 1) := by decide +kernel
theorem dX2_wordSet_26 : decode cX2_wordSet 26 = .ok (.iaload, 1) := by decide +kernel
theorem dX2_wordSet_27 : decode cX2_wordSet 27 = .ok (.ishl, 1) := by decide +kernel
theorem dX2_wordSet_28 : decode cX2_wordSet 28 = .ok (.ior, 1) := by decide +kernel
theorem dX2_wordSet_29 : decode cX2_wordSet 29 = .ok (.istore_n 2, 1) := by decide +kernel
theorem dX2_wordSet_30 : decode cX2_wordSet 30 = .ok (.iinc 3 1, 3) := by decide +kernel
theorem dX2_wordSet_33 : decode cX2_wordSet 33 = .ok (.goto (-29), 3) := by decide +kernel
theorem dX2_wordSet_36 : decode cX2_wordSet 36 = .ok (.iload_n 2, 1) := by decide +kernel
theorem dX2_wordSet_37 : decode cX2_wordSet 37 = .ok (.ireturn, 1) := by decide +kernel
set_option maxRecDepth 20000 in
theorem ggX2_shareUpper_X2_timesIn : GoodIn wsX2_shareUpper wsX2_timesIn := goodIn_r _ [7, 8, 9, 10, 11, 12, 13, 14, 15, 16, 17, 18] (by decide +kernel) (by decide +kernel)
set_option maxRecDepth 20000 in
theorem gX2_shareUpper_X2_timesIn : GoodIn wsX2_shareUpper (wsV RX2 46 RX2 yX2_timesIn wsX2_timesIn) := goodIn_app (goodIn_of _ (by decide +kernel)) ggX2_shareUpper_X2_timesIn
theorem dX2_shareUpper_0 : decode cX2_shareUpper 0 = .ok (.aload_n 0, 1) := by decide +kernel
theorem dX2_shareUpper_1 : decode cX2_shareUpper 1 = .ok (.iload_n 1, 1) := by decide +kernel
theorem dX2_shareUpper_2 : decode cX2_shareUpper 2 = .ok (.iload_n 2, 1) := by decide +kernel
theorem dX2_shareUpper_3 : decode cX2_shareUpper 3 = .ok (.invokevirtual 46, 3) := by decide +kernel
theorem dX2_shareUpper_6 : decode cX2_shareUpper 6 = .ok (.i2l, 1) := by decide +kernel
theorem dX2_shareUpper_7 : decode cX2_shareUpper 7 = .ok (.aload_n 0, 1) := by decide +kernel
theorem dX2_shareUpper_8 : decode cX2_shareUpper 8 = .ok (.getfield 40, 3) := by decide +kernel
theorem dX2_shareUpper_11 : decode cX2_shareUpper 11 = .ok (.i2l, 1) := by decide +kernel
theorem dX2_shareUpper_12 : decode cX2_shareUpper 12 = .ok (.lmul, 1) := by decide +kernel
theorem dX2_shareUpper_13 : decode cX2_shareUpper 13 = .ok (.aload_n 0, 1) := by decide +kernel
theorem dX2_shareUpper_14 : decode cX2_shareUpper 14 = .ok (.getfield 37, 3) := by decide +kernel
theorem dX2_shareUpper_17 : decode cX2_shareUpper 17 = .ok (.i2l, 1) := by decide +kernel
theorem dX2_shareUpper_18 : decode cX2_shareUpper 18 = .ok (.ladd, 1) := by decide +kernel
theorem dX2_shareUpper_19 : decode cX2_shareUpper 19 = .ok (.lreturn, 1) := by decide +kernel
theorem dX2_shareLower_0 : decode cX2_shareLower 0 = .ok (.aload_n 0, 1) := by decide +kernel
theorem dX2_shareLower_1 : decode cX2_shareLower 1 = .ok (.getfield 27, 3) := by decide +kernel
theorem dX2_shareLower_4 : decode cX2_shareLower 4 = .ok (.iload_n 1, 1) := by decide +kernel
theorem dX2_shareLower_5 : decode cX2_shareLower 5 = .ok (.iaload, 1) := by decide +kernel
theorem dX2_shareLower_6 : decode cX2_shareLower 6 = .ok (.i2l, 1) := by decide +kernel
theorem dX2_shareLower_7 : decode cX2_shareLower 7 = .ok (.aload_n 0, 1) := by decide +kernel
theorem dX2_shareLower_8 : decode cX2_shareLower 8 = .ok (.getfield 40, 3) := by decide +kernel
theorem dX2_shareLower_11 : decode cX2_shareLower 11 = .ok (.i2l, 1) := by decide +kernel
theorem dX2_shareLower_12 : decode cX2_shareLower 12 = .ok (.lmul, 1) := by decide +kernel
theorem dX2_shareLower_13 : decode cX2_shareLower 13 = .ok (.ldc2_w 50, 3) := by decide +kernel
theorem dX2_shareLower_16 : decode cX2_shareLower 16 = .ok (.aload_n 0, 1) := by decide +kernel
theorem dX2_shareLower_17 : decode cX2_shareLower 17 = .ok (.getfield 37, 3) := by decide +kernel
theorem dX2_shareLower_20 : decode cX2_shareLower 20 = .ok (.i2l, 1) := by decide +kernel
theorem dX2_shareLower_21 : decode cX2_shareLower 21 = .ok (.lmul, 1) := by decide +kernel
theorem dX2_shareLower_22 : decode cX2_shareLower 22 = .ok (.ladd, 1) := by decide +kernel
theorem dX2_shareLower_23 : decode cX2_shareLower 23 = .ok (.lreturn, 1) := by decide +kernel
set_option maxRecDepth 20000 in
theorem ggX2_weightUpper_X2_shareUpper : GoodIn wsX2_weightUpper wsX2_shareUpper := goodIn_r _ [8, 9, 10, 11, 12, 13, 7, 14, 15, 16, 17, 18, 19, 20, 21, 22, 23, 24, 25] (by decide +kernel) (by decide +kernel)
set_option maxRecDepth 20000 in
theorem gX2_weightUpper_X2_shareUpper : GoodIn wsX2_weightUpper (wsV RX2 52 RX2 yX2_shareUpper wsX2_shareUpper) := goodIn_app (goodIn_of _ (by decide +kernel)) ggX2_weightUpper_X2_shareUpper
theorem dX2_weightUpper_0 : decode cX2_weightUpper 0 = .ok (.aload_n 0, 1) := by decide +kernel
theorem dX2_weightUpper_1 : decode cX2_weightUpper 1 = .ok (.getfield 30, 3) := by decide +kernel
theorem dX2_weightUpper_4 : decode cX2_weightUpper 4 = .ok (.iload_n 2, 1) := by decide +kernel
theorem dX2_weightUpper_5 : decode cX2_weightUpper 5 = .ok (.iaload, 1) := by decide +kernel
theorem dX2_weightUpper_6 : decode cX2_weightUpper 6 = .ok (.i2l, 1) := by decide +kernel
theorem dX2_weightUpper_7 : decode cX2_weightUpper 7 = .ok (.lstore_n 3, 1) := by decide +kernel
theorem dX2_weightUpper_8 : decode cX2_weightUpper 8 = .ok (.iconst 0, 1) := by decide +kernel
theorem dX2_weightUpper_9 : decode cX2_weightUpper 9 = .ok (.istore 5, 2) := by decide +kernel
theorem dX2_weightUpper_11 : decode cX2_weightUpper 11 = .ok (.iload 5, 2) := by decide +kernel
theorem dX2_weightUpper_13 : decode cX2_weightUpper 13 = .ok (.aload_n 0, 1) := by decide +kernel
theorem dX2_weightUpper_14 : decode cX2_weightUpper 14 = .ok (.getfield 18, 3) := by decide +kernel
theorem dX2_weightUpper_17 : decode cX2_weightUpper 17 = .ok (.iload_n 1, 1) := by decide +kernel
theorem dX2_weightUpper_18 : decode cX2_weightUpper 18 = .ok (.iaload, 1) := by decide +kernel
theorem dX2_weightUpper_19 : decode cX2_weightUpper 19 = .ok (.if_icmp .ge 29, 3) := by decide +kernel
theorem dX2_weightUpper_22 : decode cX2_weightUpper 22 = .ok (.lload_n 3, 1) := by decide +kernel
theorem dX2_weightUpper_23 : decode cX2_weightUpper 23 = .ok (.aload_n 0, 1) := by decide +kernel
theorem dX2_weightUpper_24 : decode cX2_weightUpper 24 = .ok (.iload_n 2, 1) := by decide +kernel
theorem dX2_weightUpper_25 : decode cX2_weightUpper 25 = .ok (.aload_n 0, 1) := by decide +kernel
theorem dX2_weightUpper_26 : decode cX2_weightUpper 26 = .ok (.getfield 21, 3) := by decide +kernel
theorem dX2_weightUpper_29 : decode cX2_weightUpper 29 = .ok (.iload_n 1, 1) := by decide +kernel
theorem dX2_weightUpper_30 : decode cX2_weightUpper 30 = .ok (.bipush 6, 2) := by decide +kernel
theorem dX2_weightUpper_32 : decode cX2_weightUpper 32 = .ok (.imul, 1) := by decide +kernel
theorem dX2_weightUpper_33 : decode cX2_weightUpper 33 = .ok (.iload 5, 2) := by decide +kernel
theorem dX2_weightUpper_35 : decode cX2_weightUpper 35 = .ok (.iadd, 1) := by decide +kernel
theorem dX2_weightUpper_36 : decode cX2_weightUpper 36 = .ok (.iaload, 1) := by decide +kernel
theorem dX2_weightUpper_37 : decode cX2_weightUpper 37 = .ok (.invokevirtual 52, 3) := by decide +kernel
theorem dX2_weightUpper_40 : decode cX2_weightUpper 40 = .ok (.lmul, 1) := by decide +kernel
theorem dX2_weightUpper_41 : decode cX2_weightUpper 41 = .ok (.lstore_n 3, 1) := by decide +kernel
theorem dX2_weightUpper_42 : decode cX2_weightUpper 42 = .ok (.iinc 5 1, 3) := by decide +kernel
theorem dX2_weightUpper_45 : decode cX2_weightUpper 45 = .ok (.goto (-34), 3) := by decide +kernel
theorem dX2_weightUpper_48 : decode cX2_weightUpper 48 = .ok (.lload_n 3, 1) := by decide +kernel
theorem dX2_weightUpper_49 : decode cX2_weightUpper 49 = .ok (.lreturn, 1) := by decide +kernel
set_option maxRecDepth 20000 in
theorem ggX2_weightLower_X2_shareLower : GoodIn wsX2_weightLower wsX2_shareLower := goodIn_r _ [6, 7, 8, 9, 10, 11, 12, 13, 14, 15, 16, 17, 18, 19, 20] (by decide +kernel) (by decide +kernel)
set_option maxRecDepth 20000 in
theorem gX2_weightLower_X2_shareLower : GoodIn wsX2_weightLower (wsV RX2 56 RX2 yX2_shareLower wsX2_shareLower) := goodIn_app (goodIn_of _ (by decide +kernel)) ggX2_weightLower_X2_shareLower
theorem dX2_weightLower_0 : decode cX2_weightLower 0 = .ok (.lconst 1, 1) := by decide +kernel
theorem dX2_weightLower_1 : decode cX2_weightLower 1 = .ok (.lstore_n 3, 1) := by decide +kernel
theorem dX2_weightLower_2 : decode cX2_weightLower 2 = .ok (.iconst 0, 1) := by decide +kernel
theorem dX2_weightLower_3 : decode cX2_weightLower 3 = .ok (.istore 5, 2) := by decide +kernel
theorem dX2_weightLower_5 : decode cX2_weightLower 5 = .ok (.iload 5, 2) := by decide +kernel
theorem dX2_weightLower_7 : decode cX2_weightLower 7 = .ok (.aload_n 0, 1) := by decide +kernel
theorem dX2_weightLower_8 : decode cX2_weightLower 8 = .ok (.getfield 18, 3) := by decide +kernel
theorem dX2_weightLower_11 : decode cX2_weightLower 11 = .ok (.iload_n 1, 1) := by decide +kernel
theorem dX2_weightLower_12 : decode cX2_weightLower 12 = .ok (.iaload, 1) := by decide +kernel
theorem dX2_weightLower_13 : decode cX2_weightLower 13 = .ok (.if_icmp .ge 17, 3) := by decide +kernel
theorem dX2_weightLower_16 : decode cX2_weightLower 16 = .ok (.lload_n 3, 1) := by decide +kernel
theorem dX2_weightLower_17 : decode cX2_weightLower 17 = .ok (.aload_n 0, 1) := by decide +kernel
theorem dX2_weightLower_18 : decode cX2_weightLower 18 = .ok (.iload_n 2, 1) := by decide +kernel
theorem dX2_weightLower_19 : decode cX2_weightLower 19 = .ok (.invokevirtual 56, 3) := by decide +kernel
theorem dX2_weightLower_22 : decode cX2_weightLower 22 = .ok (.lmul, 1) := by decide +kernel
theorem dX2_weightLower_23 : decode cX2_weightLower 23 = .ok (.lstore_n 3, 1) := by decide +kernel
theorem dX2_weightLower_24 : decode cX2_weightLower 24 = .ok (.iinc 5 1, 3) := by decide +kernel
theorem dX2_weightLower_27 : decode cX2_weightLower 27 = .ok (.goto (-22), 3) := by decide +kernel
theorem dX2_weightLower_30 : decode cX2_weightLower 30 = .ok (.lload_n 3, 1) := by decide +kernel
theorem dX2_weightLower_31 : decode cX2_weightLower 31 = .ok (.lreturn, 1) := by decide +kernel
set_option maxRecDepth 20000 in
theorem ggX2_bestLabel_X2_weightUpper : GoodIn wsX2_bestLabel wsX2_weightUpper := goodIn_r _ [5, 6, 7, 8, 9, 10, 11, 4, 12, 13, 14, 15, 16, 17, 18, 19, 34, 35, 36, 37, 38, 39, 40, 41, 42, 43] (by decide +kernel) (by decide +kernel)
set_option maxRecDepth 20000 in
theorem gX2_bestLabel_X2_weightUpper : GoodIn wsX2_bestLabel (wsV RX2 60 RX2 yX2_weightUpper wsX2_weightUpper) := goodIn_app (goodIn_of _ (by decide +kernel)) ggX2_bestLabel_X2_weightUpper
set_option maxRecDepth 20000 in
theorem ggX2_bestLabel_X2_weightLower : GoodIn wsX2_bestLabel wsX2_weightLower := goodIn_r _ [23, 7, 24, 25, 26, 4, 27, 28, 13, 29, 14, 34, 35, 36, 37, 38, 39, 40, 41, 42, 43] (by decide +kernel) (by decide +kernel)
set_option maxRecDepth 20000 in
theorem gX2_bestLabel_X2_weightLower : GoodIn wsX2_bestLabel (wsV RX2 63 RX2 yX2_weightLower wsX2_weightLower) := goodIn_app (goodIn_of _ (by decide +kernel)) ggX2_bestLabel_X2_weightLower
set_option maxRecDepth 20000 in
theorem ggX2_bestLabel_X0_isAbove : GoodIn wsX2_bestLabel wsX0_isAbove := goodIn_r _ [33] (by decide +kernel) (by decide +kernel)
set_option maxRecDepth 20000 in
theorem gX2_bestLabel_X0_isAbove : GoodIn wsX2_bestLabel (va_wsS RX2 66 yX0_isAbove wsX0_isAbove) := goodIn_app (goodIn_of _ (by decide +kernel)) ggX2_bestLabel_X0_isAbove
theorem dX2_bestLabel_0 : decode cX2_bestLabel 0 = .ok (.iconst (-1), 1) := by decide +kernel
theorem dX2_bestLabel_1 : decode cX2_bestLabel 1 = .ok (.istore_n 2, 1) := by decide +kernel
theorem dX2_bestLabel_2 : decode cX2_bestLabel 2 = .ok (.lconst 0, 1) := by decide +kernel
theorem dX2_bestLabel_3 : decode cX2_bestLabel 3 = .ok (.lstore_n 3, 1) := by decide +kernel
theorem dX2_bestLabel_4 : decode cX2_bestLabel 4 = .ok (.lconst 1, 1) := by decide +kernel
theorem dX2_bestLabel_5 : decode cX2_bestLabel 5 = .ok (.lstore 5, 2) := by decide +kernel
theorem dX2_bestLabel_7 : decode cX2_bestLabel 7 = .ok (.iconst 0, 1) := by decide +kernel
theorem dX2_bestLabel_8 : decode cX2_bestLabel 8 = .ok (.istore 7, 2) := by decide +kernel
theorem dX2_bestLabel_10 : decode cX2_bestLabel 10 = .ok (.iload 7, 2) := by decide +kernel
theorem dX2_bestLabel_12 : decode cX2_bestLabel 12 = .ok (.iconst 4, 1) := by decide +kernel
theorem dX2_bestLabel_13 : decode cX2_bestLabel 13 = .ok (.if_icmp .ge 57, 3) := by decide +kernel
theorem dX2_bestLabel_16 : decode cX2_bestLabel 16 = .ok (.aload_n 0, 1) := by decide +kernel
theorem dX2_bestLabel_17 : decode cX2_bestLabel 17 = .ok (.iload_n 1, 1) := by decide +kernel
theorem dX2_bestLabel_18 : decode cX2_bestLabel 18 = .ok (.iload 7, 2) := by decide +kernel
theorem dX2_bestLabel_20 : decode cX2_bestLabel 20 = .ok (.invokevirtual 60, 3) := by decide +kernel
theorem dX2_bestLabel_23 : decode cX2_bestLabel 23 = .ok (.lstore 8, 2) := by decide +kernel
theorem dX2_bestLabel_25 : decode cX2_bestLabel 25 = .ok (.aload_n 0, 1) := by decide +kernel
theorem dX2_bestLabel_26 : decode cX2_bestLabel 26 = .ok (.iload_n 1, 1) := by decide +kernel
theorem dX2_bestLabel_27 : decode cX2_bestLabel 27 = .ok (.iload 7, 2) := by decide +kernel
theorem dX2_bestLabel_29 : decode cX2_bestLabel 29 = .ok (.invokevirtual 63, 3) := by decide +kernel
theorem dX2_bestLabel_32 : decode cX2_bestLabel 32 = .ok (.lstore 10, 2) := by decide +kernel
theorem dX2_bestLabel_34 : decode cX2_bestLabel 34 = .ok (.lload 8, 2) := by decide +kernel
theorem dX2_bestLabel_36 : decode cX2_bestLabel 36 = .ok (.lconst 0, 1) := by decide +kernel
theorem dX2_bestLabel_37 : decode cX2_bestLabel 37 = .ok (.lcmp, 1) := by decide +kernel
theorem dX2_bestLabel_38 : decode cX2_bestLabel 38 = .ok (.ifCond .le 26, 3) := by decide +kernel
theorem dX2_bestLabel_41 : decode cX2_bestLabel 41 = .ok (.lload 8, 2) := by decide +kernel
theorem dX2_bestLabel_43 : decode cX2_bestLabel 43 = .ok (.lload 10, 2) := by decide +kernel
theorem dX2_bestLabel_45 : decode cX2_bestLabel 45 = .ok (.lload_n 3, 1) := by decide +kernel
theorem dX2_bestLabel_46 : decode cX2_bestLabel 46 = .ok (.lload 5, 2) := by decide +kernel
theorem dX2_bestLabel_48 : decode cX2_bestLabel 48 = .ok (.invokestatic 66, 3) := by decide +kernel
theorem dX2_bestLabel_51 : decode cX2_bestLabel 51 = .ok (.ifCond .eq 13, 3) := by decide +kernel
theorem dX2_bestLabel_54 : decode cX2_bestLabel 54 = .ok (.iload 7, 2) := by decide +kernel
theorem dX2_bestLabel_56 : decode cX2_bestLabel 56 = .ok (.istore_n 2, 1) := by decide +kernel
theorem dX2_bestLabel_57 : decode cX2_bestLabel 57 = .ok (.lload 8, 2) := by decide +kernel
theorem dX2_bestLabel_59 : decode cX2_bestLabel 59 = .ok (.lstore_n 3, 1) := by decide +kernel
theorem dX2_bestLabel_60 : decode cX2_bestLabel 60 = .ok (.lload 10, 2) := by decide +kernel
theorem dX2_bestLabel_62 : decode cX2_bestLabel 62 = .ok (.lstore 5, 2) := by decide +kernel
theorem dX2_bestLabel_64 : decode cX2_bestLabel 64 = .ok (.iinc 7 1, 3) := by decide +kernel
theorem dX2_bestLabel_67 : decode cX2_bestLabel 67 = .ok (.goto (-57), 3) := by decide +kernel
theorem dX2_bestLabel_70 : decode cX2_bestLabel 70 = .ok (.iload_n 2, 1) := by decide +kernel
theorem dX2_bestLabel_71 : decode cX2_bestLabel 71 = .ok (.ireturn, 1) := by decide +kernel
set_option maxRecDepth 20000 in
theorem ggX2_guessAnew_X2_bestLabel : GoodIn wsX2_guessAnew wsX2_bestLabel := goodIn_r _ [8, 9, 10, 11, 7, 12, 13, 14, 15, 16, 17, 18, 19, 20, 21, 22, 23, 24, 25, 26, 27, 28, 29, 30, 31, 32, 33, 34, 35, 36, 37, 38, 39, 40, 52, 53, 54, 55, 56, 57, 58, 59, 60, 61] (by decide +kernel) (by decide +kernel)
set_option maxRecDepth 20000 in
theorem gX2_guessAnew_X2_bestLabel : GoodIn wsX2_guessAnew (wsV RX2 72 RX2 yX2_bestLabel wsX2_bestLabel) := goodIn_app (goodIn_of _ (by decide +kernel)) ggX2_guessAnew_X2_bestLabel
set_option maxRecDepth 20000 in
theorem ggX2_guessAnew_X2_tally : GoodIn wsX2_guessAnew wsX2_tally := goodIn_r _ [44, 26, 35, 13, 1, 2, 3, 45, 46, 47, 48, 49, 50, 7, 51, 14, 15, 52, 53, 54, 55, 56, 57, 58, 59, 60, 61] (by decide +kernel) (by decide +kernel)
set_option maxRecDepth 20000 in
theorem gX2_guessAnew_X2_tally : GoodIn wsX2_guessAnew (wsV RX2 76 RX2 yX2_tally wsX2_tally) := goodIn_app (goodIn_of _ (by decide +kernel)) ggX2_guessAnew_X2_tally
theorem dX2_guessAnew_0 : decode cX2_guessAnew 0 = .ok (.iconst 0, 1) := by decide +kernel
theorem dX2_guessAnew_1 : decode cX2_guessAnew 1 = .ok (.istore_n 1, 1) := by decide +kernel
theorem dX2_guessAnew_2 : decode cX2_guessAnew 2 = .ok (.iconst 0, 1) := by decide +kernel
theorem dX2_guessAnew_3 : decode cX2_guessAnew 3 = .ok (.istore_n 2, 1) := by decide +kernel
theorem dX2_guessAnew_4 : decode cX2_guessAnew 4 = .ok (.iload_n 2, 1) := by decide +kernel
theorem dX2_guessAnew_5 : decode cX2_guessAnew 5 = .ok (.aload_n 0, 1) := by decide +kernel
theorem dX2_guessAnew_6 : decode cX2_guessAnew 6 = .ok (.getfield 33, 3) := by decide +kernel
theorem dX2_guessAnew_9 : decode cX2_guessAnew 9 = .ok (.if_icmp .ge 52, 3) := by decide +kernel
theorem dX2_guessAnew_12 : decode cX2_guessAnew 12 = .ok (.aload_n 0, 1) := by decide +kernel
theorem dX2_guessAnew_13 : decode cX2_guessAnew 13 = .ok (.getfield 11, 3) := by decide +kernel
theorem dX2_guessAnew_16 : decode cX2_guessAnew 16 = .ok (.iload_n 2, 1) := by decide +kernel
theorem dX2_guessAnew_17 : decode cX2_guessAnew 17 = .ok (.iaload, 1) := by decide +kernel
theorem dX2_guessAnew_18 : decode cX2_guessAnew 18 = .ok (.iconst (-1), 1) := by decide +kernel
theorem dX2_guessAnew_19 : decode cX2_guessAnew 19 = .ok (.if_icmp .ne 36, 3) := by decide +kernel
theorem dX2_guessAnew_22 : decode cX2_guessAnew 22 = .ok (.aload_n 0, 1) := by decide +kernel
theorem dX2_guessAnew_23 : decode cX2_guessAnew 23 = .ok (.iload_n 2, 1) := by decide +kernel
theorem dX2_guessAnew_24 : decode cX2_guessAnew 24 = .ok (.invokevirtual 72, 3) := by decide +kernel
theorem dX2_guessAnew_27 : decode cX2_guessAnew 27 = .ok (.istore_n 3, 1) := by decide +kernel
theorem dX2_guessAnew_28 : decode cX2_guessAnew 28 = .ok (.iload_n 1, 1) := by decide +kernel
theorem dX2_guessAnew_29 : decode cX2_guessAnew 29 = .ok (.ifCond .ne 13, 3) := by decide +kernel
theorem dX2_guessAnew_32 : decode cX2_guessAnew 32 = .ok (.iload_n 3, 1) := by decide +kernel
theorem dX2_guessAnew_33 : decode cX2_guessAnew 33 = .ok (.aload_n 0, 1) := by decide +kernel
theorem dX2_guessAnew_34 : decode cX2_guessAnew 34 = .ok (.getfield 15, 3) := by decide +kernel
theorem dX2_guessAnew_37 : decode cX2_guessAnew 37 = .ok (.iload_n 2, 1) := by decide +kernel
theorem dX2_guessAnew_38 : decode cX2_guessAnew 38 = .ok (.iaload, 1) := by decide +kernel
theorem dX2_guessAnew_39 : decode cX2_guessAnew 39 = .ok (.if_icmp .eq 7, 3) := by decide +kernel
theorem dX2_guessAnew_42 : decode cX2_guessAnew 42 = .ok (.iconst 1, 1) := by decide +kernel
theorem dX2_guessAnew_43 : decode cX2_guessAnew 43 = .ok (.goto 4, 3) := by decide +kernel
theorem dX2_guessAnew_46 : decode cX2_guessAnew 46 = .ok (.iconst 0, 1) := by decide +kernel
theorem dX2_guessAnew_47 : decode cX2_guessAnew 47 = .ok (.istore_n 1, 1) := by decide +kernel
theorem dX2_guessAnew_48 : decode cX2_guessAnew 48 = .ok (.aload_n 0, 1) := by decide +kernel
theorem dX2_guessAnew_49 : decode cX2_guessAnew 49 = .ok (.getfield 15, 3) := by decide +kernel
theorem dX2_guessAnew_52 : decode cX2_guessAnew 52 = .ok (.iload_n 2, 1) := by decide +kernel
theorem dX2_guessAnew_53 : decode cX2_guessAnew 53 = .ok (.iload_n 3, 1) := by decide +kernel
theorem dX2_guessAnew_54 : decode cX2_guessAnew 54 = .ok (.iastore, 1) := by decide +kernel
theorem dX2_guessAnew_55 : decode cX2_guessAnew 55 = .ok (.iinc 2 1, 3) := by decide +kernel
theorem dX2_guessAnew_58 : decode cX2_guessAnew 58 = .ok (.goto (-54), 3) := by decide +kernel
theorem dX2_guessAnew_61 : decode cX2_guessAnew 61 = .ok (.aload_n 0, 1) := by decide +kernel
theorem dX2_guessAnew_62 : decode cX2_guessAnew 62 = .ok (.invokevirtual 76, 3) := by decide +kernel
theorem dX2_guessAnew_65 : decode cX2_guessAnew 65 = .ok (.iload_n 1, 1) := by decide +kernel
theorem dX2_guessAnew_66 : decode cX2_guessAnew 66 = .ok (.ireturn, 1) := by decide +kernel
set_option maxRecDepth 20000 in
theorem ggX2_startAnew_X5_setAll : GoodIn wsX2_startAnew wsX5_setAll := goodIn_r _ [4] (by decide +kernel) (by decide +kernel)
set_option maxRecDepth 20000 in
theorem gX2_startAnew_X5_setAll_n79 : GoodIn wsX2_startAnew (wsX5_setAll) := ggX2_startAnew_X5_setAll
set_option maxRecDepth 20000 in
theorem ggX2_startAnew_X2_tally : GoodIn wsX2_startAnew wsX2_tally := goodIn_r _ [9, 10, 11, 12, 13, 14, 1, 2, 3, 4, 15, 16, 17, 8, 18, 19, 20, 21, 22, 23, 24, 25, 26, 27, 28, 29, 30] (by decide +kernel) (by decide +kernel)
set_option maxRecDepth 20000 in
theorem gX2_startAnew_X2_tally : GoodIn wsX2_startAnew (wsV RX2 76 RX2 yX2_tally wsX2_tally) := goodIn_app (goodIn_of _ (by decide +kernel)) ggX2_startAnew_X2_tally
theorem dX2_startAnew_0 : decode cX2_startAnew 0 = .ok (.aload_n 0, 1) := by decide +kernel
theorem dX2_startAnew_1 : decode cX2_startAnew 1 = .ok (.getfield 15, 3) := by decide +kernel
theorem dX2_startAnew_4 : decode cX2_startAnew 4 = .ok (.iconst (-1), 1) := by decide +kernel
theorem dX2_startAnew_5 : decode cX2_startAnew 5 = .ok (.invokestatic 79, 3) := by decide +kernel
theorem dX2_startAnew_8 : decode cX2_startAnew 8 = .ok (.aload_n 0, 1) := by decide +kernel
theorem dX2_startAnew_9 : decode cX2_startAnew 9 = .ok (.invokevirtual 76, 3) := by decide +kernel
theorem dX2_startAnew_12 : decode cX2_startAnew 12 = .ok (.return_, 1) := by decide +kernel
set_option maxRecDepth 20000 in
theorem ggX2_tally_X5_setAll : GoodIn wsX2_tally wsX5_setAll := goodIn_r _ [9] (by decide +kernel) (by decide +kernel)
set_option maxRecDepth 20000 in
theorem gX2_tally_X5_setAll_n79 : GoodIn wsX2_tally (wsX5_setAll) := ggX2_tally_X5_setAll
set_option maxRecDepth 20000 in
theorem ggX2_tally_X2_tallyRow : GoodIn wsX2_tally wsX2_tallyRow := goodIn_r _ [14, 3, 2, 15, 1, 16, 17, 18, 19, 20, 21, 22, 23, 24, 25, 26] (by decide +kernel) (by decide +kernel)
set_option maxRecDepth 20000 in
theorem gX2_tally_X2_tallyRow : GoodIn wsX2_tally (wsV RX2 83 RX2 yX2_tallyRow wsX2_tallyRow) := goodIn_app (goodIn_of _ (by decide +kernel)) ggX2_tally_X2_tallyRow
theorem dX2_tally_0 : decode cX2_tally 0 = .ok (.aload_n 0, 1) := by decide +kernel
theorem dX2_tally_1 : decode cX2_tally 1 = .ok (.getfield 24, 3) := by decide +kernel
theorem dX2_tally_4 : decode cX2_tally 4 = .ok (.iconst 0, 1) := by decide +kernel
theorem dX2_tally_5 : decode cX2_tally 5 = .ok (.invokestatic 79, 3) := by decide +kernel
theorem dX2_tally_8 : decode cX2_tally 8 = .ok (.aload_n 0, 1) := by decide +kernel
theorem dX2_tally_9 : decode cX2_tally 9 = .ok (.getfield 27, 3) := by decide +kernel
theorem dX2_tally_12 : decode cX2_tally 12 = .ok (.iconst 0, 1) := by decide +kernel
theorem dX2_tally_13 : decode cX2_tally 13 = .ok (.invokestatic 79, 3) := by decide +kernel
theorem dX2_tally_16 : decode cX2_tally 16 = .ok (.aload_n 0, 1) := by decide +kernel
theorem dX2_tally_17 : decode cX2_tally 17 = .ok (.getfield 30, 3) := by decide +kernel
theorem dX2_tally_20 : decode cX2_tally 20 = .ok (.iconst 0, 1) := by decide +kernel
theorem dX2_tally_21 : decode cX2_tally 21 = .ok (.invokestatic 79, 3) := by decide +kernel
theorem dX2_tally_24 : decode cX2_tally 24 = .ok (.iconst 0, 1) := by decide +kernel
theorem dX2_tally_25 : decode cX2_tally 25 = .ok (.istore_n 1, 1) := by decide +kernel
theorem dX2_tally_26 : decode cX2_tally 26 = .ok (.iload_n 1, 1) := by decide +kernel
theorem dX2_tally_27 : decode cX2_tally 27 = .ok (.aload_n 0, 1) := by decide +kernel
theorem dX2_tally_28 : decode cX2_tally 28 = .ok (.getfield 33, 3) := by decide +kernel
theorem dX2_tally_31 : decode cX2_tally 31 = .ok (.if_icmp .ge 46, 3) := by decide +kernel
theorem dX2_tally_34 : decode cX2_tally 34 = .ok (.aload_n 0, 1) := by decide +kernel
theorem dX2_tally_35 : decode cX2_tally 35 = .ok (.getfield 11, 3) := by decide +kernel
theorem dX2_tally_38 : decode cX2_tally 38 = .ok (.iload_n 1, 1) := by decide +kernel
theorem dX2_tally_39 : decode cX2_tally 39 = .ok (.iaload, 1) := by decide +kernel
theorem dX2_tally_40 : decode cX2_tally 40 = .ok (.iconst (-1), 1) := by decide +kernel
theorem dX2_tally_41 : decode cX2_tally 41 = .ok (.if_icmp .ne 12, 3) := by decide +kernel
theorem dX2_tally_44 : decode cX2_tally 44 = .ok (.aload_n 0, 1) := by decide +kernel
theorem dX2_tally_45 : decode cX2_tally 45 = .ok (.getfield 15, 3) := by decide +kernel
theorem dX2_tally_48 : decode cX2_tally 48 = .ok (.iload_n 1, 1) := by decide +kernel
theorem dX2_tally_49 : decode cX2_tally 49 = .ok (.iaload, 1) := by decide +kernel
theorem dX2_tally_50 : decode cX2_tally 50 = .ok (.goto 9, 3) := by decide +kernel
theorem dX2_tally_53 : decode cX2_tally 53 = .ok (.aload_n 0, 1) := by decide +kernel
theorem dX2_tally_54 : decode cX2_tally 54 = .ok (.getfield 11, 3) := by decide +kernel
theorem dX2_tally_57 : decode cX2_tally 57 = .ok (.iload_n 1, 1) := by decide +kernel
theorem dX2_tally_58 : decode cX2_tally 58 = .ok (.iaload, 1) := by decide +kernel
theorem dX2_tally_59 : decode cX2_tally 59 = .ok (.istore_n 2, 1) := by decide +kernel
theorem dX2_tally_60 : decode cX2_tally 60 = .ok (.iload_n 2, 1) := by decide +kernel
theorem dX2_tally_61 : decode cX2_tally 61 = .ok (.iconst (-1), 1) := by decide +kernel
theorem dX2_tally_62 : decode cX2_tally 62 = .ok (.if_icmp .eq 9, 3) := by decide +kernel
theorem dX2_tally_65 : decode cX2_tally 65 = .ok (.aload_n 0, 1) := by decide +kernel
theorem dX2_tally_66 : decode cX2_tally 66 = .ok (.iload_n 1, 1) := by decide +kernel
theorem dX2_tally_67 : decode cX2_tally 67 = .ok (.iload_n 2, 1) := by decide +kernel
theorem dX2_tally_68 : decode cX2_tally 68 = .ok (.invokevirtual 83, 3) := by decide +kernel
theorem dX2_tally_71 : decode cX2_tally 71 = .ok (.iinc 1 1, 3) := by decide +kernel
theorem dX2_tally_74 : decode cX2_tally 74 = .ok (.goto (-48), 3) := by decide +kernel
theorem dX2_tally_77 : decode cX2_tally 77 = .ok (.return_, 1) := by decide +kernel
theorem dX2_tallyRow_0 : decode cX2_tallyRow 0 = .ok (.aload_n 0, 1) := by decide +kernel
theorem dX2_tallyRow_1 : decode cX2_tallyRow 1 = .ok (.getfield 30, 3) := by decide +kernel
theorem dX2_tallyRow_4 : decode cX2_tallyRow 4 = .ok (.iload_n 2, 1) := by decide +kernel
theorem dX2_tallyRow_5 : decode cX2_tallyRow 5 = .ok (.dup2, 1) := by decide +kernel
theorem dX2_tallyRow_6 : decode cX2_tallyRow 6 = .ok (.iaload, 1) := by decide +kernel
theorem dX2_tallyRow_7 : decode cX2_tallyRow 7 = .ok (.iconst 1, 1) := by decide +kernel
theorem dX2_tallyRow_8 : decode cX2_tallyRow 8 = .ok (.iadd, 1) := by decide +kernel
theorem dX2_tallyRow_9 : decode cX2_tallyRow 9 = .ok (.iastore, 1) := by decide +kernel
theorem dX2_tallyRow_10 : decode cX2_tallyRow 10 = .ok (.aload_n 0, 1) := by decide +kernel
theorem dX2_tallyRow_11 : decode cX2_tallyRow 11 = .ok (.getfield 27, 3) := by decide +kernel
theorem dX2_tallyRow_14 : decode cX2_tallyRow 14 = .ok (.iload_n 2, 1) := by decide +kernel
theorem dX2_tallyRow_15 : decode cX2_tallyRow 15 = .ok (.dup2, 1) := by decide +kernel
theorem dX2_tallyRow_16 : decode cX2_tallyRow 16 = .ok (.iaload, 1) := by decide +kernel
theorem dX2_tallyRow_17 : decode cX2_tallyRow 17 = .ok (.aload_n 0, 1) := by decide +kernel
theorem dX2_tallyRow_18 : decode cX2_tallyRow 18 = .ok (.getfield 18, 3) := by decide +kernel
theorem dX2_tallyRow_21 : decode cX2_tallyRow 21 = .ok (.iload_n 1, 1) := by decide +kernel
theorem dX2_tallyRow_22 : decode cX2_tallyRow 22 = .ok (.iaload, 1) := by decide +kernel
theorem dX2_tallyRow_23 : decode cX2_tallyRow 23 = .ok (.iadd, 1) := by decide +kernel
theorem dX2_tallyRow_24 : decode cX2_tallyRow 24 = .ok (.iastore, 1) := by decide +kernel
theorem dX2_tallyRow_25 : decode cX2_tallyRow 25 = .ok (.iconst 0, 1) := by decide +kernel
theorem dX2_tallyRow_26 : decode cX2_tallyRow 26 = .ok (.istore_n 3, 1) := by decide +kernel
theorem dX2_tallyRow_27 : decode cX2_tallyRow 27 = .ok (.iload_n 3, 1) := by decide +kernel
theorem dX2_tallyRow_28 : decode cX2_tallyRow 28 = .ok (.aload_n 0, 1) := by decide +kernel
theorem dX2_tallyRow_29 : decode cX2_tallyRow 29 = .ok (.getfield 18, 3) := by decide +kernel
theorem dX2_tallyRow_32 : decode cX2_tallyRow 32 = .ok (.iload_n 1, 1) := by decide +kernel
theorem dX2_tallyRow_33 : decode cX2_tallyRow 33 = .ok (.iaload, 1) := by decide +kernel
theorem dX2_tallyRow_34 : decode cX2_tallyRow 34 = .ok (.if_icmp .ge 34, 3) := by decide +kernel
theorem dX2_tallyRow_37 : decode cX2_tallyRow 37 = .ok (.aload_n 0, 1) := by decide +kernel
theorem dX2_tallyRow_38 : decode cX2_tallyRow 38 = .ok (.getfield 24, 3) := by decide +kernel
theorem dX2_tallyRow_41 : decode cX2_tallyRow 41 = .ok (.iload_n 2, 1) := by decide +kernel
theorem dX2_tallyRow_42 : decode cX2_tallyRow 42 = .ok (.bipush 8, 2) := by decide +kernel
theorem dX2_tallyRow_44 : decode cX2_tallyRow 44 = .ok (.imul, 1) := by decide +kernel
theorem dX2_tallyRow_45 : decode cX2_tallyRow 45 = .ok (.aload_n 0, 1) := by decide +kernel
theorem dX2_tallyRow_46 : decode cX2_tallyRow 46 = .ok (.getfield 21, 3) := by decide +kernel
theorem dX2_tallyRow_49 : decode cX2_tallyRow 49 = .ok (.iload_n 1, 1) := by decide +kernel
theorem dX2_tallyRow_50 : decode cX2_tallyRow 50 = .ok (.bipush 6, 2) := by decide +kernel
theorem dX2_tallyRow_52 : decode cX2_tallyRow 52 = .ok (.imul, 1) := by decide +kernel
theorem dX2_tallyRow_53 : decode cX2_tallyRow 53 = .ok (.iload_n 3, 1) := by decide +kernel
theorem dX2_tallyRow_54 : decode cX2_tallyRow 54 = .ok (.iadd, 1) := by decide +kernel
theorem dX2_tallyRow_55 : decode cX2_tallyRow 55 = .ok (.iaload, 1) := by decide +kernel
theorem dX2_tallyRow_56 : decode cX2_tallyRow 56 = .ok (.iadd, 1) := by decide +kernel
theorem dX2_tallyRow_57 : decode cX2_tallyRow 57 = .ok (.dup2, 1) := by decide +kernel
theorem dX2_tallyRow_58 : decode cX2_tallyRow 58 = .ok (.iaload, 1) := by decide +kernel
theorem dX2_tallyRow_59 : decode cX2_tallyRow 59 = .ok (.iconst 1, 1) := by decide +kernel
theorem dX2_tallyRow_60 : decode cX2_tallyRow 60 = .ok (.iadd, 1) := by decide +kernel
theorem dX2_tallyRow_61 : decode cX2_tallyRow 61 = .ok (.iastore, 1) := by decide +kernel
theorem dX2_tallyRow_62 : decode cX2_tallyRow 62 = .ok (.iinc 3 1, 3) := by decide +kernel
theorem dX2_tallyRow_65 : decode cX2_tallyRow 65 = .ok (.goto (-38), 3) := by decide +kernel
theorem dX2_tallyRow_68 : decode cX2_tallyRow 68 = .ok (.return_, 1) := by decide +kernel
theorem dX3_init_0 : decode cX3_init 0 = .ok (.aload_n 0, 1) := by decide +kernel
theorem dX3_init_1 : decode cX3_init 1 = .ok (.invokespecial 3, 3) := by decide +kernel
theorem dX3_init_4 : decode cX3_init 4 = .ok (.aload_n 0, 1) := by decide +kernel
theorem dX3_init_5 : decode cX3_init 5 = .ok (.bipush 60, 2) := by decide +kernel
theorem dX3_init_7 : decode cX3_init 7 = .ok (.newarray .int, 2) := by decide +kernel
theorem dX3_init_9 : decode cX3_init 9 = .ok (.putfield 11, 3) := by decide +kernel
theorem dX3_init_12 : decode cX3_init 12 = .ok (.aload_n 0, 1) := by decide +kernel
theorem dX3_init_13 : decode cX3_init 13 = .ok (.bipush 8, 2) := by decide +kernel
theorem dX3_init_15 : decode cX3_init 15 = .ok (.newarray .int, 2) := by decide +kernel
theorem dX3_init_17 : decode cX3_init 17 = .ok (.putfield 15, 3) := by decide +kernel
theorem dX3_init_20 : decode cX3_init 20 = .ok (.aload_n 0, 1) := by decide +kernel
theorem dX3_init_21 : decode cX3_init 21 = .ok (.bipush 8, 2) := by decide +kernel
theorem dX3_init_23 : decode cX3_init 23 = .ok (.newarray .long, 2) := by decide +kernel
theorem dX3_init_25 : decode cX3_init 25 = .ok (.putfield 18, 3) := by decide +kernel
theorem dX3_init_28 : decode cX3_init 28 = .ok (.aload_n 0, 1) := by decide +kernel
theorem dX3_init_29 : decode cX3_init 29 = .ok (.lconst 1, 1) := by decide +kernel
theorem dX3_init_30 : decode cX3_init 30 = .ok (.putfield 22, 3) := by decide +kernel
theorem dX3_init_33 : decode cX3_init 33 = .ok (.aload_n 0, 1) := by decide +kernel
theorem dX3_init_34 : decode cX3_init 34 = .ok (.iconst 0, 1) := by decide +kernel
theorem dX3_init_35 : decode cX3_init 35 = .ok (.putfield 26, 3) := by decide +kernel
theorem dX3_init_38 : decode cX3_init 38 = .ok (.return_, 1) := by decide +kernel
theorem dX3_isFull_0 : decode cX3_isFull 0 = .ok (.aload_n 0, 1) := by decide +kernel
theorem dX3_isFull_1 : decode cX3_isFull 1 = .ok (.getfield 26, 3) := by decide +kernel
theorem dX3_isFull_4 : decode cX3_isFull 4 = .ok (.bipush 60, 2) := by decide +kernel
theorem dX3_isFull_6 : decode cX3_isFull 6 = .ok (.if_icmp .lt 7, 3) := by decide +kernel
theorem dX3_isFull_9 : decode cX3_isFull 9 = .ok (.iconst 1, 1) := by decide +kernel
theorem dX3_isFull_10 : decode cX3_isFull 10 = .ok (.goto 4, 3) := by decide +kernel
theorem dX3_isFull_13 : decode cX3_isFull 13 = .ok (.iconst 0, 1) := by decide +kernel
theorem dX3_isFull_14 : decode cX3_isFull 14 = .ok (.ireturn, 1) := by decide +kernel
theorem dX3_length_0 : decode cX3_length 0 = .ok (.aload_n 0, 1) := by decide +kernel
theorem dX3_length_1 : decode cX3_length 1 = .ok (.getfield 26, 3) := by decide +kernel
theorem dX3_length_4 : decode cX3_length 4 = .ok (.ireturn, 1) := by decide +kernel
theorem dX3_append_0 : decode cX3_append 0 = .ok (.aload_n 0, 1) := by decide +kernel
theorem dX3_append_1 : decode cX3_append 1 = .ok (.getfield 11, 3) := by decide +kernel
theorem dX3_append_4 : decode cX3_append 4 = .ok (.aload_n 0, 1) := by decide +kernel
theorem dX3_append_5 : decode cX3_append 5 = .ok (.getfield 26, 3) := by decide +kernel
theorem dX3_append_8 : decode cX3_append 8 = .ok (.iload_n 1, 1) := by decide +kernel
theorem dX3_append_9 : decode cX3_append 9 = .ok (.iastore, 1) := by decide +kernel
theorem dX3_append_10 : decode cX3_append 10 = .ok (.aload_n 0, 1) := by decide +kernel
theorem dX3_append_11 : decode cX3_append 11 = .ok (.dup, 1) := by decide +kernel
theorem dX3_append_12 : decode cX3_append 12 = .ok (.getfield 26, 3) := by decide +kernel
theorem dX3_append_15 : decode cX3_append 15 = .ok (.iconst 1, 1) := by decide +kernel
theorem dX3_append_16 : decode cX3_append 16 = .ok (.iadd, 1) := by decide +kernel
theorem dX3_append_17 : decode cX3_append 17 = .ok (.putfield 26, 3) := by decide +kernel
theorem dX3_append_20 : decode cX3_append 20 = .ok (.aload_n 0, 1) := by decide +kernel
theorem dX3_append_21 : decode cX3_append 21 = .ok (.getfield 26, 3) := by decide +kernel
theorem dX3_append_24 : decode cX3_append 24 = .ok (.ireturn, 1) := by decide +kernel
theorem dX3_upperOf_0 : decode cX3_upperOf 0 = .ok (.aload_n 0, 1) := by decide +kernel
theorem dX3_upperOf_1 : decode cX3_upperOf 1 = .ok (.getfield 18, 3) := by decide +kernel
theorem dX3_upperOf_4 : decode cX3_upperOf 4 = .ok (.iload_n 1, 1) := by decide +kernel
theorem dX3_upperOf_5 : decode cX3_upperOf 5 = .ok (.laload, 1) := by decide +kernel
theorem dX3_upperOf_6 : decode cX3_upperOf 6 = .ok (.lreturn, 1) := by decide +kernel
theorem dX3_lowerOfAll_0 : decode cX3_lowerOfAll 0 = .ok (.aload_n 0, 1) := by decide +kernel
theorem dX3_lowerOfAll_1 : decode cX3_lowerOfAll 1 = .ok (.getfield 22, 3) := by decide +kernel
theorem dX3_lowerOfAll_4 : decode cX3_lowerOfAll 4 = .ok (.lreturn, 1) := by decide +kernel
theorem dX3_greatest_0 : decode cX3_greatest 0 = .ok (.iconst 0, 1) := by decide +kernel
theorem dX3_greatest_1 : decode cX3_greatest 1 = .ok (.istore_n 1, 1) := by decide +kernel
theorem dX3_greatest_2 : decode cX3_greatest 2 = .ok (.iconst 1, 1) := by decide +kernel
theorem dX3_greatest_3 : decode cX3_greatest 3 = .ok (.istore_n 2, 1) := by decide +kernel
theorem dX3_greatest_4 : decode cX3_greatest 4 = .ok (.iload_n 2, 1) := by decide +kernel
theorem dX3_greatest_5 : decode cX3_greatest 5 = .ok (.bipush 8, 2) := by decide +kernel
theorem dX3_greatest_7 : decode cX3_greatest 7 = .ok (.if_icmp .ge 27, 3) := by decide +kernel
theorem dX3_greatest_10 : decode cX3_greatest 10 = .ok (.aload_n 0, 1) := by decide +kernel
theorem dX3_greatest_11 : decode cX3_greatest 11 = .ok (.getfield 18, 3) := by decide +kernel
theorem dX3_greatest_14 : decode cX3_greatest 14 = .ok (.iload_n 2, 1) := by decide +kernel
theorem dX3_greatest_15 : decode cX3_greatest 15 = .ok (.laload, 1) := by decide +kernel
theorem dX3_greatest_16 : decode cX3_greatest 16 = .ok (.aload_n 0, 1) := by decide +kernel
theorem dX3_greatest_17 : decode cX3_greatest 17 = .ok (.getfield 18, 3) := by decide +kernel
theorem dX3_greatest_20 : decode cX3_greatest 20 = .ok (.iload_n 1, 1) := by decide +kernel
theorem dX3_greatest_21 : decode cX3_greatest 21 = .ok (.laload, 1) := by decide +kernel
theorem dX3_greatest_22 : decode cX3_greatest 22 = .ok (.lcmp, 1) := by decide +kernel
theorem dX3_greatest_23 : decode cX3_greatest 23 = .ok (.ifCond .le 5, 3) := by decide +kernel
theorem dX3_greatest_26 : decode cX3_greatest 26 = .ok (.iload_n 2, 1) := by decide +kernel
theorem dX3_greatest_27 : decode cX3_greatest 27 = .ok (.istore_n 1, 1) := by decide +kernel
theorem dX3_greatest_28 : decode cX3_greatest 28 = .ok (.iinc 2 1, 3) := by decide +kernel
theorem dX3_greatest_31 : decode cX3_greatest 31 = .ok (.goto (-27), 3) := by decide +kernel
theorem dX3_greatest_34 : decode cX3_greatest 34 = .ok (.iload_n 1, 1) := by decide +kernel
theorem dX3_greatest_35 : decode cX3_greatest 35 = .ok (.ireturn, 1) := by decide +kernel
set_option maxRecDepth 20000 in
theorem ggX3_fill_X3_fillFirst : GoodIn wsX3_fill wsX3_fillFirst := goodIn_r _ [5, 6, 7, 8, 9, 31, 32, 33, 34, 35] (by decide +kernel) (by decide +kernel)
set_option maxRecDepth 20000 in
theorem gX3_fill_X3_fillFirst : GoodIn wsX3_fill (wsV RX3 30 RX3 yX3_fillFirst wsX3_fillFirst) := goodIn_app (goodIn_of _ (by decide +kernel)) ggX3_fill_X3_fillFirst
set_option maxRecDepth 20000 in
theorem ggX3_fill_X3_countBehind : GoodIn wsX3_fill wsX3_countBehind := goodIn_r _ [13, 14, 7, 8, 15, 16, 17, 31, 32, 33, 34, 35] (by decide +kernel) (by decide +kernel)
set_option maxRecDepth 20000 in
theorem gX3_fill_X3_countBehind : GoodIn wsX3_fill (wsV RX3 33 RX3 yX3_countBehind wsX3_countBehind) := goodIn_app (goodIn_of _ (by decide +kernel)) ggX3_fill_X3_countBehind
set_option maxRecDepth 20000 in
theorem ggX3_fill_X3_putAbove : GoodIn wsX3_fill wsX3_putAbove := goodIn_r _ [21, 14, 6, 22, 23, 24, 4, 25, 9, 26, 27, 28, 29, 30, 31, 32, 33, 34, 35] (by decide +kernel) (by decide +kernel)
set_option maxRecDepth 20000 in
theorem gX3_fill_X3_putAbove : GoodIn wsX3_fill (wsV RX3 37 RX3 yX3_putAbove wsX3_putAbove) := goodIn_app (goodIn_of _ (by decide +kernel)) ggX3_fill_X3_putAbove
theorem dX3_fill_0 : decode cX3_fill 0 = .ok (.aload_n 0, 1) := by decide +kernel
theorem dX3_fill_1 : decode cX3_fill 1 = .ok (.invokevirtual 30, 3) := by decide +kernel
theorem dX3_fill_4 : decode cX3_fill 4 = .ok (.iload_n 2, 1) := by decide +kernel
theorem dX3_fill_5 : decode cX3_fill 5 = .ok (.iconst (-1), 1) := by decide +kernel
theorem dX3_fill_6 : decode cX3_fill 6 = .ok (.if_icmp .eq 13, 3) := by decide +kernel
theorem dX3_fill_9 : decode cX3_fill 9 = .ok (.aload_n 0, 1) := by decide +kernel
theorem dX3_fill_10 : decode cX3_fill 10 = .ok (.iconst (-1), 1) := by decide +kernel
theorem dX3_fill_11 : decode cX3_fill 11 = .ok (.iload_n 2, 1) := by decide +kernel
theorem dX3_fill_12 : decode cX3_fill 12 = .ok (.invokevirtual 33, 3) := by decide +kernel
theorem dX3_fill_15 : decode cX3_fill 15 = .ok (.aload_n 0, 1) := by decide +kernel
theorem dX3_fill_16 : decode cX3_fill 16 = .ok (.invokevirtual 37, 3) := by decide +kernel
theorem dX3_fill_19 : decode cX3_fill 19 = .ok (.iload_n 1, 1) := by decide +kernel
theorem dX3_fill_20 : decode cX3_fill 20 = .ok (.iconst (-1), 1) := by decide +kernel
theorem dX3_fill_21 : decode cX3_fill 21 = .ok (.if_icmp .eq 13, 3) := by decide +kernel
theorem dX3_fill_24 : decode cX3_fill 24 = .ok (.aload_n 0, 1) := by decide +kernel
theorem dX3_fill_25 : decode cX3_fill 25 = .ok (.iload_n 1, 1) := by decide +kernel
theorem dX3_fill_26 : decode cX3_fill 26 = .ok (.iload_n 2, 1) := by decide +kernel
theorem dX3_fill_27 : decode cX3_fill 27 = .ok (.invokevirtual 33, 3) := by decide +kernel
theorem dX3_fill_30 : decode cX3_fill 30 = .ok (.aload_n 0, 1) := by decide +kernel
theorem dX3_fill_31 : decode cX3_fill 31 = .ok (.invokevirtual 37, 3) := by decide +kernel
theorem dX3_fill_34 : decode cX3_fill 34 = .ok (.return_, 1) := by decide +kernel
theorem dX3_fillFirst_0 : decode cX3_fillFirst 0 = .ok (.iconst 0, 1) := by decide +kernel
theorem dX3_fillFirst_1 : decode cX3_fillFirst 1 = .ok (.istore_n 1, 1) := by decide +kernel
theorem dX3_fillFirst_2 : decode cX3_fillFirst 2 = .ok (.iload_n 1, 1) := by decide +kernel
theorem dX3_fillFirst_3 : decode cX3_fillFirst 3 = .ok (.bipush 8, 2) := by decide +kernel
theorem dX3_fillFirst_5 : decode cX3_fillFirst 5 = .ok (.if_icmp .ge 16, 3) := by decide +kernel
theorem dX3_fillFirst_8 : decode cX3_fillFirst 8 = .ok (.aload_n 0, 1) := by decide +kernel
theorem dX3_fillFirst_9 : decode cX3_fillFirst 9 = .ok (.getfield 18, 3) := by decide +kernel
theorem dX3_fillFirst_12 : decode cX3_fillFirst 12 = .ok (.iload_n 1, 1) := by decide +kernel
theorem dX3_fillFirst_13 : decode cX3_fillFirst 13 = .ok (.lconst 1, 1) := by decide +kernel
theorem dX3_fillFirst_14 : decode cX3_fillFirst 14 = .ok (.lastore, 1) := by decide +kernel
theorem dX3_fillFirst_15 : decode cX3_fillFirst 15 = .ok (.iinc 1 1, 3) := by decide +kernel
theorem dX3_fillFirst_18 : decode cX3_fillFirst 18 = .ok (.goto (-16), 3) := by decide +kernel
theorem dX3_fillFirst_21 : decode cX3_fillFirst 21 = .ok (.iconst 0, 1) := by decide +kernel
theorem dX3_fillFirst_22 : decode cX3_fillFirst 22 = .ok (.istore_n 1, 1) := by decide +kernel
theorem dX3_fillFirst_23 : decode cX3_fillFirst 23 = .ok (.iload_n 1, 1) := by decide +kernel
theorem dX3_fillFirst_24 : decode cX3_fillFirst 24 = .ok (.aload_n 0, 1) := by decide +kernel
theorem dX3_fillFirst_25 : decode cX3_fillFirst 25 = .ok (.getfield 26, 3) := by decide +kernel
theorem dX3_fillFirst_28 : decode cX3_fillFirst 28 = .ok (.if_icmp .ge 24, 3) := by decide +kernel
theorem dX3_fillFirst_31 : decode cX3_fillFirst 31 = .ok (.aload_n 0, 1) := by decide +kernel
theorem dX3_fillFirst_32 : decode cX3_fillFirst 32 = .ok (.getfield 18, 3) := by decide +kernel
theorem dX3_fillFirst_35 : decode cX3_fillFirst 35 = .ok (.aload_n 0, 1) := by decide +kernel
theorem dX3_fillFirst_36 : decode cX3_fillFirst 36 = .ok (.getfield 11, 3) := by decide +kernel
theorem dX3_fillFirst_39 : decode cX3_fillFirst 39 = .ok (.iload_n 1, 1) := by decide +kernel
theorem dX3_fillFirst_40 : decode cX3_fillFirst 40 = .ok (.iaload, 1) := by decide +kernel
theorem dX3_fillFirst_41 : decode cX3_fillFirst 41 = .ok (.dup2, 1) := by decide +kernel
theorem dX3_fillFirst_42 : decode cX3_fillFirst 42 = .ok (.laload, 1) := by decide +kernel
theorem dX3_fillFirst_43 : decode cX3_fillFirst 43 = .ok (.lconst 1, 1) := by decide +kernel
theorem dX3_fillFirst_44 : decode cX3_fillFirst 44 = .ok (.ladd, 1) := by decide +kernel
theorem dX3_fillFirst_45 : decode cX3_fillFirst 45 = .ok (.lastore, 1) := by decide +kernel
theorem dX3_fillFirst_46 : decode cX3_fillFirst 46 = .ok (.iinc 1 1, 3) := by decide +kernel
theorem dX3_fillFirst_49 : decode cX3_fillFirst 49 = .ok (.goto (-26), 3) := by decide +kernel
theorem dX3_fillFirst_52 : decode cX3_fillFirst 52 = .ok (.aload_n 0, 1) := by decide +kernel
theorem dX3_fillFirst_53 : decode cX3_fillFirst 53 = .ok (.aload_n 0, 1) := by decide +kernel
theorem dX3_fillFirst_54 : decode cX3_fillFirst 54 = .ok (.getfield 26, 3) := by decide +kernel
theorem dX3_fillFirst_57 : decode cX3_fillFirst 57 = .ok (.bipush 8, 2) := by decide +kernel
theorem dX3_fillFirst_59 : decode cX3_fillFirst 59 = .ok (.iadd, 1) := by decide +kernel
theorem dX3_fillFirst_60 : decode cX3_fillFirst 60 = .ok (.i2l, 1) := by decide +kernel
theorem dX3_fillFirst_61 : decode cX3_fillFirst 61 = .ok (.putfield 22, 3) := by decide +kernel
theorem dX3_fillFirst_64 : decode cX3_fillFirst 64 = .ok (.return_, 1) := by decide +kernel
set_option maxRecDepth 20000 in
theorem ggX3_countBehind_X5_setAll : GoodIn wsX3_countBehind wsX5_setAll := goodIn_r _ [6] (by decide +kernel) (by decide +kernel)
set_option maxRecDepth 20000 in
theorem gX3_countBehind_X5_setAll_n40 : GoodIn wsX3_countBehind (wsX5_setAll) := ggX3_countBehind_X5_setAll
theorem dX3_countBehind_0 : decode cX3_countBehind 0 = .ok (.aload_n 0, 1) := by decide +kernel
theorem dX3_countBehind_1 : decode cX3_countBehind 1 = .ok (.getfield 15, 3) := by decide +kernel
theorem dX3_countBehind_4 : decode cX3_countBehind 4 = .ok (.iconst 0, 1) := by decide +kernel
theorem dX3_countBehind_5 : decode cX3_countBehind 5 = .ok (.invokestatic 40, 3) := by decide +kernel
theorem dX3_countBehind_8 : decode cX3_countBehind 8 = .ok (.iconst 1, 1) := by decide +kernel
theorem dX3_countBehind_9 : decode cX3_countBehind 9 = .ok (.istore_n 3, 1) := by decide +kernel
theorem dX3_countBehind_10 : decode cX3_countBehind 10 = .ok (.iload_n 3, 1) := by decide +kernel
theorem dX3_countBehind_11 : decode cX3_countBehind 11 = .ok (.aload_n 0, 1) := by decide +kernel
theorem dX3_countBehind_12 : decode cX3_countBehind 12 = .ok (.getfield 26, 3) := by decide +kernel
theorem dX3_countBehind_15 : decode cX3_countBehind 15 = .ok (.if_icmp .ge 58, 3) := by decide +kernel
theorem dX3_countBehind_18 : decode cX3_countBehind 18 = .ok (.aload_n 0, 1) := by decide +kernel
theorem dX3_countBehind_19 : decode cX3_countBehind 19 = .ok (.getfield 11, 3) := by decide +kernel
theorem dX3_countBehind_22 : decode cX3_countBehind 22 = .ok (.iload_n 3, 1) := by decide +kernel
theorem dX3_countBehind_23 : decode cX3_countBehind 23 = .ok (.iconst 1, 1) := by decide +kernel
theorem dX3_countBehind_24 : decode cX3_countBehind 24 = .ok (.isub, 1) := by decide +kernel
theorem dX3_countBehind_25 : decode cX3_countBehind 25 = .ok (.iaload, 1) := by decide +kernel
theorem dX3_countBehind_26 : decode cX3_countBehind 26 = .ok (.iload_n 2, 1) := by decide +kernel
theorem dX3_countBehind_27 : decode cX3_countBehind 27 = .ok (.if_icmp .ne 40, 3) := by decide +kernel
theorem dX3_countBehind_30 : decode cX3_countBehind 30 = .ok (.iload_n 1, 1) := by decide +kernel
theorem dX3_countBehind_31 : decode cX3_countBehind 31 = .ok (.iconst (-1), 1) := by decide +kernel
theorem dX3_countBehind_32 : decode cX3_countBehind 32 = .ok (.if_icmp .eq 20, 3) := by decide +kernel
theorem dX3_countBehind_35 : decode cX3_countBehind 35 = .ok (.iload_n 3, 1) := by decide +kernel
theorem dX3_countBehind_36 : decode cX3_countBehind 36 = .ok (.iconst 2, 1) := by decide +kernel
theorem dX3_countBehind_37 : decode cX3_countBehind 37 = .ok (.if_icmp .lt 30, 3) := by decide +kernel
theorem dX3_countBehind_40 : decode cX3_countBehind 40 = .ok (.aload_n 0, 1) := by decide +kernel
theorem dX3_countBehind_41 : decode cX3_countBehind 41 = .ok (.getfield 11, 3) := by decide +kernel
theorem dX3_countBehind_44 : decode cX3_countBehind 44 = .ok (.iload_n 3, 1) := by decide +kernel
theorem dX3_countBehind_45 : decode cX3_countBehind 45 = .ok (.iconst 2, 1) := by decide +kernel
theorem dX3_countBehind_46 : decode cX3_countBehind 46 = .ok (.isub, 1) := by decide +kernel
theorem dX3_countBehind_47 : decode cX3_countBehind 47 = .ok (.iaload, 1) := by decide +kernel
theorem dX3_countBehind_48 : decode cX3_countBehind 48 = .ok (.iload_n 1, 1) := by decide +kernel
theorem dX3_countBehind_49 : decode cX3_countBehind 49 = .ok (.if_icmp .ne 18, 3) := by decide +kernel
theorem dX3_countBehind_52 : decode cX3_countBehind 52 = .ok (.aload_n 0, 1) := by decide +kernel
theorem dX3_countBehind_53 : decode cX3_countBehind 53 = .ok (.getfield 15, 3) := by decide +kernel
theorem dX3_countBehind_56 : decode cX3_countBehind 56 = .ok (.aload_n 0, 1) := by decide +kernel
theorem dX3_countBehind_57 : decode cX3_countBehind 57 = .ok (.getfield 11, 3) := by decide +kernel
theorem dX3_countBehind_60 : decode cX3_countBehind 60 = .ok (.iload_n 3, 1) := by decide +kernel
theorem dX3_countBehind_61 : decode cX3_countBehind 61 = .ok (.iaload, 1) := by decide +kernel
theorem dX3_countBehind_62 : decode cX3_countBehind 62 = .ok (.dup2, 1) := by decide +kernel
theorem dX3_countBehind_63 : decode cX3_countBehind 63 = .ok (.iaload, 1) := by decide +kernel
theorem dX3_countBehind_64 : decode cX3_countBehind 64 = .ok (.iconst 1, 1) := by decide +kernel
theorem dX3_countBehind_65 : decode cX3_countBehind 65 = .ok (.iadd, 1) := by decide +kernel
theorem dX3_countBehind_66 : decode cX3_countBehind 66 = .ok (.iastore, 1) := by decide +kernel
theorem dX3_countBehind_67 : decode cX3_countBehind 67 = .ok (.iinc 3 1, 3) := by decide +kernel
theorem dX3_countBehind_70 : decode cX3_countBehind 70 = .ok (.goto (-60), 3) := by decide +kernel
theorem dX3_countBehind_73 : decode cX3_countBehind 73 = .ok (.return_, 1) := by decide +kernel
set_option maxRecDepth 20000 in
theorem ggX3_putAbove_X3_takeCounts : GoodIn wsX3_putAbove wsX3_takeCounts := goodIn_r _ [7, 2, 1, 8, 14, 15, 16, 17, 18] (by decide +kernel) (by decide +kernel)
set_option maxRecDepth 20000 in
theorem gX3_putAbove_X3_takeCounts : GoodIn wsX3_putAbove (wsV RX3 44 RX3 yX3_takeCounts wsX3_takeCounts) := goodIn_app (goodIn_of _ (by decide +kernel)) ggX3_putAbove_X3_takeCounts
set_option maxRecDepth 20000 in
theorem ggX3_putAbove_X3_handDown : GoodIn wsX3_putAbove wsX3_handDown := goodIn_r _ [12, 1, 2, 13, 8, 14, 15, 16, 17, 18] (by decide +kernel) (by decide +kernel)
set_option maxRecDepth 20000 in
theorem gX3_putAbove_X3_handDown : GoodIn wsX3_putAbove (wsV RX3 48 RX3 yX3_handDown wsX3_handDown) := goodIn_app (goodIn_of _ (by decide +kernel)) ggX3_putAbove_X3_handDown
theorem dX3_putAbove_0 : decode cX3_putAbove 0 = .ok (.iconst 0, 1) := by decide +kernel
theorem dX3_putAbove_1 : decode cX3_putAbove 1 = .ok (.istore_n 1, 1) := by decide +kernel
theorem dX3_putAbove_2 : decode cX3_putAbove 2 = .ok (.iconst 0, 1) := by decide +kernel
theorem dX3_putAbove_3 : decode cX3_putAbove 3 = .ok (.istore_n 2, 1) := by decide +kernel
theorem dX3_putAbove_4 : decode cX3_putAbove 4 = .ok (.lconst 0, 1) := by decide +kernel
theorem dX3_putAbove_5 : decode cX3_putAbove 5 = .ok (.lstore_n 3, 1) := by decide +kernel
theorem dX3_putAbove_6 : decode cX3_putAbove 6 = .ok (.iconst 0, 1) := by decide +kernel
theorem dX3_putAbove_7 : decode cX3_putAbove 7 = .ok (.istore 5, 2) := by decide +kernel
theorem dX3_putAbove_9 : decode cX3_putAbove 9 = .ok (.iload 5, 2) := by decide +kernel
theorem dX3_putAbove_11 : decode cX3_putAbove 11 = .ok (.bipush 8, 2) := by decide +kernel
theorem dX3_putAbove_13 : decode cX3_putAbove 13 = .ok (.if_icmp .ge 61, 3) := by decide +kernel
theorem dX3_putAbove_16 : decode cX3_putAbove 16 = .ok (.iload_n 1, 1) := by decide +kernel
theorem dX3_putAbove_17 : decode cX3_putAbove 17 = .ok (.aload_n 0, 1) := by decide +kernel
theorem dX3_putAbove_18 : decode cX3_putAbove 18 = .ok (.getfield 15, 3) := by decide +kernel
theorem dX3_putAbove_21 : decode cX3_putAbove 21 = .ok (.iload 5, 2) := by decide +kernel
theorem dX3_putAbove_23 : decode cX3_putAbove 23 = .ok (.iaload, 1) := by decide +kernel
theorem dX3_putAbove_24 : decode cX3_putAbove 24 = .ok (.iadd, 1) := by decide +kernel
theorem dX3_putAbove_25 : decode cX3_putAbove 25 = .ok (.istore_n 1, 1) := by decide +kernel
theorem dX3_putAbove_26 : decode cX3_putAbove 26 = .ok (.iload_n 2, 1) := by decide +kernel
theorem dX3_putAbove_27 : decode cX3_putAbove 27 = .ok (.aload_n 0, 1) := by decide +kernel
theorem dX3_putAbove_28 : decode cX3_putAbove 28 = .ok (.getfield 15, 3) := by decide +kernel
theorem dX3_putAbove_31 : decode cX3_putAbove 31 = .ok (.iload 5, 2) := by decide +kernel
theorem dX3_putAbove_33 : decode cX3_putAbove 33 = .ok (.iaload, 1) := by decide +kernel
theorem dX3_putAbove_34 : decode cX3_putAbove 34 = .ok (.ifCond .le 7, 3) := by decide +kernel
theorem dX3_putAbove_37 : decode cX3_putAbove 37 = .ok (.iconst 1, 1) := by decide +kernel
theorem dX3_putAbove_38 : decode cX3_putAbove 38 = .ok (.goto 4, 3) := by decide +kernel
theorem dX3_putAbove_41 : decode cX3_putAbove 41 = .ok (.iconst 0, 1) := by decide +kernel
theorem dX3_putAbove_42 : decode cX3_putAbove 42 = .ok (.iadd, 1) := by decide +kernel
theorem dX3_putAbove_43 : decode cX3_putAbove 43 = .ok (.istore_n 2, 1) := by decide +kernel
theorem dX3_putAbove_44 : decode cX3_putAbove 44 = .ok (.lload_n 3, 1) := by decide +kernel
theorem dX3_putAbove_45 : decode cX3_putAbove 45 = .ok (.aload_n 0, 1) := by decide +kernel
theorem dX3_putAbove_46 : decode cX3_putAbove 46 = .ok (.getfield 15, 3) := by decide +kernel
theorem dX3_putAbove_49 : decode cX3_putAbove 49 = .ok (.iload 5, 2) := by decide +kernel
theorem dX3_putAbove_51 : decode cX3_putAbove 51 = .ok (.iaload, 1) := by decide +kernel
theorem dX3_putAbove_52 : decode cX3_putAbove 52 = .ok (.ifCond .le 7, 3) := by decide +kernel
theorem dX3_putAbove_55 : decode cX3_putAbove 55 = .ok (.lconst 0, 1) := by decide +kernel
theorem dX3_putAbove_56 : decode cX3_putAbove 56 = .ok (.goto 10, 3) := by decide +kernel
theorem dX3_putAbove_59 : decode cX3_putAbove 59 = .ok (.aload_n 0, 1) := by decide +kernel
theorem dX3_putAbove_60 : decode cX3_putAbove 60 = .ok (.getfield 18, 3) := by decide +kernel
theorem dX3_putAbove_63 : decode cX3_putAbove 63 = .ok (.iload 5, 2) := by decide +kernel
theorem dX3_putAbove_65 : decode cX3_putAbove 65 = .ok (.laload, 1) := by decide +kernel
theorem dX3_putAbove_66 : decode cX3_putAbove 66 = .ok (.ladd, 1) := by decide +kernel
theorem dX3_putAbove_67 : decode cX3_putAbove 67 = .ok (.lstore_n 3, 1) := by decide +kernel
theorem dX3_putAbove_68 : decode cX3_putAbove 68 = .ok (.iinc 5 1, 3) := by decide +kernel
theorem dX3_putAbove_71 : decode cX3_putAbove 71 = .ok (.goto (-62), 3) := by decide +kernel
theorem dX3_putAbove_74 : decode cX3_putAbove 74 = .ok (.iload_n 1, 1) := by decide +kernel
theorem dX3_putAbove_75 : decode cX3_putAbove 75 = .ok (.ifCond .ne 4, 3) := by decide +kernel
theorem dX3_putAbove_78 : decode cX3_putAbove 78 = .ok (.return_, 1) := by decide +kernel
theorem dX3_putAbove_79 : decode cX3_putAbove 79 = .ok (.iload_n 2, 1) := by decide +kernel
theorem dX3_putAbove_80 : decode cX3_putAbove 80 = .ok (.bipush 8, 2) := by decide +kernel
theorem dX3_putAbove_82 : decode cX3_putAbove 82 = .ok (.if_icmp .ne 11, 3) := by decide +kernel
theorem dX3_putAbove_85 : decode cX3_putAbove 85 = .ok (.aload_n 0, 1) := by decide +kernel
theorem dX3_putAbove_86 : decode cX3_putAbove 86 = .ok (.iload_n 1, 1) := by decide +kernel
theorem dX3_putAbove_87 : decode cX3_putAbove 87 = .ok (.invokevirtual 44, 3) := by decide +kernel
theorem dX3_putAbove_90 : decode cX3_putAbove 90 = .ok (.goto 10, 3) := by decide +kernel
theorem dX3_putAbove_93 : decode cX3_putAbove 93 = .ok (.aload_n 0, 1) := by decide +kernel
theorem dX3_putAbove_94 : decode cX3_putAbove 94 = .ok (.iload_n 1, 1) := by decide +kernel
theorem dX3_putAbove_95 : decode cX3_putAbove 95 = .ok (.iload_n 2, 1) := by decide +kernel
theorem dX3_putAbove_96 : decode cX3_putAbove 96 = .ok (.lload_n 3, 1) := by decide +kernel
theorem dX3_putAbove_97 : decode cX3_putAbove 97 = .ok (.invokevirtual 48, 3) := by decide +kernel
theorem dX3_putAbove_100 : decode cX3_putAbove 100 = .ok (.return_, 1) := by decide +kernel
theorem dX3_takeCounts_0 : decode cX3_takeCounts 0 = .ok (.iconst 0, 1) := by decide +kernel
theorem dX3_takeCounts_1 : decode cX3_takeCounts 1 = .ok (.istore_n 2, 1) := by decide +kernel
theorem dX3_takeCounts_2 : decode cX3_takeCounts 2 = .ok (.iload_n 2, 1) := by decide +kernel
theorem dX3_takeCounts_3 : decode cX3_takeCounts 3 = .ok (.bipush 8, 2) := by decide +kernel
theorem dX3_takeCounts_5 : decode cX3_takeCounts 5 = .ok (.if_icmp .ge 22, 3) := by decide +kernel
theorem dX3_takeCounts_8 : decode cX3_takeCounts 8 = .ok (.aload_n 0, 1) := by decide +kernel
theorem dX3_takeCounts_9 : decode cX3_takeCounts 9 = .ok (.getfield 18, 3) := by decide +kernel
theorem dX3_takeCounts_12 : decode cX3_takeCounts 12 = .ok (.iload_n 2, 1) := by decide +kernel
theorem dX3_takeCounts_13 : decode cX3_takeCounts 13 = .ok (.aload_n 0, 1) := by decide +kernel
theorem dX3_takeCounts_14 : decode cX3_takeCounts 14 = .ok (.getfield 15, 3) := by decide +kernel
theorem dX3_takeCounts_17 : decode cX3_takeCounts 17 = .ok (.iload_n 2, 1) := by decide +kernel
theorem dX3_takeCounts_18 : decode cX3_takeCounts 18 = .ok (.iaload, 1) := by decide +kernel
theorem dX3_takeCounts_19 : decode cX3_takeCounts 19 = .ok (.i2l, 1) := by decide +kernel
theorem dX3_takeCounts_20 : decode cX3_takeCounts 20 = .ok (.lastore, 1) := by decide +kernel
theorem dX3_takeCounts_21 : decode cX3_takeCounts 21 = .ok (.iinc 2 1, 3) := by decide +kernel
theorem dX3_takeCounts_24 : decode cX3_takeCounts 24 = .ok (.goto (-22), 3) := by decide +kernel
theorem dX3_takeCounts_27 : decode cX3_takeCounts 27 = .ok (.aload_n 0, 1) := by decide +kernel
theorem dX3_takeCounts_28 : decode cX3_takeCounts 28 = .ok (.iload_n 1, 1) := by decide +kernel
theorem dX3_takeCounts_29 : decode cX3_takeCounts 29 = .ok (.i2l, 1) := by decide +kernel
theorem dX3_takeCounts_30 : decode cX3_takeCounts 30 = .ok (.putfield 22, 3) := by decide +kernel
theorem dX3_takeCounts_33 : decode cX3_takeCounts 33 = .ok (.return_, 1) := by decide +kernel
theorem dX3_handDown_0 : decode cX3_handDown 0 = .ok (.iconst 0, 1) := by decide +kernel
theorem dX3_handDown_1 : decode cX3_handDown 1 = .ok (.istore 5, 2) := by decide +kernel
theorem dX3_handDown_3 : decode cX3_handDown 3 = .ok (.iload 5, 2) := by decide +kernel
theorem dX3_handDown_5 : decode cX3_handDown 5 = .ok (.bipush 8, 2) := by decide +kernel
theorem dX3_handDown_7 : decode cX3_handDown 7 = .ok (.if_icmp .ge 62, 3) := by decide +kernel
theorem dX3_handDown_10 : decode cX3_handDown 10 = .ok (.aload_n 0, 1) := by decide +kernel
theorem dX3_handDown_11 : decode cX3_handDown 11 = .ok (.getfield 15, 3) := by decide +kernel
theorem dX3_handDown_14 : decode cX3_handDown 14 = .ok (.iload 5, 2) := by decide +kernel
theorem dX3_handDown_16 : decode cX3_handDown 16 = .ok (.iaload, 1) := by decide +kernel
theorem dX3_handDown_17 : decode cX3_handDown 17 = .ok (.ifCond .le 29, 3) := by decide +kernel
theorem dX3_handDown_20 : decode cX3_handDown 20 = .ok (.aload_n 0, 1) := by decide +kernel
theorem dX3_handDown_21 : decode cX3_handDown 21 = .ok (.getfield 18, 3) := by decide +kernel
theorem dX3_handDown_24 : decode cX3_handDown 24 = .ok (.iload 5, 2) := by decide +kernel
theorem dX3_handDown_26 : decode cX3_handDown 26 = .ok (.ldc2_w 52, 3) := by decide +kernel
theorem dX3_handDown_29 : decode cX3_handDown 29 = .ok (.aload_n 0, 1) := by decide +kernel
theorem dX3_handDown_30 : decode cX3_handDown 30 = .ok (.getfield 15, 3) := by decide +kernel
theorem dX3_handDown_33 : decode cX3_handDown 33 = .ok (.iload 5, 2) := by decide +kernel
theorem dX3_handDown_35 : decode cX3_handDown 35 = .ok (.iaload, 1) := by decide +kernel
theorem dX3_handDown_36 : decode cX3_handDown 36 = .ok (.i2l, 1) := by decide +kernel
theorem dX3_handDown_37 : decode cX3_handDown 37 = .ok (.lmul, 1) := by decide +kernel
theorem dX3_handDown_38 : decode cX3_handDown 38 = .ok (.lconst 1, 1) := by decide +kernel
theorem dX3_handDown_39 : decode cX3_handDown 39 = .ok (.lsub, 1) := by decide +kernel
theorem dX3_handDown_40 : decode cX3_handDown 40 = .ok (.lload_n 3, 1) := by decide +kernel
theorem dX3_handDown_41 : decode cX3_handDown 41 = .ok (.lmul, 1) := by decide +kernel
theorem dX3_handDown_42 : decode cX3_handDown 42 = .ok (.lastore, 1) := by decide +kernel
theorem dX3_handDown_43 : decode cX3_handDown 43 = .ok (.goto 20, 3) := by decide +kernel
theorem dX3_handDown_46 : decode cX3_handDown 46 = .ok (.aload_n 0, 1) := by decide +kernel
theorem dX3_handDown_47 : decode cX3_handDown 47 = .ok (.getfield 18, 3) := by decide +kernel
theorem dX3_handDown_50 : decode cX3_handDown 50 = .ok (.iload 5, 2) := by decide +kernel
theorem dX3_handDown_52 : decode cX3_handDown 52 = .ok (.iload_n 2, 1) := by decide +kernel
theorem dX3_handDown_53 : decode cX3_handDown 53 = .ok (.i2l, 1) := by decide +kernel
theorem dX3_handDown_54 : decode cX3_handDown 54 = .ok (.aload_n 0, 1) := by decide +kernel
theorem dX3_handDown_55 : decode cX3_handDown 55 = .ok (.getfield 18, 3) := by decide +kernel
theorem dX3_handDown_58 : decode cX3_handDown 58 = .ok (.iload 5, 2) := by decide +kernel
theorem dX3_handDown_60 : decode cX3_handDown 60 = .ok (.laload, 1) := by decide +kernel
theorem dX3_handDown_61 : decode cX3_handDown 61 = .ok (.lmul, 1) := by decide +kernel
theorem dX3_handDown_62 : decode cX3_handDown 62 = .ok (.lastore, 1) := by decide +kernel
theorem dX3_handDown_63 : decode cX3_handDown 63 = .ok (.iinc 5 1, 3) := by decide +kernel
theorem dX3_handDown_66 : decode cX3_handDown 66 = .ok (.goto (-63), 3) := by decide +kernel
theorem dX3_handDown_69 : decode cX3_handDown 69 = .ok (.aload_n 0, 1) := by decide +kernel
theorem dX3_handDown_70 : decode cX3_handDown 70 = .ok (.ldc2_w 52, 3) := by decide +kernel
theorem dX3_handDown_73 : decode cX3_handDown 73 = .ok (.iload_n 1, 1) := by decide +kernel
theorem dX3_handDown_74 : decode cX3_handDown 74 = .ok (.i2l, 1) := by decide +kernel
theorem dX3_handDown_75 : decode cX3_handDown 75 = .ok (.lmul, 1) := by decide +kernel
theorem dX3_handDown_76 : decode cX3_handDown 76 = .ok (.lload_n 3, 1) := by decide +kernel
theorem dX3_handDown_77 : decode cX3_handDown 77 = .ok (.lmul, 1) := by decide +kernel
theorem dX3_handDown_78 : decode cX3_handDown 78 = .ok (.putfield 22, 3) := by decide +kernel
theorem dX3_handDown_81 : decode cX3_handDown 81 = .ok (.return_, 1) := by decide +kernel
theorem dX4_init_0 : decode cX4_init 0 = .ok (.aload_n 0, 1) := by decide +kernel
theorem dX4_init_1 : decode cX4_init 1 = .ok (.invokespecial 3, 3) := by decide +kernel
theorem dX4_init_4 : decode cX4_init 4 = .ok (.aload_n 0, 1) := by decide +kernel
theorem dX4_init_5 : decode cX4_init 5 = .ok (.bipush 64, 2) := by decide +kernel
theorem dX4_init_7 : decode cX4_init 7 = .ok (.newarray .int, 2) := by decide +kernel
theorem dX4_init_9 : decode cX4_init 9 = .ok (.putfield 11, 3) := by decide +kernel
theorem dX4_init_12 : decode cX4_init 12 = .ok (.aload_n 0, 1) := by decide +kernel
theorem dX4_init_13 : decode cX4_init 13 = .ok (.bipush 8, 2) := by decide +kernel
theorem dX4_init_15 : decode cX4_init 15 = .ok (.newarray .int, 2) := by decide +kernel
theorem dX4_init_17 : decode cX4_init 17 = .ok (.putfield 15, 3) := by decide +kernel
theorem dX4_init_20 : decode cX4_init 20 = .ok (.aload_n 0, 1) := by decide +kernel
theorem dX4_init_21 : decode cX4_init 21 = .ok (.bipush 56, 2) := by decide +kernel
theorem dX4_init_23 : decode cX4_init 23 = .ok (.newarray .int, 2) := by decide +kernel
theorem dX4_init_25 : decode cX4_init 25 = .ok (.putfield 18, 3) := by decide +kernel
theorem dX4_init_28 : decode cX4_init 28 = .ok (.aload_n 0, 1) := by decide +kernel
theorem dX4_init_29 : decode cX4_init 29 = .ok (.iconst 0, 1) := by decide +kernel
theorem dX4_init_30 : decode cX4_init 30 = .ok (.putfield 21, 3) := by decide +kernel
theorem dX4_init_33 : decode cX4_init 33 = .ok (.return_, 1) := by decide +kernel
theorem dX4_has_0 : decode cX4_has 0 = .ok (.iload_n 1, 1) := by decide +kernel
theorem dX4_has_1 : decode cX4_has 1 = .ok (.ifCond .lt 15, 3) := by decide +kernel
theorem dX4_has_4 : decode cX4_has 4 = .ok (.iload_n 1, 1) := by decide +kernel
theorem dX4_has_5 : decode cX4_has 5 = .ok (.aload_n 0, 1) := by decide +kernel
theorem dX4_has_6 : decode cX4_has 6 = .ok (.getfield 21, 3) := by decide +kernel
theorem dX4_has_9 : decode cX4_has 9 = .ok (.if_icmp .ge 7, 3) := by decide +kernel
theorem dX4_has_12 : decode cX4_has 12 = .ok (.iconst 1, 1) := by decide +kernel
theorem dX4_has_13 : decode cX4_has 13 = .ok (.goto 4, 3) := by decide +kernel
theorem dX4_has_16 : decode cX4_has 16 = .ok (.iconst 0, 1) := by decide +kernel
theorem dX4_has_17 : decode cX4_has 17 = .ok (.ireturn, 1) := by decide +kernel
theorem dX4_size_0 : decode cX4_size 0 = .ok (.aload_n 0, 1) := by decide +kernel
theorem dX4_size_1 : decode cX4_size 1 = .ok (.getfield 21, 3) := by decide +kernel
theorem dX4_size_4 : decode cX4_size 4 = .ok (.ireturn, 1) := by decide +kernel
set_option maxRecDepth 20000 in
theorem ggX4_partOf_X0_sideOf : GoodIn wsX4_partOf wsX0_sideOf := goodIn_r _ [7, 8, 9, 6, 10] (by decide +kernel) (by decide +kernel)
set_option maxRecDepth 20000 in
theorem gX4_partOf_X0_sideOf : GoodIn wsX4_partOf (va_wsS RX4 25 yX0_sideOf wsX0_sideOf) := goodIn_app (goodIn_of _ (by decide +kernel)) ggX4_partOf_X0_sideOf
theorem dX4_partOf_0 : decode cX4_partOf 0 = .ok (.aload_n 0, 1) := by decide +kernel
theorem dX4_partOf_1 : decode cX4_partOf 1 = .ok (.getfield 18, 3) := by decide +kernel
theorem dX4_partOf_4 : decode cX4_partOf 4 = .ok (.iload_n 1, 1) := by decide +kernel
theorem dX4_partOf_5 : decode cX4_partOf 5 = .ok (.iaload, 1) := by decide +kernel
theorem dX4_partOf_6 : decode cX4_partOf 6 = .ok (.bipush 64, 2) := by decide +kernel
theorem dX4_partOf_8 : decode cX4_partOf 8 = .ok (.irem, 1) := by decide +kernel
theorem dX4_partOf_9 : decode cX4_partOf 9 = .ok (.istore_n 3, 1) := by decide +kernel
theorem dX4_partOf_10 : decode cX4_partOf 10 = .ok (.iload_n 3, 1) := by decide +kernel
theorem dX4_partOf_11 : decode cX4_partOf 11 = .ok (.bipush 8, 2) := by decide +kernel
theorem dX4_partOf_13 : decode cX4_partOf 13 = .ok (.idiv, 1) := by decide +kernel
theorem dX4_partOf_14 : decode cX4_partOf 14 = .ok (.istore 4, 2) := by decide +kernel
theorem dX4_partOf_16 : decode cX4_partOf 16 = .ok (.iload_n 2, 1) := by decide +kernel
theorem dX4_partOf_17 : decode cX4_partOf 17 = .ok (.ifCond .ne 6, 3) := by decide +kernel
theorem dX4_partOf_20 : decode cX4_partOf 20 = .ok (.iload 4, 2) := by decide +kernel
theorem dX4_partOf_22 : decode cX4_partOf 22 = .ok (.ireturn, 1) := by decide +kernel
theorem dX4_partOf_23 : decode cX4_partOf 23 = .ok (.iload_n 2, 1) := by decide +kernel
theorem dX4_partOf_24 : decode cX4_partOf 24 = .ok (.iconst 1, 1) := by decide +kernel
theorem dX4_partOf_25 : decode cX4_partOf 25 = .ok (.if_icmp .ne 8, 3) := by decide +kernel
theorem dX4_partOf_28 : decode cX4_partOf 28 = .ok (.iload_n 3, 1) := by decide +kernel
theorem dX4_partOf_29 : decode cX4_partOf 29 = .ok (.bipush 8, 2) := by decide +kernel
theorem dX4_partOf_31 : decode cX4_partOf 31 = .ok (.irem, 1) := by decide +kernel
theorem dX4_partOf_32 : decode cX4_partOf 32 = .ok (.ireturn, 1) := by decide +kernel
theorem dX4_partOf_33 : decode cX4_partOf 33 = .ok (.iload_n 2, 1) := by decide +kernel
theorem dX4_partOf_34 : decode cX4_partOf 34 = .ok (.iconst 2, 1) := by decide +kernel
theorem dX4_partOf_35 : decode cX4_partOf 35 = .ok (.if_icmp .ne 10, 3) := by decide +kernel
theorem dX4_partOf_38 : decode cX4_partOf 38 = .ok (.aload_n 0, 1) := by decide +kernel
theorem dX4_partOf_39 : decode cX4_partOf 39 = .ok (.getfield 11, 3) := by decide +kernel
theorem dX4_partOf_42 : decode cX4_partOf 42 = .ok (.iload_n 3, 1) := by decide +kernel
theorem dX4_partOf_43 : decode cX4_partOf 43 = .ok (.iaload, 1) := by decide +kernel
theorem dX4_partOf_44 : decode cX4_partOf 44 = .ok (.ireturn, 1) := by decide +kernel
theorem dX4_partOf_45 : decode cX4_partOf 45 = .ok (.aload_n 0, 1) := by decide +kernel
theorem dX4_partOf_46 : decode cX4_partOf 46 = .ok (.getfield 11, 3) := by decide +kernel
theorem dX4_partOf_49 : decode cX4_partOf 49 = .ok (.iload_n 3, 1) := by decide +kernel
theorem dX4_partOf_50 : decode cX4_partOf 50 = .ok (.iaload, 1) := by decide +kernel
theorem dX4_partOf_51 : decode cX4_partOf 51 = .ok (.i2l, 1) := by decide +kernel
theorem dX4_partOf_52 : decode cX4_partOf 52 = .ok (.aload_n 0, 1) := by decide +kernel
theorem dX4_partOf_53 : decode cX4_partOf 53 = .ok (.getfield 15, 3) := by decide +kernel
theorem dX4_partOf_56 : decode cX4_partOf 56 = .ok (.iload 4, 2) := by decide +kernel
theorem dX4_partOf_58 : decode cX4_partOf 58 = .ok (.iaload, 1) := by decide +kernel
theorem dX4_partOf_59 : decode cX4_partOf 59 = .ok (.i2l, 1) := by decide +kernel
theorem dX4_partOf_60 : decode cX4_partOf 60 = .ok (.iload_n 2, 1) := by decide +kernel
theorem dX4_partOf_61 : decode cX4_partOf 61 = .ok (.iconst 4, 1) := by decide +kernel
theorem dX4_partOf_62 : decode cX4_partOf 62 = .ok (.if_icmp .ne 7, 3) := by decide +kernel
theorem dX4_partOf_65 : decode cX4_partOf 65 = .ok (.iconst 1, 1) := by decide +kernel
theorem dX4_partOf_66 : decode cX4_partOf 66 = .ok (.goto 4, 3) := by decide +kernel
theorem dX4_partOf_69 : decode cX4_partOf 69 = .ok (.iconst 0, 1) := by decide +kernel
theorem dX4_partOf_70 : decode cX4_partOf 70 = .ok (.invokestatic 25, 3) := by decide +kernel
theorem dX4_partOf_73 : decode cX4_partOf 73 = .ok (.l2i, 1) := by decide +kernel
theorem dX4_partOf_74 : decode cX4_partOf 74 = .ok (.ireturn, 1) := by decide +kernel
set_option maxRecDepth 20000 in
theorem ggX4_gather_X5_setAll : GoodIn wsX4_gather wsX5_setAll := goodIn_r _ [6] (by decide +kernel) (by decide +kernel)
set_option maxRecDepth 20000 in
theorem gX4_gather_X5_setAll_n31 : GoodIn wsX4_gather (wsX5_setAll) := ggX4_gather_X5_setAll
set_option maxRecDepth 20000 in
theorem ggX4_gather_X2_size : GoodIn wsX4_gather wsX2_size := goodIn_r _ [11, 12, 41, 42, 43, 44, 45, 46, 47, 48, 49, 50] (by decide +kernel) (by decide +kernel)
set_option maxRecDepth 20000 in
theorem gX4_gather_X2_size : GoodIn wsX4_gather (wsV RX4 35 RX2 yX2_size wsX2_size) := goodIn_app (goodIn_of _ (by decide +kernel)) ggX4_gather_X2_size
set_option maxRecDepth 20000 in
theorem ggX4_gather_X2_wordSet : GoodIn wsX4_gather wsX2_wordSet := goodIn_r _ [16, 17, 18, 41, 42, 43, 44, 45, 46, 47, 48, 49, 50] (by decide +kernel) (by decide +kernel)
set_option maxRecDepth 20000 in
theorem gX4_gather_X2_wordSet : GoodIn wsX4_gather (wsV RX4 41 RX2 yX2_wordSet wsX2_wordSet) := goodIn_app (goodIn_of _ (by decide +kernel)) ggX4_gather_X2_wordSet
set_option maxRecDepth 20000 in
theorem ggX4_gather_X4_countSet : GoodIn wsX4_gather wsX4_countSet := goodIn_r _ [23, 2, 24, 25, 26, 22, 27, 1, 37, 38, 39, 40] (by decide +kernel) (by decide +kernel)
set_option maxRecDepth 20000 in
theorem gX4_gather_X4_countSet : GoodIn wsX4_gather (wsV RX4 45 RX4 yX4_countSet wsX4_countSet) := goodIn_app (goodIn_of _ (by decide +kernel)) ggX4_gather_X4_countSet
set_option maxRecDepth 20000 in
theorem ggX4_gather_X4_keyOf : GoodIn wsX4_gather wsX4_keyOf := goodIn_r _ [31, 1, 2, 37, 38, 39, 40] (by decide +kernel) (by decide +kernel)
set_option maxRecDepth 20000 in
theorem gX4_gather_X4_keyOf : GoodIn wsX4_gather (wsV RX4 49 RX4 yX4_keyOf wsX4_keyOf) := goodIn_app (goodIn_of _ (by decide +kernel)) ggX4_gather_X4_keyOf
set_option maxRecDepth 20000 in
theorem ggX4_gather_X4_insert : GoodIn wsX4_gather wsX4_insert := goodIn_r _ [35, 3, 36, 37, 38, 39, 40] (by decide +kernel) (by decide +kernel)
set_option maxRecDepth 20000 in
theorem gX4_gather_X4_insert : GoodIn wsX4_gather (wsV RX4 52 RX4 yX4_insert wsX4_insert) := goodIn_app (goodIn_of _ (by decide +kernel)) ggX4_gather_X4_insert
theorem dX4_gather_0 : decode cX4_gather 0 = .ok (.aload_n 0, 1) := by decide +kernel
theorem dX4_gather_1 : decode cX4_gather 1 = .ok (.getfield 11, 3) := by decide +kernel
theorem dX4_gather_4 : decode cX4_gather 4 = .ok (.iconst 0, 1) := by decide +kernel
theorem dX4_gather_5 : decode cX4_gather 5 = .ok (.invokestatic 31, 3) := by decide +kernel
theorem dX4_gather_8 : decode cX4_gather 8 = .ok (.aload_n 0, 1) := by decide +kernel
theorem dX4_gather_9 : decode cX4_gather 9 = .ok (.getfield 15, 3) := by decide +kernel
theorem dX4_gather_12 : decode cX4_gather 12 = .ok (.iconst 0, 1) := by decide +kernel
theorem dX4_gather_13 : decode cX4_gather 13 = .ok (.invokestatic 31, 3) := by decide +kernel
theorem dX4_gather_16 : decode cX4_gather 16 = .ok (.iconst 0, 1) := by decide +kernel
theorem dX4_gather_17 : decode cX4_gather 17 = .ok (.istore_n 2, 1) := by decide +kernel
theorem dX4_gather_18 : decode cX4_gather 18 = .ok (.iload_n 2, 1) := by decide +kernel
theorem dX4_gather_19 : decode cX4_gather 19 = .ok (.aload_n 1, 1) := by decide +kernel
theorem dX4_gather_20 : decode cX4_gather 20 = .ok (.invokevirtual 35, 3) := by decide +kernel
theorem dX4_gather_23 : decode cX4_gather 23 = .ok (.if_icmp .ge 18, 3) := by decide +kernel
theorem dX4_gather_26 : decode cX4_gather 26 = .ok (.aload_n 0, 1) := by decide +kernel
theorem dX4_gather_27 : decode cX4_gather 27 = .ok (.aload_n 1, 1) := by decide +kernel
theorem dX4_gather_28 : decode cX4_gather 28 = .ok (.iload_n 2, 1) := by decide +kernel
theorem dX4_gather_29 : decode cX4_gather 29 = .ok (.invokevirtual 41, 3) := by decide +kernel
theorem dX4_gather_32 : decode cX4_gather 32 = .ok (.invokevirtual 45, 3) := by decide +kernel
theorem dX4_gather_35 : decode cX4_gather 35 = .ok (.iinc 2 1, 3) := by decide +kernel
theorem dX4_gather_38 : decode cX4_gather 38 = .ok (.goto (-20), 3) := by decide +kernel
theorem dX4_gather_41 : decode cX4_gather 41 = .ok (.aload_n 0, 1) := by decide +kernel
theorem dX4_gather_42 : decode cX4_gather 42 = .ok (.iconst 0, 1) := by decide +kernel
theorem dX4_gather_43 : decode cX4_gather 43 = .ok (.putfield 21, 3) := by decide +kernel
theorem dX4_gather_46 : decode cX4_gather 46 = .ok (.iconst 0, 1) := by decide +kernel
theorem dX4_gather_47 : decode cX4_gather 47 = .ok (.istore_n 2, 1) := by decide +kernel
theorem dX4_gather_48 : decode cX4_gather 48 = .ok (.iload_n 2, 1) := by decide +kernel
theorem dX4_gather_49 : decode cX4_gather 49 = .ok (.bipush 64, 2) := by decide +kernel
theorem dX4_gather_51 : decode cX4_gather 51 = .ok (.if_icmp .ge 27, 3) := by decide +kernel
theorem dX4_gather_54 : decode cX4_gather 54 = .ok (.aload_n 0, 1) := by decide +kernel
theorem dX4_gather_55 : decode cX4_gather 55 = .ok (.getfield 11, 3) := by decide +kernel
theorem dX4_gather_58 : decode cX4_gather 58 = .ok (.iload_n 2, 1) := by decide +kernel
theorem dX4_gather_59 : decode cX4_gather 59 = .ok (.iaload, 1) := by decide +kernel
theorem dX4_gather_60 : decode cX4_gather 60 = .ok (.ifCond .le 12, 3) := by decide +kernel
theorem dX4_gather_63 : decode cX4_gather 63 = .ok (.aload_n 0, 1) := by decide +kernel
theorem dX4_gather_64 : decode cX4_gather 64 = .ok (.aload_n 0, 1) := by decide +kernel
theorem dX4_gather_65 : decode cX4_gather 65 = .ok (.iload_n 2, 1) := by decide +kernel
theorem dX4_gather_66 : decode cX4_gather 66 = .ok (.invokevirtual 49, 3) := by decide +kernel
theorem dX4_gather_69 : decode cX4_gather 69 = .ok (.invokevirtual 52, 3) := by decide +kernel
theorem dX4_gather_72 : decode cX4_gather 72 = .ok (.iinc 2 1, 3) := by decide +kernel
theorem dX4_gather_75 : decode cX4_gather 75 = .ok (.goto (-27), 3) := by decide +kernel
theorem dX4_gather_78 : decode cX4_gather 78 = .ok (.return_, 1) := by decide +kernel
set_option maxRecDepth 20000 in
theorem ggX4_countSet_X4_countPairs : GoodIn wsX4_countSet wsX4_countPairs := goodIn_r _ [6, 7, 8, 9, 10, 11] (by decide +kernel) (by decide +kernel)
set_option maxRecDepth 20000 in
theorem gX4_countSet_X4_countPairs : GoodIn wsX4_countSet (wsV RX4 55 RX4 yX4_countPairs wsX4_countPairs) := goodIn_app (goodIn_of _ (by decide +kernel)) ggX4_countSet_X4_countPairs
theorem dX4_countSet_0 : decode cX4_countSet 0 = .ok (.iconst 0, 1) := by decide +kernel
theorem dX4_countSet_1 : decode cX4_countSet 1 = .ok (.istore_n 2, 1) := by decide +kernel
theorem dX4_countSet_2 : decode cX4_countSet 2 = .ok (.iload_n 2, 1) := by decide +kernel
theorem dX4_countSet_3 : decode cX4_countSet 3 = .ok (.bipush 8, 2) := by decide +kernel
theorem dX4_countSet_5 : decode cX4_countSet 5 = .ok (.if_icmp .ge 33, 3) := by decide +kernel
theorem dX4_countSet_8 : decode cX4_countSet 8 = .ok (.iload_n 1, 1) := by decide +kernel
theorem dX4_countSet_9 : decode cX4_countSet 9 = .ok (.iload_n 2, 1) := by decide +kernel
theorem dX4_countSet_10 : decode cX4_countSet 10 = .ok (.ishr, 1) := by decide +kernel
theorem dX4_countSet_11 : decode cX4_countSet 11 = .ok (.iconst 1, 1) := by decide +kernel
theorem dX4_countSet_12 : decode cX4_countSet 12 = .ok (.iand, 1) := by decide +kernel
theorem dX4_countSet_13 : decode cX4_countSet 13 = .ok (.ifCond .eq 19, 3) := by decide +kernel
theorem dX4_countSet_16 : decode cX4_countSet 16 = .ok (.aload_n 0, 1) := by decide +kernel
theorem dX4_countSet_17 : decode cX4_countSet 17 = .ok (.getfield 15, 3) := by decide +kernel
theorem dX4_countSet_20 : decode cX4_countSet 20 = .ok (.iload_n 2, 1) := by decide +kernel
theorem dX4_countSet_21 : decode cX4_countSet 21 = .ok (.dup2, 1) := by decide +kernel
theorem dX4_countSet_22 : decode cX4_countSet 22 = .ok (.iaload, 1) := by decide +kernel
theorem dX4_countSet_23 : decode cX4_countSet 23 = .ok (.iconst 1, 1) := by decide +kernel
theorem dX4_countSet_24 : decode cX4_countSet 24 = .ok (.iadd, 1) := by decide +kernel
theorem dX4_countSet_25 : decode cX4_countSet 25 = .ok (.iastore, 1) := by decide +kernel
theorem dX4_countSet_26 : decode cX4_countSet 26 = .ok (.aload_n 0, 1) := by decide +kernel
theorem dX4_countSet_27 : decode cX4_countSet 27 = .ok (.iload_n 2, 1) := by decide +kernel
theorem dX4_countSet_28 : decode cX4_countSet 28 = .ok (.iload_n 1, 1) := by decide +kernel
theorem dX4_countSet_29 : decode cX4_countSet 29 = .ok (.invokevirtual 55, 3) := by decide +kernel
theorem dX4_countSet_32 : decode cX4_countSet 32 = .ok (.iinc 2 1, 3) := by decide +kernel
theorem dX4_countSet_35 : decode cX4_countSet 35 = .ok (.goto (-33), 3) := by decide +kernel
theorem dX4_countSet_38 : decode cX4_countSet 38 = .ok (.return_, 1) := by decide +kernel
theorem dX4_countPairs_0 : decode cX4_countPairs 0 = .ok (.iconst 0, 1) := by decide +kernel
theorem dX4_countPairs_1 : decode cX4_countPairs 1 = .ok (.istore_n 3, 1) := by decide +kernel
theorem dX4_countPairs_2 : decode cX4_countPairs 2 = .ok (.iload_n 3, 1) := by decide +kernel
theorem dX4_countPairs_3 : decode cX4_countPairs 3 = .ok (.bipush 8, 2) := by decide +kernel
theorem dX4_countPairs_5 : decode cX4_countPairs 5 = .ok (.if_icmp .ge 37, 3) := by decide +kernel
theorem dX4_countPairs_8 : decode cX4_countPairs 8 = .ok (.iload_n 3, 1) := by decide +kernel
theorem dX4_countPairs_9 : decode cX4_countPairs 9 = .ok (.iload_n 1, 1) := by decide +kernel
theorem dX4_countPairs_10 : decode cX4_countPairs 10 = .ok (.if_icmp .eq 26, 3) := by decide +kernel
theorem dX4_countPairs_13 : decode cX4_countPairs 13 = .ok (.iload_n 2, 1) := by decide +kernel
theorem dX4_countPairs_14 : decode cX4_countPairs 14 = .ok (.iload_n 3, 1) := by decide +kernel
theorem dX4_countPairs_15 : decode cX4_countPairs 15 = .ok (.ishr, 1) := by decide +kernel
theorem dX4_countPairs_16 : decode cX4_countPairs 16 = .ok (.iconst 1, 1) := by decide +kernel
theorem dX4_countPairs_17 : decode cX4_countPairs 17 = .ok (.iand, 1) := by decide +kernel
theorem dX4_countPairs_18 : decode cX4_countPairs 18 = .ok (.ifCond .eq 18, 3) := by decide +kernel
theorem dX4_countPairs_21 : decode cX4_countPairs 21 = .ok (.aload_n 0, 1) := by decide +kernel
theorem dX4_countPairs_22 : decode cX4_countPairs 22 = .ok (.getfield 11, 3) := by decide +kernel
theorem dX4_countPairs_25 : decode cX4_countPairs 25 = .ok (.iload_n 1, 1) := by decide +kernel
theorem dX4_countPairs_26 : decode cX4_countPairs 26 = .ok (.bipush 8, 2) := by decide +kernel
theorem dX4_countPairs_28 : decode cX4_countPairs 28 = .ok (.imul, 1) := by decide +kernel
theorem dX4_countPairs_29 : decode cX4_countPairs 29 = .ok (.iload_n 3, 1) := by decide +kernel
theorem dX4_countPairs_30 : decode cX4_countPairs 30 = .ok (.iadd, 1) := by decide +kernel
theorem dX4_countPairs_31 : decode cX4_countPairs 31 = .ok (.dup2, 1) := by decide +kernel
theorem dX4_countPairs_32 : decode cX4_countPairs 32 = .ok (.iaload, 1) := by decide +kernel
theorem dX4_countPairs_33 : decode cX4_countPairs 33 = .ok (.iconst 1, 1) := by decide +kernel
theorem dX4_countPairs_34 : decode cX4_countPairs 34 = .ok (.iadd, 1) := by decide +kernel
theorem dX4_countPairs_35 : decode cX4_countPairs 35 = .ok (.iastore, 1) := by decide +kernel
theorem dX4_countPairs_36 : decode cX4_countPairs 36 = .ok (.iinc 3 1, 3) := by decide +kernel
theorem dX4_countPairs_39 : decode cX4_countPairs 39 = .ok (.goto (-37), 3) := by decide +kernel
theorem dX4_countPairs_42 : decode cX4_countPairs 42 = .ok (.return_, 1) := by decide +kernel
theorem dX4_keyOf_0 : decode cX4_keyOf 0 = .ok (.bipush 64, 2) := by decide +kernel
theorem dX4_keyOf_2 : decode cX4_keyOf 2 = .ok (.aload_n 0, 1) := by decide +kernel
theorem dX4_keyOf_3 : decode cX4_keyOf 3 = .ok (.getfield 11, 3) := by decide +kernel
theorem dX4_keyOf_6 : decode cX4_keyOf 6 = .ok (.iload_n 1, 1) := by decide +kernel
theorem dX4_keyOf_7 : decode cX4_keyOf 7 = .ok (.iaload, 1) := by decide +kernel
theorem dX4_keyOf_8 : decode cX4_keyOf 8 = .ok (.isub, 1) := by decide +kernel
theorem dX4_keyOf_9 : decode cX4_keyOf 9 = .ok (.istore_n 2, 1) := by decide +kernel
theorem dX4_keyOf_10 : decode cX4_keyOf 10 = .ok (.iload_n 2, 1) := by decide +kernel
theorem dX4_keyOf_11 : decode cX4_keyOf 11 = .ok (.bipush 64, 2) := by decide +kernel
theorem dX4_keyOf_13 : decode cX4_keyOf 13 = .ok (.imul, 1) := by decide +kernel
theorem dX4_keyOf_14 : decode cX4_keyOf 14 = .ok (.aload_n 0, 1) := by decide +kernel
theorem dX4_keyOf_15 : decode cX4_keyOf 15 = .ok (.getfield 15, 3) := by decide +kernel
theorem dX4_keyOf_18 : decode cX4_keyOf 18 = .ok (.iload_n 1, 1) := by decide +kernel
theorem dX4_keyOf_19 : decode cX4_keyOf 19 = .ok (.bipush 8, 2) := by decide +kernel
theorem dX4_keyOf_21 : decode cX4_keyOf 21 = .ok (.idiv, 1) := by decide +kernel
theorem dX4_keyOf_22 : decode cX4_keyOf 22 = .ok (.iaload, 1) := by decide +kernel
theorem dX4_keyOf_23 : decode cX4_keyOf 23 = .ok (.iadd, 1) := by decide +kernel
theorem dX4_keyOf_24 : decode cX4_keyOf 24 = .ok (.bipush 64, 2) := by decide +kernel
theorem dX4_keyOf_26 : decode cX4_keyOf 26 = .ok (.imul, 1) := by decide +kernel
theorem dX4_keyOf_27 : decode cX4_keyOf 27 = .ok (.iload_n 1, 1) := by decide +kernel
theorem dX4_keyOf_28 : decode cX4_keyOf 28 = .ok (.iadd, 1) := by decide +kernel
theorem dX4_keyOf_29 : decode cX4_keyOf 29 = .ok (.ireturn, 1) := by decide +kernel
theorem dX4_insert_0 : decode cX4_insert 0 = .ok (.aload_n 0, 1) := by decide +kernel
theorem dX4_insert_1 : decode cX4_insert 1 = .ok (.getfield 21, 3) := by decide +kernel
theorem dX4_insert_4 : decode cX4_insert 4 = .ok (.bipush 56, 2) := by decide +kernel
theorem dX4_insert_6 : decode cX4_insert 6 = .ok (.if_icmp .lt 4, 3) := by decide +kernel
theorem dX4_insert_9 : decode cX4_insert 9 = .ok (.return_, 1) := by decide +kernel
theorem dX4_insert_10 : decode cX4_insert 10 = .ok (.aload_n 0, 1) := by decide +kernel
theorem dX4_insert_11 : decode cX4_insert 11 = .ok (.getfield 21, 3) := by decide +kernel
theorem dX4_insert_14 : decode cX4_insert 14 = .ok (.istore_n 2, 1) := by decide +kernel
theorem dX4_insert_15 : decode cX4_insert 15 = .ok (.iload_n 2, 1) := by decide +kernel
theorem dX4_insert_16 : decode cX4_insert 16 = .ok (.ifCond .le 35, 3) := by decide +kernel
theorem dX4_insert_19 : decode cX4_insert 19 = .ok (.aload_n 0, 1) := by decide +kernel
theorem dX4_insert_20 : decode cX4_insert 20 = .ok (.getfield 18, 3) := by decide +kernel
theorem dX4_insert_23 : decode cX4_insert 23 = .ok (.iload_n 2, 1) := by decide +kernel
theorem dX4_insert_24 : decode cX4_insert 24 = .ok (.iconst 1, 1) := by decide +kernel
theorem dX4_insert_25 : decode cX4_insert 25 = .ok (.isub, 1) := by decide +kernel
theorem dX4_insert_26 : decode cX4_insert 26 = .ok (.iaload, 1) := by decide +kernel
theorem dX4_insert_27 : decode cX4_insert 27 = .ok (.iload_n 1, 1) := by decide +kernel
theorem dX4_insert_28 : decode cX4_insert 28 = .ok (.if_icmp .le 23, 3) := by decide +kernel
theorem dX4_insert_31 : decode cX4_insert 31 = .ok (.aload_n 0, 1) := by decide +kernel
theorem dX4_insert_32 : decode cX4_insert 32 = .ok (.getfield 18, 3) := by decide +kernel
theorem dX4_insert_35 : decode cX4_insert 35 = .ok (.iload_n 2, 1) := by decide +kernel
theorem dX4_insert_36 : decode cX4_insert 36 = .ok (.aload_n 0, 1) := by decide +kernel
theorem dX4_insert_37 : decode cX4_insert 37 = .ok (.getfield 18, 3) := by decide +kernel
theorem dX4_insert_40 : decode cX4_insert 40 = .ok (.iload_n 2, 1) := by decide +kernel
theorem dX4_insert_41 : decode cX4_insert 41 = .ok (.iconst 1, 1) := by decide +kernel
theorem dX4_insert_42 : decode cX4_insert 42 = .ok (.isub, 1) := by decide +kernel
theorem dX4_insert_43 : decode cX4_insert 43 = .ok (.iaload, 1) := by decide +kernel
theorem dX4_insert_44 : decode cX4_insert 44 = .ok (.iastore, 1) := by decide +kernel
theorem dX4_insert_45 : decode cX4_insert 45 = .ok (.iinc 2 (-1), 3) := by decide +kernel
theorem dX4_insert_48 : decode cX4_insert 48 = .ok (.goto (-33), 3) := by decide +kernel
theorem dX4_insert_51 : decode cX4_insert 51 = .ok (.aload_n 0, 1) := by decide +kernel
theorem dX4_insert_52 : decode cX4_insert 52 = .ok (.getfield 18, 3) := by decide +kernel
theorem dX4_insert_55 : decode cX4_insert 55 = .ok (.iload_n 2, 1) := by decide +kernel
theorem dX4_insert_56 : decode cX4_insert 56 = .ok (.iload_n 1, 1) := by decide +kernel
theorem dX4_insert_57 : decode cX4_insert 57 = .ok (.iastore, 1) := by decide +kernel
theorem dX4_insert_58 : decode cX4_insert 58 = .ok (.aload_n 0, 1) := by decide +kernel
theorem dX4_insert_59 : decode cX4_insert 59 = .ok (.dup, 1) := by decide +kernel
theorem dX4_insert_60 : decode cX4_insert 60 = .ok (.getfield 21, 3) := by decide +kernel
theorem dX4_insert_63 : decode cX4_insert 63 = .ok (.iconst 1, 1) := by decide +kernel
theorem dX4_insert_64 : decode cX4_insert 64 = .ok (.iadd, 1) := by decide +kernel
theorem dX4_insert_65 : decode cX4_insert 65 = .ok (.putfield 21, 3) := by decide +kernel
theorem dX4_insert_68 : decode cX4_insert 68 = .ok (.return_, 1) := by decide +kernel
set_option maxRecDepth 20000 in
theorem ggX5_init_X2_init : GoodIn wsX5_init wsX2_init := goodIn_r _ [21, 22, 2, 3, 23, 24, 25, 26, 27, 28, 29, 30, 31, 32, 33, 65, 66, 67, 68, 69, 70, 71, 72, 73, 74] (by decide +kernel) (by decide +kernel)
set_option maxRecDepth 20000 in
theorem gX5_init_X2_init_n9 : GoodIn wsX5_init (wsX2_init) := ggX5_init_X2_init
set_option maxRecDepth 20000 in
theorem ggX5_init_X3_init : GoodIn wsX5_init wsX3_init := goodIn_r _ [35, 36, 2, 3, 23, 37, 38, 39, 40, 41, 42, 79, 80, 81, 82, 83] (by decide +kernel) (by decide +kernel)
set_option maxRecDepth 20000 in
theorem gX5_init_X3_init_n18 : GoodIn wsX5_init (wsX3_init) := ggX5_init_X3_init
set_option maxRecDepth 20000 in
theorem ggX5_init_X1_init : GoodIn wsX5_init wsX1_init := goodIn_r _ [45, 46, 2, 3, 23, 47, 48, 49, 50, 39, 51, 52, 53, 54, 55, 56, 57, 84, 85, 86, 87, 88, 89, 90, 91] (by decide +kernel) (by decide +kernel)
set_option maxRecDepth 20000 in
theorem gX5_init_X1_init : GoodIn wsX5_init (wsX1_init) := ggX5_init_X1_init
set_option maxRecDepth 20000 in
theorem ggX5_init_X4_init : GoodIn wsX5_init wsX4_init := goodIn_r _ [59, 60, 2, 3, 23, 61, 62, 63, 64, 92, 93, 94, 95] (by decide +kernel) (by decide +kernel)
set_option maxRecDepth 20000 in
theorem gX5_init_X4_init_n32 : GoodIn wsX5_init (wsX4_init) := ggX5_init_X4_init
theorem dX5_init_0 : decode cX5_init 0 = .ok (.aload_n 0, 1) := by decide +kernel
theorem dX5_init_1 : decode cX5_init 1 = .ok (.invokespecial 1, 3) := by decide +kernel
theorem dX5_init_4 : decode cX5_init 4 = .ok (.aload_n 0, 1) := by decide +kernel
theorem dX5_init_5 : decode cX5_init 5 = .ok (.new 7, 3) := by decide +kernel
theorem dX5_init_8 : decode cX5_init 8 = .ok (.dup, 1) := by decide +kernel
theorem dX5_init_9 : decode cX5_init 9 = .ok (.invokespecial 9, 3) := by decide +kernel
theorem dX5_init_12 : decode cX5_init 12 = .ok (.putfield 10, 3) := by decide +kernel
theorem dX5_init_15 : decode cX5_init 15 = .ok (.aload_n 0, 1) := by decide +kernel
theorem dX5_init_16 : decode cX5_init 16 = .ok (.new 16, 3) := by decide +kernel
theorem dX5_init_19 : decode cX5_init 19 = .ok (.dup, 1) := by decide +kernel
theorem dX5_init_20 : decode cX5_init 20 = .ok (.invokespecial 18, 3) := by decide +kernel
theorem dX5_init_23 : decode cX5_init 23 = .ok (.putfield 19, 3) := by decide +kernel
theorem dX5_init_26 : decode cX5_init 26 = .ok (.aload_n 0, 1) := by decide +kernel
theorem dX5_init_27 : decode cX5_init 27 = .ok (.new 23, 3) := by decide +kernel
theorem dX5_init_30 : decode cX5_init 30 = .ok (.dup, 1) := by decide +kernel
theorem dX5_init_31 : decode cX5_init 31 = .ok (.invokespecial 25, 3) := by decide +kernel
theorem dX5_init_34 : decode cX5_init 34 = .ok (.putfield 26, 3) := by decide +kernel
theorem dX5_init_37 : decode cX5_init 37 = .ok (.aload_n 0, 1) := by decide +kernel
theorem dX5_init_38 : decode cX5_init 38 = .ok (.new 30, 3) := by decide +kernel
theorem dX5_init_41 : decode cX5_init 41 = .ok (.dup, 1) := by decide +kernel
theorem dX5_init_42 : decode cX5_init 42 = .ok (.invokespecial 32, 3) := by decide +kernel
theorem dX5_init_45 : decode cX5_init 45 = .ok (.putfield 33, 3) := by decide +kernel
theorem dX5_init_48 : decode cX5_init 48 = .ok (.return_, 1) := by decide +kernel
set_option maxRecDepth 20000 in
theorem ggX5_row_X5_isLabelOrNone : GoodIn wsX5_row wsX5_isLabelOrNone := goodIn_r _ [5, 6, 7, 4, 8, 9, 10, 11] (by decide +kernel) (by decide +kernel)
set_option maxRecDepth 20000 in
theorem gX5_row_X5_isLabelOrNone : GoodIn wsX5_row (va_wsS RX5 37 yX5_isLabelOrNone wsX5_isLabelOrNone) := goodIn_app (goodIn_of _ (by decide +kernel)) ggX5_row_X5_isLabelOrNone
set_option maxRecDepth 20000 in
theorem ggX5_row_X2_isFull : GoodIn wsX5_row wsX2_isFull := goodIn_r _ [16, 17, 47, 48, 49, 50, 51, 52, 53, 54, 55, 56] (by decide +kernel) (by decide +kernel)
set_option maxRecDepth 20000 in
theorem gX5_row_X2_isFull : GoodIn wsX5_row (wsV RX5 41 RX2 yX2_isFull wsX2_isFull) := goodIn_app (goodIn_of _ (by decide +kernel)) ggX5_row_X2_isFull
set_option maxRecDepth 20000 in
theorem ggX5_row_X2_open : GoodIn wsX5_row wsX2_open := goodIn_r _ [21, 17, 22, 23, 24, 25, 15, 26, 27, 28, 4, 29, 30, 31, 32, 33, 34, 35, 36, 37, 38, 39, 40, 41, 42, 47, 48, 49, 50, 51, 52, 53, 54, 55, 56] (by decide +kernel) (by decide +kernel)
set_option maxRecDepth 20000 in
theorem gX5_row_X2_open : GoodIn wsX5_row (wsV RX5 45 RX2 yX2_open wsX2_open) := goodIn_app (goodIn_of _ (by decide +kernel)) ggX5_row_X2_open
theorem dX5_row_0 : decode cX5_row 0 = .ok (.iload_n 1, 1) := by decide +kernel
theorem dX5_row_1 : decode cX5_row 1 = .ok (.invokestatic 37, 3) := by decide +kernel
theorem dX5_row_4 : decode cX5_row 4 = .ok (.ifCond .ne 6, 3) := by decide +kernel
theorem dX5_row_7 : decode cX5_row 7 = .ok (.bipush (-2), 2) := by decide +kernel
theorem dX5_row_9 : decode cX5_row 9 = .ok (.ireturn, 1) := by decide +kernel
theorem dX5_row_10 : decode cX5_row 10 = .ok (.aload_n 0, 1) := by decide +kernel
theorem dX5_row_11 : decode cX5_row 11 = .ok (.getfield 10, 3) := by decide +kernel
theorem dX5_row_14 : decode cX5_row 14 = .ok (.invokevirtual 41, 3) := by decide +kernel
theorem dX5_row_17 : decode cX5_row 17 = .ok (.ifCond .eq 6, 3) := by decide +kernel
theorem dX5_row_20 : decode cX5_row 20 = .ok (.bipush (-3), 2) := by decide +kernel
theorem dX5_row_22 : decode cX5_row 22 = .ok (.ireturn, 1) := by decide +kernel
theorem dX5_row_23 : decode cX5_row 23 = .ok (.aload_n 0, 1) := by decide +kernel
theorem dX5_row_24 : decode cX5_row 24 = .ok (.getfield 10, 3) := by decide +kernel
theorem dX5_row_27 : decode cX5_row 27 = .ok (.iload_n 1, 1) := by decide +kernel
theorem dX5_row_28 : decode cX5_row 28 = .ok (.invokevirtual 45, 3) := by decide +kernel
theorem dX5_row_31 : decode cX5_row 31 = .ok (.ireturn, 1) := by decide +kernel
set_option maxRecDepth 20000 in
theorem ggX5_word_X2_has : GoodIn wsX5_word wsX2_has := goodIn_r _ [6, 7, 48, 49, 50, 51, 52, 53, 54, 55, 56, 57] (by decide +kernel) (by decide +kernel)
set_option maxRecDepth 20000 in
theorem gX5_word_X2_has : GoodIn wsX5_word (wsV RX5 49 RX2 yX2_has wsX2_has) := goodIn_app (goodIn_of _ (by decide +kernel)) ggX5_word_X2_has
