set_option maxRecDepth 20000 in
theorem ggX5_word_X5_isWord : GoodIn wsX5_word wsX5_isWord := goodIn_r _ [11, 12, 13, 10, 14] (by decide +kernel) (by decide +kernel)
set_option maxRecDepth 20000 in
theorem gX5_word_X5_isWord : GoodIn wsX5_word (va_wsS RX5 52 yX5_isWord wsX5_isWord) := goodIn_app (goodIn_of _ (by decide +kernel)) ggX5_word_X5_isWord
set_option maxRecDepth 20000 in
theorem ggX5_word_X2_isFullRow : GoodIn wsX5_word wsX2_isFullRow := goodIn_r _ [18, 19, 48, 49, 50, 51, 52, 53, 54, 55, 56, 57] (by decide +kernel) (by decide +kernel)
set_option maxRecDepth 20000 in
theorem gX5_word_X2_isFullRow : GoodIn wsX5_word (wsV RX5 55 RX2 yX2_isFullRow wsX2_isFullRow) := goodIn_app (goodIn_of _ (by decide +kernel)) ggX5_word_X2_isFullRow
set_option maxRecDepth 20000 in
theorem ggX5_word_X2_append : GoodIn wsX5_word wsX2_append := goodIn_r _ [23, 24, 19, 25, 26, 27, 5, 28, 29, 30, 10, 31, 32, 33, 34, 35, 36, 37, 38, 7, 39, 40, 41, 42, 43, 48, 49, 50, 51, 52, 53, 54, 55, 56, 57] (by decide +kernel) (by decide +kernel)
set_option maxRecDepth 20000 in
theorem gX5_word_X2_append : GoodIn wsX5_word (wsV RX5 58 RX2 yX2_append wsX2_append) := goodIn_app (goodIn_of _ (by decide +kernel)) ggX5_word_X2_append
theorem dX5_word_0 : decode cX5_word 0 = .ok (.aload_n 0, 1) := by decide +kernel
theorem dX5_word_1 : decode cX5_word 1 = .ok (.getfield 10, 3) := by decide +kernel
theorem dX5_word_4 : decode cX5_word 4 = .ok (.iload_n 1, 1) := by decide +kernel
theorem dX5_word_5 : decode cX5_word 5 = .ok (.invokevirtual 49, 3) := by decide +kernel
theorem dX5_word_8 : decode cX5_word 8 = .ok (.ifCond .eq 10, 3) := by decide +kernel
theorem dX5_word_11 : decode cX5_word 11 = .ok (.iload_n 2, 1) := by decide +kernel
theorem dX5_word_12 : decode cX5_word 12 = .ok (.invokestatic 52, 3) := by decide +kernel
theorem dX5_word_15 : decode cX5_word 15 = .ok (.ifCond .ne 6, 3) := by decide +kernel
theorem dX5_word_18 : decode cX5_word 18 = .ok (.bipush (-2), 2) := by decide +kernel
theorem dX5_word_20 : decode cX5_word 20 = .ok (.ireturn, 1) := by decide +kernel
theorem dX5_word_21 : decode cX5_word 21 = .ok (.aload_n 0, 1) := by decide +kernel
theorem dX5_word_22 : decode cX5_word 22 = .ok (.getfield 10, 3) := by decide +kernel
theorem dX5_word_25 : decode cX5_word 25 = .ok (.iload_n 1, 1) := by decide +kernel
theorem dX5_word_26 : decode cX5_word 26 = .ok (.invokevirtual 55, 3) := by decide +kernel
theorem dX5_word_29 : decode cX5_word 29 = .ok (.ifCond .eq 6, 3) := by decide +kernel
theorem dX5_word_32 : decode cX5_word 32 = .ok (.bipush (-3), 2) := by decide +kernel
theorem dX5_word_34 : decode cX5_word 34 = .ok (.ireturn, 1) := by decide +kernel
theorem dX5_word_35 : decode cX5_word 35 = .ok (.aload_n 0, 1) := by decide +kernel
theorem dX5_word_36 : decode cX5_word 36 = .ok (.getfield 10, 3) := by decide +kernel
theorem dX5_word_39 : decode cX5_word 39 = .ok (.iload_n 1, 1) := by decide +kernel
theorem dX5_word_40 : decode cX5_word 40 = .ok (.iload_n 2, 1) := by decide +kernel
theorem dX5_word_41 : decode cX5_word 41 = .ok (.invokevirtual 58, 3) := by decide +kernel
theorem dX5_word_44 : decode cX5_word 44 = .ok (.ireturn, 1) := by decide +kernel
set_option maxRecDepth 20000 in
theorem ggX5_label_X2_has : GoodIn wsX5_label wsX2_has := goodIn_r _ [6, 7, 47, 48, 49, 50, 51, 52, 53, 54, 55, 56] (by decide +kernel) (by decide +kernel)
set_option maxRecDepth 20000 in
theorem gX5_label_X2_has : GoodIn wsX5_label (wsV RX5 49 RX2 yX2_has wsX2_has) := goodIn_app (goodIn_of _ (by decide +kernel)) ggX5_label_X2_has
set_option maxRecDepth 20000 in
theorem ggX5_label_X5_isLabelOrNone : GoodIn wsX5_label wsX5_isLabelOrNone := goodIn_r _ [11, 12, 13, 10, 14, 15, 16, 17] (by decide +kernel) (by decide +kernel)
set_option maxRecDepth 20000 in
theorem gX5_label_X5_isLabelOrNone : GoodIn wsX5_label (va_wsS RX5 37 yX5_isLabelOrNone wsX5_isLabelOrNone) := goodIn_app (goodIn_of _ (by decide +kernel)) ggX5_label_X5_isLabelOrNone
set_option maxRecDepth 20000 in
theorem ggX5_label_X2_relabel : GoodIn wsX5_label wsX2_relabel := goodIn_r _ [21, 22, 23, 24, 25, 5, 26, 27, 28, 10, 29, 30, 31, 32, 33, 34, 35, 36, 7, 37, 38, 39, 40, 41, 42, 47, 48, 49, 50, 51, 52, 53, 54, 55, 56] (by decide +kernel) (by decide +kernel)
set_option maxRecDepth 20000 in
theorem gX5_label_X2_relabel : GoodIn wsX5_label (wsV RX5 62 RX2 yX2_relabel wsX2_relabel) := goodIn_app (goodIn_of _ (by decide +kernel)) ggX5_label_X2_relabel
theorem dX5_label_0 : decode cX5_label 0 = .ok (.aload_n 0, 1) := by decide +kernel
theorem dX5_label_1 : decode cX5_label 1 = .ok (.getfield 10, 3) := by decide +kernel
theorem dX5_label_4 : decode cX5_label 4 = .ok (.iload_n 1, 1) := by decide +kernel
theorem dX5_label_5 : decode cX5_label 5 = .ok (.invokevirtual 49, 3) := by decide +kernel
theorem dX5_label_8 : decode cX5_label 8 = .ok (.ifCond .eq 10, 3) := by decide +kernel
theorem dX5_label_11 : decode cX5_label 11 = .ok (.iload_n 2, 1) := by decide +kernel
theorem dX5_label_12 : decode cX5_label 12 = .ok (.invokestatic 37, 3) := by decide +kernel
theorem dX5_label_15 : decode cX5_label 15 = .ok (.ifCond .ne 6, 3) := by decide +kernel
theorem dX5_label_18 : decode cX5_label 18 = .ok (.bipush (-2), 2) := by decide +kernel
theorem dX5_label_20 : decode cX5_label 20 = .ok (.ireturn, 1) := by decide +kernel
theorem dX5_label_21 : decode cX5_label 21 = .ok (.aload_n 0, 1) := by decide +kernel
theorem dX5_label_22 : decode cX5_label 22 = .ok (.getfield 10, 3) := by decide +kernel
theorem dX5_label_25 : decode cX5_label 25 = .ok (.iload_n 1, 1) := by decide +kernel
theorem dX5_label_26 : decode cX5_label 26 = .ok (.iload_n 2, 1) := by decide +kernel
theorem dX5_label_27 : decode cX5_label 27 = .ok (.invokevirtual 62, 3) := by decide +kernel
theorem dX5_label_30 : decode cX5_label 30 = .ok (.ireturn, 1) := by decide +kernel
set_option maxRecDepth 20000 in
theorem ggX5_addition_X5_isWithin : GoodIn wsX5_addition wsX5_isWithin := goodIn_r _ [5] (by decide +kernel) (by decide +kernel)
set_option maxRecDepth 20000 in
theorem gX5_addition_X5_isWithin : GoodIn wsX5_addition (va_wsS RX5 65 yX5_isWithin wsX5_isWithin) := goodIn_app (goodIn_of _ (by decide +kernel)) ggX5_addition_X5_isWithin
set_option maxRecDepth 20000 in
theorem ggX5_addition_X2_setAddition : GoodIn wsX5_addition wsX2_setAddition := goodIn_r _ [10, 11, 12, 13, 14, 15, 9, 16, 17, 18, 4, 19, 20, 21, 22, 23, 24, 25, 26, 27, 28, 29, 30, 31, 32, 33, 34, 39, 40, 41, 42, 43, 44, 45, 46, 47, 48] (by decide +kernel) (by decide +kernel)
set_option maxRecDepth 20000 in
theorem gX5_addition_X2_setAddition : GoodIn wsX5_addition (wsV RX5 69 RX2 yX2_setAddition wsX2_setAddition) := goodIn_app (goodIn_of _ (by decide +kernel)) ggX5_addition_X2_setAddition
theorem dX5_addition_0 : decode cX5_addition 0 = .ok (.iload_n 1, 1) := by decide +kernel
theorem dX5_addition_1 : decode cX5_addition 1 = .ok (.iconst 0, 1) := by decide +kernel
theorem dX5_addition_2 : decode cX5_addition 2 = .ok (.iconst 3, 1) := by decide +kernel
theorem dX5_addition_3 : decode cX5_addition 3 = .ok (.invokestatic 65, 3) := by decide +kernel
theorem dX5_addition_6 : decode cX5_addition 6 = .ok (.ifCond .eq 12, 3) := by decide +kernel
theorem dX5_addition_9 : decode cX5_addition 9 = .ok (.iload_n 2, 1) := by decide +kernel
theorem dX5_addition_10 : decode cX5_addition 10 = .ok (.iconst 1, 1) := by decide +kernel
theorem dX5_addition_11 : decode cX5_addition 11 = .ok (.iconst 3, 1) := by decide +kernel
theorem dX5_addition_12 : decode cX5_addition 12 = .ok (.invokestatic 65, 3) := by decide +kernel
theorem dX5_addition_15 : decode cX5_addition 15 = .ok (.ifCond .ne 6, 3) := by decide +kernel
theorem dX5_addition_18 : decode cX5_addition 18 = .ok (.bipush (-2), 2) := by decide +kernel
theorem dX5_addition_20 : decode cX5_addition 20 = .ok (.ireturn, 1) := by decide +kernel
theorem dX5_addition_21 : decode cX5_addition 21 = .ok (.aload_n 0, 1) := by decide +kernel
theorem dX5_addition_22 : decode cX5_addition 22 = .ok (.getfield 10, 3) := by decide +kernel
theorem dX5_addition_25 : decode cX5_addition 25 = .ok (.iload_n 1, 1) := by decide +kernel
theorem dX5_addition_26 : decode cX5_addition 26 = .ok (.iload_n 2, 1) := by decide +kernel
theorem dX5_addition_27 : decode cX5_addition 27 = .ok (.invokevirtual 69, 3) := by decide +kernel
theorem dX5_addition_30 : decode cX5_addition 30 = .ok (.iconst 1, 1) := by decide +kernel
theorem dX5_addition_31 : decode cX5_addition 31 = .ok (.ireturn, 1) := by decide +kernel
set_option maxRecDepth 20000 in
theorem ggX5_counted_X5_isLabel : GoodIn wsX5_counted wsX5_isLabel := goodIn_r _ [5, 6, 7, 4, 8] (by decide +kernel) (by decide +kernel)
set_option maxRecDepth 20000 in
theorem gX5_counted_X5_isLabel : GoodIn wsX5_counted (va_wsS RX5 73 yX5_isLabel wsX5_isLabel) := goodIn_app (goodIn_of _ (by decide +kernel)) ggX5_counted_X5_isLabel
set_option maxRecDepth 20000 in
theorem ggX5_counted_X5_isWord : GoodIn wsX5_counted wsX5_isWord := goodIn_r _ [11, 6, 7, 4, 8] (by decide +kernel) (by decide +kernel)
set_option maxRecDepth 20000 in
theorem gX5_counted_X5_isWord : GoodIn wsX5_counted (va_wsS RX5 52 yX5_isWord wsX5_isWord) := goodIn_app (goodIn_of _ (by decide +kernel)) ggX5_counted_X5_isWord
set_option maxRecDepth 20000 in
theorem ggX5_counted_X2_timesIn : GoodIn wsX5_counted wsX2_timesIn := goodIn_r _ [16, 17, 32, 33, 34, 35, 36, 37, 38, 39, 40, 41] (by decide +kernel) (by decide +kernel)
set_option maxRecDepth 20000 in
theorem gX5_counted_X2_timesIn : GoodIn wsX5_counted (wsV RX5 76 RX2 yX2_timesIn wsX2_timesIn) := goodIn_app (goodIn_of _ (by decide +kernel)) ggX5_counted_X2_timesIn
set_option maxRecDepth 20000 in
theorem ggX5_counted_X2_wordsIn : GoodIn wsX5_counted wsX2_wordsIn := goodIn_r _ [21, 22, 32, 33, 34, 35, 36, 37, 38, 39, 40, 41] (by decide +kernel) (by decide +kernel)
set_option maxRecDepth 20000 in
theorem gX5_counted_X2_wordsIn : GoodIn wsX5_counted (wsV RX5 79 RX2 yX2_wordsIn wsX2_wordsIn) := goodIn_app (goodIn_of _ (by decide +kernel)) ggX5_counted_X2_wordsIn
set_option maxRecDepth 20000 in
theorem ggX5_counted_X2_rowsIn : GoodIn wsX5_counted wsX2_rowsIn := goodIn_r _ [26, 27, 32, 33, 34, 35, 36, 37, 38, 39, 40, 41] (by decide +kernel) (by decide +kernel)
set_option maxRecDepth 20000 in
theorem gX5_counted_X2_rowsIn : GoodIn wsX5_counted (wsV RX5 82 RX2 yX2_rowsIn wsX2_rowsIn) := goodIn_app (goodIn_of _ (by decide +kernel)) ggX5_counted_X2_rowsIn
theorem dX5_counted_0 : decode cX5_counted 0 = .ok (.iload_n 1, 1) := by decide +kernel
theorem dX5_counted_1 : decode cX5_counted 1 = .ok (.invokestatic 73, 3) := by decide +kernel
theorem dX5_counted_4 : decode cX5_counted 4 = .ok (.ifCond .ne 6, 3) := by decide +kernel
theorem dX5_counted_7 : decode cX5_counted 7 = .ok (.bipush (-2), 2) := by decide +kernel
theorem dX5_counted_9 : decode cX5_counted 9 = .ok (.ireturn, 1) := by decide +kernel
theorem dX5_counted_10 : decode cX5_counted 10 = .ok (.iload_n 2, 1) := by decide +kernel
theorem dX5_counted_11 : decode cX5_counted 11 = .ok (.invokestatic 52, 3) := by decide +kernel
theorem dX5_counted_14 : decode cX5_counted 14 = .ok (.ifCond .eq 13, 3) := by decide +kernel
theorem dX5_counted_17 : decode cX5_counted 17 = .ok (.aload_n 0, 1) := by decide +kernel
theorem dX5_counted_18 : decode cX5_counted 18 = .ok (.getfield 10, 3) := by decide +kernel
theorem dX5_counted_21 : decode cX5_counted 21 = .ok (.iload_n 1, 1) := by decide +kernel
theorem dX5_counted_22 : decode cX5_counted 22 = .ok (.iload_n 2, 1) := by decide +kernel
theorem dX5_counted_23 : decode cX5_counted 23 = .ok (.invokevirtual 76, 3) := by decide +kernel
theorem dX5_counted_26 : decode cX5_counted 26 = .ok (.ireturn, 1) := by decide +kernel
theorem dX5_counted_27 : decode cX5_counted 27 = .ok (.iload_n 2, 1) := by decide +kernel
theorem dX5_counted_28 : decode cX5_counted 28 = .ok (.bipush 8, 2) := by decide +kernel
theorem dX5_counted_30 : decode cX5_counted 30 = .ok (.if_icmp .ne 12, 3) := by decide +kernel
theorem dX5_counted_33 : decode cX5_counted 33 = .ok (.aload_n 0, 1) := by decide +kernel
theorem dX5_counted_34 : decode cX5_counted 34 = .ok (.getfield 10, 3) := by decide +kernel
theorem dX5_counted_37 : decode cX5_counted 37 = .ok (.iload_n 1, 1) := by decide +kernel
theorem dX5_counted_38 : decode cX5_counted 38 = .ok (.invokevirtual 79, 3) := by decide +kernel
theorem dX5_counted_41 : decode cX5_counted 41 = .ok (.ireturn, 1) := by decide +kernel
theorem dX5_counted_42 : decode cX5_counted 42 = .ok (.iload_n 2, 1) := by decide +kernel
theorem dX5_counted_43 : decode cX5_counted 43 = .ok (.bipush 9, 2) := by decide +kernel
theorem dX5_counted_45 : decode cX5_counted 45 = .ok (.if_icmp .ne 14, 3) := by decide +kernel
theorem dX5_counted_48 : decode cX5_counted 48 = .ok (.aload_n 0, 1) := by decide +kernel
theorem dX5_counted_49 : decode cX5_counted 49 = .ok (.getfield 10, 3) := by decide +kernel
theorem dX5_counted_52 : decode cX5_counted 52 = .ok (.iload_n 1, 1) := by decide +kernel
theorem dX5_counted_53 : decode cX5_counted 53 = .ok (.invokevirtual 82, 3) := by decide +kernel
theorem dX5_counted_56 : decode cX5_counted 56 = .ok (.goto 5, 3) := by decide +kernel
theorem dX5_counted_59 : decode cX5_counted 59 = .ok (.bipush (-2), 2) := by decide +kernel
theorem dX5_counted_61 : decode cX5_counted 61 = .ok (.ireturn, 1) := by decide +kernel
set_option maxRecDepth 20000 in
theorem ggX5_share_X5_isLabel : GoodIn wsX5_share wsX5_isLabel := goodIn_r _ [8, 9, 10, 7, 11] (by decide +kernel) (by decide +kernel)
set_option maxRecDepth 20000 in
theorem gX5_share_X5_isLabel : GoodIn wsX5_share (va_wsS RX5 73 yX5_isLabel wsX5_isLabel) := goodIn_app (goodIn_of _ (by decide +kernel)) ggX5_share_X5_isLabel
set_option maxRecDepth 20000 in
theorem ggX5_share_X5_isWord : GoodIn wsX5_share wsX5_isWord := goodIn_r _ [14, 9, 10, 7, 11] (by decide +kernel) (by decide +kernel)
set_option maxRecDepth 20000 in
theorem gX5_share_X5_isWord : GoodIn wsX5_share (va_wsS RX5 52 yX5_isWord wsX5_isWord) := goodIn_app (goodIn_of _ (by decide +kernel)) ggX5_share_X5_isWord
set_option maxRecDepth 20000 in
theorem ggX5_share_X5_isSide : GoodIn wsX5_share wsX5_isSide := goodIn_r _ [17, 9, 10, 7, 11] (by decide +kernel) (by decide +kernel)
set_option maxRecDepth 20000 in
theorem gX5_share_X5_isSide : GoodIn wsX5_share (va_wsS RX5 85 yX5_isSide wsX5_isSide) := goodIn_app (goodIn_of _ (by decide +kernel)) ggX5_share_X5_isSide
set_option maxRecDepth 20000 in
theorem ggX5_share_X2_shareLower : GoodIn wsX5_share wsX2_shareLower := goodIn_r _ [22, 23, 24, 25, 26, 47, 48, 49, 50, 51, 52, 53, 54, 55, 56] (by decide +kernel) (by decide +kernel)
set_option maxRecDepth 20000 in
theorem gX5_share_X2_shareLower : GoodIn wsX5_share (wsV RX5 90 RX2 yX2_shareLower wsX2_shareLower) := goodIn_app (goodIn_of _ (by decide +kernel)) ggX5_share_X2_shareLower
set_option maxRecDepth 20000 in
theorem ggX5_share_X2_shareUpper : GoodIn wsX5_share wsX2_shareUpper := goodIn_r _ [30, 24, 26, 31, 32, 33, 21, 34, 35, 47, 48, 49, 50, 51, 52, 53, 54, 55, 56] (by decide +kernel) (by decide +kernel)
set_option maxRecDepth 20000 in
theorem gX5_share_X2_shareUpper : GoodIn wsX5_share (wsV RX5 101 RX2 yX2_shareUpper wsX2_shareUpper) := goodIn_app (goodIn_of _ (by decide +kernel)) ggX5_share_X2_shareUpper
set_option maxRecDepth 20000 in
theorem ggX5_share_X0_sideOf : GoodIn wsX5_share wsX0_sideOf := goodIn_r _ [39, 40, 41, 38, 42] (by decide +kernel) (by decide +kernel)
set_option maxRecDepth 20000 in
theorem gX5_share_X0_sideOf : GoodIn wsX5_share (va_wsS RX5 105 yX0_sideOf wsX0_sideOf) := goodIn_app (goodIn_of _ (by decide +kernel)) ggX5_share_X0_sideOf
theorem dX5_share_0 : decode cX5_share 0 = .ok (.iload_n 1, 1) := by decide +kernel
theorem dX5_share_1 : decode cX5_share 1 = .ok (.invokestatic 73, 3) := by decide +kernel
theorem dX5_share_4 : decode cX5_share 4 = .ok (.ifCond .eq 17, 3) := by decide +kernel
theorem dX5_share_7 : decode cX5_share 7 = .ok (.iload_n 2, 1) := by decide +kernel
theorem dX5_share_8 : decode cX5_share 8 = .ok (.invokestatic 52, 3) := by decide +kernel
theorem dX5_share_11 : decode cX5_share 11 = .ok (.ifCond .eq 10, 3) := by decide +kernel
theorem dX5_share_14 : decode cX5_share 14 = .ok (.iload_n 3, 1) := by decide +kernel
theorem dX5_share_15 : decode cX5_share 15 = .ok (.invokestatic 85, 3) := by decide +kernel
theorem dX5_share_18 : decode cX5_share 18 = .ok (.ifCond .ne 7, 3) := by decide +kernel
theorem dX5_share_21 : decode cX5_share 21 = .ok (.ldc2_w 88, 3) := by decide +kernel
theorem dX5_share_24 : decode cX5_share 24 = .ok (.lreturn, 1) := by decide +kernel
theorem dX5_share_25 : decode cX5_share 25 = .ok (.aload_n 0, 1) := by decide +kernel
theorem dX5_share_26 : decode cX5_share 26 = .ok (.getfield 10, 3) := by decide +kernel
theorem dX5_share_29 : decode cX5_share 29 = .ok (.iload_n 1, 1) := by decide +kernel
theorem dX5_share_30 : decode cX5_share 30 = .ok (.invokevirtual 90, 3) := by decide +kernel
theorem dX5_share_33 : decode cX5_share 33 = .ok (.lstore 4, 2) := by decide +kernel
theorem dX5_share_35 : decode cX5_share 35 = .ok (.lload 4, 2) := by decide +kernel
theorem dX5_share_37 : decode cX5_share 37 = .ok (.lconst 0, 1) := by decide +kernel
theorem dX5_share_38 : decode cX5_share 38 = .ok (.lcmp, 1) := by decide +kernel
theorem dX5_share_39 : decode cX5_share 39 = .ok (.ifCond .ne 13, 3) := by decide +kernel
theorem dX5_share_42 : decode cX5_share 42 = .ok (.new 94, 3) := by decide +kernel
theorem dX5_share_45 : decode cX5_share 45 = .ok (.dup, 1) := by decide +kernel
theorem dX5_share_46 : decode cX5_share 46 = .ok (.ldc 96, 2) := by decide +kernel
theorem dX5_share_48 : decode cX5_share 48 = .ok (.invokespecial 98, 3) := by decide +kernel
theorem dX5_share_51 : decode cX5_share 51 = .ok (.athrow, 1) := by decide +kernel
theorem dX5_share_52 : decode cX5_share 52 = .ok (.aload_n 0, 1) := by decide +kernel
theorem dX5_share_53 : decode cX5_share 53 = .ok (.getfield 10, 3) := by decide +kernel
theorem dX5_share_56 : decode cX5_share 56 = .ok (.iload_n 1, 1) := by decide +kernel
theorem dX5_share_57 : decode cX5_share 57 = .ok (.iload_n 2, 1) := by decide +kernel
theorem dX5_share_58 : decode cX5_share 58 = .ok (.invokevirtual 101, 3) := by decide +kernel
theorem dX5_share_61 : decode cX5_share 61 = .ok (.lload 4, 2) := by decide +kernel
theorem dX5_share_63 : decode cX5_share 63 = .ok (.iload_n 3, 1) := by decide +kernel
theorem dX5_share_64 : decode cX5_share 64 = .ok (.invokestatic 105, 3) := by decide +kernel
theorem dX5_share_67 : decode cX5_share 67 = .ok (.lreturn, 1) := by decide +kernel
set_option maxRecDepth 20000 in
theorem ggX5_weight_X2_has : GoodIn wsX5_weight wsX2_has := goodIn_r _ [7, 8, 58, 59, 60, 61, 62, 63, 64, 65, 66, 67] (by decide +kernel) (by decide +kernel)
set_option maxRecDepth 20000 in
theorem gX5_weight_X2_has : GoodIn wsX5_weight (wsV RX5 49 RX2 yX2_has wsX2_has) := goodIn_app (goodIn_of _ (by decide +kernel)) ggX5_weight_X2_has
set_option maxRecDepth 20000 in
theorem ggX5_weight_X5_isLabel : GoodIn wsX5_weight wsX5_isLabel := goodIn_r _ [12, 13, 14, 11, 15] (by decide +kernel) (by decide +kernel)
set_option maxRecDepth 20000 in
theorem gX5_weight_X5_isLabel : GoodIn wsX5_weight (va_wsS RX5 73 yX5_isLabel wsX5_isLabel) := goodIn_app (goodIn_of _ (by decide +kernel)) ggX5_weight_X5_isLabel
set_option maxRecDepth 20000 in
theorem ggX5_weight_X5_isSide : GoodIn wsX5_weight wsX5_isSide := goodIn_r _ [18, 13, 14, 11, 15] (by decide +kernel) (by decide +kernel)
set_option maxRecDepth 20000 in
theorem gX5_weight_X5_isSide : GoodIn wsX5_weight (va_wsS RX5 85 yX5_isSide wsX5_isSide) := goodIn_app (goodIn_of _ (by decide +kernel)) ggX5_weight_X5_isSide
set_option maxRecDepth 20000 in
theorem ggX5_weight_X2_weightUpper : GoodIn wsX5_weight wsX2_weightUpper := goodIn_r _ [22, 23, 24, 25, 26, 27, 28, 6, 29, 30, 31, 32, 33, 34, 35, 36, 58, 59, 60, 61, 62, 63, 64, 65, 66, 67] (by decide +kernel) (by decide +kernel)
set_option maxRecDepth 20000 in
theorem gX5_weight_X2_weightUpper : GoodIn wsX5_weight (wsV RX5 111 RX2 yX2_weightUpper wsX2_weightUpper) := goodIn_app (goodIn_of _ (by decide +kernel)) ggX5_weight_X2_weightUpper
set_option maxRecDepth 20000 in
theorem ggX5_weight_X2_weightLower : GoodIn wsX5_weight wsX2_weightLower := goodIn_r _ [40, 24, 41, 42, 43, 6, 44, 45, 30, 46, 31, 58, 59, 60, 61, 62, 63, 64, 65, 66, 67] (by decide +kernel) (by decide +kernel)
set_option maxRecDepth 20000 in
theorem gX5_weight_X2_weightLower : GoodIn wsX5_weight (wsV RX5 114 RX2 yX2_weightLower wsX2_weightLower) := goodIn_app (goodIn_of _ (by decide +kernel)) ggX5_weight_X2_weightLower
set_option maxRecDepth 20000 in
theorem ggX5_weight_X0_sideOf : GoodIn wsX5_weight wsX0_sideOf := goodIn_r _ [50, 51, 52, 49, 53] (by decide +kernel) (by decide +kernel)
set_option maxRecDepth 20000 in
theorem gX5_weight_X0_sideOf : GoodIn wsX5_weight (va_wsS RX5 105 yX0_sideOf wsX0_sideOf) := goodIn_app (goodIn_of _ (by decide +kernel)) ggX5_weight_X0_sideOf
theorem dX5_weight_0 : decode cX5_weight 0 = .ok (.aload_n 0, 1) := by decide +kernel
theorem dX5_weight_1 : decode cX5_weight 1 = .ok (.getfield 10, 3) := by decide +kernel
theorem dX5_weight_4 : decode cX5_weight 4 = .ok (.iload_n 1, 1) := by decide +kernel
theorem dX5_weight_5 : decode cX5_weight 5 = .ok (.invokevirtual 49, 3) := by decide +kernel
theorem dX5_weight_8 : decode cX5_weight 8 = .ok (.ifCond .eq 17, 3) := by decide +kernel
theorem dX5_weight_11 : decode cX5_weight 11 = .ok (.iload_n 2, 1) := by decide +kernel
theorem dX5_weight_12 : decode cX5_weight 12 = .ok (.invokestatic 73, 3) := by decide +kernel
theorem dX5_weight_15 : decode cX5_weight 15 = .ok (.ifCond .eq 10, 3) := by decide +kernel
theorem dX5_weight_18 : decode cX5_weight 18 = .ok (.iload_n 3, 1) := by decide +kernel
theorem dX5_weight_19 : decode cX5_weight 19 = .ok (.invokestatic 85, 3) := by decide +kernel
theorem dX5_weight_22 : decode cX5_weight 22 = .ok (.ifCond .ne 7, 3) := by decide +kernel
theorem dX5_weight_25 : decode cX5_weight 25 = .ok (.ldc2_w 88, 3) := by decide +kernel
theorem dX5_weight_28 : decode cX5_weight 28 = .ok (.lreturn, 1) := by decide +kernel
theorem dX5_weight_29 : decode cX5_weight 29 = .ok (.aload_n 0, 1) := by decide +kernel
theorem dX5_weight_30 : decode cX5_weight 30 = .ok (.getfield 10, 3) := by decide +kernel
theorem dX5_weight_33 : decode cX5_weight 33 = .ok (.iload_n 1, 1) := by decide +kernel
theorem dX5_weight_34 : decode cX5_weight 34 = .ok (.iload_n 2, 1) := by decide +kernel
theorem dX5_weight_35 : decode cX5_weight 35 = .ok (.invokevirtual 111, 3) := by decide +kernel
theorem dX5_weight_38 : decode cX5_weight 38 = .ok (.aload_n 0, 1) := by decide +kernel
theorem dX5_weight_39 : decode cX5_weight 39 = .ok (.getfield 10, 3) := by decide +kernel
theorem dX5_weight_42 : decode cX5_weight 42 = .ok (.iload_n 1, 1) := by decide +kernel
theorem dX5_weight_43 : decode cX5_weight 43 = .ok (.iload_n 2, 1) := by decide +kernel
theorem dX5_weight_44 : decode cX5_weight 44 = .ok (.invokevirtual 114, 3) := by decide +kernel
theorem dX5_weight_47 : decode cX5_weight 47 = .ok (.iload_n 3, 1) := by decide +kernel
theorem dX5_weight_48 : decode cX5_weight 48 = .ok (.invokestatic 105, 3) := by decide +kernel
theorem dX5_weight_51 : decode cX5_weight 51 = .ok (.lreturn, 1) := by decide +kernel
set_option maxRecDepth 20000 in
theorem ggX5_best_X2_has : GoodIn wsX5_best wsX2_has := goodIn_r _ [6, 7, 48, 49, 50, 51, 52, 53, 54, 55, 56, 57] (by decide +kernel) (by decide +kernel)
set_option maxRecDepth 20000 in
theorem gX5_best_X2_has : GoodIn wsX5_best (wsV RX5 49 RX2 yX2_has wsX2_has) := goodIn_app (goodIn_of _ (by decide +kernel)) ggX5_best_X2_has
set_option maxRecDepth 20000 in
theorem ggX5_best_X2_bestLabel : GoodIn wsX5_best wsX2_bestLabel := goodIn_r _ [11, 12, 13, 14, 5, 15, 16, 17, 18, 19, 20, 21, 22, 23, 24, 25, 26, 27, 28, 29, 30, 31, 32, 33, 34, 35, 36, 37, 38, 39, 40, 41, 42, 43, 48, 49, 50, 51, 52, 53, 54, 55, 56, 57] (by decide +kernel) (by decide +kernel)
set_option maxRecDepth 20000 in
theorem gX5_best_X2_bestLabel : GoodIn wsX5_best (wsV RX5 117 RX2 yX2_bestLabel wsX2_bestLabel) := goodIn_app (goodIn_of _ (by decide +kernel)) ggX5_best_X2_bestLabel
theorem dX5_best_0 : decode cX5_best 0 = .ok (.aload_n 0, 1) := by decide +kernel
theorem dX5_best_1 : decode cX5_best 1 = .ok (.getfield 10, 3) := by decide +kernel
theorem dX5_best_4 : decode cX5_best 4 = .ok (.iload_n 1, 1) := by decide +kernel
theorem dX5_best_5 : decode cX5_best 5 = .ok (.invokevirtual 49, 3) := by decide +kernel
theorem dX5_best_8 : decode cX5_best 8 = .ok (.ifCond .eq 14, 3) := by decide +kernel
theorem dX5_best_11 : decode cX5_best 11 = .ok (.aload_n 0, 1) := by decide +kernel
theorem dX5_best_12 : decode cX5_best 12 = .ok (.getfield 10, 3) := by decide +kernel
theorem dX5_best_15 : decode cX5_best 15 = .ok (.iload_n 1, 1) := by decide +kernel
theorem dX5_best_16 : decode cX5_best 16 = .ok (.invokevirtual 117, 3) := by decide +kernel
theorem dX5_best_19 : decode cX5_best 19 = .ok (.goto 5, 3) := by decide +kernel
theorem dX5_best_22 : decode cX5_best 22 = .ok (.bipush (-2), 2) := by decide +kernel
theorem dX5_best_24 : decode cX5_best 24 = .ok (.ireturn, 1) := by decide +kernel
set_option maxRecDepth 20000 in
theorem ggX5_rounds_X5_isWithin : GoodIn wsX5_rounds wsX5_isWithin := goodIn_r _ [5] (by decide +kernel) (by decide +kernel)
set_option maxRecDepth 20000 in
theorem gX5_rounds_X5_isWithin : GoodIn wsX5_rounds (va_wsS RX5 65 yX5_isWithin wsX5_isWithin) := goodIn_app (goodIn_of _ (by decide +kernel)) ggX5_rounds_X5_isWithin
set_option maxRecDepth 20000 in
theorem ggX5_rounds_X2_guessAnew : GoodIn wsX5_rounds wsX2_guessAnew := goodIn_r _ [10, 11, 12, 13, 14, 15, 16, 9, 17, 18, 19, 20, 21, 22, 23, 24, 25, 26, 27, 28, 29, 30, 31, 32, 33, 34, 35, 36, 37, 38, 39, 40, 41, 42, 43, 44, 45, 46, 47, 48, 49, 50, 51, 52, 53, 54, 4, 55, 56, 57, 58, 59, 64, 65, 66, 67, 68, 69, 70, 71, 72, 73] (by decide +kernel) (by decide +kernel)
set_option maxRecDepth 20000 in
theorem gX5_rounds_X2_guessAnew : GoodIn wsX5_rounds (wsV RX5 120 RX2 yX2_guessAnew wsX2_guessAnew) := goodIn_app (goodIn_of _ (by decide +kernel)) ggX5_rounds_X2_guessAnew
theorem dX5_rounds_0 : decode cX5_rounds 0 = .ok (.iload_n 1, 1) := by decide +kernel
theorem dX5_rounds_1 : decode cX5_rounds 1 = .ok (.iconst 1, 1) := by decide +kernel
theorem dX5_rounds_2 : decode cX5_rounds 2 = .ok (.bipush 20, 2) := by decide +kernel
theorem dX5_rounds_4 : decode cX5_rounds 4 = .ok (.invokestatic 65, 3) := by decide +kernel
theorem dX5_rounds_7 : decode cX5_rounds 7 = .ok (.ifCond .ne 6, 3) := by decide +kernel
theorem dX5_rounds_10 : decode cX5_rounds 10 = .ok (.bipush (-2), 2) := by decide +kernel
theorem dX5_rounds_12 : decode cX5_rounds 12 = .ok (.ireturn, 1) := by decide +kernel
theorem dX5_rounds_13 : decode cX5_rounds 13 = .ok (.iconst 0, 1) := by decide +kernel
theorem dX5_rounds_14 : decode cX5_rounds 14 = .ok (.istore_n 2, 1) := by decide +kernel
theorem dX5_rounds_15 : decode cX5_rounds 15 = .ok (.iconst 1, 1) := by decide +kernel
theorem dX5_rounds_16 : decode cX5_rounds 16 = .ok (.istore_n 3, 1) := by decide +kernel
theorem dX5_rounds_17 : decode cX5_rounds 17 = .ok (.iload_n 3, 1) := by decide +kernel
theorem dX5_rounds_18 : decode cX5_rounds 18 = .ok (.ifCond .eq 22, 3) := by decide +kernel
theorem dX5_rounds_21 : decode cX5_rounds 21 = .ok (.iload_n 2, 1) := by decide +kernel
theorem dX5_rounds_22 : decode cX5_rounds 22 = .ok (.iload_n 1, 1) := by decide +kernel
theorem dX5_rounds_23 : decode cX5_rounds 23 = .ok (.if_icmp .ge 17, 3) := by decide +kernel
theorem dX5_rounds_26 : decode cX5_rounds 26 = .ok (.aload_n 0, 1) := by decide +kernel
theorem dX5_rounds_27 : decode cX5_rounds 27 = .ok (.getfield 10, 3) := by decide +kernel
theorem dX5_rounds_30 : decode cX5_rounds 30 = .ok (.invokevirtual 120, 3) := by decide +kernel
theorem dX5_rounds_33 : decode cX5_rounds 33 = .ok (.istore_n 3, 1) := by decide +kernel
theorem dX5_rounds_34 : decode cX5_rounds 34 = .ok (.iinc 2 1, 3) := by decide +kernel
theorem dX5_rounds_37 : decode cX5_rounds 37 = .ok (.goto (-20), 3) := by decide +kernel
theorem dX5_rounds_40 : decode cX5_rounds 40 = .ok (.iload_n 2, 1) := by decide +kernel
theorem dX5_rounds_41 : decode cX5_rounds 41 = .ok (.ireturn, 1) := by decide +kernel
set_option maxRecDepth 20000 in
theorem ggX5_guess_X2_has : GoodIn wsX5_guess wsX2_has := goodIn_r _ [6, 7, 17, 18, 19, 20, 21, 22, 23, 24, 25, 26] (by decide +kernel) (by decide +kernel)
set_option maxRecDepth 20000 in
theorem gX5_guess_X2_has : GoodIn wsX5_guess (wsV RX5 49 RX2 yX2_has wsX2_has) := goodIn_app (goodIn_of _ (by decide +kernel)) ggX5_guess_X2_has
set_option maxRecDepth 20000 in
theorem ggX5_guess_X2_guessOf : GoodIn wsX5_guess wsX2_guessOf := goodIn_r _ [11, 12, 17, 18, 19, 20, 21, 22, 23, 24, 25, 26] (by decide +kernel) (by decide +kernel)
set_option maxRecDepth 20000 in
theorem gX5_guess_X2_guessOf : GoodIn wsX5_guess (wsV RX5 123 RX2 yX2_guessOf wsX2_guessOf) := goodIn_app (goodIn_of _ (by decide +kernel)) ggX5_guess_X2_guessOf
theorem dX5_guess_0 : decode cX5_guess 0 = .ok (.aload_n 0, 1) := by decide +kernel
theorem dX5_guess_1 : decode cX5_guess 1 = .ok (.getfield 10, 3) := by decide +kernel
theorem dX5_guess_4 : decode cX5_guess 4 = .ok (.iload_n 1, 1) := by decide +kernel
theorem dX5_guess_5 : decode cX5_guess 5 = .ok (.invokevirtual 49, 3) := by decide +kernel
theorem dX5_guess_8 : decode cX5_guess 8 = .ok (.ifCond .eq 14, 3) := by decide +kernel
theorem dX5_guess_11 : decode cX5_guess 11 = .ok (.aload_n 0, 1) := by decide +kernel
theorem dX5_guess_12 : decode cX5_guess 12 = .ok (.getfield 10, 3) := by decide +kernel
theorem dX5_guess_15 : decode cX5_guess 15 = .ok (.iload_n 1, 1) := by decide +kernel
theorem dX5_guess_16 : decode cX5_guess 16 = .ok (.invokevirtual 123, 3) := by decide +kernel
theorem dX5_guess_19 : decode cX5_guess 19 = .ok (.goto 5, 3) := by decide +kernel
theorem dX5_guess_22 : decode cX5_guess 22 = .ok (.bipush (-2), 2) := by decide +kernel
theorem dX5_guess_24 : decode cX5_guess 24 = .ok (.ireturn, 1) := by decide +kernel
set_option maxRecDepth 20000 in
theorem ggX5_text_X5_isWord : GoodIn wsX5_text wsX5_isWord := goodIn_r _ [5, 6, 7, 4, 8] (by decide +kernel) (by decide +kernel)
set_option maxRecDepth 20000 in
theorem gX5_text_X5_isWord : GoodIn wsX5_text (va_wsS RX5 52 yX5_isWord wsX5_isWord) := goodIn_app (goodIn_of _ (by decide +kernel)) ggX5_text_X5_isWord
set_option maxRecDepth 20000 in
theorem ggX5_text_X3_isFull : GoodIn wsX5_text wsX3_isFull := goodIn_r _ [13, 14, 24, 25, 26, 27, 28] (by decide +kernel) (by decide +kernel)
set_option maxRecDepth 20000 in
theorem gX5_text_X3_isFull : GoodIn wsX5_text (wsV RX5 126 RX3 yX3_isFull wsX3_isFull) := goodIn_app (goodIn_of _ (by decide +kernel)) ggX5_text_X3_isFull
set_option maxRecDepth 20000 in
theorem ggX5_text_X3_append : GoodIn wsX5_text wsX3_append := goodIn_r _ [18, 19, 14, 24, 25, 26, 27, 28] (by decide +kernel) (by decide +kernel)
set_option maxRecDepth 20000 in
theorem gX5_text_X3_append : GoodIn wsX5_text (wsV RX5 127 RX3 yX3_append wsX3_append) := goodIn_app (goodIn_of _ (by decide +kernel)) ggX5_text_X3_append
theorem dX5_text_0 : decode cX5_text 0 = .ok (.iload_n 1, 1) := by decide +kernel
theorem dX5_text_1 : decode cX5_text 1 = .ok (.invokestatic 52, 3) := by decide +kernel
theorem dX5_text_4 : decode cX5_text 4 = .ok (.ifCond .ne 6, 3) := by decide +kernel
theorem dX5_text_7 : decode cX5_text 7 = .ok (.bipush (-2), 2) := by decide +kernel
theorem dX5_text_9 : decode cX5_text 9 = .ok (.ireturn, 1) := by decide +kernel
theorem dX5_text_10 : decode cX5_text 10 = .ok (.aload_n 0, 1) := by decide +kernel
theorem dX5_text_11 : decode cX5_text 11 = .ok (.getfield 19, 3) := by decide +kernel
theorem dX5_text_14 : decode cX5_text 14 = .ok (.invokevirtual 126, 3) := by decide +kernel
theorem dX5_text_17 : decode cX5_text 17 = .ok (.ifCond .eq 6, 3) := by decide +kernel
theorem dX5_text_20 : decode cX5_text 20 = .ok (.bipush (-3), 2) := by decide +kernel
theorem dX5_text_22 : decode cX5_text 22 = .ok (.ireturn, 1) := by decide +kernel
theorem dX5_text_23 : decode cX5_text 23 = .ok (.aload_n 0, 1) := by decide +kernel
theorem dX5_text_24 : decode cX5_text 24 = .ok (.getfield 19, 3) := by decide +kernel
theorem dX5_text_27 : decode cX5_text 27 = .ok (.iload_n 1, 1) := by decide +kernel
theorem dX5_text_28 : decode cX5_text 28 = .ok (.invokevirtual 127, 3) := by decide +kernel
theorem dX5_text_31 : decode cX5_text 31 = .ok (.ireturn, 1) := by decide +kernel
set_option maxRecDepth 20000 in
theorem ggX5_next_X5_isTable : GoodIn wsX5_next wsX5_isTable := goodIn_r _ [6, 7, 8, 5, 9, 10, 11, 12] (by decide +kernel) (by decide +kernel)
set_option maxRecDepth 20000 in
theorem gX5_next_X5_isTable : GoodIn wsX5_next (va_wsS RX5 129 yX5_isTable wsX5_isTable) := goodIn_app (goodIn_of _ (by decide +kernel)) ggX5_next_X5_isTable
set_option maxRecDepth 20000 in
theorem ggX5_next_X5_isWord : GoodIn wsX5_next wsX5_isWord := goodIn_r _ [9, 10, 11, 5, 12] (by decide +kernel) (by decide +kernel)
set_option maxRecDepth 20000 in
theorem gX5_next_X5_isWord : GoodIn wsX5_next (va_wsS RX5 52 yX5_isWord wsX5_isWord) := goodIn_app (goodIn_of _ (by decide +kernel)) ggX5_next_X5_isWord
set_option maxRecDepth 20000 in
theorem ggX5_next_X5_isSide : GoodIn wsX5_next wsX5_isSide := goodIn_r _ [15, 10, 11, 5, 12] (by decide +kernel) (by decide +kernel)
set_option maxRecDepth 20000 in
theorem gX5_next_X5_isSide : GoodIn wsX5_next (va_wsS RX5 85 yX5_isSide wsX5_isSide) := goodIn_app (goodIn_of _ (by decide +kernel)) ggX5_next_X5_isSide
set_option maxRecDepth 20000 in
theorem ggX5_next_X3_fill : GoodIn wsX5_next wsX3_fill := goodIn_r _ [20, 21, 22, 23, 19, 24, 25, 26, 27, 28, 29, 30, 31, 32, 33, 34, 5, 35, 36, 37, 38, 39, 40, 41, 42, 43, 44, 45, 46, 47, 48, 68, 69, 70, 71, 72] (by decide +kernel) (by decide +kernel)
set_option maxRecDepth 20000 in
theorem gX5_next_X3_fill : GoodIn wsX5_next (wsV RX5 133 RX3 yX3_fill wsX3_fill) := goodIn_app (goodIn_of _ (by decide +kernel)) ggX5_next_X3_fill
set_option maxRecDepth 20000 in
theorem ggX5_next_X3_upperOf : GoodIn wsX5_next wsX3_upperOf := goodIn_r _ [52, 25, 68, 69, 70, 71, 72] (by decide +kernel) (by decide +kernel)
set_option maxRecDepth 20000 in
theorem gX5_next_X3_upperOf : GoodIn wsX5_next (wsV RX5 136 RX3 yX3_upperOf wsX3_upperOf) := goodIn_app (goodIn_of _ (by decide +kernel)) ggX5_next_X3_upperOf
set_option maxRecDepth 20000 in
theorem ggX5_next_X3_lowerOfAll : GoodIn wsX5_next wsX3_lowerOfAll := goodIn_r _ [56, 28, 68, 69, 70, 71, 72] (by decide +kernel) (by decide +kernel)
set_option maxRecDepth 20000 in
theorem gX5_next_X3_lowerOfAll : GoodIn wsX5_next (wsV RX5 139 RX3 yX3_lowerOfAll wsX3_lowerOfAll) := goodIn_app (goodIn_of _ (by decide +kernel)) ggX5_next_X3_lowerOfAll
set_option maxRecDepth 20000 in
theorem ggX5_next_X0_sideOf : GoodIn wsX5_next wsX0_sideOf := goodIn_r _ [60, 61, 62, 59, 63] (by decide +kernel) (by decide +kernel)
set_option maxRecDepth 20000 in
theorem gX5_next_X0_sideOf : GoodIn wsX5_next (va_wsS RX5 105 yX0_sideOf wsX0_sideOf) := goodIn_app (goodIn_of _ (by decide +kernel)) ggX5_next_X0_sideOf
theorem dX5_next_0 : decode cX5_next 0 = .ok (.iload_n 1, 1) := by decide +kernel
theorem dX5_next_1 : decode cX5_next 1 = .ok (.iload_n 2, 1) := by decide +kernel
theorem dX5_next_2 : decode cX5_next 2 = .ok (.invokestatic 129, 3) := by decide +kernel
theorem dX5_next_5 : decode cX5_next 5 = .ok (.ifCond .eq 18, 3) := by decide +kernel
theorem dX5_next_8 : decode cX5_next 8 = .ok (.iload_n 3, 1) := by decide +kernel
theorem dX5_next_9 : decode cX5_next 9 = .ok (.invokestatic 52, 3) := by decide +kernel
theorem dX5_next_12 : decode cX5_next 12 = .ok (.ifCond .eq 11, 3) := by decide +kernel
theorem dX5_next_15 : decode cX5_next 15 = .ok (.iload 4, 2) := by decide +kernel
theorem dX5_next_17 : decode cX5_next 17 = .ok (.invokestatic 85, 3) := by decide +kernel
theorem dX5_next_20 : decode cX5_next 20 = .ok (.ifCond .ne 7, 3) := by decide +kernel
theorem dX5_next_23 : decode cX5_next 23 = .ok (.ldc2_w 88, 3) := by decide +kernel
theorem dX5_next_26 : decode cX5_next 26 = .ok (.lreturn, 1) := by decide +kernel
theorem dX5_next_27 : decode cX5_next 27 = .ok (.aload_n 0, 1) := by decide +kernel
theorem dX5_next_28 : decode cX5_next 28 = .ok (.getfield 19, 3) := by decide +kernel
theorem dX5_next_31 : decode cX5_next 31 = .ok (.iload_n 1, 1) := by decide +kernel
theorem dX5_next_32 : decode cX5_next 32 = .ok (.iload_n 2, 1) := by decide +kernel
theorem dX5_next_33 : decode cX5_next 33 = .ok (.invokevirtual 133, 3) := by decide +kernel
theorem dX5_next_36 : decode cX5_next 36 = .ok (.aload_n 0, 1) := by decide +kernel
theorem dX5_next_37 : decode cX5_next 37 = .ok (.getfield 19, 3) := by decide +kernel
theorem dX5_next_40 : decode cX5_next 40 = .ok (.iload_n 3, 1) := by decide +kernel
theorem dX5_next_41 : decode cX5_next 41 = .ok (.invokevirtual 136, 3) := by decide +kernel
theorem dX5_next_44 : decode cX5_next 44 = .ok (.aload_n 0, 1) := by decide +kernel
theorem dX5_next_45 : decode cX5_next 45 = .ok (.getfield 19, 3) := by decide +kernel
theorem dX5_next_48 : decode cX5_next 48 = .ok (.invokevirtual 139, 3) := by decide +kernel
theorem dX5_next_51 : decode cX5_next 51 = .ok (.iload 4, 2) := by decide +kernel
theorem dX5_next_53 : decode cX5_next 53 = .ok (.invokestatic 105, 3) := by decide +kernel
theorem dX5_next_56 : decode cX5_next 56 = .ok (.lreturn, 1) := by decide +kernel
set_option maxRecDepth 20000 in
theorem ggX5_likely_X5_isTable : GoodIn wsX5_likely wsX5_isTable := goodIn_r _ [5, 6, 7, 4, 8, 9, 10, 11] (by decide +kernel) (by decide +kernel)
set_option maxRecDepth 20000 in
theorem gX5_likely_X5_isTable : GoodIn wsX5_likely (va_wsS RX5 129 yX5_isTable wsX5_isTable) := goodIn_app (goodIn_of _ (by decide +kernel)) ggX5_likely_X5_isTable
set_option maxRecDepth 20000 in
theorem ggX5_likely_X3_fill : GoodIn wsX5_likely wsX3_fill := goodIn_r _ [16, 17, 18, 19, 15, 20, 21, 22, 23, 24, 25, 26, 27, 28, 29, 30, 4, 31, 32, 33, 34, 35, 36, 37, 38, 39, 40, 41, 42, 43, 44, 53, 54, 55, 56, 57] (by decide +kernel) (by decide +kernel)
set_option maxRecDepth 20000 in
theorem gX5_likely_X3_fill : GoodIn wsX5_likely (wsV RX5 133 RX3 yX3_fill wsX3_fill) := goodIn_app (goodIn_of _ (by decide +kernel)) ggX5_likely_X3_fill
set_option maxRecDepth 20000 in
theorem ggX5_likely_X3_greatest : GoodIn wsX5_likely wsX3_greatest := goodIn_r _ [48, 21, 53, 54, 55, 56, 57] (by decide +kernel) (by decide +kernel)
set_option maxRecDepth 20000 in
theorem gX5_likely_X3_greatest : GoodIn wsX5_likely (wsV RX5 143 RX3 yX3_greatest wsX3_greatest) := goodIn_app (goodIn_of _ (by decide +kernel)) ggX5_likely_X3_greatest
theorem dX5_likely_0 : decode cX5_likely 0 = .ok (.iload_n 1, 1) := by decide +kernel
theorem dX5_likely_1 : decode cX5_likely 1 = .ok (.iload_n 2, 1) := by decide +kernel
theorem dX5_likely_2 : decode cX5_likely 2 = .ok (.invokestatic 129, 3) := by decide +kernel
theorem dX5_likely_5 : decode cX5_likely 5 = .ok (.ifCond .ne 6, 3) := by decide +kernel
theorem dX5_likely_8 : decode cX5_likely 8 = .ok (.bipush (-2), 2) := by decide +kernel
theorem dX5_likely_10 : decode cX5_likely 10 = .ok (.ireturn, 1) := by decide +kernel
theorem dX5_likely_11 : decode cX5_likely 11 = .ok (.aload_n 0, 1) := by decide +kernel
theorem dX5_likely_12 : decode cX5_likely 12 = .ok (.getfield 19, 3) := by decide +kernel
theorem dX5_likely_15 : decode cX5_likely 15 = .ok (.iload_n 1, 1) := by decide +kernel
theorem dX5_likely_16 : decode cX5_likely 16 = .ok (.iload_n 2, 1) := by decide +kernel
theorem dX5_likely_17 : decode cX5_likely 17 = .ok (.invokevirtual 133, 3) := by decide +kernel
theorem dX5_likely_20 : decode cX5_likely 20 = .ok (.aload_n 0, 1) := by decide +kernel
theorem dX5_likely_21 : decode cX5_likely 21 = .ok (.getfield 19, 3) := by decide +kernel
theorem dX5_likely_24 : decode cX5_likely 24 = .ok (.invokevirtual 143, 3) := by decide +kernel
theorem dX5_likely_27 : decode cX5_likely 27 = .ok (.ireturn, 1) := by decide +kernel
set_option maxRecDepth 20000 in
theorem ggX5_weigh_X1_placeOf : GoodIn wsX5_weigh wsX1_placeOf := goodIn_r _ [5, 6, 7, 4, 8, 9, 10, 11, 12, 13, 14, 15, 16, 17] (by decide +kernel) (by decide +kernel)
set_option maxRecDepth 20000 in
theorem gX5_weigh_X1_placeOf : GoodIn wsX5_weigh (va_wsS RX5 147 yX1_placeOf wsX1_placeOf) := goodIn_app (goodIn_of _ (by decide +kernel)) ggX5_weigh_X1_placeOf
set_option maxRecDepth 20000 in
theorem ggX5_weigh_X5_isWithin : GoodIn wsX5_weigh wsX5_isWithin := goodIn_r _ [21] (by decide +kernel) (by decide +kernel)
set_option maxRecDepth 20000 in
theorem gX5_weigh_X5_isWithin : GoodIn wsX5_weigh (va_wsS RX5 65 yX5_isWithin wsX5_isWithin) := goodIn_app (goodIn_of _ (by decide +kernel)) ggX5_weigh_X5_isWithin
set_option maxRecDepth 20000 in
theorem ggX5_weigh_X1_reweigh : GoodIn wsX5_weigh wsX1_reweigh := goodIn_r _ [25, 26, 31, 32, 33, 34, 35, 36, 37, 38] (by decide +kernel) (by decide +kernel)
set_option maxRecDepth 20000 in
theorem gX5_weigh_X1_reweigh : GoodIn wsX5_weigh (wsV RX5 151 RX1 yX1_reweigh wsX1_reweigh) := goodIn_app (goodIn_of _ (by decide +kernel)) ggX5_weigh_X1_reweigh
theorem dX5_weigh_0 : decode cX5_weigh 0 = .ok (.iload_n 1, 1) := by decide +kernel
theorem dX5_weigh_1 : decode cX5_weigh 1 = .ok (.iload_n 2, 1) := by decide +kernel
theorem dX5_weigh_2 : decode cX5_weigh 2 = .ok (.iload_n 3, 1) := by decide +kernel
theorem dX5_weigh_3 : decode cX5_weigh 3 = .ok (.invokestatic 147, 3) := by decide +kernel
theorem dX5_weigh_6 : decode cX5_weigh 6 = .ok (.istore 5, 2) := by decide +kernel
theorem dX5_weigh_8 : decode cX5_weigh 8 = .ok (.iload 5, 2) := by decide +kernel
theorem dX5_weigh_10 : decode cX5_weigh 10 = .ok (.iconst (-1), 1) := by decide +kernel
theorem dX5_weigh_11 : decode cX5_weigh 11 = .ok (.if_icmp .eq 14, 3) := by decide +kernel
theorem dX5_weigh_14 : decode cX5_weigh 14 = .ok (.iload 4, 2) := by decide +kernel
theorem dX5_weigh_16 : decode cX5_weigh 16 = .ok (.iconst (-1), 1) := by decide +kernel
theorem dX5_weigh_17 : decode cX5_weigh 17 = .ok (.bipush 21, 2) := by decide +kernel
theorem dX5_weigh_19 : decode cX5_weigh 19 = .ok (.invokestatic 65, 3) := by decide +kernel
theorem dX5_weigh_22 : decode cX5_weigh 22 = .ok (.ifCond .ne 6, 3) := by decide +kernel
theorem dX5_weigh_25 : decode cX5_weigh 25 = .ok (.bipush (-2), 2) := by decide +kernel
theorem dX5_weigh_27 : decode cX5_weigh 27 = .ok (.ireturn, 1) := by decide +kernel
theorem dX5_weigh_28 : decode cX5_weigh 28 = .ok (.aload_n 0, 1) := by decide +kernel
theorem dX5_weigh_29 : decode cX5_weigh 29 = .ok (.getfield 26, 3) := by decide +kernel
theorem dX5_weigh_32 : decode cX5_weigh 32 = .ok (.iload 5, 2) := by decide +kernel
theorem dX5_weigh_34 : decode cX5_weigh 34 = .ok (.iload 4, 2) := by decide +kernel
theorem dX5_weigh_36 : decode cX5_weigh 36 = .ok (.invokevirtual 151, 3) := by decide +kernel
theorem dX5_weigh_39 : decode cX5_weigh 39 = .ok (.ireturn, 1) := by decide +kernel
set_option maxRecDepth 20000 in
theorem ggX5_sign_X1_isRow : GoodIn wsX5_sign wsX1_isRow := goodIn_r _ [5] (by decide +kernel) (by decide +kernel)
set_option maxRecDepth 20000 in
theorem gX5_sign_X1_isRow : GoodIn wsX5_sign (va_wsS RX5 154 yX1_isRow wsX1_isRow) := goodIn_app (goodIn_of _ (by decide +kernel)) ggX5_sign_X1_isRow
set_option maxRecDepth 20000 in
theorem ggX5_sign_X1_isSign : GoodIn wsX5_sign wsX1_isSign := goodIn_r _ [8] (by decide +kernel) (by decide +kernel)
set_option maxRecDepth 20000 in
theorem gX5_sign_X1_isSign : GoodIn wsX5_sign (va_wsS RX5 157 yX1_isSign wsX1_isSign) := goodIn_app (goodIn_of _ (by decide +kernel)) ggX5_sign_X1_isSign
set_option maxRecDepth 20000 in
theorem ggX5_sign_X1_isFullRow : GoodIn wsX5_sign wsX1_isFullRow := goodIn_r _ [12, 13, 23, 24, 25, 26, 27, 28, 29, 30] (by decide +kernel) (by decide +kernel)
set_option maxRecDepth 20000 in
theorem gX5_sign_X1_isFullRow : GoodIn wsX5_sign (wsV RX5 160 RX1 yX1_isFullRow wsX1_isFullRow) := goodIn_app (goodIn_of _ (by decide +kernel)) ggX5_sign_X1_isFullRow
set_option maxRecDepth 20000 in
theorem ggX5_sign_X1_append : GoodIn wsX5_sign wsX1_append := goodIn_r _ [17, 18, 13, 23, 24, 25, 26, 27, 28, 29, 30] (by decide +kernel) (by decide +kernel)
set_option maxRecDepth 20000 in
theorem gX5_sign_X1_append : GoodIn wsX5_sign (wsV RX5 161 RX1 yX1_append wsX1_append) := goodIn_app (goodIn_of _ (by decide +kernel)) ggX5_sign_X1_append
theorem dX5_sign_0 : decode cX5_sign 0 = .ok (.iload_n 1, 1) := by decide +kernel
theorem dX5_sign_1 : decode cX5_sign 1 = .ok (.invokestatic 154, 3) := by decide +kernel
theorem dX5_sign_4 : decode cX5_sign 4 = .ok (.ifCond .eq 10, 3) := by decide +kernel
theorem dX5_sign_7 : decode cX5_sign 7 = .ok (.iload_n 2, 1) := by decide +kernel
theorem dX5_sign_8 : decode cX5_sign 8 = .ok (.invokestatic 157, 3) := by decide +kernel
theorem dX5_sign_11 : decode cX5_sign 11 = .ok (.ifCond .ne 6, 3) := by decide +kernel
theorem dX5_sign_14 : decode cX5_sign 14 = .ok (.bipush (-2), 2) := by decide +kernel
theorem dX5_sign_16 : decode cX5_sign 16 = .ok (.ireturn, 1) := by decide +kernel
theorem dX5_sign_17 : decode cX5_sign 17 = .ok (.aload_n 0, 1) := by decide +kernel
theorem dX5_sign_18 : decode cX5_sign 18 = .ok (.getfield 26, 3) := by decide +kernel
theorem dX5_sign_21 : decode cX5_sign 21 = .ok (.iload_n 1, 1) := by decide +kernel
theorem dX5_sign_22 : decode cX5_sign 22 = .ok (.invokevirtual 160, 3) := by decide +kernel
theorem dX5_sign_25 : decode cX5_sign 25 = .ok (.ifCond .eq 6, 3) := by decide +kernel
theorem dX5_sign_28 : decode cX5_sign 28 = .ok (.bipush (-3), 2) := by decide +kernel
theorem dX5_sign_30 : decode cX5_sign 30 = .ok (.ireturn, 1) := by decide +kernel
theorem dX5_sign_31 : decode cX5_sign 31 = .ok (.aload_n 0, 1) := by decide +kernel
theorem dX5_sign_32 : decode cX5_sign 32 = .ok (.getfield 26, 3) := by decide +kernel
theorem dX5_sign_35 : decode cX5_sign 35 = .ok (.iload_n 1, 1) := by decide +kernel
theorem dX5_sign_36 : decode cX5_sign 36 = .ok (.iload_n 2, 1) := by decide +kernel
theorem dX5_sign_37 : decode cX5_sign 37 = .ok (.invokevirtual 161, 3) := by decide +kernel
theorem dX5_sign_40 : decode cX5_sign 40 = .ok (.ireturn, 1) := by decide +kernel
set_option maxRecDepth 20000 in
theorem ggX5_path_X1_isRow : GoodIn wsX5_path wsX1_isRow := goodIn_r _ [5] (by decide +kernel) (by decide +kernel)
set_option maxRecDepth 20000 in
theorem gX5_path_X1_isRow : GoodIn wsX5_path (va_wsS RX5 154 yX1_isRow wsX1_isRow) := goodIn_app (goodIn_of _ (by decide +kernel)) ggX5_path_X1_isRow
set_option maxRecDepth 20000 in
theorem ggX5_path_X1_hasPlace : GoodIn wsX5_path wsX1_hasPlace := goodIn_r _ [9, 10, 49, 50, 51, 52, 53, 54, 55, 56] (by decide +kernel) (by decide +kernel)
set_option maxRecDepth 20000 in
theorem gX5_path_X1_hasPlace : GoodIn wsX5_path (wsV RX5 162 RX1 yX1_hasPlace wsX1_hasPlace) := goodIn_app (goodIn_of _ (by decide +kernel)) ggX5_path_X1_hasPlace
set_option maxRecDepth 20000 in
theorem ggX5_path_X1_findBestPath : GoodIn wsX5_path wsX1_findBestPath := goodIn_r _ [14, 10, 15, 16, 17, 18, 19, 20, 4, 21, 22, 23, 24, 25, 26, 27, 28, 29, 30, 31, 32, 33, 34, 35, 36, 37, 38, 39, 40, 49, 50, 51, 52, 53, 54, 55, 56] (by decide +kernel) (by decide +kernel)
set_option maxRecDepth 20000 in
theorem gX5_path_X1_findBestPath : GoodIn wsX5_path (wsV RX5 165 RX1 yX1_findBestPath wsX1_findBestPath) := goodIn_app (goodIn_of _ (by decide +kernel)) ggX5_path_X1_findBestPath
set_option maxRecDepth 20000 in
theorem ggX5_path_X1_stateOnBestPath : GoodIn wsX5_path wsX1_stateOnBestPath := goodIn_r _ [44, 16, 49, 50, 51, 52, 53, 54, 55, 56] (by decide +kernel) (by decide +kernel)
set_option maxRecDepth 20000 in
theorem gX5_path_X1_stateOnBestPath : GoodIn wsX5_path (wsV RX5 168 RX1 yX1_stateOnBestPath wsX1_stateOnBestPath) := goodIn_app (goodIn_of _ (by decide +kernel)) ggX5_path_X1_stateOnBestPath
theorem dX5_path_0 : decode cX5_path 0 = .ok (.iload_n 1, 1) := by decide +kernel
theorem dX5_path_1 : decode cX5_path 1 = .ok (.invokestatic 154, 3) := by decide +kernel
theorem dX5_path_4 : decode cX5_path 4 = .ok (.ifCond .ne 6, 3) := by decide +kernel
theorem dX5_path_7 : decode cX5_path 7 = .ok (.bipush (-2), 2) := by decide +kernel
theorem dX5_path_9 : decode cX5_path 9 = .ok (.ireturn, 1) := by decide +kernel
theorem dX5_path_10 : decode cX5_path 10 = .ok (.aload_n 0, 1) := by decide +kernel
theorem dX5_path_11 : decode cX5_path 11 = .ok (.getfield 26, 3) := by decide +kernel
theorem dX5_path_14 : decode cX5_path 14 = .ok (.iload_n 1, 1) := by decide +kernel
theorem dX5_path_15 : decode cX5_path 15 = .ok (.iload_n 2, 1) := by decide +kernel
theorem dX5_path_16 : decode cX5_path 16 = .ok (.invokevirtual 162, 3) := by decide +kernel
theorem dX5_path_19 : decode cX5_path 19 = .ok (.ifCond .eq 14, 3) := by decide +kernel
theorem dX5_path_22 : decode cX5_path 22 = .ok (.aload_n 0, 1) := by decide +kernel
theorem dX5_path_23 : decode cX5_path 23 = .ok (.getfield 26, 3) := by decide +kernel
theorem dX5_path_26 : decode cX5_path 26 = .ok (.iload_n 1, 1) := by decide +kernel
theorem dX5_path_27 : decode cX5_path 27 = .ok (.invokevirtual 165, 3) := by decide +kernel
theorem dX5_path_30 : decode cX5_path 30 = .ok (.ifCond .ne 5, 3) := by decide +kernel
theorem dX5_path_33 : decode cX5_path 33 = .ok (.iconst (-1), 1) := by decide +kernel
theorem dX5_path_34 : decode cX5_path 34 = .ok (.ireturn, 1) := by decide +kernel
theorem dX5_path_35 : decode cX5_path 35 = .ok (.aload_n 0, 1) := by decide +kernel
theorem dX5_path_36 : decode cX5_path 36 = .ok (.getfield 26, 3) := by decide +kernel
theorem dX5_path_39 : decode cX5_path 39 = .ok (.iload_n 2, 1) := by decide +kernel
theorem dX5_path_40 : decode cX5_path 40 = .ok (.invokevirtual 168, 3) := by decide +kernel
theorem dX5_path_43 : decode cX5_path 43 = .ok (.ireturn, 1) := by decide +kernel
set_option maxRecDepth 20000 in
theorem ggX5_total_X1_isRow : GoodIn wsX5_total wsX1_isRow := goodIn_r _ [6] (by decide +kernel) (by decide +kernel)
set_option maxRecDepth 20000 in
theorem gX5_total_X1_isRow : GoodIn wsX5_total (va_wsS RX5 154 yX1_isRow wsX1_isRow) := goodIn_app (goodIn_of _ (by decide +kernel)) ggX5_total_X1_isRow
set_option maxRecDepth 20000 in
theorem ggX5_total_X1_totalOf : GoodIn wsX5_total wsX1_totalOf := goodIn_r _ [10, 11, 12, 13, 5, 14, 15, 16, 17, 18, 19, 20, 21, 22, 23, 24, 25, 26, 27, 28, 29, 30, 31, 32, 33, 38, 39, 40, 41, 42, 43, 44, 45] (by decide +kernel) (by decide +kernel)
set_option maxRecDepth 20000 in
theorem gX5_total_X1_totalOf : GoodIn wsX5_total (wsV RX5 171 RX1 yX1_totalOf wsX1_totalOf) := goodIn_app (goodIn_of _ (by decide +kernel)) ggX5_total_X1_totalOf
theorem dX5_total_0 : decode cX5_total 0 = .ok (.iload_n 1, 1) := by decide +kernel
theorem dX5_total_1 : decode cX5_total 1 = .ok (.invokestatic 154, 3) := by decide +kernel
theorem dX5_total_4 : decode cX5_total 4 = .ok (.ifCond .eq 14, 3) := by decide +kernel
theorem dX5_total_7 : decode cX5_total 7 = .ok (.aload_n 0, 1) := by decide +kernel
theorem dX5_total_8 : decode cX5_total 8 = .ok (.getfield 26, 3) := by decide +kernel
theorem dX5_total_11 : decode cX5_total 11 = .ok (.iload_n 1, 1) := by decide +kernel
theorem dX5_total_12 : decode cX5_total 12 = .ok (.invokevirtual 171, 3) := by decide +kernel
theorem dX5_total_15 : decode cX5_total 15 = .ok (.goto 6, 3) := by decide +kernel
theorem dX5_total_18 : decode cX5_total 18 = .ok (.ldc2_w 88, 3) := by decide +kernel
theorem dX5_total_21 : decode cX5_total 21 = .ok (.lreturn, 1) := by decide +kernel
set_option maxRecDepth 20000 in
theorem ggX5_at_X1_isRow : GoodIn wsX5_at wsX1_isRow := goodIn_r _ [8] (by decide +kernel) (by decide +kernel)
set_option maxRecDepth 20000 in
theorem gX5_at_X1_isRow : GoodIn wsX5_at (va_wsS RX5 154 yX1_isRow wsX1_isRow) := goodIn_app (goodIn_of _ (by decide +kernel)) ggX5_at_X1_isRow
set_option maxRecDepth 20000 in
theorem ggX5_at_X1_hasPlace : GoodIn wsX5_at wsX1_hasPlace := goodIn_r _ [12, 13, 62, 63, 64, 65, 66, 67, 68, 69] (by decide +kernel) (by decide +kernel)
set_option maxRecDepth 20000 in
theorem gX5_at_X1_hasPlace : GoodIn wsX5_at (wsV RX5 162 RX1 yX1_hasPlace wsX1_hasPlace) := goodIn_app (goodIn_of _ (by decide +kernel)) ggX5_at_X1_hasPlace
set_option maxRecDepth 20000 in
theorem ggX5_at_X1_isState : GoodIn wsX5_at wsX1_isState := goodIn_r _ [16] (by decide +kernel) (by decide +kernel)
set_option maxRecDepth 20000 in
theorem gX5_at_X1_isState : GoodIn wsX5_at (va_wsS RX5 174 yX1_isState wsX1_isState) := goodIn_app (goodIn_of _ (by decide +kernel)) ggX5_at_X1_isState
set_option maxRecDepth 20000 in
theorem ggX5_at_X5_isSide : GoodIn wsX5_at wsX5_isSide := goodIn_r _ [20, 21, 22, 19, 23] (by decide +kernel) (by decide +kernel)
set_option maxRecDepth 20000 in
theorem gX5_at_X5_isSide : GoodIn wsX5_at (va_wsS RX5 85 yX5_isSide wsX5_isSide) := goodIn_app (goodIn_of _ (by decide +kernel)) ggX5_at_X5_isSide
set_option maxRecDepth 20000 in
theorem ggX5_at_X1_totalOf : GoodIn wsX5_at wsX1_totalOf := goodIn_r _ [27, 28, 29, 30, 7, 31, 13, 32, 33, 34, 35, 36, 37, 38, 39, 40, 41, 42, 43, 44, 45, 46, 47, 48, 49, 62, 63, 64, 65, 66, 67, 68, 69] (by decide +kernel) (by decide +kernel)
set_option maxRecDepth 20000 in
theorem gX5_at_X1_totalOf : GoodIn wsX5_at (wsV RX5 171 RX1 yX1_totalOf wsX1_totalOf) := goodIn_app (goodIn_of _ (by decide +kernel)) ggX5_at_X1_totalOf
set_option maxRecDepth 20000 in
theorem ggX5_at_X1_totalThrough : GoodIn wsX5_at wsX1_totalThrough := goodIn_r _ [31, 13, 32, 33, 34, 35, 36, 37, 7, 38, 39, 40, 41, 42, 43, 44, 45, 46, 47, 48, 49, 62, 63, 64, 65, 66, 67, 68, 69] (by decide +kernel) (by decide +kernel)
set_option maxRecDepth 20000 in
theorem gX5_at_X1_totalThrough : GoodIn wsX5_at (wsV RX5 179 RX1 yX1_totalThrough wsX1_totalThrough) := goodIn_app (goodIn_of _ (by decide +kernel)) ggX5_at_X1_totalThrough
set_option maxRecDepth 20000 in
theorem ggX5_at_X0_sideOf : GoodIn wsX5_at wsX0_sideOf := goodIn_r _ [54, 55, 56, 53, 57] (by decide +kernel) (by decide +kernel)
set_option maxRecDepth 20000 in
theorem gX5_at_X0_sideOf : GoodIn wsX5_at (va_wsS RX5 105 yX0_sideOf wsX0_sideOf) := goodIn_app (goodIn_of _ (by decide +kernel)) ggX5_at_X0_sideOf
theorem dX5_at_0 : decode cX5_at 0 = .ok (.iload_n 1, 1) := by decide +kernel
theorem dX5_at_1 : decode cX5_at 1 = .ok (.invokestatic 154, 3) := by decide +kernel
theorem dX5_at_4 : decode cX5_at 4 = .ok (.ifCond .eq 15, 3) := by decide +kernel
theorem dX5_at_7 : decode cX5_at 7 = .ok (.aload_n 0, 1) := by decide +kernel
theorem dX5_at_8 : decode cX5_at 8 = .ok (.getfield 26, 3) := by decide +kernel
theorem dX5_at_11 : decode cX5_at 11 = .ok (.iload_n 1, 1) := by decide +kernel
theorem dX5_at_12 : decode cX5_at 12 = .ok (.iload_n 2, 1) := by decide +kernel
theorem dX5_at_13 : decode cX5_at 13 = .ok (.invokevirtual 162, 3) := by decide +kernel
theorem dX5_at_16 : decode cX5_at 16 = .ok (.ifCond .ne 7, 3) := by decide +kernel
theorem dX5_at_19 : decode cX5_at 19 = .ok (.ldc2_w 88, 3) := by decide +kernel
theorem dX5_at_22 : decode cX5_at 22 = .ok (.lreturn, 1) := by decide +kernel
theorem dX5_at_23 : decode cX5_at 23 = .ok (.iload_n 3, 1) := by decide +kernel
theorem dX5_at_24 : decode cX5_at 24 = .ok (.invokestatic 174, 3) := by decide +kernel
theorem dX5_at_27 : decode cX5_at 27 = .ok (.ifCond .eq 11, 3) := by decide +kernel
theorem dX5_at_30 : decode cX5_at 30 = .ok (.iload 4, 2) := by decide +kernel
theorem dX5_at_32 : decode cX5_at 32 = .ok (.invokestatic 85, 3) := by decide +kernel
theorem dX5_at_35 : decode cX5_at 35 = .ok (.ifCond .ne 7, 3) := by decide +kernel
theorem dX5_at_38 : decode cX5_at 38 = .ok (.ldc2_w 88, 3) := by decide +kernel
theorem dX5_at_41 : decode cX5_at 41 = .ok (.lreturn, 1) := by decide +kernel
theorem dX5_at_42 : decode cX5_at 42 = .ok (.aload_n 0, 1) := by decide +kernel
theorem dX5_at_43 : decode cX5_at 43 = .ok (.getfield 26, 3) := by decide +kernel
theorem dX5_at_46 : decode cX5_at 46 = .ok (.iload_n 1, 1) := by decide +kernel
theorem dX5_at_47 : decode cX5_at 47 = .ok (.invokevirtual 171, 3) := by decide +kernel
theorem dX5_at_50 : decode cX5_at 50 = .ok (.lstore 5, 2) := by decide +kernel
theorem dX5_at_52 : decode cX5_at 52 = .ok (.lload 5, 2) := by decide +kernel
theorem dX5_at_54 : decode cX5_at 54 = .ok (.lconst 0, 1) := by decide +kernel
theorem dX5_at_55 : decode cX5_at 55 = .ok (.lcmp, 1) := by decide +kernel
theorem dX5_at_56 : decode cX5_at 56 = .ok (.ifCond .ne 13, 3) := by decide +kernel
theorem dX5_at_59 : decode cX5_at 59 = .ok (.new 94, 3) := by decide +kernel
theorem dX5_at_62 : decode cX5_at 62 = .ok (.dup, 1) := by decide +kernel
theorem dX5_at_63 : decode cX5_at 63 = .ok (.ldc 177, 2) := by decide +kernel
theorem dX5_at_65 : decode cX5_at 65 = .ok (.invokespecial 98, 3) := by decide +kernel
theorem dX5_at_68 : decode cX5_at 68 = .ok (.athrow, 1) := by decide +kernel
theorem dX5_at_69 : decode cX5_at 69 = .ok (.aload_n 0, 1) := by decide +kernel
theorem dX5_at_70 : decode cX5_at 70 = .ok (.getfield 26, 3) := by decide +kernel
theorem dX5_at_73 : decode cX5_at 73 = .ok (.iload_n 1, 1) := by decide +kernel
theorem dX5_at_74 : decode cX5_at 74 = .ok (.iload_n 2, 1) := by decide +kernel
theorem dX5_at_75 : decode cX5_at 75 = .ok (.iload_n 3, 1) := by decide +kernel
theorem dX5_at_76 : decode cX5_at 76 = .ok (.invokevirtual 179, 3) := by decide +kernel
theorem dX5_at_79 : decode cX5_at 79 = .ok (.lload 5, 2) := by decide +kernel
theorem dX5_at_81 : decode cX5_at 81 = .ok (.iload 4, 2) := by decide +kernel
theorem dX5_at_83 : decode cX5_at 83 = .ok (.invokestatic 105, 3) := by decide +kernel
theorem dX5_at_86 : decode cX5_at 86 = .ok (.lreturn, 1) := by decide +kernel
set_option maxRecDepth 20000 in
theorem ggX5_learn_X5_isWithin : GoodIn wsX5_learn wsX5_isWithin := goodIn_r _ [5] (by decide +kernel) (by decide +kernel)
set_option maxRecDepth 20000 in
theorem gX5_learn_X5_isWithin : GoodIn wsX5_learn (va_wsS RX5 65 yX5_isWithin wsX5_isWithin) := goodIn_app (goodIn_of _ (by decide +kernel)) ggX5_learn_X5_isWithin
set_option maxRecDepth 20000 in
theorem ggX5_learn_X1_weighAnew : GoodIn wsX5_learn wsX1_weighAnew := goodIn_r _ [10, 11, 12, 13, 4, 14, 15, 16, 17, 9, 18, 19, 20, 21, 22, 23, 24, 25, 26, 27, 28, 29, 30, 31, 32, 33, 34, 35, 36, 37, 38, 39, 40, 41, 42, 43, 44, 45, 46, 47, 48, 53, 54, 55, 56, 57, 58, 59, 60] (by decide +kernel) (by decide +kernel)
set_option maxRecDepth 20000 in
theorem gX5_learn_X1_weighAnew : GoodIn wsX5_learn (wsV RX5 183 RX1 yX1_weighAnew wsX1_weighAnew) := goodIn_app (goodIn_of _ (by decide +kernel)) ggX5_learn_X1_weighAnew
theorem dX5_learn_0 : decode cX5_learn 0 = .ok (.iload_n 1, 1) := by decide +kernel
theorem dX5_learn_1 : decode cX5_learn 1 = .ok (.iconst 1, 1) := by decide +kernel
theorem dX5_learn_2 : decode cX5_learn 2 = .ok (.bipush 20, 2) := by decide +kernel
theorem dX5_learn_4 : decode cX5_learn 4 = .ok (.invokestatic 65, 3) := by decide +kernel
theorem dX5_learn_7 : decode cX5_learn 7 = .ok (.ifCond .ne 6, 3) := by decide +kernel
theorem dX5_learn_10 : decode cX5_learn 10 = .ok (.bipush (-2), 2) := by decide +kernel
theorem dX5_learn_12 : decode cX5_learn 12 = .ok (.ireturn, 1) := by decide +kernel
theorem dX5_learn_13 : decode cX5_learn 13 = .ok (.iconst 0, 1) := by decide +kernel
theorem dX5_learn_14 : decode cX5_learn 14 = .ok (.istore_n 2, 1) := by decide +kernel
theorem dX5_learn_15 : decode cX5_learn 15 = .ok (.iconst 1, 1) := by decide +kernel
theorem dX5_learn_16 : decode cX5_learn 16 = .ok (.istore_n 3, 1) := by decide +kernel
theorem dX5_learn_17 : decode cX5_learn 17 = .ok (.iload_n 3, 1) := by decide +kernel
theorem dX5_learn_18 : decode cX5_learn 18 = .ok (.ifCond .eq 22, 3) := by decide +kernel
theorem dX5_learn_21 : decode cX5_learn 21 = .ok (.iload_n 2, 1) := by decide +kernel
theorem dX5_learn_22 : decode cX5_learn 22 = .ok (.iload_n 1, 1) := by decide +kernel
theorem dX5_learn_23 : decode cX5_learn 23 = .ok (.if_icmp .ge 17, 3) := by decide +kernel
theorem dX5_learn_26 : decode cX5_learn 26 = .ok (.aload_n 0, 1) := by decide +kernel
theorem dX5_learn_27 : decode cX5_learn 27 = .ok (.getfield 26, 3) := by decide +kernel
theorem dX5_learn_30 : decode cX5_learn 30 = .ok (.invokevirtual 183, 3) := by decide +kernel
theorem dX5_learn_33 : decode cX5_learn 33 = .ok (.istore_n 3, 1) := by decide +kernel
theorem dX5_learn_34 : decode cX5_learn 34 = .ok (.iinc 2 1, 3) := by decide +kernel
theorem dX5_learn_37 : decode cX5_learn 37 = .ok (.goto (-20), 3) := by decide +kernel
theorem dX5_learn_40 : decode cX5_learn 40 = .ok (.iload_n 2, 1) := by decide +kernel
theorem dX5_learn_41 : decode cX5_learn 41 = .ok (.ireturn, 1) := by decide +kernel
set_option maxRecDepth 20000 in
theorem ggX5_rule_X5_isWithin : GoodIn wsX5_rule wsX5_isWithin := goodIn_r _ [6] (by decide +kernel) (by decide +kernel)
set_option maxRecDepth 20000 in
theorem gX5_rule_X5_isWithin : GoodIn wsX5_rule (va_wsS RX5 65 yX5_isWithin wsX5_isWithin) := goodIn_app (goodIn_of _ (by decide +kernel)) ggX5_rule_X5_isWithin
set_option maxRecDepth 20000 in
theorem ggX5_rule_X4_gather : GoodIn wsX5_rule wsX4_gather := goodIn_r _ [11, 12, 13, 14, 15, 5, 16, 17, 18, 19, 20, 21, 22, 23, 24, 25, 26, 27, 28, 29, 30, 31, 10, 32, 33, 34, 35, 36, 37, 38, 39, 40, 41, 42, 43, 44, 45, 65, 66, 67, 68, 69, 70, 71, 72, 73, 74, 75, 76, 77, 78] (by decide +kernel) (by decide +kernel)
set_option maxRecDepth 20000 in
theorem gX5_rule_X4_gather : GoodIn wsX5_rule (wsV RX5 186 RX4 yX4_gather wsX4_gather) := goodIn_app (goodIn_of _ (by decide +kernel)) ggX5_rule_X4_gather
set_option maxRecDepth 20000 in
theorem ggX5_rule_X4_has : GoodIn wsX5_rule wsX4_has := goodIn_r _ [49, 14, 65, 66, 67, 68] (by decide +kernel) (by decide +kernel)
set_option maxRecDepth 20000 in
theorem gX5_rule_X4_has : GoodIn wsX5_rule (wsV RX5 190 RX4 yX4_has wsX4_has) := goodIn_app (goodIn_of _ (by decide +kernel)) ggX5_rule_X4_has
set_option maxRecDepth 20000 in
theorem ggX5_rule_X4_partOf : GoodIn wsX5_rule wsX4_partOf := goodIn_r _ [53, 45, 12, 13, 54, 55, 56, 57, 58, 59, 60, 65, 66, 67, 68] (by decide +kernel) (by decide +kernel)
set_option maxRecDepth 20000 in
theorem gX5_rule_X4_partOf : GoodIn wsX5_rule (wsV RX5 191 RX4 yX4_partOf wsX4_partOf) := goodIn_app (goodIn_of _ (by decide +kernel)) ggX5_rule_X4_partOf
theorem dX5_rule_0 : decode cX5_rule 0 = .ok (.iload_n 2, 1) := by decide +kernel
theorem dX5_rule_1 : decode cX5_rule 1 = .ok (.iconst 0, 1) := by decide +kernel
theorem dX5_rule_2 : decode cX5_rule 2 = .ok (.iconst 4, 1) := by decide +kernel
theorem dX5_rule_3 : decode cX5_rule 3 = .ok (.invokestatic 65, 3) := by decide +kernel
theorem dX5_rule_6 : decode cX5_rule 6 = .ok (.ifCond .ne 6, 3) := by decide +kernel
theorem dX5_rule_9 : decode cX5_rule 9 = .ok (.bipush (-2), 2) := by decide +kernel
theorem dX5_rule_11 : decode cX5_rule 11 = .ok (.ireturn, 1) := by decide +kernel
theorem dX5_rule_12 : decode cX5_rule 12 = .ok (.aload_n 0, 1) := by decide +kernel
theorem dX5_rule_13 : decode cX5_rule 13 = .ok (.getfield 33, 3) := by decide +kernel
theorem dX5_rule_16 : decode cX5_rule 16 = .ok (.aload_n 0, 1) := by decide +kernel
theorem dX5_rule_17 : decode cX5_rule 17 = .ok (.getfield 10, 3) := by decide +kernel
theorem dX5_rule_20 : decode cX5_rule 20 = .ok (.invokevirtual 186, 3) := by decide +kernel
theorem dX5_rule_23 : decode cX5_rule 23 = .ok (.aload_n 0, 1) := by decide +kernel
theorem dX5_rule_24 : decode cX5_rule 24 = .ok (.getfield 33, 3) := by decide +kernel
theorem dX5_rule_27 : decode cX5_rule 27 = .ok (.iload_n 1, 1) := by decide +kernel
theorem dX5_rule_28 : decode cX5_rule 28 = .ok (.invokevirtual 190, 3) := by decide +kernel
theorem dX5_rule_31 : decode cX5_rule 31 = .ok (.ifCond .eq 15, 3) := by decide +kernel
theorem dX5_rule_34 : decode cX5_rule 34 = .ok (.aload_n 0, 1) := by decide +kernel
theorem dX5_rule_35 : decode cX5_rule 35 = .ok (.getfield 33, 3) := by decide +kernel
theorem dX5_rule_38 : decode cX5_rule 38 = .ok (.iload_n 1, 1) := by decide +kernel
theorem dX5_rule_39 : decode cX5_rule 39 = .ok (.iload_n 2, 1) := by decide +kernel
theorem dX5_rule_40 : decode cX5_rule 40 = .ok (.invokevirtual 191, 3) := by decide +kernel
theorem dX5_rule_43 : decode cX5_rule 43 = .ok (.goto 4, 3) := by decide +kernel
theorem dX5_rule_46 : decode cX5_rule 46 = .ok (.iconst (-1), 1) := by decide +kernel
theorem dX5_rule_47 : decode cX5_rule 47 = .ok (.ireturn, 1) := by decide +kernel
set_option maxRecDepth 20000 in
theorem ggX5_count_X2_size : GoodIn wsX5_count wsX2_size := goodIn_r _ [9, 10, 71, 72, 73, 74, 75, 76, 77, 78, 79, 80] (by decide +kernel) (by decide +kernel)
set_option maxRecDepth 20000 in
theorem gX5_count_X2_size : GoodIn wsX5_count (wsV RX5 194 RX2 yX2_size wsX2_size) := goodIn_app (goodIn_of _ (by decide +kernel)) ggX5_count_X2_size
set_option maxRecDepth 20000 in
theorem ggX5_count_X2_labelledRows : GoodIn wsX5_count wsX2_labelledRows := goodIn_r _ [14, 10, 15, 71, 72, 73, 74, 75, 76, 77, 78, 79, 80] (by decide +kernel) (by decide +kernel)
set_option maxRecDepth 20000 in
theorem gX5_count_X2_labelledRows : GoodIn wsX5_count (wsV RX5 197 RX2 yX2_labelledRows wsX2_labelledRows) := goodIn_app (goodIn_of _ (by decide +kernel)) ggX5_count_X2_labelledRows
set_option maxRecDepth 20000 in
theorem ggX5_count_X3_length : GoodIn wsX5_count wsX3_length := goodIn_r _ [20, 21, 81, 82, 83, 84, 85] (by decide +kernel) (by decide +kernel)
set_option maxRecDepth 20000 in
theorem gX5_count_X3_length : GoodIn wsX5_count (wsV RX5 200 RX3 yX3_length wsX3_length) := goodIn_app (goodIn_of _ (by decide +kernel)) ggX5_count_X3_length
set_option maxRecDepth 20000 in
theorem ggX5_count_X4_gather : GoodIn wsX5_count wsX4_gather := goodIn_r _ [26, 27, 28, 29, 30, 31, 32, 33, 6, 7, 8, 9, 10, 34, 35, 36, 37, 38, 39, 40, 41, 42, 25, 43, 44, 45, 46, 47, 48, 49, 50, 51, 52, 53, 54, 55, 56, 86, 87, 88, 89, 71, 72, 73, 74, 75, 76, 77, 78, 79, 80] (by decide +kernel) (by decide +kernel)
set_option maxRecDepth 20000 in
theorem gX5_count_X4_gather : GoodIn wsX5_count (wsV RX5 186 RX4 yX4_gather wsX4_gather) := goodIn_app (goodIn_of _ (by decide +kernel)) ggX5_count_X4_gather
set_option maxRecDepth 20000 in
theorem ggX5_count_X4_size : GoodIn wsX5_count wsX4_size := goodIn_r _ [60, 29, 86, 87, 88, 89] (by decide +kernel) (by decide +kernel)
set_option maxRecDepth 20000 in
theorem gX5_count_X4_size : GoodIn wsX5_count (wsV RX5 203 RX4 yX4_size wsX4_size) := goodIn_app (goodIn_of _ (by decide +kernel)) ggX5_count_X4_size
set_option maxRecDepth 20000 in
theorem ggX5_count_X1_signsOfAll : GoodIn wsX5_count wsX1_signsOfAll := goodIn_r _ [65, 66, 90, 91, 92, 93, 94, 95, 96, 97] (by decide +kernel) (by decide +kernel)
set_option maxRecDepth 20000 in
theorem gX5_count_X1_signsOfAll : GoodIn wsX5_count (wsV RX5 204 RX1 yX1_signsOfAll wsX1_signsOfAll) := goodIn_app (goodIn_of _ (by decide +kernel)) ggX5_count_X1_signsOfAll
theorem dX5_count_0 : decode cX5_count 0 = .ok (.iload_n 1, 1) := by decide +kernel
theorem dX5_count_1 : decode cX5_count 1 = .ok (.tableswitch 86 0 4 #[35, 43, 51, 59, 78], 35) := by decide +kernel
theorem dX5_count_36 : decode cX5_count 36 = .ok (.aload_n 0, 1) := by decide +kernel
theorem dX5_count_37 : decode cX5_count 37 = .ok (.getfield 10, 3) := by decide +kernel
theorem dX5_count_40 : decode cX5_count 40 = .ok (.invokevirtual 194, 3) := by decide +kernel
theorem dX5_count_43 : decode cX5_count 43 = .ok (.ireturn, 1) := by decide +kernel
theorem dX5_count_44 : decode cX5_count 44 = .ok (.aload_n 0, 1) := by decide +kernel
theorem dX5_count_45 : decode cX5_count 45 = .ok (.getfield 10, 3) := by decide +kernel
theorem dX5_count_48 : decode cX5_count 48 = .ok (.invokevirtual 197, 3) := by decide +kernel
theorem dX5_count_51 : decode cX5_count 51 = .ok (.ireturn, 1) := by decide +kernel
theorem dX5_count_52 : decode cX5_count 52 = .ok (.aload_n 0, 1) := by decide +kernel
theorem dX5_count_53 : decode cX5_count 53 = .ok (.getfield 19, 3) := by decide +kernel
theorem dX5_count_56 : decode cX5_count 56 = .ok (.invokevirtual 200, 3) := by decide +kernel
theorem dX5_count_59 : decode cX5_count 59 = .ok (.ireturn, 1) := by decide +kernel
theorem dX5_count_60 : decode cX5_count 60 = .ok (.aload_n 0, 1) := by decide +kernel
theorem dX5_count_61 : decode cX5_count 61 = .ok (.getfield 33, 3) := by decide +kernel
theorem dX5_count_64 : decode cX5_count 64 = .ok (.aload_n 0, 1) := by decide +kernel
theorem dX5_count_65 : decode cX5_count 65 = .ok (.getfield 10, 3) := by decide +kernel
theorem dX5_count_68 : decode cX5_count 68 = .ok (.invokevirtual 186, 3) := by decide +kernel
theorem dX5_count_71 : decode cX5_count 71 = .ok (.aload_n 0, 1) := by decide +kernel
theorem dX5_count_72 : decode cX5_count 72 = .ok (.getfield 33, 3) := by decide +kernel
theorem dX5_count_75 : decode cX5_count 75 = .ok (.invokevirtual 203, 3) := by decide +kernel
theorem dX5_count_78 : decode cX5_count 78 = .ok (.ireturn, 1) := by decide +kernel
theorem dX5_count_79 : decode cX5_count 79 = .ok (.aload_n 0, 1) := by decide +kernel
theorem dX5_count_80 : decode cX5_count 80 = .ok (.getfield 26, 3) := by decide +kernel
theorem dX5_count_83 : decode cX5_count 83 = .ok (.invokevirtual 204, 3) := by decide +kernel
theorem dX5_count_86 : decode cX5_count 86 = .ok (.ireturn, 1) := by decide +kernel
theorem dX5_count_87 : decode cX5_count 87 = .ok (.bipush (-2), 2) := by decide +kernel
theorem dX5_count_89 : decode cX5_count 89 = .ok (.ireturn, 1) := by decide +kernel
theorem dX5_isWithin_0 : decode cX5_isWithin 0 = .ok (.iload_n 0, 1) := by decide +kernel
theorem dX5_isWithin_1 : decode cX5_isWithin 1 = .ok (.iload_n 1, 1) := by decide +kernel
theorem dX5_isWithin_2 : decode cX5_isWithin 2 = .ok (.if_icmp .lt 12, 3) := by decide +kernel
theorem dX5_isWithin_5 : decode cX5_isWithin 5 = .ok (.iload_n 0, 1) := by decide +kernel
theorem dX5_isWithin_6 : decode cX5_isWithin 6 = .ok (.iload_n 2, 1) := by decide +kernel
theorem dX5_isWithin_7 : decode cX5_isWithin 7 = .ok (.if_icmp .gt 7, 3) := by decide +kernel
theorem dX5_isWithin_10 : decode cX5_isWithin 10 = .ok (.iconst 1, 1) := by decide +kernel
theorem dX5_isWithin_11 : decode cX5_isWithin 11 = .ok (.goto 4, 3) := by decide +kernel
theorem dX5_isWithin_14 : decode cX5_isWithin 14 = .ok (.iconst 0, 1) := by decide +kernel
theorem dX5_isWithin_15 : decode cX5_isWithin 15 = .ok (.ireturn, 1) := by decide +kernel
set_option maxRecDepth 20000 in
theorem ggX5_isWord_X5_isWithin : GoodIn wsX5_isWord wsX5_isWithin := goodIn_r _ [4] (by decide +kernel) (by decide +kernel)
set_option maxRecDepth 20000 in
theorem gX5_isWord_X5_isWithin : GoodIn wsX5_isWord (va_wsS RX5 65 yX5_isWithin wsX5_isWithin) := goodIn_app (goodIn_of _ (by decide +kernel)) ggX5_isWord_X5_isWithin
theorem dX5_isWord_0 : decode cX5_isWord 0 = .ok (.iload_n 0, 1) := by decide +kernel
theorem dX5_isWord_1 : decode cX5_isWord 1 = .ok (.iconst 0, 1) := by decide +kernel
theorem dX5_isWord_2 : decode cX5_isWord 2 = .ok (.bipush 7, 2) := by decide +kernel
theorem dX5_isWord_4 : decode cX5_isWord 4 = .ok (.invokestatic 65, 3) := by decide +kernel
theorem dX5_isWord_7 : decode cX5_isWord 7 = .ok (.ireturn, 1) := by decide +kernel
set_option maxRecDepth 20000 in
theorem ggX5_isLabel_X5_isWithin : GoodIn wsX5_isLabel wsX5_isWithin := goodIn_r _ [4] (by decide +kernel) (by decide +kernel)
set_option maxRecDepth 20000 in
theorem gX5_isLabel_X5_isWithin : GoodIn wsX5_isLabel (va_wsS RX5 65 yX5_isWithin wsX5_isWithin) := goodIn_app (goodIn_of _ (by decide +kernel)) ggX5_isLabel_X5_isWithin
theorem dX5_isLabel_0 : decode cX5_isLabel 0 = .ok (.iload_n 0, 1) := by decide +kernel
theorem dX5_isLabel_1 : decode cX5_isLabel 1 = .ok (.iconst 0, 1) := by decide +kernel
theorem dX5_isLabel_2 : decode cX5_isLabel 2 = .ok (.iconst 3, 1) := by decide +kernel
theorem dX5_isLabel_3 : decode cX5_isLabel 3 = .ok (.invokestatic 65, 3) := by decide +kernel
theorem dX5_isLabel_6 : decode cX5_isLabel 6 = .ok (.ireturn, 1) := by decide +kernel
set_option maxRecDepth 20000 in
theorem ggX5_isLabelOrNone_X5_isLabel : GoodIn wsX5_isLabelOrNone wsX5_isLabel := goodIn_r _ [4, 5, 6, 3, 7] (by decide +kernel) (by decide +kernel)
set_option maxRecDepth 20000 in
theorem gX5_isLabelOrNone_X5_isLabel : GoodIn wsX5_isLabelOrNone (va_wsS RX5 73 yX5_isLabel wsX5_isLabel) := goodIn_app (goodIn_of _ (by decide +kernel)) ggX5_isLabelOrNone_X5_isLabel
theorem dX5_isLabelOrNone_0 : decode cX5_isLabelOrNone 0 = .ok (.iload_n 0, 1) := by decide +kernel
theorem dX5_isLabelOrNone_1 : decode cX5_isLabelOrNone 1 = .ok (.iconst (-1), 1) := by decide +kernel
theorem dX5_isLabelOrNone_2 : decode cX5_isLabelOrNone 2 = .ok (.if_icmp .eq 10, 3) := by decide +kernel
theorem dX5_isLabelOrNone_5 : decode cX5_isLabelOrNone 5 = .ok (.iload_n 0, 1) := by decide +kernel
theorem dX5_isLabelOrNone_6 : decode cX5_isLabelOrNone 6 = .ok (.invokestatic 73, 3) := by decide +kernel
theorem dX5_isLabelOrNone_9 : decode cX5_isLabelOrNone 9 = .ok (.ifCond .eq 7, 3) := by decide +kernel
theorem dX5_isLabelOrNone_12 : decode cX5_isLabelOrNone 12 = .ok (.iconst 1, 1) := by decide +kernel
theorem dX5_isLabelOrNone_13 : decode cX5_isLabelOrNone 13 = .ok (.goto 4, 3) := by decide +kernel
theorem dX5_isLabelOrNone_16 : decode cX5_isLabelOrNone 16 = .ok (.iconst 0, 1) := by decide +kernel
theorem dX5_isLabelOrNone_17 : decode cX5_isLabelOrNone 17 = .ok (.ireturn, 1) := by decide +kernel
set_option maxRecDepth 20000 in
theorem ggX5_isSide_X5_isWithin : GoodIn wsX5_isSide wsX5_isWithin := goodIn_r _ [4] (by decide +kernel) (by decide +kernel)
set_option maxRecDepth 20000 in
theorem gX5_isSide_X5_isWithin : GoodIn wsX5_isSide (va_wsS RX5 65 yX5_isWithin wsX5_isWithin) := goodIn_app (goodIn_of _ (by decide +kernel)) ggX5_isSide_X5_isWithin
theorem dX5_isSide_0 : decode cX5_isSide 0 = .ok (.iload_n 0, 1) := by decide +kernel
theorem dX5_isSide_1 : decode cX5_isSide 1 = .ok (.iconst 0, 1) := by decide +kernel
theorem dX5_isSide_2 : decode cX5_isSide 2 = .ok (.iconst 1, 1) := by decide +kernel
theorem dX5_isSide_3 : decode cX5_isSide 3 = .ok (.invokestatic 65, 3) := by decide +kernel
theorem dX5_isSide_6 : decode cX5_isSide 6 = .ok (.ireturn, 1) := by decide +kernel
set_option maxRecDepth 20000 in
theorem ggX5_isTable_X5_isWord : GoodIn wsX5_isTable wsX5_isWord := goodIn_r _ [4, 5, 6, 3, 7] (by decide +kernel) (by decide +kernel)
set_option maxRecDepth 20000 in
theorem gX5_isTable_X5_isWord : GoodIn wsX5_isTable (va_wsS RX5 52 yX5_isWord wsX5_isWord) := goodIn_app (goodIn_of _ (by decide +kernel)) ggX5_isTable_X5_isWord
theorem dX5_isTable_0 : decode cX5_isTable 0 = .ok (.iload_n 1, 1) := by decide +kernel
theorem dX5_isTable_1 : decode cX5_isTable 1 = .ok (.iconst (-1), 1) := by decide +kernel
theorem dX5_isTable_2 : decode cX5_isTable 2 = .ok (.if_icmp .ne 14, 3) := by decide +kernel
theorem dX5_isTable_5 : decode cX5_isTable 5 = .ok (.iload_n 0, 1) := by decide +kernel
theorem dX5_isTable_6 : decode cX5_isTable 6 = .ok (.iconst (-1), 1) := by decide +kernel
theorem dX5_isTable_7 : decode cX5_isTable 7 = .ok (.if_icmp .ne 7, 3) := by decide +kernel
theorem dX5_isTable_10 : decode cX5_isTable 10 = .ok (.iconst 1, 1) := by decide +kernel
theorem dX5_isTable_11 : decode cX5_isTable 11 = .ok (.goto 4, 3) := by decide +kernel
theorem dX5_isTable_14 : decode cX5_isTable 14 = .ok (.iconst 0, 1) := by decide +kernel
theorem dX5_isTable_15 : decode cX5_isTable 15 = .ok (.ireturn, 1) := by decide +kernel
theorem dX5_isTable_16 : decode cX5_isTable 16 = .ok (.iload_n 1, 1) := by decide +kernel
theorem dX5_isTable_17 : decode cX5_isTable 17 = .ok (.invokestatic 52, 3) := by decide +kernel
theorem dX5_isTable_20 : decode cX5_isTable 20 = .ok (.ifCond .eq 19, 3) := by decide +kernel
theorem dX5_isTable_23 : decode cX5_isTable 23 = .ok (.iload_n 0, 1) := by decide +kernel
theorem dX5_isTable_24 : decode cX5_isTable 24 = .ok (.iconst (-1), 1) := by decide +kernel
theorem dX5_isTable_25 : decode cX5_isTable 25 = .ok (.if_icmp .eq 10, 3) := by decide +kernel
theorem dX5_isTable_28 : decode cX5_isTable 28 = .ok (.iload_n 0, 1) := by decide +kernel
theorem dX5_isTable_29 : decode cX5_isTable 29 = .ok (.invokestatic 52, 3) := by decide +kernel
theorem dX5_isTable_32 : decode cX5_isTable 32 = .ok (.ifCond .eq 7, 3) := by decide +kernel
theorem dX5_isTable_35 : decode cX5_isTable 35 = .ok (.iconst 1, 1) := by decide +kernel
theorem dX5_isTable_36 : decode cX5_isTable 36 = .ok (.goto 4, 3) := by decide +kernel
theorem dX5_isTable_39 : decode cX5_isTable 39 = .ok (.iconst 0, 1) := by decide +kernel
theorem dX5_isTable_40 : decode cX5_isTable 40 = .ok (.ireturn, 1) := by decide +kernel
theorem dX5_setAll_0 : decode cX5_setAll 0 = .ok (.iconst 0, 1) := by decide +kernel
theorem dX5_setAll_1 : decode cX5_setAll 1 = .ok (.istore_n 2, 1) := by decide +kernel
theorem dX5_setAll_2 : decode cX5_setAll 2 = .ok (.iload_n 2, 1) := by decide +kernel
theorem dX5_setAll_3 : decode cX5_setAll 3 = .ok (.aload_n 0, 1) := by decide +kernel
theorem dX5_setAll_4 : decode cX5_setAll 4 = .ok (.arraylength, 1) := by decide +kernel
theorem dX5_setAll_5 : decode cX5_setAll 5 = .ok (.if_icmp .ge 13, 3) := by decide +kernel
theorem dX5_setAll_8 : decode cX5_setAll 8 = .ok (.aload_n 0, 1) := by decide +kernel
theorem dX5_setAll_9 : decode cX5_setAll 9 = .ok (.iload_n 2, 1) := by decide +kernel
theorem dX5_setAll_10 : decode cX5_setAll 10 = .ok (.iload_n 1, 1) := by decide +kernel
theorem dX5_setAll_11 : decode cX5_setAll 11 = .ok (.iastore, 1) := by decide +kernel
theorem dX5_setAll_12 : decode cX5_setAll 12 = .ok (.iinc 2 1, 3) := by decide +kernel
theorem dX5_setAll_15 : decode cX5_setAll 15 = .ok (.goto (-13), 3) := by decide +kernel
theorem dX5_setAll_18 : decode cX5_setAll 18 = .ok (.return_, 1) := by decide +kernel
theorem dX6_init_0 : decode cX6_init 0 = .ok (.aload_n 0, 1) := by decide +kernel
theorem dX6_init_1 : decode cX6_init 1 = .ok (.invokespecial 1, 3) := by decide +kernel
theorem dX6_init_4 : decode cX6_init 4 = .ok (.aload_n 0, 1) := by decide +kernel
theorem dX6_init_5 : decode cX6_init 5 = .ok (.bipush 40, 2) := by decide +kernel
theorem dX6_init_7 : decode cX6_init 7 = .ok (.newarray .int, 2) := by decide +kernel
theorem dX6_init_9 : decode cX6_init 9 = .ok (.putfield 7, 3) := by decide +kernel
theorem dX6_init_12 : decode cX6_init 12 = .ok (.aload_n 0, 1) := by decide +kernel
theorem dX6_init_13 : decode cX6_init 13 = .ok (.bipush 40, 2) := by decide +kernel
theorem dX6_init_15 : decode cX6_init 15 = .ok (.newarray .int, 2) := by decide +kernel
theorem dX6_init_17 : decode cX6_init 17 = .ok (.putfield 13, 3) := by decide +kernel
theorem dX6_init_20 : decode cX6_init 20 = .ok (.aload_n 0, 1) := by decide +kernel
theorem dX6_init_21 : decode cX6_init 21 = .ok (.bipush 40, 2) := by decide +kernel
theorem dX6_init_23 : decode cX6_init 23 = .ok (.newarray .int, 2) := by decide +kernel
theorem dX6_init_25 : decode cX6_init 25 = .ok (.putfield 16, 3) := by decide +kernel
theorem dX6_init_28 : decode cX6_init 28 = .ok (.aload_n 0, 1) := by decide +kernel
theorem dX6_init_29 : decode cX6_init 29 = .ok (.bipush 40, 2) := by decide +kernel
theorem dX6_init_31 : decode cX6_init 31 = .ok (.newarray .int, 2) := by decide +kernel
theorem dX6_init_33 : decode cX6_init 33 = .ok (.putfield 19, 3) := by decide +kernel
theorem dX6_init_36 : decode cX6_init 36 = .ok (.aload_n 0, 1) := by decide +kernel
theorem dX6_init_37 : decode cX6_init 37 = .ok (.sipush 240, 3) := by decide +kernel
theorem dX6_init_40 : decode cX6_init 40 = .ok (.newarray .int, 2) := by decide +kernel
theorem dX6_init_42 : decode cX6_init 42 = .ok (.putfield 22, 3) := by decide +kernel
theorem dX6_init_45 : decode cX6_init 45 = .ok (.aload_n 0, 1) := by decide +kernel
theorem dX6_init_46 : decode cX6_init 46 = .ok (.iconst 1, 1) := by decide +kernel
theorem dX6_init_47 : decode cX6_init 47 = .ok (.putfield 25, 3) := by decide +kernel
theorem dX6_init_50 : decode cX6_init 50 = .ok (.aload_n 0, 1) := by decide +kernel
theorem dX6_init_51 : decode cX6_init 51 = .ok (.iconst 1, 1) := by decide +kernel
theorem dX6_init_52 : decode cX6_init 52 = .ok (.putfield 29, 3) := by decide +kernel
theorem dX6_init_55 : decode cX6_init 55 = .ok (.aload_n 0, 1) := by decide +kernel
theorem dX6_init_56 : decode cX6_init 56 = .ok (.bipush 60, 2) := by decide +kernel
theorem dX6_init_58 : decode cX6_init 58 = .ok (.newarray .int, 2) := by decide +kernel
theorem dX6_init_60 : decode cX6_init 60 = .ok (.putfield 32, 3) := by decide +kernel
theorem dX6_init_63 : decode cX6_init 63 = .ok (.aload_n 0, 1) := by decide +kernel
theorem dX6_init_64 : decode cX6_init 64 = .ok (.bipush 8, 2) := by decide +kernel
theorem dX6_init_66 : decode cX6_init 66 = .ok (.newarray .int, 2) := by decide +kernel
theorem dX6_init_68 : decode cX6_init 68 = .ok (.putfield 35, 3) := by decide +kernel
theorem dX6_init_71 : decode cX6_init 71 = .ok (.aload_n 0, 1) := by decide +kernel
theorem dX6_init_72 : decode cX6_init 72 = .ok (.bipush 8, 2) := by decide +kernel
theorem dX6_init_74 : decode cX6_init 74 = .ok (.newarray .long, 2) := by decide +kernel
theorem dX6_init_76 : decode cX6_init 76 = .ok (.putfield 38, 3) := by decide +kernel
theorem dX6_init_79 : decode cX6_init 79 = .ok (.aload_n 0, 1) := by decide +kernel
theorem dX6_init_80 : decode cX6_init 80 = .ok (.iconst 4, 1) := by decide +kernel
theorem dX6_init_81 : decode cX6_init 81 = .ok (.newarray .int, 2) := by decide +kernel
theorem dX6_init_83 : decode cX6_init 83 = .ok (.putfield 42, 3) := by decide +kernel
theorem dX6_init_86 : decode cX6_init 86 = .ok (.aload_n 0, 1) := by decide +kernel
theorem dX6_init_87 : decode cX6_init 87 = .ok (.bipush 16, 2) := by decide +kernel
theorem dX6_init_89 : decode cX6_init 89 = .ok (.newarray .int, 2) := by decide +kernel
theorem dX6_init_91 : decode cX6_init 91 = .ok (.putfield 45, 3) := by decide +kernel
theorem dX6_init_94 : decode cX6_init 94 = .ok (.aload_n 0, 1) := by decide +kernel
theorem dX6_init_95 : decode cX6_init 95 = .ok (.bipush 16, 2) := by decide +kernel
theorem dX6_init_97 : decode cX6_init 97 = .ok (.newarray .int, 2) := by decide +kernel
theorem dX6_init_99 : decode cX6_init 99 = .ok (.putfield 48, 3) := by decide +kernel
theorem dX6_init_102 : decode cX6_init 102 = .ok (.aload_n 0, 1) := by decide +kernel
theorem dX6_init_103 : decode cX6_init 103 = .ok (.bipush 20, 2) := by decide +kernel
theorem dX6_init_105 : decode cX6_init 105 = .ok (.newarray .int, 2) := by decide +kernel
theorem dX6_init_107 : decode cX6_init 107 = .ok (.putfield 51, 3) := by decide +kernel
theorem dX6_init_110 : decode cX6_init 110 = .ok (.aload_n 0, 1) := by decide +kernel
theorem dX6_init_111 : decode cX6_init 111 = .ok (.iconst 4, 1) := by decide +kernel
theorem dX6_init_112 : decode cX6_init 112 = .ok (.newarray .int, 2) := by decide +kernel
theorem dX6_init_114 : decode cX6_init 114 = .ok (.putfield 54, 3) := by decide +kernel
theorem dX6_init_117 : decode cX6_init 117 = .ok (.aload_n 0, 1) := by decide +kernel
theorem dX6_init_118 : decode cX6_init 118 = .ok (.iconst 4, 1) := by decide +kernel
theorem dX6_init_119 : decode cX6_init 119 = .ok (.newarray .int, 2) := by decide +kernel
theorem dX6_init_121 : decode cX6_init 121 = .ok (.putfield 57, 3) := by decide +kernel
theorem dX6_init_124 : decode cX6_init 124 = .ok (.aload_n 0, 1) := by decide +kernel
theorem dX6_init_125 : decode cX6_init 125 = .ok (.iconst 4, 1) := by decide +kernel
theorem dX6_init_126 : decode cX6_init 126 = .ok (.newarray .int, 2) := by decide +kernel
theorem dX6_init_128 : decode cX6_init 128 = .ok (.putfield 60, 3) := by decide +kernel
theorem dX6_init_131 : decode cX6_init 131 = .ok (.aload_n 0, 1) := by decide +kernel
theorem dX6_init_132 : decode cX6_init 132 = .ok (.bipush 16, 2) := by decide +kernel
theorem dX6_init_134 : decode cX6_init 134 = .ok (.newarray .int, 2) := by decide +kernel
theorem dX6_init_136 : decode cX6_init 136 = .ok (.putfield 63, 3) := by decide +kernel
theorem dX6_init_139 : decode cX6_init 139 = .ok (.aload_n 0, 1) := by decide +kernel
theorem dX6_init_140 : decode cX6_init 140 = .ok (.bipush 16, 2) := by decide +kernel
theorem dX6_init_142 : decode cX6_init 142 = .ok (.newarray .int, 2) := by decide +kernel
theorem dX6_init_144 : decode cX6_init 144 = .ok (.putfield 66, 3) := by decide +kernel
theorem dX6_init_147 : decode cX6_init 147 = .ok (.iconst 0, 1) := by decide +kernel
theorem dX6_init_148 : decode cX6_init 148 = .ok (.istore_n 1, 1) := by decide +kernel
theorem dX6_init_149 : decode cX6_init 149 = .ok (.iload_n 1, 1) := by decide +kernel
theorem dX6_init_150 : decode cX6_init 150 = .ok (.iconst 4, 1) := by decide +kernel
theorem dX6_init_151 : decode cX6_init 151 = .ok (.if_icmp .ge 16, 3) := by decide +kernel
theorem dX6_init_154 : decode cX6_init 154 = .ok (.aload_n 0, 1) := by decide +kernel
theorem dX6_init_155 : decode cX6_init 155 = .ok (.getfield 42, 3) := by decide +kernel
theorem dX6_init_158 : decode cX6_init 158 = .ok (.iload_n 1, 1) := by decide +kernel
theorem dX6_init_159 : decode cX6_init 159 = .ok (.iconst 1, 1) := by decide +kernel
theorem dX6_init_160 : decode cX6_init 160 = .ok (.iastore, 1) := by decide +kernel
theorem dX6_init_161 : decode cX6_init 161 = .ok (.iinc 1 1, 3) := by decide +kernel
theorem dX6_init_164 : decode cX6_init 164 = .ok (.goto (-15), 3) := by decide +kernel
theorem dX6_init_167 : decode cX6_init 167 = .ok (.iconst 0, 1) := by decide +kernel
theorem dX6_init_168 : decode cX6_init 168 = .ok (.istore_n 1, 1) := by decide +kernel
theorem dX6_init_169 : decode cX6_init 169 = .ok (.iload_n 1, 1) := by decide +kernel
theorem dX6_init_170 : decode cX6_init 170 = .ok (.bipush 16, 2) := by decide +kernel
theorem dX6_init_172 : decode cX6_init 172 = .ok (.if_icmp .ge 23, 3) := by decide +kernel
theorem dX6_init_175 : decode cX6_init 175 = .ok (.aload_n 0, 1) := by decide +kernel
theorem dX6_init_176 : decode cX6_init 176 = .ok (.getfield 45, 3) := by decide +kernel
theorem dX6_init_179 : decode cX6_init 179 = .ok (.iload_n 1, 1) := by decide +kernel
theorem dX6_init_180 : decode cX6_init 180 = .ok (.iconst 1, 1) := by decide +kernel
theorem dX6_init_181 : decode cX6_init 181 = .ok (.iastore, 1) := by decide +kernel
theorem dX6_init_182 : decode cX6_init 182 = .ok (.aload_n 0, 1) := by decide +kernel
theorem dX6_init_183 : decode cX6_init 183 = .ok (.getfield 48, 3) := by decide +kernel
theorem dX6_init_186 : decode cX6_init 186 = .ok (.iload_n 1, 1) := by decide +kernel
theorem dX6_init_187 : decode cX6_init 187 = .ok (.iconst 1, 1) := by decide +kernel
theorem dX6_init_188 : decode cX6_init 188 = .ok (.iastore, 1) := by decide +kernel
theorem dX6_init_189 : decode cX6_init 189 = .ok (.iinc 1 1, 3) := by decide +kernel
theorem dX6_init_192 : decode cX6_init 192 = .ok (.goto (-23), 3) := by decide +kernel
theorem dX6_init_195 : decode cX6_init 195 = .ok (.return_, 1) := by decide +kernel
theorem dX6_thrown_0 : decode cX6_thrown 0 = .ok (.aload_n 0, 1) := by decide +kernel
theorem dX6_thrown_1 : decode cX6_thrown 1 = .ok (.getfield 69, 3) := by decide +kernel
theorem dX6_thrown_4 : decode cX6_thrown 4 = .ok (.ireturn, 1) := by decide +kernel
theorem dX6_within_0 : decode cX6_within 0 = .ok (.iload_n 0, 1) := by decide +kernel
theorem dX6_within_1 : decode cX6_within 1 = .ok (.iload_n 1, 1) := by decide +kernel
theorem dX6_within_2 : decode cX6_within 2 = .ok (.if_icmp .lt 12, 3) := by decide +kernel
theorem dX6_within_5 : decode cX6_within 5 = .ok (.iload_n 0, 1) := by decide +kernel
theorem dX6_within_6 : decode cX6_within 6 = .ok (.iload_n 2, 1) := by decide +kernel
theorem dX6_within_7 : decode cX6_within 7 = .ok (.if_icmp .gt 7, 3) := by decide +kernel
theorem dX6_within_10 : decode cX6_within 10 = .ok (.iconst 1, 1) := by decide +kernel
theorem dX6_within_11 : decode cX6_within 11 = .ok (.goto 4, 3) := by decide +kernel
theorem dX6_within_14 : decode cX6_within 14 = .ok (.iconst 0, 1) := by decide +kernel
theorem dX6_within_15 : decode cX6_within 15 = .ok (.ireturn, 1) := by decide +kernel
theorem dX6_measure_0 : decode cX6_measure 0 = .ok (.lload_n 0, 1) := by decide +kernel
theorem dX6_measure_1 : decode cX6_measure 1 = .ok (.lstore 4, 2) := by decide +kernel
theorem dX6_measure_3 : decode cX6_measure 3 = .ok (.lload_n 2, 1) := by decide +kernel
theorem dX6_measure_4 : decode cX6_measure 4 = .ok (.lstore 6, 2) := by decide +kernel
theorem dX6_measure_6 : decode cX6_measure 6 = .ok (.lload 6, 2) := by decide +kernel
theorem dX6_measure_8 : decode cX6_measure 8 = .ok (.lconst 0, 1) := by decide +kernel
theorem dX6_measure_9 : decode cX6_measure 9 = .ok (.lcmp, 1) := by decide +kernel
theorem dX6_measure_10 : decode cX6_measure 10 = .ok (.ifCond .eq 21, 3) := by decide +kernel
theorem dX6_measure_13 : decode cX6_measure 13 = .ok (.lload 4, 2) := by decide +kernel
theorem dX6_measure_15 : decode cX6_measure 15 = .ok (.lload 6, 2) := by decide +kernel
theorem dX6_measure_17 : decode cX6_measure 17 = .ok (.lrem, 1) := by decide +kernel
theorem dX6_measure_18 : decode cX6_measure 18 = .ok (.lstore 8, 2) := by decide +kernel
theorem dX6_measure_20 : decode cX6_measure 20 = .ok (.lload 6, 2) := by decide +kernel
theorem dX6_measure_22 : decode cX6_measure 22 = .ok (.lstore 4, 2) := by decide +kernel
theorem dX6_measure_24 : decode cX6_measure 24 = .ok (.lload 8, 2) := by decide +kernel
theorem dX6_measure_26 : decode cX6_measure 26 = .ok (.lstore 6, 2) := by decide +kernel
theorem dX6_measure_28 : decode cX6_measure 28 = .ok (.goto (-22), 3) := by decide +kernel
theorem dX6_measure_31 : decode cX6_measure 31 = .ok (.lload 4, 2) := by decide +kernel
theorem dX6_measure_33 : decode cX6_measure 33 = .ok (.lreturn, 1) := by decide +kernel
set_option maxRecDepth 20000 in
theorem ggX6_side_X6_measure : GoodIn wsX6_side wsX6_measure := goodIn_r _ [4] (by decide +kernel) (by decide +kernel)
set_option maxRecDepth 20000 in
theorem gX6_side_X6_measure : GoodIn wsX6_side (va_wsS RX6 72 yX6_measure wsX6_measure) := goodIn_app (goodIn_of _ (by decide +kernel)) ggX6_side_X6_measure
theorem dX6_side_0 : decode cX6_side 0 = .ok (.lload_n 0, 1) := by decide +kernel
theorem dX6_side_1 : decode cX6_side 1 = .ok (.lload_n 2, 1) := by decide +kernel
theorem dX6_side_2 : decode cX6_side 2 = .ok (.invokestatic 72, 3) := by decide +kernel
theorem dX6_side_5 : decode cX6_side 5 = .ok (.lstore 5, 2) := by decide +kernel
theorem dX6_side_7 : decode cX6_side 7 = .ok (.iload 4, 2) := by decide +kernel
theorem dX6_side_9 : decode cX6_side 9 = .ok (.ifCond .ne 10, 3) := by decide +kernel
theorem dX6_side_12 : decode cX6_side 12 = .ok (.lload_n 0, 1) := by decide +kernel
theorem dX6_side_13 : decode cX6_side 13 = .ok (.lload 5, 2) := by decide +kernel
theorem dX6_side_15 : decode cX6_side 15 = .ok (.ldiv, 1) := by decide +kernel
theorem dX6_side_16 : decode cX6_side 16 = .ok (.goto 7, 3) := by decide +kernel
theorem dX6_side_19 : decode cX6_side 19 = .ok (.lload_n 2, 1) := by decide +kernel
theorem dX6_side_20 : decode cX6_side 20 = .ok (.lload 5, 2) := by decide +kernel
theorem dX6_side_22 : decode cX6_side 22 = .ok (.ldiv, 1) := by decide +kernel
theorem dX6_side_23 : decode cX6_side 23 = .ok (.lreturn, 1) := by decide +kernel
theorem dX6_isAbove_0 : decode cX6_isAbove 0 = .ok (.lload_n 0, 1) := by decide +kernel
theorem dX6_isAbove_1 : decode cX6_isAbove 1 = .ok (.lstore 8, 2) := by decide +kernel
theorem dX6_isAbove_3 : decode cX6_isAbove 3 = .ok (.lload_n 2, 1) := by decide +kernel
theorem dX6_isAbove_4 : decode cX6_isAbove 4 = .ok (.lstore 10, 2) := by decide +kernel
theorem dX6_isAbove_6 : decode cX6_isAbove 6 = .ok (.lload 4, 2) := by decide +kernel
theorem dX6_isAbove_8 : decode cX6_isAbove 8 = .ok (.lstore 12, 2) := by decide +kernel
theorem dX6_isAbove_10 : decode cX6_isAbove 10 = .ok (.lload 6, 2) := by decide +kernel
theorem dX6_isAbove_12 : decode cX6_isAbove 12 = .ok (.lstore 14, 2) := by decide +kernel
theorem dX6_isAbove_14 : decode cX6_isAbove 14 = .ok (.iconst 0, 1) := by decide +kernel
theorem dX6_isAbove_15 : decode cX6_isAbove 15 = .ok (.istore 16, 2) := by decide +kernel
theorem dX6_isAbove_17 : decode cX6_isAbove 17 = .ok (.lload 10, 2) := by decide +kernel
theorem dX6_isAbove_19 : decode cX6_isAbove 19 = .ok (.lconst 0, 1) := by decide +kernel
theorem dX6_isAbove_20 : decode cX6_isAbove 20 = .ok (.lcmp, 1) := by decide +kernel
theorem dX6_isAbove_21 : decode cX6_isAbove 21 = .ok (.ifCond .eq 101, 3) := by decide +kernel
theorem dX6_isAbove_24 : decode cX6_isAbove 24 = .ok (.lload 14, 2) := by decide +kernel
theorem dX6_isAbove_26 : decode cX6_isAbove 26 = .ok (.lconst 0, 1) := by decide +kernel
theorem dX6_isAbove_27 : decode cX6_isAbove 27 = .ok (.lcmp, 1) := by decide +kernel
theorem dX6_isAbove_28 : decode cX6_isAbove 28 = .ok (.ifCond .eq 94, 3) := by decide +kernel
theorem dX6_isAbove_31 : decode cX6_isAbove 31 = .ok (.lload 8, 2) := by decide +kernel
theorem dX6_isAbove_33 : decode cX6_isAbove 33 = .ok (.lload 10, 2) := by decide +kernel
theorem dX6_isAbove_35 : decode cX6_isAbove 35 = .ok (.ldiv, 1) := by decide +kernel
theorem dX6_isAbove_36 : decode cX6_isAbove 36 = .ok (.lstore 17, 2) := by decide +kernel
theorem dX6_isAbove_38 : decode cX6_isAbove 38 = .ok (.lload 12, 2) := by decide +kernel
theorem dX6_isAbove_40 : decode cX6_isAbove 40 = .ok (.lload 14, 2) := by decide +kernel
theorem dX6_isAbove_42 : decode cX6_isAbove 42 = .ok (.ldiv, 1) := by decide +kernel
theorem dX6_isAbove_43 : decode cX6_isAbove 43 = .ok (.lstore 19, 2) := by decide +kernel
theorem dX6_isAbove_45 : decode cX6_isAbove 45 = .ok (.lload 17, 2) := by decide +kernel
theorem dX6_isAbove_47 : decode cX6_isAbove 47 = .ok (.lload 19, 2) := by decide +kernel
theorem dX6_isAbove_49 : decode cX6_isAbove 49 = .ok (.lcmp, 1) := by decide +kernel
theorem dX6_isAbove_50 : decode cX6_isAbove 50 = .ok (.ifCond .eq 27, 3) := by decide +kernel
theorem dX6_isAbove_53 : decode cX6_isAbove 53 = .ok (.lload 17, 2) := by decide +kernel
theorem dX6_isAbove_55 : decode cX6_isAbove 55 = .ok (.lload 19, 2) := by decide +kernel
theorem dX6_isAbove_57 : decode cX6_isAbove 57 = .ok (.lcmp, 1) := by decide +kernel
theorem dX6_isAbove_58 : decode cX6_isAbove 58 = .ok (.ifCond .le 7, 3) := by decide +kernel
theorem dX6_isAbove_61 : decode cX6_isAbove 61 = .ok (.iconst 1, 1) := by decide +kernel
theorem dX6_isAbove_62 : decode cX6_isAbove 62 = .ok (.goto 4, 3) := by decide +kernel
theorem dX6_isAbove_65 : decode cX6_isAbove 65 = .ok (.iconst 0, 1) := by decide +kernel
theorem dX6_isAbove_66 : decode cX6_isAbove 66 = .ok (.iload 16, 2) := by decide +kernel
theorem dX6_isAbove_68 : decode cX6_isAbove 68 = .ok (.if_icmp .eq 7, 3) := by decide +kernel
theorem dX6_isAbove_71 : decode cX6_isAbove 71 = .ok (.iconst 1, 1) := by decide +kernel
theorem dX6_isAbove_72 : decode cX6_isAbove 72 = .ok (.goto 4, 3) := by decide +kernel
theorem dX6_isAbove_75 : decode cX6_isAbove 75 = .ok (.iconst 0, 1) := by decide +kernel
theorem dX6_isAbove_76 : decode cX6_isAbove 76 = .ok (.ireturn, 1) := by decide +kernel
theorem dX6_isAbove_77 : decode cX6_isAbove 77 = .ok (.lload 8, 2) := by decide +kernel
theorem dX6_isAbove_79 : decode cX6_isAbove 79 = .ok (.lload 10, 2) := by decide +kernel
theorem dX6_isAbove_81 : decode cX6_isAbove 81 = .ok (.lrem, 1) := by decide +kernel
theorem dX6_isAbove_82 : decode cX6_isAbove 82 = .ok (.lstore 21, 2) := by decide +kernel
theorem dX6_isAbove_84 : decode cX6_isAbove 84 = .ok (.lload 10, 2) := by decide +kernel
theorem dX6_isAbove_86 : decode cX6_isAbove 86 = .ok (.lstore 8, 2) := by decide +kernel
theorem dX6_isAbove_88 : decode cX6_isAbove 88 = .ok (.lload 21, 2) := by decide +kernel
theorem dX6_isAbove_90 : decode cX6_isAbove 90 = .ok (.lstore 10, 2) := by decide +kernel
theorem dX6_isAbove_92 : decode cX6_isAbove 92 = .ok (.lload 12, 2) := by decide +kernel
theorem dX6_isAbove_94 : decode cX6_isAbove 94 = .ok (.lload 14, 2) := by decide +kernel
theorem dX6_isAbove_96 : decode cX6_isAbove 96 = .ok (.lrem, 1) := by decide +kernel
theorem dX6_isAbove_97 : decode cX6_isAbove 97 = .ok (.lstore 21, 2) := by decide +kernel
theorem dX6_isAbove_99 : decode cX6_isAbove 99 = .ok (.lload 14, 2) := by decide +kernel
theorem dX6_isAbove_101 : decode cX6_isAbove 101 = .ok (.lstore 12, 2) := by decide +kernel
theorem dX6_isAbove_103 : decode cX6_isAbove 103 = .ok (.lload 21, 2) := by decide +kernel
theorem dX6_isAbove_105 : decode cX6_isAbove 105 = .ok (.lstore 14, 2) := by decide +kernel
theorem dX6_isAbove_107 : decode cX6_isAbove 107 = .ok (.iload 16, 2) := by decide +kernel
theorem dX6_isAbove_109 : decode cX6_isAbove 109 = .ok (.ifCond .ne 7, 3) := by decide +kernel
theorem dX6_isAbove_112 : decode cX6_isAbove 112 = .ok (.iconst 1, 1) := by decide +kernel
theorem dX6_isAbove_113 : decode cX6_isAbove 113 = .ok (.goto 4, 3) := by decide +kernel
theorem dX6_isAbove_116 : decode cX6_isAbove 116 = .ok (.iconst 0, 1) := by decide +kernel
theorem dX6_isAbove_117 : decode cX6_isAbove 117 = .ok (.istore 16, 2) := by decide +kernel
theorem dX6_isAbove_119 : decode cX6_isAbove 119 = .ok (.goto (-102), 3) := by decide +kernel
theorem dX6_isAbove_122 : decode cX6_isAbove 122 = .ok (.lload 10, 2) := by decide +kernel
theorem dX6_isAbove_124 : decode cX6_isAbove 124 = .ok (.lload 14, 2) := by decide +kernel
theorem dX6_isAbove_126 : decode cX6_isAbove 126 = .ok (.lcmp, 1) := by decide +kernel
theorem dX6_isAbove_127 : decode cX6_isAbove 127 = .ok (.ifCond .ne 7, 3) := by decide +kernel
theorem dX6_isAbove_130 : decode cX6_isAbove 130 = .ok (.iconst 0, 1) := by decide +kernel
theorem dX6_isAbove_131 : decode cX6_isAbove 131 = .ok (.goto 25, 3) := by decide +kernel
theorem dX6_isAbove_134 : decode cX6_isAbove 134 = .ok (.lload 10, 2) := by decide +kernel
theorem dX6_isAbove_136 : decode cX6_isAbove 136 = .ok (.lconst 0, 1) := by decide +kernel
theorem dX6_isAbove_137 : decode cX6_isAbove 137 = .ok (.lcmp, 1) := by decide +kernel
theorem dX6_isAbove_138 : decode cX6_isAbove 138 = .ok (.ifCond .ne 7, 3) := by decide +kernel
theorem dX6_isAbove_141 : decode cX6_isAbove 141 = .ok (.iconst 1, 1) := by decide +kernel
theorem dX6_isAbove_142 : decode cX6_isAbove 142 = .ok (.goto 4, 3) := by decide +kernel
theorem dX6_isAbove_145 : decode cX6_isAbove 145 = .ok (.iconst 0, 1) := by decide +kernel
theorem dX6_isAbove_146 : decode cX6_isAbove 146 = .ok (.iload 16, 2) := by decide +kernel
theorem dX6_isAbove_148 : decode cX6_isAbove 148 = .ok (.if_icmp .eq 7, 3) := by decide +kernel
theorem dX6_isAbove_151 : decode cX6_isAbove 151 = .ok (.iconst 1, 1) := by decide +kernel
theorem dX6_isAbove_152 : decode cX6_isAbove 152 = .ok (.goto 4, 3) := by decide +kernel
theorem dX6_isAbove_155 : decode cX6_isAbove 155 = .ok (.iconst 0, 1) := by decide +kernel
theorem dX6_isAbove_156 : decode cX6_isAbove 156 = .ok (.ireturn, 1) := by decide +kernel
set_option maxRecDepth 20000 in
theorem ggX6_isRow_X6_within : GoodIn wsX6_isRow wsX6_within := goodIn_r _ [5] (by decide +kernel) (by decide +kernel)
set_option maxRecDepth 20000 in
theorem gX6_isRow_X6_within : GoodIn wsX6_isRow (va_wsS RX6 79 yX6_within wsX6_within) := goodIn_app (goodIn_of _ (by decide +kernel)) ggX6_isRow_X6_within
theorem dX6_isRow_0 : decode cX6_isRow 0 = .ok (.iload_n 1, 1) := by decide +kernel
theorem dX6_isRow_1 : decode cX6_isRow 1 = .ok (.iconst 0, 1) := by decide +kernel
theorem dX6_isRow_2 : decode cX6_isRow 2 = .ok (.aload_n 0, 1) := by decide +kernel
theorem dX6_isRow_3 : decode cX6_isRow 3 = .ok (.getfield 76, 3) := by decide +kernel
theorem dX6_isRow_6 : decode cX6_isRow 6 = .ok (.iconst 1, 1) := by decide +kernel
theorem dX6_isRow_7 : decode cX6_isRow 7 = .ok (.isub, 1) := by decide +kernel
theorem dX6_isRow_8 : decode cX6_isRow 8 = .ok (.invokestatic 79, 3) := by decide +kernel
theorem dX6_isRow_11 : decode cX6_isRow 11 = .ok (.ireturn, 1) := by decide +kernel
theorem dX6_forget_0 : decode cX6_forget 0 = .ok (.iconst 0, 1) := by decide +kernel
theorem dX6_forget_1 : decode cX6_forget 1 = .ok (.istore_n 1, 1) := by decide +kernel
theorem dX6_forget_2 : decode cX6_forget 2 = .ok (.iload_n 1, 1) := by decide +kernel
theorem dX6_forget_3 : decode cX6_forget 3 = .ok (.bipush 40, 2) := by decide +kernel
theorem dX6_forget_5 : decode cX6_forget 5 = .ok (.if_icmp .ge 16, 3) := by decide +kernel
theorem dX6_forget_8 : decode cX6_forget 8 = .ok (.aload_n 0, 1) := by decide +kernel
theorem dX6_forget_9 : decode cX6_forget 9 = .ok (.getfield 13, 3) := by decide +kernel
theorem dX6_forget_12 : decode cX6_forget 12 = .ok (.iload_n 1, 1) := by decide +kernel
theorem dX6_forget_13 : decode cX6_forget 13 = .ok (.iconst (-1), 1) := by decide +kernel
theorem dX6_forget_14 : decode cX6_forget 14 = .ok (.iastore, 1) := by decide +kernel
theorem dX6_forget_15 : decode cX6_forget 15 = .ok (.iinc 1 1, 3) := by decide +kernel
theorem dX6_forget_18 : decode cX6_forget 18 = .ok (.goto (-16), 3) := by decide +kernel
theorem dX6_forget_21 : decode cX6_forget 21 = .ok (.return_, 1) := by decide +kernel
set_option maxRecDepth 20000 in
theorem ggX6_mayBe_X6_within : GoodIn wsX6_mayBe wsX6_within := goodIn_r _ [4] (by decide +kernel) (by decide +kernel)
set_option maxRecDepth 20000 in
theorem gX6_mayBe_X6_within : GoodIn wsX6_mayBe (va_wsS RX6 79 yX6_within wsX6_within) := goodIn_app (goodIn_of _ (by decide +kernel)) ggX6_mayBe_X6_within
theorem dX6_mayBe_0 : decode cX6_mayBe 0 = .ok (.iload_n 0, 1) := by decide +kernel
theorem dX6_mayBe_1 : decode cX6_mayBe 1 = .ok (.iconst (-1), 1) := by decide +kernel
theorem dX6_mayBe_2 : decode cX6_mayBe 2 = .ok (.iconst 3, 1) := by decide +kernel
theorem dX6_mayBe_3 : decode cX6_mayBe 3 = .ok (.invokestatic 79, 3) := by decide +kernel
theorem dX6_mayBe_6 : decode cX6_mayBe 6 = .ok (.ireturn, 1) := by decide +kernel
set_option maxRecDepth 20000 in
theorem ggX6_row_X6_mayBe : GoodIn wsX6_row wsX6_mayBe := goodIn_r _ [8, 9, 10, 7, 11] (by decide +kernel) (by decide +kernel)
set_option maxRecDepth 20000 in
theorem gX6_row_X6_mayBe : GoodIn wsX6_row (va_wsS RX6 83 yX6_mayBe wsX6_mayBe) := goodIn_app (goodIn_of _ (by decide +kernel)) ggX6_row_X6_mayBe
set_option maxRecDepth 20000 in
theorem ggX6_row_X6_forget : GoodIn wsX6_row wsX6_forget := goodIn_r _ [15, 16, 17, 18, 19, 20, 21, 22, 23, 24, 25, 26, 27, 28, 29, 30, 31, 32, 33, 34, 35, 36, 37, 38, 39, 40, 41] (by decide +kernel) (by decide +kernel)
set_option maxRecDepth 20000 in
theorem gX6_row_X6_forget : GoodIn wsX6_row (wsV RX6 87 RX6 yX6_forget wsX6_forget) := goodIn_app (goodIn_of _ (by decide +kernel)) ggX6_row_X6_forget
theorem dX6_row_0 : decode cX6_row 0 = .ok (.aload_n 0, 1) := by decide +kernel
theorem dX6_row_1 : decode cX6_row 1 = .ok (.iconst 0, 1) := by decide +kernel
theorem dX6_row_2 : decode cX6_row 2 = .ok (.putfield 69, 3) := by decide +kernel
theorem dX6_row_5 : decode cX6_row 5 = .ok (.iload_n 1, 1) := by decide +kernel
theorem dX6_row_6 : decode cX6_row 6 = .ok (.invokestatic 83, 3) := by decide +kernel
theorem dX6_row_9 : decode cX6_row 9 = .ok (.ifCond .ne 6, 3) := by decide +kernel
theorem dX6_row_12 : decode cX6_row 12 = .ok (.bipush (-2), 2) := by decide +kernel
theorem dX6_row_14 : decode cX6_row 14 = .ok (.ireturn, 1) := by decide +kernel
theorem dX6_row_15 : decode cX6_row 15 = .ok (.aload_n 0, 1) := by decide +kernel
theorem dX6_row_16 : decode cX6_row 16 = .ok (.getfield 76, 3) := by decide +kernel
theorem dX6_row_19 : decode cX6_row 19 = .ok (.bipush 40, 2) := by decide +kernel
theorem dX6_row_21 : decode cX6_row 21 = .ok (.if_icmp .ne 6, 3) := by decide +kernel
theorem dX6_row_24 : decode cX6_row 24 = .ok (.bipush (-3), 2) := by decide +kernel
theorem dX6_row_26 : decode cX6_row 26 = .ok (.ireturn, 1) := by decide +kernel
theorem dX6_row_27 : decode cX6_row 27 = .ok (.aload_n 0, 1) := by decide +kernel
theorem dX6_row_28 : decode cX6_row 28 = .ok (.getfield 7, 3) := by decide +kernel
theorem dX6_row_31 : decode cX6_row 31 = .ok (.aload_n 0, 1) := by decide +kernel
theorem dX6_row_32 : decode cX6_row 32 = .ok (.getfield 76, 3) := by decide +kernel
theorem dX6_row_35 : decode cX6_row 35 = .ok (.iload_n 1, 1) := by decide +kernel
theorem dX6_row_36 : decode cX6_row 36 = .ok (.iastore, 1) := by decide +kernel
theorem dX6_row_37 : decode cX6_row 37 = .ok (.aload_n 0, 1) := by decide +kernel
theorem dX6_row_38 : decode cX6_row 38 = .ok (.getfield 19, 3) := by decide +kernel
theorem dX6_row_41 : decode cX6_row 41 = .ok (.aload_n 0, 1) := by decide +kernel
theorem dX6_row_42 : decode cX6_row 42 = .ok (.getfield 76, 3) := by decide +kernel
theorem dX6_row_45 : decode cX6_row 45 = .ok (.iconst 0, 1) := by decide +kernel
theorem dX6_row_46 : decode cX6_row 46 = .ok (.iastore, 1) := by decide +kernel
theorem dX6_row_47 : decode cX6_row 47 = .ok (.aload_n 0, 1) := by decide +kernel
theorem dX6_row_48 : decode cX6_row 48 = .ok (.dup, 1) := by decide +kernel
theorem dX6_row_49 : decode cX6_row 49 = .ok (.getfield 76, 3) := by decide +kernel
theorem dX6_row_52 : decode cX6_row 52 = .ok (.iconst 1, 1) := by decide +kernel
