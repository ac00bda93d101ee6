theorem dX6_row_53 : decode cX6_row 53 = .ok (.iadd, 1) := by decide +kernel
theorem dX6_row_54 : decode cX6_row 54 = .ok (.putfield 76, 3) := by decide +kernel
theorem dX6_row_57 : decode cX6_row 57 = .ok (.aload_n 0, 1) := by decide +kernel
theorem dX6_row_58 : decode cX6_row 58 = .ok (.invokevirtual 87, 3) := by decide +kernel
theorem dX6_row_61 : decode cX6_row 61 = .ok (.aload_n 0, 1) := by decide +kernel
theorem dX6_row_62 : decode cX6_row 62 = .ok (.getfield 76, 3) := by decide +kernel
theorem dX6_row_65 : decode cX6_row 65 = .ok (.iconst 1, 1) := by decide +kernel
theorem dX6_row_66 : decode cX6_row 66 = .ok (.isub, 1) := by decide +kernel
theorem dX6_row_67 : decode cX6_row 67 = .ok (.ireturn, 1) := by decide +kernel
set_option maxRecDepth 20000 in
theorem ggX6_word_X6_isRow : GoodIn wsX6_word wsX6_isRow := goodIn_r _ [8, 9, 10, 11, 7, 12, 18, 19, 20, 21, 22, 23, 24, 25, 26, 27, 28, 29, 30, 31, 32, 33, 34, 35, 36, 37, 38, 39, 40, 41, 42] (by decide +kernel) (by decide +kernel)
set_option maxRecDepth 20000 in
theorem gX6_word_X6_isRow : GoodIn wsX6_word (wsV RX6 90 RX6 yX6_isRow wsX6_isRow) := goodIn_app (goodIn_of _ (by decide +kernel)) ggX6_word_X6_isRow
set_option maxRecDepth 20000 in
theorem ggX6_word_X6_within : GoodIn wsX6_word wsX6_within := goodIn_r _ [12] (by decide +kernel) (by decide +kernel)
set_option maxRecDepth 20000 in
theorem gX6_word_X6_within : GoodIn wsX6_word (va_wsS RX6 79 yX6_within wsX6_within) := goodIn_app (goodIn_of _ (by decide +kernel)) ggX6_word_X6_within
set_option maxRecDepth 20000 in
theorem ggX6_word_X6_forget : GoodIn wsX6_word wsX6_forget := goodIn_r _ [16, 17, 18, 19, 20, 21, 22, 23, 24, 25, 26, 27, 28, 29, 30, 31, 32, 33, 34, 35, 36, 37, 38, 39, 40, 41, 42] (by decide +kernel) (by decide +kernel)
set_option maxRecDepth 20000 in
theorem gX6_word_X6_forget : GoodIn wsX6_word (wsV RX6 87 RX6 yX6_forget wsX6_forget) := goodIn_app (goodIn_of _ (by decide +kernel)) ggX6_word_X6_forget
theorem dX6_word_0 : decode cX6_word 0 = .ok (.aload_n 0, 1) := by decide +kernel
theorem dX6_word_1 : decode cX6_word 1 = .ok (.iconst 0, 1) := by decide +kernel
theorem dX6_word_2 : decode cX6_word 2 = .ok (.putfield 69, 3) := by decide +kernel
theorem dX6_word_5 : decode cX6_word 5 = .ok (.aload_n 0, 1) := by decide +kernel
theorem dX6_word_6 : decode cX6_word 6 = .ok (.iload_n 1, 1) := by decide +kernel
theorem dX6_word_7 : decode cX6_word 7 = .ok (.invokevirtual 90, 3) := by decide +kernel
theorem dX6_word_10 : decode cX6_word 10 = .ok (.ifCond .eq 13, 3) := by decide +kernel
theorem dX6_word_13 : decode cX6_word 13 = .ok (.iload_n 2, 1) := by decide +kernel
theorem dX6_word_14 : decode cX6_word 14 = .ok (.iconst 0, 1) := by decide +kernel
theorem dX6_word_15 : decode cX6_word 15 = .ok (.bipush 7, 2) := by decide +kernel
theorem dX6_word_17 : decode cX6_word 17 = .ok (.invokestatic 79, 3) := by decide +kernel
theorem dX6_word_20 : decode cX6_word 20 = .ok (.ifCond .ne 6, 3) := by decide +kernel
theorem dX6_word_23 : decode cX6_word 23 = .ok (.bipush (-2), 2) := by decide +kernel
theorem dX6_word_25 : decode cX6_word 25 = .ok (.ireturn, 1) := by decide +kernel
theorem dX6_word_26 : decode cX6_word 26 = .ok (.aload_n 0, 1) := by decide +kernel
theorem dX6_word_27 : decode cX6_word 27 = .ok (.getfield 19, 3) := by decide +kernel
theorem dX6_word_30 : decode cX6_word 30 = .ok (.iload_n 1, 1) := by decide +kernel
theorem dX6_word_31 : decode cX6_word 31 = .ok (.iaload, 1) := by decide +kernel
theorem dX6_word_32 : decode cX6_word 32 = .ok (.bipush 6, 2) := by decide +kernel
theorem dX6_word_34 : decode cX6_word 34 = .ok (.if_icmp .ne 6, 3) := by decide +kernel
theorem dX6_word_37 : decode cX6_word 37 = .ok (.bipush (-3), 2) := by decide +kernel
theorem dX6_word_39 : decode cX6_word 39 = .ok (.ireturn, 1) := by decide +kernel
theorem dX6_word_40 : decode cX6_word 40 = .ok (.aload_n 0, 1) := by decide +kernel
theorem dX6_word_41 : decode cX6_word 41 = .ok (.getfield 22, 3) := by decide +kernel
theorem dX6_word_44 : decode cX6_word 44 = .ok (.bipush 6, 2) := by decide +kernel
theorem dX6_word_46 : decode cX6_word 46 = .ok (.iload_n 1, 1) := by decide +kernel
theorem dX6_word_47 : decode cX6_word 47 = .ok (.imul, 1) := by decide +kernel
theorem dX6_word_48 : decode cX6_word 48 = .ok (.aload_n 0, 1) := by decide +kernel
theorem dX6_word_49 : decode cX6_word 49 = .ok (.getfield 19, 3) := by decide +kernel
theorem dX6_word_52 : decode cX6_word 52 = .ok (.iload_n 1, 1) := by decide +kernel
theorem dX6_word_53 : decode cX6_word 53 = .ok (.iaload, 1) := by decide +kernel
theorem dX6_word_54 : decode cX6_word 54 = .ok (.iadd, 1) := by decide +kernel
theorem dX6_word_55 : decode cX6_word 55 = .ok (.iload_n 2, 1) := by decide +kernel
theorem dX6_word_56 : decode cX6_word 56 = .ok (.iastore, 1) := by decide +kernel
theorem dX6_word_57 : decode cX6_word 57 = .ok (.aload_n 0, 1) := by decide +kernel
theorem dX6_word_58 : decode cX6_word 58 = .ok (.getfield 19, 3) := by decide +kernel
theorem dX6_word_61 : decode cX6_word 61 = .ok (.iload_n 1, 1) := by decide +kernel
theorem dX6_word_62 : decode cX6_word 62 = .ok (.dup2, 1) := by decide +kernel
theorem dX6_word_63 : decode cX6_word 63 = .ok (.iaload, 1) := by decide +kernel
theorem dX6_word_64 : decode cX6_word 64 = .ok (.iconst 1, 1) := by decide +kernel
theorem dX6_word_65 : decode cX6_word 65 = .ok (.iadd, 1) := by decide +kernel
theorem dX6_word_66 : decode cX6_word 66 = .ok (.iastore, 1) := by decide +kernel
theorem dX6_word_67 : decode cX6_word 67 = .ok (.aload_n 0, 1) := by decide +kernel
theorem dX6_word_68 : decode cX6_word 68 = .ok (.invokevirtual 87, 3) := by decide +kernel
theorem dX6_word_71 : decode cX6_word 71 = .ok (.aload_n 0, 1) := by decide +kernel
theorem dX6_word_72 : decode cX6_word 72 = .ok (.getfield 19, 3) := by decide +kernel
theorem dX6_word_75 : decode cX6_word 75 = .ok (.iload_n 1, 1) := by decide +kernel
theorem dX6_word_76 : decode cX6_word 76 = .ok (.iaload, 1) := by decide +kernel
theorem dX6_word_77 : decode cX6_word 77 = .ok (.ireturn, 1) := by decide +kernel
set_option maxRecDepth 20000 in
theorem ggX6_label_X6_isRow : GoodIn wsX6_label wsX6_isRow := goodIn_r _ [7, 8, 9, 10, 6, 11, 20, 21, 22, 23, 24, 25, 26, 27, 28, 29, 30, 31, 32, 33, 34, 35, 36, 37, 38, 39, 40, 41, 42, 43, 44] (by decide +kernel) (by decide +kernel)
set_option maxRecDepth 20000 in
theorem gX6_label_X6_isRow : GoodIn wsX6_label (wsV RX6 90 RX6 yX6_isRow wsX6_isRow) := goodIn_app (goodIn_of _ (by decide +kernel)) ggX6_label_X6_isRow
set_option maxRecDepth 20000 in
theorem ggX6_label_X6_mayBe : GoodIn wsX6_label wsX6_mayBe := goodIn_r _ [14, 9, 10, 6, 11] (by decide +kernel) (by decide +kernel)
set_option maxRecDepth 20000 in
theorem gX6_label_X6_mayBe : GoodIn wsX6_label (va_wsS RX6 83 yX6_mayBe wsX6_mayBe) := goodIn_app (goodIn_of _ (by decide +kernel)) ggX6_label_X6_mayBe
set_option maxRecDepth 20000 in
theorem ggX6_label_X6_forget : GoodIn wsX6_label wsX6_forget := goodIn_r _ [18, 19, 20, 21, 22, 23, 24, 25, 26, 27, 28, 29, 30, 31, 32, 33, 34, 35, 36, 37, 38, 39, 40, 41, 42, 43, 44] (by decide +kernel) (by decide +kernel)
set_option maxRecDepth 20000 in
theorem gX6_label_X6_forget : GoodIn wsX6_label (wsV RX6 87 RX6 yX6_forget wsX6_forget) := goodIn_app (goodIn_of _ (by decide +kernel)) ggX6_label_X6_forget
theorem dX6_label_0 : decode cX6_label 0 = .ok (.aload_n 0, 1) := by decide +kernel
theorem dX6_label_1 : decode cX6_label 1 = .ok (.iconst 0, 1) := by decide +kernel
theorem dX6_label_2 : decode cX6_label 2 = .ok (.putfield 69, 3) := by decide +kernel
theorem dX6_label_5 : decode cX6_label 5 = .ok (.aload_n 0, 1) := by decide +kernel
theorem dX6_label_6 : decode cX6_label 6 = .ok (.iload_n 1, 1) := by decide +kernel
theorem dX6_label_7 : decode cX6_label 7 = .ok (.invokevirtual 90, 3) := by decide +kernel
theorem dX6_label_10 : decode cX6_label 10 = .ok (.ifCond .eq 10, 3) := by decide +kernel
theorem dX6_label_13 : decode cX6_label 13 = .ok (.iload_n 2, 1) := by decide +kernel
theorem dX6_label_14 : decode cX6_label 14 = .ok (.invokestatic 83, 3) := by decide +kernel
theorem dX6_label_17 : decode cX6_label 17 = .ok (.ifCond .ne 6, 3) := by decide +kernel
theorem dX6_label_20 : decode cX6_label 20 = .ok (.bipush (-2), 2) := by decide +kernel
theorem dX6_label_22 : decode cX6_label 22 = .ok (.ireturn, 1) := by decide +kernel
theorem dX6_label_23 : decode cX6_label 23 = .ok (.aload_n 0, 1) := by decide +kernel
theorem dX6_label_24 : decode cX6_label 24 = .ok (.getfield 7, 3) := by decide +kernel
theorem dX6_label_27 : decode cX6_label 27 = .ok (.iload_n 1, 1) := by decide +kernel
theorem dX6_label_28 : decode cX6_label 28 = .ok (.iaload, 1) := by decide +kernel
theorem dX6_label_29 : decode cX6_label 29 = .ok (.istore_n 3, 1) := by decide +kernel
theorem dX6_label_30 : decode cX6_label 30 = .ok (.aload_n 0, 1) := by decide +kernel
theorem dX6_label_31 : decode cX6_label 31 = .ok (.getfield 7, 3) := by decide +kernel
theorem dX6_label_34 : decode cX6_label 34 = .ok (.iload_n 1, 1) := by decide +kernel
theorem dX6_label_35 : decode cX6_label 35 = .ok (.iload_n 2, 1) := by decide +kernel
theorem dX6_label_36 : decode cX6_label 36 = .ok (.iastore, 1) := by decide +kernel
theorem dX6_label_37 : decode cX6_label 37 = .ok (.aload_n 0, 1) := by decide +kernel
theorem dX6_label_38 : decode cX6_label 38 = .ok (.invokevirtual 87, 3) := by decide +kernel
theorem dX6_label_41 : decode cX6_label 41 = .ok (.iload_n 3, 1) := by decide +kernel
theorem dX6_label_42 : decode cX6_label 42 = .ok (.ireturn, 1) := by decide +kernel
set_option maxRecDepth 20000 in
theorem ggX6_addition_X6_within : GoodIn wsX6_addition wsX6_within := goodIn_r _ [7] (by decide +kernel) (by decide +kernel)
set_option maxRecDepth 20000 in
theorem gX6_addition_X6_within : GoodIn wsX6_addition (va_wsS RX6 79 yX6_within wsX6_within) := goodIn_app (goodIn_of _ (by decide +kernel)) ggX6_addition_X6_within
set_option maxRecDepth 20000 in
theorem ggX6_addition_X6_forget : GoodIn wsX6_addition wsX6_forget := goodIn_r _ [11, 12, 13, 14, 15, 16, 17, 18, 19, 20, 21, 22, 23, 24, 25, 26, 27, 28, 29, 30, 31, 32, 33, 34, 35, 36, 37] (by decide +kernel) (by decide +kernel)
set_option maxRecDepth 20000 in
theorem gX6_addition_X6_forget : GoodIn wsX6_addition (wsV RX6 87 RX6 yX6_forget wsX6_forget) := goodIn_app (goodIn_of _ (by decide +kernel)) ggX6_addition_X6_forget
theorem dX6_addition_0 : decode cX6_addition 0 = .ok (.aload_n 0, 1) := by decide +kernel
theorem dX6_addition_1 : decode cX6_addition 1 = .ok (.iconst 0, 1) := by decide +kernel
theorem dX6_addition_2 : decode cX6_addition 2 = .ok (.putfield 69, 3) := by decide +kernel
theorem dX6_addition_5 : decode cX6_addition 5 = .ok (.iload_n 1, 1) := by decide +kernel
theorem dX6_addition_6 : decode cX6_addition 6 = .ok (.iconst 0, 1) := by decide +kernel
theorem dX6_addition_7 : decode cX6_addition 7 = .ok (.iconst 3, 1) := by decide +kernel
theorem dX6_addition_8 : decode cX6_addition 8 = .ok (.invokestatic 79, 3) := by decide +kernel
theorem dX6_addition_11 : decode cX6_addition 11 = .ok (.ifCond .eq 12, 3) := by decide +kernel
theorem dX6_addition_14 : decode cX6_addition 14 = .ok (.iload_n 2, 1) := by decide +kernel
theorem dX6_addition_15 : decode cX6_addition 15 = .ok (.iconst 1, 1) := by decide +kernel
theorem dX6_addition_16 : decode cX6_addition 16 = .ok (.iconst 3, 1) := by decide +kernel
theorem dX6_addition_17 : decode cX6_addition 17 = .ok (.invokestatic 79, 3) := by decide +kernel
theorem dX6_addition_20 : decode cX6_addition 20 = .ok (.ifCond .ne 6, 3) := by decide +kernel
theorem dX6_addition_23 : decode cX6_addition 23 = .ok (.bipush (-2), 2) := by decide +kernel
theorem dX6_addition_25 : decode cX6_addition 25 = .ok (.ireturn, 1) := by decide +kernel
theorem dX6_addition_26 : decode cX6_addition 26 = .ok (.aload_n 0, 1) := by decide +kernel
theorem dX6_addition_27 : decode cX6_addition 27 = .ok (.iload_n 1, 1) := by decide +kernel
theorem dX6_addition_28 : decode cX6_addition 28 = .ok (.putfield 25, 3) := by decide +kernel
theorem dX6_addition_31 : decode cX6_addition 31 = .ok (.aload_n 0, 1) := by decide +kernel
theorem dX6_addition_32 : decode cX6_addition 32 = .ok (.iload_n 2, 1) := by decide +kernel
theorem dX6_addition_33 : decode cX6_addition 33 = .ok (.putfield 29, 3) := by decide +kernel
theorem dX6_addition_36 : decode cX6_addition 36 = .ok (.aload_n 0, 1) := by decide +kernel
theorem dX6_addition_37 : decode cX6_addition 37 = .ok (.invokevirtual 87, 3) := by decide +kernel
theorem dX6_addition_40 : decode cX6_addition 40 = .ok (.iconst 1, 1) := by decide +kernel
theorem dX6_addition_41 : decode cX6_addition 41 = .ok (.ireturn, 1) := by decide +kernel
theorem dX6_asLabel_0 : decode cX6_asLabel 0 = .ok (.aload_n 0, 1) := by decide +kernel
theorem dX6_asLabel_1 : decode cX6_asLabel 1 = .ok (.getfield 7, 3) := by decide +kernel
theorem dX6_asLabel_4 : decode cX6_asLabel 4 = .ok (.iload_n 1, 1) := by decide +kernel
theorem dX6_asLabel_5 : decode cX6_asLabel 5 = .ok (.iaload, 1) := by decide +kernel
theorem dX6_asLabel_6 : decode cX6_asLabel 6 = .ok (.ifCond .lt 12, 3) := by decide +kernel
theorem dX6_asLabel_9 : decode cX6_asLabel 9 = .ok (.aload_n 0, 1) := by decide +kernel
theorem dX6_asLabel_10 : decode cX6_asLabel 10 = .ok (.getfield 7, 3) := by decide +kernel
theorem dX6_asLabel_13 : decode cX6_asLabel 13 = .ok (.iload_n 1, 1) := by decide +kernel
theorem dX6_asLabel_14 : decode cX6_asLabel 14 = .ok (.iaload, 1) := by decide +kernel
theorem dX6_asLabel_15 : decode cX6_asLabel 15 = .ok (.goto 9, 3) := by decide +kernel
theorem dX6_asLabel_18 : decode cX6_asLabel 18 = .ok (.aload_n 0, 1) := by decide +kernel
theorem dX6_asLabel_19 : decode cX6_asLabel 19 = .ok (.getfield 13, 3) := by decide +kernel
theorem dX6_asLabel_22 : decode cX6_asLabel 22 = .ok (.iload_n 1, 1) := by decide +kernel
theorem dX6_asLabel_23 : decode cX6_asLabel 23 = .ok (.iaload, 1) := by decide +kernel
theorem dX6_asLabel_24 : decode cX6_asLabel 24 = .ok (.ireturn, 1) := by decide +kernel
set_option maxRecDepth 20000 in
theorem ggX6_rowsOf_X6_asLabel : GoodIn wsX6_rowsOf wsX6_asLabel := goodIn_r _ [6, 7, 8, 9, 10, 11, 12, 13, 14, 15, 16, 17, 18, 19, 20, 21, 22, 23, 24, 25, 26, 27, 28, 29, 30, 31, 32, 33] (by decide +kernel) (by decide +kernel)
set_option maxRecDepth 20000 in
theorem gX6_rowsOf_X6_asLabel : GoodIn wsX6_rowsOf (wsV RX6 93 RX6 yX6_asLabel wsX6_asLabel) := goodIn_app (goodIn_of _ (by decide +kernel)) ggX6_rowsOf_X6_asLabel
theorem dX6_rowsOf_0 : decode cX6_rowsOf 0 = .ok (.iconst 0, 1) := by decide +kernel
theorem dX6_rowsOf_1 : decode cX6_rowsOf 1 = .ok (.istore_n 2, 1) := by decide +kernel
theorem dX6_rowsOf_2 : decode cX6_rowsOf 2 = .ok (.iconst 0, 1) := by decide +kernel
theorem dX6_rowsOf_3 : decode cX6_rowsOf 3 = .ok (.istore_n 3, 1) := by decide +kernel
theorem dX6_rowsOf_4 : decode cX6_rowsOf 4 = .ok (.iload_n 3, 1) := by decide +kernel
theorem dX6_rowsOf_5 : decode cX6_rowsOf 5 = .ok (.aload_n 0, 1) := by decide +kernel
theorem dX6_rowsOf_6 : decode cX6_rowsOf 6 = .ok (.getfield 76, 3) := by decide +kernel
theorem dX6_rowsOf_9 : decode cX6_rowsOf 9 = .ok (.if_icmp .ge 26, 3) := by decide +kernel
theorem dX6_rowsOf_12 : decode cX6_rowsOf 12 = .ok (.iload_n 2, 1) := by decide +kernel
theorem dX6_rowsOf_13 : decode cX6_rowsOf 13 = .ok (.aload_n 0, 1) := by decide +kernel
theorem dX6_rowsOf_14 : decode cX6_rowsOf 14 = .ok (.iload_n 3, 1) := by decide +kernel
theorem dX6_rowsOf_15 : decode cX6_rowsOf 15 = .ok (.invokevirtual 93, 3) := by decide +kernel
theorem dX6_rowsOf_18 : decode cX6_rowsOf 18 = .ok (.iload_n 1, 1) := by decide +kernel
theorem dX6_rowsOf_19 : decode cX6_rowsOf 19 = .ok (.if_icmp .ne 7, 3) := by decide +kernel
theorem dX6_rowsOf_22 : decode cX6_rowsOf 22 = .ok (.iconst 1, 1) := by decide +kernel
theorem dX6_rowsOf_23 : decode cX6_rowsOf 23 = .ok (.goto 4, 3) := by decide +kernel
theorem dX6_rowsOf_26 : decode cX6_rowsOf 26 = .ok (.iconst 0, 1) := by decide +kernel
theorem dX6_rowsOf_27 : decode cX6_rowsOf 27 = .ok (.iadd, 1) := by decide +kernel
theorem dX6_rowsOf_28 : decode cX6_rowsOf 28 = .ok (.istore_n 2, 1) := by decide +kernel
theorem dX6_rowsOf_29 : decode cX6_rowsOf 29 = .ok (.iinc 3 1, 3) := by decide +kernel
theorem dX6_rowsOf_32 : decode cX6_rowsOf 32 = .ok (.goto (-28), 3) := by decide +kernel
theorem dX6_rowsOf_35 : decode cX6_rowsOf 35 = .ok (.iload_n 2, 1) := by decide +kernel
theorem dX6_rowsOf_36 : decode cX6_rowsOf 36 = .ok (.ireturn, 1) := by decide +kernel
set_option maxRecDepth 20000 in
theorem ggX6_timesOf_X6_asLabel : GoodIn wsX6_timesOf wsX6_asLabel := goodIn_r _ [8, 9, 10, 11, 12, 13, 14, 15, 16, 17, 18, 19, 20, 21, 22, 23, 24, 25, 26, 27, 28, 29, 30, 31, 32, 33, 34, 35] (by decide +kernel) (by decide +kernel)
set_option maxRecDepth 20000 in
theorem gX6_timesOf_X6_asLabel : GoodIn wsX6_timesOf (wsV RX6 93 RX6 yX6_asLabel wsX6_asLabel) := goodIn_app (goodIn_of _ (by decide +kernel)) ggX6_timesOf_X6_asLabel
theorem dX6_timesOf_0 : decode cX6_timesOf 0 = .ok (.iconst 0, 1) := by decide +kernel
theorem dX6_timesOf_1 : decode cX6_timesOf 1 = .ok (.istore_n 3, 1) := by decide +kernel
theorem dX6_timesOf_2 : decode cX6_timesOf 2 = .ok (.iconst 0, 1) := by decide +kernel
theorem dX6_timesOf_3 : decode cX6_timesOf 3 = .ok (.istore 4, 2) := by decide +kernel
theorem dX6_timesOf_5 : decode cX6_timesOf 5 = .ok (.iload 4, 2) := by decide +kernel
theorem dX6_timesOf_7 : decode cX6_timesOf 7 = .ok (.aload_n 0, 1) := by decide +kernel
theorem dX6_timesOf_8 : decode cX6_timesOf 8 = .ok (.getfield 76, 3) := by decide +kernel
theorem dX6_timesOf_11 : decode cX6_timesOf 11 = .ok (.if_icmp .ge 70, 3) := by decide +kernel
theorem dX6_timesOf_14 : decode cX6_timesOf 14 = .ok (.iconst 0, 1) := by decide +kernel
theorem dX6_timesOf_15 : decode cX6_timesOf 15 = .ok (.istore 5, 2) := by decide +kernel
theorem dX6_timesOf_17 : decode cX6_timesOf 17 = .ok (.iload 5, 2) := by decide +kernel
theorem dX6_timesOf_19 : decode cX6_timesOf 19 = .ok (.aload_n 0, 1) := by decide +kernel
theorem dX6_timesOf_20 : decode cX6_timesOf 20 = .ok (.getfield 19, 3) := by decide +kernel
theorem dX6_timesOf_23 : decode cX6_timesOf 23 = .ok (.iload 4, 2) := by decide +kernel
theorem dX6_timesOf_25 : decode cX6_timesOf 25 = .ok (.iaload, 1) := by decide +kernel
theorem dX6_timesOf_26 : decode cX6_timesOf 26 = .ok (.if_icmp .ge 49, 3) := by decide +kernel
theorem dX6_timesOf_29 : decode cX6_timesOf 29 = .ok (.aload_n 0, 1) := by decide +kernel
theorem dX6_timesOf_30 : decode cX6_timesOf 30 = .ok (.iload 4, 2) := by decide +kernel
theorem dX6_timesOf_32 : decode cX6_timesOf 32 = .ok (.invokevirtual 93, 3) := by decide +kernel
theorem dX6_timesOf_35 : decode cX6_timesOf 35 = .ok (.iload_n 1, 1) := by decide +kernel
theorem dX6_timesOf_36 : decode cX6_timesOf 36 = .ok (.if_icmp .ne 39, 3) := by decide +kernel
theorem dX6_timesOf_39 : decode cX6_timesOf 39 = .ok (.iload_n 3, 1) := by decide +kernel
theorem dX6_timesOf_40 : decode cX6_timesOf 40 = .ok (.iload_n 2, 1) := by decide +kernel
theorem dX6_timesOf_41 : decode cX6_timesOf 41 = .ok (.iconst (-1), 1) := by decide +kernel
theorem dX6_timesOf_42 : decode cX6_timesOf 42 = .ok (.if_icmp .eq 20, 3) := by decide +kernel
theorem dX6_timesOf_45 : decode cX6_timesOf 45 = .ok (.aload_n 0, 1) := by decide +kernel
theorem dX6_timesOf_46 : decode cX6_timesOf 46 = .ok (.getfield 22, 3) := by decide +kernel
theorem dX6_timesOf_49 : decode cX6_timesOf 49 = .ok (.bipush 6, 2) := by decide +kernel
theorem dX6_timesOf_51 : decode cX6_timesOf 51 = .ok (.iload 4, 2) := by decide +kernel
theorem dX6_timesOf_53 : decode cX6_timesOf 53 = .ok (.imul, 1) := by decide +kernel
theorem dX6_timesOf_54 : decode cX6_timesOf 54 = .ok (.iload 5, 2) := by decide +kernel
theorem dX6_timesOf_56 : decode cX6_timesOf 56 = .ok (.iadd, 1) := by decide +kernel
theorem dX6_timesOf_57 : decode cX6_timesOf 57 = .ok (.iaload, 1) := by decide +kernel
theorem dX6_timesOf_58 : decode cX6_timesOf 58 = .ok (.iload_n 2, 1) := by decide +kernel
theorem dX6_timesOf_59 : decode cX6_timesOf 59 = .ok (.if_icmp .ne 7, 3) := by decide +kernel
theorem dX6_timesOf_62 : decode cX6_timesOf 62 = .ok (.iconst 1, 1) := by decide +kernel
theorem dX6_timesOf_63 : decode cX6_timesOf 63 = .ok (.goto 4, 3) := by decide +kernel
theorem dX6_timesOf_66 : decode cX6_timesOf 66 = .ok (.iconst 0, 1) := by decide +kernel
theorem dX6_timesOf_67 : decode cX6_timesOf 67 = .ok (.iadd, 1) := by decide +kernel
theorem dX6_timesOf_68 : decode cX6_timesOf 68 = .ok (.istore_n 3, 1) := by decide +kernel
theorem dX6_timesOf_69 : decode cX6_timesOf 69 = .ok (.iinc 5 1, 3) := by decide +kernel
theorem dX6_timesOf_72 : decode cX6_timesOf 72 = .ok (.goto (-55), 3) := by decide +kernel
theorem dX6_timesOf_75 : decode cX6_timesOf 75 = .ok (.iinc 4 1, 3) := by decide +kernel
theorem dX6_timesOf_78 : decode cX6_timesOf 78 = .ok (.goto (-73), 3) := by decide +kernel
theorem dX6_timesOf_81 : decode cX6_timesOf 81 = .ok (.iload_n 3, 1) := by decide +kernel
theorem dX6_timesOf_82 : decode cX6_timesOf 82 = .ok (.ireturn, 1) := by decide +kernel
set_option maxRecDepth 20000 in
theorem ggX6_counted_X6_within : GoodIn wsX6_counted wsX6_within := goodIn_r _ [5] (by decide +kernel) (by decide +kernel)
set_option maxRecDepth 20000 in
theorem gX6_counted_X6_within : GoodIn wsX6_counted (va_wsS RX6 79 yX6_within wsX6_within) := goodIn_app (goodIn_of _ (by decide +kernel)) ggX6_counted_X6_within
set_option maxRecDepth 20000 in
theorem ggX6_counted_X6_rowsOf : GoodIn wsX6_counted wsX6_rowsOf := goodIn_r _ [9, 10, 11, 12, 13, 4, 14, 15, 16, 23, 24, 25, 26, 27, 28, 29, 30, 31, 32, 33, 34, 35, 36, 37, 38, 39, 40, 41, 42, 43, 44, 45, 46, 47] (by decide +kernel) (by decide +kernel)
set_option maxRecDepth 20000 in
theorem gX6_counted_X6_rowsOf : GoodIn wsX6_counted (wsV RX6 97 RX6 yX6_rowsOf wsX6_rowsOf) := goodIn_app (goodIn_of _ (by decide +kernel)) ggX6_counted_X6_rowsOf
set_option maxRecDepth 20000 in
theorem ggX6_counted_X6_timesOf : GoodIn wsX6_counted wsX6_timesOf := goodIn_r _ [20, 10, 21, 22, 11, 12, 13, 4, 14, 15, 16, 23, 24, 25, 26, 27, 28, 29, 30, 31, 32, 33, 34, 35, 36, 37, 38, 39, 40, 41, 42, 43, 44, 45, 46, 47] (by decide +kernel) (by decide +kernel)
set_option maxRecDepth 20000 in
theorem gX6_counted_X6_timesOf : GoodIn wsX6_counted (wsV RX6 100 RX6 yX6_timesOf wsX6_timesOf) := goodIn_app (goodIn_of _ (by decide +kernel)) ggX6_counted_X6_timesOf
theorem dX6_counted_0 : decode cX6_counted 0 = .ok (.aload_n 0, 1) := by decide +kernel
theorem dX6_counted_1 : decode cX6_counted 1 = .ok (.iconst 0, 1) := by decide +kernel
theorem dX6_counted_2 : decode cX6_counted 2 = .ok (.putfield 69, 3) := by decide +kernel
theorem dX6_counted_5 : decode cX6_counted 5 = .ok (.iload_n 1, 1) := by decide +kernel
theorem dX6_counted_6 : decode cX6_counted 6 = .ok (.iconst 0, 1) := by decide +kernel
theorem dX6_counted_7 : decode cX6_counted 7 = .ok (.iconst 3, 1) := by decide +kernel
theorem dX6_counted_8 : decode cX6_counted 8 = .ok (.invokestatic 79, 3) := by decide +kernel
theorem dX6_counted_11 : decode cX6_counted 11 = .ok (.ifCond .eq 13, 3) := by decide +kernel
theorem dX6_counted_14 : decode cX6_counted 14 = .ok (.iload_n 2, 1) := by decide +kernel
theorem dX6_counted_15 : decode cX6_counted 15 = .ok (.iconst 0, 1) := by decide +kernel
theorem dX6_counted_16 : decode cX6_counted 16 = .ok (.bipush 9, 2) := by decide +kernel
theorem dX6_counted_18 : decode cX6_counted 18 = .ok (.invokestatic 79, 3) := by decide +kernel
theorem dX6_counted_21 : decode cX6_counted 21 = .ok (.ifCond .ne 6, 3) := by decide +kernel
theorem dX6_counted_24 : decode cX6_counted 24 = .ok (.bipush (-2), 2) := by decide +kernel
theorem dX6_counted_26 : decode cX6_counted 26 = .ok (.ireturn, 1) := by decide +kernel
theorem dX6_counted_27 : decode cX6_counted 27 = .ok (.iload_n 2, 1) := by decide +kernel
theorem dX6_counted_28 : decode cX6_counted 28 = .ok (.bipush 9, 2) := by decide +kernel
theorem dX6_counted_30 : decode cX6_counted 30 = .ok (.if_icmp .ne 11, 3) := by decide +kernel
theorem dX6_counted_33 : decode cX6_counted 33 = .ok (.aload_n 0, 1) := by decide +kernel
theorem dX6_counted_34 : decode cX6_counted 34 = .ok (.iload_n 1, 1) := by decide +kernel
theorem dX6_counted_35 : decode cX6_counted 35 = .ok (.invokevirtual 97, 3) := by decide +kernel
theorem dX6_counted_38 : decode cX6_counted 38 = .ok (.goto 19, 3) := by decide +kernel
theorem dX6_counted_41 : decode cX6_counted 41 = .ok (.aload_n 0, 1) := by decide +kernel
theorem dX6_counted_42 : decode cX6_counted 42 = .ok (.iload_n 1, 1) := by decide +kernel
theorem dX6_counted_43 : decode cX6_counted 43 = .ok (.iload_n 2, 1) := by decide +kernel
theorem dX6_counted_44 : decode cX6_counted 44 = .ok (.bipush 8, 2) := by decide +kernel
theorem dX6_counted_46 : decode cX6_counted 46 = .ok (.if_icmp .ne 7, 3) := by decide +kernel
theorem dX6_counted_49 : decode cX6_counted 49 = .ok (.iconst (-1), 1) := by decide +kernel
theorem dX6_counted_50 : decode cX6_counted 50 = .ok (.goto 4, 3) := by decide +kernel
theorem dX6_counted_53 : decode cX6_counted 53 = .ok (.iload_n 2, 1) := by decide +kernel
theorem dX6_counted_54 : decode cX6_counted 54 = .ok (.invokevirtual 100, 3) := by decide +kernel
theorem dX6_counted_57 : decode cX6_counted 57 = .ok (.ireturn, 1) := by decide +kernel
set_option maxRecDepth 20000 in
theorem ggX6_shareAbove_X6_timesOf : GoodIn wsX6_shareAbove wsX6_timesOf := goodIn_r _ [7, 8, 9, 10, 11, 12, 13, 6, 14, 15, 16, 17, 18, 19, 20, 21, 22, 23, 24, 25, 26, 27, 28, 29, 30, 31, 32, 33, 34, 35, 36, 37, 38, 39, 40, 41] (by decide +kernel) (by decide +kernel)
set_option maxRecDepth 20000 in
theorem gX6_shareAbove_X6_timesOf : GoodIn wsX6_shareAbove (wsV RX6 100 RX6 yX6_timesOf wsX6_timesOf) := goodIn_app (goodIn_of _ (by decide +kernel)) ggX6_shareAbove_X6_timesOf
theorem dX6_shareAbove_0 : decode cX6_shareAbove 0 = .ok (.aload_n 0, 1) := by decide +kernel
theorem dX6_shareAbove_1 : decode cX6_shareAbove 1 = .ok (.iload_n 1, 1) := by decide +kernel
theorem dX6_shareAbove_2 : decode cX6_shareAbove 2 = .ok (.iload_n 2, 1) := by decide +kernel
theorem dX6_shareAbove_3 : decode cX6_shareAbove 3 = .ok (.invokevirtual 100, 3) := by decide +kernel
theorem dX6_shareAbove_6 : decode cX6_shareAbove 6 = .ok (.i2l, 1) := by decide +kernel
theorem dX6_shareAbove_7 : decode cX6_shareAbove 7 = .ok (.aload_n 0, 1) := by decide +kernel
theorem dX6_shareAbove_8 : decode cX6_shareAbove 8 = .ok (.getfield 29, 3) := by decide +kernel
theorem dX6_shareAbove_11 : decode cX6_shareAbove 11 = .ok (.i2l, 1) := by decide +kernel
theorem dX6_shareAbove_12 : decode cX6_shareAbove 12 = .ok (.lmul, 1) := by decide +kernel
theorem dX6_shareAbove_13 : decode cX6_shareAbove 13 = .ok (.aload_n 0, 1) := by decide +kernel
theorem dX6_shareAbove_14 : decode cX6_shareAbove 14 = .ok (.getfield 25, 3) := by decide +kernel
theorem dX6_shareAbove_17 : decode cX6_shareAbove 17 = .ok (.i2l, 1) := by decide +kernel
theorem dX6_shareAbove_18 : decode cX6_shareAbove 18 = .ok (.ladd, 1) := by decide +kernel
theorem dX6_shareAbove_19 : decode cX6_shareAbove 19 = .ok (.lreturn, 1) := by decide +kernel
set_option maxRecDepth 20000 in
theorem ggX6_shareBelow_X6_timesOf : GoodIn wsX6_shareBelow wsX6_timesOf := goodIn_r _ [8, 9, 10, 11, 12, 13, 14, 7, 15, 16, 17, 18, 19, 20, 21, 22, 23, 24, 25, 26, 27, 28, 29, 30, 31, 32, 33, 34, 35, 36, 37, 38, 39, 40, 41, 42] (by decide +kernel) (by decide +kernel)
set_option maxRecDepth 20000 in
theorem gX6_shareBelow_X6_timesOf : GoodIn wsX6_shareBelow (wsV RX6 100 RX6 yX6_timesOf wsX6_timesOf) := goodIn_app (goodIn_of _ (by decide +kernel)) ggX6_shareBelow_X6_timesOf
theorem dX6_shareBelow_0 : decode cX6_shareBelow 0 = .ok (.aload_n 0, 1) := by decide +kernel
theorem dX6_shareBelow_1 : decode cX6_shareBelow 1 = .ok (.iload_n 1, 1) := by decide +kernel
theorem dX6_shareBelow_2 : decode cX6_shareBelow 2 = .ok (.iconst (-1), 1) := by decide +kernel
theorem dX6_shareBelow_3 : decode cX6_shareBelow 3 = .ok (.invokevirtual 100, 3) := by decide +kernel
theorem dX6_shareBelow_6 : decode cX6_shareBelow 6 = .ok (.i2l, 1) := by decide +kernel
theorem dX6_shareBelow_7 : decode cX6_shareBelow 7 = .ok (.aload_n 0, 1) := by decide +kernel
theorem dX6_shareBelow_8 : decode cX6_shareBelow 8 = .ok (.getfield 29, 3) := by decide +kernel
theorem dX6_shareBelow_11 : decode cX6_shareBelow 11 = .ok (.i2l, 1) := by decide +kernel
theorem dX6_shareBelow_12 : decode cX6_shareBelow 12 = .ok (.lmul, 1) := by decide +kernel
theorem dX6_shareBelow_13 : decode cX6_shareBelow 13 = .ok (.ldc2_w 104, 3) := by decide +kernel
theorem dX6_shareBelow_16 : decode cX6_shareBelow 16 = .ok (.aload_n 0, 1) := by decide +kernel
theorem dX6_shareBelow_17 : decode cX6_shareBelow 17 = .ok (.getfield 25, 3) := by decide +kernel
theorem dX6_shareBelow_20 : decode cX6_shareBelow 20 = .ok (.i2l, 1) := by decide +kernel
theorem dX6_shareBelow_21 : decode cX6_shareBelow 21 = .ok (.lmul, 1) := by decide +kernel
theorem dX6_shareBelow_22 : decode cX6_shareBelow 22 = .ok (.ladd, 1) := by decide +kernel
theorem dX6_shareBelow_23 : decode cX6_shareBelow 23 = .ok (.lreturn, 1) := by decide +kernel
set_option maxRecDepth 20000 in
theorem ggX6_share_X6_within : GoodIn wsX6_share wsX6_within := goodIn_r _ [6] (by decide +kernel) (by decide +kernel)
set_option maxRecDepth 20000 in
theorem gX6_share_X6_within : GoodIn wsX6_share (va_wsS RX6 79 yX6_within wsX6_within) := goodIn_app (goodIn_of _ (by decide +kernel)) ggX6_share_X6_within
set_option maxRecDepth 20000 in
theorem ggX6_share_X6_shareBelow : GoodIn wsX6_share wsX6_shareBelow := goodIn_r _ [10, 11, 12, 13, 14, 15, 16, 5, 17, 18, 19, 20, 21, 22, 23, 24, 25, 26, 37, 38, 39, 40, 41, 42, 43, 44, 45, 46, 47, 48, 49, 50, 51, 52, 53, 54, 55, 56, 57, 58, 59, 60, 61] (by decide +kernel) (by decide +kernel)
set_option maxRecDepth 20000 in
theorem gX6_share_X6_shareBelow : GoodIn wsX6_share (wsV RX6 108 RX6 yX6_shareBelow wsX6_shareBelow) := goodIn_app (goodIn_of _ (by decide +kernel)) ggX6_share_X6_shareBelow
set_option maxRecDepth 20000 in
theorem ggX6_share_X6_shareAbove : GoodIn wsX6_share wsX6_shareAbove := goodIn_r _ [30, 11, 13, 14, 15, 16, 5, 17, 18, 19, 20, 21, 22, 23, 24, 25, 26, 37, 38, 39, 40, 41, 42, 43, 44, 45, 46, 47, 48, 49, 50, 51, 52, 53, 54, 55, 56, 57, 58, 59, 60, 61] (by decide +kernel) (by decide +kernel)
set_option maxRecDepth 20000 in
theorem gX6_share_X6_shareAbove : GoodIn wsX6_share (wsV RX6 112 RX6 yX6_shareAbove wsX6_shareAbove) := goodIn_app (goodIn_of _ (by decide +kernel)) ggX6_share_X6_shareAbove
set_option maxRecDepth 20000 in
theorem ggX6_share_X6_side : GoodIn wsX6_share wsX6_side := goodIn_r _ [33, 34, 35, 5, 36] (by decide +kernel) (by decide +kernel)
set_option maxRecDepth 20000 in
theorem gX6_share_X6_side : GoodIn wsX6_share (va_wsS RX6 116 yX6_side wsX6_side) := goodIn_app (goodIn_of _ (by decide +kernel)) ggX6_share_X6_side
theorem dX6_share_0 : decode cX6_share 0 = .ok (.aload_n 0, 1) := by decide +kernel
theorem dX6_share_1 : decode cX6_share 1 = .ok (.iconst 0, 1) := by decide +kernel
theorem dX6_share_2 : decode cX6_share 2 = .ok (.putfield 69, 3) := by decide +kernel
theorem dX6_share_5 : decode cX6_share 5 = .ok (.iload_n 1, 1) := by decide +kernel
theorem dX6_share_6 : decode cX6_share 6 = .ok (.iconst 0, 1) := by decide +kernel
theorem dX6_share_7 : decode cX6_share 7 = .ok (.iconst 3, 1) := by decide +kernel
theorem dX6_share_8 : decode cX6_share 8 = .ok (.invokestatic 79, 3) := by decide +kernel
theorem dX6_share_11 : decode cX6_share 11 = .ok (.ifCond .eq 22, 3) := by decide +kernel
theorem dX6_share_14 : decode cX6_share 14 = .ok (.iload_n 2, 1) := by decide +kernel
theorem dX6_share_15 : decode cX6_share 15 = .ok (.iconst 0, 1) := by decide +kernel
theorem dX6_share_16 : decode cX6_share 16 = .ok (.bipush 7, 2) := by decide +kernel
theorem dX6_share_18 : decode cX6_share 18 = .ok (.invokestatic 79, 3) := by decide +kernel
theorem dX6_share_21 : decode cX6_share 21 = .ok (.ifCond .eq 12, 3) := by decide +kernel
theorem dX6_share_24 : decode cX6_share 24 = .ok (.iload_n 3, 1) := by decide +kernel
theorem dX6_share_25 : decode cX6_share 25 = .ok (.iconst 0, 1) := by decide +kernel
theorem dX6_share_26 : decode cX6_share 26 = .ok (.iconst 1, 1) := by decide +kernel
theorem dX6_share_27 : decode cX6_share 27 = .ok (.invokestatic 79, 3) := by decide +kernel
theorem dX6_share_30 : decode cX6_share 30 = .ok (.ifCond .ne 7, 3) := by decide +kernel
theorem dX6_share_33 : decode cX6_share 33 = .ok (.ldc2_w 106, 3) := by decide +kernel
theorem dX6_share_36 : decode cX6_share 36 = .ok (.lreturn, 1) := by decide +kernel
theorem dX6_share_37 : decode cX6_share 37 = .ok (.aload_n 0, 1) := by decide +kernel
theorem dX6_share_38 : decode cX6_share 38 = .ok (.iload_n 1, 1) := by decide +kernel
theorem dX6_share_39 : decode cX6_share 39 = .ok (.invokevirtual 108, 3) := by decide +kernel
theorem dX6_share_42 : decode cX6_share 42 = .ok (.lconst 0, 1) := by decide +kernel
theorem dX6_share_43 : decode cX6_share 43 = .ok (.lcmp, 1) := by decide +kernel
theorem dX6_share_44 : decode cX6_share 44 = .ok (.ifCond .ne 10, 3) := by decide +kernel
theorem dX6_share_47 : decode cX6_share 47 = .ok (.aload_n 0, 1) := by decide +kernel
theorem dX6_share_48 : decode cX6_share 48 = .ok (.iconst 1, 1) := by decide +kernel
theorem dX6_share_49 : decode cX6_share 49 = .ok (.putfield 69, 3) := by decide +kernel
theorem dX6_share_52 : decode cX6_share 52 = .ok (.lconst 0, 1) := by decide +kernel
theorem dX6_share_53 : decode cX6_share 53 = .ok (.lreturn, 1) := by decide +kernel
theorem dX6_share_54 : decode cX6_share 54 = .ok (.aload_n 0, 1) := by decide +kernel
theorem dX6_share_55 : decode cX6_share 55 = .ok (.iload_n 1, 1) := by decide +kernel
theorem dX6_share_56 : decode cX6_share 56 = .ok (.iload_n 2, 1) := by decide +kernel
theorem dX6_share_57 : decode cX6_share 57 = .ok (.invokevirtual 112, 3) := by decide +kernel
theorem dX6_share_60 : decode cX6_share 60 = .ok (.aload_n 0, 1) := by decide +kernel
theorem dX6_share_61 : decode cX6_share 61 = .ok (.iload_n 1, 1) := by decide +kernel
theorem dX6_share_62 : decode cX6_share 62 = .ok (.invokevirtual 108, 3) := by decide +kernel
theorem dX6_share_65 : decode cX6_share 65 = .ok (.iload_n 3, 1) := by decide +kernel
theorem dX6_share_66 : decode cX6_share 66 = .ok (.invokestatic 116, 3) := by decide +kernel
theorem dX6_share_69 : decode cX6_share 69 = .ok (.lreturn, 1) := by decide +kernel
set_option maxRecDepth 20000 in
theorem ggX6_weighRow_X6_rowsOf : GoodIn wsX6_weighRow wsX6_rowsOf := goodIn_r _ [9, 10, 11, 12, 13, 8, 14, 15, 16, 32, 33, 34, 35, 36, 37, 38, 39, 40, 41, 42, 43, 44, 45, 46, 47, 48, 49, 50, 51, 52, 53, 54, 55, 56] (by decide +kernel) (by decide +kernel)
set_option maxRecDepth 20000 in
theorem gX6_weighRow_X6_rowsOf : GoodIn wsX6_weighRow (wsV RX6 97 RX6 yX6_rowsOf wsX6_rowsOf) := goodIn_app (goodIn_of _ (by decide +kernel)) ggX6_weighRow_X6_rowsOf
set_option maxRecDepth 20000 in
theorem ggX6_weighRow_X6_shareBelow : GoodIn wsX6_weighRow wsX6_shareBelow := goodIn_r _ [20, 21, 22, 23, 24, 25, 26, 8, 27, 10, 3, 4, 11, 12, 13, 14, 15, 16, 32, 33, 34, 35, 36, 37, 38, 39, 40, 41, 42, 43, 44, 45, 46, 47, 48, 49, 50, 51, 52, 53, 54, 55, 56] (by decide +kernel) (by decide +kernel)
set_option maxRecDepth 20000 in
theorem gX6_weighRow_X6_shareBelow : GoodIn wsX6_weighRow (wsV RX6 108 RX6 yX6_shareBelow wsX6_shareBelow) := goodIn_app (goodIn_of _ (by decide +kernel)) ggX6_weighRow_X6_shareBelow
set_option maxRecDepth 20000 in
theorem ggX6_weighRow_X6_shareAbove : GoodIn wsX6_weighRow wsX6_shareAbove := goodIn_r _ [31, 21, 23, 24, 25, 26, 8, 27, 10, 3, 4, 11, 12, 13, 14, 15, 16, 32, 33, 34, 35, 36, 37, 38, 39, 40, 41, 42, 43, 44, 45, 46, 47, 48, 49, 50, 51, 52, 53, 54, 55, 56] (by decide +kernel) (by decide +kernel)
set_option maxRecDepth 20000 in
theorem gX6_weighRow_X6_shareAbove : GoodIn wsX6_weighRow (wsV RX6 112 RX6 yX6_shareAbove wsX6_shareAbove) := goodIn_app (goodIn_of _ (by decide +kernel)) ggX6_weighRow_X6_shareAbove
theorem dX6_weighRow_0 : decode cX6_weighRow 0 = .ok (.aload_n 0, 1) := by decide +kernel
theorem dX6_weighRow_1 : decode cX6_weighRow 1 = .ok (.aload_n 0, 1) := by decide +kernel
theorem dX6_weighRow_2 : decode cX6_weighRow 2 = .ok (.iload_n 2, 1) := by decide +kernel
theorem dX6_weighRow_3 : decode cX6_weighRow 3 = .ok (.invokevirtual 97, 3) := by decide +kernel
theorem dX6_weighRow_6 : decode cX6_weighRow 6 = .ok (.i2l, 1) := by decide +kernel
theorem dX6_weighRow_7 : decode cX6_weighRow 7 = .ok (.putfield 120, 3) := by decide +kernel
theorem dX6_weighRow_10 : decode cX6_weighRow 10 = .ok (.aload_n 0, 1) := by decide +kernel
theorem dX6_weighRow_11 : decode cX6_weighRow 11 = .ok (.lconst 1, 1) := by decide +kernel
theorem dX6_weighRow_12 : decode cX6_weighRow 12 = .ok (.putfield 124, 3) := by decide +kernel
theorem dX6_weighRow_15 : decode cX6_weighRow 15 = .ok (.aload_n 0, 1) := by decide +kernel
theorem dX6_weighRow_16 : decode cX6_weighRow 16 = .ok (.iload_n 2, 1) := by decide +kernel
theorem dX6_weighRow_17 : decode cX6_weighRow 17 = .ok (.invokevirtual 108, 3) := by decide +kernel
theorem dX6_weighRow_20 : decode cX6_weighRow 20 = .ok (.lstore_n 3, 1) := by decide +kernel
theorem dX6_weighRow_21 : decode cX6_weighRow 21 = .ok (.iconst 0, 1) := by decide +kernel
theorem dX6_weighRow_22 : decode cX6_weighRow 22 = .ok (.istore 5, 2) := by decide +kernel
theorem dX6_weighRow_24 : decode cX6_weighRow 24 = .ok (.iload 5, 2) := by decide +kernel
theorem dX6_weighRow_26 : decode cX6_weighRow 26 = .ok (.aload_n 0, 1) := by decide +kernel
theorem dX6_weighRow_27 : decode cX6_weighRow 27 = .ok (.getfield 19, 3) := by decide +kernel
theorem dX6_weighRow_30 : decode cX6_weighRow 30 = .ok (.iload_n 1, 1) := by decide +kernel
theorem dX6_weighRow_31 : decode cX6_weighRow 31 = .ok (.iaload, 1) := by decide +kernel
theorem dX6_weighRow_32 : decode cX6_weighRow 32 = .ok (.if_icmp .ge 65, 3) := by decide +kernel
theorem dX6_weighRow_35 : decode cX6_weighRow 35 = .ok (.aload_n 0, 1) := by decide +kernel
theorem dX6_weighRow_36 : decode cX6_weighRow 36 = .ok (.lload_n 3, 1) := by decide +kernel
theorem dX6_weighRow_37 : decode cX6_weighRow 37 = .ok (.lconst 0, 1) := by decide +kernel
theorem dX6_weighRow_38 : decode cX6_weighRow 38 = .ok (.lcmp, 1) := by decide +kernel
theorem dX6_weighRow_39 : decode cX6_weighRow 39 = .ok (.ifCond .ne 7, 3) := by decide +kernel
theorem dX6_weighRow_42 : decode cX6_weighRow 42 = .ok (.lconst 0, 1) := by decide +kernel
theorem dX6_weighRow_43 : decode cX6_weighRow 43 = .ok (.goto 25, 3) := by decide +kernel
theorem dX6_weighRow_46 : decode cX6_weighRow 46 = .ok (.aload_n 0, 1) := by decide +kernel
theorem dX6_weighRow_47 : decode cX6_weighRow 47 = .ok (.getfield 120, 3) := by decide +kernel
theorem dX6_weighRow_50 : decode cX6_weighRow 50 = .ok (.aload_n 0, 1) := by decide +kernel
theorem dX6_weighRow_51 : decode cX6_weighRow 51 = .ok (.iload_n 2, 1) := by decide +kernel
theorem dX6_weighRow_52 : decode cX6_weighRow 52 = .ok (.aload_n 0, 1) := by decide +kernel
theorem dX6_weighRow_53 : decode cX6_weighRow 53 = .ok (.getfield 22, 3) := by decide +kernel
theorem dX6_weighRow_56 : decode cX6_weighRow 56 = .ok (.bipush 6, 2) := by decide +kernel
theorem dX6_weighRow_58 : decode cX6_weighRow 58 = .ok (.iload_n 1, 1) := by decide +kernel
theorem dX6_weighRow_59 : decode cX6_weighRow 59 = .ok (.imul, 1) := by decide +kernel
theorem dX6_weighRow_60 : decode cX6_weighRow 60 = .ok (.iload 5, 2) := by decide +kernel
theorem dX6_weighRow_62 : decode cX6_weighRow 62 = .ok (.iadd, 1) := by decide +kernel
theorem dX6_weighRow_63 : decode cX6_weighRow 63 = .ok (.iaload, 1) := by decide +kernel
theorem dX6_weighRow_64 : decode cX6_weighRow 64 = .ok (.invokevirtual 112, 3) := by decide +kernel
theorem dX6_weighRow_67 : decode cX6_weighRow 67 = .ok (.lmul, 1) := by decide +kernel
theorem dX6_weighRow_68 : decode cX6_weighRow 68 = .ok (.putfield 120, 3) := by decide +kernel
theorem dX6_weighRow_71 : decode cX6_weighRow 71 = .ok (.aload_n 0, 1) := by decide +kernel
theorem dX6_weighRow_72 : decode cX6_weighRow 72 = .ok (.lload_n 3, 1) := by decide +kernel
theorem dX6_weighRow_73 : decode cX6_weighRow 73 = .ok (.lconst 0, 1) := by decide +kernel
theorem dX6_weighRow_74 : decode cX6_weighRow 74 = .ok (.lcmp, 1) := by decide +kernel
theorem dX6_weighRow_75 : decode cX6_weighRow 75 = .ok (.ifCond .ne 7, 3) := by decide +kernel
theorem dX6_weighRow_78 : decode cX6_weighRow 78 = .ok (.lconst 1, 1) := by decide +kernel
theorem dX6_weighRow_79 : decode cX6_weighRow 79 = .ok (.goto 9, 3) := by decide +kernel
theorem dX6_weighRow_82 : decode cX6_weighRow 82 = .ok (.aload_n 0, 1) := by decide +kernel
theorem dX6_weighRow_83 : decode cX6_weighRow 83 = .ok (.getfield 124, 3) := by decide +kernel
theorem dX6_weighRow_86 : decode cX6_weighRow 86 = .ok (.lload_n 3, 1) := by decide +kernel
theorem dX6_weighRow_87 : decode cX6_weighRow 87 = .ok (.lmul, 1) := by decide +kernel
theorem dX6_weighRow_88 : decode cX6_weighRow 88 = .ok (.putfield 124, 3) := by decide +kernel
theorem dX6_weighRow_91 : decode cX6_weighRow 91 = .ok (.iinc 5 1, 3) := by decide +kernel
theorem dX6_weighRow_94 : decode cX6_weighRow 94 = .ok (.goto (-70), 3) := by decide +kernel
theorem dX6_weighRow_97 : decode cX6_weighRow 97 = .ok (.return_, 1) := by decide +kernel
set_option maxRecDepth 20000 in
theorem ggX6_weight_X6_isRow : GoodIn wsX6_weight wsX6_isRow := goodIn_r _ [9, 10, 11, 12, 8, 13, 51, 52, 53, 54, 55, 56, 57, 58, 59, 60, 61, 62, 63, 64, 65, 66, 67, 68, 69, 70, 71, 72, 73, 74, 75] (by decide +kernel) (by decide +kernel)
set_option maxRecDepth 20000 in
theorem gX6_weight_X6_isRow : GoodIn wsX6_weight (wsV RX6 90 RX6 yX6_isRow wsX6_isRow) := goodIn_app (goodIn_of _ (by decide +kernel)) ggX6_weight_X6_isRow
set_option maxRecDepth 20000 in
theorem ggX6_weight_X6_within : GoodIn wsX6_weight wsX6_within := goodIn_r _ [13] (by decide +kernel) (by decide +kernel)
set_option maxRecDepth 20000 in
theorem gX6_weight_X6_within : GoodIn wsX6_weight (va_wsS RX6 79 yX6_within wsX6_within) := goodIn_app (goodIn_of _ (by decide +kernel)) ggX6_weight_X6_within
set_option maxRecDepth 20000 in
theorem ggX6_weight_X6_weighRow : GoodIn wsX6_weight wsX6_weighRow := goodIn_r _ [17, 3, 4, 18, 19, 20, 21, 22, 8, 23, 10, 24, 25, 26, 27, 28, 29, 30, 31, 32, 33, 34, 35, 36, 37, 38, 39, 40, 41, 42, 43, 44, 51, 52, 53, 54, 55, 56, 57, 58, 59, 60, 61, 62, 63, 64, 65, 66, 67, 68, 69, 70, 71, 72, 73, 74, 75] (by decide +kernel) (by decide +kernel)
set_option maxRecDepth 20000 in
theorem gX6_weight_X6_weighRow : GoodIn wsX6_weight (wsV RX6 127 RX6 yX6_weighRow wsX6_weighRow) := goodIn_app (goodIn_of _ (by decide +kernel)) ggX6_weight_X6_weighRow
set_option maxRecDepth 20000 in
theorem ggX6_weight_X6_side : GoodIn wsX6_weight wsX6_side := goodIn_r _ [47, 48, 49, 8, 50] (by decide +kernel) (by decide +kernel)
set_option maxRecDepth 20000 in
theorem gX6_weight_X6_side : GoodIn wsX6_weight (va_wsS RX6 116 yX6_side wsX6_side) := goodIn_app (goodIn_of _ (by decide +kernel)) ggX6_weight_X6_side
theorem dX6_weight_0 : decode cX6_weight 0 = .ok (.aload_n 0, 1) := by decide +kernel
theorem dX6_weight_1 : decode cX6_weight 1 = .ok (.iconst 0, 1) := by decide +kernel
theorem dX6_weight_2 : decode cX6_weight 2 = .ok (.putfield 69, 3) := by decide +kernel
theorem dX6_weight_5 : decode cX6_weight 5 = .ok (.aload_n 0, 1) := by decide +kernel
theorem dX6_weight_6 : decode cX6_weight 6 = .ok (.iload_n 1, 1) := by decide +kernel
theorem dX6_weight_7 : decode cX6_weight 7 = .ok (.invokevirtual 90, 3) := by decide +kernel
theorem dX6_weight_10 : decode cX6_weight 10 = .ok (.ifCond .eq 21, 3) := by decide +kernel
theorem dX6_weight_13 : decode cX6_weight 13 = .ok (.iload_n 2, 1) := by decide +kernel
theorem dX6_weight_14 : decode cX6_weight 14 = .ok (.iconst 0, 1) := by decide +kernel
theorem dX6_weight_15 : decode cX6_weight 15 = .ok (.iconst 3, 1) := by decide +kernel
theorem dX6_weight_16 : decode cX6_weight 16 = .ok (.invokestatic 79, 3) := by decide +kernel
theorem dX6_weight_19 : decode cX6_weight 19 = .ok (.ifCond .eq 12, 3) := by decide +kernel
theorem dX6_weight_22 : decode cX6_weight 22 = .ok (.iload_n 3, 1) := by decide +kernel
theorem dX6_weight_23 : decode cX6_weight 23 = .ok (.iconst 0, 1) := by decide +kernel
theorem dX6_weight_24 : decode cX6_weight 24 = .ok (.iconst 1, 1) := by decide +kernel
theorem dX6_weight_25 : decode cX6_weight 25 = .ok (.invokestatic 79, 3) := by decide +kernel
theorem dX6_weight_28 : decode cX6_weight 28 = .ok (.ifCond .ne 7, 3) := by decide +kernel
theorem dX6_weight_31 : decode cX6_weight 31 = .ok (.ldc2_w 106, 3) := by decide +kernel
theorem dX6_weight_34 : decode cX6_weight 34 = .ok (.lreturn, 1) := by decide +kernel
theorem dX6_weight_35 : decode cX6_weight 35 = .ok (.aload_n 0, 1) := by decide +kernel
theorem dX6_weight_36 : decode cX6_weight 36 = .ok (.iload_n 1, 1) := by decide +kernel
theorem dX6_weight_37 : decode cX6_weight 37 = .ok (.iload_n 2, 1) := by decide +kernel
theorem dX6_weight_38 : decode cX6_weight 38 = .ok (.invokevirtual 127, 3) := by decide +kernel
theorem dX6_weight_41 : decode cX6_weight 41 = .ok (.aload_n 0, 1) := by decide +kernel
theorem dX6_weight_42 : decode cX6_weight 42 = .ok (.getfield 120, 3) := by decide +kernel
theorem dX6_weight_45 : decode cX6_weight 45 = .ok (.aload_n 0, 1) := by decide +kernel
theorem dX6_weight_46 : decode cX6_weight 46 = .ok (.getfield 124, 3) := by decide +kernel
theorem dX6_weight_49 : decode cX6_weight 49 = .ok (.iload_n 3, 1) := by decide +kernel
theorem dX6_weight_50 : decode cX6_weight 50 = .ok (.invokestatic 116, 3) := by decide +kernel
theorem dX6_weight_53 : decode cX6_weight 53 = .ok (.lreturn, 1) := by decide +kernel
set_option maxRecDepth 20000 in
theorem ggX6_bestOf_X6_weighRow : GoodIn wsX6_bestOf wsX6_weighRow := goodIn_r _ [7, 1, 2, 8, 9, 10, 11, 12, 6, 13, 14, 15, 16, 17, 18, 19, 20, 21, 22, 23, 24, 25, 26, 27, 28, 29, 30, 31, 32, 33, 34, 35, 39, 40, 41, 42, 43, 44, 45, 46, 47, 48, 49, 50, 51, 52, 53, 54, 55, 56, 57, 58, 59, 60, 61, 62, 63] (by decide +kernel) (by decide +kernel)
set_option maxRecDepth 20000 in
theorem gX6_bestOf_X6_weighRow : GoodIn wsX6_bestOf (wsV RX6 127 RX6 yX6_weighRow wsX6_weighRow) := goodIn_app (goodIn_of _ (by decide +kernel)) ggX6_bestOf_X6_weighRow
set_option maxRecDepth 20000 in
theorem ggX6_bestOf_X6_isAbove : GoodIn wsX6_bestOf wsX6_isAbove := goodIn_r _ [38] (by decide +kernel) (by decide +kernel)
set_option maxRecDepth 20000 in
theorem gX6_bestOf_X6_isAbove : GoodIn wsX6_bestOf (va_wsS RX6 131 yX6_isAbove wsX6_isAbove) := goodIn_app (goodIn_of _ (by decide +kernel)) ggX6_bestOf_X6_isAbove
theorem dX6_bestOf_0 : decode cX6_bestOf 0 = .ok (.iconst (-1), 1) := by decide +kernel
theorem dX6_bestOf_1 : decode cX6_bestOf 1 = .ok (.istore_n 2, 1) := by decide +kernel
theorem dX6_bestOf_2 : decode cX6_bestOf 2 = .ok (.lconst 0, 1) := by decide +kernel
theorem dX6_bestOf_3 : decode cX6_bestOf 3 = .ok (.lstore_n 3, 1) := by decide +kernel
theorem dX6_bestOf_4 : decode cX6_bestOf 4 = .ok (.lconst 1, 1) := by decide +kernel
theorem dX6_bestOf_5 : decode cX6_bestOf 5 = .ok (.lstore 5, 2) := by decide +kernel
theorem dX6_bestOf_7 : decode cX6_bestOf 7 = .ok (.iconst 0, 1) := by decide +kernel
theorem dX6_bestOf_8 : decode cX6_bestOf 8 = .ok (.istore 7, 2) := by decide +kernel
theorem dX6_bestOf_10 : decode cX6_bestOf 10 = .ok (.iload 7, 2) := by decide +kernel
theorem dX6_bestOf_12 : decode cX6_bestOf 12 = .ok (.iconst 4, 1) := by decide +kernel
theorem dX6_bestOf_13 : decode cX6_bestOf 13 = .ok (.if_icmp .ge 47, 3) := by decide +kernel
theorem dX6_bestOf_16 : decode cX6_bestOf 16 = .ok (.aload_n 0, 1) := by decide +kernel
theorem dX6_bestOf_17 : decode cX6_bestOf 17 = .ok (.iload_n 1, 1) := by decide +kernel
theorem dX6_bestOf_18 : decode cX6_bestOf 18 = .ok (.iload 7, 2) := by decide +kernel
theorem dX6_bestOf_20 : decode cX6_bestOf 20 = .ok (.invokevirtual 127, 3) := by decide +kernel
theorem dX6_bestOf_23 : decode cX6_bestOf 23 = .ok (.aload_n 0, 1) := by decide +kernel
theorem dX6_bestOf_24 : decode cX6_bestOf 24 = .ok (.getfield 120, 3) := by decide +kernel
theorem dX6_bestOf_27 : decode cX6_bestOf 27 = .ok (.aload_n 0, 1) := by decide +kernel
theorem dX6_bestOf_28 : decode cX6_bestOf 28 = .ok (.getfield 124, 3) := by decide +kernel
theorem dX6_bestOf_31 : decode cX6_bestOf 31 = .ok (.lload_n 3, 1) := by decide +kernel
theorem dX6_bestOf_32 : decode cX6_bestOf 32 = .ok (.lload 5, 2) := by decide +kernel
theorem dX6_bestOf_34 : decode cX6_bestOf 34 = .ok (.invokestatic 131, 3) := by decide +kernel
theorem dX6_bestOf_37 : decode cX6_bestOf 37 = .ok (.ifCond .eq 17, 3) := by decide +kernel
theorem dX6_bestOf_40 : decode cX6_bestOf 40 = .ok (.iload 7, 2) := by decide +kernel
theorem dX6_bestOf_42 : decode cX6_bestOf 42 = .ok (.istore_n 2, 1) := by decide +kernel
theorem dX6_bestOf_43 : decode cX6_bestOf 43 = .ok (.aload_n 0, 1) := by decide +kernel
theorem dX6_bestOf_44 : decode cX6_bestOf 44 = .ok (.getfield 120, 3) := by decide +kernel
theorem dX6_bestOf_47 : decode cX6_bestOf 47 = .ok (.lstore_n 3, 1) := by decide +kernel
theorem dX6_bestOf_48 : decode cX6_bestOf 48 = .ok (.aload_n 0, 1) := by decide +kernel
theorem dX6_bestOf_49 : decode cX6_bestOf 49 = .ok (.getfield 124, 3) := by decide +kernel
theorem dX6_bestOf_52 : decode cX6_bestOf 52 = .ok (.lstore 5, 2) := by decide +kernel
theorem dX6_bestOf_54 : decode cX6_bestOf 54 = .ok (.iinc 7 1, 3) := by decide +kernel
theorem dX6_bestOf_57 : decode cX6_bestOf 57 = .ok (.goto (-47), 3) := by decide +kernel
theorem dX6_bestOf_60 : decode cX6_bestOf 60 = .ok (.iload_n 2, 1) := by decide +kernel
theorem dX6_bestOf_61 : decode cX6_bestOf 61 = .ok (.ireturn, 1) := by decide +kernel
set_option maxRecDepth 20000 in
theorem ggX6_best_X6_isRow : GoodIn wsX6_best wsX6_isRow := goodIn_r _ [6, 7, 8, 9, 5, 10, 51, 52, 53, 54, 55, 56, 57, 58, 59, 60, 61, 62, 63, 64, 65, 66, 67, 68, 69, 70, 71, 72, 73, 74, 75] (by decide +kernel) (by decide +kernel)
set_option maxRecDepth 20000 in
theorem gX6_best_X6_isRow : GoodIn wsX6_best (wsV RX6 90 RX6 yX6_isRow wsX6_isRow) := goodIn_app (goodIn_of _ (by decide +kernel)) ggX6_best_X6_isRow
set_option maxRecDepth 20000 in
theorem ggX6_best_X6_bestOf : GoodIn wsX6_best wsX6_bestOf := goodIn_r _ [14, 15, 16, 17, 18, 19, 5, 20, 21, 22, 23, 24, 25, 26, 7, 27, 28, 29, 30, 31, 32, 33, 34, 35, 36, 37, 38, 39, 40, 41, 42, 43, 44, 45, 46, 47, 48, 49, 50, 51, 52, 53, 54, 55, 56, 57, 58, 59, 60, 61, 62, 63, 64, 65, 66, 67, 68, 69, 70, 71, 72, 73, 74, 75] (by decide +kernel) (by decide +kernel)
set_option maxRecDepth 20000 in
theorem gX6_best_X6_bestOf : GoodIn wsX6_best (wsV RX6 135 RX6 yX6_bestOf wsX6_bestOf) := goodIn_app (goodIn_of _ (by decide +kernel)) ggX6_best_X6_bestOf
theorem dX6_best_0 : decode cX6_best 0 = .ok (.aload_n 0, 1) := by decide +kernel
theorem dX6_best_1 : decode cX6_best 1 = .ok (.iconst 0, 1) := by decide +kernel
theorem dX6_best_2 : decode cX6_best 2 = .ok (.putfield 69, 3) := by decide +kernel
theorem dX6_best_5 : decode cX6_best 5 = .ok (.aload_n 0, 1) := by decide +kernel
theorem dX6_best_6 : decode cX6_best 6 = .ok (.iload_n 1, 1) := by decide +kernel
theorem dX6_best_7 : decode cX6_best 7 = .ok (.invokevirtual 90, 3) := by decide +kernel
theorem dX6_best_10 : decode cX6_best 10 = .ok (.ifCond .eq 11, 3) := by decide +kernel
theorem dX6_best_13 : decode cX6_best 13 = .ok (.aload_n 0, 1) := by decide +kernel
theorem dX6_best_14 : decode cX6_best 14 = .ok (.iload_n 1, 1) := by decide +kernel
theorem dX6_best_15 : decode cX6_best 15 = .ok (.invokevirtual 135, 3) := by decide +kernel
theorem dX6_best_18 : decode cX6_best 18 = .ok (.goto 5, 3) := by decide +kernel
theorem dX6_best_21 : decode cX6_best 21 = .ok (.bipush (-2), 2) := by decide +kernel
theorem dX6_best_23 : decode cX6_best 23 = .ok (.ireturn, 1) := by decide +kernel
set_option maxRecDepth 20000 in
theorem ggX6_round_X6_bestOf : GoodIn wsX6_round wsX6_bestOf := goodIn_r _ [9, 10, 11, 12, 13, 14, 8, 15, 16, 17, 18, 19, 20, 21, 1, 22, 23, 24, 25, 3, 4, 26, 27, 28, 29, 30, 31, 32, 33, 34, 35, 36, 37, 38, 39, 40, 41, 42, 43, 44, 45, 46, 47, 48, 49, 50, 51, 52, 53, 54, 55, 56, 57, 58, 59, 60, 61, 62, 63, 64, 65, 66, 67, 68] (by decide +kernel) (by decide +kernel)
set_option maxRecDepth 20000 in
theorem gX6_round_X6_bestOf : GoodIn wsX6_round (wsV RX6 135 RX6 yX6_bestOf wsX6_bestOf) := goodIn_app (goodIn_of _ (by decide +kernel)) ggX6_round_X6_bestOf
theorem dX6_round_0 : decode cX6_round 0 = .ok (.iconst 0, 1) := by decide +kernel
theorem dX6_round_1 : decode cX6_round 1 = .ok (.istore_n 1, 1) := by decide +kernel
theorem dX6_round_2 : decode cX6_round 2 = .ok (.iload_n 1, 1) := by decide +kernel
theorem dX6_round_3 : decode cX6_round 3 = .ok (.aload_n 0, 1) := by decide +kernel
theorem dX6_round_4 : decode cX6_round 4 = .ok (.getfield 76, 3) := by decide +kernel
theorem dX6_round_7 : decode cX6_round 7 = .ok (.if_icmp .ge 33, 3) := by decide +kernel
theorem dX6_round_10 : decode cX6_round 10 = .ok (.aload_n 0, 1) := by decide +kernel
theorem dX6_round_11 : decode cX6_round 11 = .ok (.getfield 16, 3) := by decide +kernel
theorem dX6_round_14 : decode cX6_round 14 = .ok (.iload_n 1, 1) := by decide +kernel
theorem dX6_round_15 : decode cX6_round 15 = .ok (.aload_n 0, 1) := by decide +kernel
theorem dX6_round_16 : decode cX6_round 16 = .ok (.getfield 7, 3) := by decide +kernel
theorem dX6_round_19 : decode cX6_round 19 = .ok (.iload_n 1, 1) := by decide +kernel
theorem dX6_round_20 : decode cX6_round 20 = .ok (.iaload, 1) := by decide +kernel
theorem dX6_round_21 : decode cX6_round 21 = .ok (.ifCond .lt 7, 3) := by decide +kernel
theorem dX6_round_24 : decode cX6_round 24 = .ok (.iconst (-1), 1) := by decide +kernel
theorem dX6_round_25 : decode cX6_round 25 = .ok (.goto 8, 3) := by decide +kernel
theorem dX6_round_28 : decode cX6_round 28 = .ok (.aload_n 0, 1) := by decide +kernel
theorem dX6_round_29 : decode cX6_round 29 = .ok (.iload_n 1, 1) := by decide +kernel
theorem dX6_round_30 : decode cX6_round 30 = .ok (.invokevirtual 135, 3) := by decide +kernel
theorem dX6_round_33 : decode cX6_round 33 = .ok (.iastore, 1) := by decide +kernel
theorem dX6_round_34 : decode cX6_round 34 = .ok (.iinc 1 1, 3) := by decide +kernel
theorem dX6_round_37 : decode cX6_round 37 = .ok (.goto (-35), 3) := by decide +kernel
theorem dX6_round_40 : decode cX6_round 40 = .ok (.iconst 0, 1) := by decide +kernel
theorem dX6_round_41 : decode cX6_round 41 = .ok (.istore_n 1, 1) := by decide +kernel
theorem dX6_round_42 : decode cX6_round 42 = .ok (.iconst 0, 1) := by decide +kernel
theorem dX6_round_43 : decode cX6_round 43 = .ok (.istore_n 2, 1) := by decide +kernel
theorem dX6_round_44 : decode cX6_round 44 = .ok (.iload_n 2, 1) := by decide +kernel
theorem dX6_round_45 : decode cX6_round 45 = .ok (.aload_n 0, 1) := by decide +kernel
theorem dX6_round_46 : decode cX6_round 46 = .ok (.getfield 76, 3) := by decide +kernel
theorem dX6_round_49 : decode cX6_round 49 = .ok (.if_icmp .ge 46, 3) := by decide +kernel
theorem dX6_round_52 : decode cX6_round 52 = .ok (.iload_n 1, 1) := by decide +kernel
theorem dX6_round_53 : decode cX6_round 53 = .ok (.ifCond .ne 18, 3) := by decide +kernel
theorem dX6_round_56 : decode cX6_round 56 = .ok (.aload_n 0, 1) := by decide +kernel
theorem dX6_round_57 : decode cX6_round 57 = .ok (.getfield 13, 3) := by decide +kernel
theorem dX6_round_60 : decode cX6_round 60 = .ok (.iload_n 2, 1) := by decide +kernel
theorem dX6_round_61 : decode cX6_round 61 = .ok (.iaload, 1) := by decide +kernel
theorem dX6_round_62 : decode cX6_round 62 = .ok (.aload_n 0, 1) := by decide +kernel
theorem dX6_round_63 : decode cX6_round 63 = .ok (.getfield 16, 3) := by decide +kernel
theorem dX6_round_66 : decode cX6_round 66 = .ok (.iload_n 2, 1) := by decide +kernel
theorem dX6_round_67 : decode cX6_round 67 = .ok (.iaload, 1) := by decide +kernel
theorem dX6_round_68 : decode cX6_round 68 = .ok (.if_icmp .eq 7, 3) := by decide +kernel
theorem dX6_round_71 : decode cX6_round 71 = .ok (.iconst 1, 1) := by decide +kernel
theorem dX6_round_72 : decode cX6_round 72 = .ok (.goto 4, 3) := by decide +kernel
theorem dX6_round_75 : decode cX6_round 75 = .ok (.iconst 0, 1) := by decide +kernel
theorem dX6_round_76 : decode cX6_round 76 = .ok (.istore_n 1, 1) := by decide +kernel
theorem dX6_round_77 : decode cX6_round 77 = .ok (.aload_n 0, 1) := by decide +kernel
theorem dX6_round_78 : decode cX6_round 78 = .ok (.getfield 13, 3) := by decide +kernel
theorem dX6_round_81 : decode cX6_round 81 = .ok (.iload_n 2, 1) := by decide +kernel
theorem dX6_round_82 : decode cX6_round 82 = .ok (.aload_n 0, 1) := by decide +kernel
theorem dX6_round_83 : decode cX6_round 83 = .ok (.getfield 16, 3) := by decide +kernel
theorem dX6_round_86 : decode cX6_round 86 = .ok (.iload_n 2, 1) := by decide +kernel
theorem dX6_round_87 : decode cX6_round 87 = .ok (.iaload, 1) := by decide +kernel
theorem dX6_round_88 : decode cX6_round 88 = .ok (.iastore, 1) := by decide +kernel
theorem dX6_round_89 : decode cX6_round 89 = .ok (.iinc 2 1, 3) := by decide +kernel
theorem dX6_round_92 : decode cX6_round 92 = .ok (.goto (-48), 3) := by decide +kernel
theorem dX6_round_95 : decode cX6_round 95 = .ok (.iload_n 1, 1) := by decide +kernel
theorem dX6_round_96 : decode cX6_round 96 = .ok (.ireturn, 1) := by decide +kernel
set_option maxRecDepth 20000 in
theorem ggX6_rounds_X6_within : GoodIn wsX6_rounds wsX6_within := goodIn_r _ [5] (by decide +kernel) (by decide +kernel)
set_option maxRecDepth 20000 in
theorem gX6_rounds_X6_within : GoodIn wsX6_rounds (va_wsS RX6 79 yX6_within wsX6_within) := goodIn_app (goodIn_of _ (by decide +kernel)) ggX6_rounds_X6_within
set_option maxRecDepth 20000 in
theorem ggX6_rounds_X6_round : GoodIn wsX6_rounds wsX6_round := goodIn_r _ [9, 10, 11, 12, 13, 14, 15, 16, 4, 17, 18, 19, 20, 21, 22, 23, 24, 25, 26, 27, 28, 29, 30, 31, 32, 33, 34, 35, 36, 37, 38, 39, 40, 41, 42, 43, 44, 45, 46, 47, 48, 49, 50, 51, 52, 53, 54, 55, 56, 57, 58, 59, 60, 61, 62, 63, 64, 65, 66, 67, 68, 69, 70, 71, 72, 73, 74, 75, 76] (by decide +kernel) (by decide +kernel)
set_option maxRecDepth 20000 in
theorem gX6_rounds_X6_round : GoodIn wsX6_rounds (wsV RX6 138 RX6 yX6_round wsX6_round) := goodIn_app (goodIn_of _ (by decide +kernel)) ggX6_rounds_X6_round
theorem dX6_rounds_0 : decode cX6_rounds 0 = .ok (.aload_n 0, 1) := by decide +kernel
theorem dX6_rounds_1 : decode cX6_rounds 1 = .ok (.iconst 0, 1) := by decide +kernel
theorem dX6_rounds_2 : decode cX6_rounds 2 = .ok (.putfield 69, 3) := by decide +kernel
theorem dX6_rounds_5 : decode cX6_rounds 5 = .ok (.iload_n 1, 1) := by decide +kernel
theorem dX6_rounds_6 : decode cX6_rounds 6 = .ok (.iconst 1, 1) := by decide +kernel
theorem dX6_rounds_7 : decode cX6_rounds 7 = .ok (.bipush 20, 2) := by decide +kernel
theorem dX6_rounds_9 : decode cX6_rounds 9 = .ok (.invokestatic 79, 3) := by decide +kernel
theorem dX6_rounds_12 : decode cX6_rounds 12 = .ok (.ifCond .ne 6, 3) := by decide +kernel
theorem dX6_rounds_15 : decode cX6_rounds 15 = .ok (.bipush (-2), 2) := by decide +kernel
theorem dX6_rounds_17 : decode cX6_rounds 17 = .ok (.ireturn, 1) := by decide +kernel
theorem dX6_rounds_18 : decode cX6_rounds 18 = .ok (.iconst 1, 1) := by decide +kernel
theorem dX6_rounds_19 : decode cX6_rounds 19 = .ok (.istore_n 2, 1) := by decide +kernel
theorem dX6_rounds_20 : decode cX6_rounds 20 = .ok (.aload_n 0, 1) := by decide +kernel
theorem dX6_rounds_21 : decode cX6_rounds 21 = .ok (.invokevirtual 138, 3) := by decide +kernel
theorem dX6_rounds_24 : decode cX6_rounds 24 = .ok (.ifCond .eq 14, 3) := by decide +kernel
theorem dX6_rounds_27 : decode cX6_rounds 27 = .ok (.iload_n 2, 1) := by decide +kernel
theorem dX6_rounds_28 : decode cX6_rounds 28 = .ok (.iload_n 1, 1) := by decide +kernel
theorem dX6_rounds_29 : decode cX6_rounds 29 = .ok (.if_icmp .ge 9, 3) := by decide +kernel
theorem dX6_rounds_32 : decode cX6_rounds 32 = .ok (.iinc 2 1, 3) := by decide +kernel
theorem dX6_rounds_35 : decode cX6_rounds 35 = .ok (.goto (-15), 3) := by decide +kernel
theorem dX6_rounds_38 : decode cX6_rounds 38 = .ok (.iload_n 2, 1) := by decide +kernel
theorem dX6_rounds_39 : decode cX6_rounds 39 = .ok (.ireturn, 1) := by decide +kernel
set_option maxRecDepth 20000 in
theorem ggX6_guess_X6_isRow : GoodIn wsX6_guess wsX6_isRow := goodIn_r _ [7, 8, 9, 10, 6, 11, 12, 13, 14, 15, 16, 17, 18, 19, 20, 21, 22, 23, 24, 25, 26, 27, 28, 29, 30, 31, 32, 33, 34, 35, 36] (by decide +kernel) (by decide +kernel)
set_option maxRecDepth 20000 in
theorem gX6_guess_X6_isRow : GoodIn wsX6_guess (wsV RX6 90 RX6 yX6_isRow wsX6_isRow) := goodIn_app (goodIn_of _ (by decide +kernel)) ggX6_guess_X6_isRow
theorem dX6_guess_0 : decode cX6_guess 0 = .ok (.aload_n 0, 1) := by decide +kernel
theorem dX6_guess_1 : decode cX6_guess 1 = .ok (.iconst 0, 1) := by decide +kernel
theorem dX6_guess_2 : decode cX6_guess 2 = .ok (.putfield 69, 3) := by decide +kernel
theorem dX6_guess_5 : decode cX6_guess 5 = .ok (.aload_n 0, 1) := by decide +kernel
theorem dX6_guess_6 : decode cX6_guess 6 = .ok (.iload_n 1, 1) := by decide +kernel
theorem dX6_guess_7 : decode cX6_guess 7 = .ok (.invokevirtual 90, 3) := by decide +kernel
theorem dX6_guess_10 : decode cX6_guess 10 = .ok (.ifCond .eq 12, 3) := by decide +kernel
theorem dX6_guess_13 : decode cX6_guess 13 = .ok (.aload_n 0, 1) := by decide +kernel
theorem dX6_guess_14 : decode cX6_guess 14 = .ok (.getfield 13, 3) := by decide +kernel
theorem dX6_guess_17 : decode cX6_guess 17 = .ok (.iload_n 1, 1) := by decide +kernel
theorem dX6_guess_18 : decode cX6_guess 18 = .ok (.iaload, 1) := by decide +kernel
theorem dX6_guess_19 : decode cX6_guess 19 = .ok (.goto 5, 3) := by decide +kernel
theorem dX6_guess_22 : decode cX6_guess 22 = .ok (.bipush (-2), 2) := by decide +kernel
theorem dX6_guess_24 : decode cX6_guess 24 = .ok (.ireturn, 1) := by decide +kernel
set_option maxRecDepth 20000 in
theorem ggX6_text_X6_within : GoodIn wsX6_text wsX6_within := goodIn_r _ [7] (by decide +kernel) (by decide +kernel)
set_option maxRecDepth 20000 in
theorem gX6_text_X6_within : GoodIn wsX6_text (va_wsS RX6 79 yX6_within wsX6_within) := goodIn_app (goodIn_of _ (by decide +kernel)) ggX6_text_X6_within
theorem dX6_text_0 : decode cX6_text 0 = .ok (.aload_n 0, 1) := by decide +kernel
theorem dX6_text_1 : decode cX6_text 1 = .ok (.iconst 0, 1) := by decide +kernel
theorem dX6_text_2 : decode cX6_text 2 = .ok (.putfield 69, 3) := by decide +kernel
theorem dX6_text_5 : decode cX6_text 5 = .ok (.iload_n 1, 1) := by decide +kernel
theorem dX6_text_6 : decode cX6_text 6 = .ok (.iconst 0, 1) := by decide +kernel
theorem dX6_text_7 : decode cX6_text 7 = .ok (.bipush 7, 2) := by decide +kernel
theorem dX6_text_9 : decode cX6_text 9 = .ok (.invokestatic 79, 3) := by decide +kernel
theorem dX6_text_12 : decode cX6_text 12 = .ok (.ifCond .ne 6, 3) := by decide +kernel
theorem dX6_text_15 : decode cX6_text 15 = .ok (.bipush (-2), 2) := by decide +kernel
theorem dX6_text_17 : decode cX6_text 17 = .ok (.ireturn, 1) := by decide +kernel
theorem dX6_text_18 : decode cX6_text 18 = .ok (.aload_n 0, 1) := by decide +kernel
theorem dX6_text_19 : decode cX6_text 19 = .ok (.getfield 142, 3) := by decide +kernel
theorem dX6_text_22 : decode cX6_text 22 = .ok (.bipush 60, 2) := by decide +kernel
theorem dX6_text_24 : decode cX6_text 24 = .ok (.if_icmp .ne 6, 3) := by decide +kernel
theorem dX6_text_27 : decode cX6_text 27 = .ok (.bipush (-3), 2) := by decide +kernel
theorem dX6_text_29 : decode cX6_text 29 = .ok (.ireturn, 1) := by decide +kernel
theorem dX6_text_30 : decode cX6_text 30 = .ok (.aload_n 0, 1) := by decide +kernel
theorem dX6_text_31 : decode cX6_text 31 = .ok (.getfield 32, 3) := by decide +kernel
theorem dX6_text_34 : decode cX6_text 34 = .ok (.aload_n 0, 1) := by decide +kernel
theorem dX6_text_35 : decode cX6_text 35 = .ok (.getfield 142, 3) := by decide +kernel
theorem dX6_text_38 : decode cX6_text 38 = .ok (.iload_n 1, 1) := by decide +kernel
theorem dX6_text_39 : decode cX6_text 39 = .ok (.iastore, 1) := by decide +kernel
theorem dX6_text_40 : decode cX6_text 40 = .ok (.aload_n 0, 1) := by decide +kernel
theorem dX6_text_41 : decode cX6_text 41 = .ok (.dup, 1) := by decide +kernel
theorem dX6_text_42 : decode cX6_text 42 = .ok (.getfield 142, 3) := by decide +kernel
theorem dX6_text_45 : decode cX6_text 45 = .ok (.iconst 1, 1) := by decide +kernel
theorem dX6_text_46 : decode cX6_text 46 = .ok (.iadd, 1) := by decide +kernel
theorem dX6_text_47 : decode cX6_text 47 = .ok (.putfield 142, 3) := by decide +kernel
theorem dX6_text_50 : decode cX6_text 50 = .ok (.aload_n 0, 1) := by decide +kernel
theorem dX6_text_51 : decode cX6_text 51 = .ok (.getfield 142, 3) := by decide +kernel
theorem dX6_text_54 : decode cX6_text 54 = .ok (.ireturn, 1) := by decide +kernel
theorem dX6_count_0 : decode cX6_count 0 = .ok (.iconst 0, 1) := by decide +kernel
theorem dX6_count_1 : decode cX6_count 1 = .ok (.istore_n 3, 1) := by decide +kernel
theorem dX6_count_2 : decode cX6_count 2 = .ok (.iload_n 3, 1) := by decide +kernel
theorem dX6_count_3 : decode cX6_count 3 = .ok (.bipush 8, 2) := by decide +kernel
theorem dX6_count_5 : decode cX6_count 5 = .ok (.if_icmp .ge 16, 3) := by decide +kernel
theorem dX6_count_8 : decode cX6_count 8 = .ok (.aload_n 0, 1) := by decide +kernel
theorem dX6_count_9 : decode cX6_count 9 = .ok (.getfield 35, 3) := by decide +kernel
theorem dX6_count_12 : decode cX6_count 12 = .ok (.iload_n 3, 1) := by decide +kernel
theorem dX6_count_13 : decode cX6_count 13 = .ok (.iconst 0, 1) := by decide +kernel
theorem dX6_count_14 : decode cX6_count 14 = .ok (.iastore, 1) := by decide +kernel
theorem dX6_count_15 : decode cX6_count 15 = .ok (.iinc 3 1, 3) := by decide +kernel
theorem dX6_count_18 : decode cX6_count 18 = .ok (.goto (-16), 3) := by decide +kernel
theorem dX6_count_21 : decode cX6_count 21 = .ok (.iconst 0, 1) := by decide +kernel
theorem dX6_count_22 : decode cX6_count 22 = .ok (.istore_n 3, 1) := by decide +kernel
theorem dX6_count_23 : decode cX6_count 23 = .ok (.iload_n 1, 1) := by decide +kernel
theorem dX6_count_24 : decode cX6_count 24 = .ok (.iconst (-1), 1) := by decide +kernel
theorem dX6_count_25 : decode cX6_count 25 = .ok (.if_icmp .ne 7, 3) := by decide +kernel
theorem dX6_count_28 : decode cX6_count 28 = .ok (.iconst 1, 1) := by decide +kernel
theorem dX6_count_29 : decode cX6_count 29 = .ok (.goto 4, 3) := by decide +kernel
theorem dX6_count_32 : decode cX6_count 32 = .ok (.iconst 2, 1) := by decide +kernel
theorem dX6_count_33 : decode cX6_count 33 = .ok (.istore 4, 2) := by decide +kernel
theorem dX6_count_35 : decode cX6_count 35 = .ok (.iload 4, 2) := by decide +kernel
theorem dX6_count_37 : decode cX6_count 37 = .ok (.aload_n 0, 1) := by decide +kernel
theorem dX6_count_38 : decode cX6_count 38 = .ok (.getfield 142, 3) := by decide +kernel
theorem dX6_count_41 : decode cX6_count 41 = .ok (.if_icmp .ge 59, 3) := by decide +kernel
theorem dX6_count_44 : decode cX6_count 44 = .ok (.aload_n 0, 1) := by decide +kernel
theorem dX6_count_45 : decode cX6_count 45 = .ok (.getfield 32, 3) := by decide +kernel
theorem dX6_count_48 : decode cX6_count 48 = .ok (.iload 4, 2) := by decide +kernel
theorem dX6_count_50 : decode cX6_count 50 = .ok (.iconst 1, 1) := by decide +kernel
theorem dX6_count_51 : decode cX6_count 51 = .ok (.isub, 1) := by decide +kernel
theorem dX6_count_52 : decode cX6_count 52 = .ok (.iaload, 1) := by decide +kernel
theorem dX6_count_53 : decode cX6_count 53 = .ok (.iload_n 2, 1) := by decide +kernel
theorem dX6_count_54 : decode cX6_count 54 = .ok (.if_icmp .ne 40, 3) := by decide +kernel
theorem dX6_count_57 : decode cX6_count 57 = .ok (.iload_n 1, 1) := by decide +kernel
theorem dX6_count_58 : decode cX6_count 58 = .ok (.iconst (-1), 1) := by decide +kernel
theorem dX6_count_59 : decode cX6_count 59 = .ok (.if_icmp .eq 16, 3) := by decide +kernel
theorem dX6_count_62 : decode cX6_count 62 = .ok (.aload_n 0, 1) := by decide +kernel
theorem dX6_count_63 : decode cX6_count 63 = .ok (.getfield 32, 3) := by decide +kernel
theorem dX6_count_66 : decode cX6_count 66 = .ok (.iload 4, 2) := by decide +kernel
theorem dX6_count_68 : decode cX6_count 68 = .ok (.iconst 2, 1) := by decide +kernel
theorem dX6_count_69 : decode cX6_count 69 = .ok (.isub, 1) := by decide +kernel
theorem dX6_count_70 : decode cX6_count 70 = .ok (.iaload, 1) := by decide +kernel
theorem dX6_count_71 : decode cX6_count 71 = .ok (.iload_n 1, 1) := by decide +kernel
theorem dX6_count_72 : decode cX6_count 72 = .ok (.if_icmp .ne 22, 3) := by decide +kernel
theorem dX6_count_75 : decode cX6_count 75 = .ok (.aload_n 0, 1) := by decide +kernel
theorem dX6_count_76 : decode cX6_count 76 = .ok (.getfield 35, 3) := by decide +kernel
theorem dX6_count_79 : decode cX6_count 79 = .ok (.aload_n 0, 1) := by decide +kernel
theorem dX6_count_80 : decode cX6_count 80 = .ok (.getfield 32, 3) := by decide +kernel
theorem dX6_count_83 : decode cX6_count 83 = .ok (.iload 4, 2) := by decide +kernel
theorem dX6_count_85 : decode cX6_count 85 = .ok (.iaload, 1) := by decide +kernel
theorem dX6_count_86 : decode cX6_count 86 = .ok (.dup2, 1) := by decide +kernel
theorem dX6_count_87 : decode cX6_count 87 = .ok (.iaload, 1) := by decide +kernel
theorem dX6_count_88 : decode cX6_count 88 = .ok (.iconst 1, 1) := by decide +kernel
theorem dX6_count_89 : decode cX6_count 89 = .ok (.iadd, 1) := by decide +kernel
theorem dX6_count_90 : decode cX6_count 90 = .ok (.iastore, 1) := by decide +kernel
theorem dX6_count_91 : decode cX6_count 91 = .ok (.iinc 3 1, 3) := by decide +kernel
theorem dX6_count_94 : decode cX6_count 94 = .ok (.iinc 4 1, 3) := by decide +kernel
theorem dX6_count_97 : decode cX6_count 97 = .ok (.goto (-62), 3) := by decide +kernel
theorem dX6_count_100 : decode cX6_count 100 = .ok (.iload_n 3, 1) := by decide +kernel
theorem dX6_count_101 : decode cX6_count 101 = .ok (.ireturn, 1) := by decide +kernel
theorem dX6_first_0 : decode cX6_first 0 = .ok (.iconst 0, 1) := by decide +kernel
theorem dX6_first_1 : decode cX6_first 1 = .ok (.istore_n 1, 1) := by decide +kernel
theorem dX6_first_2 : decode cX6_first 2 = .ok (.iload_n 1, 1) := by decide +kernel
theorem dX6_first_3 : decode cX6_first 3 = .ok (.bipush 8, 2) := by decide +kernel
theorem dX6_first_5 : decode cX6_first 5 = .ok (.if_icmp .ge 16, 3) := by decide +kernel
theorem dX6_first_8 : decode cX6_first 8 = .ok (.aload_n 0, 1) := by decide +kernel
theorem dX6_first_9 : decode cX6_first 9 = .ok (.getfield 38, 3) := by decide +kernel
theorem dX6_first_12 : decode cX6_first 12 = .ok (.iload_n 1, 1) := by decide +kernel
theorem dX6_first_13 : decode cX6_first 13 = .ok (.lconst 1, 1) := by decide +kernel
theorem dX6_first_14 : decode cX6_first 14 = .ok (.lastore, 1) := by decide +kernel
theorem dX6_first_15 : decode cX6_first 15 = .ok (.iinc 1 1, 3) := by decide +kernel
theorem dX6_first_18 : decode cX6_first 18 = .ok (.goto (-16), 3) := by decide +kernel
theorem dX6_first_21 : decode cX6_first 21 = .ok (.iconst 0, 1) := by decide +kernel
theorem dX6_first_22 : decode cX6_first 22 = .ok (.istore_n 1, 1) := by decide +kernel
theorem dX6_first_23 : decode cX6_first 23 = .ok (.iload_n 1, 1) := by decide +kernel
theorem dX6_first_24 : decode cX6_first 24 = .ok (.aload_n 0, 1) := by decide +kernel
theorem dX6_first_25 : decode cX6_first 25 = .ok (.getfield 142, 3) := by decide +kernel
theorem dX6_first_28 : decode cX6_first 28 = .ok (.if_icmp .ge 24, 3) := by decide +kernel
theorem dX6_first_31 : decode cX6_first 31 = .ok (.aload_n 0, 1) := by decide +kernel
theorem dX6_first_32 : decode cX6_first 32 = .ok (.getfield 38, 3) := by decide +kernel
theorem dX6_first_35 : decode cX6_first 35 = .ok (.aload_n 0, 1) := by decide +kernel
theorem dX6_first_36 : decode cX6_first 36 = .ok (.getfield 32, 3) := by decide +kernel
theorem dX6_first_39 : decode cX6_first 39 = .ok (.iload_n 1, 1) := by decide +kernel
theorem dX6_first_40 : decode cX6_first 40 = .ok (.iaload, 1) := by decide +kernel
theorem dX6_first_41 : decode cX6_first 41 = .ok (.dup2, 1) := by decide +kernel
theorem dX6_first_42 : decode cX6_first 42 = .ok (.laload, 1) := by decide +kernel
theorem dX6_first_43 : decode cX6_first 43 = .ok (.lconst 1, 1) := by decide +kernel
theorem dX6_first_44 : decode cX6_first 44 = .ok (.ladd, 1) := by decide +kernel
theorem dX6_first_45 : decode cX6_first 45 = .ok (.lastore, 1) := by decide +kernel
theorem dX6_first_46 : decode cX6_first 46 = .ok (.iinc 1 1, 3) := by decide +kernel
theorem dX6_first_49 : decode cX6_first 49 = .ok (.goto (-26), 3) := by decide +kernel
theorem dX6_first_52 : decode cX6_first 52 = .ok (.aload_n 0, 1) := by decide +kernel
theorem dX6_first_53 : decode cX6_first 53 = .ok (.aload_n 0, 1) := by decide +kernel
theorem dX6_first_54 : decode cX6_first 54 = .ok (.getfield 142, 3) := by decide +kernel
theorem dX6_first_57 : decode cX6_first 57 = .ok (.i2l, 1) := by decide +kernel
theorem dX6_first_58 : decode cX6_first 58 = .ok (.ldc2_w 104, 3) := by decide +kernel
theorem dX6_first_61 : decode cX6_first 61 = .ok (.ladd, 1) := by decide +kernel
theorem dX6_first_62 : decode cX6_first 62 = .ok (.putfield 145, 3) := by decide +kernel
theorem dX6_first_65 : decode cX6_first 65 = .ok (.return_, 1) := by decide +kernel
theorem dX6_above_0 : decode cX6_above 0 = .ok (.iload_n 1, 1) := by decide +kernel
theorem dX6_above_1 : decode cX6_above 1 = .ok (.ifCond .ne 4, 3) := by decide +kernel
theorem dX6_above_4 : decode cX6_above 4 = .ok (.return_, 1) := by decide +kernel
theorem dX6_above_5 : decode cX6_above 5 = .ok (.iconst 0, 1) := by decide +kernel
theorem dX6_above_6 : decode cX6_above 6 = .ok (.istore_n 2, 1) := by decide +kernel
theorem dX6_above_7 : decode cX6_above 7 = .ok (.lconst 0, 1) := by decide +kernel
theorem dX6_above_8 : decode cX6_above 8 = .ok (.lstore_n 3, 1) := by decide +kernel
theorem dX6_above_9 : decode cX6_above 9 = .ok (.iconst 0, 1) := by decide +kernel
theorem dX6_above_10 : decode cX6_above 10 = .ok (.istore 5, 2) := by decide +kernel
theorem dX6_above_12 : decode cX6_above 12 = .ok (.iload 5, 2) := by decide +kernel
theorem dX6_above_14 : decode cX6_above 14 = .ok (.bipush 8, 2) := by decide +kernel
theorem dX6_above_16 : decode cX6_above 16 = .ok (.if_icmp .ge 51, 3) := by decide +kernel
theorem dX6_above_19 : decode cX6_above 19 = .ok (.iload_n 2, 1) := by decide +kernel
theorem dX6_above_20 : decode cX6_above 20 = .ok (.aload_n 0, 1) := by decide +kernel
theorem dX6_above_21 : decode cX6_above 21 = .ok (.getfield 35, 3) := by decide +kernel
theorem dX6_above_24 : decode cX6_above 24 = .ok (.iload 5, 2) := by decide +kernel
theorem dX6_above_26 : decode cX6_above 26 = .ok (.iaload, 1) := by decide +kernel
theorem dX6_above_27 : decode cX6_above 27 = .ok (.ifCond .le 7, 3) := by decide +kernel
theorem dX6_above_30 : decode cX6_above 30 = .ok (.iconst 1, 1) := by decide +kernel
theorem dX6_above_31 : decode cX6_above 31 = .ok (.goto 4, 3) := by decide +kernel
theorem dX6_above_34 : decode cX6_above 34 = .ok (.iconst 0, 1) := by decide +kernel
theorem dX6_above_35 : decode cX6_above 35 = .ok (.iadd, 1) := by decide +kernel
theorem dX6_above_36 : decode cX6_above 36 = .ok (.istore_n 2, 1) := by decide +kernel
theorem dX6_above_37 : decode cX6_above 37 = .ok (.lload_n 3, 1) := by decide +kernel
theorem dX6_above_38 : decode cX6_above 38 = .ok (.aload_n 0, 1) := by decide +kernel
theorem dX6_above_39 : decode cX6_above 39 = .ok (.getfield 35, 3) := by decide +kernel
theorem dX6_above_42 : decode cX6_above 42 = .ok (.iload 5, 2) := by decide +kernel
theorem dX6_above_44 : decode cX6_above 44 = .ok (.iaload, 1) := by decide +kernel
theorem dX6_above_45 : decode cX6_above 45 = .ok (.ifCond .le 7, 3) := by decide +kernel
theorem dX6_above_48 : decode cX6_above 48 = .ok (.lconst 0, 1) := by decide +kernel
theorem dX6_above_49 : decode cX6_above 49 = .ok (.goto 10, 3) := by decide +kernel
theorem dX6_above_52 : decode cX6_above 52 = .ok (.aload_n 0, 1) := by decide +kernel
theorem dX6_above_53 : decode cX6_above 53 = .ok (.getfield 38, 3) := by decide +kernel
theorem dX6_above_56 : decode cX6_above 56 = .ok (.iload 5, 2) := by decide +kernel
theorem dX6_above_58 : decode cX6_above 58 = .ok (.laload, 1) := by decide +kernel
theorem dX6_above_59 : decode cX6_above 59 = .ok (.ladd, 1) := by decide +kernel
theorem dX6_above_60 : decode cX6_above 60 = .ok (.lstore_n 3, 1) := by decide +kernel
theorem dX6_above_61 : decode cX6_above 61 = .ok (.iinc 5 1, 3) := by decide +kernel
theorem dX6_above_64 : decode cX6_above 64 = .ok (.goto (-52), 3) := by decide +kernel
theorem dX6_above_67 : decode cX6_above 67 = .ok (.iconst 0, 1) := by decide +kernel
theorem dX6_above_68 : decode cX6_above 68 = .ok (.istore 5, 2) := by decide +kernel
theorem dX6_above_70 : decode cX6_above 70 = .ok (.iload 5, 2) := by decide +kernel
theorem dX6_above_72 : decode cX6_above 72 = .ok (.bipush 8, 2) := by decide +kernel
theorem dX6_above_74 : decode cX6_above 74 = .ok (.if_icmp .ge 79, 3) := by decide +kernel
theorem dX6_above_77 : decode cX6_above 77 = .ok (.iload_n 2, 1) := by decide +kernel
theorem dX6_above_78 : decode cX6_above 78 = .ok (.bipush 8, 2) := by decide +kernel
theorem dX6_above_80 : decode cX6_above 80 = .ok (.if_icmp .ne 21, 3) := by decide +kernel
theorem dX6_above_83 : decode cX6_above 83 = .ok (.aload_n 0, 1) := by decide +kernel
theorem dX6_above_84 : decode cX6_above 84 = .ok (.getfield 38, 3) := by decide +kernel
theorem dX6_above_87 : decode cX6_above 87 = .ok (.iload 5, 2) := by decide +kernel
theorem dX6_above_89 : decode cX6_above 89 = .ok (.aload_n 0, 1) := by decide +kernel
theorem dX6_above_90 : decode cX6_above 90 = .ok (.getfield 35, 3) := by decide +kernel
theorem dX6_above_93 : decode cX6_above 93 = .ok (.iload 5, 2) := by decide +kernel
theorem dX6_above_95 : decode cX6_above 95 = .ok (.iaload, 1) := by decide +kernel
theorem dX6_above_96 : decode cX6_above 96 = .ok (.i2l, 1) := by decide +kernel
theorem dX6_above_97 : decode cX6_above 97 = .ok (.lastore, 1) := by decide +kernel
theorem dX6_above_98 : decode cX6_above 98 = .ok (.goto 49, 3) := by decide +kernel
theorem dX6_above_101 : decode cX6_above 101 = .ok (.aload_n 0, 1) := by decide +kernel
theorem dX6_above_102 : decode cX6_above 102 = .ok (.getfield 38, 3) := by decide +kernel
theorem dX6_above_105 : decode cX6_above 105 = .ok (.iload 5, 2) := by decide +kernel
theorem dX6_above_107 : decode cX6_above 107 = .ok (.aload_n 0, 1) := by decide +kernel
theorem dX6_above_108 : decode cX6_above 108 = .ok (.getfield 35, 3) := by decide +kernel
theorem dX6_above_111 : decode cX6_above 111 = .ok (.iload 5, 2) := by decide +kernel
theorem dX6_above_113 : decode cX6_above 113 = .ok (.iaload, 1) := by decide +kernel
theorem dX6_above_114 : decode cX6_above 114 = .ok (.ifCond .le 22, 3) := by decide +kernel
theorem dX6_above_117 : decode cX6_above 117 = .ok (.ldc2_w 148, 3) := by decide +kernel
theorem dX6_above_120 : decode cX6_above 120 = .ok (.aload_n 0, 1) := by decide +kernel
theorem dX6_above_121 : decode cX6_above 121 = .ok (.getfield 35, 3) := by decide +kernel
theorem dX6_above_124 : decode cX6_above 124 = .ok (.iload 5, 2) := by decide +kernel
theorem dX6_above_126 : decode cX6_above 126 = .ok (.iaload, 1) := by decide +kernel
theorem dX6_above_127 : decode cX6_above 127 = .ok (.i2l, 1) := by decide +kernel
theorem dX6_above_128 : decode cX6_above 128 = .ok (.lmul, 1) := by decide +kernel
theorem dX6_above_129 : decode cX6_above 129 = .ok (.lconst 1, 1) := by decide +kernel
theorem dX6_above_130 : decode cX6_above 130 = .ok (.lsub, 1) := by decide +kernel
theorem dX6_above_131 : decode cX6_above 131 = .ok (.lload_n 3, 1) := by decide +kernel
theorem dX6_above_132 : decode cX6_above 132 = .ok (.lmul, 1) := by decide +kernel
theorem dX6_above_133 : decode cX6_above 133 = .ok (.goto 13, 3) := by decide +kernel
theorem dX6_above_136 : decode cX6_above 136 = .ok (.iload_n 2, 1) := by decide +kernel
theorem dX6_above_137 : decode cX6_above 137 = .ok (.i2l, 1) := by decide +kernel
theorem dX6_above_138 : decode cX6_above 138 = .ok (.aload_n 0, 1) := by decide +kernel
theorem dX6_above_139 : decode cX6_above 139 = .ok (.getfield 38, 3) := by decide +kernel
theorem dX6_above_142 : decode cX6_above 142 = .ok (.iload 5, 2) := by decide +kernel
theorem dX6_above_144 : decode cX6_above 144 = .ok (.laload, 1) := by decide +kernel
theorem dX6_above_145 : decode cX6_above 145 = .ok (.lmul, 1) := by decide +kernel
theorem dX6_above_146 : decode cX6_above 146 = .ok (.lastore, 1) := by decide +kernel
theorem dX6_above_147 : decode cX6_above 147 = .ok (.iinc 5 1, 3) := by decide +kernel
theorem dX6_above_150 : decode cX6_above 150 = .ok (.goto (-80), 3) := by decide +kernel
theorem dX6_above_153 : decode cX6_above 153 = .ok (.aload_n 0, 1) := by decide +kernel
theorem dX6_above_154 : decode cX6_above 154 = .ok (.iload_n 2, 1) := by decide +kernel
theorem dX6_above_155 : decode cX6_above 155 = .ok (.bipush 8, 2) := by decide +kernel
theorem dX6_above_157 : decode cX6_above 157 = .ok (.if_icmp .ne 8, 3) := by decide +kernel
theorem dX6_above_160 : decode cX6_above 160 = .ok (.iload_n 1, 1) := by decide +kernel
theorem dX6_above_161 : decode cX6_above 161 = .ok (.i2l, 1) := by decide +kernel
theorem dX6_above_162 : decode cX6_above 162 = .ok (.goto 11, 3) := by decide +kernel
theorem dX6_above_165 : decode cX6_above 165 = .ok (.ldc2_w 148, 3) := by decide +kernel
theorem dX6_above_168 : decode cX6_above 168 = .ok (.iload_n 1, 1) := by decide +kernel
theorem dX6_above_169 : decode cX6_above 169 = .ok (.i2l, 1) := by decide +kernel
theorem dX6_above_170 : decode cX6_above 170 = .ok (.lmul, 1) := by decide +kernel
theorem dX6_above_171 : decode cX6_above 171 = .ok (.lload_n 3, 1) := by decide +kernel
theorem dX6_above_172 : decode cX6_above 172 = .ok (.lmul, 1) := by decide +kernel
theorem dX6_above_173 : decode cX6_above 173 = .ok (.putfield 145, 3) := by decide +kernel
theorem dX6_above_176 : decode cX6_above 176 = .ok (.return_, 1) := by decide +kernel
set_option maxRecDepth 20000 in
theorem ggX6_table_X6_first : GoodIn wsX6_table wsX6_first := goodIn_r _ [5, 6, 7, 8, 9, 10, 21, 22, 23, 24, 25, 26, 27, 28, 29, 30, 31, 32, 33, 34, 35, 36, 37, 38, 39, 40, 41, 42, 43, 44, 45] (by decide +kernel) (by decide +kernel)
set_option maxRecDepth 20000 in
theorem gX6_table_X6_first : GoodIn wsX6_table (wsV RX6 150 RX6 yX6_first wsX6_first) := goodIn_app (goodIn_of _ (by decide +kernel)) ggX6_table_X6_first
set_option maxRecDepth 20000 in
theorem ggX6_table_X6_count : GoodIn wsX6_table wsX6_count := goodIn_r _ [14, 15, 7, 8, 21, 22, 23, 24, 25, 26, 27, 28, 29, 30, 31, 32, 33, 34, 35, 36, 37, 38, 39, 40, 41, 42, 43, 44, 45] (by decide +kernel) (by decide +kernel)
set_option maxRecDepth 20000 in
theorem gX6_table_X6_count : GoodIn wsX6_table (wsV RX6 153 RX6 yX6_count wsX6_count) := goodIn_app (goodIn_of _ (by decide +kernel)) ggX6_table_X6_count
set_option maxRecDepth 20000 in
theorem ggX6_table_X6_above : GoodIn wsX6_table wsX6_above := goodIn_r _ [19, 15, 6, 20, 10, 21, 22, 23, 24, 25, 26, 27, 28, 29, 30, 31, 32, 33, 34, 35, 36, 37, 38, 39, 40, 41, 42, 43, 44, 45] (by decide +kernel) (by decide +kernel)
set_option maxRecDepth 20000 in
theorem gX6_table_X6_above : GoodIn wsX6_table (wsV RX6 156 RX6 yX6_above wsX6_above) := goodIn_app (goodIn_of _ (by decide +kernel)) ggX6_table_X6_above
theorem dX6_table_0 : decode cX6_table 0 = .ok (.aload_n 0, 1) := by decide +kernel
theorem dX6_table_1 : decode cX6_table 1 = .ok (.invokevirtual 150, 3) := by decide +kernel
theorem dX6_table_4 : decode cX6_table 4 = .ok (.iload_n 2, 1) := by decide +kernel
theorem dX6_table_5 : decode cX6_table 5 = .ok (.iconst (-1), 1) := by decide +kernel
theorem dX6_table_6 : decode cX6_table 6 = .ok (.if_icmp .eq 13, 3) := by decide +kernel
theorem dX6_table_9 : decode cX6_table 9 = .ok (.aload_n 0, 1) := by decide +kernel
theorem dX6_table_10 : decode cX6_table 10 = .ok (.aload_n 0, 1) := by decide +kernel
theorem dX6_table_11 : decode cX6_table 11 = .ok (.iconst (-1), 1) := by decide +kernel
theorem dX6_table_12 : decode cX6_table 12 = .ok (.iload_n 2, 1) := by decide +kernel
theorem dX6_table_13 : decode cX6_table 13 = .ok (.invokevirtual 153, 3) := by decide +kernel
theorem dX6_table_16 : decode cX6_table 16 = .ok (.invokevirtual 156, 3) := by decide +kernel
theorem dX6_table_19 : decode cX6_table 19 = .ok (.iload_n 1, 1) := by decide +kernel
theorem dX6_table_20 : decode cX6_table 20 = .ok (.iconst (-1), 1) := by decide +kernel
theorem dX6_table_21 : decode cX6_table 21 = .ok (.if_icmp .eq 13, 3) := by decide +kernel
theorem dX6_table_24 : decode cX6_table 24 = .ok (.aload_n 0, 1) := by decide +kernel
theorem dX6_table_25 : decode cX6_table 25 = .ok (.aload_n 0, 1) := by decide +kernel
theorem dX6_table_26 : decode cX6_table 26 = .ok (.iload_n 1, 1) := by decide +kernel
theorem dX6_table_27 : decode cX6_table 27 = .ok (.iload_n 2, 1) := by decide +kernel
theorem dX6_table_28 : decode cX6_table 28 = .ok (.invokevirtual 153, 3) := by decide +kernel
theorem dX6_table_31 : decode cX6_table 31 = .ok (.invokevirtual 156, 3) := by decide +kernel
theorem dX6_table_34 : decode cX6_table 34 = .ok (.return_, 1) := by decide +kernel
set_option maxRecDepth 20000 in
theorem ggX6_isTable_X6_within : GoodIn wsX6_isTable wsX6_within := goodIn_r _ [4] (by decide +kernel) (by decide +kernel)
set_option maxRecDepth 20000 in
theorem gX6_isTable_X6_within : GoodIn wsX6_isTable (va_wsS RX6 79 yX6_within wsX6_within) := goodIn_app (goodIn_of _ (by decide +kernel)) ggX6_isTable_X6_within
theorem dX6_isTable_0 : decode cX6_isTable 0 = .ok (.iload_n 0, 1) := by decide +kernel
theorem dX6_isTable_1 : decode cX6_isTable 1 = .ok (.iconst (-1), 1) := by decide +kernel
theorem dX6_isTable_2 : decode cX6_isTable 2 = .ok (.bipush 7, 2) := by decide +kernel
theorem dX6_isTable_4 : decode cX6_isTable 4 = .ok (.invokestatic 79, 3) := by decide +kernel
theorem dX6_isTable_7 : decode cX6_isTable 7 = .ok (.ifCond .eq 27, 3) := by decide +kernel
theorem dX6_isTable_10 : decode cX6_isTable 10 = .ok (.iload_n 1, 1) := by decide +kernel
theorem dX6_isTable_11 : decode cX6_isTable 11 = .ok (.iconst (-1), 1) := by decide +kernel
theorem dX6_isTable_12 : decode cX6_isTable 12 = .ok (.bipush 7, 2) := by decide +kernel
theorem dX6_isTable_14 : decode cX6_isTable 14 = .ok (.invokestatic 79, 3) := by decide +kernel
theorem dX6_isTable_17 : decode cX6_isTable 17 = .ok (.ifCond .eq 17, 3) := by decide +kernel
theorem dX6_isTable_20 : decode cX6_isTable 20 = .ok (.iload_n 1, 1) := by decide +kernel
theorem dX6_isTable_21 : decode cX6_isTable 21 = .ok (.iconst (-1), 1) := by decide +kernel
theorem dX6_isTable_22 : decode cX6_isTable 22 = .ok (.if_icmp .ne 8, 3) := by decide +kernel
theorem dX6_isTable_25 : decode cX6_isTable 25 = .ok (.iload_n 0, 1) := by decide +kernel
theorem dX6_isTable_26 : decode cX6_isTable 26 = .ok (.iconst (-1), 1) := by decide +kernel
theorem dX6_isTable_27 : decode cX6_isTable 27 = .ok (.if_icmp .ne 7, 3) := by decide +kernel
theorem dX6_isTable_30 : decode cX6_isTable 30 = .ok (.iconst 1, 1) := by decide +kernel
theorem dX6_isTable_31 : decode cX6_isTable 31 = .ok (.goto 4, 3) := by decide +kernel
theorem dX6_isTable_34 : decode cX6_isTable 34 = .ok (.iconst 0, 1) := by decide +kernel
theorem dX6_isTable_35 : decode cX6_isTable 35 = .ok (.ireturn, 1) := by decide +kernel
set_option maxRecDepth 20000 in
theorem ggX6_next_X6_isTable : GoodIn wsX6_next wsX6_isTable := goodIn_r _ [8, 9, 10, 7, 11] (by decide +kernel) (by decide +kernel)
set_option maxRecDepth 20000 in
theorem gX6_next_X6_isTable : GoodIn wsX6_next (va_wsS RX6 160 yX6_isTable wsX6_isTable) := goodIn_app (goodIn_of _ (by decide +kernel)) ggX6_next_X6_isTable
set_option maxRecDepth 20000 in
theorem ggX6_next_X6_within : GoodIn wsX6_next wsX6_within := goodIn_r _ [11] (by decide +kernel) (by decide +kernel)
set_option maxRecDepth 20000 in
theorem gX6_next_X6_within : GoodIn wsX6_next (va_wsS RX6 79 yX6_within wsX6_within) := goodIn_app (goodIn_of _ (by decide +kernel)) ggX6_next_X6_within
set_option maxRecDepth 20000 in
theorem ggX6_next_X6_table : GoodIn wsX6_next wsX6_table := goodIn_r _ [15, 16, 17, 18, 7, 19, 3, 20, 21, 22, 4, 23, 24, 25, 26, 27, 28, 29, 30, 31, 32, 39, 40, 41, 42, 43, 44, 45, 46, 47, 48, 49, 50, 51, 52, 53, 54, 55, 56, 57, 58, 59, 60, 61, 62, 63] (by decide +kernel) (by decide +kernel)
set_option maxRecDepth 20000 in
theorem gX6_next_X6_table : GoodIn wsX6_next (wsV RX6 164 RX6 yX6_table wsX6_table) := goodIn_app (goodIn_of _ (by decide +kernel)) ggX6_next_X6_table
set_option maxRecDepth 20000 in
theorem ggX6_next_X6_side : GoodIn wsX6_next wsX6_side := goodIn_r _ [35, 36, 37, 7, 38] (by decide +kernel) (by decide +kernel)
set_option maxRecDepth 20000 in
theorem gX6_next_X6_side : GoodIn wsX6_next (va_wsS RX6 116 yX6_side wsX6_side) := goodIn_app (goodIn_of _ (by decide +kernel)) ggX6_next_X6_side
theorem dX6_next_0 : decode cX6_next 0 = .ok (.aload_n 0, 1) := by decide +kernel
theorem dX6_next_1 : decode cX6_next 1 = .ok (.iconst 0, 1) := by decide +kernel
theorem dX6_next_2 : decode cX6_next 2 = .ok (.putfield 69, 3) := by decide +kernel
theorem dX6_next_5 : decode cX6_next 5 = .ok (.iload_n 1, 1) := by decide +kernel
theorem dX6_next_6 : decode cX6_next 6 = .ok (.iload_n 2, 1) := by decide +kernel
theorem dX6_next_7 : decode cX6_next 7 = .ok (.invokestatic 160, 3) := by decide +kernel
theorem dX6_next_10 : decode cX6_next 10 = .ok (.ifCond .eq 23, 3) := by decide +kernel
theorem dX6_next_13 : decode cX6_next 13 = .ok (.iload_n 3, 1) := by decide +kernel
theorem dX6_next_14 : decode cX6_next 14 = .ok (.iconst 0, 1) := by decide +kernel
theorem dX6_next_15 : decode cX6_next 15 = .ok (.bipush 7, 2) := by decide +kernel
theorem dX6_next_17 : decode cX6_next 17 = .ok (.invokestatic 79, 3) := by decide +kernel
theorem dX6_next_20 : decode cX6_next 20 = .ok (.ifCond .eq 13, 3) := by decide +kernel
theorem dX6_next_23 : decode cX6_next 23 = .ok (.iload 4, 2) := by decide +kernel
theorem dX6_next_25 : decode cX6_next 25 = .ok (.iconst 0, 1) := by decide +kernel
theorem dX6_next_26 : decode cX6_next 26 = .ok (.iconst 1, 1) := by decide +kernel
theorem dX6_next_27 : decode cX6_next 27 = .ok (.invokestatic 79, 3) := by decide +kernel
theorem dX6_next_30 : decode cX6_next 30 = .ok (.ifCond .ne 7, 3) := by decide +kernel
theorem dX6_next_33 : decode cX6_next 33 = .ok (.ldc2_w 106, 3) := by decide +kernel
theorem dX6_next_36 : decode cX6_next 36 = .ok (.lreturn, 1) := by decide +kernel
theorem dX6_next_37 : decode cX6_next 37 = .ok (.aload_n 0, 1) := by decide +kernel
theorem dX6_next_38 : decode cX6_next 38 = .ok (.iload_n 1, 1) := by decide +kernel
theorem dX6_next_39 : decode cX6_next 39 = .ok (.iload_n 2, 1) := by decide +kernel
theorem dX6_next_40 : decode cX6_next 40 = .ok (.invokevirtual 164, 3) := by decide +kernel
theorem dX6_next_43 : decode cX6_next 43 = .ok (.aload_n 0, 1) := by decide +kernel
theorem dX6_next_44 : decode cX6_next 44 = .ok (.getfield 38, 3) := by decide +kernel
theorem dX6_next_47 : decode cX6_next 47 = .ok (.iload_n 3, 1) := by decide +kernel
theorem dX6_next_48 : decode cX6_next 48 = .ok (.laload, 1) := by decide +kernel
theorem dX6_next_49 : decode cX6_next 49 = .ok (.aload_n 0, 1) := by decide +kernel
theorem dX6_next_50 : decode cX6_next 50 = .ok (.getfield 145, 3) := by decide +kernel
theorem dX6_next_53 : decode cX6_next 53 = .ok (.iload 4, 2) := by decide +kernel
theorem dX6_next_55 : decode cX6_next 55 = .ok (.invokestatic 116, 3) := by decide +kernel
theorem dX6_next_58 : decode cX6_next 58 = .ok (.lreturn, 1) := by decide +kernel
set_option maxRecDepth 20000 in
theorem ggX6_likely_X6_isTable : GoodIn wsX6_likely wsX6_isTable := goodIn_r _ [6, 7, 8, 5, 9] (by decide +kernel) (by decide +kernel)
set_option maxRecDepth 20000 in
theorem gX6_likely_X6_isTable : GoodIn wsX6_likely (va_wsS RX6 160 yX6_isTable wsX6_isTable) := goodIn_app (goodIn_of _ (by decide +kernel)) ggX6_likely_X6_isTable
set_option maxRecDepth 20000 in
theorem ggX6_likely_X6_table : GoodIn wsX6_likely wsX6_table := goodIn_r _ [13, 14, 15, 16, 5, 17, 2, 18, 19, 20, 21, 22, 23, 24, 25, 26, 27, 28, 29, 30, 31, 32, 33, 34, 35, 36, 37, 38, 39, 40, 41, 42, 43, 44, 45, 46, 47, 48, 49, 50, 51, 52, 53, 54, 55, 56] (by decide +kernel) (by decide +kernel)
set_option maxRecDepth 20000 in
theorem gX6_likely_X6_table : GoodIn wsX6_likely (wsV RX6 164 RX6 yX6_table wsX6_table) := goodIn_app (goodIn_of _ (by decide +kernel)) ggX6_likely_X6_table
theorem dX6_likely_0 : decode cX6_likely 0 = .ok (.aload_n 0, 1) := by decide +kernel
theorem dX6_likely_1 : decode cX6_likely 1 = .ok (.iconst 0, 1) := by decide +kernel
theorem dX6_likely_2 : decode cX6_likely 2 = .ok (.putfield 69, 3) := by decide +kernel
theorem dX6_likely_5 : decode cX6_likely 5 = .ok (.iload_n 1, 1) := by decide +kernel
theorem dX6_likely_6 : decode cX6_likely 6 = .ok (.iload_n 2, 1) := by decide +kernel
theorem dX6_likely_7 : decode cX6_likely 7 = .ok (.invokestatic 160, 3) := by decide +kernel
theorem dX6_likely_10 : decode cX6_likely 10 = .ok (.ifCond .ne 6, 3) := by decide +kernel
theorem dX6_likely_13 : decode cX6_likely 13 = .ok (.bipush (-2), 2) := by decide +kernel
theorem dX6_likely_15 : decode cX6_likely 15 = .ok (.ireturn, 1) := by decide +kernel
theorem dX6_likely_16 : decode cX6_likely 16 = .ok (.aload_n 0, 1) := by decide +kernel
theorem dX6_likely_17 : decode cX6_likely 17 = .ok (.iload_n 1, 1) := by decide +kernel
theorem dX6_likely_18 : decode cX6_likely 18 = .ok (.iload_n 2, 1) := by decide +kernel
theorem dX6_likely_19 : decode cX6_likely 19 = .ok (.invokevirtual 164, 3) := by decide +kernel
theorem dX6_likely_22 : decode cX6_likely 22 = .ok (.iconst 0, 1) := by decide +kernel
theorem dX6_likely_23 : decode cX6_likely 23 = .ok (.istore_n 3, 1) := by decide +kernel
theorem dX6_likely_24 : decode cX6_likely 24 = .ok (.iconst 1, 1) := by decide +kernel
theorem dX6_likely_25 : decode cX6_likely 25 = .ok (.istore 4, 2) := by decide +kernel
theorem dX6_likely_27 : decode cX6_likely 27 = .ok (.iload 4, 2) := by decide +kernel
theorem dX6_likely_29 : decode cX6_likely 29 = .ok (.bipush 8, 2) := by decide +kernel
theorem dX6_likely_31 : decode cX6_likely 31 = .ok (.if_icmp .ge 33, 3) := by decide +kernel
theorem dX6_likely_34 : decode cX6_likely 34 = .ok (.aload_n 0, 1) := by decide +kernel
theorem dX6_likely_35 : decode cX6_likely 35 = .ok (.getfield 38, 3) := by decide +kernel
theorem dX6_likely_38 : decode cX6_likely 38 = .ok (.iload 4, 2) := by decide +kernel
theorem dX6_likely_40 : decode cX6_likely 40 = .ok (.laload, 1) := by decide +kernel
theorem dX6_likely_41 : decode cX6_likely 41 = .ok (.aload_n 0, 1) := by decide +kernel
theorem dX6_likely_42 : decode cX6_likely 42 = .ok (.getfield 38, 3) := by decide +kernel
theorem dX6_likely_45 : decode cX6_likely 45 = .ok (.iload_n 3, 1) := by decide +kernel
theorem dX6_likely_46 : decode cX6_likely 46 = .ok (.laload, 1) := by decide +kernel
theorem dX6_likely_47 : decode cX6_likely 47 = .ok (.lcmp, 1) := by decide +kernel
theorem dX6_likely_48 : decode cX6_likely 48 = .ok (.ifCond .le 8, 3) := by decide +kernel
theorem dX6_likely_51 : decode cX6_likely 51 = .ok (.iload 4, 2) := by decide +kernel
theorem dX6_likely_53 : decode cX6_likely 53 = .ok (.goto 4, 3) := by decide +kernel
theorem dX6_likely_56 : decode cX6_likely 56 = .ok (.iload_n 3, 1) := by decide +kernel
theorem dX6_likely_57 : decode cX6_likely 57 = .ok (.istore_n 3, 1) := by decide +kernel
theorem dX6_likely_58 : decode cX6_likely 58 = .ok (.iinc 4 1, 3) := by decide +kernel
theorem dX6_likely_61 : decode cX6_likely 61 = .ok (.goto (-34), 3) := by decide +kernel
theorem dX6_likely_64 : decode cX6_likely 64 = .ok (.iload_n 3, 1) := by decide +kernel
theorem dX6_likely_65 : decode cX6_likely 65 = .ok (.ireturn, 1) := by decide +kernel
set_option maxRecDepth 20000 in
theorem ggX6_weigh_X6_within : GoodIn wsX6_weigh wsX6_within := goodIn_r _ [8] (by decide +kernel) (by decide +kernel)
set_option maxRecDepth 20000 in
theorem gX6_weigh_X6_within : GoodIn wsX6_weigh (va_wsS RX6 79 yX6_within wsX6_within) := goodIn_app (goodIn_of _ (by decide +kernel)) ggX6_weigh_X6_within
theorem dX6_weigh_0 : decode cX6_weigh 0 = .ok (.aload_n 0, 1) := by decide +kernel
theorem dX6_weigh_1 : decode cX6_weigh 1 = .ok (.iconst 0, 1) := by decide +kernel
theorem dX6_weigh_2 : decode cX6_weigh 2 = .ok (.putfield 69, 3) := by decide +kernel
theorem dX6_weigh_5 : decode cX6_weigh 5 = .ok (.iload_n 1, 1) := by decide +kernel
theorem dX6_weigh_6 : decode cX6_weigh 6 = .ok (.iconst 0, 1) := by decide +kernel
theorem dX6_weigh_7 : decode cX6_weigh 7 = .ok (.iconst 2, 1) := by decide +kernel
theorem dX6_weigh_8 : decode cX6_weigh 8 = .ok (.invokestatic 79, 3) := by decide +kernel
theorem dX6_weigh_11 : decode cX6_weigh 11 = .ok (.ifCond .eq 36, 3) := by decide +kernel
theorem dX6_weigh_14 : decode cX6_weigh 14 = .ok (.iload_n 2, 1) := by decide +kernel
theorem dX6_weigh_15 : decode cX6_weigh 15 = .ok (.iconst 0, 1) := by decide +kernel
theorem dX6_weigh_16 : decode cX6_weigh 16 = .ok (.iconst 3, 1) := by decide +kernel
theorem dX6_weigh_17 : decode cX6_weigh 17 = .ok (.invokestatic 79, 3) := by decide +kernel
theorem dX6_weigh_20 : decode cX6_weigh 20 = .ok (.ifCond .eq 27, 3) := by decide +kernel
theorem dX6_weigh_23 : decode cX6_weigh 23 = .ok (.iload_n 1, 1) := by decide +kernel
theorem dX6_weigh_24 : decode cX6_weigh 24 = .ok (.ifCond .le 12, 3) := by decide +kernel
theorem dX6_weigh_27 : decode cX6_weigh 27 = .ok (.iload_n 3, 1) := by decide +kernel
theorem dX6_weigh_28 : decode cX6_weigh 28 = .ok (.iconst 0, 1) := by decide +kernel
theorem dX6_weigh_29 : decode cX6_weigh 29 = .ok (.iconst 3, 1) := by decide +kernel
theorem dX6_weigh_30 : decode cX6_weigh 30 = .ok (.invokestatic 79, 3) := by decide +kernel
theorem dX6_weigh_33 : decode cX6_weigh 33 = .ok (.ifCond .eq 14, 3) := by decide +kernel
theorem dX6_weigh_36 : decode cX6_weigh 36 = .ok (.iload 4, 2) := by decide +kernel
theorem dX6_weigh_38 : decode cX6_weigh 38 = .ok (.iconst (-1), 1) := by decide +kernel
theorem dX6_weigh_39 : decode cX6_weigh 39 = .ok (.bipush 21, 2) := by decide +kernel
theorem dX6_weigh_41 : decode cX6_weigh 41 = .ok (.invokestatic 79, 3) := by decide +kernel
theorem dX6_weigh_44 : decode cX6_weigh 44 = .ok (.ifCond .ne 6, 3) := by decide +kernel
theorem dX6_weigh_47 : decode cX6_weigh 47 = .ok (.bipush (-2), 2) := by decide +kernel
theorem dX6_weigh_49 : decode cX6_weigh 49 = .ok (.ireturn, 1) := by decide +kernel
