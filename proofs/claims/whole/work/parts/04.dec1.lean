set_option maxRecDepth 20000 in
theorem ggX0_sideOf_X0_commonDivisor : GoodIn wsX0_sideOf wsX0_commonDivisor := goodIn_r _ [4] (by decide +kernel) (by decide +kernel)
set_option maxRecDepth 20000 in
theorem gX0_sideOf_X0_commonDivisor : GoodIn wsX0_sideOf (va_wsS RX0 7 yX0_commonDivisor wsX0_commonDivisor) := goodIn_app (goodIn_of _ (by decide +kernel)) ggX0_sideOf_X0_commonDivisor
theorem dX0_sideOf_0 : decode cX0_sideOf 0 = .ok (.lload_n 0, 1) := by decide +kernel
theorem dX0_sideOf_1 : decode cX0_sideOf 1 = .ok (.lconst 0, 1) := by decide +kernel
theorem dX0_sideOf_2 : decode cX0_sideOf 2 = .ok (.lcmp, 1) := by decide +kernel
theorem dX0_sideOf_3 : decode cX0_sideOf 3 = .ok (.ifCond .le 9, 3) := by decide +kernel
theorem dX0_sideOf_6 : decode cX0_sideOf 6 = .ok (.lload_n 2, 1) := by decide +kernel
theorem dX0_sideOf_7 : decode cX0_sideOf 7 = .ok (.lconst 0, 1) := by decide +kernel
theorem dX0_sideOf_8 : decode cX0_sideOf 8 = .ok (.lcmp, 1) := by decide +kernel
theorem dX0_sideOf_9 : decode cX0_sideOf 9 = .ok (.ifCond .gt 14, 3) := by decide +kernel
theorem dX0_sideOf_12 : decode cX0_sideOf 12 = .ok (.iload 4, 2) := by decide +kernel
theorem dX0_sideOf_14 : decode cX0_sideOf 14 = .ok (.ifCond .ne 7, 3) := by decide +kernel
theorem dX0_sideOf_17 : decode cX0_sideOf 17 = .ok (.lconst 0, 1) := by decide +kernel
theorem dX0_sideOf_18 : decode cX0_sideOf 18 = .ok (.goto 4, 3) := by decide +kernel
theorem dX0_sideOf_21 : decode cX0_sideOf 21 = .ok (.lconst 1, 1) := by decide +kernel
theorem dX0_sideOf_22 : decode cX0_sideOf 22 = .ok (.lreturn, 1) := by decide +kernel
theorem dX0_sideOf_23 : decode cX0_sideOf 23 = .ok (.lload_n 0, 1) := by decide +kernel
theorem dX0_sideOf_24 : decode cX0_sideOf 24 = .ok (.lload_n 2, 1) := by decide +kernel
theorem dX0_sideOf_25 : decode cX0_sideOf 25 = .ok (.invokestatic 7, 3) := by decide +kernel
theorem dX0_sideOf_28 : decode cX0_sideOf 28 = .ok (.lstore 5, 2) := by decide +kernel
theorem dX0_sideOf_30 : decode cX0_sideOf 30 = .ok (.lload 5, 2) := by decide +kernel
theorem dX0_sideOf_32 : decode cX0_sideOf 32 = .ok (.lconst 0, 1) := by decide +kernel
theorem dX0_sideOf_33 : decode cX0_sideOf 33 = .ok (.lcmp, 1) := by decide +kernel
theorem dX0_sideOf_34 : decode cX0_sideOf 34 = .ok (.ifCond .gt 14, 3) := by decide +kernel
theorem dX0_sideOf_37 : decode cX0_sideOf 37 = .ok (.iload 4, 2) := by decide +kernel
theorem dX0_sideOf_39 : decode cX0_sideOf 39 = .ok (.ifCond .ne 7, 3) := by decide +kernel
theorem dX0_sideOf_42 : decode cX0_sideOf 42 = .ok (.lload_n 0, 1) := by decide +kernel
theorem dX0_sideOf_43 : decode cX0_sideOf 43 = .ok (.goto 4, 3) := by decide +kernel
theorem dX0_sideOf_46 : decode cX0_sideOf 46 = .ok (.lload_n 2, 1) := by decide +kernel
theorem dX0_sideOf_47 : decode cX0_sideOf 47 = .ok (.lreturn, 1) := by decide +kernel
theorem dX0_sideOf_48 : decode cX0_sideOf 48 = .ok (.iload 4, 2) := by decide +kernel
theorem dX0_sideOf_50 : decode cX0_sideOf 50 = .ok (.ifCond .ne 7, 3) := by decide +kernel
theorem dX0_sideOf_53 : decode cX0_sideOf 53 = .ok (.lload_n 0, 1) := by decide +kernel
theorem dX0_sideOf_54 : decode cX0_sideOf 54 = .ok (.goto 4, 3) := by decide +kernel
theorem dX0_sideOf_57 : decode cX0_sideOf 57 = .ok (.lload_n 2, 1) := by decide +kernel
theorem dX0_sideOf_58 : decode cX0_sideOf 58 = .ok (.lload 5, 2) := by decide +kernel
theorem dX0_sideOf_60 : decode cX0_sideOf 60 = .ok (.ldiv, 1) := by decide +kernel
theorem dX0_sideOf_61 : decode cX0_sideOf 61 = .ok (.lreturn, 1) := by decide +kernel
theorem dX0_commonDivisor_0 : decode cX0_commonDivisor 0 = .ok (.lload_n 0, 1) := by decide +kernel
theorem dX0_commonDivisor_1 : decode cX0_commonDivisor 1 = .ok (.lstore 4, 2) := by decide +kernel
theorem dX0_commonDivisor_3 : decode cX0_commonDivisor 3 = .ok (.lload_n 2, 1) := by decide +kernel
theorem dX0_commonDivisor_4 : decode cX0_commonDivisor 4 = .ok (.lstore 6, 2) := by decide +kernel
theorem dX0_commonDivisor_6 : decode cX0_commonDivisor 6 = .ok (.iconst 0, 1) := by decide +kernel
theorem dX0_commonDivisor_7 : decode cX0_commonDivisor 7 = .ok (.istore 8, 2) := by decide +kernel
theorem dX0_commonDivisor_9 : decode cX0_commonDivisor 9 = .ok (.iload 8, 2) := by decide +kernel
theorem dX0_commonDivisor_11 : decode cX0_commonDivisor 11 = .ok (.sipush 200, 3) := by decide +kernel
theorem dX0_commonDivisor_14 : decode cX0_commonDivisor 14 = .ok (.if_icmp .ge 31, 3) := by decide +kernel
theorem dX0_commonDivisor_17 : decode cX0_commonDivisor 17 = .ok (.lload 6, 2) := by decide +kernel
theorem dX0_commonDivisor_19 : decode cX0_commonDivisor 19 = .ok (.lconst 0, 1) := by decide +kernel
theorem dX0_commonDivisor_20 : decode cX0_commonDivisor 20 = .ok (.lcmp, 1) := by decide +kernel
theorem dX0_commonDivisor_21 : decode cX0_commonDivisor 21 = .ok (.ifCond .eq 24, 3) := by decide +kernel
theorem dX0_commonDivisor_24 : decode cX0_commonDivisor 24 = .ok (.lload 4, 2) := by decide +kernel
theorem dX0_commonDivisor_26 : decode cX0_commonDivisor 26 = .ok (.lload 6, 2) := by decide +kernel
theorem dX0_commonDivisor_28 : decode cX0_commonDivisor 28 = .ok (.lrem, 1) := by decide +kernel
theorem dX0_commonDivisor_29 : decode cX0_commonDivisor 29 = .ok (.lstore 9, 2) := by decide +kernel
theorem dX0_commonDivisor_31 : decode cX0_commonDivisor 31 = .ok (.lload 6, 2) := by decide +kernel
theorem dX0_commonDivisor_33 : decode cX0_commonDivisor 33 = .ok (.lstore 4, 2) := by decide +kernel
theorem dX0_commonDivisor_35 : decode cX0_commonDivisor 35 = .ok (.lload 9, 2) := by decide +kernel
theorem dX0_commonDivisor_37 : decode cX0_commonDivisor 37 = .ok (.lstore 6, 2) := by decide +kernel
theorem dX0_commonDivisor_39 : decode cX0_commonDivisor 39 = .ok (.iinc 8 1, 3) := by decide +kernel
theorem dX0_commonDivisor_42 : decode cX0_commonDivisor 42 = .ok (.goto (-33), 3) := by decide +kernel
theorem dX0_commonDivisor_45 : decode cX0_commonDivisor 45 = .ok (.lload 4, 2) := by decide +kernel
theorem dX0_commonDivisor_47 : decode cX0_commonDivisor 47 = .ok (.lreturn, 1) := by decide +kernel
theorem dX0_isAbove_0 : decode cX0_isAbove 0 = .ok (.lload_n 0, 1) := by decide +kernel
theorem dX0_isAbove_1 : decode cX0_isAbove 1 = .ok (.lstore 8, 2) := by decide +kernel
theorem dX0_isAbove_3 : decode cX0_isAbove 3 = .ok (.lload_n 2, 1) := by decide +kernel
theorem dX0_isAbove_4 : decode cX0_isAbove 4 = .ok (.lstore 10, 2) := by decide +kernel
theorem dX0_isAbove_6 : decode cX0_isAbove 6 = .ok (.lload 4, 2) := by decide +kernel
theorem dX0_isAbove_8 : decode cX0_isAbove 8 = .ok (.lstore 12, 2) := by decide +kernel
theorem dX0_isAbove_10 : decode cX0_isAbove 10 = .ok (.lload 6, 2) := by decide +kernel
theorem dX0_isAbove_12 : decode cX0_isAbove 12 = .ok (.lstore 14, 2) := by decide +kernel
theorem dX0_isAbove_14 : decode cX0_isAbove 14 = .ok (.iconst 0, 1) := by decide +kernel
theorem dX0_isAbove_15 : decode cX0_isAbove 15 = .ok (.istore 16, 2) := by decide +kernel
theorem dX0_isAbove_17 : decode cX0_isAbove 17 = .ok (.iload 16, 2) := by decide +kernel
theorem dX0_isAbove_19 : decode cX0_isAbove 19 = .ok (.sipush 200, 3) := by decide +kernel
theorem dX0_isAbove_22 : decode cX0_isAbove 22 = .ok (.if_icmp .ge 117, 3) := by decide +kernel
theorem dX0_isAbove_25 : decode cX0_isAbove 25 = .ok (.lload 10, 2) := by decide +kernel
theorem dX0_isAbove_27 : decode cX0_isAbove 27 = .ok (.lconst 0, 1) := by decide +kernel
theorem dX0_isAbove_28 : decode cX0_isAbove 28 = .ok (.lcmp, 1) := by decide +kernel
theorem dX0_isAbove_29 : decode cX0_isAbove 29 = .ok (.ifCond .le 110, 3) := by decide +kernel
theorem dX0_isAbove_32 : decode cX0_isAbove 32 = .ok (.lload 14, 2) := by decide +kernel
theorem dX0_isAbove_34 : decode cX0_isAbove 34 = .ok (.lconst 0, 1) := by decide +kernel
theorem dX0_isAbove_35 : decode cX0_isAbove 35 = .ok (.lcmp, 1) := by decide +kernel
theorem dX0_isAbove_36 : decode cX0_isAbove 36 = .ok (.ifCond .le 103, 3) := by decide +kernel
theorem dX0_isAbove_39 : decode cX0_isAbove 39 = .ok (.lload 8, 2) := by decide +kernel
theorem dX0_isAbove_41 : decode cX0_isAbove 41 = .ok (.lload 10, 2) := by decide +kernel
theorem dX0_isAbove_43 : decode cX0_isAbove 43 = .ok (.ldiv, 1) := by decide +kernel
theorem dX0_isAbove_44 : decode cX0_isAbove 44 = .ok (.lstore 17, 2) := by decide +kernel
theorem dX0_isAbove_46 : decode cX0_isAbove 46 = .ok (.lload 12, 2) := by decide +kernel
theorem dX0_isAbove_48 : decode cX0_isAbove 48 = .ok (.lload 14, 2) := by decide +kernel
theorem dX0_isAbove_50 : decode cX0_isAbove 50 = .ok (.ldiv, 1) := by decide +kernel
theorem dX0_isAbove_51 : decode cX0_isAbove 51 = .ok (.lstore 19, 2) := by decide +kernel
theorem dX0_isAbove_53 : decode cX0_isAbove 53 = .ok (.lload 17, 2) := by decide +kernel
theorem dX0_isAbove_55 : decode cX0_isAbove 55 = .ok (.lload 19, 2) := by decide +kernel
theorem dX0_isAbove_57 : decode cX0_isAbove 57 = .ok (.lcmp, 1) := by decide +kernel
theorem dX0_isAbove_58 : decode cX0_isAbove 58 = .ok (.ifCond .eq 17, 3) := by decide +kernel
theorem dX0_isAbove_61 : decode cX0_isAbove 61 = .ok (.lload 17, 2) := by decide +kernel
theorem dX0_isAbove_63 : decode cX0_isAbove 63 = .ok (.lload 19, 2) := by decide +kernel
theorem dX0_isAbove_65 : decode cX0_isAbove 65 = .ok (.lcmp, 1) := by decide +kernel
theorem dX0_isAbove_66 : decode cX0_isAbove 66 = .ok (.ifCond .le 7, 3) := by decide +kernel
theorem dX0_isAbove_69 : decode cX0_isAbove 69 = .ok (.iconst 1, 1) := by decide +kernel
theorem dX0_isAbove_70 : decode cX0_isAbove 70 = .ok (.goto 4, 3) := by decide +kernel
theorem dX0_isAbove_73 : decode cX0_isAbove 73 = .ok (.iconst 0, 1) := by decide +kernel
theorem dX0_isAbove_74 : decode cX0_isAbove 74 = .ok (.ireturn, 1) := by decide +kernel
theorem dX0_isAbove_75 : decode cX0_isAbove 75 = .ok (.lload 8, 2) := by decide +kernel
theorem dX0_isAbove_77 : decode cX0_isAbove 77 = .ok (.lload 10, 2) := by decide +kernel
theorem dX0_isAbove_79 : decode cX0_isAbove 79 = .ok (.lrem, 1) := by decide +kernel
theorem dX0_isAbove_80 : decode cX0_isAbove 80 = .ok (.lstore 21, 2) := by decide +kernel
theorem dX0_isAbove_82 : decode cX0_isAbove 82 = .ok (.lload 12, 2) := by decide +kernel
theorem dX0_isAbove_84 : decode cX0_isAbove 84 = .ok (.lload 14, 2) := by decide +kernel
theorem dX0_isAbove_86 : decode cX0_isAbove 86 = .ok (.lrem, 1) := by decide +kernel
theorem dX0_isAbove_87 : decode cX0_isAbove 87 = .ok (.lstore 23, 2) := by decide +kernel
theorem dX0_isAbove_89 : decode cX0_isAbove 89 = .ok (.lload 21, 2) := by decide +kernel
theorem dX0_isAbove_91 : decode cX0_isAbove 91 = .ok (.lconst 0, 1) := by decide +kernel
theorem dX0_isAbove_92 : decode cX0_isAbove 92 = .ok (.lcmp, 1) := by decide +kernel
theorem dX0_isAbove_93 : decode cX0_isAbove 93 = .ok (.ifCond .eq 10, 3) := by decide +kernel
theorem dX0_isAbove_96 : decode cX0_isAbove 96 = .ok (.lload 23, 2) := by decide +kernel
theorem dX0_isAbove_98 : decode cX0_isAbove 98 = .ok (.lconst 0, 1) := by decide +kernel
theorem dX0_isAbove_99 : decode cX0_isAbove 99 = .ok (.lcmp, 1) := by decide +kernel
theorem dX0_isAbove_100 : decode cX0_isAbove 100 = .ok (.ifCond .ne 17, 3) := by decide +kernel
theorem dX0_isAbove_103 : decode cX0_isAbove 103 = .ok (.lload 21, 2) := by decide +kernel
theorem dX0_isAbove_105 : decode cX0_isAbove 105 = .ok (.lload 23, 2) := by decide +kernel
theorem dX0_isAbove_107 : decode cX0_isAbove 107 = .ok (.lcmp, 1) := by decide +kernel
theorem dX0_isAbove_108 : decode cX0_isAbove 108 = .ok (.ifCond .le 7, 3) := by decide +kernel
theorem dX0_isAbove_111 : decode cX0_isAbove 111 = .ok (.iconst 1, 1) := by decide +kernel
theorem dX0_isAbove_112 : decode cX0_isAbove 112 = .ok (.goto 4, 3) := by decide +kernel
theorem dX0_isAbove_115 : decode cX0_isAbove 115 = .ok (.iconst 0, 1) := by decide +kernel
theorem dX0_isAbove_116 : decode cX0_isAbove 116 = .ok (.ireturn, 1) := by decide +kernel
theorem dX0_isAbove_117 : decode cX0_isAbove 117 = .ok (.lload 14, 2) := by decide +kernel
theorem dX0_isAbove_119 : decode cX0_isAbove 119 = .ok (.lstore 8, 2) := by decide +kernel
theorem dX0_isAbove_121 : decode cX0_isAbove 121 = .ok (.lload 10, 2) := by decide +kernel
theorem dX0_isAbove_123 : decode cX0_isAbove 123 = .ok (.lstore 12, 2) := by decide +kernel
theorem dX0_isAbove_125 : decode cX0_isAbove 125 = .ok (.lload 23, 2) := by decide +kernel
theorem dX0_isAbove_127 : decode cX0_isAbove 127 = .ok (.lstore 10, 2) := by decide +kernel
theorem dX0_isAbove_129 : decode cX0_isAbove 129 = .ok (.lload 21, 2) := by decide +kernel
theorem dX0_isAbove_131 : decode cX0_isAbove 131 = .ok (.lstore 14, 2) := by decide +kernel
theorem dX0_isAbove_133 : decode cX0_isAbove 133 = .ok (.iinc 16 1, 3) := by decide +kernel
theorem dX0_isAbove_136 : decode cX0_isAbove 136 = .ok (.goto (-119), 3) := by decide +kernel
theorem dX0_isAbove_139 : decode cX0_isAbove 139 = .ok (.iconst 0, 1) := by decide +kernel
theorem dX0_isAbove_140 : decode cX0_isAbove 140 = .ok (.ireturn, 1) := by decide +kernel
set_option maxRecDepth 20000 in
theorem ggX1_init_X5_setAll : GoodIn wsX1_init wsX5_setAll := goodIn_r _ [16] (by decide +kernel) (by decide +kernel)
set_option maxRecDepth 20000 in
theorem gX1_init_X5_setAll_n37 : GoodIn wsX1_init (wsX5_setAll) := ggX1_init_X5_setAll
theorem dX1_init_0 : decode cX1_init 0 = .ok (.aload_n 0, 1) := by decide +kernel
theorem dX1_init_1 : decode cX1_init 1 = .ok (.invokespecial 5, 3) := by decide +kernel
theorem dX1_init_4 : decode cX1_init 4 = .ok (.aload_n 0, 1) := by decide +kernel
theorem dX1_init_5 : decode cX1_init 5 = .ok (.bipush 36, 2) := by decide +kernel
theorem dX1_init_7 : decode cX1_init 7 = .ok (.newarray .int, 2) := by decide +kernel
theorem dX1_init_9 : decode cX1_init 9 = .ok (.putfield 11, 3) := by decide +kernel
theorem dX1_init_12 : decode cX1_init 12 = .ok (.aload_n 0, 1) := by decide +kernel
theorem dX1_init_13 : decode cX1_init 13 = .ok (.bipush 36, 2) := by decide +kernel
theorem dX1_init_15 : decode cX1_init 15 = .ok (.newarray .int, 2) := by decide +kernel
theorem dX1_init_17 : decode cX1_init 17 = .ok (.putfield 15, 3) := by decide +kernel
theorem dX1_init_20 : decode cX1_init 20 = .ok (.aload_n 0, 1) := by decide +kernel
theorem dX1_init_21 : decode cX1_init 21 = .ok (.bipush 20, 2) := by decide +kernel
theorem dX1_init_23 : decode cX1_init 23 = .ok (.newarray .int, 2) := by decide +kernel
theorem dX1_init_25 : decode cX1_init 25 = .ok (.putfield 18, 3) := by decide +kernel
theorem dX1_init_28 : decode cX1_init 28 = .ok (.aload_n 0, 1) := by decide +kernel
theorem dX1_init_29 : decode cX1_init 29 = .ok (.iconst 4, 1) := by decide +kernel
theorem dX1_init_30 : decode cX1_init 30 = .ok (.newarray .int, 2) := by decide +kernel
theorem dX1_init_32 : decode cX1_init 32 = .ok (.putfield 21, 3) := by decide +kernel
theorem dX1_init_35 : decode cX1_init 35 = .ok (.aload_n 0, 1) := by decide +kernel
theorem dX1_init_36 : decode cX1_init 36 = .ok (.iconst 4, 1) := by decide +kernel
theorem dX1_init_37 : decode cX1_init 37 = .ok (.newarray .long, 2) := by decide +kernel
theorem dX1_init_39 : decode cX1_init 39 = .ok (.putfield 24, 3) := by decide +kernel
theorem dX1_init_42 : decode cX1_init 42 = .ok (.aload_n 0, 1) := by decide +kernel
theorem dX1_init_43 : decode cX1_init 43 = .ok (.iconst 4, 1) := by decide +kernel
theorem dX1_init_44 : decode cX1_init 44 = .ok (.newarray .long, 2) := by decide +kernel
theorem dX1_init_46 : decode cX1_init 46 = .ok (.putfield 28, 3) := by decide +kernel
theorem dX1_init_49 : decode cX1_init 49 = .ok (.aload_n 0, 1) := by decide +kernel
theorem dX1_init_50 : decode cX1_init 50 = .ok (.bipush 20, 2) := by decide +kernel
theorem dX1_init_52 : decode cX1_init 52 = .ok (.newarray .long, 2) := by decide +kernel
theorem dX1_init_54 : decode cX1_init 54 = .ok (.putfield 31, 3) := by decide +kernel
theorem dX1_init_57 : decode cX1_init 57 = .ok (.aload_n 0, 1) := by decide +kernel
theorem dX1_init_58 : decode cX1_init 58 = .ok (.iconst 5, 1) := by decide +kernel
theorem dX1_init_59 : decode cX1_init 59 = .ok (.newarray .int, 2) := by decide +kernel
theorem dX1_init_61 : decode cX1_init 61 = .ok (.putfield 34, 3) := by decide +kernel
theorem dX1_init_64 : decode cX1_init 64 = .ok (.aload_n 0, 1) := by decide +kernel
theorem dX1_init_65 : decode cX1_init 65 = .ok (.getfield 11, 3) := by decide +kernel
theorem dX1_init_68 : decode cX1_init 68 = .ok (.iconst 1, 1) := by decide +kernel
theorem dX1_init_69 : decode cX1_init 69 = .ok (.invokestatic 37, 3) := by decide +kernel
theorem dX1_init_72 : decode cX1_init 72 = .ok (.return_, 1) := by decide +kernel
theorem dX1_isRow_0 : decode cX1_isRow 0 = .ok (.iload_n 0, 1) := by decide +kernel
theorem dX1_isRow_1 : decode cX1_isRow 1 = .ok (.ifCond .lt 12, 3) := by decide +kernel
theorem dX1_isRow_4 : decode cX1_isRow 4 = .ok (.iload_n 0, 1) := by decide +kernel
theorem dX1_isRow_5 : decode cX1_isRow 5 = .ok (.iconst 4, 1) := by decide +kernel
theorem dX1_isRow_6 : decode cX1_isRow 6 = .ok (.if_icmp .ge 7, 3) := by decide +kernel
theorem dX1_isRow_9 : decode cX1_isRow 9 = .ok (.iconst 1, 1) := by decide +kernel
theorem dX1_isRow_10 : decode cX1_isRow 10 = .ok (.goto 4, 3) := by decide +kernel
theorem dX1_isRow_13 : decode cX1_isRow 13 = .ok (.iconst 0, 1) := by decide +kernel
theorem dX1_isRow_14 : decode cX1_isRow 14 = .ok (.ireturn, 1) := by decide +kernel
theorem dX1_isSign_0 : decode cX1_isSign 0 = .ok (.iload_n 0, 1) := by decide +kernel
theorem dX1_isSign_1 : decode cX1_isSign 1 = .ok (.ifCond .lt 12, 3) := by decide +kernel
theorem dX1_isSign_4 : decode cX1_isSign 4 = .ok (.iload_n 0, 1) := by decide +kernel
theorem dX1_isSign_5 : decode cX1_isSign 5 = .ok (.iconst 4, 1) := by decide +kernel
theorem dX1_isSign_6 : decode cX1_isSign 6 = .ok (.if_icmp .ge 7, 3) := by decide +kernel
theorem dX1_isSign_9 : decode cX1_isSign 9 = .ok (.iconst 1, 1) := by decide +kernel
theorem dX1_isSign_10 : decode cX1_isSign 10 = .ok (.goto 4, 3) := by decide +kernel
theorem dX1_isSign_13 : decode cX1_isSign 13 = .ok (.iconst 0, 1) := by decide +kernel
theorem dX1_isSign_14 : decode cX1_isSign 14 = .ok (.ireturn, 1) := by decide +kernel
theorem dX1_isState_0 : decode cX1_isState 0 = .ok (.iload_n 0, 1) := by decide +kernel
theorem dX1_isState_1 : decode cX1_isState 1 = .ok (.ifCond .lt 12, 3) := by decide +kernel
theorem dX1_isState_4 : decode cX1_isState 4 = .ok (.iload_n 0, 1) := by decide +kernel
theorem dX1_isState_5 : decode cX1_isState 5 = .ok (.iconst 4, 1) := by decide +kernel
theorem dX1_isState_6 : decode cX1_isState 6 = .ok (.if_icmp .ge 7, 3) := by decide +kernel
theorem dX1_isState_9 : decode cX1_isState 9 = .ok (.iconst 1, 1) := by decide +kernel
theorem dX1_isState_10 : decode cX1_isState 10 = .ok (.goto 4, 3) := by decide +kernel
theorem dX1_isState_13 : decode cX1_isState 13 = .ok (.iconst 0, 1) := by decide +kernel
theorem dX1_isState_14 : decode cX1_isState 14 = .ok (.ireturn, 1) := by decide +kernel
set_option maxRecDepth 20000 in
theorem ggX1_placeOf_X1_isState : GoodIn wsX1_placeOf wsX1_isState := goodIn_r _ [4] (by decide +kernel) (by decide +kernel)
set_option maxRecDepth 20000 in
theorem gX1_placeOf_X1_isState : GoodIn wsX1_placeOf (va_wsS RX1 41 yX1_isState wsX1_isState) := goodIn_app (goodIn_of _ (by decide +kernel)) ggX1_placeOf_X1_isState
set_option maxRecDepth 20000 in
theorem ggX1_placeOf_X1_moveAt : GoodIn wsX1_placeOf wsX1_moveAt := goodIn_r _ [7] (by decide +kernel) (by decide +kernel)
set_option maxRecDepth 20000 in
theorem gX1_placeOf_X1_moveAt : GoodIn wsX1_placeOf (va_wsS RX1 45 yX1_moveAt wsX1_moveAt) := goodIn_app (goodIn_of _ (by decide +kernel)) ggX1_placeOf_X1_moveAt
set_option maxRecDepth 20000 in
theorem ggX1_placeOf_X1_isSign : GoodIn wsX1_placeOf wsX1_isSign := goodIn_r _ [10] (by decide +kernel) (by decide +kernel)
set_option maxRecDepth 20000 in
theorem gX1_placeOf_X1_isSign : GoodIn wsX1_placeOf (va_wsS RX1 49 yX1_isSign wsX1_isSign) := goodIn_app (goodIn_of _ (by decide +kernel)) ggX1_placeOf_X1_isSign
set_option maxRecDepth 20000 in
theorem ggX1_placeOf_X1_showAt : GoodIn wsX1_placeOf wsX1_showAt := goodIn_r _ [13] (by decide +kernel) (by decide +kernel)
set_option maxRecDepth 20000 in
theorem gX1_placeOf_X1_showAt : GoodIn wsX1_placeOf (va_wsS RX1 52 yX1_showAt wsX1_showAt) := goodIn_app (goodIn_of _ (by decide +kernel)) ggX1_placeOf_X1_showAt
theorem dX1_placeOf_0 : decode cX1_placeOf 0 = .ok (.iload_n 1, 1) := by decide +kernel
theorem dX1_placeOf_1 : decode cX1_placeOf 1 = .ok (.invokestatic 41, 3) := by decide +kernel
theorem dX1_placeOf_4 : decode cX1_placeOf 4 = .ok (.ifCond .ne 5, 3) := by decide +kernel
theorem dX1_placeOf_7 : decode cX1_placeOf 7 = .ok (.iconst (-1), 1) := by decide +kernel
theorem dX1_placeOf_8 : decode cX1_placeOf 8 = .ok (.ireturn, 1) := by decide +kernel
theorem dX1_placeOf_9 : decode cX1_placeOf 9 = .ok (.iload_n 0, 1) := by decide +kernel
theorem dX1_placeOf_10 : decode cX1_placeOf 10 = .ok (.ifCond .ne 5, 3) := by decide +kernel
theorem dX1_placeOf_13 : decode cX1_placeOf 13 = .ok (.iload_n 1, 1) := by decide +kernel
theorem dX1_placeOf_14 : decode cX1_placeOf 14 = .ok (.ireturn, 1) := by decide +kernel
theorem dX1_placeOf_15 : decode cX1_placeOf 15 = .ok (.iload_n 0, 1) := by decide +kernel
theorem dX1_placeOf_16 : decode cX1_placeOf 16 = .ok (.iconst 1, 1) := by decide +kernel
theorem dX1_placeOf_17 : decode cX1_placeOf 17 = .ok (.if_icmp .ne 16, 3) := by decide +kernel
theorem dX1_placeOf_20 : decode cX1_placeOf 20 = .ok (.iload_n 2, 1) := by decide +kernel
theorem dX1_placeOf_21 : decode cX1_placeOf 21 = .ok (.invokestatic 41, 3) := by decide +kernel
theorem dX1_placeOf_24 : decode cX1_placeOf 24 = .ok (.ifCond .eq 9, 3) := by decide +kernel
theorem dX1_placeOf_27 : decode cX1_placeOf 27 = .ok (.iload_n 1, 1) := by decide +kernel
theorem dX1_placeOf_28 : decode cX1_placeOf 28 = .ok (.iload_n 2, 1) := by decide +kernel
theorem dX1_placeOf_29 : decode cX1_placeOf 29 = .ok (.invokestatic 45, 3) := by decide +kernel
theorem dX1_placeOf_32 : decode cX1_placeOf 32 = .ok (.ireturn, 1) := by decide +kernel
theorem dX1_placeOf_33 : decode cX1_placeOf 33 = .ok (.iload_n 0, 1) := by decide +kernel
theorem dX1_placeOf_34 : decode cX1_placeOf 34 = .ok (.iconst 2, 1) := by decide +kernel
theorem dX1_placeOf_35 : decode cX1_placeOf 35 = .ok (.if_icmp .ne 18, 3) := by decide +kernel
theorem dX1_placeOf_38 : decode cX1_placeOf 38 = .ok (.iload_n 2, 1) := by decide +kernel
theorem dX1_placeOf_39 : decode cX1_placeOf 39 = .ok (.invokestatic 49, 3) := by decide +kernel
theorem dX1_placeOf_42 : decode cX1_placeOf 42 = .ok (.ifCond .eq 11, 3) := by decide +kernel
theorem dX1_placeOf_45 : decode cX1_placeOf 45 = .ok (.iload_n 1, 1) := by decide +kernel
theorem dX1_placeOf_46 : decode cX1_placeOf 46 = .ok (.iload_n 2, 1) := by decide +kernel
theorem dX1_placeOf_47 : decode cX1_placeOf 47 = .ok (.invokestatic 52, 3) := by decide +kernel
theorem dX1_placeOf_50 : decode cX1_placeOf 50 = .ok (.goto 4, 3) := by decide +kernel
theorem dX1_placeOf_53 : decode cX1_placeOf 53 = .ok (.iconst (-1), 1) := by decide +kernel
theorem dX1_placeOf_54 : decode cX1_placeOf 54 = .ok (.ireturn, 1) := by decide +kernel
theorem dX1_moveAt_0 : decode cX1_moveAt 0 = .ok (.iconst 4, 1) := by decide +kernel
theorem dX1_moveAt_1 : decode cX1_moveAt 1 = .ok (.iload_n 0, 1) := by decide +kernel
theorem dX1_moveAt_2 : decode cX1_moveAt 2 = .ok (.iconst 4, 1) := by decide +kernel
theorem dX1_moveAt_3 : decode cX1_moveAt 3 = .ok (.imul, 1) := by decide +kernel
theorem dX1_moveAt_4 : decode cX1_moveAt 4 = .ok (.iadd, 1) := by decide +kernel
theorem dX1_moveAt_5 : decode cX1_moveAt 5 = .ok (.iload_n 1, 1) := by decide +kernel
theorem dX1_moveAt_6 : decode cX1_moveAt 6 = .ok (.iadd, 1) := by decide +kernel
theorem dX1_moveAt_7 : decode cX1_moveAt 7 = .ok (.ireturn, 1) := by decide +kernel
theorem dX1_showAt_0 : decode cX1_showAt 0 = .ok (.bipush 20, 2) := by decide +kernel
theorem dX1_showAt_2 : decode cX1_showAt 2 = .ok (.iload_n 0, 1) := by decide +kernel
theorem dX1_showAt_3 : decode cX1_showAt 3 = .ok (.iconst 4, 1) := by decide +kernel
theorem dX1_showAt_4 : decode cX1_showAt 4 = .ok (.imul, 1) := by decide +kernel
theorem dX1_showAt_5 : decode cX1_showAt 5 = .ok (.iadd, 1) := by decide +kernel
theorem dX1_showAt_6 : decode cX1_showAt 6 = .ok (.iload_n 1, 1) := by decide +kernel
theorem dX1_showAt_7 : decode cX1_showAt 7 = .ok (.iadd, 1) := by decide +kernel
theorem dX1_showAt_8 : decode cX1_showAt 8 = .ok (.ireturn, 1) := by decide +kernel
theorem dX1_reweigh_0 : decode cX1_reweigh 0 = .ok (.aload_n 0, 1) := by decide +kernel
theorem dX1_reweigh_1 : decode cX1_reweigh 1 = .ok (.getfield 11, 3) := by decide +kernel
theorem dX1_reweigh_4 : decode cX1_reweigh 4 = .ok (.iload_n 1, 1) := by decide +kernel
theorem dX1_reweigh_5 : decode cX1_reweigh 5 = .ok (.iaload, 1) := by decide +kernel
theorem dX1_reweigh_6 : decode cX1_reweigh 6 = .ok (.istore_n 3, 1) := by decide +kernel
theorem dX1_reweigh_7 : decode cX1_reweigh 7 = .ok (.iload_n 2, 1) := by decide +kernel
theorem dX1_reweigh_8 : decode cX1_reweigh 8 = .ok (.iconst (-1), 1) := by decide +kernel
theorem dX1_reweigh_9 : decode cX1_reweigh 9 = .ok (.if_icmp .eq 10, 3) := by decide +kernel
theorem dX1_reweigh_12 : decode cX1_reweigh 12 = .ok (.aload_n 0, 1) := by decide +kernel
theorem dX1_reweigh_13 : decode cX1_reweigh 13 = .ok (.getfield 11, 3) := by decide +kernel
theorem dX1_reweigh_16 : decode cX1_reweigh 16 = .ok (.iload_n 1, 1) := by decide +kernel
theorem dX1_reweigh_17 : decode cX1_reweigh 17 = .ok (.iload_n 2, 1) := by decide +kernel
theorem dX1_reweigh_18 : decode cX1_reweigh 18 = .ok (.iastore, 1) := by decide +kernel
theorem dX1_reweigh_19 : decode cX1_reweigh 19 = .ok (.iload_n 3, 1) := by decide +kernel
theorem dX1_reweigh_20 : decode cX1_reweigh 20 = .ok (.ireturn, 1) := by decide +kernel
theorem dX1_isFullRow_0 : decode cX1_isFullRow 0 = .ok (.aload_n 0, 1) := by decide +kernel
theorem dX1_isFullRow_1 : decode cX1_isFullRow 1 = .ok (.getfield 21, 3) := by decide +kernel
theorem dX1_isFullRow_4 : decode cX1_isFullRow 4 = .ok (.iload_n 1, 1) := by decide +kernel
theorem dX1_isFullRow_5 : decode cX1_isFullRow 5 = .ok (.iaload, 1) := by decide +kernel
theorem dX1_isFullRow_6 : decode cX1_isFullRow 6 = .ok (.iconst 5, 1) := by decide +kernel
theorem dX1_isFullRow_7 : decode cX1_isFullRow 7 = .ok (.if_icmp .lt 7, 3) := by decide +kernel
theorem dX1_isFullRow_10 : decode cX1_isFullRow 10 = .ok (.iconst 1, 1) := by decide +kernel
theorem dX1_isFullRow_11 : decode cX1_isFullRow 11 = .ok (.goto 4, 3) := by decide +kernel
theorem dX1_isFullRow_14 : decode cX1_isFullRow 14 = .ok (.iconst 0, 1) := by decide +kernel
theorem dX1_isFullRow_15 : decode cX1_isFullRow 15 = .ok (.ireturn, 1) := by decide +kernel
theorem dX1_hasPlace_0 : decode cX1_hasPlace 0 = .ok (.iload_n 2, 1) := by decide +kernel
theorem dX1_hasPlace_1 : decode cX1_hasPlace 1 = .ok (.ifCond .lt 17, 3) := by decide +kernel
theorem dX1_hasPlace_4 : decode cX1_hasPlace 4 = .ok (.iload_n 2, 1) := by decide +kernel
theorem dX1_hasPlace_5 : decode cX1_hasPlace 5 = .ok (.aload_n 0, 1) := by decide +kernel
theorem dX1_hasPlace_6 : decode cX1_hasPlace 6 = .ok (.getfield 21, 3) := by decide +kernel
theorem dX1_hasPlace_9 : decode cX1_hasPlace 9 = .ok (.iload_n 1, 1) := by decide +kernel
theorem dX1_hasPlace_10 : decode cX1_hasPlace 10 = .ok (.iaload, 1) := by decide +kernel
theorem dX1_hasPlace_11 : decode cX1_hasPlace 11 = .ok (.if_icmp .ge 7, 3) := by decide +kernel
theorem dX1_hasPlace_14 : decode cX1_hasPlace 14 = .ok (.iconst 1, 1) := by decide +kernel
theorem dX1_hasPlace_15 : decode cX1_hasPlace 15 = .ok (.goto 4, 3) := by decide +kernel
theorem dX1_hasPlace_18 : decode cX1_hasPlace 18 = .ok (.iconst 0, 1) := by decide +kernel
theorem dX1_hasPlace_19 : decode cX1_hasPlace 19 = .ok (.ireturn, 1) := by decide +kernel
theorem dX1_append_0 : decode cX1_append 0 = .ok (.aload_n 0, 1) := by decide +kernel
theorem dX1_append_1 : decode cX1_append 1 = .ok (.getfield 18, 3) := by decide +kernel
theorem dX1_append_4 : decode cX1_append 4 = .ok (.iload_n 1, 1) := by decide +kernel
theorem dX1_append_5 : decode cX1_append 5 = .ok (.iconst 5, 1) := by decide +kernel
theorem dX1_append_6 : decode cX1_append 6 = .ok (.imul, 1) := by decide +kernel
theorem dX1_append_7 : decode cX1_append 7 = .ok (.aload_n 0, 1) := by decide +kernel
theorem dX1_append_8 : decode cX1_append 8 = .ok (.getfield 21, 3) := by decide +kernel
theorem dX1_append_11 : decode cX1_append 11 = .ok (.iload_n 1, 1) := by decide +kernel
theorem dX1_append_12 : decode cX1_append 12 = .ok (.iaload, 1) := by decide +kernel
theorem dX1_append_13 : decode cX1_append 13 = .ok (.iadd, 1) := by decide +kernel
theorem dX1_append_14 : decode cX1_append 14 = .ok (.iload_n 2, 1) := by decide +kernel
theorem dX1_append_15 : decode cX1_append 15 = .ok (.iastore, 1) := by decide +kernel
theorem dX1_append_16 : decode cX1_append 16 = .ok (.aload_n 0, 1) := by decide +kernel
theorem dX1_append_17 : decode cX1_append 17 = .ok (.getfield 21, 3) := by decide +kernel
theorem dX1_append_20 : decode cX1_append 20 = .ok (.iload_n 1, 1) := by decide +kernel
theorem dX1_append_21 : decode cX1_append 21 = .ok (.dup2, 1) := by decide +kernel
theorem dX1_append_22 : decode cX1_append 22 = .ok (.iaload, 1) := by decide +kernel
theorem dX1_append_23 : decode cX1_append 23 = .ok (.iconst 1, 1) := by decide +kernel
theorem dX1_append_24 : decode cX1_append 24 = .ok (.iadd, 1) := by decide +kernel
theorem dX1_append_25 : decode cX1_append 25 = .ok (.iastore, 1) := by decide +kernel
theorem dX1_append_26 : decode cX1_append 26 = .ok (.aload_n 0, 1) := by decide +kernel
theorem dX1_append_27 : decode cX1_append 27 = .ok (.getfield 21, 3) := by decide +kernel
theorem dX1_append_30 : decode cX1_append 30 = .ok (.iload_n 1, 1) := by decide +kernel
theorem dX1_append_31 : decode cX1_append 31 = .ok (.iaload, 1) := by decide +kernel
theorem dX1_append_32 : decode cX1_append 32 = .ok (.ireturn, 1) := by decide +kernel
theorem dX1_signsOfAll_0 : decode cX1_signsOfAll 0 = .ok (.iconst 0, 1) := by decide +kernel
theorem dX1_signsOfAll_1 : decode cX1_signsOfAll 1 = .ok (.istore_n 1, 1) := by decide +kernel
theorem dX1_signsOfAll_2 : decode cX1_signsOfAll 2 = .ok (.iconst 0, 1) := by decide +kernel
theorem dX1_signsOfAll_3 : decode cX1_signsOfAll 3 = .ok (.istore_n 2, 1) := by decide +kernel
theorem dX1_signsOfAll_4 : decode cX1_signsOfAll 4 = .ok (.iload_n 2, 1) := by decide +kernel
theorem dX1_signsOfAll_5 : decode cX1_signsOfAll 5 = .ok (.iconst 4, 1) := by decide +kernel
theorem dX1_signsOfAll_6 : decode cX1_signsOfAll 6 = .ok (.if_icmp .ge 18, 3) := by decide +kernel
theorem dX1_signsOfAll_9 : decode cX1_signsOfAll 9 = .ok (.iload_n 1, 1) := by decide +kernel
theorem dX1_signsOfAll_10 : decode cX1_signsOfAll 10 = .ok (.aload_n 0, 1) := by decide +kernel
theorem dX1_signsOfAll_11 : decode cX1_signsOfAll 11 = .ok (.getfield 21, 3) := by decide +kernel
theorem dX1_signsOfAll_14 : decode cX1_signsOfAll 14 = .ok (.iload_n 2, 1) := by decide +kernel
theorem dX1_signsOfAll_15 : decode cX1_signsOfAll 15 = .ok (.iaload, 1) := by decide +kernel
theorem dX1_signsOfAll_16 : decode cX1_signsOfAll 16 = .ok (.iadd, 1) := by decide +kernel
theorem dX1_signsOfAll_17 : decode cX1_signsOfAll 17 = .ok (.istore_n 1, 1) := by decide +kernel
theorem dX1_signsOfAll_18 : decode cX1_signsOfAll 18 = .ok (.iinc 2 1, 3) := by decide +kernel
theorem dX1_signsOfAll_21 : decode cX1_signsOfAll 21 = .ok (.goto (-17), 3) := by decide +kernel
theorem dX1_signsOfAll_24 : decode cX1_signsOfAll 24 = .ok (.iload_n 1, 1) := by decide +kernel
theorem dX1_signsOfAll_25 : decode cX1_signsOfAll 25 = .ok (.ireturn, 1) := by decide +kernel
set_option maxRecDepth 20000 in
theorem ggX1_totalOf_X1_totalThrough : GoodIn wsX1_totalOf wsX1_totalThrough := goodIn_r _ [5, 6, 7, 8, 9, 10, 11, 12, 4, 13, 14, 15, 16, 17, 18, 19, 20, 21, 22, 23, 24, 25, 26, 27, 28, 29, 30, 31, 32] (by decide +kernel) (by decide +kernel)
set_option maxRecDepth 20000 in
theorem gX1_totalOf_X1_totalThrough : GoodIn wsX1_totalOf (wsV RX1 55 RX1 yX1_totalThrough wsX1_totalThrough) := goodIn_app (goodIn_of _ (by decide +kernel)) ggX1_totalOf_X1_totalThrough
theorem dX1_totalOf_0 : decode cX1_totalOf 0 = .ok (.aload_n 0, 1) := by decide +kernel
theorem dX1_totalOf_1 : decode cX1_totalOf 1 = .ok (.iload_n 1, 1) := by decide +kernel
theorem dX1_totalOf_2 : decode cX1_totalOf 2 = .ok (.iconst (-1), 1) := by decide +kernel
theorem dX1_totalOf_3 : decode cX1_totalOf 3 = .ok (.iconst (-1), 1) := by decide +kernel
theorem dX1_totalOf_4 : decode cX1_totalOf 4 = .ok (.invokevirtual 55, 3) := by decide +kernel
theorem dX1_totalOf_7 : decode cX1_totalOf 7 = .ok (.lreturn, 1) := by decide +kernel
set_option maxRecDepth 20000 in
theorem ggX1_totalThrough_X1_shown : GoodIn wsX1_totalThrough wsX1_shown := goodIn_r _ [9, 3, 10, 11, 12, 8, 13, 21, 22, 23, 24, 25, 26, 27, 28] (by decide +kernel) (by decide +kernel)
set_option maxRecDepth 20000 in
theorem gX1_totalThrough_X1_shown : GoodIn wsX1_totalThrough (wsV RX1 59 RX1 yX1_shown wsX1_shown) := goodIn_app (goodIn_of _ (by decide +kernel)) ggX1_totalThrough_X1_shown
set_option maxRecDepth 20000 in
theorem ggX1_totalThrough_X1_sumInto : GoodIn wsX1_totalThrough wsX1_sumInto := goodIn_r _ [17, 2, 3, 18, 19, 8, 20, 21, 22, 23, 24, 25, 26, 27, 28] (by decide +kernel) (by decide +kernel)
set_option maxRecDepth 20000 in
theorem gX1_totalThrough_X1_sumInto : GoodIn wsX1_totalThrough (wsV RX1 63 RX1 yX1_sumInto wsX1_sumInto) := goodIn_app (goodIn_of _ (by decide +kernel)) ggX1_totalThrough_X1_sumInto
theorem dX1_totalThrough_0 : decode cX1_totalThrough 0 = .ok (.aload_n 0, 1) := by decide +kernel
theorem dX1_totalThrough_1 : decode cX1_totalThrough 1 = .ok (.getfield 21, 3) := by decide +kernel
theorem dX1_totalThrough_4 : decode cX1_totalThrough 4 = .ok (.iload_n 1, 1) := by decide +kernel
theorem dX1_totalThrough_5 : decode cX1_totalThrough 5 = .ok (.iaload, 1) := by decide +kernel
theorem dX1_totalThrough_6 : decode cX1_totalThrough 6 = .ok (.ifCond .ne 5, 3) := by decide +kernel
theorem dX1_totalThrough_9 : decode cX1_totalThrough 9 = .ok (.lconst 0, 1) := by decide +kernel
theorem dX1_totalThrough_10 : decode cX1_totalThrough 10 = .ok (.lreturn, 1) := by decide +kernel
theorem dX1_totalThrough_11 : decode cX1_totalThrough 11 = .ok (.iconst 0, 1) := by decide +kernel
theorem dX1_totalThrough_12 : decode cX1_totalThrough 12 = .ok (.istore 4, 2) := by decide +kernel
theorem dX1_totalThrough_14 : decode cX1_totalThrough 14 = .ok (.iload 4, 2) := by decide +kernel
theorem dX1_totalThrough_16 : decode cX1_totalThrough 16 = .ok (.iconst 4, 1) := by decide +kernel
theorem dX1_totalThrough_17 : decode cX1_totalThrough 17 = .ok (.if_icmp .ge 48, 3) := by decide +kernel
theorem dX1_totalThrough_20 : decode cX1_totalThrough 20 = .ok (.aload_n 0, 1) := by decide +kernel
theorem dX1_totalThrough_21 : decode cX1_totalThrough 21 = .ok (.getfield 24, 3) := by decide +kernel
theorem dX1_totalThrough_24 : decode cX1_totalThrough 24 = .ok (.iload 4, 2) := by decide +kernel
theorem dX1_totalThrough_26 : decode cX1_totalThrough 26 = .ok (.iload_n 2, 1) := by decide +kernel
theorem dX1_totalThrough_27 : decode cX1_totalThrough 27 = .ok (.ifCond .ne 13, 3) := by decide +kernel
theorem dX1_totalThrough_30 : decode cX1_totalThrough 30 = .ok (.iload 4, 2) := by decide +kernel
theorem dX1_totalThrough_32 : decode cX1_totalThrough 32 = .ok (.iload_n 3, 1) := by decide +kernel
theorem dX1_totalThrough_33 : decode cX1_totalThrough 33 = .ok (.if_icmp .eq 7, 3) := by decide +kernel
theorem dX1_totalThrough_36 : decode cX1_totalThrough 36 = .ok (.lconst 0, 1) := by decide +kernel
theorem dX1_totalThrough_37 : decode cX1_totalThrough 37 = .ok (.goto 21, 3) := by decide +kernel
theorem dX1_totalThrough_40 : decode cX1_totalThrough 40 = .ok (.aload_n 0, 1) := by decide +kernel
theorem dX1_totalThrough_41 : decode cX1_totalThrough 41 = .ok (.getfield 11, 3) := by decide +kernel
theorem dX1_totalThrough_44 : decode cX1_totalThrough 44 = .ok (.iload 4, 2) := by decide +kernel
theorem dX1_totalThrough_46 : decode cX1_totalThrough 46 = .ok (.iaload, 1) := by decide +kernel
theorem dX1_totalThrough_47 : decode cX1_totalThrough 47 = .ok (.i2l, 1) := by decide +kernel
theorem dX1_totalThrough_48 : decode cX1_totalThrough 48 = .ok (.aload_n 0, 1) := by decide +kernel
theorem dX1_totalThrough_49 : decode cX1_totalThrough 49 = .ok (.iload_n 1, 1) := by decide +kernel
theorem dX1_totalThrough_50 : decode cX1_totalThrough 50 = .ok (.iconst 0, 1) := by decide +kernel
theorem dX1_totalThrough_51 : decode cX1_totalThrough 51 = .ok (.iload 4, 2) := by decide +kernel
theorem dX1_totalThrough_53 : decode cX1_totalThrough 53 = .ok (.invokevirtual 59, 3) := by decide +kernel
theorem dX1_totalThrough_56 : decode cX1_totalThrough 56 = .ok (.i2l, 1) := by decide +kernel
theorem dX1_totalThrough_57 : decode cX1_totalThrough 57 = .ok (.lmul, 1) := by decide +kernel
theorem dX1_totalThrough_58 : decode cX1_totalThrough 58 = .ok (.lastore, 1) := by decide +kernel
theorem dX1_totalThrough_59 : decode cX1_totalThrough 59 = .ok (.iinc 4 1, 3) := by decide +kernel
theorem dX1_totalThrough_62 : decode cX1_totalThrough 62 = .ok (.goto (-48), 3) := by decide +kernel
theorem dX1_totalThrough_65 : decode cX1_totalThrough 65 = .ok (.iconst 1, 1) := by decide +kernel
theorem dX1_totalThrough_66 : decode cX1_totalThrough 66 = .ok (.istore 4, 2) := by decide +kernel
theorem dX1_totalThrough_68 : decode cX1_totalThrough 68 = .ok (.iload 4, 2) := by decide +kernel
theorem dX1_totalThrough_70 : decode cX1_totalThrough 70 = .ok (.aload_n 0, 1) := by decide +kernel
theorem dX1_totalThrough_71 : decode cX1_totalThrough 71 = .ok (.getfield 21, 3) := by decide +kernel
theorem dX1_totalThrough_74 : decode cX1_totalThrough 74 = .ok (.iload_n 1, 1) := by decide +kernel
theorem dX1_totalThrough_75 : decode cX1_totalThrough 75 = .ok (.iaload, 1) := by decide +kernel
theorem dX1_totalThrough_76 : decode cX1_totalThrough 76 = .ok (.if_icmp .ge 93, 3) := by decide +kernel
theorem dX1_totalThrough_79 : decode cX1_totalThrough 79 = .ok (.iconst 0, 1) := by decide +kernel
theorem dX1_totalThrough_80 : decode cX1_totalThrough 80 = .ok (.istore 5, 2) := by decide +kernel
theorem dX1_totalThrough_82 : decode cX1_totalThrough 82 = .ok (.iload 5, 2) := by decide +kernel
theorem dX1_totalThrough_84 : decode cX1_totalThrough 84 = .ok (.iconst 4, 1) := by decide +kernel
theorem dX1_totalThrough_85 : decode cX1_totalThrough 85 = .ok (.if_icmp .ge 49, 3) := by decide +kernel
theorem dX1_totalThrough_88 : decode cX1_totalThrough 88 = .ok (.aload_n 0, 1) := by decide +kernel
theorem dX1_totalThrough_89 : decode cX1_totalThrough 89 = .ok (.getfield 28, 3) := by decide +kernel
theorem dX1_totalThrough_92 : decode cX1_totalThrough 92 = .ok (.iload 5, 2) := by decide +kernel
theorem dX1_totalThrough_94 : decode cX1_totalThrough 94 = .ok (.iload_n 2, 1) := by decide +kernel
theorem dX1_totalThrough_95 : decode cX1_totalThrough 95 = .ok (.iload 4, 2) := by decide +kernel
theorem dX1_totalThrough_97 : decode cX1_totalThrough 97 = .ok (.if_icmp .ne 13, 3) := by decide +kernel
theorem dX1_totalThrough_100 : decode cX1_totalThrough 100 = .ok (.iload 5, 2) := by decide +kernel
theorem dX1_totalThrough_102 : decode cX1_totalThrough 102 = .ok (.iload_n 3, 1) := by decide +kernel
theorem dX1_totalThrough_103 : decode cX1_totalThrough 103 = .ok (.if_icmp .eq 7, 3) := by decide +kernel
theorem dX1_totalThrough_106 : decode cX1_totalThrough 106 = .ok (.lconst 0, 1) := by decide +kernel
theorem dX1_totalThrough_107 : decode cX1_totalThrough 107 = .ok (.goto 20, 3) := by decide +kernel
theorem dX1_totalThrough_110 : decode cX1_totalThrough 110 = .ok (.aload_n 0, 1) := by decide +kernel
theorem dX1_totalThrough_111 : decode cX1_totalThrough 111 = .ok (.iload 5, 2) := by decide +kernel
theorem dX1_totalThrough_113 : decode cX1_totalThrough 113 = .ok (.invokevirtual 63, 3) := by decide +kernel
theorem dX1_totalThrough_116 : decode cX1_totalThrough 116 = .ok (.aload_n 0, 1) := by decide +kernel
theorem dX1_totalThrough_117 : decode cX1_totalThrough 117 = .ok (.iload_n 1, 1) := by decide +kernel
theorem dX1_totalThrough_118 : decode cX1_totalThrough 118 = .ok (.iload 4, 2) := by decide +kernel
theorem dX1_totalThrough_120 : decode cX1_totalThrough 120 = .ok (.iload 5, 2) := by decide +kernel
theorem dX1_totalThrough_122 : decode cX1_totalThrough 122 = .ok (.invokevirtual 59, 3) := by decide +kernel
theorem dX1_totalThrough_125 : decode cX1_totalThrough 125 = .ok (.i2l, 1) := by decide +kernel
theorem dX1_totalThrough_126 : decode cX1_totalThrough 126 = .ok (.lmul, 1) := by decide +kernel
theorem dX1_totalThrough_127 : decode cX1_totalThrough 127 = .ok (.lastore, 1) := by decide +kernel
theorem dX1_totalThrough_128 : decode cX1_totalThrough 128 = .ok (.iinc 5 1, 3) := by decide +kernel
theorem dX1_totalThrough_131 : decode cX1_totalThrough 131 = .ok (.goto (-49), 3) := by decide +kernel
theorem dX1_totalThrough_134 : decode cX1_totalThrough 134 = .ok (.iconst 0, 1) := by decide +kernel
theorem dX1_totalThrough_135 : decode cX1_totalThrough 135 = .ok (.istore 5, 2) := by decide +kernel
theorem dX1_totalThrough_137 : decode cX1_totalThrough 137 = .ok (.iload 5, 2) := by decide +kernel
theorem dX1_totalThrough_139 : decode cX1_totalThrough 139 = .ok (.iconst 4, 1) := by decide +kernel
theorem dX1_totalThrough_140 : decode cX1_totalThrough 140 = .ok (.if_icmp .ge 23, 3) := by decide +kernel
theorem dX1_totalThrough_143 : decode cX1_totalThrough 143 = .ok (.aload_n 0, 1) := by decide +kernel
theorem dX1_totalThrough_144 : decode cX1_totalThrough 144 = .ok (.getfield 24, 3) := by decide +kernel
theorem dX1_totalThrough_147 : decode cX1_totalThrough 147 = .ok (.iload 5, 2) := by decide +kernel
theorem dX1_totalThrough_149 : decode cX1_totalThrough 149 = .ok (.aload_n 0, 1) := by decide +kernel
theorem dX1_totalThrough_150 : decode cX1_totalThrough 150 = .ok (.getfield 28, 3) := by decide +kernel
theorem dX1_totalThrough_153 : decode cX1_totalThrough 153 = .ok (.iload 5, 2) := by decide +kernel
theorem dX1_totalThrough_155 : decode cX1_totalThrough 155 = .ok (.laload, 1) := by decide +kernel
theorem dX1_totalThrough_156 : decode cX1_totalThrough 156 = .ok (.lastore, 1) := by decide +kernel
theorem dX1_totalThrough_157 : decode cX1_totalThrough 157 = .ok (.iinc 5 1, 3) := by decide +kernel
theorem dX1_totalThrough_160 : decode cX1_totalThrough 160 = .ok (.goto (-23), 3) := by decide +kernel
theorem dX1_totalThrough_163 : decode cX1_totalThrough 163 = .ok (.iinc 4 1, 3) := by decide +kernel
theorem dX1_totalThrough_166 : decode cX1_totalThrough 166 = .ok (.goto (-98), 3) := by decide +kernel
theorem dX1_totalThrough_169 : decode cX1_totalThrough 169 = .ok (.lconst 0, 1) := by decide +kernel
theorem dX1_totalThrough_170 : decode cX1_totalThrough 170 = .ok (.lstore 4, 2) := by decide +kernel
theorem dX1_totalThrough_172 : decode cX1_totalThrough 172 = .ok (.iconst 0, 1) := by decide +kernel
theorem dX1_totalThrough_173 : decode cX1_totalThrough 173 = .ok (.istore 6, 2) := by decide +kernel
theorem dX1_totalThrough_175 : decode cX1_totalThrough 175 = .ok (.iload 6, 2) := by decide +kernel
theorem dX1_totalThrough_177 : decode cX1_totalThrough 177 = .ok (.iconst 4, 1) := by decide +kernel
theorem dX1_totalThrough_178 : decode cX1_totalThrough 178 = .ok (.if_icmp .ge 21, 3) := by decide +kernel
theorem dX1_totalThrough_181 : decode cX1_totalThrough 181 = .ok (.lload 4, 2) := by decide +kernel
theorem dX1_totalThrough_183 : decode cX1_totalThrough 183 = .ok (.aload_n 0, 1) := by decide +kernel
theorem dX1_totalThrough_184 : decode cX1_totalThrough 184 = .ok (.getfield 24, 3) := by decide +kernel
theorem dX1_totalThrough_187 : decode cX1_totalThrough 187 = .ok (.iload 6, 2) := by decide +kernel
theorem dX1_totalThrough_189 : decode cX1_totalThrough 189 = .ok (.laload, 1) := by decide +kernel
theorem dX1_totalThrough_190 : decode cX1_totalThrough 190 = .ok (.ladd, 1) := by decide +kernel
theorem dX1_totalThrough_191 : decode cX1_totalThrough 191 = .ok (.lstore 4, 2) := by decide +kernel
theorem dX1_totalThrough_193 : decode cX1_totalThrough 193 = .ok (.iinc 6 1, 3) := by decide +kernel
theorem dX1_totalThrough_196 : decode cX1_totalThrough 196 = .ok (.goto (-21), 3) := by decide +kernel
theorem dX1_totalThrough_199 : decode cX1_totalThrough 199 = .ok (.lload 4, 2) := by decide +kernel
theorem dX1_totalThrough_201 : decode cX1_totalThrough 201 = .ok (.lreturn, 1) := by decide +kernel
set_option maxRecDepth 20000 in
theorem ggX1_sumInto_X1_moveAt : GoodIn wsX1_sumInto wsX1_moveAt := goodIn_r _ [6] (by decide +kernel) (by decide +kernel)
set_option maxRecDepth 20000 in
theorem gX1_sumInto_X1_moveAt : GoodIn wsX1_sumInto (va_wsS RX1 45 yX1_moveAt wsX1_moveAt) := goodIn_app (goodIn_of _ (by decide +kernel)) ggX1_sumInto_X1_moveAt
theorem dX1_sumInto_0 : decode cX1_sumInto 0 = .ok (.lconst 0, 1) := by decide +kernel
theorem dX1_sumInto_1 : decode cX1_sumInto 1 = .ok (.lstore_n 2, 1) := by decide +kernel
theorem dX1_sumInto_2 : decode cX1_sumInto 2 = .ok (.iconst 0, 1) := by decide +kernel
theorem dX1_sumInto_3 : decode cX1_sumInto 3 = .ok (.istore 4, 2) := by decide +kernel
theorem dX1_sumInto_5 : decode cX1_sumInto 5 = .ok (.iload 4, 2) := by decide +kernel
theorem dX1_sumInto_7 : decode cX1_sumInto 7 = .ok (.iconst 4, 1) := by decide +kernel
theorem dX1_sumInto_8 : decode cX1_sumInto 8 = .ok (.if_icmp .ge 32, 3) := by decide +kernel
theorem dX1_sumInto_11 : decode cX1_sumInto 11 = .ok (.lload_n 2, 1) := by decide +kernel
theorem dX1_sumInto_12 : decode cX1_sumInto 12 = .ok (.aload_n 0, 1) := by decide +kernel
theorem dX1_sumInto_13 : decode cX1_sumInto 13 = .ok (.getfield 24, 3) := by decide +kernel
theorem dX1_sumInto_16 : decode cX1_sumInto 16 = .ok (.iload 4, 2) := by decide +kernel
theorem dX1_sumInto_18 : decode cX1_sumInto 18 = .ok (.laload, 1) := by decide +kernel
theorem dX1_sumInto_19 : decode cX1_sumInto 19 = .ok (.aload_n 0, 1) := by decide +kernel
theorem dX1_sumInto_20 : decode cX1_sumInto 20 = .ok (.getfield 11, 3) := by decide +kernel
theorem dX1_sumInto_23 : decode cX1_sumInto 23 = .ok (.iload 4, 2) := by decide +kernel
theorem dX1_sumInto_25 : decode cX1_sumInto 25 = .ok (.iload_n 1, 1) := by decide +kernel
theorem dX1_sumInto_26 : decode cX1_sumInto 26 = .ok (.invokestatic 45, 3) := by decide +kernel
theorem dX1_sumInto_29 : decode cX1_sumInto 29 = .ok (.iaload, 1) := by decide +kernel
theorem dX1_sumInto_30 : decode cX1_sumInto 30 = .ok (.i2l, 1) := by decide +kernel
theorem dX1_sumInto_31 : decode cX1_sumInto 31 = .ok (.lmul, 1) := by decide +kernel
theorem dX1_sumInto_32 : decode cX1_sumInto 32 = .ok (.ladd, 1) := by decide +kernel
theorem dX1_sumInto_33 : decode cX1_sumInto 33 = .ok (.lstore_n 2, 1) := by decide +kernel
theorem dX1_sumInto_34 : decode cX1_sumInto 34 = .ok (.iinc 4 1, 3) := by decide +kernel
theorem dX1_sumInto_37 : decode cX1_sumInto 37 = .ok (.goto (-32), 3) := by decide +kernel
theorem dX1_sumInto_40 : decode cX1_sumInto 40 = .ok (.lload_n 2, 1) := by decide +kernel
theorem dX1_sumInto_41 : decode cX1_sumInto 41 = .ok (.lreturn, 1) := by decide +kernel
set_option maxRecDepth 20000 in
theorem ggX1_shown_X1_showAt : GoodIn wsX1_shown wsX1_showAt := goodIn_r _ [6] (by decide +kernel) (by decide +kernel)
set_option maxRecDepth 20000 in
theorem gX1_shown_X1_showAt : GoodIn wsX1_shown (va_wsS RX1 52 yX1_showAt wsX1_showAt) := goodIn_app (goodIn_of _ (by decide +kernel)) ggX1_shown_X1_showAt
theorem dX1_shown_0 : decode cX1_shown 0 = .ok (.aload_n 0, 1) := by decide +kernel
theorem dX1_shown_1 : decode cX1_shown 1 = .ok (.getfield 11, 3) := by decide +kernel
theorem dX1_shown_4 : decode cX1_shown 4 = .ok (.iload_n 3, 1) := by decide +kernel
theorem dX1_shown_5 : decode cX1_shown 5 = .ok (.aload_n 0, 1) := by decide +kernel
theorem dX1_shown_6 : decode cX1_shown 6 = .ok (.getfield 18, 3) := by decide +kernel
theorem dX1_shown_9 : decode cX1_shown 9 = .ok (.iload_n 1, 1) := by decide +kernel
theorem dX1_shown_10 : decode cX1_shown 10 = .ok (.iconst 5, 1) := by decide +kernel
theorem dX1_shown_11 : decode cX1_shown 11 = .ok (.imul, 1) := by decide +kernel
theorem dX1_shown_12 : decode cX1_shown 12 = .ok (.iload_n 2, 1) := by decide +kernel
theorem dX1_shown_13 : decode cX1_shown 13 = .ok (.iadd, 1) := by decide +kernel
theorem dX1_shown_14 : decode cX1_shown 14 = .ok (.iaload, 1) := by decide +kernel
theorem dX1_shown_15 : decode cX1_shown 15 = .ok (.invokestatic 52, 3) := by decide +kernel
theorem dX1_shown_18 : decode cX1_shown 18 = .ok (.iaload, 1) := by decide +kernel
theorem dX1_shown_19 : decode cX1_shown 19 = .ok (.ireturn, 1) := by decide +kernel
set_option maxRecDepth 20000 in
theorem ggX1_findBestPath_X1_bestOnward : GoodIn wsX1_findBestPath wsX1_bestOnward := goodIn_r _ [9, 10, 11, 12, 8, 13, 4, 2, 14, 15, 16, 29, 30, 31, 32, 33, 34, 35, 36] (by decide +kernel) (by decide +kernel)
set_option maxRecDepth 20000 in
theorem gX1_findBestPath_X1_bestOnward : GoodIn wsX1_findBestPath (wsV RX1 67 RX1 yX1_bestOnward wsX1_bestOnward) := goodIn_app (goodIn_of _ (by decide +kernel)) ggX1_findBestPath_X1_bestOnward
set_option maxRecDepth 20000 in
theorem ggX1_findBestPath_X1_weightOnward : GoodIn wsX1_findBestPath wsX1_weightOnward := goodIn_r _ [13, 4, 2, 14, 15, 8, 16, 29, 30, 31, 32, 33, 34, 35, 36] (by decide +kernel) (by decide +kernel)
set_option maxRecDepth 20000 in
theorem gX1_findBestPath_X1_weightOnward : GoodIn wsX1_findBestPath (wsV RX1 70 RX1 yX1_weightOnward wsX1_weightOnward) := goodIn_app (goodIn_of _ (by decide +kernel)) ggX1_findBestPath_X1_weightOnward
set_option maxRecDepth 20000 in
theorem ggX1_findBestPath_X1_shown : GoodIn wsX1_findBestPath wsX1_shown := goodIn_r _ [20, 4, 21, 22, 23, 8, 24, 29, 30, 31, 32, 33, 34, 35, 36] (by decide +kernel) (by decide +kernel)
set_option maxRecDepth 20000 in
theorem gX1_findBestPath_X1_shown : GoodIn wsX1_findBestPath (wsV RX1 59 RX1 yX1_shown wsX1_shown) := goodIn_app (goodIn_of _ (by decide +kernel)) ggX1_findBestPath_X1_shown
set_option maxRecDepth 20000 in
theorem ggX1_findBestPath_X1_bestStart : GoodIn wsX1_findBestPath wsX1_bestStart := goodIn_r _ [28, 4, 2, 29, 30, 31, 32, 33, 34, 35, 36] (by decide +kernel) (by decide +kernel)
set_option maxRecDepth 20000 in
theorem gX1_findBestPath_X1_bestStart : GoodIn wsX1_findBestPath (wsV RX1 73 RX1 yX1_bestStart wsX1_bestStart) := goodIn_app (goodIn_of _ (by decide +kernel)) ggX1_findBestPath_X1_bestStart
theorem dX1_findBestPath_0 : decode cX1_findBestPath 0 = .ok (.aload_n 0, 1) := by decide +kernel
theorem dX1_findBestPath_1 : decode cX1_findBestPath 1 = .ok (.getfield 21, 3) := by decide +kernel
theorem dX1_findBestPath_4 : decode cX1_findBestPath 4 = .ok (.iload_n 1, 1) := by decide +kernel
theorem dX1_findBestPath_5 : decode cX1_findBestPath 5 = .ok (.iaload, 1) := by decide +kernel
theorem dX1_findBestPath_6 : decode cX1_findBestPath 6 = .ok (.istore_n 2, 1) := by decide +kernel
theorem dX1_findBestPath_7 : decode cX1_findBestPath 7 = .ok (.iload_n 2, 1) := by decide +kernel
theorem dX1_findBestPath_8 : decode cX1_findBestPath 8 = .ok (.ifCond .ne 5, 3) := by decide +kernel
theorem dX1_findBestPath_11 : decode cX1_findBestPath 11 = .ok (.iconst 0, 1) := by decide +kernel
theorem dX1_findBestPath_12 : decode cX1_findBestPath 12 = .ok (.ireturn, 1) := by decide +kernel
theorem dX1_findBestPath_13 : decode cX1_findBestPath 13 = .ok (.iload_n 2, 1) := by decide +kernel
theorem dX1_findBestPath_14 : decode cX1_findBestPath 14 = .ok (.iconst 1, 1) := by decide +kernel
theorem dX1_findBestPath_15 : decode cX1_findBestPath 15 = .ok (.isub, 1) := by decide +kernel
theorem dX1_findBestPath_16 : decode cX1_findBestPath 16 = .ok (.istore_n 3, 1) := by decide +kernel
theorem dX1_findBestPath_17 : decode cX1_findBestPath 17 = .ok (.iload_n 3, 1) := by decide +kernel
theorem dX1_findBestPath_18 : decode cX1_findBestPath 18 = .ok (.ifCond .lt 74, 3) := by decide +kernel
theorem dX1_findBestPath_21 : decode cX1_findBestPath 21 = .ok (.iconst 0, 1) := by decide +kernel
theorem dX1_findBestPath_22 : decode cX1_findBestPath 22 = .ok (.istore 4, 2) := by decide +kernel
theorem dX1_findBestPath_24 : decode cX1_findBestPath 24 = .ok (.iload 4, 2) := by decide +kernel
theorem dX1_findBestPath_26 : decode cX1_findBestPath 26 = .ok (.iconst 4, 1) := by decide +kernel
theorem dX1_findBestPath_27 : decode cX1_findBestPath 27 = .ok (.if_icmp .ge 59, 3) := by decide +kernel
theorem dX1_findBestPath_30 : decode cX1_findBestPath 30 = .ok (.iload_n 3, 1) := by decide +kernel
theorem dX1_findBestPath_31 : decode cX1_findBestPath 31 = .ok (.iload_n 2, 1) := by decide +kernel
theorem dX1_findBestPath_32 : decode cX1_findBestPath 32 = .ok (.iconst 1, 1) := by decide +kernel
theorem dX1_findBestPath_33 : decode cX1_findBestPath 33 = .ok (.isub, 1) := by decide +kernel
theorem dX1_findBestPath_34 : decode cX1_findBestPath 34 = .ok (.if_icmp .ne 7, 3) := by decide +kernel
theorem dX1_findBestPath_37 : decode cX1_findBestPath 37 = .ok (.lconst 1, 1) := by decide +kernel
theorem dX1_findBestPath_38 : decode cX1_findBestPath 38 = .ok (.goto 17, 3) := by decide +kernel
theorem dX1_findBestPath_41 : decode cX1_findBestPath 41 = .ok (.aload_n 0, 1) := by decide +kernel
theorem dX1_findBestPath_42 : decode cX1_findBestPath 42 = .ok (.iload_n 3, 1) := by decide +kernel
theorem dX1_findBestPath_43 : decode cX1_findBestPath 43 = .ok (.iload 4, 2) := by decide +kernel
theorem dX1_findBestPath_45 : decode cX1_findBestPath 45 = .ok (.aload_n 0, 1) := by decide +kernel
theorem dX1_findBestPath_46 : decode cX1_findBestPath 46 = .ok (.iload_n 3, 1) := by decide +kernel
theorem dX1_findBestPath_47 : decode cX1_findBestPath 47 = .ok (.iload 4, 2) := by decide +kernel
theorem dX1_findBestPath_49 : decode cX1_findBestPath 49 = .ok (.invokevirtual 67, 3) := by decide +kernel
theorem dX1_findBestPath_52 : decode cX1_findBestPath 52 = .ok (.invokevirtual 70, 3) := by decide +kernel
theorem dX1_findBestPath_55 : decode cX1_findBestPath 55 = .ok (.lstore 5, 2) := by decide +kernel
theorem dX1_findBestPath_57 : decode cX1_findBestPath 57 = .ok (.aload_n 0, 1) := by decide +kernel
theorem dX1_findBestPath_58 : decode cX1_findBestPath 58 = .ok (.getfield 31, 3) := by decide +kernel
theorem dX1_findBestPath_61 : decode cX1_findBestPath 61 = .ok (.iload_n 3, 1) := by decide +kernel
theorem dX1_findBestPath_62 : decode cX1_findBestPath 62 = .ok (.iconst 4, 1) := by decide +kernel
theorem dX1_findBestPath_63 : decode cX1_findBestPath 63 = .ok (.imul, 1) := by decide +kernel
theorem dX1_findBestPath_64 : decode cX1_findBestPath 64 = .ok (.iload 4, 2) := by decide +kernel
theorem dX1_findBestPath_66 : decode cX1_findBestPath 66 = .ok (.iadd, 1) := by decide +kernel
theorem dX1_findBestPath_67 : decode cX1_findBestPath 67 = .ok (.aload_n 0, 1) := by decide +kernel
theorem dX1_findBestPath_68 : decode cX1_findBestPath 68 = .ok (.iload_n 1, 1) := by decide +kernel
theorem dX1_findBestPath_69 : decode cX1_findBestPath 69 = .ok (.iload_n 3, 1) := by decide +kernel
theorem dX1_findBestPath_70 : decode cX1_findBestPath 70 = .ok (.iload 4, 2) := by decide +kernel
theorem dX1_findBestPath_72 : decode cX1_findBestPath 72 = .ok (.invokevirtual 59, 3) := by decide +kernel
theorem dX1_findBestPath_75 : decode cX1_findBestPath 75 = .ok (.i2l, 1) := by decide +kernel
theorem dX1_findBestPath_76 : decode cX1_findBestPath 76 = .ok (.lload 5, 2) := by decide +kernel
theorem dX1_findBestPath_78 : decode cX1_findBestPath 78 = .ok (.lmul, 1) := by decide +kernel
theorem dX1_findBestPath_79 : decode cX1_findBestPath 79 = .ok (.lastore, 1) := by decide +kernel
theorem dX1_findBestPath_80 : decode cX1_findBestPath 80 = .ok (.iinc 4 1, 3) := by decide +kernel
theorem dX1_findBestPath_83 : decode cX1_findBestPath 83 = .ok (.goto (-59), 3) := by decide +kernel
theorem dX1_findBestPath_86 : decode cX1_findBestPath 86 = .ok (.iinc 3 (-1), 3) := by decide +kernel
theorem dX1_findBestPath_89 : decode cX1_findBestPath 89 = .ok (.goto (-72), 3) := by decide +kernel
theorem dX1_findBestPath_92 : decode cX1_findBestPath 92 = .ok (.aload_n 0, 1) := by decide +kernel
theorem dX1_findBestPath_93 : decode cX1_findBestPath 93 = .ok (.invokevirtual 73, 3) := by decide +kernel
theorem dX1_findBestPath_96 : decode cX1_findBestPath 96 = .ok (.istore_n 3, 1) := by decide +kernel
theorem dX1_findBestPath_97 : decode cX1_findBestPath 97 = .ok (.aload_n 0, 1) := by decide +kernel
theorem dX1_findBestPath_98 : decode cX1_findBestPath 98 = .ok (.getfield 34, 3) := by decide +kernel
theorem dX1_findBestPath_101 : decode cX1_findBestPath 101 = .ok (.iconst 0, 1) := by decide +kernel
theorem dX1_findBestPath_102 : decode cX1_findBestPath 102 = .ok (.iload_n 3, 1) := by decide +kernel
theorem dX1_findBestPath_103 : decode cX1_findBestPath 103 = .ok (.iastore, 1) := by decide +kernel
theorem dX1_findBestPath_104 : decode cX1_findBestPath 104 = .ok (.iconst 1, 1) := by decide +kernel
theorem dX1_findBestPath_105 : decode cX1_findBestPath 105 = .ok (.istore 4, 2) := by decide +kernel
theorem dX1_findBestPath_107 : decode cX1_findBestPath 107 = .ok (.iload 4, 2) := by decide +kernel
theorem dX1_findBestPath_109 : decode cX1_findBestPath 109 = .ok (.iload_n 2, 1) := by decide +kernel
theorem dX1_findBestPath_110 : decode cX1_findBestPath 110 = .ok (.if_icmp .ge 33, 3) := by decide +kernel
theorem dX1_findBestPath_113 : decode cX1_findBestPath 113 = .ok (.aload_n 0, 1) := by decide +kernel
theorem dX1_findBestPath_114 : decode cX1_findBestPath 114 = .ok (.getfield 34, 3) := by decide +kernel
theorem dX1_findBestPath_117 : decode cX1_findBestPath 117 = .ok (.iload 4, 2) := by decide +kernel
theorem dX1_findBestPath_119 : decode cX1_findBestPath 119 = .ok (.aload_n 0, 1) := by decide +kernel
theorem dX1_findBestPath_120 : decode cX1_findBestPath 120 = .ok (.iload 4, 2) := by decide +kernel
theorem dX1_findBestPath_122 : decode cX1_findBestPath 122 = .ok (.iconst 1, 1) := by decide +kernel
theorem dX1_findBestPath_123 : decode cX1_findBestPath 123 = .ok (.isub, 1) := by decide +kernel
theorem dX1_findBestPath_124 : decode cX1_findBestPath 124 = .ok (.aload_n 0, 1) := by decide +kernel
theorem dX1_findBestPath_125 : decode cX1_findBestPath 125 = .ok (.getfield 34, 3) := by decide +kernel
theorem dX1_findBestPath_128 : decode cX1_findBestPath 128 = .ok (.iload 4, 2) := by decide +kernel
theorem dX1_findBestPath_130 : decode cX1_findBestPath 130 = .ok (.iconst 1, 1) := by decide +kernel
theorem dX1_findBestPath_131 : decode cX1_findBestPath 131 = .ok (.isub, 1) := by decide +kernel
theorem dX1_findBestPath_132 : decode cX1_findBestPath 132 = .ok (.iaload, 1) := by decide +kernel
theorem dX1_findBestPath_133 : decode cX1_findBestPath 133 = .ok (.invokevirtual 67, 3) := by decide +kernel
theorem dX1_findBestPath_136 : decode cX1_findBestPath 136 = .ok (.iastore, 1) := by decide +kernel
theorem dX1_findBestPath_137 : decode cX1_findBestPath 137 = .ok (.iinc 4 1, 3) := by decide +kernel
theorem dX1_findBestPath_140 : decode cX1_findBestPath 140 = .ok (.goto (-33), 3) := by decide +kernel
theorem dX1_findBestPath_143 : decode cX1_findBestPath 143 = .ok (.aload_n 0, 1) := by decide +kernel
theorem dX1_findBestPath_144 : decode cX1_findBestPath 144 = .ok (.getfield 11, 3) := by decide +kernel
theorem dX1_findBestPath_147 : decode cX1_findBestPath 147 = .ok (.iload_n 3, 1) := by decide +kernel
theorem dX1_findBestPath_148 : decode cX1_findBestPath 148 = .ok (.iaload, 1) := by decide +kernel
theorem dX1_findBestPath_149 : decode cX1_findBestPath 149 = .ok (.i2l, 1) := by decide +kernel
theorem dX1_findBestPath_150 : decode cX1_findBestPath 150 = .ok (.aload_n 0, 1) := by decide +kernel
theorem dX1_findBestPath_151 : decode cX1_findBestPath 151 = .ok (.getfield 31, 3) := by decide +kernel
theorem dX1_findBestPath_154 : decode cX1_findBestPath 154 = .ok (.iload_n 3, 1) := by decide +kernel
theorem dX1_findBestPath_155 : decode cX1_findBestPath 155 = .ok (.laload, 1) := by decide +kernel
theorem dX1_findBestPath_156 : decode cX1_findBestPath 156 = .ok (.lmul, 1) := by decide +kernel
theorem dX1_findBestPath_157 : decode cX1_findBestPath 157 = .ok (.lconst 0, 1) := by decide +kernel
theorem dX1_findBestPath_158 : decode cX1_findBestPath 158 = .ok (.lcmp, 1) := by decide +kernel
theorem dX1_findBestPath_159 : decode cX1_findBestPath 159 = .ok (.ifCond .le 7, 3) := by decide +kernel
theorem dX1_findBestPath_162 : decode cX1_findBestPath 162 = .ok (.iconst 1, 1) := by decide +kernel
theorem dX1_findBestPath_163 : decode cX1_findBestPath 163 = .ok (.goto 4, 3) := by decide +kernel
theorem dX1_findBestPath_166 : decode cX1_findBestPath 166 = .ok (.iconst 0, 1) := by decide +kernel
theorem dX1_findBestPath_167 : decode cX1_findBestPath 167 = .ok (.ireturn, 1) := by decide +kernel
theorem dX1_stateOnBestPath_0 : decode cX1_stateOnBestPath 0 = .ok (.aload_n 0, 1) := by decide +kernel
theorem dX1_stateOnBestPath_1 : decode cX1_stateOnBestPath 1 = .ok (.getfield 34, 3) := by decide +kernel
theorem dX1_stateOnBestPath_4 : decode cX1_stateOnBestPath 4 = .ok (.iload_n 1, 1) := by decide +kernel
theorem dX1_stateOnBestPath_5 : decode cX1_stateOnBestPath 5 = .ok (.iaload, 1) := by decide +kernel
theorem dX1_stateOnBestPath_6 : decode cX1_stateOnBestPath 6 = .ok (.ireturn, 1) := by decide +kernel
theorem dX1_bestStart_0 : decode cX1_bestStart 0 = .ok (.iconst 0, 1) := by decide +kernel
theorem dX1_bestStart_1 : decode cX1_bestStart 1 = .ok (.istore_n 1, 1) := by decide +kernel
theorem dX1_bestStart_2 : decode cX1_bestStart 2 = .ok (.iconst 1, 1) := by decide +kernel
theorem dX1_bestStart_3 : decode cX1_bestStart 3 = .ok (.istore_n 2, 1) := by decide +kernel
theorem dX1_bestStart_4 : decode cX1_bestStart 4 = .ok (.iload_n 2, 1) := by decide +kernel
theorem dX1_bestStart_5 : decode cX1_bestStart 5 = .ok (.iconst 4, 1) := by decide +kernel
theorem dX1_bestStart_6 : decode cX1_bestStart 6 = .ok (.if_icmp .ge 43, 3) := by decide +kernel
theorem dX1_bestStart_9 : decode cX1_bestStart 9 = .ok (.aload_n 0, 1) := by decide +kernel
theorem dX1_bestStart_10 : decode cX1_bestStart 10 = .ok (.getfield 11, 3) := by decide +kernel
theorem dX1_bestStart_13 : decode cX1_bestStart 13 = .ok (.iload_n 2, 1) := by decide +kernel
theorem dX1_bestStart_14 : decode cX1_bestStart 14 = .ok (.iaload, 1) := by decide +kernel
theorem dX1_bestStart_15 : decode cX1_bestStart 15 = .ok (.i2l, 1) := by decide +kernel
theorem dX1_bestStart_16 : decode cX1_bestStart 16 = .ok (.aload_n 0, 1) := by decide +kernel
theorem dX1_bestStart_17 : decode cX1_bestStart 17 = .ok (.getfield 31, 3) := by decide +kernel
theorem dX1_bestStart_20 : decode cX1_bestStart 20 = .ok (.iload_n 2, 1) := by decide +kernel
theorem dX1_bestStart_21 : decode cX1_bestStart 21 = .ok (.laload, 1) := by decide +kernel
theorem dX1_bestStart_22 : decode cX1_bestStart 22 = .ok (.lmul, 1) := by decide +kernel
theorem dX1_bestStart_23 : decode cX1_bestStart 23 = .ok (.aload_n 0, 1) := by decide +kernel
theorem dX1_bestStart_24 : decode cX1_bestStart 24 = .ok (.getfield 11, 3) := by decide +kernel
theorem dX1_bestStart_27 : decode cX1_bestStart 27 = .ok (.iload_n 1, 1) := by decide +kernel
theorem dX1_bestStart_28 : decode cX1_bestStart 28 = .ok (.iaload, 1) := by decide +kernel
theorem dX1_bestStart_29 : decode cX1_bestStart 29 = .ok (.i2l, 1) := by decide +kernel
theorem dX1_bestStart_30 : decode cX1_bestStart 30 = .ok (.aload_n 0, 1) := by decide +kernel
theorem dX1_bestStart_31 : decode cX1_bestStart 31 = .ok (.getfield 31, 3) := by decide +kernel
theorem dX1_bestStart_34 : decode cX1_bestStart 34 = .ok (.iload_n 1, 1) := by decide +kernel
theorem dX1_bestStart_35 : decode cX1_bestStart 35 = .ok (.laload, 1) := by decide +kernel
theorem dX1_bestStart_36 : decode cX1_bestStart 36 = .ok (.lmul, 1) := by decide +kernel
theorem dX1_bestStart_37 : decode cX1_bestStart 37 = .ok (.lcmp, 1) := by decide +kernel
theorem dX1_bestStart_38 : decode cX1_bestStart 38 = .ok (.ifCond .le 5, 3) := by decide +kernel
theorem dX1_bestStart_41 : decode cX1_bestStart 41 = .ok (.iload_n 2, 1) := by decide +kernel
theorem dX1_bestStart_42 : decode cX1_bestStart 42 = .ok (.istore_n 1, 1) := by decide +kernel
theorem dX1_bestStart_43 : decode cX1_bestStart 43 = .ok (.iinc 2 1, 3) := by decide +kernel
theorem dX1_bestStart_46 : decode cX1_bestStart 46 = .ok (.goto (-42), 3) := by decide +kernel
theorem dX1_bestStart_49 : decode cX1_bestStart 49 = .ok (.iload_n 1, 1) := by decide +kernel
theorem dX1_bestStart_50 : decode cX1_bestStart 50 = .ok (.ireturn, 1) := by decide +kernel
set_option maxRecDepth 20000 in
theorem ggX1_bestOnward_X1_weightOnward : GoodIn wsX1_bestOnward wsX1_weightOnward := goodIn_r _ [5, 6, 7, 8, 9, 4, 10, 11, 12, 13, 14, 15, 16, 17, 18] (by decide +kernel) (by decide +kernel)
set_option maxRecDepth 20000 in
theorem gX1_bestOnward_X1_weightOnward : GoodIn wsX1_bestOnward (wsV RX1 70 RX1 yX1_weightOnward wsX1_weightOnward) := goodIn_app (goodIn_of _ (by decide +kernel)) ggX1_bestOnward_X1_weightOnward
theorem dX1_bestOnward_0 : decode cX1_bestOnward 0 = .ok (.iconst 0, 1) := by decide +kernel
theorem dX1_bestOnward_1 : decode cX1_bestOnward 1 = .ok (.istore_n 3, 1) := by decide +kernel
theorem dX1_bestOnward_2 : decode cX1_bestOnward 2 = .ok (.iconst 1, 1) := by decide +kernel
theorem dX1_bestOnward_3 : decode cX1_bestOnward 3 = .ok (.istore 4, 2) := by decide +kernel
theorem dX1_bestOnward_5 : decode cX1_bestOnward 5 = .ok (.iload 4, 2) := by decide +kernel
theorem dX1_bestOnward_7 : decode cX1_bestOnward 7 = .ok (.iconst 4, 1) := by decide +kernel
theorem dX1_bestOnward_8 : decode cX1_bestOnward 8 = .ok (.if_icmp .ge 31, 3) := by decide +kernel
theorem dX1_bestOnward_11 : decode cX1_bestOnward 11 = .ok (.aload_n 0, 1) := by decide +kernel
theorem dX1_bestOnward_12 : decode cX1_bestOnward 12 = .ok (.iload_n 1, 1) := by decide +kernel
theorem dX1_bestOnward_13 : decode cX1_bestOnward 13 = .ok (.iload_n 2, 1) := by decide +kernel
theorem dX1_bestOnward_14 : decode cX1_bestOnward 14 = .ok (.iload 4, 2) := by decide +kernel
theorem dX1_bestOnward_16 : decode cX1_bestOnward 16 = .ok (.invokevirtual 70, 3) := by decide +kernel
theorem dX1_bestOnward_19 : decode cX1_bestOnward 19 = .ok (.aload_n 0, 1) := by decide +kernel
theorem dX1_bestOnward_20 : decode cX1_bestOnward 20 = .ok (.iload_n 1, 1) := by decide +kernel
theorem dX1_bestOnward_21 : decode cX1_bestOnward 21 = .ok (.iload_n 2, 1) := by decide +kernel
theorem dX1_bestOnward_22 : decode cX1_bestOnward 22 = .ok (.iload_n 3, 1) := by decide +kernel
theorem dX1_bestOnward_23 : decode cX1_bestOnward 23 = .ok (.invokevirtual 70, 3) := by decide +kernel
theorem dX1_bestOnward_26 : decode cX1_bestOnward 26 = .ok (.lcmp, 1) := by decide +kernel
theorem dX1_bestOnward_27 : decode cX1_bestOnward 27 = .ok (.ifCond .le 6, 3) := by decide +kernel
theorem dX1_bestOnward_30 : decode cX1_bestOnward 30 = .ok (.iload 4, 2) := by decide +kernel
theorem dX1_bestOnward_32 : decode cX1_bestOnward 32 = .ok (.istore_n 3, 1) := by decide +kernel
theorem dX1_bestOnward_33 : decode cX1_bestOnward 33 = .ok (.iinc 4 1, 3) := by decide +kernel
theorem dX1_bestOnward_36 : decode cX1_bestOnward 36 = .ok (.goto (-31), 3) := by decide +kernel
theorem dX1_bestOnward_39 : decode cX1_bestOnward 39 = .ok (.iload_n 3, 1) := by decide +kernel
theorem dX1_bestOnward_40 : decode cX1_bestOnward 40 = .ok (.ireturn, 1) := by decide +kernel
set_option maxRecDepth 20000 in
theorem ggX1_weightOnward_X1_moveAt : GoodIn wsX1_weightOnward wsX1_moveAt := goodIn_r _ [6] (by decide +kernel) (by decide +kernel)
set_option maxRecDepth 20000 in
theorem gX1_weightOnward_X1_moveAt : GoodIn wsX1_weightOnward (va_wsS RX1 45 yX1_moveAt wsX1_moveAt) := goodIn_app (goodIn_of _ (by decide +kernel)) ggX1_weightOnward_X1_moveAt
theorem dX1_weightOnward_0 : decode cX1_weightOnward 0 = .ok (.aload_n 0, 1) := by decide +kernel
theorem dX1_weightOnward_1 : decode cX1_weightOnward 1 = .ok (.getfield 11, 3) := by decide +kernel
theorem dX1_weightOnward_4 : decode cX1_weightOnward 4 = .ok (.iload_n 2, 1) := by decide +kernel
theorem dX1_weightOnward_5 : decode cX1_weightOnward 5 = .ok (.iload_n 3, 1) := by decide +kernel
theorem dX1_weightOnward_6 : decode cX1_weightOnward 6 = .ok (.invokestatic 45, 3) := by decide +kernel
theorem dX1_weightOnward_9 : decode cX1_weightOnward 9 = .ok (.iaload, 1) := by decide +kernel
theorem dX1_weightOnward_10 : decode cX1_weightOnward 10 = .ok (.i2l, 1) := by decide +kernel
theorem dX1_weightOnward_11 : decode cX1_weightOnward 11 = .ok (.aload_n 0, 1) := by decide +kernel
theorem dX1_weightOnward_12 : decode cX1_weightOnward 12 = .ok (.getfield 31, 3) := by decide +kernel
theorem dX1_weightOnward_15 : decode cX1_weightOnward 15 = .ok (.iload_n 1, 1) := by decide +kernel
theorem dX1_weightOnward_16 : decode cX1_weightOnward 16 = .ok (.iconst 1, 1) := by decide +kernel
theorem dX1_weightOnward_17 : decode cX1_weightOnward 17 = .ok (.iadd, 1) := by decide +kernel
theorem dX1_weightOnward_18 : decode cX1_weightOnward 18 = .ok (.iconst 4, 1) := by decide +kernel
theorem dX1_weightOnward_19 : decode cX1_weightOnward 19 = .ok (.imul, 1) := by decide +kernel
theorem dX1_weightOnward_20 : decode cX1_weightOnward 20 = .ok (.iload_n 3, 1) := by decide +kernel
theorem dX1_weightOnward_21 : decode cX1_weightOnward 21 = .ok (.iadd, 1) := by decide +kernel
theorem dX1_weightOnward_22 : decode cX1_weightOnward 22 = .ok (.laload, 1) := by decide +kernel
theorem dX1_weightOnward_23 : decode cX1_weightOnward 23 = .ok (.lmul, 1) := by decide +kernel
theorem dX1_weightOnward_24 : decode cX1_weightOnward 24 = .ok (.lreturn, 1) := by decide +kernel
set_option maxRecDepth 20000 in
theorem ggX1_weighAnew_X5_setAll : GoodIn wsX1_weighAnew wsX5_setAll := goodIn_r _ [5] (by decide +kernel) (by decide +kernel)
set_option maxRecDepth 20000 in
theorem gX1_weighAnew_X5_setAll_n37 : GoodIn wsX1_weighAnew (wsX5_setAll) := ggX1_weighAnew_X5_setAll
set_option maxRecDepth 20000 in
theorem ggX1_weighAnew_X1_findBestPath : GoodIn wsX1_weighAnew wsX1_findBestPath := goodIn_r _ [10, 11, 12, 13, 2, 14, 15, 16, 9, 17, 18, 19, 20, 21, 22, 23, 24, 25, 26, 27, 28, 29, 30, 31, 32, 33, 34, 35, 36, 41, 42, 43, 44, 45, 46, 47, 48] (by decide +kernel) (by decide +kernel)
set_option maxRecDepth 20000 in
theorem gX1_weighAnew_X1_findBestPath : GoodIn wsX1_weighAnew (wsV RX1 77 RX1 yX1_findBestPath wsX1_findBestPath) := goodIn_app (goodIn_of _ (by decide +kernel)) ggX1_weighAnew_X1_findBestPath
set_option maxRecDepth 20000 in
theorem ggX1_weighAnew_X1_countBestPath : GoodIn wsX1_weighAnew wsX1_countBestPath := goodIn_r _ [40, 1, 13, 11, 29, 30, 31, 9, 32, 22, 23, 24, 41, 42, 43, 44, 45, 46, 47, 48] (by decide +kernel) (by decide +kernel)
set_option maxRecDepth 20000 in
theorem gX1_weighAnew_X1_countBestPath : GoodIn wsX1_weighAnew (wsV RX1 80 RX1 yX1_countBestPath wsX1_countBestPath) := goodIn_app (goodIn_of _ (by decide +kernel)) ggX1_weighAnew_X1_countBestPath
theorem dX1_weighAnew_0 : decode cX1_weighAnew 0 = .ok (.aload_n 0, 1) := by decide +kernel
theorem dX1_weighAnew_1 : decode cX1_weighAnew 1 = .ok (.getfield 15, 3) := by decide +kernel
theorem dX1_weighAnew_4 : decode cX1_weighAnew 4 = .ok (.iconst 1, 1) := by decide +kernel
theorem dX1_weighAnew_5 : decode cX1_weighAnew 5 = .ok (.invokestatic 37, 3) := by decide +kernel
theorem dX1_weighAnew_8 : decode cX1_weighAnew 8 = .ok (.iconst 0, 1) := by decide +kernel
theorem dX1_weighAnew_9 : decode cX1_weighAnew 9 = .ok (.istore_n 1, 1) := by decide +kernel
theorem dX1_weighAnew_10 : decode cX1_weighAnew 10 = .ok (.iload_n 1, 1) := by decide +kernel
theorem dX1_weighAnew_11 : decode cX1_weighAnew 11 = .ok (.iconst 4, 1) := by decide +kernel
theorem dX1_weighAnew_12 : decode cX1_weighAnew 12 = .ok (.if_icmp .ge 22, 3) := by decide +kernel
theorem dX1_weighAnew_15 : decode cX1_weighAnew 15 = .ok (.aload_n 0, 1) := by decide +kernel
theorem dX1_weighAnew_16 : decode cX1_weighAnew 16 = .ok (.iload_n 1, 1) := by decide +kernel
theorem dX1_weighAnew_17 : decode cX1_weighAnew 17 = .ok (.invokevirtual 77, 3) := by decide +kernel
theorem dX1_weighAnew_20 : decode cX1_weighAnew 20 = .ok (.ifCond .eq 8, 3) := by decide +kernel
theorem dX1_weighAnew_23 : decode cX1_weighAnew 23 = .ok (.aload_n 0, 1) := by decide +kernel
theorem dX1_weighAnew_24 : decode cX1_weighAnew 24 = .ok (.iload_n 1, 1) := by decide +kernel
theorem dX1_weighAnew_25 : decode cX1_weighAnew 25 = .ok (.invokevirtual 80, 3) := by decide +kernel
theorem dX1_weighAnew_28 : decode cX1_weighAnew 28 = .ok (.iinc 1 1, 3) := by decide +kernel
theorem dX1_weighAnew_31 : decode cX1_weighAnew 31 = .ok (.goto (-21), 3) := by decide +kernel
theorem dX1_weighAnew_34 : decode cX1_weighAnew 34 = .ok (.iconst 0, 1) := by decide +kernel
theorem dX1_weighAnew_35 : decode cX1_weighAnew 35 = .ok (.istore_n 1, 1) := by decide +kernel
theorem dX1_weighAnew_36 : decode cX1_weighAnew 36 = .ok (.iconst 0, 1) := by decide +kernel
theorem dX1_weighAnew_37 : decode cX1_weighAnew 37 = .ok (.istore_n 2, 1) := by decide +kernel
theorem dX1_weighAnew_38 : decode cX1_weighAnew 38 = .ok (.iload_n 2, 1) := by decide +kernel
theorem dX1_weighAnew_39 : decode cX1_weighAnew 39 = .ok (.bipush 36, 2) := by decide +kernel
theorem dX1_weighAnew_41 : decode cX1_weighAnew 41 = .ok (.if_icmp .ge 46, 3) := by decide +kernel
theorem dX1_weighAnew_44 : decode cX1_weighAnew 44 = .ok (.iload_n 1, 1) := by decide +kernel
theorem dX1_weighAnew_45 : decode cX1_weighAnew 45 = .ok (.ifCond .ne 18, 3) := by decide +kernel
theorem dX1_weighAnew_48 : decode cX1_weighAnew 48 = .ok (.aload_n 0, 1) := by decide +kernel
theorem dX1_weighAnew_49 : decode cX1_weighAnew 49 = .ok (.getfield 11, 3) := by decide +kernel
theorem dX1_weighAnew_52 : decode cX1_weighAnew 52 = .ok (.iload_n 2, 1) := by decide +kernel
theorem dX1_weighAnew_53 : decode cX1_weighAnew 53 = .ok (.iaload, 1) := by decide +kernel
theorem dX1_weighAnew_54 : decode cX1_weighAnew 54 = .ok (.aload_n 0, 1) := by decide +kernel
theorem dX1_weighAnew_55 : decode cX1_weighAnew 55 = .ok (.getfield 15, 3) := by decide +kernel
theorem dX1_weighAnew_58 : decode cX1_weighAnew 58 = .ok (.iload_n 2, 1) := by decide +kernel
theorem dX1_weighAnew_59 : decode cX1_weighAnew 59 = .ok (.iaload, 1) := by decide +kernel
theorem dX1_weighAnew_60 : decode cX1_weighAnew 60 = .ok (.if_icmp .eq 7, 3) := by decide +kernel
theorem dX1_weighAnew_63 : decode cX1_weighAnew 63 = .ok (.iconst 1, 1) := by decide +kernel
theorem dX1_weighAnew_64 : decode cX1_weighAnew 64 = .ok (.goto 4, 3) := by decide +kernel
theorem dX1_weighAnew_67 : decode cX1_weighAnew 67 = .ok (.iconst 0, 1) := by decide +kernel
theorem dX1_weighAnew_68 : decode cX1_weighAnew 68 = .ok (.istore_n 1, 1) := by decide +kernel
theorem dX1_weighAnew_69 : decode cX1_weighAnew 69 = .ok (.aload_n 0, 1) := by decide +kernel
theorem dX1_weighAnew_70 : decode cX1_weighAnew 70 = .ok (.getfield 11, 3) := by decide +kernel
theorem dX1_weighAnew_73 : decode cX1_weighAnew 73 = .ok (.iload_n 2, 1) := by decide +kernel
theorem dX1_weighAnew_74 : decode cX1_weighAnew 74 = .ok (.aload_n 0, 1) := by decide +kernel
theorem dX1_weighAnew_75 : decode cX1_weighAnew 75 = .ok (.getfield 15, 3) := by decide +kernel
theorem dX1_weighAnew_78 : decode cX1_weighAnew 78 = .ok (.iload_n 2, 1) := by decide +kernel
theorem dX1_weighAnew_79 : decode cX1_weighAnew 79 = .ok (.iaload, 1) := by decide +kernel
theorem dX1_weighAnew_80 : decode cX1_weighAnew 80 = .ok (.iastore, 1) := by decide +kernel
theorem dX1_weighAnew_81 : decode cX1_weighAnew 81 = .ok (.iinc 2 1, 3) := by decide +kernel
theorem dX1_weighAnew_84 : decode cX1_weighAnew 84 = .ok (.goto (-46), 3) := by decide +kernel
theorem dX1_weighAnew_87 : decode cX1_weighAnew 87 = .ok (.iload_n 1, 1) := by decide +kernel
theorem dX1_weighAnew_88 : decode cX1_weighAnew 88 = .ok (.ireturn, 1) := by decide +kernel
set_option maxRecDepth 20000 in
theorem ggX1_countBestPath_X1_showAt : GoodIn wsX1_countBestPath wsX1_showAt := goodIn_r _ [8] (by decide +kernel) (by decide +kernel)
set_option maxRecDepth 20000 in
theorem gX1_countBestPath_X1_showAt : GoodIn wsX1_countBestPath (va_wsS RX1 52 yX1_showAt wsX1_showAt) := goodIn_app (goodIn_of _ (by decide +kernel)) ggX1_countBestPath_X1_showAt
set_option maxRecDepth 20000 in
theorem ggX1_countBestPath_X1_moveAt : GoodIn wsX1_countBestPath wsX1_moveAt := goodIn_r _ [11] (by decide +kernel) (by decide +kernel)
set_option maxRecDepth 20000 in
theorem gX1_countBestPath_X1_moveAt : GoodIn wsX1_countBestPath (va_wsS RX1 45 yX1_moveAt wsX1_moveAt) := goodIn_app (goodIn_of _ (by decide +kernel)) ggX1_countBestPath_X1_moveAt
theorem dX1_countBestPath_0 : decode cX1_countBestPath 0 = .ok (.aload_n 0, 1) := by decide +kernel
theorem dX1_countBestPath_1 : decode cX1_countBestPath 1 = .ok (.getfield 15, 3) := by decide +kernel
theorem dX1_countBestPath_4 : decode cX1_countBestPath 4 = .ok (.aload_n 0, 1) := by decide +kernel
theorem dX1_countBestPath_5 : decode cX1_countBestPath 5 = .ok (.getfield 34, 3) := by decide +kernel
theorem dX1_countBestPath_8 : decode cX1_countBestPath 8 = .ok (.iconst 0, 1) := by decide +kernel
theorem dX1_countBestPath_9 : decode cX1_countBestPath 9 = .ok (.iaload, 1) := by decide +kernel
theorem dX1_countBestPath_10 : decode cX1_countBestPath 10 = .ok (.dup2, 1) := by decide +kernel
theorem dX1_countBestPath_11 : decode cX1_countBestPath 11 = .ok (.iaload, 1) := by decide +kernel
theorem dX1_countBestPath_12 : decode cX1_countBestPath 12 = .ok (.iconst 1, 1) := by decide +kernel
theorem dX1_countBestPath_13 : decode cX1_countBestPath 13 = .ok (.iadd, 1) := by decide +kernel
theorem dX1_countBestPath_14 : decode cX1_countBestPath 14 = .ok (.iastore, 1) := by decide +kernel
theorem dX1_countBestPath_15 : decode cX1_countBestPath 15 = .ok (.iconst 0, 1) := by decide +kernel
theorem dX1_countBestPath_16 : decode cX1_countBestPath 16 = .ok (.istore_n 2, 1) := by decide +kernel
theorem dX1_countBestPath_17 : decode cX1_countBestPath 17 = .ok (.iload_n 2, 1) := by decide +kernel
theorem dX1_countBestPath_18 : decode cX1_countBestPath 18 = .ok (.aload_n 0, 1) := by decide +kernel
theorem dX1_countBestPath_19 : decode cX1_countBestPath 19 = .ok (.getfield 21, 3) := by decide +kernel
theorem dX1_countBestPath_22 : decode cX1_countBestPath 22 = .ok (.iload_n 1, 1) := by decide +kernel
theorem dX1_countBestPath_23 : decode cX1_countBestPath 23 = .ok (.iaload, 1) := by decide +kernel
theorem dX1_countBestPath_24 : decode cX1_countBestPath 24 = .ok (.if_icmp .ge 67, 3) := by decide +kernel
theorem dX1_countBestPath_27 : decode cX1_countBestPath 27 = .ok (.aload_n 0, 1) := by decide +kernel
theorem dX1_countBestPath_28 : decode cX1_countBestPath 28 = .ok (.getfield 15, 3) := by decide +kernel
theorem dX1_countBestPath_31 : decode cX1_countBestPath 31 = .ok (.aload_n 0, 1) := by decide +kernel
theorem dX1_countBestPath_32 : decode cX1_countBestPath 32 = .ok (.getfield 34, 3) := by decide +kernel
theorem dX1_countBestPath_35 : decode cX1_countBestPath 35 = .ok (.iload_n 2, 1) := by decide +kernel
theorem dX1_countBestPath_36 : decode cX1_countBestPath 36 = .ok (.iaload, 1) := by decide +kernel
theorem dX1_countBestPath_37 : decode cX1_countBestPath 37 = .ok (.aload_n 0, 1) := by decide +kernel
theorem dX1_countBestPath_38 : decode cX1_countBestPath 38 = .ok (.getfield 18, 3) := by decide +kernel
theorem dX1_countBestPath_41 : decode cX1_countBestPath 41 = .ok (.iload_n 1, 1) := by decide +kernel
theorem dX1_countBestPath_42 : decode cX1_countBestPath 42 = .ok (.iconst 5, 1) := by decide +kernel
theorem dX1_countBestPath_43 : decode cX1_countBestPath 43 = .ok (.imul, 1) := by decide +kernel
theorem dX1_countBestPath_44 : decode cX1_countBestPath 44 = .ok (.iload_n 2, 1) := by decide +kernel
theorem dX1_countBestPath_45 : decode cX1_countBestPath 45 = .ok (.iadd, 1) := by decide +kernel
theorem dX1_countBestPath_46 : decode cX1_countBestPath 46 = .ok (.iaload, 1) := by decide +kernel
theorem dX1_countBestPath_47 : decode cX1_countBestPath 47 = .ok (.invokestatic 52, 3) := by decide +kernel
theorem dX1_countBestPath_50 : decode cX1_countBestPath 50 = .ok (.dup2, 1) := by decide +kernel
theorem dX1_countBestPath_51 : decode cX1_countBestPath 51 = .ok (.iaload, 1) := by decide +kernel
theorem dX1_countBestPath_52 : decode cX1_countBestPath 52 = .ok (.iconst 1, 1) := by decide +kernel
theorem dX1_countBestPath_53 : decode cX1_countBestPath 53 = .ok (.iadd, 1) := by decide +kernel
theorem dX1_countBestPath_54 : decode cX1_countBestPath 54 = .ok (.iastore, 1) := by decide +kernel
theorem dX1_countBestPath_55 : decode cX1_countBestPath 55 = .ok (.iload_n 2, 1) := by decide +kernel
theorem dX1_countBestPath_56 : decode cX1_countBestPath 56 = .ok (.ifCond .le 29, 3) := by decide +kernel
theorem dX1_countBestPath_59 : decode cX1_countBestPath 59 = .ok (.aload_n 0, 1) := by decide +kernel
theorem dX1_countBestPath_60 : decode cX1_countBestPath 60 = .ok (.getfield 15, 3) := by decide +kernel
theorem dX1_countBestPath_63 : decode cX1_countBestPath 63 = .ok (.aload_n 0, 1) := by decide +kernel
theorem dX1_countBestPath_64 : decode cX1_countBestPath 64 = .ok (.getfield 34, 3) := by decide +kernel
theorem dX1_countBestPath_67 : decode cX1_countBestPath 67 = .ok (.iload_n 2, 1) := by decide +kernel
theorem dX1_countBestPath_68 : decode cX1_countBestPath 68 = .ok (.iconst 1, 1) := by decide +kernel
theorem dX1_countBestPath_69 : decode cX1_countBestPath 69 = .ok (.isub, 1) := by decide +kernel
theorem dX1_countBestPath_70 : decode cX1_countBestPath 70 = .ok (.iaload, 1) := by decide +kernel
theorem dX1_countBestPath_71 : decode cX1_countBestPath 71 = .ok (.aload_n 0, 1) := by decide +kernel
theorem dX1_countBestPath_72 : decode cX1_countBestPath 72 = .ok (.getfield 34, 3) := by decide +kernel
theorem dX1_countBestPath_75 : decode cX1_countBestPath 75 = .ok (.iload_n 2, 1) := by decide +kernel
theorem dX1_countBestPath_76 : decode cX1_countBestPath 76 = .ok (.iaload, 1) := by decide +kernel
theorem dX1_countBestPath_77 : decode cX1_countBestPath 77 = .ok (.invokestatic 45, 3) := by decide +kernel
theorem dX1_countBestPath_80 : decode cX1_countBestPath 80 = .ok (.dup2, 1) := by decide +kernel
theorem dX1_countBestPath_81 : decode cX1_countBestPath 81 = .ok (.iaload, 1) := by decide +kernel
theorem dX1_countBestPath_82 : decode cX1_countBestPath 82 = .ok (.iconst 1, 1) := by decide +kernel
theorem dX1_countBestPath_83 : decode cX1_countBestPath 83 = .ok (.iadd, 1) := by decide +kernel
theorem dX1_countBestPath_84 : decode cX1_countBestPath 84 = .ok (.iastore, 1) := by decide +kernel
theorem dX1_countBestPath_85 : decode cX1_countBestPath 85 = .ok (.iinc 2 1, 3) := by decide +kernel
theorem dX1_countBestPath_88 : decode cX1_countBestPath 88 = .ok (.goto (-71), 3) := by decide +kernel
theorem dX1_countBestPath_91 : decode cX1_countBestPath 91 = .ok (.return_, 1) := by decide +kernel
theorem dX2_init_0 : decode cX2_init 0 = .ok (.aload_n 0, 1) := by decide +kernel
theorem dX2_init_1 : decode cX2_init 1 = .ok (.invokespecial 3, 3) := by decide +kernel
theorem dX2_init_4 : decode cX2_init 4 = .ok (.aload_n 0, 1) := by decide +kernel
theorem dX2_init_5 : decode cX2_init 5 = .ok (.bipush 40, 2) := by decide +kernel
theorem dX2_init_7 : decode cX2_init 7 = .ok (.newarray .int, 2) := by decide +kernel
theorem dX2_init_9 : decode cX2_init 9 = .ok (.putfield 11, 3) := by decide +kernel
theorem dX2_init_12 : decode cX2_init 12 = .ok (.aload_n 0, 1) := by decide +kernel
theorem dX2_init_13 : decode cX2_init 13 = .ok (.bipush 40, 2) := by decide +kernel
theorem dX2_init_15 : decode cX2_init 15 = .ok (.newarray .int, 2) := by decide +kernel
theorem dX2_init_17 : decode cX2_init 17 = .ok (.putfield 15, 3) := by decide +kernel
theorem dX2_init_20 : decode cX2_init 20 = .ok (.aload_n 0, 1) := by decide +kernel
theorem dX2_init_21 : decode cX2_init 21 = .ok (.bipush 40, 2) := by decide +kernel
theorem dX2_init_23 : decode cX2_init 23 = .ok (.newarray .int, 2) := by decide +kernel
theorem dX2_init_25 : decode cX2_init 25 = .ok (.putfield 18, 3) := by decide +kernel
theorem dX2_init_28 : decode cX2_init 28 = .ok (.aload_n 0, 1) := by decide +kernel
theorem dX2_init_29 : decode cX2_init 29 = .ok (.sipush 240, 3) := by decide +kernel
theorem dX2_init_32 : decode cX2_init 32 = .ok (.newarray .int, 2) := by decide +kernel
theorem dX2_init_34 : decode cX2_init 34 = .ok (.putfield 21, 3) := by decide +kernel
theorem dX2_init_37 : decode cX2_init 37 = .ok (.aload_n 0, 1) := by decide +kernel
theorem dX2_init_38 : decode cX2_init 38 = .ok (.bipush 32, 2) := by decide +kernel
theorem dX2_init_40 : decode cX2_init 40 = .ok (.newarray .int, 2) := by decide +kernel
theorem dX2_init_42 : decode cX2_init 42 = .ok (.putfield 24, 3) := by decide +kernel
theorem dX2_init_45 : decode cX2_init 45 = .ok (.aload_n 0, 1) := by decide +kernel
theorem dX2_init_46 : decode cX2_init 46 = .ok (.iconst 4, 1) := by decide +kernel
theorem dX2_init_47 : decode cX2_init 47 = .ok (.newarray .int, 2) := by decide +kernel
theorem dX2_init_49 : decode cX2_init 49 = .ok (.putfield 27, 3) := by decide +kernel
theorem dX2_init_52 : decode cX2_init 52 = .ok (.aload_n 0, 1) := by decide +kernel
theorem dX2_init_53 : decode cX2_init 53 = .ok (.iconst 4, 1) := by decide +kernel
theorem dX2_init_54 : decode cX2_init 54 = .ok (.newarray .int, 2) := by decide +kernel
theorem dX2_init_56 : decode cX2_init 56 = .ok (.putfield 30, 3) := by decide +kernel
theorem dX2_init_59 : decode cX2_init 59 = .ok (.aload_n 0, 1) := by decide +kernel
theorem dX2_init_60 : decode cX2_init 60 = .ok (.iconst 0, 1) := by decide +kernel
theorem dX2_init_61 : decode cX2_init 61 = .ok (.putfield 33, 3) := by decide +kernel
theorem dX2_init_64 : decode cX2_init 64 = .ok (.aload_n 0, 1) := by decide +kernel
theorem dX2_init_65 : decode cX2_init 65 = .ok (.iconst 1, 1) := by decide +kernel
theorem dX2_init_66 : decode cX2_init 66 = .ok (.putfield 37, 3) := by decide +kernel
theorem dX2_init_69 : decode cX2_init 69 = .ok (.aload_n 0, 1) := by decide +kernel
theorem dX2_init_70 : decode cX2_init 70 = .ok (.iconst 1, 1) := by decide +kernel
theorem dX2_init_71 : decode cX2_init 71 = .ok (.putfield 40, 3) := by decide +kernel
theorem dX2_init_74 : decode cX2_init 74 = .ok (.return_, 1) := by decide +kernel
theorem dX2_has_0 : decode cX2_has 0 = .ok (.iload_n 1, 1) := by decide +kernel
theorem dX2_has_1 : decode cX2_has 1 = .ok (.ifCond .lt 15, 3) := by decide +kernel
theorem dX2_has_4 : decode cX2_has 4 = .ok (.iload_n 1, 1) := by decide +kernel
theorem dX2_has_5 : decode cX2_has 5 = .ok (.aload_n 0, 1) := by decide +kernel
theorem dX2_has_6 : decode cX2_has 6 = .ok (.getfield 33, 3) := by decide +kernel
theorem dX2_has_9 : decode cX2_has 9 = .ok (.if_icmp .ge 7, 3) := by decide +kernel
theorem dX2_has_12 : decode cX2_has 12 = .ok (.iconst 1, 1) := by decide +kernel
theorem dX2_has_13 : decode cX2_has 13 = .ok (.goto 4, 3) := by decide +kernel
theorem dX2_has_16 : decode cX2_has 16 = .ok (.iconst 0, 1) := by decide +kernel
theorem dX2_has_17 : decode cX2_has 17 = .ok (.ireturn, 1) := by decide +kernel
theorem dX2_isFull_0 : decode cX2_isFull 0 = .ok (.aload_n 0, 1) := by decide +kernel
theorem dX2_isFull_1 : decode cX2_isFull 1 = .ok (.getfield 33, 3) := by decide +kernel
theorem dX2_isFull_4 : decode cX2_isFull 4 = .ok (.bipush 40, 2) := by decide +kernel
theorem dX2_isFull_6 : decode cX2_isFull 6 = .ok (.if_icmp .lt 7, 3) := by decide +kernel
theorem dX2_isFull_9 : decode cX2_isFull 9 = .ok (.iconst 1, 1) := by decide +kernel
theorem dX2_isFull_10 : decode cX2_isFull 10 = .ok (.goto 4, 3) := by decide +kernel
theorem dX2_isFull_13 : decode cX2_isFull 13 = .ok (.iconst 0, 1) := by decide +kernel
theorem dX2_isFull_14 : decode cX2_isFull 14 = .ok (.ireturn, 1) := by decide +kernel
theorem dX2_isFullRow_0 : decode cX2_isFullRow 0 = .ok (.aload_n 0, 1) := by decide +kernel
theorem dX2_isFullRow_1 : decode cX2_isFullRow 1 = .ok (.getfield 18, 3) := by decide +kernel
theorem dX2_isFullRow_4 : decode cX2_isFullRow 4 = .ok (.iload_n 1, 1) := by decide +kernel
theorem dX2_isFullRow_5 : decode cX2_isFullRow 5 = .ok (.iaload, 1) := by decide +kernel
theorem dX2_isFullRow_6 : decode cX2_isFullRow 6 = .ok (.bipush 6, 2) := by decide +kernel
theorem dX2_isFullRow_8 : decode cX2_isFullRow 8 = .ok (.if_icmp .lt 7, 3) := by decide +kernel
theorem dX2_isFullRow_11 : decode cX2_isFullRow 11 = .ok (.iconst 1, 1) := by decide +kernel
theorem dX2_isFullRow_12 : decode cX2_isFullRow 12 = .ok (.goto 4, 3) := by decide +kernel
theorem dX2_isFullRow_15 : decode cX2_isFullRow 15 = .ok (.iconst 0, 1) := by decide +kernel
theorem dX2_isFullRow_16 : decode cX2_isFullRow 16 = .ok (.ireturn, 1) := by decide +kernel
theorem dX2_size_0 : decode cX2_size 0 = .ok (.aload_n 0, 1) := by decide +kernel
theorem dX2_size_1 : decode cX2_size 1 = .ok (.getfield 33, 3) := by decide +kernel
theorem dX2_size_4 : decode cX2_size 4 = .ok (.ireturn, 1) := by decide +kernel
theorem dX2_labelledRows_0 : decode cX2_labelledRows 0 = .ok (.iconst 0, 1) := by decide +kernel
theorem dX2_labelledRows_1 : decode cX2_labelledRows 1 = .ok (.istore_n 1, 1) := by decide +kernel
theorem dX2_labelledRows_2 : decode cX2_labelledRows 2 = .ok (.iconst 0, 1) := by decide +kernel
theorem dX2_labelledRows_3 : decode cX2_labelledRows 3 = .ok (.istore_n 2, 1) := by decide +kernel
theorem dX2_labelledRows_4 : decode cX2_labelledRows 4 = .ok (.iload_n 2, 1) := by decide +kernel
theorem dX2_labelledRows_5 : decode cX2_labelledRows 5 = .ok (.aload_n 0, 1) := by decide +kernel
theorem dX2_labelledRows_6 : decode cX2_labelledRows 6 = .ok (.getfield 33, 3) := by decide +kernel
theorem dX2_labelledRows_9 : decode cX2_labelledRows 9 = .ok (.if_icmp .ge 22, 3) := by decide +kernel
theorem dX2_labelledRows_12 : decode cX2_labelledRows 12 = .ok (.aload_n 0, 1) := by decide +kernel
theorem dX2_labelledRows_13 : decode cX2_labelledRows 13 = .ok (.getfield 11, 3) := by decide +kernel
theorem dX2_labelledRows_16 : decode cX2_labelledRows 16 = .ok (.iload_n 2, 1) := by decide +kernel
theorem dX2_labelledRows_17 : decode cX2_labelledRows 17 = .ok (.iaload, 1) := by decide +kernel
theorem dX2_labelledRows_18 : decode cX2_labelledRows 18 = .ok (.iconst (-1), 1) := by decide +kernel
theorem dX2_labelledRows_19 : decode cX2_labelledRows 19 = .ok (.if_icmp .eq 6, 3) := by decide +kernel
theorem dX2_labelledRows_22 : decode cX2_labelledRows 22 = .ok (.iinc 1 1, 3) := by decide +kernel
theorem dX2_labelledRows_25 : decode cX2_labelledRows 25 = .ok (.iinc 2 1, 3) := by decide +kernel
theorem dX2_labelledRows_28 : decode cX2_labelledRows 28 = .ok (.goto (-24), 3) := by decide +kernel
theorem dX2_labelledRows_31 : decode cX2_labelledRows 31 = .ok (.iload_n 1, 1) := by decide +kernel
theorem dX2_labelledRows_32 : decode cX2_labelledRows 32 = .ok (.ireturn, 1) := by decide +kernel
set_option maxRecDepth 20000 in
theorem ggX2_open_X2_startAnew : GoodIn wsX2_open wsX2_startAnew := goodIn_r _ [7, 8, 9, 10, 11, 12, 13, 14, 6, 15, 16, 17, 18, 1, 2, 19, 20, 21, 22, 23, 24, 25, 26, 27, 28, 29, 30, 31, 32, 33, 34] (by decide +kernel) (by decide +kernel)
set_option maxRecDepth 20000 in
theorem gX2_open_X2_startAnew : GoodIn wsX2_open (wsV RX2 43 RX2 yX2_startAnew wsX2_startAnew) := goodIn_app (goodIn_of _ (by decide +kernel)) ggX2_open_X2_startAnew
theorem dX2_open_0 : decode cX2_open 0 = .ok (.aload_n 0, 1) := by decide +kernel
theorem dX2_open_1 : decode cX2_open 1 = .ok (.getfield 33, 3) := by decide +kernel
theorem dX2_open_4 : decode cX2_open 4 = .ok (.istore_n 2, 1) := by decide +kernel
theorem dX2_open_5 : decode cX2_open 5 = .ok (.aload_n 0, 1) := by decide +kernel
theorem dX2_open_6 : decode cX2_open 6 = .ok (.getfield 11, 3) := by decide +kernel
theorem dX2_open_9 : decode cX2_open 9 = .ok (.iload_n 2, 1) := by decide +kernel
theorem dX2_open_10 : decode cX2_open 10 = .ok (.iload_n 1, 1) := by decide +kernel
theorem dX2_open_11 : decode cX2_open 11 = .ok (.iastore, 1) := by decide +kernel
theorem dX2_open_12 : decode cX2_open 12 = .ok (.aload_n 0, 1) := by decide +kernel
theorem dX2_open_13 : decode cX2_open 13 = .ok (.dup, 1) := by decide +kernel
theorem dX2_open_14 : decode cX2_open 14 = .ok (.getfield 33, 3) := by decide +kernel
theorem dX2_open_17 : decode cX2_open 17 = .ok (.iconst 1, 1) := by decide +kernel
theorem dX2_open_18 : decode cX2_open 18 = .ok (.iadd, 1) := by decide +kernel
theorem dX2_open_19 : decode cX2_open 19 = .ok (.putfield 33, 3) := by decide +kernel
theorem dX2_open_22 : decode cX2_open 22 = .ok (.aload_n 0, 1) := by decide +kernel
theorem dX2_open_23 : decode cX2_open 23 = .ok (.invokevirtual 43, 3) := by decide +kernel
theorem dX2_open_26 : decode cX2_open 26 = .ok (.iload_n 2, 1) := by decide +kernel
theorem dX2_open_27 : decode cX2_open 27 = .ok (.ireturn, 1) := by decide +kernel
set_option maxRecDepth 20000 in
theorem ggX2_append_X2_startAnew : GoodIn wsX2_append wsX2_startAnew := goodIn_r _ [7, 8, 9, 10, 11, 12, 13, 14, 6, 15, 16, 17, 18, 19, 20, 21, 22, 23, 24, 2, 1, 25, 26, 27, 28, 29, 30, 31, 32, 33, 34] (by decide +kernel) (by decide +kernel)
set_option maxRecDepth 20000 in
theorem gX2_append_X2_startAnew : GoodIn wsX2_append (wsV RX2 43 RX2 yX2_startAnew wsX2_startAnew) := goodIn_app (goodIn_of _ (by decide +kernel)) ggX2_append_X2_startAnew
theorem dX2_append_0 : decode cX2_append 0 = .ok (.aload_n 0, 1) := by decide +kernel
theorem dX2_append_1 : decode cX2_append 1 = .ok (.getfield 21, 3) := by decide +kernel
theorem dX2_append_4 : decode cX2_append 4 = .ok (.iload_n 1, 1) := by decide +kernel
theorem dX2_append_5 : decode cX2_append 5 = .ok (.bipush 6, 2) := by decide +kernel
theorem dX2_append_7 : decode cX2_append 7 = .ok (.imul, 1) := by decide +kernel
theorem dX2_append_8 : decode cX2_append 8 = .ok (.aload_n 0, 1) := by decide +kernel
theorem dX2_append_9 : decode cX2_append 9 = .ok (.getfield 18, 3) := by decide +kernel
theorem dX2_append_12 : decode cX2_append 12 = .ok (.iload_n 1, 1) := by decide +kernel
theorem dX2_append_13 : decode cX2_append 13 = .ok (.iaload, 1) := by decide +kernel
theorem dX2_append_14 : decode cX2_append 14 = .ok (.iadd, 1) := by decide +kernel
theorem dX2_append_15 : decode cX2_append 15 = .ok (.iload_n 2, 1) := by decide +kernel
theorem dX2_append_16 : decode cX2_append 16 = .ok (.iastore, 1) := by decide +kernel
theorem dX2_append_17 : decode cX2_append 17 = .ok (.aload_n 0, 1) := by decide +kernel
theorem dX2_append_18 : decode cX2_append 18 = .ok (.getfield 18, 3) := by decide +kernel
theorem dX2_append_21 : decode cX2_append 21 = .ok (.iload_n 1, 1) := by decide +kernel
theorem dX2_append_22 : decode cX2_append 22 = .ok (.dup2, 1) := by decide +kernel
theorem dX2_append_23 : decode cX2_append 23 = .ok (.iaload, 1) := by decide +kernel
theorem dX2_append_24 : decode cX2_append 24 = .ok (.iconst 1, 1) := by decide +kernel
theorem dX2_append_25 : decode cX2_append 25 = .ok (.iadd, 1) := by decide +kernel
theorem dX2_append_26 : decode cX2_append 26 = .ok (.iastore, 1) := by decide +kernel
theorem dX2_append_27 : decode cX2_append 27 = .ok (.aload_n 0, 1) := by decide +kernel
theorem dX2_append_28 : decode cX2_append 28 = .ok (.invokevirtual 43, 3) := by decide +kernel
theorem dX2_append_31 : decode cX2_append 31 = .ok (.aload_n 0, 1) := by decide +kernel
theorem dX2_append_32 : decode cX2_append 32 = .ok (.getfield 18, 3) := by decide +kernel
theorem dX2_append_35 : decode cX2_append 35 = .ok (.iload_n 1, 1) := by decide +kernel
theorem dX2_append_36 : decode cX2_append 36 = .ok (.iaload, 1) := by decide +kernel
theorem dX2_append_37 : decode cX2_append 37 = .ok (.ireturn, 1) := by decide +kernel
set_option maxRecDepth 20000 in
theorem ggX2_relabel_X2_startAnew : GoodIn wsX2_relabel wsX2_startAnew := goodIn_r _ [6, 7, 8, 9, 10, 11, 12, 13, 5, 14, 15, 16, 17, 18, 1, 19, 20, 21, 22, 23, 24, 25, 26, 27, 28, 29, 30, 31, 32, 33, 34] (by decide +kernel) (by decide +kernel)
set_option maxRecDepth 20000 in
theorem gX2_relabel_X2_startAnew : GoodIn wsX2_relabel (wsV RX2 43 RX2 yX2_startAnew wsX2_startAnew) := goodIn_app (goodIn_of _ (by decide +kernel)) ggX2_relabel_X2_startAnew
theorem dX2_relabel_0 : decode cX2_relabel 0 = .ok (.aload_n 0, 1) := by decide +kernel
theorem dX2_relabel_1 : decode cX2_relabel 1 = .ok (.getfield 11, 3) := by decide +kernel
theorem dX2_relabel_4 : decode cX2_relabel 4 = .ok (.iload_n 1, 1) := by decide +kernel
theorem dX2_relabel_5 : decode cX2_relabel 5 = .ok (.iaload, 1) := by decide +kernel
theorem dX2_relabel_6 : decode cX2_relabel 6 = .ok (.istore_n 3, 1) := by decide +kernel
theorem dX2_relabel_7 : decode cX2_relabel 7 = .ok (.aload_n 0, 1) := by decide +kernel
theorem dX2_relabel_8 : decode cX2_relabel 8 = .ok (.getfield 11, 3) := by decide +kernel
theorem dX2_relabel_11 : decode cX2_relabel 11 = .ok (.iload_n 1, 1) := by decide +kernel
theorem dX2_relabel_12 : decode cX2_relabel 12 = .ok (.iload_n 2, 1) := by decide +kernel
theorem dX2_relabel_13 : decode cX2_relabel 13 = .ok (.iastore, 1) := by decide +kernel
theorem dX2_relabel_14 : decode cX2_relabel 14 = .ok (.aload_n 0, 1) := by decide +kernel
theorem dX2_relabel_15 : decode cX2_relabel 15 = .ok (.invokevirtual 43, 3) := by decide +kernel
theorem dX2_relabel_18 : decode cX2_relabel 18 = .ok (.iload_n 3, 1) := by decide +kernel
theorem dX2_relabel_19 : decode cX2_relabel 19 = .ok (.ireturn, 1) := by decide +kernel
set_option maxRecDepth 20000 in
theorem ggX2_setAddition_X2_startAnew : GoodIn wsX2_setAddition wsX2_startAnew := goodIn_r _ [7, 8, 9, 10, 11, 12, 13, 14, 6, 15, 16, 17, 18, 19, 20, 21, 22, 23, 24, 25, 26, 27, 28, 29, 30, 31, 32, 33, 34, 35, 36] (by decide +kernel) (by decide +kernel)
