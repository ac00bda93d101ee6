theorem dX6_weigh_50 : decode cX6_weigh 50 = .ok (.iconst 4, 1) := by decide +kernel
theorem dX6_weigh_51 : decode cX6_weigh 51 = .ok (.iload_n 2, 1) := by decide +kernel
theorem dX6_weigh_52 : decode cX6_weigh 52 = .ok (.imul, 1) := by decide +kernel
theorem dX6_weigh_53 : decode cX6_weigh 53 = .ok (.iload_n 3, 1) := by decide +kernel
theorem dX6_weigh_54 : decode cX6_weigh 54 = .ok (.iadd, 1) := by decide +kernel
theorem dX6_weigh_55 : decode cX6_weigh 55 = .ok (.istore 5, 2) := by decide +kernel
theorem dX6_weigh_57 : decode cX6_weigh 57 = .ok (.iload_n 1, 1) := by decide +kernel
theorem dX6_weigh_58 : decode cX6_weigh 58 = .ok (.ifCond .ne 12, 3) := by decide +kernel
theorem dX6_weigh_61 : decode cX6_weigh 61 = .ok (.aload_n 0, 1) := by decide +kernel
theorem dX6_weigh_62 : decode cX6_weigh 62 = .ok (.getfield 42, 3) := by decide +kernel
theorem dX6_weigh_65 : decode cX6_weigh 65 = .ok (.iload_n 2, 1) := by decide +kernel
theorem dX6_weigh_66 : decode cX6_weigh 66 = .ok (.iaload, 1) := by decide +kernel
theorem dX6_weigh_67 : decode cX6_weigh 67 = .ok (.goto 25, 3) := by decide +kernel
theorem dX6_weigh_70 : decode cX6_weigh 70 = .ok (.iload_n 1, 1) := by decide +kernel
theorem dX6_weigh_71 : decode cX6_weigh 71 = .ok (.iconst 1, 1) := by decide +kernel
theorem dX6_weigh_72 : decode cX6_weigh 72 = .ok (.if_icmp .ne 13, 3) := by decide +kernel
theorem dX6_weigh_75 : decode cX6_weigh 75 = .ok (.aload_n 0, 1) := by decide +kernel
theorem dX6_weigh_76 : decode cX6_weigh 76 = .ok (.getfield 45, 3) := by decide +kernel
theorem dX6_weigh_79 : decode cX6_weigh 79 = .ok (.iload 5, 2) := by decide +kernel
theorem dX6_weigh_81 : decode cX6_weigh 81 = .ok (.iaload, 1) := by decide +kernel
theorem dX6_weigh_82 : decode cX6_weigh 82 = .ok (.goto 10, 3) := by decide +kernel
theorem dX6_weigh_85 : decode cX6_weigh 85 = .ok (.aload_n 0, 1) := by decide +kernel
theorem dX6_weigh_86 : decode cX6_weigh 86 = .ok (.getfield 48, 3) := by decide +kernel
theorem dX6_weigh_89 : decode cX6_weigh 89 = .ok (.iload 5, 2) := by decide +kernel
theorem dX6_weigh_91 : decode cX6_weigh 91 = .ok (.iaload, 1) := by decide +kernel
theorem dX6_weigh_92 : decode cX6_weigh 92 = .ok (.istore 6, 2) := by decide +kernel
theorem dX6_weigh_94 : decode cX6_weigh 94 = .ok (.iload 4, 2) := by decide +kernel
theorem dX6_weigh_96 : decode cX6_weigh 96 = .ok (.iconst (-1), 1) := by decide +kernel
theorem dX6_weigh_97 : decode cX6_weigh 97 = .ok (.if_icmp .eq 44, 3) := by decide +kernel
theorem dX6_weigh_100 : decode cX6_weigh 100 = .ok (.iload_n 1, 1) := by decide +kernel
theorem dX6_weigh_101 : decode cX6_weigh 101 = .ok (.ifCond .ne 14, 3) := by decide +kernel
theorem dX6_weigh_104 : decode cX6_weigh 104 = .ok (.aload_n 0, 1) := by decide +kernel
theorem dX6_weigh_105 : decode cX6_weigh 105 = .ok (.getfield 42, 3) := by decide +kernel
theorem dX6_weigh_108 : decode cX6_weigh 108 = .ok (.iload_n 2, 1) := by decide +kernel
theorem dX6_weigh_109 : decode cX6_weigh 109 = .ok (.iload 4, 2) := by decide +kernel
theorem dX6_weigh_111 : decode cX6_weigh 111 = .ok (.iastore, 1) := by decide +kernel
theorem dX6_weigh_112 : decode cX6_weigh 112 = .ok (.goto 29, 3) := by decide +kernel
theorem dX6_weigh_115 : decode cX6_weigh 115 = .ok (.iload_n 1, 1) := by decide +kernel
theorem dX6_weigh_116 : decode cX6_weigh 116 = .ok (.iconst 1, 1) := by decide +kernel
theorem dX6_weigh_117 : decode cX6_weigh 117 = .ok (.if_icmp .ne 15, 3) := by decide +kernel
theorem dX6_weigh_120 : decode cX6_weigh 120 = .ok (.aload_n 0, 1) := by decide +kernel
theorem dX6_weigh_121 : decode cX6_weigh 121 = .ok (.getfield 45, 3) := by decide +kernel
theorem dX6_weigh_124 : decode cX6_weigh 124 = .ok (.iload 5, 2) := by decide +kernel
theorem dX6_weigh_126 : decode cX6_weigh 126 = .ok (.iload 4, 2) := by decide +kernel
theorem dX6_weigh_128 : decode cX6_weigh 128 = .ok (.iastore, 1) := by decide +kernel
theorem dX6_weigh_129 : decode cX6_weigh 129 = .ok (.goto 12, 3) := by decide +kernel
theorem dX6_weigh_132 : decode cX6_weigh 132 = .ok (.aload_n 0, 1) := by decide +kernel
theorem dX6_weigh_133 : decode cX6_weigh 133 = .ok (.getfield 48, 3) := by decide +kernel
theorem dX6_weigh_136 : decode cX6_weigh 136 = .ok (.iload 5, 2) := by decide +kernel
theorem dX6_weigh_138 : decode cX6_weigh 138 = .ok (.iload 4, 2) := by decide +kernel
theorem dX6_weigh_140 : decode cX6_weigh 140 = .ok (.iastore, 1) := by decide +kernel
theorem dX6_weigh_141 : decode cX6_weigh 141 = .ok (.iload 6, 2) := by decide +kernel
theorem dX6_weigh_143 : decode cX6_weigh 143 = .ok (.ireturn, 1) := by decide +kernel
set_option maxRecDepth 20000 in
theorem ggX6_sign_X6_within : GoodIn wsX6_sign wsX6_within := goodIn_r _ [7] (by decide +kernel) (by decide +kernel)
set_option maxRecDepth 20000 in
theorem gX6_sign_X6_within : GoodIn wsX6_sign (va_wsS RX6 79 yX6_within wsX6_within) := goodIn_app (goodIn_of _ (by decide +kernel)) ggX6_sign_X6_within
theorem dX6_sign_0 : decode cX6_sign 0 = .ok (.aload_n 0, 1) := by decide +kernel
theorem dX6_sign_1 : decode cX6_sign 1 = .ok (.iconst 0, 1) := by decide +kernel
theorem dX6_sign_2 : decode cX6_sign 2 = .ok (.putfield 69, 3) := by decide +kernel
theorem dX6_sign_5 : decode cX6_sign 5 = .ok (.iload_n 1, 1) := by decide +kernel
theorem dX6_sign_6 : decode cX6_sign 6 = .ok (.iconst 0, 1) := by decide +kernel
theorem dX6_sign_7 : decode cX6_sign 7 = .ok (.iconst 3, 1) := by decide +kernel
theorem dX6_sign_8 : decode cX6_sign 8 = .ok (.invokestatic 79, 3) := by decide +kernel
theorem dX6_sign_11 : decode cX6_sign 11 = .ok (.ifCond .eq 12, 3) := by decide +kernel
theorem dX6_sign_14 : decode cX6_sign 14 = .ok (.iload_n 2, 1) := by decide +kernel
theorem dX6_sign_15 : decode cX6_sign 15 = .ok (.iconst 0, 1) := by decide +kernel
theorem dX6_sign_16 : decode cX6_sign 16 = .ok (.iconst 3, 1) := by decide +kernel
theorem dX6_sign_17 : decode cX6_sign 17 = .ok (.invokestatic 79, 3) := by decide +kernel
theorem dX6_sign_20 : decode cX6_sign 20 = .ok (.ifCond .ne 6, 3) := by decide +kernel
theorem dX6_sign_23 : decode cX6_sign 23 = .ok (.bipush (-2), 2) := by decide +kernel
theorem dX6_sign_25 : decode cX6_sign 25 = .ok (.ireturn, 1) := by decide +kernel
theorem dX6_sign_26 : decode cX6_sign 26 = .ok (.aload_n 0, 1) := by decide +kernel
theorem dX6_sign_27 : decode cX6_sign 27 = .ok (.getfield 54, 3) := by decide +kernel
theorem dX6_sign_30 : decode cX6_sign 30 = .ok (.iload_n 1, 1) := by decide +kernel
theorem dX6_sign_31 : decode cX6_sign 31 = .ok (.iaload, 1) := by decide +kernel
theorem dX6_sign_32 : decode cX6_sign 32 = .ok (.iconst 5, 1) := by decide +kernel
theorem dX6_sign_33 : decode cX6_sign 33 = .ok (.if_icmp .ne 6, 3) := by decide +kernel
theorem dX6_sign_36 : decode cX6_sign 36 = .ok (.bipush (-3), 2) := by decide +kernel
theorem dX6_sign_38 : decode cX6_sign 38 = .ok (.ireturn, 1) := by decide +kernel
theorem dX6_sign_39 : decode cX6_sign 39 = .ok (.aload_n 0, 1) := by decide +kernel
theorem dX6_sign_40 : decode cX6_sign 40 = .ok (.getfield 51, 3) := by decide +kernel
theorem dX6_sign_43 : decode cX6_sign 43 = .ok (.iconst 5, 1) := by decide +kernel
theorem dX6_sign_44 : decode cX6_sign 44 = .ok (.iload_n 1, 1) := by decide +kernel
theorem dX6_sign_45 : decode cX6_sign 45 = .ok (.imul, 1) := by decide +kernel
theorem dX6_sign_46 : decode cX6_sign 46 = .ok (.aload_n 0, 1) := by decide +kernel
theorem dX6_sign_47 : decode cX6_sign 47 = .ok (.getfield 54, 3) := by decide +kernel
theorem dX6_sign_50 : decode cX6_sign 50 = .ok (.iload_n 1, 1) := by decide +kernel
theorem dX6_sign_51 : decode cX6_sign 51 = .ok (.iaload, 1) := by decide +kernel
theorem dX6_sign_52 : decode cX6_sign 52 = .ok (.iadd, 1) := by decide +kernel
theorem dX6_sign_53 : decode cX6_sign 53 = .ok (.iload_n 2, 1) := by decide +kernel
theorem dX6_sign_54 : decode cX6_sign 54 = .ok (.iastore, 1) := by decide +kernel
theorem dX6_sign_55 : decode cX6_sign 55 = .ok (.aload_n 0, 1) := by decide +kernel
theorem dX6_sign_56 : decode cX6_sign 56 = .ok (.getfield 54, 3) := by decide +kernel
theorem dX6_sign_59 : decode cX6_sign 59 = .ok (.iload_n 1, 1) := by decide +kernel
theorem dX6_sign_60 : decode cX6_sign 60 = .ok (.dup2, 1) := by decide +kernel
theorem dX6_sign_61 : decode cX6_sign 61 = .ok (.iaload, 1) := by decide +kernel
theorem dX6_sign_62 : decode cX6_sign 62 = .ok (.iconst 1, 1) := by decide +kernel
theorem dX6_sign_63 : decode cX6_sign 63 = .ok (.iadd, 1) := by decide +kernel
theorem dX6_sign_64 : decode cX6_sign 64 = .ok (.iastore, 1) := by decide +kernel
theorem dX6_sign_65 : decode cX6_sign 65 = .ok (.aload_n 0, 1) := by decide +kernel
theorem dX6_sign_66 : decode cX6_sign 66 = .ok (.getfield 54, 3) := by decide +kernel
theorem dX6_sign_69 : decode cX6_sign 69 = .ok (.iload_n 1, 1) := by decide +kernel
theorem dX6_sign_70 : decode cX6_sign 70 = .ok (.iaload, 1) := by decide +kernel
theorem dX6_sign_71 : decode cX6_sign 71 = .ok (.ireturn, 1) := by decide +kernel
theorem dX6_stateOf_0 : decode cX6_stateOf 0 = .ok (.iload_n 1, 1) := by decide +kernel
theorem dX6_stateOf_1 : decode cX6_stateOf 1 = .ok (.iconst 2, 1) := by decide +kernel
theorem dX6_stateOf_2 : decode cX6_stateOf 2 = .ok (.aload_n 0, 1) := by decide +kernel
theorem dX6_stateOf_3 : decode cX6_stateOf 3 = .ok (.getfield 54, 3) := by decide +kernel
theorem dX6_stateOf_6 : decode cX6_stateOf 6 = .ok (.iload_n 2, 1) := by decide +kernel
theorem dX6_stateOf_7 : decode cX6_stateOf 7 = .ok (.iaload, 1) := by decide +kernel
theorem dX6_stateOf_8 : decode cX6_stateOf 8 = .ok (.iconst 1, 1) := by decide +kernel
theorem dX6_stateOf_9 : decode cX6_stateOf 9 = .ok (.isub, 1) := by decide +kernel
theorem dX6_stateOf_10 : decode cX6_stateOf 10 = .ok (.iload_n 3, 1) := by decide +kernel
theorem dX6_stateOf_11 : decode cX6_stateOf 11 = .ok (.isub, 1) := by decide +kernel
theorem dX6_stateOf_12 : decode cX6_stateOf 12 = .ok (.imul, 1) := by decide +kernel
theorem dX6_stateOf_13 : decode cX6_stateOf 13 = .ok (.ishr, 1) := by decide +kernel
theorem dX6_stateOf_14 : decode cX6_stateOf 14 = .ok (.iconst 3, 1) := by decide +kernel
theorem dX6_stateOf_15 : decode cX6_stateOf 15 = .ok (.iand, 1) := by decide +kernel
theorem dX6_stateOf_16 : decode cX6_stateOf 16 = .ok (.ireturn, 1) := by decide +kernel
set_option maxRecDepth 20000 in
theorem ggX6_weighPath_X6_stateOf : GoodIn wsX6_weighPath wsX6_stateOf := goodIn_r _ [10, 1, 11, 12, 13, 14, 15, 16, 17, 18, 19, 20, 21, 22, 23, 24, 25, 26, 27, 28, 29, 30, 31, 32, 33, 34, 35] (by decide +kernel) (by decide +kernel)
set_option maxRecDepth 20000 in
theorem gX6_weighPath_X6_stateOf : GoodIn wsX6_weighPath (wsV RX6 167 RX6 yX6_stateOf wsX6_stateOf) := goodIn_app (goodIn_of _ (by decide +kernel)) ggX6_weighPath_X6_stateOf
theorem dX6_weighPath_0 : decode cX6_weighPath 0 = .ok (.lconst 1, 1) := by decide +kernel
theorem dX6_weighPath_1 : decode cX6_weighPath 1 = .ok (.lstore_n 3, 1) := by decide +kernel
theorem dX6_weighPath_2 : decode cX6_weighPath 2 = .ok (.iconst 0, 1) := by decide +kernel
theorem dX6_weighPath_3 : decode cX6_weighPath 3 = .ok (.istore 5, 2) := by decide +kernel
theorem dX6_weighPath_5 : decode cX6_weighPath 5 = .ok (.iload 5, 2) := by decide +kernel
theorem dX6_weighPath_7 : decode cX6_weighPath 7 = .ok (.aload_n 0, 1) := by decide +kernel
theorem dX6_weighPath_8 : decode cX6_weighPath 8 = .ok (.getfield 54, 3) := by decide +kernel
theorem dX6_weighPath_11 : decode cX6_weighPath 11 = .ok (.iload_n 2, 1) := by decide +kernel
theorem dX6_weighPath_12 : decode cX6_weighPath 12 = .ok (.iaload, 1) := by decide +kernel
theorem dX6_weighPath_13 : decode cX6_weighPath 13 = .ok (.if_icmp .ge 84, 3) := by decide +kernel
theorem dX6_weighPath_16 : decode cX6_weighPath 16 = .ok (.aload_n 0, 1) := by decide +kernel
theorem dX6_weighPath_17 : decode cX6_weighPath 17 = .ok (.iload_n 1, 1) := by decide +kernel
theorem dX6_weighPath_18 : decode cX6_weighPath 18 = .ok (.iload_n 2, 1) := by decide +kernel
theorem dX6_weighPath_19 : decode cX6_weighPath 19 = .ok (.iload 5, 2) := by decide +kernel
theorem dX6_weighPath_21 : decode cX6_weighPath 21 = .ok (.invokevirtual 167, 3) := by decide +kernel
theorem dX6_weighPath_24 : decode cX6_weighPath 24 = .ok (.istore 6, 2) := by decide +kernel
theorem dX6_weighPath_26 : decode cX6_weighPath 26 = .ok (.lload_n 3, 1) := by decide +kernel
theorem dX6_weighPath_27 : decode cX6_weighPath 27 = .ok (.iload 5, 2) := by decide +kernel
theorem dX6_weighPath_29 : decode cX6_weighPath 29 = .ok (.ifCond .ne 14, 3) := by decide +kernel
theorem dX6_weighPath_32 : decode cX6_weighPath 32 = .ok (.aload_n 0, 1) := by decide +kernel
theorem dX6_weighPath_33 : decode cX6_weighPath 33 = .ok (.getfield 42, 3) := by decide +kernel
theorem dX6_weighPath_36 : decode cX6_weighPath 36 = .ok (.iload 6, 2) := by decide +kernel
theorem dX6_weighPath_38 : decode cX6_weighPath 38 = .ok (.iaload, 1) := by decide +kernel
theorem dX6_weighPath_39 : decode cX6_weighPath 39 = .ok (.i2l, 1) := by decide +kernel
theorem dX6_weighPath_40 : decode cX6_weighPath 40 = .ok (.goto 24, 3) := by decide +kernel
theorem dX6_weighPath_43 : decode cX6_weighPath 43 = .ok (.aload_n 0, 1) := by decide +kernel
theorem dX6_weighPath_44 : decode cX6_weighPath 44 = .ok (.getfield 45, 3) := by decide +kernel
theorem dX6_weighPath_47 : decode cX6_weighPath 47 = .ok (.iconst 4, 1) := by decide +kernel
theorem dX6_weighPath_48 : decode cX6_weighPath 48 = .ok (.aload_n 0, 1) := by decide +kernel
theorem dX6_weighPath_49 : decode cX6_weighPath 49 = .ok (.iload_n 1, 1) := by decide +kernel
theorem dX6_weighPath_50 : decode cX6_weighPath 50 = .ok (.iload_n 2, 1) := by decide +kernel
theorem dX6_weighPath_51 : decode cX6_weighPath 51 = .ok (.iload 5, 2) := by decide +kernel
theorem dX6_weighPath_53 : decode cX6_weighPath 53 = .ok (.iconst 1, 1) := by decide +kernel
theorem dX6_weighPath_54 : decode cX6_weighPath 54 = .ok (.isub, 1) := by decide +kernel
theorem dX6_weighPath_55 : decode cX6_weighPath 55 = .ok (.invokevirtual 167, 3) := by decide +kernel
theorem dX6_weighPath_58 : decode cX6_weighPath 58 = .ok (.imul, 1) := by decide +kernel
theorem dX6_weighPath_59 : decode cX6_weighPath 59 = .ok (.iload 6, 2) := by decide +kernel
theorem dX6_weighPath_61 : decode cX6_weighPath 61 = .ok (.iadd, 1) := by decide +kernel
theorem dX6_weighPath_62 : decode cX6_weighPath 62 = .ok (.iaload, 1) := by decide +kernel
theorem dX6_weighPath_63 : decode cX6_weighPath 63 = .ok (.i2l, 1) := by decide +kernel
theorem dX6_weighPath_64 : decode cX6_weighPath 64 = .ok (.lmul, 1) := by decide +kernel
theorem dX6_weighPath_65 : decode cX6_weighPath 65 = .ok (.lstore_n 3, 1) := by decide +kernel
theorem dX6_weighPath_66 : decode cX6_weighPath 66 = .ok (.lload_n 3, 1) := by decide +kernel
theorem dX6_weighPath_67 : decode cX6_weighPath 67 = .ok (.aload_n 0, 1) := by decide +kernel
theorem dX6_weighPath_68 : decode cX6_weighPath 68 = .ok (.getfield 48, 3) := by decide +kernel
theorem dX6_weighPath_71 : decode cX6_weighPath 71 = .ok (.iconst 4, 1) := by decide +kernel
theorem dX6_weighPath_72 : decode cX6_weighPath 72 = .ok (.iload 6, 2) := by decide +kernel
theorem dX6_weighPath_74 : decode cX6_weighPath 74 = .ok (.imul, 1) := by decide +kernel
theorem dX6_weighPath_75 : decode cX6_weighPath 75 = .ok (.aload_n 0, 1) := by decide +kernel
theorem dX6_weighPath_76 : decode cX6_weighPath 76 = .ok (.getfield 51, 3) := by decide +kernel
theorem dX6_weighPath_79 : decode cX6_weighPath 79 = .ok (.iconst 5, 1) := by decide +kernel
theorem dX6_weighPath_80 : decode cX6_weighPath 80 = .ok (.iload_n 2, 1) := by decide +kernel
theorem dX6_weighPath_81 : decode cX6_weighPath 81 = .ok (.imul, 1) := by decide +kernel
theorem dX6_weighPath_82 : decode cX6_weighPath 82 = .ok (.iload 5, 2) := by decide +kernel
theorem dX6_weighPath_84 : decode cX6_weighPath 84 = .ok (.iadd, 1) := by decide +kernel
theorem dX6_weighPath_85 : decode cX6_weighPath 85 = .ok (.iaload, 1) := by decide +kernel
theorem dX6_weighPath_86 : decode cX6_weighPath 86 = .ok (.iadd, 1) := by decide +kernel
theorem dX6_weighPath_87 : decode cX6_weighPath 87 = .ok (.iaload, 1) := by decide +kernel
theorem dX6_weighPath_88 : decode cX6_weighPath 88 = .ok (.i2l, 1) := by decide +kernel
theorem dX6_weighPath_89 : decode cX6_weighPath 89 = .ok (.lmul, 1) := by decide +kernel
theorem dX6_weighPath_90 : decode cX6_weighPath 90 = .ok (.lstore_n 3, 1) := by decide +kernel
theorem dX6_weighPath_91 : decode cX6_weighPath 91 = .ok (.iinc 5 1, 3) := by decide +kernel
theorem dX6_weighPath_94 : decode cX6_weighPath 94 = .ok (.goto (-89), 3) := by decide +kernel
theorem dX6_weighPath_97 : decode cX6_weighPath 97 = .ok (.lload_n 3, 1) := by decide +kernel
theorem dX6_weighPath_98 : decode cX6_weighPath 98 = .ok (.lreturn, 1) := by decide +kernel
theorem dX6_paths_0 : decode cX6_paths 0 = .ok (.aload_n 0, 1) := by decide +kernel
theorem dX6_paths_1 : decode cX6_paths 1 = .ok (.getfield 54, 3) := by decide +kernel
theorem dX6_paths_4 : decode cX6_paths 4 = .ok (.iload_n 1, 1) := by decide +kernel
theorem dX6_paths_5 : decode cX6_paths 5 = .ok (.iaload, 1) := by decide +kernel
theorem dX6_paths_6 : decode cX6_paths 6 = .ok (.ifCond .ne 7, 3) := by decide +kernel
theorem dX6_paths_9 : decode cX6_paths 9 = .ok (.iconst 0, 1) := by decide +kernel
theorem dX6_paths_10 : decode cX6_paths 10 = .ok (.goto 13, 3) := by decide +kernel
theorem dX6_paths_13 : decode cX6_paths 13 = .ok (.iconst 1, 1) := by decide +kernel
theorem dX6_paths_14 : decode cX6_paths 14 = .ok (.iconst 2, 1) := by decide +kernel
theorem dX6_paths_15 : decode cX6_paths 15 = .ok (.aload_n 0, 1) := by decide +kernel
theorem dX6_paths_16 : decode cX6_paths 16 = .ok (.getfield 54, 3) := by decide +kernel
theorem dX6_paths_19 : decode cX6_paths 19 = .ok (.iload_n 1, 1) := by decide +kernel
theorem dX6_paths_20 : decode cX6_paths 20 = .ok (.iaload, 1) := by decide +kernel
theorem dX6_paths_21 : decode cX6_paths 21 = .ok (.imul, 1) := by decide +kernel
theorem dX6_paths_22 : decode cX6_paths 22 = .ok (.ishl, 1) := by decide +kernel
theorem dX6_paths_23 : decode cX6_paths 23 = .ok (.ireturn, 1) := by decide +kernel
set_option maxRecDepth 20000 in
theorem ggX6_sum_X6_paths : GoodIn wsX6_sum wsX6_paths := goodIn_r _ [5, 6, 19, 20, 21, 22, 23, 24, 25, 26, 27, 28, 29, 30, 31, 32, 33, 34, 35, 36, 37, 38, 39, 40, 41, 42, 43] (by decide +kernel) (by decide +kernel)
set_option maxRecDepth 20000 in
theorem gX6_sum_X6_paths : GoodIn wsX6_sum (wsV RX6 171 RX6 yX6_paths wsX6_paths) := goodIn_app (goodIn_of _ (by decide +kernel)) ggX6_sum_X6_paths
set_option maxRecDepth 20000 in
theorem ggX6_sum_X6_stateOf : GoodIn wsX6_sum wsX6_stateOf := goodIn_r _ [10, 6, 19, 20, 21, 22, 23, 24, 25, 26, 27, 28, 29, 30, 31, 32, 33, 34, 35, 36, 37, 38, 39, 40, 41, 42, 43] (by decide +kernel) (by decide +kernel)
set_option maxRecDepth 20000 in
theorem gX6_sum_X6_stateOf : GoodIn wsX6_sum (wsV RX6 167 RX6 yX6_stateOf wsX6_stateOf) := goodIn_app (goodIn_of _ (by decide +kernel)) ggX6_sum_X6_stateOf
set_option maxRecDepth 20000 in
theorem ggX6_sum_X6_weighPath : GoodIn wsX6_sum wsX6_weighPath := goodIn_r _ [14, 6, 15, 16, 17, 18, 7, 8, 9, 4, 10, 19, 20, 21, 22, 23, 24, 25, 26, 27, 28, 29, 30, 31, 32, 33, 34, 35, 36, 37, 38, 39, 40, 41, 42, 43] (by decide +kernel) (by decide +kernel)
set_option maxRecDepth 20000 in
theorem gX6_sum_X6_weighPath : GoodIn wsX6_sum (wsV RX6 174 RX6 yX6_weighPath wsX6_weighPath) := goodIn_app (goodIn_of _ (by decide +kernel)) ggX6_sum_X6_weighPath
theorem dX6_sum_0 : decode cX6_sum 0 = .ok (.lconst 0, 1) := by decide +kernel
theorem dX6_sum_1 : decode cX6_sum 1 = .ok (.lstore 4, 2) := by decide +kernel
theorem dX6_sum_3 : decode cX6_sum 3 = .ok (.iconst 0, 1) := by decide +kernel
theorem dX6_sum_4 : decode cX6_sum 4 = .ok (.istore 6, 2) := by decide +kernel
theorem dX6_sum_6 : decode cX6_sum 6 = .ok (.iload 6, 2) := by decide +kernel
theorem dX6_sum_8 : decode cX6_sum 8 = .ok (.aload_n 0, 1) := by decide +kernel
theorem dX6_sum_9 : decode cX6_sum 9 = .ok (.iload_n 1, 1) := by decide +kernel
theorem dX6_sum_10 : decode cX6_sum 10 = .ok (.invokevirtual 171, 3) := by decide +kernel
theorem dX6_sum_13 : decode cX6_sum 13 = .ok (.if_icmp .ge 42, 3) := by decide +kernel
theorem dX6_sum_16 : decode cX6_sum 16 = .ok (.lload 4, 2) := by decide +kernel
theorem dX6_sum_18 : decode cX6_sum 18 = .ok (.iload_n 2, 1) := by decide +kernel
theorem dX6_sum_19 : decode cX6_sum 19 = .ok (.iconst (-1), 1) := by decide +kernel
theorem dX6_sum_20 : decode cX6_sum 20 = .ok (.if_icmp .eq 15, 3) := by decide +kernel
theorem dX6_sum_23 : decode cX6_sum 23 = .ok (.aload_n 0, 1) := by decide +kernel
theorem dX6_sum_24 : decode cX6_sum 24 = .ok (.iload 6, 2) := by decide +kernel
theorem dX6_sum_26 : decode cX6_sum 26 = .ok (.iload_n 1, 1) := by decide +kernel
theorem dX6_sum_27 : decode cX6_sum 27 = .ok (.iload_n 2, 1) := by decide +kernel
theorem dX6_sum_28 : decode cX6_sum 28 = .ok (.invokevirtual 167, 3) := by decide +kernel
theorem dX6_sum_31 : decode cX6_sum 31 = .ok (.iload_n 3, 1) := by decide +kernel
theorem dX6_sum_32 : decode cX6_sum 32 = .ok (.if_icmp .ne 13, 3) := by decide +kernel
theorem dX6_sum_35 : decode cX6_sum 35 = .ok (.aload_n 0, 1) := by decide +kernel
theorem dX6_sum_36 : decode cX6_sum 36 = .ok (.iload 6, 2) := by decide +kernel
theorem dX6_sum_38 : decode cX6_sum 38 = .ok (.iload_n 1, 1) := by decide +kernel
theorem dX6_sum_39 : decode cX6_sum 39 = .ok (.invokevirtual 174, 3) := by decide +kernel
theorem dX6_sum_42 : decode cX6_sum 42 = .ok (.goto 4, 3) := by decide +kernel
theorem dX6_sum_45 : decode cX6_sum 45 = .ok (.lconst 0, 1) := by decide +kernel
theorem dX6_sum_46 : decode cX6_sum 46 = .ok (.ladd, 1) := by decide +kernel
theorem dX6_sum_47 : decode cX6_sum 47 = .ok (.lstore 4, 2) := by decide +kernel
theorem dX6_sum_49 : decode cX6_sum 49 = .ok (.iinc 6 1, 3) := by decide +kernel
theorem dX6_sum_52 : decode cX6_sum 52 = .ok (.goto (-46), 3) := by decide +kernel
theorem dX6_sum_55 : decode cX6_sum 55 = .ok (.lload 4, 2) := by decide +kernel
theorem dX6_sum_57 : decode cX6_sum 57 = .ok (.lreturn, 1) := by decide +kernel
set_option maxRecDepth 20000 in
theorem ggX6_bestPathOf_X6_paths : GoodIn wsX6_bestPathOf wsX6_paths := goodIn_r _ [5, 6, 19, 20, 21, 22, 23, 24, 25, 26, 27, 28, 29, 30, 31, 32, 33, 34, 35, 36, 37, 38, 39, 40, 41, 42, 43] (by decide +kernel) (by decide +kernel)
set_option maxRecDepth 20000 in
theorem gX6_bestPathOf_X6_paths : GoodIn wsX6_bestPathOf (wsV RX6 171 RX6 yX6_paths wsX6_paths) := goodIn_app (goodIn_of _ (by decide +kernel)) ggX6_bestPathOf_X6_paths
set_option maxRecDepth 20000 in
theorem ggX6_bestPathOf_X6_weighPath : GoodIn wsX6_bestPathOf wsX6_weighPath := goodIn_r _ [10, 6, 11, 12, 13, 14, 15, 16, 17, 4, 18, 19, 20, 21, 22, 23, 24, 25, 26, 27, 28, 29, 30, 31, 32, 33, 34, 35, 36, 37, 38, 39, 40, 41, 42, 43] (by decide +kernel) (by decide +kernel)
set_option maxRecDepth 20000 in
theorem gX6_bestPathOf_X6_weighPath : GoodIn wsX6_bestPathOf (wsV RX6 174 RX6 yX6_weighPath wsX6_weighPath) := goodIn_app (goodIn_of _ (by decide +kernel)) ggX6_bestPathOf_X6_weighPath
theorem dX6_bestPathOf_0 : decode cX6_bestPathOf 0 = .ok (.iconst (-1), 1) := by decide +kernel
theorem dX6_bestPathOf_1 : decode cX6_bestPathOf 1 = .ok (.istore_n 2, 1) := by decide +kernel
theorem dX6_bestPathOf_2 : decode cX6_bestPathOf 2 = .ok (.lconst 0, 1) := by decide +kernel
theorem dX6_bestPathOf_3 : decode cX6_bestPathOf 3 = .ok (.lstore_n 3, 1) := by decide +kernel
theorem dX6_bestPathOf_4 : decode cX6_bestPathOf 4 = .ok (.iconst 0, 1) := by decide +kernel
theorem dX6_bestPathOf_5 : decode cX6_bestPathOf 5 = .ok (.istore 5, 2) := by decide +kernel
theorem dX6_bestPathOf_7 : decode cX6_bestPathOf 7 = .ok (.iload 5, 2) := by decide +kernel
theorem dX6_bestPathOf_9 : decode cX6_bestPathOf 9 = .ok (.aload_n 0, 1) := by decide +kernel
theorem dX6_bestPathOf_10 : decode cX6_bestPathOf 10 = .ok (.iload_n 1, 1) := by decide +kernel
theorem dX6_bestPathOf_11 : decode cX6_bestPathOf 11 = .ok (.invokevirtual 171, 3) := by decide +kernel
theorem dX6_bestPathOf_14 : decode cX6_bestPathOf 14 = .ok (.if_icmp .ge 46, 3) := by decide +kernel
theorem dX6_bestPathOf_17 : decode cX6_bestPathOf 17 = .ok (.aload_n 0, 1) := by decide +kernel
theorem dX6_bestPathOf_18 : decode cX6_bestPathOf 18 = .ok (.iload 5, 2) := by decide +kernel
theorem dX6_bestPathOf_20 : decode cX6_bestPathOf 20 = .ok (.iload_n 1, 1) := by decide +kernel
theorem dX6_bestPathOf_21 : decode cX6_bestPathOf 21 = .ok (.invokevirtual 174, 3) := by decide +kernel
theorem dX6_bestPathOf_24 : decode cX6_bestPathOf 24 = .ok (.lstore 6, 2) := by decide +kernel
theorem dX6_bestPathOf_26 : decode cX6_bestPathOf 26 = .ok (.lload 6, 2) := by decide +kernel
theorem dX6_bestPathOf_28 : decode cX6_bestPathOf 28 = .ok (.lload_n 3, 1) := by decide +kernel
theorem dX6_bestPathOf_29 : decode cX6_bestPathOf 29 = .ok (.lcmp, 1) := by decide +kernel
theorem dX6_bestPathOf_30 : decode cX6_bestPathOf 30 = .ok (.ifCond .le 8, 3) := by decide +kernel
theorem dX6_bestPathOf_33 : decode cX6_bestPathOf 33 = .ok (.iload 5, 2) := by decide +kernel
theorem dX6_bestPathOf_35 : decode cX6_bestPathOf 35 = .ok (.goto 4, 3) := by decide +kernel
theorem dX6_bestPathOf_38 : decode cX6_bestPathOf 38 = .ok (.iload_n 2, 1) := by decide +kernel
theorem dX6_bestPathOf_39 : decode cX6_bestPathOf 39 = .ok (.istore_n 2, 1) := by decide +kernel
theorem dX6_bestPathOf_40 : decode cX6_bestPathOf 40 = .ok (.lload 6, 2) := by decide +kernel
theorem dX6_bestPathOf_42 : decode cX6_bestPathOf 42 = .ok (.lload_n 3, 1) := by decide +kernel
theorem dX6_bestPathOf_43 : decode cX6_bestPathOf 43 = .ok (.lcmp, 1) := by decide +kernel
theorem dX6_bestPathOf_44 : decode cX6_bestPathOf 44 = .ok (.ifCond .le 8, 3) := by decide +kernel
theorem dX6_bestPathOf_47 : decode cX6_bestPathOf 47 = .ok (.lload 6, 2) := by decide +kernel
theorem dX6_bestPathOf_49 : decode cX6_bestPathOf 49 = .ok (.goto 4, 3) := by decide +kernel
theorem dX6_bestPathOf_52 : decode cX6_bestPathOf 52 = .ok (.lload_n 3, 1) := by decide +kernel
theorem dX6_bestPathOf_53 : decode cX6_bestPathOf 53 = .ok (.lstore_n 3, 1) := by decide +kernel
theorem dX6_bestPathOf_54 : decode cX6_bestPathOf 54 = .ok (.iinc 5 1, 3) := by decide +kernel
theorem dX6_bestPathOf_57 : decode cX6_bestPathOf 57 = .ok (.goto (-50), 3) := by decide +kernel
theorem dX6_bestPathOf_60 : decode cX6_bestPathOf 60 = .ok (.iload_n 2, 1) := by decide +kernel
theorem dX6_bestPathOf_61 : decode cX6_bestPathOf 61 = .ok (.ireturn, 1) := by decide +kernel
set_option maxRecDepth 20000 in
theorem ggX6_path_X6_within : GoodIn wsX6_path wsX6_within := goodIn_r _ [6] (by decide +kernel) (by decide +kernel)
set_option maxRecDepth 20000 in
theorem gX6_path_X6_within : GoodIn wsX6_path (va_wsS RX6 79 yX6_within wsX6_within) := goodIn_app (goodIn_of _ (by decide +kernel)) ggX6_path_X6_within
set_option maxRecDepth 20000 in
theorem ggX6_path_X6_bestPathOf : GoodIn wsX6_path wsX6_bestPathOf := goodIn_r _ [10, 11, 12, 13, 5, 14, 2, 15, 16, 17, 18, 19, 20, 21, 22, 23, 24, 25, 26, 27, 28, 29, 30, 31, 32, 33, 34, 35, 36, 37, 38, 39, 40, 41, 42, 43, 44, 45, 46, 47, 48, 49, 50, 51] (by decide +kernel) (by decide +kernel)
set_option maxRecDepth 20000 in
theorem gX6_path_X6_bestPathOf : GoodIn wsX6_path (wsV RX6 177 RX6 yX6_bestPathOf wsX6_bestPathOf) := goodIn_app (goodIn_of _ (by decide +kernel)) ggX6_path_X6_bestPathOf
set_option maxRecDepth 20000 in
theorem ggX6_path_X6_stateOf : GoodIn wsX6_path wsX6_stateOf := goodIn_r _ [26, 2, 27, 28, 29, 30, 31, 32, 33, 34, 35, 36, 37, 38, 39, 40, 41, 42, 43, 44, 45, 46, 47, 48, 49, 50, 51] (by decide +kernel) (by decide +kernel)
set_option maxRecDepth 20000 in
theorem gX6_path_X6_stateOf : GoodIn wsX6_path (wsV RX6 167 RX6 yX6_stateOf wsX6_stateOf) := goodIn_app (goodIn_of _ (by decide +kernel)) ggX6_path_X6_stateOf
theorem dX6_path_0 : decode cX6_path 0 = .ok (.aload_n 0, 1) := by decide +kernel
theorem dX6_path_1 : decode cX6_path 1 = .ok (.iconst 0, 1) := by decide +kernel
theorem dX6_path_2 : decode cX6_path 2 = .ok (.putfield 69, 3) := by decide +kernel
theorem dX6_path_5 : decode cX6_path 5 = .ok (.iload_n 1, 1) := by decide +kernel
theorem dX6_path_6 : decode cX6_path 6 = .ok (.iconst 0, 1) := by decide +kernel
theorem dX6_path_7 : decode cX6_path 7 = .ok (.iconst 3, 1) := by decide +kernel
theorem dX6_path_8 : decode cX6_path 8 = .ok (.invokestatic 79, 3) := by decide +kernel
theorem dX6_path_11 : decode cX6_path 11 = .ok (.ifCond .ne 6, 3) := by decide +kernel
theorem dX6_path_14 : decode cX6_path 14 = .ok (.bipush (-2), 2) := by decide +kernel
theorem dX6_path_16 : decode cX6_path 16 = .ok (.ireturn, 1) := by decide +kernel
theorem dX6_path_17 : decode cX6_path 17 = .ok (.aload_n 0, 1) := by decide +kernel
theorem dX6_path_18 : decode cX6_path 18 = .ok (.iload_n 1, 1) := by decide +kernel
theorem dX6_path_19 : decode cX6_path 19 = .ok (.invokevirtual 177, 3) := by decide +kernel
theorem dX6_path_22 : decode cX6_path 22 = .ok (.istore_n 3, 1) := by decide +kernel
theorem dX6_path_23 : decode cX6_path 23 = .ok (.iload_n 3, 1) := by decide +kernel
theorem dX6_path_24 : decode cX6_path 24 = .ok (.iconst (-1), 1) := by decide +kernel
theorem dX6_path_25 : decode cX6_path 25 = .ok (.if_icmp .eq 19, 3) := by decide +kernel
theorem dX6_path_28 : decode cX6_path 28 = .ok (.iload_n 2, 1) := by decide +kernel
theorem dX6_path_29 : decode cX6_path 29 = .ok (.iconst 0, 1) := by decide +kernel
theorem dX6_path_30 : decode cX6_path 30 = .ok (.aload_n 0, 1) := by decide +kernel
theorem dX6_path_31 : decode cX6_path 31 = .ok (.getfield 54, 3) := by decide +kernel
theorem dX6_path_34 : decode cX6_path 34 = .ok (.iload_n 1, 1) := by decide +kernel
theorem dX6_path_35 : decode cX6_path 35 = .ok (.iaload, 1) := by decide +kernel
theorem dX6_path_36 : decode cX6_path 36 = .ok (.iconst 1, 1) := by decide +kernel
theorem dX6_path_37 : decode cX6_path 37 = .ok (.isub, 1) := by decide +kernel
theorem dX6_path_38 : decode cX6_path 38 = .ok (.invokestatic 79, 3) := by decide +kernel
theorem dX6_path_41 : decode cX6_path 41 = .ok (.ifCond .ne 7, 3) := by decide +kernel
theorem dX6_path_44 : decode cX6_path 44 = .ok (.iconst (-1), 1) := by decide +kernel
theorem dX6_path_45 : decode cX6_path 45 = .ok (.goto 10, 3) := by decide +kernel
theorem dX6_path_48 : decode cX6_path 48 = .ok (.aload_n 0, 1) := by decide +kernel
theorem dX6_path_49 : decode cX6_path 49 = .ok (.iload_n 3, 1) := by decide +kernel
theorem dX6_path_50 : decode cX6_path 50 = .ok (.iload_n 1, 1) := by decide +kernel
theorem dX6_path_51 : decode cX6_path 51 = .ok (.iload_n 2, 1) := by decide +kernel
theorem dX6_path_52 : decode cX6_path 52 = .ok (.invokevirtual 167, 3) := by decide +kernel
theorem dX6_path_55 : decode cX6_path 55 = .ok (.ireturn, 1) := by decide +kernel
set_option maxRecDepth 20000 in
theorem ggX6_total_X6_within : GoodIn wsX6_total wsX6_within := goodIn_r _ [6] (by decide +kernel) (by decide +kernel)
set_option maxRecDepth 20000 in
theorem gX6_total_X6_within : GoodIn wsX6_total (va_wsS RX6 79 yX6_within wsX6_within) := goodIn_app (goodIn_of _ (by decide +kernel)) ggX6_total_X6_within
set_option maxRecDepth 20000 in
theorem ggX6_total_X6_sum : GoodIn wsX6_total wsX6_sum := goodIn_r _ [10, 11, 12, 13, 5, 14, 15, 16, 17, 18, 19, 20, 21, 22, 23, 24, 25, 26, 27, 28, 29, 30, 31, 32, 33, 34, 35, 36, 37, 38, 39, 40, 41, 42, 43, 44, 45, 46, 47, 48, 49, 50, 51, 52] (by decide +kernel) (by decide +kernel)
set_option maxRecDepth 20000 in
theorem gX6_total_X6_sum : GoodIn wsX6_total (wsV RX6 180 RX6 yX6_sum wsX6_sum) := goodIn_app (goodIn_of _ (by decide +kernel)) ggX6_total_X6_sum
theorem dX6_total_0 : decode cX6_total 0 = .ok (.aload_n 0, 1) := by decide +kernel
theorem dX6_total_1 : decode cX6_total 1 = .ok (.iconst 0, 1) := by decide +kernel
theorem dX6_total_2 : decode cX6_total 2 = .ok (.putfield 69, 3) := by decide +kernel
theorem dX6_total_5 : decode cX6_total 5 = .ok (.iload_n 1, 1) := by decide +kernel
theorem dX6_total_6 : decode cX6_total 6 = .ok (.iconst 0, 1) := by decide +kernel
theorem dX6_total_7 : decode cX6_total 7 = .ok (.iconst 3, 1) := by decide +kernel
theorem dX6_total_8 : decode cX6_total 8 = .ok (.invokestatic 79, 3) := by decide +kernel
theorem dX6_total_11 : decode cX6_total 11 = .ok (.ifCond .eq 13, 3) := by decide +kernel
theorem dX6_total_14 : decode cX6_total 14 = .ok (.aload_n 0, 1) := by decide +kernel
theorem dX6_total_15 : decode cX6_total 15 = .ok (.iload_n 1, 1) := by decide +kernel
theorem dX6_total_16 : decode cX6_total 16 = .ok (.iconst (-1), 1) := by decide +kernel
theorem dX6_total_17 : decode cX6_total 17 = .ok (.iconst 0, 1) := by decide +kernel
theorem dX6_total_18 : decode cX6_total 18 = .ok (.invokevirtual 180, 3) := by decide +kernel
theorem dX6_total_21 : decode cX6_total 21 = .ok (.goto 6, 3) := by decide +kernel
theorem dX6_total_24 : decode cX6_total 24 = .ok (.ldc2_w 106, 3) := by decide +kernel
theorem dX6_total_27 : decode cX6_total 27 = .ok (.lreturn, 1) := by decide +kernel
set_option maxRecDepth 20000 in
theorem ggX6_at_X6_within : GoodIn wsX6_at wsX6_within := goodIn_r _ [7] (by decide +kernel) (by decide +kernel)
set_option maxRecDepth 20000 in
theorem gX6_at_X6_within : GoodIn wsX6_at (va_wsS RX6 79 yX6_within wsX6_within) := goodIn_app (goodIn_of _ (by decide +kernel)) ggX6_at_X6_within
set_option maxRecDepth 20000 in
theorem ggX6_at_X6_sum : GoodIn wsX6_at wsX6_sum := goodIn_r _ [11, 12, 13, 14, 6, 15, 2, 16, 17, 18, 19, 20, 21, 22, 23, 24, 25, 26, 27, 34, 35, 36, 37, 38, 39, 40, 41, 42, 43, 44, 45, 46, 47, 48, 49, 50, 51, 52, 53, 54, 55, 56, 57, 58] (by decide +kernel) (by decide +kernel)
set_option maxRecDepth 20000 in
theorem gX6_at_X6_sum : GoodIn wsX6_at (wsV RX6 180 RX6 yX6_sum wsX6_sum) := goodIn_app (goodIn_of _ (by decide +kernel)) ggX6_at_X6_sum
set_option maxRecDepth 20000 in
theorem ggX6_at_X6_side : GoodIn wsX6_at wsX6_side := goodIn_r _ [30, 31, 32, 6, 33] (by decide +kernel) (by decide +kernel)
set_option maxRecDepth 20000 in
theorem gX6_at_X6_side : GoodIn wsX6_at (va_wsS RX6 116 yX6_side wsX6_side) := goodIn_app (goodIn_of _ (by decide +kernel)) ggX6_at_X6_side
theorem dX6_at_0 : decode cX6_at 0 = .ok (.aload_n 0, 1) := by decide +kernel
theorem dX6_at_1 : decode cX6_at 1 = .ok (.iconst 0, 1) := by decide +kernel
theorem dX6_at_2 : decode cX6_at 2 = .ok (.putfield 69, 3) := by decide +kernel
theorem dX6_at_5 : decode cX6_at 5 = .ok (.iload_n 1, 1) := by decide +kernel
theorem dX6_at_6 : decode cX6_at 6 = .ok (.iconst 0, 1) := by decide +kernel
theorem dX6_at_7 : decode cX6_at 7 = .ok (.iconst 3, 1) := by decide +kernel
theorem dX6_at_8 : decode cX6_at 8 = .ok (.invokestatic 79, 3) := by decide +kernel
theorem dX6_at_11 : decode cX6_at 11 = .ok (.ifCond .eq 38, 3) := by decide +kernel
theorem dX6_at_14 : decode cX6_at 14 = .ok (.iload_n 2, 1) := by decide +kernel
theorem dX6_at_15 : decode cX6_at 15 = .ok (.iconst 0, 1) := by decide +kernel
theorem dX6_at_16 : decode cX6_at 16 = .ok (.aload_n 0, 1) := by decide +kernel
theorem dX6_at_17 : decode cX6_at 17 = .ok (.getfield 54, 3) := by decide +kernel
theorem dX6_at_20 : decode cX6_at 20 = .ok (.iload_n 1, 1) := by decide +kernel
theorem dX6_at_21 : decode cX6_at 21 = .ok (.iaload, 1) := by decide +kernel
theorem dX6_at_22 : decode cX6_at 22 = .ok (.iconst 1, 1) := by decide +kernel
theorem dX6_at_23 : decode cX6_at 23 = .ok (.isub, 1) := by decide +kernel
theorem dX6_at_24 : decode cX6_at 24 = .ok (.invokestatic 79, 3) := by decide +kernel
theorem dX6_at_27 : decode cX6_at 27 = .ok (.ifCond .eq 22, 3) := by decide +kernel
theorem dX6_at_30 : decode cX6_at 30 = .ok (.iload_n 3, 1) := by decide +kernel
theorem dX6_at_31 : decode cX6_at 31 = .ok (.iconst 0, 1) := by decide +kernel
theorem dX6_at_32 : decode cX6_at 32 = .ok (.iconst 3, 1) := by decide +kernel
theorem dX6_at_33 : decode cX6_at 33 = .ok (.invokestatic 79, 3) := by decide +kernel
theorem dX6_at_36 : decode cX6_at 36 = .ok (.ifCond .eq 13, 3) := by decide +kernel
theorem dX6_at_39 : decode cX6_at 39 = .ok (.iload 4, 2) := by decide +kernel
theorem dX6_at_41 : decode cX6_at 41 = .ok (.iconst 0, 1) := by decide +kernel
theorem dX6_at_42 : decode cX6_at 42 = .ok (.iconst 1, 1) := by decide +kernel
theorem dX6_at_43 : decode cX6_at 43 = .ok (.invokestatic 79, 3) := by decide +kernel
theorem dX6_at_46 : decode cX6_at 46 = .ok (.ifCond .ne 7, 3) := by decide +kernel
theorem dX6_at_49 : decode cX6_at 49 = .ok (.ldc2_w 106, 3) := by decide +kernel
theorem dX6_at_52 : decode cX6_at 52 = .ok (.lreturn, 1) := by decide +kernel
theorem dX6_at_53 : decode cX6_at 53 = .ok (.aload_n 0, 1) := by decide +kernel
theorem dX6_at_54 : decode cX6_at 54 = .ok (.iload_n 1, 1) := by decide +kernel
theorem dX6_at_55 : decode cX6_at 55 = .ok (.iconst (-1), 1) := by decide +kernel
theorem dX6_at_56 : decode cX6_at 56 = .ok (.iconst 0, 1) := by decide +kernel
theorem dX6_at_57 : decode cX6_at 57 = .ok (.invokevirtual 180, 3) := by decide +kernel
theorem dX6_at_60 : decode cX6_at 60 = .ok (.lstore 5, 2) := by decide +kernel
theorem dX6_at_62 : decode cX6_at 62 = .ok (.lload 5, 2) := by decide +kernel
theorem dX6_at_64 : decode cX6_at 64 = .ok (.lconst 0, 1) := by decide +kernel
theorem dX6_at_65 : decode cX6_at 65 = .ok (.lcmp, 1) := by decide +kernel
theorem dX6_at_66 : decode cX6_at 66 = .ok (.ifCond .ne 10, 3) := by decide +kernel
theorem dX6_at_69 : decode cX6_at 69 = .ok (.aload_n 0, 1) := by decide +kernel
theorem dX6_at_70 : decode cX6_at 70 = .ok (.iconst 1, 1) := by decide +kernel
theorem dX6_at_71 : decode cX6_at 71 = .ok (.putfield 69, 3) := by decide +kernel
theorem dX6_at_74 : decode cX6_at 74 = .ok (.lconst 0, 1) := by decide +kernel
theorem dX6_at_75 : decode cX6_at 75 = .ok (.lreturn, 1) := by decide +kernel
theorem dX6_at_76 : decode cX6_at 76 = .ok (.aload_n 0, 1) := by decide +kernel
theorem dX6_at_77 : decode cX6_at 77 = .ok (.iload_n 1, 1) := by decide +kernel
theorem dX6_at_78 : decode cX6_at 78 = .ok (.iload_n 2, 1) := by decide +kernel
theorem dX6_at_79 : decode cX6_at 79 = .ok (.iload_n 3, 1) := by decide +kernel
theorem dX6_at_80 : decode cX6_at 80 = .ok (.invokevirtual 180, 3) := by decide +kernel
theorem dX6_at_83 : decode cX6_at 83 = .ok (.lload 5, 2) := by decide +kernel
theorem dX6_at_85 : decode cX6_at 85 = .ok (.iload 4, 2) := by decide +kernel
theorem dX6_at_87 : decode cX6_at 87 = .ok (.invokestatic 116, 3) := by decide +kernel
theorem dX6_at_90 : decode cX6_at 90 = .ok (.lreturn, 1) := by decide +kernel
set_option maxRecDepth 20000 in
theorem ggX6_countPath_X6_stateOf : GoodIn wsX6_countPath wsX6_stateOf := goodIn_r _ [10, 1, 11, 12, 13, 14, 15, 16, 17, 18, 19, 20, 21, 22, 23, 24, 25, 26, 27, 28, 29, 30, 31, 32, 33, 34, 35] (by decide +kernel) (by decide +kernel)
set_option maxRecDepth 20000 in
theorem gX6_countPath_X6_stateOf : GoodIn wsX6_countPath (wsV RX6 167 RX6 yX6_stateOf wsX6_stateOf) := goodIn_app (goodIn_of _ (by decide +kernel)) ggX6_countPath_X6_stateOf
theorem dX6_countPath_0 : decode cX6_countPath 0 = .ok (.iconst 0, 1) := by decide +kernel
theorem dX6_countPath_1 : decode cX6_countPath 1 = .ok (.istore_n 3, 1) := by decide +kernel
theorem dX6_countPath_2 : decode cX6_countPath 2 = .ok (.iload_n 3, 1) := by decide +kernel
theorem dX6_countPath_3 : decode cX6_countPath 3 = .ok (.aload_n 0, 1) := by decide +kernel
theorem dX6_countPath_4 : decode cX6_countPath 4 = .ok (.getfield 54, 3) := by decide +kernel
theorem dX6_countPath_7 : decode cX6_countPath 7 = .ok (.iload_n 2, 1) := by decide +kernel
theorem dX6_countPath_8 : decode cX6_countPath 8 = .ok (.iaload, 1) := by decide +kernel
theorem dX6_countPath_9 : decode cX6_countPath 9 = .ok (.if_icmp .ge 83, 3) := by decide +kernel
theorem dX6_countPath_12 : decode cX6_countPath 12 = .ok (.aload_n 0, 1) := by decide +kernel
theorem dX6_countPath_13 : decode cX6_countPath 13 = .ok (.iload_n 1, 1) := by decide +kernel
theorem dX6_countPath_14 : decode cX6_countPath 14 = .ok (.iload_n 2, 1) := by decide +kernel
theorem dX6_countPath_15 : decode cX6_countPath 15 = .ok (.iload_n 3, 1) := by decide +kernel
theorem dX6_countPath_16 : decode cX6_countPath 16 = .ok (.invokevirtual 167, 3) := by decide +kernel
theorem dX6_countPath_19 : decode cX6_countPath 19 = .ok (.istore 4, 2) := by decide +kernel
theorem dX6_countPath_21 : decode cX6_countPath 21 = .ok (.iload_n 3, 1) := by decide +kernel
theorem dX6_countPath_22 : decode cX6_countPath 22 = .ok (.ifCond .ne 17, 3) := by decide +kernel
theorem dX6_countPath_25 : decode cX6_countPath 25 = .ok (.aload_n 0, 1) := by decide +kernel
theorem dX6_countPath_26 : decode cX6_countPath 26 = .ok (.getfield 60, 3) := by decide +kernel
theorem dX6_countPath_29 : decode cX6_countPath 29 = .ok (.iload 4, 2) := by decide +kernel
theorem dX6_countPath_31 : decode cX6_countPath 31 = .ok (.dup2, 1) := by decide +kernel
theorem dX6_countPath_32 : decode cX6_countPath 32 = .ok (.iaload, 1) := by decide +kernel
theorem dX6_countPath_33 : decode cX6_countPath 33 = .ok (.iconst 1, 1) := by decide +kernel
theorem dX6_countPath_34 : decode cX6_countPath 34 = .ok (.iadd, 1) := by decide +kernel
theorem dX6_countPath_35 : decode cX6_countPath 35 = .ok (.iastore, 1) := by decide +kernel
theorem dX6_countPath_36 : decode cX6_countPath 36 = .ok (.goto 26, 3) := by decide +kernel
theorem dX6_countPath_39 : decode cX6_countPath 39 = .ok (.aload_n 0, 1) := by decide +kernel
theorem dX6_countPath_40 : decode cX6_countPath 40 = .ok (.getfield 63, 3) := by decide +kernel
theorem dX6_countPath_43 : decode cX6_countPath 43 = .ok (.iconst 4, 1) := by decide +kernel
theorem dX6_countPath_44 : decode cX6_countPath 44 = .ok (.aload_n 0, 1) := by decide +kernel
theorem dX6_countPath_45 : decode cX6_countPath 45 = .ok (.iload_n 1, 1) := by decide +kernel
theorem dX6_countPath_46 : decode cX6_countPath 46 = .ok (.iload_n 2, 1) := by decide +kernel
theorem dX6_countPath_47 : decode cX6_countPath 47 = .ok (.iload_n 3, 1) := by decide +kernel
theorem dX6_countPath_48 : decode cX6_countPath 48 = .ok (.iconst 1, 1) := by decide +kernel
theorem dX6_countPath_49 : decode cX6_countPath 49 = .ok (.isub, 1) := by decide +kernel
theorem dX6_countPath_50 : decode cX6_countPath 50 = .ok (.invokevirtual 167, 3) := by decide +kernel
theorem dX6_countPath_53 : decode cX6_countPath 53 = .ok (.imul, 1) := by decide +kernel
theorem dX6_countPath_54 : decode cX6_countPath 54 = .ok (.iload 4, 2) := by decide +kernel
theorem dX6_countPath_56 : decode cX6_countPath 56 = .ok (.iadd, 1) := by decide +kernel
theorem dX6_countPath_57 : decode cX6_countPath 57 = .ok (.dup2, 1) := by decide +kernel
theorem dX6_countPath_58 : decode cX6_countPath 58 = .ok (.iaload, 1) := by decide +kernel
theorem dX6_countPath_59 : decode cX6_countPath 59 = .ok (.iconst 1, 1) := by decide +kernel
theorem dX6_countPath_60 : decode cX6_countPath 60 = .ok (.iadd, 1) := by decide +kernel
theorem dX6_countPath_61 : decode cX6_countPath 61 = .ok (.iastore, 1) := by decide +kernel
theorem dX6_countPath_62 : decode cX6_countPath 62 = .ok (.aload_n 0, 1) := by decide +kernel
theorem dX6_countPath_63 : decode cX6_countPath 63 = .ok (.getfield 66, 3) := by decide +kernel
theorem dX6_countPath_66 : decode cX6_countPath 66 = .ok (.iconst 4, 1) := by decide +kernel
theorem dX6_countPath_67 : decode cX6_countPath 67 = .ok (.iload 4, 2) := by decide +kernel
theorem dX6_countPath_69 : decode cX6_countPath 69 = .ok (.imul, 1) := by decide +kernel
theorem dX6_countPath_70 : decode cX6_countPath 70 = .ok (.aload_n 0, 1) := by decide +kernel
theorem dX6_countPath_71 : decode cX6_countPath 71 = .ok (.getfield 51, 3) := by decide +kernel
theorem dX6_countPath_74 : decode cX6_countPath 74 = .ok (.iconst 5, 1) := by decide +kernel
theorem dX6_countPath_75 : decode cX6_countPath 75 = .ok (.iload_n 2, 1) := by decide +kernel
theorem dX6_countPath_76 : decode cX6_countPath 76 = .ok (.imul, 1) := by decide +kernel
theorem dX6_countPath_77 : decode cX6_countPath 77 = .ok (.iload_n 3, 1) := by decide +kernel
theorem dX6_countPath_78 : decode cX6_countPath 78 = .ok (.iadd, 1) := by decide +kernel
theorem dX6_countPath_79 : decode cX6_countPath 79 = .ok (.iaload, 1) := by decide +kernel
theorem dX6_countPath_80 : decode cX6_countPath 80 = .ok (.iadd, 1) := by decide +kernel
theorem dX6_countPath_81 : decode cX6_countPath 81 = .ok (.dup2, 1) := by decide +kernel
theorem dX6_countPath_82 : decode cX6_countPath 82 = .ok (.iaload, 1) := by decide +kernel
theorem dX6_countPath_83 : decode cX6_countPath 83 = .ok (.iconst 1, 1) := by decide +kernel
theorem dX6_countPath_84 : decode cX6_countPath 84 = .ok (.iadd, 1) := by decide +kernel
theorem dX6_countPath_85 : decode cX6_countPath 85 = .ok (.iastore, 1) := by decide +kernel
theorem dX6_countPath_86 : decode cX6_countPath 86 = .ok (.iinc 3 1, 3) := by decide +kernel
theorem dX6_countPath_89 : decode cX6_countPath 89 = .ok (.goto (-87), 3) := by decide +kernel
theorem dX6_countPath_92 : decode cX6_countPath 92 = .ok (.return_, 1) := by decide +kernel
set_option maxRecDepth 20000 in
theorem ggX6_learnt_X6_bestPathOf : GoodIn wsX6_learnt wsX6_bestPathOf := goodIn_r _ [12, 13, 14, 15, 11, 16, 17, 18, 19, 20, 21, 5, 6, 7, 22, 23, 24, 25, 26, 31, 32, 33, 34, 35, 36, 37, 38, 39, 40, 41, 42, 43, 44, 45, 46, 47, 48, 49, 50, 51, 52, 53, 54, 55] (by decide +kernel) (by decide +kernel)
set_option maxRecDepth 20000 in
theorem gX6_learnt_X6_bestPathOf : GoodIn wsX6_learnt (wsV RX6 177 RX6 yX6_bestPathOf wsX6_bestPathOf) := goodIn_app (goodIn_of _ (by decide +kernel)) ggX6_learnt_X6_bestPathOf
set_option maxRecDepth 20000 in
theorem ggX6_learnt_X6_countPath : GoodIn wsX6_learnt wsX6_countPath := goodIn_r _ [30, 17, 1, 2, 3, 22, 23, 24, 25, 11, 26, 31, 32, 33, 34, 35, 36, 37, 38, 39, 40, 41, 42, 43, 44, 45, 46, 47, 48, 49, 50, 51, 52, 53, 54, 55] (by decide +kernel) (by decide +kernel)
set_option maxRecDepth 20000 in
theorem gX6_learnt_X6_countPath : GoodIn wsX6_learnt (wsV RX6 184 RX6 yX6_countPath wsX6_countPath) := goodIn_app (goodIn_of _ (by decide +kernel)) ggX6_learnt_X6_countPath
theorem dX6_learnt_0 : decode cX6_learnt 0 = .ok (.iconst 0, 1) := by decide +kernel
theorem dX6_learnt_1 : decode cX6_learnt 1 = .ok (.istore_n 1, 1) := by decide +kernel
theorem dX6_learnt_2 : decode cX6_learnt 2 = .ok (.iload_n 1, 1) := by decide +kernel
theorem dX6_learnt_3 : decode cX6_learnt 3 = .ok (.bipush 16, 2) := by decide +kernel
theorem dX6_learnt_5 : decode cX6_learnt 5 = .ok (.if_icmp .ge 32, 3) := by decide +kernel
theorem dX6_learnt_8 : decode cX6_learnt 8 = .ok (.aload_n 0, 1) := by decide +kernel
theorem dX6_learnt_9 : decode cX6_learnt 9 = .ok (.getfield 60, 3) := by decide +kernel
theorem dX6_learnt_12 : decode cX6_learnt 12 = .ok (.iload_n 1, 1) := by decide +kernel
theorem dX6_learnt_13 : decode cX6_learnt 13 = .ok (.iconst 4, 1) := by decide +kernel
theorem dX6_learnt_14 : decode cX6_learnt 14 = .ok (.irem, 1) := by decide +kernel
theorem dX6_learnt_15 : decode cX6_learnt 15 = .ok (.iconst 1, 1) := by decide +kernel
theorem dX6_learnt_16 : decode cX6_learnt 16 = .ok (.iastore, 1) := by decide +kernel
theorem dX6_learnt_17 : decode cX6_learnt 17 = .ok (.aload_n 0, 1) := by decide +kernel
theorem dX6_learnt_18 : decode cX6_learnt 18 = .ok (.getfield 63, 3) := by decide +kernel
theorem dX6_learnt_21 : decode cX6_learnt 21 = .ok (.iload_n 1, 1) := by decide +kernel
theorem dX6_learnt_22 : decode cX6_learnt 22 = .ok (.iconst 1, 1) := by decide +kernel
theorem dX6_learnt_23 : decode cX6_learnt 23 = .ok (.iastore, 1) := by decide +kernel
theorem dX6_learnt_24 : decode cX6_learnt 24 = .ok (.aload_n 0, 1) := by decide +kernel
theorem dX6_learnt_25 : decode cX6_learnt 25 = .ok (.getfield 66, 3) := by decide +kernel
theorem dX6_learnt_28 : decode cX6_learnt 28 = .ok (.iload_n 1, 1) := by decide +kernel
theorem dX6_learnt_29 : decode cX6_learnt 29 = .ok (.iconst 1, 1) := by decide +kernel
theorem dX6_learnt_30 : decode cX6_learnt 30 = .ok (.iastore, 1) := by decide +kernel
theorem dX6_learnt_31 : decode cX6_learnt 31 = .ok (.iinc 1 1, 3) := by decide +kernel
theorem dX6_learnt_34 : decode cX6_learnt 34 = .ok (.goto (-32), 3) := by decide +kernel
theorem dX6_learnt_37 : decode cX6_learnt 37 = .ok (.iconst 0, 1) := by decide +kernel
theorem dX6_learnt_38 : decode cX6_learnt 38 = .ok (.istore_n 1, 1) := by decide +kernel
theorem dX6_learnt_39 : decode cX6_learnt 39 = .ok (.iload_n 1, 1) := by decide +kernel
theorem dX6_learnt_40 : decode cX6_learnt 40 = .ok (.iconst 4, 1) := by decide +kernel
theorem dX6_learnt_41 : decode cX6_learnt 41 = .ok (.if_icmp .ge 41, 3) := by decide +kernel
theorem dX6_learnt_44 : decode cX6_learnt 44 = .ok (.aload_n 0, 1) := by decide +kernel
theorem dX6_learnt_45 : decode cX6_learnt 45 = .ok (.getfield 57, 3) := by decide +kernel
theorem dX6_learnt_48 : decode cX6_learnt 48 = .ok (.iload_n 1, 1) := by decide +kernel
theorem dX6_learnt_49 : decode cX6_learnt 49 = .ok (.aload_n 0, 1) := by decide +kernel
theorem dX6_learnt_50 : decode cX6_learnt 50 = .ok (.iload_n 1, 1) := by decide +kernel
theorem dX6_learnt_51 : decode cX6_learnt 51 = .ok (.invokevirtual 177, 3) := by decide +kernel
theorem dX6_learnt_54 : decode cX6_learnt 54 = .ok (.iastore, 1) := by decide +kernel
theorem dX6_learnt_55 : decode cX6_learnt 55 = .ok (.aload_n 0, 1) := by decide +kernel
theorem dX6_learnt_56 : decode cX6_learnt 56 = .ok (.getfield 57, 3) := by decide +kernel
theorem dX6_learnt_59 : decode cX6_learnt 59 = .ok (.iload_n 1, 1) := by decide +kernel
theorem dX6_learnt_60 : decode cX6_learnt 60 = .ok (.iaload, 1) := by decide +kernel
theorem dX6_learnt_61 : decode cX6_learnt 61 = .ok (.iconst (-1), 1) := by decide +kernel
theorem dX6_learnt_62 : decode cX6_learnt 62 = .ok (.if_icmp .eq 14, 3) := by decide +kernel
theorem dX6_learnt_65 : decode cX6_learnt 65 = .ok (.aload_n 0, 1) := by decide +kernel
theorem dX6_learnt_66 : decode cX6_learnt 66 = .ok (.aload_n 0, 1) := by decide +kernel
theorem dX6_learnt_67 : decode cX6_learnt 67 = .ok (.getfield 57, 3) := by decide +kernel
theorem dX6_learnt_70 : decode cX6_learnt 70 = .ok (.iload_n 1, 1) := by decide +kernel
theorem dX6_learnt_71 : decode cX6_learnt 71 = .ok (.iaload, 1) := by decide +kernel
theorem dX6_learnt_72 : decode cX6_learnt 72 = .ok (.iload_n 1, 1) := by decide +kernel
theorem dX6_learnt_73 : decode cX6_learnt 73 = .ok (.invokevirtual 184, 3) := by decide +kernel
theorem dX6_learnt_76 : decode cX6_learnt 76 = .ok (.iinc 1 1, 3) := by decide +kernel
theorem dX6_learnt_79 : decode cX6_learnt 79 = .ok (.goto (-40), 3) := by decide +kernel
theorem dX6_learnt_82 : decode cX6_learnt 82 = .ok (.iconst 0, 1) := by decide +kernel
theorem dX6_learnt_83 : decode cX6_learnt 83 = .ok (.istore_n 1, 1) := by decide +kernel
theorem dX6_learnt_84 : decode cX6_learnt 84 = .ok (.iconst 0, 1) := by decide +kernel
theorem dX6_learnt_85 : decode cX6_learnt 85 = .ok (.istore_n 2, 1) := by decide +kernel
theorem dX6_learnt_86 : decode cX6_learnt 86 = .ok (.iload_n 2, 1) := by decide +kernel
theorem dX6_learnt_87 : decode cX6_learnt 87 = .ok (.bipush 16, 2) := by decide +kernel
theorem dX6_learnt_89 : decode cX6_learnt 89 = .ok (.if_icmp .ge 68, 3) := by decide +kernel
theorem dX6_learnt_92 : decode cX6_learnt 92 = .ok (.iload_n 1, 1) := by decide +kernel
theorem dX6_learnt_93 : decode cX6_learnt 93 = .ok (.ifCond .ne 52, 3) := by decide +kernel
theorem dX6_learnt_96 : decode cX6_learnt 96 = .ok (.aload_n 0, 1) := by decide +kernel
theorem dX6_learnt_97 : decode cX6_learnt 97 = .ok (.getfield 42, 3) := by decide +kernel
theorem dX6_learnt_100 : decode cX6_learnt 100 = .ok (.iload_n 2, 1) := by decide +kernel
theorem dX6_learnt_101 : decode cX6_learnt 101 = .ok (.iconst 4, 1) := by decide +kernel
theorem dX6_learnt_102 : decode cX6_learnt 102 = .ok (.irem, 1) := by decide +kernel
theorem dX6_learnt_103 : decode cX6_learnt 103 = .ok (.iaload, 1) := by decide +kernel
theorem dX6_learnt_104 : decode cX6_learnt 104 = .ok (.aload_n 0, 1) := by decide +kernel
theorem dX6_learnt_105 : decode cX6_learnt 105 = .ok (.getfield 60, 3) := by decide +kernel
theorem dX6_learnt_108 : decode cX6_learnt 108 = .ok (.iload_n 2, 1) := by decide +kernel
theorem dX6_learnt_109 : decode cX6_learnt 109 = .ok (.iconst 4, 1) := by decide +kernel
theorem dX6_learnt_110 : decode cX6_learnt 110 = .ok (.irem, 1) := by decide +kernel
theorem dX6_learnt_111 : decode cX6_learnt 111 = .ok (.iaload, 1) := by decide +kernel
theorem dX6_learnt_112 : decode cX6_learnt 112 = .ok (.if_icmp .ne 33, 3) := by decide +kernel
theorem dX6_learnt_115 : decode cX6_learnt 115 = .ok (.aload_n 0, 1) := by decide +kernel
theorem dX6_learnt_116 : decode cX6_learnt 116 = .ok (.getfield 45, 3) := by decide +kernel
theorem dX6_learnt_119 : decode cX6_learnt 119 = .ok (.iload_n 2, 1) := by decide +kernel
theorem dX6_learnt_120 : decode cX6_learnt 120 = .ok (.iaload, 1) := by decide +kernel
theorem dX6_learnt_121 : decode cX6_learnt 121 = .ok (.aload_n 0, 1) := by decide +kernel
theorem dX6_learnt_122 : decode cX6_learnt 122 = .ok (.getfield 63, 3) := by decide +kernel
theorem dX6_learnt_125 : decode cX6_learnt 125 = .ok (.iload_n 2, 1) := by decide +kernel
theorem dX6_learnt_126 : decode cX6_learnt 126 = .ok (.iaload, 1) := by decide +kernel
theorem dX6_learnt_127 : decode cX6_learnt 127 = .ok (.if_icmp .ne 18, 3) := by decide +kernel
theorem dX6_learnt_130 : decode cX6_learnt 130 = .ok (.aload_n 0, 1) := by decide +kernel
theorem dX6_learnt_131 : decode cX6_learnt 131 = .ok (.getfield 48, 3) := by decide +kernel
theorem dX6_learnt_134 : decode cX6_learnt 134 = .ok (.iload_n 2, 1) := by decide +kernel
theorem dX6_learnt_135 : decode cX6_learnt 135 = .ok (.iaload, 1) := by decide +kernel
theorem dX6_learnt_136 : decode cX6_learnt 136 = .ok (.aload_n 0, 1) := by decide +kernel
theorem dX6_learnt_137 : decode cX6_learnt 137 = .ok (.getfield 66, 3) := by decide +kernel
theorem dX6_learnt_140 : decode cX6_learnt 140 = .ok (.iload_n 2, 1) := by decide +kernel
theorem dX6_learnt_141 : decode cX6_learnt 141 = .ok (.iaload, 1) := by decide +kernel
theorem dX6_learnt_142 : decode cX6_learnt 142 = .ok (.if_icmp .eq 7, 3) := by decide +kernel
theorem dX6_learnt_145 : decode cX6_learnt 145 = .ok (.iconst 1, 1) := by decide +kernel
theorem dX6_learnt_146 : decode cX6_learnt 146 = .ok (.goto 4, 3) := by decide +kernel
theorem dX6_learnt_149 : decode cX6_learnt 149 = .ok (.iconst 0, 1) := by decide +kernel
theorem dX6_learnt_150 : decode cX6_learnt 150 = .ok (.istore_n 1, 1) := by decide +kernel
theorem dX6_learnt_151 : decode cX6_learnt 151 = .ok (.iinc 2 1, 3) := by decide +kernel
theorem dX6_learnt_154 : decode cX6_learnt 154 = .ok (.goto (-68), 3) := by decide +kernel
theorem dX6_learnt_157 : decode cX6_learnt 157 = .ok (.iconst 0, 1) := by decide +kernel
theorem dX6_learnt_158 : decode cX6_learnt 158 = .ok (.istore_n 2, 1) := by decide +kernel
theorem dX6_learnt_159 : decode cX6_learnt 159 = .ok (.iload_n 2, 1) := by decide +kernel
theorem dX6_learnt_160 : decode cX6_learnt 160 = .ok (.bipush 16, 2) := by decide +kernel
theorem dX6_learnt_162 : decode cX6_learnt 162 = .ok (.if_icmp .ge 49, 3) := by decide +kernel
theorem dX6_learnt_165 : decode cX6_learnt 165 = .ok (.aload_n 0, 1) := by decide +kernel
theorem dX6_learnt_166 : decode cX6_learnt 166 = .ok (.getfield 42, 3) := by decide +kernel
theorem dX6_learnt_169 : decode cX6_learnt 169 = .ok (.iload_n 2, 1) := by decide +kernel
theorem dX6_learnt_170 : decode cX6_learnt 170 = .ok (.iconst 4, 1) := by decide +kernel
theorem dX6_learnt_171 : decode cX6_learnt 171 = .ok (.irem, 1) := by decide +kernel
theorem dX6_learnt_172 : decode cX6_learnt 172 = .ok (.aload_n 0, 1) := by decide +kernel
theorem dX6_learnt_173 : decode cX6_learnt 173 = .ok (.getfield 60, 3) := by decide +kernel
theorem dX6_learnt_176 : decode cX6_learnt 176 = .ok (.iload_n 2, 1) := by decide +kernel
theorem dX6_learnt_177 : decode cX6_learnt 177 = .ok (.iconst 4, 1) := by decide +kernel
theorem dX6_learnt_178 : decode cX6_learnt 178 = .ok (.irem, 1) := by decide +kernel
theorem dX6_learnt_179 : decode cX6_learnt 179 = .ok (.iaload, 1) := by decide +kernel
theorem dX6_learnt_180 : decode cX6_learnt 180 = .ok (.iastore, 1) := by decide +kernel
theorem dX6_learnt_181 : decode cX6_learnt 181 = .ok (.aload_n 0, 1) := by decide +kernel
theorem dX6_learnt_182 : decode cX6_learnt 182 = .ok (.getfield 45, 3) := by decide +kernel
theorem dX6_learnt_185 : decode cX6_learnt 185 = .ok (.iload_n 2, 1) := by decide +kernel
theorem dX6_learnt_186 : decode cX6_learnt 186 = .ok (.aload_n 0, 1) := by decide +kernel
theorem dX6_learnt_187 : decode cX6_learnt 187 = .ok (.getfield 63, 3) := by decide +kernel
theorem dX6_learnt_190 : decode cX6_learnt 190 = .ok (.iload_n 2, 1) := by decide +kernel
theorem dX6_learnt_191 : decode cX6_learnt 191 = .ok (.iaload, 1) := by decide +kernel
theorem dX6_learnt_192 : decode cX6_learnt 192 = .ok (.iastore, 1) := by decide +kernel
theorem dX6_learnt_193 : decode cX6_learnt 193 = .ok (.aload_n 0, 1) := by decide +kernel
theorem dX6_learnt_194 : decode cX6_learnt 194 = .ok (.getfield 48, 3) := by decide +kernel
theorem dX6_learnt_197 : decode cX6_learnt 197 = .ok (.iload_n 2, 1) := by decide +kernel
theorem dX6_learnt_198 : decode cX6_learnt 198 = .ok (.aload_n 0, 1) := by decide +kernel
theorem dX6_learnt_199 : decode cX6_learnt 199 = .ok (.getfield 66, 3) := by decide +kernel
theorem dX6_learnt_202 : decode cX6_learnt 202 = .ok (.iload_n 2, 1) := by decide +kernel
theorem dX6_learnt_203 : decode cX6_learnt 203 = .ok (.iaload, 1) := by decide +kernel
theorem dX6_learnt_204 : decode cX6_learnt 204 = .ok (.iastore, 1) := by decide +kernel
theorem dX6_learnt_205 : decode cX6_learnt 205 = .ok (.iinc 2 1, 3) := by decide +kernel
theorem dX6_learnt_208 : decode cX6_learnt 208 = .ok (.goto (-49), 3) := by decide +kernel
theorem dX6_learnt_211 : decode cX6_learnt 211 = .ok (.iload_n 1, 1) := by decide +kernel
theorem dX6_learnt_212 : decode cX6_learnt 212 = .ok (.ireturn, 1) := by decide +kernel
set_option maxRecDepth 20000 in
theorem ggX6_learn_X6_within : GoodIn wsX6_learn wsX6_within := goodIn_r _ [5] (by decide +kernel) (by decide +kernel)
set_option maxRecDepth 20000 in
theorem gX6_learn_X6_within : GoodIn wsX6_learn (va_wsS RX6 79 yX6_within wsX6_within) := goodIn_app (goodIn_of _ (by decide +kernel)) ggX6_learn_X6_within
set_option maxRecDepth 20000 in
theorem ggX6_learn_X6_learnt : GoodIn wsX6_learn wsX6_learnt := goodIn_r _ [9, 10, 11, 12, 13, 14, 15, 16, 17, 18, 19, 4, 20, 21, 22, 23, 24, 25, 26, 27, 28, 29, 30, 31, 32, 33, 34, 35, 36, 37, 38, 39, 40, 41, 42, 43, 44, 45, 46, 47, 48, 49, 50, 51, 52, 53, 54, 55, 56, 57, 58, 59, 60, 61, 62, 63] (by decide +kernel) (by decide +kernel)
set_option maxRecDepth 20000 in
theorem gX6_learn_X6_learnt : GoodIn wsX6_learn (wsV RX6 187 RX6 yX6_learnt wsX6_learnt) := goodIn_app (goodIn_of _ (by decide +kernel)) ggX6_learn_X6_learnt
theorem dX6_learn_0 : decode cX6_learn 0 = .ok (.aload_n 0, 1) := by decide +kernel
theorem dX6_learn_1 : decode cX6_learn 1 = .ok (.iconst 0, 1) := by decide +kernel
theorem dX6_learn_2 : decode cX6_learn 2 = .ok (.putfield 69, 3) := by decide +kernel
theorem dX6_learn_5 : decode cX6_learn 5 = .ok (.iload_n 1, 1) := by decide +kernel
theorem dX6_learn_6 : decode cX6_learn 6 = .ok (.iconst 1, 1) := by decide +kernel
theorem dX6_learn_7 : decode cX6_learn 7 = .ok (.bipush 20, 2) := by decide +kernel
theorem dX6_learn_9 : decode cX6_learn 9 = .ok (.invokestatic 79, 3) := by decide +kernel
theorem dX6_learn_12 : decode cX6_learn 12 = .ok (.ifCond .ne 6, 3) := by decide +kernel
theorem dX6_learn_15 : decode cX6_learn 15 = .ok (.bipush (-2), 2) := by decide +kernel
theorem dX6_learn_17 : decode cX6_learn 17 = .ok (.ireturn, 1) := by decide +kernel
theorem dX6_learn_18 : decode cX6_learn 18 = .ok (.iconst 1, 1) := by decide +kernel
theorem dX6_learn_19 : decode cX6_learn 19 = .ok (.istore_n 2, 1) := by decide +kernel
theorem dX6_learn_20 : decode cX6_learn 20 = .ok (.aload_n 0, 1) := by decide +kernel
theorem dX6_learn_21 : decode cX6_learn 21 = .ok (.invokevirtual 187, 3) := by decide +kernel
theorem dX6_learn_24 : decode cX6_learn 24 = .ok (.ifCond .eq 14, 3) := by decide +kernel
theorem dX6_learn_27 : decode cX6_learn 27 = .ok (.iload_n 2, 1) := by decide +kernel
theorem dX6_learn_28 : decode cX6_learn 28 = .ok (.iload_n 1, 1) := by decide +kernel
theorem dX6_learn_29 : decode cX6_learn 29 = .ok (.if_icmp .ge 9, 3) := by decide +kernel
theorem dX6_learn_32 : decode cX6_learn 32 = .ok (.iinc 2 1, 3) := by decide +kernel
theorem dX6_learn_35 : decode cX6_learn 35 = .ok (.goto (-15), 3) := by decide +kernel
theorem dX6_learn_38 : decode cX6_learn 38 = .ok (.iload_n 2, 1) := by decide +kernel
theorem dX6_learn_39 : decode cX6_learn 39 = .ok (.ireturn, 1) := by decide +kernel
theorem dX6_has_0 : decode cX6_has 0 = .ok (.iconst 0, 1) := by decide +kernel
theorem dX6_has_1 : decode cX6_has 1 = .ok (.istore_n 3, 1) := by decide +kernel
theorem dX6_has_2 : decode cX6_has 2 = .ok (.iconst 0, 1) := by decide +kernel
theorem dX6_has_3 : decode cX6_has 3 = .ok (.istore 4, 2) := by decide +kernel
theorem dX6_has_5 : decode cX6_has 5 = .ok (.iload 4, 2) := by decide +kernel
theorem dX6_has_7 : decode cX6_has 7 = .ok (.aload_n 0, 1) := by decide +kernel
theorem dX6_has_8 : decode cX6_has 8 = .ok (.getfield 19, 3) := by decide +kernel
theorem dX6_has_11 : decode cX6_has 11 = .ok (.iload_n 1, 1) := by decide +kernel
theorem dX6_has_12 : decode cX6_has 12 = .ok (.iaload, 1) := by decide +kernel
theorem dX6_has_13 : decode cX6_has 13 = .ok (.if_icmp .ge 35, 3) := by decide +kernel
theorem dX6_has_16 : decode cX6_has 16 = .ok (.iload_n 3, 1) := by decide +kernel
theorem dX6_has_17 : decode cX6_has 17 = .ok (.ifCond .ne 31, 3) := by decide +kernel
theorem dX6_has_20 : decode cX6_has 20 = .ok (.aload_n 0, 1) := by decide +kernel
theorem dX6_has_21 : decode cX6_has 21 = .ok (.getfield 22, 3) := by decide +kernel
theorem dX6_has_24 : decode cX6_has 24 = .ok (.bipush 6, 2) := by decide +kernel
theorem dX6_has_26 : decode cX6_has 26 = .ok (.iload_n 1, 1) := by decide +kernel
theorem dX6_has_27 : decode cX6_has 27 = .ok (.imul, 1) := by decide +kernel
theorem dX6_has_28 : decode cX6_has 28 = .ok (.iload 4, 2) := by decide +kernel
theorem dX6_has_30 : decode cX6_has 30 = .ok (.iadd, 1) := by decide +kernel
theorem dX6_has_31 : decode cX6_has 31 = .ok (.iaload, 1) := by decide +kernel
theorem dX6_has_32 : decode cX6_has 32 = .ok (.iload_n 2, 1) := by decide +kernel
theorem dX6_has_33 : decode cX6_has 33 = .ok (.if_icmp .ne 7, 3) := by decide +kernel
theorem dX6_has_36 : decode cX6_has 36 = .ok (.iconst 1, 1) := by decide +kernel
theorem dX6_has_37 : decode cX6_has 37 = .ok (.goto 4, 3) := by decide +kernel
theorem dX6_has_40 : decode cX6_has 40 = .ok (.iconst 0, 1) := by decide +kernel
theorem dX6_has_41 : decode cX6_has 41 = .ok (.istore_n 3, 1) := by decide +kernel
theorem dX6_has_42 : decode cX6_has 42 = .ok (.iinc 4 1, 3) := by decide +kernel
theorem dX6_has_45 : decode cX6_has 45 = .ok (.goto (-40), 3) := by decide +kernel
theorem dX6_has_48 : decode cX6_has 48 = .ok (.iload_n 3, 1) := by decide +kernel
theorem dX6_has_49 : decode cX6_has 49 = .ok (.ireturn, 1) := by decide +kernel
set_option maxRecDepth 20000 in
theorem ggX6_support_X6_has : GoodIn wsX6_support wsX6_has := goodIn_r _ [6, 7, 8, 9, 10, 11, 12, 13, 14, 15, 16, 17, 18, 19, 20, 21, 22, 23, 24, 25, 26, 27, 28, 29, 30, 31, 32, 33] (by decide +kernel) (by decide +kernel)
set_option maxRecDepth 20000 in
theorem gX6_support_X6_has : GoodIn wsX6_support (wsV RX6 190 RX6 yX6_has wsX6_has) := goodIn_app (goodIn_of _ (by decide +kernel)) ggX6_support_X6_has
theorem dX6_support_0 : decode cX6_support 0 = .ok (.iconst 0, 1) := by decide +kernel
theorem dX6_support_1 : decode cX6_support 1 = .ok (.istore_n 3, 1) := by decide +kernel
theorem dX6_support_2 : decode cX6_support 2 = .ok (.iconst 0, 1) := by decide +kernel
theorem dX6_support_3 : decode cX6_support 3 = .ok (.istore 4, 2) := by decide +kernel
theorem dX6_support_5 : decode cX6_support 5 = .ok (.iload 4, 2) := by decide +kernel
theorem dX6_support_7 : decode cX6_support 7 = .ok (.aload_n 0, 1) := by decide +kernel
theorem dX6_support_8 : decode cX6_support 8 = .ok (.getfield 76, 3) := by decide +kernel
theorem dX6_support_11 : decode cX6_support 11 = .ok (.if_icmp .ge 37, 3) := by decide +kernel
theorem dX6_support_14 : decode cX6_support 14 = .ok (.iload_n 3, 1) := by decide +kernel
theorem dX6_support_15 : decode cX6_support 15 = .ok (.aload_n 0, 1) := by decide +kernel
theorem dX6_support_16 : decode cX6_support 16 = .ok (.iload 4, 2) := by decide +kernel
theorem dX6_support_18 : decode cX6_support 18 = .ok (.iload_n 1, 1) := by decide +kernel
theorem dX6_support_19 : decode cX6_support 19 = .ok (.invokevirtual 190, 3) := by decide +kernel
theorem dX6_support_22 : decode cX6_support 22 = .ok (.ifCond .eq 17, 3) := by decide +kernel
theorem dX6_support_25 : decode cX6_support 25 = .ok (.aload_n 0, 1) := by decide +kernel
theorem dX6_support_26 : decode cX6_support 26 = .ok (.iload 4, 2) := by decide +kernel
theorem dX6_support_28 : decode cX6_support 28 = .ok (.iload_n 2, 1) := by decide +kernel
theorem dX6_support_29 : decode cX6_support 29 = .ok (.invokevirtual 190, 3) := by decide +kernel
theorem dX6_support_32 : decode cX6_support 32 = .ok (.ifCond .eq 7, 3) := by decide +kernel
theorem dX6_support_35 : decode cX6_support 35 = .ok (.iconst 1, 1) := by decide +kernel
theorem dX6_support_36 : decode cX6_support 36 = .ok (.goto 4, 3) := by decide +kernel
theorem dX6_support_39 : decode cX6_support 39 = .ok (.iconst 0, 1) := by decide +kernel
theorem dX6_support_40 : decode cX6_support 40 = .ok (.iadd, 1) := by decide +kernel
theorem dX6_support_41 : decode cX6_support 41 = .ok (.istore_n 3, 1) := by decide +kernel
theorem dX6_support_42 : decode cX6_support 42 = .ok (.iinc 4 1, 3) := by decide +kernel
theorem dX6_support_45 : decode cX6_support 45 = .ok (.goto (-40), 3) := by decide +kernel
theorem dX6_support_48 : decode cX6_support 48 = .ok (.iload_n 3, 1) := by decide +kernel
theorem dX6_support_49 : decode cX6_support 49 = .ok (.ireturn, 1) := by decide +kernel
set_option maxRecDepth 20000 in
theorem ggX6_isRule_X6_support : GoodIn wsX6_isRule wsX6_support := goodIn_r _ [5, 6, 7, 8, 9, 4, 10, 11, 12, 13, 14, 15, 16, 17, 18, 19, 20, 21, 22, 23, 24, 25, 26, 27, 28, 29, 30, 31, 32, 33, 34, 35, 36, 37] (by decide +kernel) (by decide +kernel)
set_option maxRecDepth 20000 in
theorem gX6_isRule_X6_support : GoodIn wsX6_isRule (wsV RX6 193 RX6 yX6_support wsX6_support) := goodIn_app (goodIn_of _ (by decide +kernel)) ggX6_isRule_X6_support
theorem dX6_isRule_0 : decode cX6_isRule 0 = .ok (.iload_n 1, 1) := by decide +kernel
theorem dX6_isRule_1 : decode cX6_isRule 1 = .ok (.bipush 8, 2) := by decide +kernel
theorem dX6_isRule_3 : decode cX6_isRule 3 = .ok (.idiv, 1) := by decide +kernel
theorem dX6_isRule_4 : decode cX6_isRule 4 = .ok (.iload_n 1, 1) := by decide +kernel
theorem dX6_isRule_5 : decode cX6_isRule 5 = .ok (.bipush 8, 2) := by decide +kernel
theorem dX6_isRule_7 : decode cX6_isRule 7 = .ok (.irem, 1) := by decide +kernel
theorem dX6_isRule_8 : decode cX6_isRule 8 = .ok (.if_icmp .eq 22, 3) := by decide +kernel
theorem dX6_isRule_11 : decode cX6_isRule 11 = .ok (.aload_n 0, 1) := by decide +kernel
theorem dX6_isRule_12 : decode cX6_isRule 12 = .ok (.iload_n 1, 1) := by decide +kernel
theorem dX6_isRule_13 : decode cX6_isRule 13 = .ok (.bipush 8, 2) := by decide +kernel
theorem dX6_isRule_15 : decode cX6_isRule 15 = .ok (.idiv, 1) := by decide +kernel
theorem dX6_isRule_16 : decode cX6_isRule 16 = .ok (.iload_n 1, 1) := by decide +kernel
theorem dX6_isRule_17 : decode cX6_isRule 17 = .ok (.bipush 8, 2) := by decide +kernel
theorem dX6_isRule_19 : decode cX6_isRule 19 = .ok (.irem, 1) := by decide +kernel
theorem dX6_isRule_20 : decode cX6_isRule 20 = .ok (.invokevirtual 193, 3) := by decide +kernel
theorem dX6_isRule_23 : decode cX6_isRule 23 = .ok (.ifCond .le 7, 3) := by decide +kernel
theorem dX6_isRule_26 : decode cX6_isRule 26 = .ok (.iconst 1, 1) := by decide +kernel
theorem dX6_isRule_27 : decode cX6_isRule 27 = .ok (.goto 4, 3) := by decide +kernel
theorem dX6_isRule_30 : decode cX6_isRule 30 = .ok (.iconst 0, 1) := by decide +kernel
theorem dX6_isRule_31 : decode cX6_isRule 31 = .ok (.ireturn, 1) := by decide +kernel
set_option maxRecDepth 20000 in
theorem ggX6_isAhead_X6_support : GoodIn wsX6_isAhead wsX6_support := goodIn_r _ [5, 6, 7, 8, 9, 4, 10, 11, 12, 13, 14, 15, 16, 17, 18, 19, 20, 21, 22, 23, 24, 25, 26, 27, 28, 29, 30, 31, 32, 33, 34, 35, 36, 37] (by decide +kernel) (by decide +kernel)
set_option maxRecDepth 20000 in
theorem gX6_isAhead_X6_support : GoodIn wsX6_isAhead (wsV RX6 193 RX6 yX6_support wsX6_support) := goodIn_app (goodIn_of _ (by decide +kernel)) ggX6_isAhead_X6_support
theorem dX6_isAhead_0 : decode cX6_isAhead 0 = .ok (.aload_n 0, 1) := by decide +kernel
theorem dX6_isAhead_1 : decode cX6_isAhead 1 = .ok (.iload_n 1, 1) := by decide +kernel
theorem dX6_isAhead_2 : decode cX6_isAhead 2 = .ok (.bipush 8, 2) := by decide +kernel
theorem dX6_isAhead_4 : decode cX6_isAhead 4 = .ok (.idiv, 1) := by decide +kernel
theorem dX6_isAhead_5 : decode cX6_isAhead 5 = .ok (.iload_n 1, 1) := by decide +kernel
theorem dX6_isAhead_6 : decode cX6_isAhead 6 = .ok (.bipush 8, 2) := by decide +kernel
theorem dX6_isAhead_8 : decode cX6_isAhead 8 = .ok (.irem, 1) := by decide +kernel
theorem dX6_isAhead_9 : decode cX6_isAhead 9 = .ok (.invokevirtual 193, 3) := by decide +kernel
theorem dX6_isAhead_12 : decode cX6_isAhead 12 = .ok (.istore_n 3, 1) := by decide +kernel
theorem dX6_isAhead_13 : decode cX6_isAhead 13 = .ok (.aload_n 0, 1) := by decide +kernel
theorem dX6_isAhead_14 : decode cX6_isAhead 14 = .ok (.iload_n 2, 1) := by decide +kernel
theorem dX6_isAhead_15 : decode cX6_isAhead 15 = .ok (.bipush 8, 2) := by decide +kernel
theorem dX6_isAhead_17 : decode cX6_isAhead 17 = .ok (.idiv, 1) := by decide +kernel
theorem dX6_isAhead_18 : decode cX6_isAhead 18 = .ok (.iload_n 2, 1) := by decide +kernel
theorem dX6_isAhead_19 : decode cX6_isAhead 19 = .ok (.bipush 8, 2) := by decide +kernel
theorem dX6_isAhead_21 : decode cX6_isAhead 21 = .ok (.irem, 1) := by decide +kernel
theorem dX6_isAhead_22 : decode cX6_isAhead 22 = .ok (.invokevirtual 193, 3) := by decide +kernel
theorem dX6_isAhead_25 : decode cX6_isAhead 25 = .ok (.istore 4, 2) := by decide +kernel
theorem dX6_isAhead_27 : decode cX6_isAhead 27 = .ok (.iload_n 3, 1) := by decide +kernel
theorem dX6_isAhead_28 : decode cX6_isAhead 28 = .ok (.iload 4, 2) := by decide +kernel
theorem dX6_isAhead_30 : decode cX6_isAhead 30 = .ok (.if_icmp .eq 15, 3) := by decide +kernel
theorem dX6_isAhead_33 : decode cX6_isAhead 33 = .ok (.iload_n 3, 1) := by decide +kernel
theorem dX6_isAhead_34 : decode cX6_isAhead 34 = .ok (.iload 4, 2) := by decide +kernel
theorem dX6_isAhead_36 : decode cX6_isAhead 36 = .ok (.if_icmp .le 7, 3) := by decide +kernel
theorem dX6_isAhead_39 : decode cX6_isAhead 39 = .ok (.iconst 1, 1) := by decide +kernel
theorem dX6_isAhead_40 : decode cX6_isAhead 40 = .ok (.goto 4, 3) := by decide +kernel
theorem dX6_isAhead_43 : decode cX6_isAhead 43 = .ok (.iconst 0, 1) := by decide +kernel
theorem dX6_isAhead_44 : decode cX6_isAhead 44 = .ok (.ireturn, 1) := by decide +kernel
theorem dX6_isAhead_45 : decode cX6_isAhead 45 = .ok (.aload_n 0, 1) := by decide +kernel
theorem dX6_isAhead_46 : decode cX6_isAhead 46 = .ok (.iload_n 1, 1) := by decide +kernel
theorem dX6_isAhead_47 : decode cX6_isAhead 47 = .ok (.bipush 8, 2) := by decide +kernel
theorem dX6_isAhead_49 : decode cX6_isAhead 49 = .ok (.idiv, 1) := by decide +kernel
theorem dX6_isAhead_50 : decode cX6_isAhead 50 = .ok (.iload_n 1, 1) := by decide +kernel
theorem dX6_isAhead_51 : decode cX6_isAhead 51 = .ok (.bipush 8, 2) := by decide +kernel
theorem dX6_isAhead_53 : decode cX6_isAhead 53 = .ok (.idiv, 1) := by decide +kernel
theorem dX6_isAhead_54 : decode cX6_isAhead 54 = .ok (.invokevirtual 193, 3) := by decide +kernel
theorem dX6_isAhead_57 : decode cX6_isAhead 57 = .ok (.istore 5, 2) := by decide +kernel
theorem dX6_isAhead_59 : decode cX6_isAhead 59 = .ok (.aload_n 0, 1) := by decide +kernel
theorem dX6_isAhead_60 : decode cX6_isAhead 60 = .ok (.iload_n 2, 1) := by decide +kernel
theorem dX6_isAhead_61 : decode cX6_isAhead 61 = .ok (.bipush 8, 2) := by decide +kernel
theorem dX6_isAhead_63 : decode cX6_isAhead 63 = .ok (.idiv, 1) := by decide +kernel
theorem dX6_isAhead_64 : decode cX6_isAhead 64 = .ok (.iload_n 2, 1) := by decide +kernel
theorem dX6_isAhead_65 : decode cX6_isAhead 65 = .ok (.bipush 8, 2) := by decide +kernel
theorem dX6_isAhead_67 : decode cX6_isAhead 67 = .ok (.idiv, 1) := by decide +kernel
theorem dX6_isAhead_68 : decode cX6_isAhead 68 = .ok (.invokevirtual 193, 3) := by decide +kernel
theorem dX6_isAhead_71 : decode cX6_isAhead 71 = .ok (.istore 6, 2) := by decide +kernel
theorem dX6_isAhead_73 : decode cX6_isAhead 73 = .ok (.iload 5, 2) := by decide +kernel
theorem dX6_isAhead_75 : decode cX6_isAhead 75 = .ok (.iload 6, 2) := by decide +kernel
theorem dX6_isAhead_77 : decode cX6_isAhead 77 = .ok (.if_icmp .eq 18, 3) := by decide +kernel
theorem dX6_isAhead_80 : decode cX6_isAhead 80 = .ok (.iload 5, 2) := by decide +kernel
theorem dX6_isAhead_82 : decode cX6_isAhead 82 = .ok (.iload 6, 2) := by decide +kernel
theorem dX6_isAhead_84 : decode cX6_isAhead 84 = .ok (.if_icmp .ge 7, 3) := by decide +kernel
theorem dX6_isAhead_87 : decode cX6_isAhead 87 = .ok (.iconst 1, 1) := by decide +kernel
theorem dX6_isAhead_88 : decode cX6_isAhead 88 = .ok (.goto 17, 3) := by decide +kernel
theorem dX6_isAhead_91 : decode cX6_isAhead 91 = .ok (.iconst 0, 1) := by decide +kernel
theorem dX6_isAhead_92 : decode cX6_isAhead 92 = .ok (.goto 13, 3) := by decide +kernel
theorem dX6_isAhead_95 : decode cX6_isAhead 95 = .ok (.iload_n 1, 1) := by decide +kernel
theorem dX6_isAhead_96 : decode cX6_isAhead 96 = .ok (.iload_n 2, 1) := by decide +kernel
theorem dX6_isAhead_97 : decode cX6_isAhead 97 = .ok (.if_icmp .ge 7, 3) := by decide +kernel
theorem dX6_isAhead_100 : decode cX6_isAhead 100 = .ok (.iconst 1, 1) := by decide +kernel
theorem dX6_isAhead_101 : decode cX6_isAhead 101 = .ok (.goto 4, 3) := by decide +kernel
theorem dX6_isAhead_104 : decode cX6_isAhead 104 = .ok (.iconst 0, 1) := by decide +kernel
theorem dX6_isAhead_105 : decode cX6_isAhead 105 = .ok (.ireturn, 1) := by decide +kernel
set_option maxRecDepth 20000 in
theorem ggX6_rules_X6_isRule : GoodIn wsX6_rules wsX6_isRule := goodIn_r _ [5, 6, 7, 8, 4, 9, 10, 11, 12, 13, 14, 15, 16, 17, 18, 19, 20, 21, 22, 23, 24, 25, 26, 27, 28, 29, 30, 31, 32, 33, 34, 35, 36, 37, 38, 39, 40, 41] (by decide +kernel) (by decide +kernel)
set_option maxRecDepth 20000 in
theorem gX6_rules_X6_isRule : GoodIn wsX6_rules (wsV RX6 196 RX6 yX6_isRule wsX6_isRule) := goodIn_app (goodIn_of _ (by decide +kernel)) ggX6_rules_X6_isRule
theorem dX6_rules_0 : decode cX6_rules 0 = .ok (.iconst 0, 1) := by decide +kernel
theorem dX6_rules_1 : decode cX6_rules 1 = .ok (.istore_n 1, 1) := by decide +kernel
theorem dX6_rules_2 : decode cX6_rules 2 = .ok (.iconst 0, 1) := by decide +kernel
theorem dX6_rules_3 : decode cX6_rules 3 = .ok (.istore_n 2, 1) := by decide +kernel
theorem dX6_rules_4 : decode cX6_rules 4 = .ok (.iload_n 2, 1) := by decide +kernel
theorem dX6_rules_5 : decode cX6_rules 5 = .ok (.bipush 64, 2) := by decide +kernel
theorem dX6_rules_7 : decode cX6_rules 7 = .ok (.if_icmp .ge 25, 3) := by decide +kernel
theorem dX6_rules_10 : decode cX6_rules 10 = .ok (.iload_n 1, 1) := by decide +kernel
theorem dX6_rules_11 : decode cX6_rules 11 = .ok (.aload_n 0, 1) := by decide +kernel
theorem dX6_rules_12 : decode cX6_rules 12 = .ok (.iload_n 2, 1) := by decide +kernel
theorem dX6_rules_13 : decode cX6_rules 13 = .ok (.invokevirtual 196, 3) := by decide +kernel
theorem dX6_rules_16 : decode cX6_rules 16 = .ok (.ifCond .eq 7, 3) := by decide +kernel
theorem dX6_rules_19 : decode cX6_rules 19 = .ok (.iconst 1, 1) := by decide +kernel
theorem dX6_rules_20 : decode cX6_rules 20 = .ok (.goto 4, 3) := by decide +kernel
theorem dX6_rules_23 : decode cX6_rules 23 = .ok (.iconst 0, 1) := by decide +kernel
theorem dX6_rules_24 : decode cX6_rules 24 = .ok (.iadd, 1) := by decide +kernel
theorem dX6_rules_25 : decode cX6_rules 25 = .ok (.istore_n 1, 1) := by decide +kernel
theorem dX6_rules_26 : decode cX6_rules 26 = .ok (.iinc 2 1, 3) := by decide +kernel
theorem dX6_rules_29 : decode cX6_rules 29 = .ok (.goto (-25), 3) := by decide +kernel
theorem dX6_rules_32 : decode cX6_rules 32 = .ok (.iload_n 1, 1) := by decide +kernel
theorem dX6_rules_33 : decode cX6_rules 33 = .ok (.ireturn, 1) := by decide +kernel
set_option maxRecDepth 20000 in
theorem ggX6_ruleAt_X6_isRule : GoodIn wsX6_ruleAt wsX6_isRule := goodIn_r _ [5, 6, 7, 8, 4, 9, 10, 11, 12, 13, 14, 15, 16, 21, 22, 23, 24, 25, 26, 27, 28, 29, 30, 31, 32, 33, 34, 35, 36, 37, 38, 39, 40, 41, 42, 43, 44, 45] (by decide +kernel) (by decide +kernel)
set_option maxRecDepth 20000 in
theorem gX6_ruleAt_X6_isRule : GoodIn wsX6_ruleAt (wsV RX6 196 RX6 yX6_isRule wsX6_isRule) := goodIn_app (goodIn_of _ (by decide +kernel)) ggX6_ruleAt_X6_isRule
set_option maxRecDepth 20000 in
theorem ggX6_ruleAt_X6_isAhead : GoodIn wsX6_ruleAt wsX6_isAhead := goodIn_r _ [20, 6, 7, 8, 4, 9, 10, 11, 12, 13, 14, 15, 16, 21, 22, 23, 24, 25, 26, 27, 28, 29, 30, 31, 32, 33, 34, 35, 36, 37, 38, 39, 40, 41, 42, 43, 44, 45] (by decide +kernel) (by decide +kernel)
set_option maxRecDepth 20000 in
theorem gX6_ruleAt_X6_isAhead : GoodIn wsX6_ruleAt (wsV RX6 199 RX6 yX6_isAhead wsX6_isAhead) := goodIn_app (goodIn_of _ (by decide +kernel)) ggX6_ruleAt_X6_isAhead
theorem dX6_ruleAt_0 : decode cX6_ruleAt 0 = .ok (.iconst 0, 1) := by decide +kernel
theorem dX6_ruleAt_1 : decode cX6_ruleAt 1 = .ok (.istore_n 2, 1) := by decide +kernel
theorem dX6_ruleAt_2 : decode cX6_ruleAt 2 = .ok (.iload_n 2, 1) := by decide +kernel
theorem dX6_ruleAt_3 : decode cX6_ruleAt 3 = .ok (.bipush 64, 2) := by decide +kernel
theorem dX6_ruleAt_5 : decode cX6_ruleAt 5 = .ok (.if_icmp .ge 83, 3) := by decide +kernel
theorem dX6_ruleAt_8 : decode cX6_ruleAt 8 = .ok (.iconst 0, 1) := by decide +kernel
theorem dX6_ruleAt_9 : decode cX6_ruleAt 9 = .ok (.istore_n 3, 1) := by decide +kernel
theorem dX6_ruleAt_10 : decode cX6_ruleAt 10 = .ok (.iconst 0, 1) := by decide +kernel
theorem dX6_ruleAt_11 : decode cX6_ruleAt 11 = .ok (.istore 4, 2) := by decide +kernel
theorem dX6_ruleAt_13 : decode cX6_ruleAt 13 = .ok (.iload 4, 2) := by decide +kernel
theorem dX6_ruleAt_15 : decode cX6_ruleAt 15 = .ok (.bipush 64, 2) := by decide +kernel
theorem dX6_ruleAt_17 : decode cX6_ruleAt 17 = .ok (.if_icmp .ge 50, 3) := by decide +kernel
theorem dX6_ruleAt_20 : decode cX6_ruleAt 20 = .ok (.aload_n 0, 1) := by decide +kernel
theorem dX6_ruleAt_21 : decode cX6_ruleAt 21 = .ok (.iload_n 2, 1) := by decide +kernel
theorem dX6_ruleAt_22 : decode cX6_ruleAt 22 = .ok (.invokevirtual 196, 3) := by decide +kernel
theorem dX6_ruleAt_25 : decode cX6_ruleAt 25 = .ok (.ifCond .eq 42, 3) := by decide +kernel
theorem dX6_ruleAt_28 : decode cX6_ruleAt 28 = .ok (.iload_n 3, 1) := by decide +kernel
theorem dX6_ruleAt_29 : decode cX6_ruleAt 29 = .ok (.iload 4, 2) := by decide +kernel
theorem dX6_ruleAt_31 : decode cX6_ruleAt 31 = .ok (.iload_n 2, 1) := by decide +kernel
theorem dX6_ruleAt_32 : decode cX6_ruleAt 32 = .ok (.if_icmp .eq 26, 3) := by decide +kernel
theorem dX6_ruleAt_35 : decode cX6_ruleAt 35 = .ok (.aload_n 0, 1) := by decide +kernel
theorem dX6_ruleAt_36 : decode cX6_ruleAt 36 = .ok (.iload 4, 2) := by decide +kernel
theorem dX6_ruleAt_38 : decode cX6_ruleAt 38 = .ok (.invokevirtual 196, 3) := by decide +kernel
theorem dX6_ruleAt_41 : decode cX6_ruleAt 41 = .ok (.ifCond .eq 17, 3) := by decide +kernel
theorem dX6_ruleAt_44 : decode cX6_ruleAt 44 = .ok (.aload_n 0, 1) := by decide +kernel
theorem dX6_ruleAt_45 : decode cX6_ruleAt 45 = .ok (.iload 4, 2) := by decide +kernel
theorem dX6_ruleAt_47 : decode cX6_ruleAt 47 = .ok (.iload_n 2, 1) := by decide +kernel
theorem dX6_ruleAt_48 : decode cX6_ruleAt 48 = .ok (.invokevirtual 199, 3) := by decide +kernel
theorem dX6_ruleAt_51 : decode cX6_ruleAt 51 = .ok (.ifCond .eq 7, 3) := by decide +kernel
theorem dX6_ruleAt_54 : decode cX6_ruleAt 54 = .ok (.iconst 1, 1) := by decide +kernel
theorem dX6_ruleAt_55 : decode cX6_ruleAt 55 = .ok (.goto 4, 3) := by decide +kernel
theorem dX6_ruleAt_58 : decode cX6_ruleAt 58 = .ok (.iconst 0, 1) := by decide +kernel
theorem dX6_ruleAt_59 : decode cX6_ruleAt 59 = .ok (.iadd, 1) := by decide +kernel
theorem dX6_ruleAt_60 : decode cX6_ruleAt 60 = .ok (.istore_n 3, 1) := by decide +kernel
theorem dX6_ruleAt_61 : decode cX6_ruleAt 61 = .ok (.iinc 4 1, 3) := by decide +kernel
theorem dX6_ruleAt_64 : decode cX6_ruleAt 64 = .ok (.goto (-51), 3) := by decide +kernel
theorem dX6_ruleAt_67 : decode cX6_ruleAt 67 = .ok (.aload_n 0, 1) := by decide +kernel
theorem dX6_ruleAt_68 : decode cX6_ruleAt 68 = .ok (.iload_n 2, 1) := by decide +kernel
theorem dX6_ruleAt_69 : decode cX6_ruleAt 69 = .ok (.invokevirtual 196, 3) := by decide +kernel
theorem dX6_ruleAt_72 : decode cX6_ruleAt 72 = .ok (.ifCond .eq 10, 3) := by decide +kernel
theorem dX6_ruleAt_75 : decode cX6_ruleAt 75 = .ok (.iload_n 3, 1) := by decide +kernel
theorem dX6_ruleAt_76 : decode cX6_ruleAt 76 = .ok (.iload_n 1, 1) := by decide +kernel
theorem dX6_ruleAt_77 : decode cX6_ruleAt 77 = .ok (.if_icmp .ne 5, 3) := by decide +kernel
theorem dX6_ruleAt_80 : decode cX6_ruleAt 80 = .ok (.iload_n 2, 1) := by decide +kernel
theorem dX6_ruleAt_81 : decode cX6_ruleAt 81 = .ok (.ireturn, 1) := by decide +kernel
theorem dX6_ruleAt_82 : decode cX6_ruleAt 82 = .ok (.iinc 2 1, 3) := by decide +kernel
theorem dX6_ruleAt_85 : decode cX6_ruleAt 85 = .ok (.goto (-83), 3) := by decide +kernel
theorem dX6_ruleAt_88 : decode cX6_ruleAt 88 = .ok (.iconst (-1), 1) := by decide +kernel
theorem dX6_ruleAt_89 : decode cX6_ruleAt 89 = .ok (.ireturn, 1) := by decide +kernel
set_option maxRecDepth 20000 in
theorem ggX6_rule_X6_within : GoodIn wsX6_rule wsX6_within := goodIn_r _ [5] (by decide +kernel) (by decide +kernel)
set_option maxRecDepth 20000 in
theorem gX6_rule_X6_within : GoodIn wsX6_rule (va_wsS RX6 79 yX6_within wsX6_within) := goodIn_app (goodIn_of _ (by decide +kernel)) ggX6_rule_X6_within
set_option maxRecDepth 20000 in
theorem ggX6_rule_X6_rules : GoodIn wsX6_rule wsX6_rules := goodIn_r _ [9, 10, 11, 12, 4, 13, 14, 15, 16, 17, 18, 19, 20, 21, 22, 23, 24, 39, 40, 41, 42, 43, 44, 45, 46, 47, 48, 49, 50, 51, 52, 53, 54, 55, 56, 57, 58, 59, 60, 61, 62, 63] (by decide +kernel) (by decide +kernel)
set_option maxRecDepth 20000 in
theorem gX6_rule_X6_rules : GoodIn wsX6_rule (wsV RX6 202 RX6 yX6_rules wsX6_rules) := goodIn_app (goodIn_of _ (by decide +kernel)) ggX6_rule_X6_rules
set_option maxRecDepth 20000 in
theorem ggX6_rule_X6_ruleAt : GoodIn wsX6_rule wsX6_ruleAt := goodIn_r _ [28, 10, 11, 12, 4, 13, 14, 15, 16, 17, 18, 19, 20, 21, 22, 23, 24, 29, 30, 31, 32, 39, 40, 41, 42, 43, 44, 45, 46, 47, 48, 49, 50, 51, 52, 53, 54, 55, 56, 57, 58, 59, 60, 61, 62, 63] (by decide +kernel) (by decide +kernel)
set_option maxRecDepth 20000 in
theorem gX6_rule_X6_ruleAt : GoodIn wsX6_rule (wsV RX6 206 RX6 yX6_ruleAt wsX6_ruleAt) := goodIn_app (goodIn_of _ (by decide +kernel)) ggX6_rule_X6_ruleAt
set_option maxRecDepth 20000 in
theorem ggX6_rule_X6_support : GoodIn wsX6_rule wsX6_support := goodIn_r _ [17, 18, 19, 20, 21, 4, 22, 23, 24, 39, 40, 41, 42, 43, 44, 45, 46, 47, 48, 49, 50, 51, 52, 53, 54, 55, 56, 57, 58, 59, 60, 61, 62, 63] (by decide +kernel) (by decide +kernel)
set_option maxRecDepth 20000 in
theorem gX6_rule_X6_support : GoodIn wsX6_rule (wsV RX6 193 RX6 yX6_support wsX6_support) := goodIn_app (goodIn_of _ (by decide +kernel)) ggX6_rule_X6_support
set_option maxRecDepth 20000 in
theorem ggX6_rule_X6_side : GoodIn wsX6_rule wsX6_side := goodIn_r _ [35, 36, 37, 4, 38] (by decide +kernel) (by decide +kernel)
set_option maxRecDepth 20000 in
theorem gX6_rule_X6_side : GoodIn wsX6_rule (va_wsS RX6 116 yX6_side wsX6_side) := goodIn_app (goodIn_of _ (by decide +kernel)) ggX6_rule_X6_side
theorem dX6_rule_0 : decode cX6_rule 0 = .ok (.aload_n 0, 1) := by decide +kernel
theorem dX6_rule_1 : decode cX6_rule 1 = .ok (.iconst 0, 1) := by decide +kernel
theorem dX6_rule_2 : decode cX6_rule 2 = .ok (.putfield 69, 3) := by decide +kernel
theorem dX6_rule_5 : decode cX6_rule 5 = .ok (.iload_n 2, 1) := by decide +kernel
theorem dX6_rule_6 : decode cX6_rule 6 = .ok (.iconst 0, 1) := by decide +kernel
theorem dX6_rule_7 : decode cX6_rule 7 = .ok (.iconst 4, 1) := by decide +kernel
theorem dX6_rule_8 : decode cX6_rule 8 = .ok (.invokestatic 79, 3) := by decide +kernel
theorem dX6_rule_11 : decode cX6_rule 11 = .ok (.ifCond .ne 6, 3) := by decide +kernel
theorem dX6_rule_14 : decode cX6_rule 14 = .ok (.bipush (-2), 2) := by decide +kernel
theorem dX6_rule_16 : decode cX6_rule 16 = .ok (.ireturn, 1) := by decide +kernel
theorem dX6_rule_17 : decode cX6_rule 17 = .ok (.iload_n 1, 1) := by decide +kernel
theorem dX6_rule_18 : decode cX6_rule 18 = .ok (.iconst 0, 1) := by decide +kernel
theorem dX6_rule_19 : decode cX6_rule 19 = .ok (.aload_n 0, 1) := by decide +kernel
theorem dX6_rule_20 : decode cX6_rule 20 = .ok (.invokevirtual 202, 3) := by decide +kernel
theorem dX6_rule_23 : decode cX6_rule 23 = .ok (.iconst 1, 1) := by decide +kernel
theorem dX6_rule_24 : decode cX6_rule 24 = .ok (.isub, 1) := by decide +kernel
theorem dX6_rule_25 : decode cX6_rule 25 = .ok (.invokestatic 79, 3) := by decide +kernel
theorem dX6_rule_28 : decode cX6_rule 28 = .ok (.ifCond .ne 5, 3) := by decide +kernel
theorem dX6_rule_31 : decode cX6_rule 31 = .ok (.iconst (-1), 1) := by decide +kernel
theorem dX6_rule_32 : decode cX6_rule 32 = .ok (.ireturn, 1) := by decide +kernel
theorem dX6_rule_33 : decode cX6_rule 33 = .ok (.aload_n 0, 1) := by decide +kernel
theorem dX6_rule_34 : decode cX6_rule 34 = .ok (.iload_n 1, 1) := by decide +kernel
theorem dX6_rule_35 : decode cX6_rule 35 = .ok (.invokevirtual 206, 3) := by decide +kernel
theorem dX6_rule_38 : decode cX6_rule 38 = .ok (.istore_n 3, 1) := by decide +kernel
theorem dX6_rule_39 : decode cX6_rule 39 = .ok (.aload_n 0, 1) := by decide +kernel
theorem dX6_rule_40 : decode cX6_rule 40 = .ok (.iload_n 3, 1) := by decide +kernel
theorem dX6_rule_41 : decode cX6_rule 41 = .ok (.bipush 8, 2) := by decide +kernel
theorem dX6_rule_43 : decode cX6_rule 43 = .ok (.idiv, 1) := by decide +kernel
theorem dX6_rule_44 : decode cX6_rule 44 = .ok (.iload_n 3, 1) := by decide +kernel
theorem dX6_rule_45 : decode cX6_rule 45 = .ok (.bipush 8, 2) := by decide +kernel
theorem dX6_rule_47 : decode cX6_rule 47 = .ok (.irem, 1) := by decide +kernel
theorem dX6_rule_48 : decode cX6_rule 48 = .ok (.invokevirtual 193, 3) := by decide +kernel
theorem dX6_rule_51 : decode cX6_rule 51 = .ok (.istore 4, 2) := by decide +kernel
theorem dX6_rule_53 : decode cX6_rule 53 = .ok (.iload_n 2, 1) := by decide +kernel
theorem dX6_rule_54 : decode cX6_rule 54 = .ok (.tableswitch 39 0 2 #[26, 31, 36], 26) := by decide +kernel
theorem dX6_rule_80 : decode cX6_rule 80 = .ok (.iload_n 3, 1) := by decide +kernel
theorem dX6_rule_81 : decode cX6_rule 81 = .ok (.bipush 8, 2) := by decide +kernel
theorem dX6_rule_83 : decode cX6_rule 83 = .ok (.idiv, 1) := by decide +kernel
theorem dX6_rule_84 : decode cX6_rule 84 = .ok (.ireturn, 1) := by decide +kernel
theorem dX6_rule_85 : decode cX6_rule 85 = .ok (.iload_n 3, 1) := by decide +kernel
theorem dX6_rule_86 : decode cX6_rule 86 = .ok (.bipush 8, 2) := by decide +kernel
theorem dX6_rule_88 : decode cX6_rule 88 = .ok (.irem, 1) := by decide +kernel
theorem dX6_rule_89 : decode cX6_rule 89 = .ok (.ireturn, 1) := by decide +kernel
theorem dX6_rule_90 : decode cX6_rule 90 = .ok (.iload 4, 2) := by decide +kernel
theorem dX6_rule_92 : decode cX6_rule 92 = .ok (.ireturn, 1) := by decide +kernel
theorem dX6_rule_93 : decode cX6_rule 93 = .ok (.iload 4, 2) := by decide +kernel
theorem dX6_rule_95 : decode cX6_rule 95 = .ok (.i2l, 1) := by decide +kernel
theorem dX6_rule_96 : decode cX6_rule 96 = .ok (.aload_n 0, 1) := by decide +kernel
theorem dX6_rule_97 : decode cX6_rule 97 = .ok (.iload_n 3, 1) := by decide +kernel
theorem dX6_rule_98 : decode cX6_rule 98 = .ok (.bipush 8, 2) := by decide +kernel
theorem dX6_rule_100 : decode cX6_rule 100 = .ok (.idiv, 1) := by decide +kernel
theorem dX6_rule_101 : decode cX6_rule 101 = .ok (.iload_n 3, 1) := by decide +kernel
theorem dX6_rule_102 : decode cX6_rule 102 = .ok (.bipush 8, 2) := by decide +kernel
theorem dX6_rule_104 : decode cX6_rule 104 = .ok (.idiv, 1) := by decide +kernel
theorem dX6_rule_105 : decode cX6_rule 105 = .ok (.invokevirtual 193, 3) := by decide +kernel
theorem dX6_rule_108 : decode cX6_rule 108 = .ok (.i2l, 1) := by decide +kernel
theorem dX6_rule_109 : decode cX6_rule 109 = .ok (.iload_n 2, 1) := by decide +kernel
theorem dX6_rule_110 : decode cX6_rule 110 = .ok (.iconst 3, 1) := by decide +kernel
theorem dX6_rule_111 : decode cX6_rule 111 = .ok (.isub, 1) := by decide +kernel
theorem dX6_rule_112 : decode cX6_rule 112 = .ok (.invokestatic 116, 3) := by decide +kernel
theorem dX6_rule_115 : decode cX6_rule 115 = .ok (.l2i, 1) := by decide +kernel
theorem dX6_rule_116 : decode cX6_rule 116 = .ok (.ireturn, 1) := by decide +kernel
set_option maxRecDepth 20000 in
theorem ggX6_count__X6_rules : GoodIn wsX6_count_ wsX6_rules := goodIn_r _ [10, 11, 12, 13, 9, 14, 15, 16, 17, 18, 2, 19, 20, 21, 22, 23, 24, 25, 26, 27, 28, 29, 30, 31, 32, 33, 34, 35, 36, 37, 38, 39, 40, 41, 42, 43, 44, 45, 46, 47, 48, 49] (by decide +kernel) (by decide +kernel)
set_option maxRecDepth 20000 in
theorem gX6_count__X6_rules : GoodIn wsX6_count_ (wsV RX6 202 RX6 yX6_rules wsX6_rules) := goodIn_app (goodIn_of _ (by decide +kernel)) ggX6_count__X6_rules
theorem dX6_count__0 : decode cX6_count_ 0 = .ok (.aload_n 0, 1) := by decide +kernel
theorem dX6_count__1 : decode cX6_count_ 1 = .ok (.iconst 0, 1) := by decide +kernel
theorem dX6_count__2 : decode cX6_count_ 2 = .ok (.putfield 69, 3) := by decide +kernel
theorem dX6_count__5 : decode cX6_count_ 5 = .ok (.iconst 0, 1) := by decide +kernel
theorem dX6_count__6 : decode cX6_count_ 6 = .ok (.istore_n 2, 1) := by decide +kernel
theorem dX6_count__7 : decode cX6_count_ 7 = .ok (.iload_n 1, 1) := by decide +kernel
theorem dX6_count__8 : decode cX6_count_ 8 = .ok (.tableswitch 114 0 4 #[36, 41, 76, 81, 86], 36) := by decide +kernel
theorem dX6_count__44 : decode cX6_count_ 44 = .ok (.aload_n 0, 1) := by decide +kernel
theorem dX6_count__45 : decode cX6_count_ 45 = .ok (.getfield 76, 3) := by decide +kernel
theorem dX6_count__48 : decode cX6_count_ 48 = .ok (.ireturn, 1) := by decide +kernel
theorem dX6_count__49 : decode cX6_count_ 49 = .ok (.iconst 0, 1) := by decide +kernel
theorem dX6_count__50 : decode cX6_count_ 50 = .ok (.istore_n 3, 1) := by decide +kernel
theorem dX6_count__51 : decode cX6_count_ 51 = .ok (.iload_n 3, 1) := by decide +kernel
theorem dX6_count__52 : decode cX6_count_ 52 = .ok (.aload_n 0, 1) := by decide +kernel
theorem dX6_count__53 : decode cX6_count_ 53 = .ok (.getfield 76, 3) := by decide +kernel
theorem dX6_count__56 : decode cX6_count_ 56 = .ok (.if_icmp .ge 26, 3) := by decide +kernel
theorem dX6_count__59 : decode cX6_count_ 59 = .ok (.iload_n 2, 1) := by decide +kernel
theorem dX6_count__60 : decode cX6_count_ 60 = .ok (.aload_n 0, 1) := by decide +kernel
theorem dX6_count__61 : decode cX6_count_ 61 = .ok (.getfield 7, 3) := by decide +kernel
theorem dX6_count__64 : decode cX6_count_ 64 = .ok (.iload_n 3, 1) := by decide +kernel
theorem dX6_count__65 : decode cX6_count_ 65 = .ok (.iaload, 1) := by decide +kernel
theorem dX6_count__66 : decode cX6_count_ 66 = .ok (.ifCond .lt 7, 3) := by decide +kernel
theorem dX6_count__69 : decode cX6_count_ 69 = .ok (.iconst 1, 1) := by decide +kernel
theorem dX6_count__70 : decode cX6_count_ 70 = .ok (.goto 4, 3) := by decide +kernel
theorem dX6_count__73 : decode cX6_count_ 73 = .ok (.iconst 0, 1) := by decide +kernel
theorem dX6_count__74 : decode cX6_count_ 74 = .ok (.iadd, 1) := by decide +kernel
theorem dX6_count__75 : decode cX6_count_ 75 = .ok (.istore_n 2, 1) := by decide +kernel
theorem dX6_count__76 : decode cX6_count_ 76 = .ok (.iinc 3 1, 3) := by decide +kernel
theorem dX6_count__79 : decode cX6_count_ 79 = .ok (.goto (-28), 3) := by decide +kernel
theorem dX6_count__82 : decode cX6_count_ 82 = .ok (.iload_n 2, 1) := by decide +kernel
theorem dX6_count__83 : decode cX6_count_ 83 = .ok (.ireturn, 1) := by decide +kernel
theorem dX6_count__84 : decode cX6_count_ 84 = .ok (.aload_n 0, 1) := by decide +kernel
theorem dX6_count__85 : decode cX6_count_ 85 = .ok (.getfield 142, 3) := by decide +kernel
theorem dX6_count__88 : decode cX6_count_ 88 = .ok (.ireturn, 1) := by decide +kernel
theorem dX6_count__89 : decode cX6_count_ 89 = .ok (.aload_n 0, 1) := by decide +kernel
theorem dX6_count__90 : decode cX6_count_ 90 = .ok (.invokevirtual 202, 3) := by decide +kernel
theorem dX6_count__93 : decode cX6_count_ 93 = .ok (.ireturn, 1) := by decide +kernel
theorem dX6_count__94 : decode cX6_count_ 94 = .ok (.aload_n 0, 1) := by decide +kernel
theorem dX6_count__95 : decode cX6_count_ 95 = .ok (.getfield 54, 3) := by decide +kernel
theorem dX6_count__98 : decode cX6_count_ 98 = .ok (.iconst 0, 1) := by decide +kernel
theorem dX6_count__99 : decode cX6_count_ 99 = .ok (.iaload, 1) := by decide +kernel
theorem dX6_count__100 : decode cX6_count_ 100 = .ok (.aload_n 0, 1) := by decide +kernel
theorem dX6_count__101 : decode cX6_count_ 101 = .ok (.getfield 54, 3) := by decide +kernel
theorem dX6_count__104 : decode cX6_count_ 104 = .ok (.iconst 1, 1) := by decide +kernel
theorem dX6_count__105 : decode cX6_count_ 105 = .ok (.iaload, 1) := by decide +kernel
theorem dX6_count__106 : decode cX6_count_ 106 = .ok (.iadd, 1) := by decide +kernel
theorem dX6_count__107 : decode cX6_count_ 107 = .ok (.aload_n 0, 1) := by decide +kernel
theorem dX6_count__108 : decode cX6_count_ 108 = .ok (.getfield 54, 3) := by decide +kernel
theorem dX6_count__111 : decode cX6_count_ 111 = .ok (.iconst 2, 1) := by decide +kernel
theorem dX6_count__112 : decode cX6_count_ 112 = .ok (.iaload, 1) := by decide +kernel
theorem dX6_count__113 : decode cX6_count_ 113 = .ok (.iadd, 1) := by decide +kernel
theorem dX6_count__114 : decode cX6_count_ 114 = .ok (.aload_n 0, 1) := by decide +kernel
theorem dX6_count__115 : decode cX6_count_ 115 = .ok (.getfield 54, 3) := by decide +kernel
theorem dX6_count__118 : decode cX6_count_ 118 = .ok (.iconst 3, 1) := by decide +kernel
theorem dX6_count__119 : decode cX6_count_ 119 = .ok (.iaload, 1) := by decide +kernel
theorem dX6_count__120 : decode cX6_count_ 120 = .ok (.iadd, 1) := by decide +kernel
theorem dX6_count__121 : decode cX6_count_ 121 = .ok (.ireturn, 1) := by decide +kernel
theorem dX6_count__122 : decode cX6_count_ 122 = .ok (.bipush (-2), 2) := by decide +kernel
theorem dX6_count__124 : decode cX6_count_ 124 = .ok (.ireturn, 1) := by decide +kernel
abbrev vwCl : List vw_C := [(RX1, TX1, 8), (RX2, TX2, 10), (RX3, TX3, 5), (RX4, TX4, 4), (RX5, TX5, 4), (RX6, TX6, 25)]
