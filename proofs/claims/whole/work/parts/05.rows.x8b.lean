theorem dX8_bareCells_41 : decode cX8_bareCells 41 = .ok (.iadd, 1) := by decide +kernel
theorem dX8_bareCells_42 : decode cX8_bareCells 42 = .ok (.istore_n 1, 1) := by decide +kernel
theorem dX8_bareCells_43 : decode cX8_bareCells 43 = .ok (.iinc 2 1, 3) := by decide +kernel
theorem dX8_bareCells_46 : decode cX8_bareCells 46 = .ok (.goto (-42), 3) := by decide +kernel
theorem dX8_bareCells_49 : decode cX8_bareCells 49 = .ok (.iload_n 1, 1) := by decide +kernel
theorem dX8_bareCells_50 : decode cX8_bareCells 50 = .ok (.ireturn, 1) := by decide +kernel
theorem dX8_burning_0 : decode cX8_burning 0 = .ok (.iconst 0, 1) := by decide +kernel
theorem dX8_burning_1 : decode cX8_burning 1 = .ok (.istore_n 1, 1) := by decide +kernel
theorem dX8_burning_2 : decode cX8_burning 2 = .ok (.iconst 0, 1) := by decide +kernel
theorem dX8_burning_3 : decode cX8_burning 3 = .ok (.istore_n 2, 1) := by decide +kernel
theorem dX8_burning_4 : decode cX8_burning 4 = .ok (.iload_n 2, 1) := by decide +kernel
theorem dX8_burning_5 : decode cX8_burning 5 = .ok (.bipush 64, 2) := by decide +kernel
theorem dX8_burning_7 : decode cX8_burning 7 = .ok (.if_icmp .ge 26, 3) := by decide +kernel
theorem dX8_burning_10 : decode cX8_burning 10 = .ok (.iload_n 1, 1) := by decide +kernel
theorem dX8_burning_11 : decode cX8_burning 11 = .ok (.aload_n 0, 1) := by decide +kernel
theorem dX8_burning_12 : decode cX8_burning 12 = .ok (.getfield 32, 3) := by decide +kernel
theorem dX8_burning_15 : decode cX8_burning 15 = .ok (.iload_n 2, 1) := by decide +kernel
theorem dX8_burning_16 : decode cX8_burning 16 = .ok (.baload, 1) := by decide +kernel
theorem dX8_burning_17 : decode cX8_burning 17 = .ok (.ifCond .eq 7, 3) := by decide +kernel
theorem dX8_burning_20 : decode cX8_burning 20 = .ok (.iconst 1, 1) := by decide +kernel
theorem dX8_burning_21 : decode cX8_burning 21 = .ok (.goto 4, 3) := by decide +kernel
theorem dX8_burning_24 : decode cX8_burning 24 = .ok (.iconst 0, 1) := by decide +kernel
theorem dX8_burning_25 : decode cX8_burning 25 = .ok (.iadd, 1) := by decide +kernel
theorem dX8_burning_26 : decode cX8_burning 26 = .ok (.istore_n 1, 1) := by decide +kernel
theorem dX8_burning_27 : decode cX8_burning 27 = .ok (.iinc 2 1, 3) := by decide +kernel
theorem dX8_burning_30 : decode cX8_burning 30 = .ok (.goto (-26), 3) := by decide +kernel
theorem dX8_burning_33 : decode cX8_burning 33 = .ok (.iload_n 1, 1) := by decide +kernel
theorem dX8_burning_34 : decode cX8_burning 34 = .ok (.ireturn, 1) := by decide +kernel
set_option maxRecDepth 20000 in
theorem ggX8_leastCovered_X8_isOutside : GoodIn wsX8_leastCovered wsX8_isOutside := goodIn_r _ [8, 1, 2, 9, 10, 11, 7, 12, 13, 14, 15, 16, 17, 18, 19, 20, 21, 22, 23, 24, 25, 26, 27, 28, 29, 30, 31, 32, 33, 34, 35, 36, 37, 38, 39, 40, 41, 42, 43, 44, 45, 46, 47, 48, 49, 50, 51, 52, 53, 54, 55, 56, 57, 58, 59, 60, 61, 62, 63, 64, 65, 66, 67, 68, 69, 70, 71, 72] (by decide +kernel) (by decide +kernel)
set_option maxRecDepth 20000 in
theorem gX8_leastCovered_X8_isOutside : GoodIn wsX8_leastCovered (wsV RX8 196 RX8 yX8_isOutside wsX8_isOutside) := goodIn_app (goodIn_of _ (by decide +kernel)) ggX8_leastCovered_X8_isOutside
theorem dX8_leastCovered_0 : decode cX8_leastCovered 0 = .ok (.iconst (-1), 1) := by decide +kernel
theorem dX8_leastCovered_1 : decode cX8_leastCovered 1 = .ok (.istore_n 1, 1) := by decide +kernel
theorem dX8_leastCovered_2 : decode cX8_leastCovered 2 = .ok (.iconst 0, 1) := by decide +kernel
theorem dX8_leastCovered_3 : decode cX8_leastCovered 3 = .ok (.istore_n 2, 1) := by decide +kernel
theorem dX8_leastCovered_4 : decode cX8_leastCovered 4 = .ok (.iload_n 2, 1) := by decide +kernel
theorem dX8_leastCovered_5 : decode cX8_leastCovered 5 = .ok (.aload_n 0, 1) := by decide +kernel
theorem dX8_leastCovered_6 : decode cX8_leastCovered 6 = .ok (.getfield 13, 3) := by decide +kernel
theorem dX8_leastCovered_9 : decode cX8_leastCovered 9 = .ok (.if_icmp .ge 65, 3) := by decide +kernel
theorem dX8_leastCovered_12 : decode cX8_leastCovered 12 = .ok (.iconst 0, 1) := by decide +kernel
theorem dX8_leastCovered_13 : decode cX8_leastCovered 13 = .ok (.istore_n 3, 1) := by decide +kernel
theorem dX8_leastCovered_14 : decode cX8_leastCovered 14 = .ok (.iload_n 3, 1) := by decide +kernel
theorem dX8_leastCovered_15 : decode cX8_leastCovered 15 = .ok (.aload_n 0, 1) := by decide +kernel
theorem dX8_leastCovered_16 : decode cX8_leastCovered 16 = .ok (.getfield 16, 3) := by decide +kernel
theorem dX8_leastCovered_19 : decode cX8_leastCovered 19 = .ok (.if_icmp .ge 49, 3) := by decide +kernel
theorem dX8_leastCovered_22 : decode cX8_leastCovered 22 = .ok (.iload_n 3, 1) := by decide +kernel
theorem dX8_leastCovered_23 : decode cX8_leastCovered 23 = .ok (.bipush 8, 2) := by decide +kernel
theorem dX8_leastCovered_25 : decode cX8_leastCovered 25 = .ok (.imul, 1) := by decide +kernel
theorem dX8_leastCovered_26 : decode cX8_leastCovered 26 = .ok (.iload_n 2, 1) := by decide +kernel
theorem dX8_leastCovered_27 : decode cX8_leastCovered 27 = .ok (.iadd, 1) := by decide +kernel
theorem dX8_leastCovered_28 : decode cX8_leastCovered 28 = .ok (.istore 4, 2) := by decide +kernel
theorem dX8_leastCovered_30 : decode cX8_leastCovered 30 = .ok (.aload_n 0, 1) := by decide +kernel
theorem dX8_leastCovered_31 : decode cX8_leastCovered 31 = .ok (.iload 4, 2) := by decide +kernel
theorem dX8_leastCovered_33 : decode cX8_leastCovered 33 = .ok (.invokevirtual 196, 3) := by decide +kernel
theorem dX8_leastCovered_36 : decode cX8_leastCovered 36 = .ok (.ifCond .eq 26, 3) := by decide +kernel
theorem dX8_leastCovered_39 : decode cX8_leastCovered 39 = .ok (.iload_n 1, 1) := by decide +kernel
theorem dX8_leastCovered_40 : decode cX8_leastCovered 40 = .ok (.ifCond .lt 19, 3) := by decide +kernel
theorem dX8_leastCovered_43 : decode cX8_leastCovered 43 = .ok (.aload_n 0, 1) := by decide +kernel
theorem dX8_leastCovered_44 : decode cX8_leastCovered 44 = .ok (.getfield 42, 3) := by decide +kernel
theorem dX8_leastCovered_47 : decode cX8_leastCovered 47 = .ok (.iload 4, 2) := by decide +kernel
theorem dX8_leastCovered_49 : decode cX8_leastCovered 49 = .ok (.iaload, 1) := by decide +kernel
theorem dX8_leastCovered_50 : decode cX8_leastCovered 50 = .ok (.aload_n 0, 1) := by decide +kernel
theorem dX8_leastCovered_51 : decode cX8_leastCovered 51 = .ok (.getfield 42, 3) := by decide +kernel
theorem dX8_leastCovered_54 : decode cX8_leastCovered 54 = .ok (.iload_n 1, 1) := by decide +kernel
theorem dX8_leastCovered_55 : decode cX8_leastCovered 55 = .ok (.iaload, 1) := by decide +kernel
theorem dX8_leastCovered_56 : decode cX8_leastCovered 56 = .ok (.if_icmp .ge 6, 3) := by decide +kernel
theorem dX8_leastCovered_59 : decode cX8_leastCovered 59 = .ok (.iload 4, 2) := by decide +kernel
theorem dX8_leastCovered_61 : decode cX8_leastCovered 61 = .ok (.istore_n 1, 1) := by decide +kernel
theorem dX8_leastCovered_62 : decode cX8_leastCovered 62 = .ok (.iinc 3 1, 3) := by decide +kernel
theorem dX8_leastCovered_65 : decode cX8_leastCovered 65 = .ok (.goto (-51), 3) := by decide +kernel
theorem dX8_leastCovered_68 : decode cX8_leastCovered 68 = .ok (.iinc 2 1, 3) := by decide +kernel
theorem dX8_leastCovered_71 : decode cX8_leastCovered 71 = .ok (.goto (-67), 3) := by decide +kernel
theorem dX8_leastCovered_74 : decode cX8_leastCovered 74 = .ok (.iload_n 1, 1) := by decide +kernel
theorem dX8_leastCovered_75 : decode cX8_leastCovered 75 = .ok (.ireturn, 1) := by decide +kernel
set_option maxRecDepth 20000 in
theorem ggX8_watchers_X8_bareCells : GoodIn wsX8_watchers wsX8_bareCells := goodIn_r _ [10, 3, 11, 12, 13, 9, 14, 15, 16, 17, 18, 19, 20, 21, 22, 23, 24, 25, 26, 27, 28, 57, 58, 59, 60, 61, 62, 63, 64, 65, 66, 67, 68, 69, 70, 71, 72, 73, 74, 75, 76, 77, 78, 79, 80, 81, 82, 83, 84, 85, 86, 87, 88, 89, 90, 91, 92, 93, 94, 95, 96, 97, 98, 99, 100, 101, 102, 103, 104, 105, 106, 107, 108, 109, 110, 111, 112] (by decide +kernel) (by decide +kernel)
set_option maxRecDepth 20000 in
theorem gX8_watchers_X8_bareCells : GoodIn wsX8_watchers (wsV RX8 251 RX8 yX8_bareCells wsX8_bareCells) := goodIn_app (goodIn_of _ (by decide +kernel)) ggX8_watchers_X8_bareCells
set_option maxRecDepth 20000 in
theorem ggX8_watchers_X8_leastCovered : GoodIn wsX8_watchers wsX8_leastCovered := goodIn_r _ [32, 15, 16, 3, 25, 26, 27, 9, 28, 17, 18, 19, 20, 21, 22, 23, 24, 57, 58, 59, 60, 61, 62, 63, 64, 65, 66, 67, 68, 69, 70, 71, 72, 73, 74, 75, 76, 77, 78, 79, 80, 81, 82, 83, 84, 85, 86, 87, 88, 89, 90, 91, 92, 93, 94, 95, 96, 97, 98, 99, 100, 101, 102, 103, 104, 105, 106, 107, 108, 109, 110, 111, 112] (by decide +kernel) (by decide +kernel)
set_option maxRecDepth 20000 in
theorem gX8_watchers_X8_leastCovered : GoodIn wsX8_watchers (wsV RX8 262 RX8 yX8_leastCovered wsX8_leastCovered) := goodIn_app (goodIn_of _ (by decide +kernel)) ggX8_watchers_X8_leastCovered
set_option maxRecDepth 20000 in
theorem ggX8_watchers_X8_holds : GoodIn wsX8_watchers wsX8_holds := goodIn_r _ [36, 37, 38, 2, 39, 40, 41, 42, 43, 9, 44, 45, 46, 57, 58, 59, 60, 61, 62, 63, 64, 65, 66, 67, 68, 69, 70, 71, 72, 73, 74, 75, 76, 77, 78, 79, 80, 81, 82, 83, 84, 85, 86, 87, 88, 89, 90, 91, 92, 93, 94, 95, 96, 97, 98, 99, 100, 101, 102, 103, 104, 105, 106, 107, 108, 109, 110, 111, 112] (by decide +kernel) (by decide +kernel)
set_option maxRecDepth 20000 in
theorem gX8_watchers_X8_holds : GoodIn wsX8_watchers (wsV RX8 265 RX8 yX8_holds wsX8_holds) := goodIn_app (goodIn_of _ (by decide +kernel)) ggX8_watchers_X8_holds
set_option maxRecDepth 20000 in
theorem ggX8_watchers_X8_goes : GoodIn wsX8_watchers wsX8_goes := goodIn_r _ [50, 51, 3, 52, 53, 54, 55, 45, 46, 56, 29, 30, 31, 9, 32, 15, 16, 25, 26, 27, 28, 17, 18, 19, 20, 21, 22, 23, 24, 57, 58, 59, 60, 61, 62, 63, 64, 65, 66, 67, 68, 69, 70, 71, 72, 73, 74, 75, 76, 77, 78, 79, 80, 81, 82, 83, 84, 85, 86, 87, 88, 89, 90, 91, 92, 93, 94, 95, 96, 97, 98, 99, 100, 101, 102, 103, 104, 105, 106, 107, 108, 109, 110, 111, 112] (by decide +kernel) (by decide +kernel)
set_option maxRecDepth 20000 in
theorem gX8_watchers_X8_goes : GoodIn wsX8_watchers (wsV RX8 269 RX8 yX8_goes wsX8_goes) := goodIn_app (goodIn_of _ (by decide +kernel)) ggX8_watchers_X8_goes
theorem dX8_watchers_0 : decode cX8_watchers 0 = .ok (.aload_n 0, 1) := by decide +kernel
theorem dX8_watchers_1 : decode cX8_watchers 1 = .ok (.getfield 70, 3) := by decide +kernel
theorem dX8_watchers_4 : decode cX8_watchers 4 = .ok (.aload_n 0, 1) := by decide +kernel
theorem dX8_watchers_5 : decode cX8_watchers 5 = .ok (.getfield 163, 3) := by decide +kernel
theorem dX8_watchers_8 : decode cX8_watchers 8 = .ok (.bipush 24, 2) := by decide +kernel
theorem dX8_watchers_10 : decode cX8_watchers 10 = .ok (.irem, 1) := by decide +kernel
theorem dX8_watchers_11 : decode cX8_watchers 11 = .ok (.ishr, 1) := by decide +kernel
theorem dX8_watchers_12 : decode cX8_watchers 12 = .ok (.iconst 1, 1) := by decide +kernel
theorem dX8_watchers_13 : decode cX8_watchers 13 = .ok (.iand, 1) := by decide +kernel
theorem dX8_watchers_14 : decode cX8_watchers 14 = .ok (.iconst 1, 1) := by decide +kernel
theorem dX8_watchers_15 : decode cX8_watchers 15 = .ok (.if_icmp .ne 7, 3) := by decide +kernel
theorem dX8_watchers_18 : decode cX8_watchers 18 = .ok (.iconst 1, 1) := by decide +kernel
theorem dX8_watchers_19 : decode cX8_watchers 19 = .ok (.goto 4, 3) := by decide +kernel
theorem dX8_watchers_22 : decode cX8_watchers 22 = .ok (.iconst 0, 1) := by decide +kernel
theorem dX8_watchers_23 : decode cX8_watchers 23 = .ok (.istore 4, 2) := by decide +kernel
theorem dX8_watchers_25 : decode cX8_watchers 25 = .ok (.iload 4, 2) := by decide +kernel
theorem dX8_watchers_27 : decode cX8_watchers 27 = .ok (.ifCond .eq 7, 3) := by decide +kernel
theorem dX8_watchers_30 : decode cX8_watchers 30 = .ok (.iload_n 1, 1) := by decide +kernel
theorem dX8_watchers_31 : decode cX8_watchers 31 = .ok (.goto 6, 3) := by decide +kernel
theorem dX8_watchers_34 : decode cX8_watchers 34 = .ok (.sipush 9999, 3) := by decide +kernel
theorem dX8_watchers_37 : decode cX8_watchers 37 = .ok (.istore 5, 2) := by decide +kernel
theorem dX8_watchers_39 : decode cX8_watchers 39 = .ok (.iload 4, 2) := by decide +kernel
theorem dX8_watchers_41 : decode cX8_watchers 41 = .ok (.ifCond .eq 10, 3) := by decide +kernel
theorem dX8_watchers_44 : decode cX8_watchers 44 = .ok (.aload_n 0, 1) := by decide +kernel
theorem dX8_watchers_45 : decode cX8_watchers 45 = .ok (.invokevirtual 251, 3) := by decide +kernel
theorem dX8_watchers_48 : decode cX8_watchers 48 = .ok (.goto 5, 3) := by decide +kernel
theorem dX8_watchers_51 : decode cX8_watchers 51 = .ok (.bipush 99, 2) := by decide +kernel
theorem dX8_watchers_53 : decode cX8_watchers 53 = .ok (.istore 6, 2) := by decide +kernel
theorem dX8_watchers_55 : decode cX8_watchers 55 = .ok (.iload 4, 2) := by decide +kernel
theorem dX8_watchers_57 : decode cX8_watchers 57 = .ok (.ifCond .eq 15, 3) := by decide +kernel
theorem dX8_watchers_60 : decode cX8_watchers 60 = .ok (.aload_n 0, 1) := by decide +kernel
theorem dX8_watchers_61 : decode cX8_watchers 61 = .ok (.getfield 42, 3) := by decide +kernel
theorem dX8_watchers_64 : decode cX8_watchers 64 = .ok (.aload_n 0, 1) := by decide +kernel
theorem dX8_watchers_65 : decode cX8_watchers 65 = .ok (.invokevirtual 262, 3) := by decide +kernel
theorem dX8_watchers_68 : decode cX8_watchers 68 = .ok (.iaload, 1) := by decide +kernel
theorem dX8_watchers_69 : decode cX8_watchers 69 = .ok (.goto 4, 3) := by decide +kernel
theorem dX8_watchers_72 : decode cX8_watchers 72 = .ok (.iconst 0, 1) := by decide +kernel
theorem dX8_watchers_73 : decode cX8_watchers 73 = .ok (.istore 7, 2) := by decide +kernel
theorem dX8_watchers_75 : decode cX8_watchers 75 = .ok (.iconst 0, 1) := by decide +kernel
theorem dX8_watchers_76 : decode cX8_watchers 76 = .ok (.istore 8, 2) := by decide +kernel
theorem dX8_watchers_78 : decode cX8_watchers 78 = .ok (.iconst 0, 1) := by decide +kernel
theorem dX8_watchers_79 : decode cX8_watchers 79 = .ok (.istore 9, 2) := by decide +kernel
theorem dX8_watchers_81 : decode cX8_watchers 81 = .ok (.iload 9, 2) := by decide +kernel
theorem dX8_watchers_83 : decode cX8_watchers 83 = .ok (.aload_n 0, 1) := by decide +kernel
theorem dX8_watchers_84 : decode cX8_watchers 84 = .ok (.getfield 200, 3) := by decide +kernel
theorem dX8_watchers_87 : decode cX8_watchers 87 = .ok (.if_icmp .ge 58, 3) := by decide +kernel
theorem dX8_watchers_90 : decode cX8_watchers 90 = .ok (.aload_n 0, 1) := by decide +kernel
theorem dX8_watchers_91 : decode cX8_watchers 91 = .ok (.getfield 115, 3) := by decide +kernel
theorem dX8_watchers_94 : decode cX8_watchers 94 = .ok (.iload 9, 2) := by decide +kernel
theorem dX8_watchers_96 : decode cX8_watchers 96 = .ok (.iaload, 1) := by decide +kernel
theorem dX8_watchers_97 : decode cX8_watchers 97 = .ok (.aload_n 0, 1) := by decide +kernel
theorem dX8_watchers_98 : decode cX8_watchers 98 = .ok (.getfield 163, 3) := by decide +kernel
theorem dX8_watchers_101 : decode cX8_watchers 101 = .ok (.if_icmp .gt 38, 3) := by decide +kernel
theorem dX8_watchers_104 : decode cX8_watchers 104 = .ok (.aload_n 0, 1) := by decide +kernel
theorem dX8_watchers_105 : decode cX8_watchers 105 = .ok (.iload 9, 2) := by decide +kernel
theorem dX8_watchers_107 : decode cX8_watchers 107 = .ok (.iload 5, 2) := by decide +kernel
theorem dX8_watchers_109 : decode cX8_watchers 109 = .ok (.iload 6, 2) := by decide +kernel
theorem dX8_watchers_111 : decode cX8_watchers 111 = .ok (.iload 7, 2) := by decide +kernel
theorem dX8_watchers_113 : decode cX8_watchers 113 = .ok (.iload_n 2, 1) := by decide +kernel
theorem dX8_watchers_114 : decode cX8_watchers 114 = .ok (.iload_n 3, 1) := by decide +kernel
theorem dX8_watchers_115 : decode cX8_watchers 115 = .ok (.invokevirtual 265, 3) := by decide +kernel
theorem dX8_watchers_118 : decode cX8_watchers 118 = .ok (.ifCond .ne 6, 3) := by decide +kernel
theorem dX8_watchers_121 : decode cX8_watchers 121 = .ok (.goto 18, 3) := by decide +kernel
theorem dX8_watchers_124 : decode cX8_watchers 124 = .ok (.iload 8, 2) := by decide +kernel
theorem dX8_watchers_126 : decode cX8_watchers 126 = .ok (.iconst 1, 1) := by decide +kernel
theorem dX8_watchers_127 : decode cX8_watchers 127 = .ok (.iload 9, 2) := by decide +kernel
theorem dX8_watchers_129 : decode cX8_watchers 129 = .ok (.ishl, 1) := by decide +kernel
theorem dX8_watchers_130 : decode cX8_watchers 130 = .ok (.ior, 1) := by decide +kernel
theorem dX8_watchers_131 : decode cX8_watchers 131 = .ok (.istore 8, 2) := by decide +kernel
theorem dX8_watchers_133 : decode cX8_watchers 133 = .ok (.aload_n 0, 1) := by decide +kernel
theorem dX8_watchers_134 : decode cX8_watchers 134 = .ok (.iload 9, 2) := by decide +kernel
theorem dX8_watchers_136 : decode cX8_watchers 136 = .ok (.invokevirtual 269, 3) := by decide +kernel
theorem dX8_watchers_139 : decode cX8_watchers 139 = .ok (.iinc 9 1, 3) := by decide +kernel
theorem dX8_watchers_142 : decode cX8_watchers 142 = .ok (.goto (-61), 3) := by decide +kernel
theorem dX8_watchers_145 : decode cX8_watchers 145 = .ok (.iload 8, 2) := by decide +kernel
theorem dX8_watchers_147 : decode cX8_watchers 147 = .ok (.ireturn, 1) := by decide +kernel
set_option maxRecDepth 20000 in
theorem ggX8_holds_X8_opened : GoodIn wsX8_holds wsX8_opened := goodIn_r _ [10, 11, 12, 13, 14, 15, 16, 17, 18, 19, 20, 21, 22, 23, 24, 25, 26, 27, 28, 29, 30, 31, 32, 33, 34, 35, 36, 37, 38, 39, 40, 41, 42, 43, 44, 45, 46, 47, 48, 49, 50, 51, 52, 53, 54, 55, 56, 57, 58, 59, 60, 61, 62, 63, 64, 65, 66, 67, 68] (by decide +kernel) (by decide +kernel)
set_option maxRecDepth 20000 in
theorem gX8_holds_X8_opened : GoodIn wsX8_holds (wsV RX8 272 RX8 yX8_opened wsX8_opened) := goodIn_app (goodIn_of _ (by decide +kernel)) ggX8_holds_X8_opened
theorem dX8_holds_0 : decode cX8_holds 0 = .ok (.iconst 1, 1) := by decide +kernel
theorem dX8_holds_1 : decode cX8_holds 1 = .ok (.istore 7, 2) := by decide +kernel
theorem dX8_holds_3 : decode cX8_holds 3 = .ok (.bipush 21, 2) := by decide +kernel
theorem dX8_holds_5 : decode cX8_holds 5 = .ok (.iload_n 1, 1) := by decide +kernel
theorem dX8_holds_6 : decode cX8_holds 6 = .ok (.imul, 1) := by decide +kernel
theorem dX8_holds_7 : decode cX8_holds 7 = .ok (.istore 8, 2) := by decide +kernel
theorem dX8_holds_9 : decode cX8_holds 9 = .ok (.iload 8, 2) := by decide +kernel
theorem dX8_holds_11 : decode cX8_holds 11 = .ok (.bipush 21, 2) := by decide +kernel
theorem dX8_holds_13 : decode cX8_holds 13 = .ok (.iload_n 1, 1) := by decide +kernel
theorem dX8_holds_14 : decode cX8_holds 14 = .ok (.imul, 1) := by decide +kernel
theorem dX8_holds_15 : decode cX8_holds 15 = .ok (.aload_n 0, 1) := by decide +kernel
theorem dX8_holds_16 : decode cX8_holds 16 = .ok (.getfield 124, 3) := by decide +kernel
theorem dX8_holds_19 : decode cX8_holds 19 = .ok (.iload_n 1, 1) := by decide +kernel
theorem dX8_holds_20 : decode cX8_holds 20 = .ok (.iaload, 1) := by decide +kernel
theorem dX8_holds_21 : decode cX8_holds 21 = .ok (.iadd, 1) := by decide +kernel
theorem dX8_holds_22 : decode cX8_holds 22 = .ok (.if_icmp .ge 174, 3) := by decide +kernel
theorem dX8_holds_25 : decode cX8_holds 25 = .ok (.aload_n 0, 1) := by decide +kernel
theorem dX8_holds_26 : decode cX8_holds 26 = .ok (.getfield 127, 3) := by decide +kernel
theorem dX8_holds_29 : decode cX8_holds 29 = .ok (.iload 8, 2) := by decide +kernel
theorem dX8_holds_31 : decode cX8_holds 31 = .ok (.iaload, 1) := by decide +kernel
theorem dX8_holds_32 : decode cX8_holds 32 = .ok (.istore 9, 2) := by decide +kernel
theorem dX8_holds_34 : decode cX8_holds 34 = .ok (.iload 9, 2) := by decide +kernel
theorem dX8_holds_36 : decode cX8_holds 36 = .ok (.bipush 115, 2) := by decide +kernel
theorem dX8_holds_38 : decode cX8_holds 38 = .ok (.if_icmp .ne 7, 3) := by decide +kernel
theorem dX8_holds_41 : decode cX8_holds 41 = .ok (.iload_n 2, 1) := by decide +kernel
theorem dX8_holds_42 : decode cX8_holds 42 = .ok (.goto 68, 3) := by decide +kernel
theorem dX8_holds_45 : decode cX8_holds 45 = .ok (.iload 9, 2) := by decide +kernel
theorem dX8_holds_47 : decode cX8_holds 47 = .ok (.bipush 107, 2) := by decide +kernel
theorem dX8_holds_49 : decode cX8_holds 49 = .ok (.if_icmp .ne 7, 3) := by decide +kernel
theorem dX8_holds_52 : decode cX8_holds 52 = .ok (.iload_n 3, 1) := by decide +kernel
theorem dX8_holds_53 : decode cX8_holds 53 = .ok (.goto 57, 3) := by decide +kernel
theorem dX8_holds_56 : decode cX8_holds 56 = .ok (.iload 9, 2) := by decide +kernel
theorem dX8_holds_58 : decode cX8_holds 58 = .ok (.bipush 99, 2) := by decide +kernel
theorem dX8_holds_60 : decode cX8_holds 60 = .ok (.if_icmp .ne 8, 3) := by decide +kernel
theorem dX8_holds_63 : decode cX8_holds 63 = .ok (.iload 4, 2) := by decide +kernel
theorem dX8_holds_65 : decode cX8_holds 65 = .ok (.goto 45, 3) := by decide +kernel
theorem dX8_holds_68 : decode cX8_holds 68 = .ok (.iload 9, 2) := by decide +kernel
theorem dX8_holds_70 : decode cX8_holds 70 = .ok (.bipush 116, 2) := by decide +kernel
theorem dX8_holds_72 : decode cX8_holds 72 = .ok (.if_icmp .ne 10, 3) := by decide +kernel
theorem dX8_holds_75 : decode cX8_holds 75 = .ok (.aload_n 0, 1) := by decide +kernel
theorem dX8_holds_76 : decode cX8_holds 76 = .ok (.getfield 163, 3) := by decide +kernel
theorem dX8_holds_79 : decode cX8_holds 79 = .ok (.goto 31, 3) := by decide +kernel
theorem dX8_holds_82 : decode cX8_holds 82 = .ok (.iload 9, 2) := by decide +kernel
theorem dX8_holds_84 : decode cX8_holds 84 = .ok (.bipush 111, 2) := by decide +kernel
theorem dX8_holds_86 : decode cX8_holds 86 = .ok (.if_icmp .ne 10, 3) := by decide +kernel
theorem dX8_holds_89 : decode cX8_holds 89 = .ok (.aload_n 0, 1) := by decide +kernel
theorem dX8_holds_90 : decode cX8_holds 90 = .ok (.invokevirtual 272, 3) := by decide +kernel
theorem dX8_holds_93 : decode cX8_holds 93 = .ok (.goto 17, 3) := by decide +kernel
theorem dX8_holds_96 : decode cX8_holds 96 = .ok (.iload 9, 2) := by decide +kernel
theorem dX8_holds_98 : decode cX8_holds 98 = .ok (.bipush 114, 2) := by decide +kernel
theorem dX8_holds_100 : decode cX8_holds 100 = .ok (.if_icmp .ne 8, 3) := by decide +kernel
theorem dX8_holds_103 : decode cX8_holds 103 = .ok (.iload 5, 2) := by decide +kernel
theorem dX8_holds_105 : decode cX8_holds 105 = .ok (.goto 5, 3) := by decide +kernel
theorem dX8_holds_108 : decode cX8_holds 108 = .ok (.iload 6, 2) := by decide +kernel
theorem dX8_holds_110 : decode cX8_holds 110 = .ok (.istore 10, 2) := by decide +kernel
theorem dX8_holds_112 : decode cX8_holds 112 = .ok (.iload 7, 2) := by decide +kernel
theorem dX8_holds_114 : decode cX8_holds 114 = .ok (.ifCond .eq 73, 3) := by decide +kernel
theorem dX8_holds_117 : decode cX8_holds 117 = .ok (.aload_n 0, 1) := by decide +kernel
theorem dX8_holds_118 : decode cX8_holds 118 = .ok (.getfield 130, 3) := by decide +kernel
theorem dX8_holds_121 : decode cX8_holds 121 = .ok (.iload 8, 2) := by decide +kernel
theorem dX8_holds_123 : decode cX8_holds 123 = .ok (.iaload, 1) := by decide +kernel
theorem dX8_holds_124 : decode cX8_holds 124 = .ok (.bipush 60, 2) := by decide +kernel
theorem dX8_holds_126 : decode cX8_holds 126 = .ok (.if_icmp .ne 18, 3) := by decide +kernel
theorem dX8_holds_129 : decode cX8_holds 129 = .ok (.iload 10, 2) := by decide +kernel
theorem dX8_holds_131 : decode cX8_holds 131 = .ok (.aload_n 0, 1) := by decide +kernel
theorem dX8_holds_132 : decode cX8_holds 132 = .ok (.getfield 133, 3) := by decide +kernel
theorem dX8_holds_135 : decode cX8_holds 135 = .ok (.iload 8, 2) := by decide +kernel
theorem dX8_holds_137 : decode cX8_holds 137 = .ok (.iaload, 1) := by decide +kernel
theorem dX8_holds_138 : decode cX8_holds 138 = .ok (.if_icmp .ge 49, 3) := by decide +kernel
theorem dX8_holds_141 : decode cX8_holds 141 = .ok (.goto 42, 3) := by decide +kernel
theorem dX8_holds_144 : decode cX8_holds 144 = .ok (.aload_n 0, 1) := by decide +kernel
theorem dX8_holds_145 : decode cX8_holds 145 = .ok (.getfield 130, 3) := by decide +kernel
theorem dX8_holds_148 : decode cX8_holds 148 = .ok (.iload 8, 2) := by decide +kernel
theorem dX8_holds_150 : decode cX8_holds 150 = .ok (.iaload, 1) := by decide +kernel
theorem dX8_holds_151 : decode cX8_holds 151 = .ok (.bipush 62, 2) := by decide +kernel
theorem dX8_holds_153 : decode cX8_holds 153 = .ok (.if_icmp .ne 18, 3) := by decide +kernel
theorem dX8_holds_156 : decode cX8_holds 156 = .ok (.iload 10, 2) := by decide +kernel
theorem dX8_holds_158 : decode cX8_holds 158 = .ok (.aload_n 0, 1) := by decide +kernel
theorem dX8_holds_159 : decode cX8_holds 159 = .ok (.getfield 133, 3) := by decide +kernel
theorem dX8_holds_162 : decode cX8_holds 162 = .ok (.iload 8, 2) := by decide +kernel
theorem dX8_holds_164 : decode cX8_holds 164 = .ok (.iaload, 1) := by decide +kernel
theorem dX8_holds_165 : decode cX8_holds 165 = .ok (.if_icmp .le 22, 3) := by decide +kernel
theorem dX8_holds_168 : decode cX8_holds 168 = .ok (.goto 15, 3) := by decide +kernel
theorem dX8_holds_171 : decode cX8_holds 171 = .ok (.iload 10, 2) := by decide +kernel
theorem dX8_holds_173 : decode cX8_holds 173 = .ok (.aload_n 0, 1) := by decide +kernel
theorem dX8_holds_174 : decode cX8_holds 174 = .ok (.getfield 133, 3) := by decide +kernel
theorem dX8_holds_177 : decode cX8_holds 177 = .ok (.iload 8, 2) := by decide +kernel
theorem dX8_holds_179 : decode cX8_holds 179 = .ok (.iaload, 1) := by decide +kernel
theorem dX8_holds_180 : decode cX8_holds 180 = .ok (.if_icmp .ne 7, 3) := by decide +kernel
theorem dX8_holds_183 : decode cX8_holds 183 = .ok (.iconst 1, 1) := by decide +kernel
theorem dX8_holds_184 : decode cX8_holds 184 = .ok (.goto 4, 3) := by decide +kernel
theorem dX8_holds_187 : decode cX8_holds 187 = .ok (.iconst 0, 1) := by decide +kernel
theorem dX8_holds_188 : decode cX8_holds 188 = .ok (.istore 7, 2) := by decide +kernel
theorem dX8_holds_190 : decode cX8_holds 190 = .ok (.iinc 8 1, 3) := by decide +kernel
theorem dX8_holds_193 : decode cX8_holds 193 = .ok (.goto (-184), 3) := by decide +kernel
theorem dX8_holds_196 : decode cX8_holds 196 = .ok (.iload 7, 2) := by decide +kernel
theorem dX8_holds_198 : decode cX8_holds 198 = .ok (.ireturn, 1) := by decide +kernel
set_option maxRecDepth 20000 in
theorem ggX8_goes_X8_leastCovered : GoodIn wsX8_goes wsX8_leastCovered := goodIn_r _ [14, 15, 16, 2, 17, 18, 19, 13, 20, 21, 22, 23, 24, 25, 26, 27, 28, 29, 30, 31, 32, 33, 34, 35, 36, 37, 38, 39, 40, 41, 42, 43, 44, 45, 46, 47, 48, 49, 50, 51, 52, 53, 54, 55, 56, 57, 58, 59, 60, 61, 62, 63, 64, 65, 66, 67, 68, 69, 70, 71, 72, 73, 74, 75, 76, 77, 78, 79, 80, 81, 82, 83, 84] (by decide +kernel) (by decide +kernel)
set_option maxRecDepth 20000 in
theorem gX8_goes_X8_leastCovered : GoodIn wsX8_goes (wsV RX8 262 RX8 yX8_leastCovered wsX8_leastCovered) := goodIn_app (goodIn_of _ (by decide +kernel)) ggX8_goes_X8_leastCovered
theorem dX8_goes_0 : decode cX8_goes 0 = .ok (.aload_n 0, 1) := by decide +kernel
theorem dX8_goes_1 : decode cX8_goes 1 = .ok (.getfield 118, 3) := by decide +kernel
theorem dX8_goes_4 : decode cX8_goes 4 = .ok (.iload_n 1, 1) := by decide +kernel
theorem dX8_goes_5 : decode cX8_goes 5 = .ok (.iaload, 1) := by decide +kernel
theorem dX8_goes_6 : decode cX8_goes 6 = .ok (.istore_n 2, 1) := by decide +kernel
theorem dX8_goes_7 : decode cX8_goes 7 = .ok (.iload_n 2, 1) := by decide +kernel
theorem dX8_goes_8 : decode cX8_goes 8 = .ok (.bipush 94, 2) := by decide +kernel
theorem dX8_goes_10 : decode cX8_goes 10 = .ok (.if_icmp .ne 30, 3) := by decide +kernel
theorem dX8_goes_13 : decode cX8_goes 13 = .ok (.aload_n 0, 1) := by decide +kernel
theorem dX8_goes_14 : decode cX8_goes 14 = .ok (.invokevirtual 262, 3) := by decide +kernel
theorem dX8_goes_17 : decode cX8_goes 17 = .ok (.istore_n 3, 1) := by decide +kernel
theorem dX8_goes_18 : decode cX8_goes 18 = .ok (.aload_n 0, 1) := by decide +kernel
theorem dX8_goes_19 : decode cX8_goes 19 = .ok (.getfield 42, 3) := by decide +kernel
theorem dX8_goes_22 : decode cX8_goes 22 = .ok (.iload_n 3, 1) := by decide +kernel
theorem dX8_goes_23 : decode cX8_goes 23 = .ok (.bipush 9, 2) := by decide +kernel
theorem dX8_goes_25 : decode cX8_goes 25 = .ok (.aload_n 0, 1) := by decide +kernel
theorem dX8_goes_26 : decode cX8_goes 26 = .ok (.getfield 42, 3) := by decide +kernel
theorem dX8_goes_29 : decode cX8_goes 29 = .ok (.iload_n 3, 1) := by decide +kernel
theorem dX8_goes_30 : decode cX8_goes 30 = .ok (.iaload, 1) := by decide +kernel
theorem dX8_goes_31 : decode cX8_goes 31 = .ok (.iconst 3, 1) := by decide +kernel
theorem dX8_goes_32 : decode cX8_goes 32 = .ok (.iadd, 1) := by decide +kernel
theorem dX8_goes_33 : decode cX8_goes 33 = .ok (.invokestatic 232, 3) := by decide +kernel
theorem dX8_goes_36 : decode cX8_goes 36 = .ok (.iastore, 1) := by decide +kernel
theorem dX8_goes_37 : decode cX8_goes 37 = .ok (.goto 70, 3) := by decide +kernel
theorem dX8_goes_40 : decode cX8_goes 40 = .ok (.iload_n 2, 1) := by decide +kernel
theorem dX8_goes_41 : decode cX8_goes 41 = .ok (.bipush 126, 2) := by decide +kernel
theorem dX8_goes_43 : decode cX8_goes 43 = .ok (.if_icmp .ne 29, 3) := by decide +kernel
theorem dX8_goes_46 : decode cX8_goes 46 = .ok (.iconst 0, 1) := by decide +kernel
theorem dX8_goes_47 : decode cX8_goes 47 = .ok (.istore_n 3, 1) := by decide +kernel
theorem dX8_goes_48 : decode cX8_goes 48 = .ok (.iload_n 3, 1) := by decide +kernel
theorem dX8_goes_49 : decode cX8_goes 49 = .ok (.aload_n 0, 1) := by decide +kernel
theorem dX8_goes_50 : decode cX8_goes 50 = .ok (.getfield 177, 3) := by decide +kernel
theorem dX8_goes_53 : decode cX8_goes 53 = .ok (.if_icmp .ge 16, 3) := by decide +kernel
theorem dX8_goes_56 : decode cX8_goes 56 = .ok (.aload_n 0, 1) := by decide +kernel
theorem dX8_goes_57 : decode cX8_goes 57 = .ok (.getfield 54, 3) := by decide +kernel
theorem dX8_goes_60 : decode cX8_goes 60 = .ok (.iload_n 3, 1) := by decide +kernel
theorem dX8_goes_61 : decode cX8_goes 61 = .ok (.iconst 0, 1) := by decide +kernel
theorem dX8_goes_62 : decode cX8_goes 62 = .ok (.bastore, 1) := by decide +kernel
theorem dX8_goes_63 : decode cX8_goes 63 = .ok (.iinc 3 1, 3) := by decide +kernel
theorem dX8_goes_66 : decode cX8_goes 66 = .ok (.goto (-18), 3) := by decide +kernel
theorem dX8_goes_69 : decode cX8_goes 69 = .ok (.goto 38, 3) := by decide +kernel
theorem dX8_goes_72 : decode cX8_goes 72 = .ok (.aload_n 0, 1) := by decide +kernel
theorem dX8_goes_73 : decode cX8_goes 73 = .ok (.getfield 121, 3) := by decide +kernel
theorem dX8_goes_76 : decode cX8_goes 76 = .ok (.iload_n 1, 1) := by decide +kernel
theorem dX8_goes_77 : decode cX8_goes 77 = .ok (.iaload, 1) := by decide +kernel
theorem dX8_goes_78 : decode cX8_goes 78 = .ok (.aload_n 0, 1) := by decide +kernel
theorem dX8_goes_79 : decode cX8_goes 79 = .ok (.getfield 177, 3) := by decide +kernel
theorem dX8_goes_82 : decode cX8_goes 82 = .ok (.if_icmp .ge 25, 3) := by decide +kernel
theorem dX8_goes_85 : decode cX8_goes 85 = .ok (.aload_n 0, 1) := by decide +kernel
theorem dX8_goes_86 : decode cX8_goes 86 = .ok (.getfield 54, 3) := by decide +kernel
theorem dX8_goes_89 : decode cX8_goes 89 = .ok (.aload_n 0, 1) := by decide +kernel
theorem dX8_goes_90 : decode cX8_goes 90 = .ok (.getfield 121, 3) := by decide +kernel
theorem dX8_goes_93 : decode cX8_goes 93 = .ok (.iload_n 1, 1) := by decide +kernel
theorem dX8_goes_94 : decode cX8_goes 94 = .ok (.iaload, 1) := by decide +kernel
theorem dX8_goes_95 : decode cX8_goes 95 = .ok (.iload_n 2, 1) := by decide +kernel
theorem dX8_goes_96 : decode cX8_goes 96 = .ok (.bipush 43, 2) := by decide +kernel
theorem dX8_goes_98 : decode cX8_goes 98 = .ok (.if_icmp .ne 7, 3) := by decide +kernel
theorem dX8_goes_101 : decode cX8_goes 101 = .ok (.iconst 1, 1) := by decide +kernel
theorem dX8_goes_102 : decode cX8_goes 102 = .ok (.goto 4, 3) := by decide +kernel
theorem dX8_goes_105 : decode cX8_goes 105 = .ok (.iconst 0, 1) := by decide +kernel
theorem dX8_goes_106 : decode cX8_goes 106 = .ok (.bastore, 1) := by decide +kernel
theorem dX8_goes_107 : decode cX8_goes 107 = .ok (.return_, 1) := by decide +kernel
set_option maxRecDepth 20000 in
theorem ggX8_hour_X8_in : GoodIn wsX8_hour wsX8_in := goodIn_r _ [9] (by decide +kernel) (by decide +kernel)
set_option maxRecDepth 20000 in
theorem gX8_hour_X8_in : GoodIn wsX8_hour (va_wsS RX8 148 yX8_in wsX8_in) := goodIn_app (goodIn_of _ (by decide +kernel)) ggX8_hour_X8_in
set_option maxRecDepth 20000 in
theorem ggX8_hour_X8_works : GoodIn wsX8_hour wsX8_works := goodIn_r _ [13, 14, 15, 16, 17, 18, 19, 20, 21, 22, 23, 24, 25, 26, 27, 28, 29, 5, 30, 31, 32, 33, 34, 35, 36, 37, 8, 38, 39, 40, 41, 42, 43, 44, 45, 46, 47, 48, 49, 50, 51, 52, 53, 54, 55, 56, 57, 58, 59, 60, 61, 62, 63, 64, 65, 66, 67, 68, 69, 70, 71, 72, 73, 74, 75, 76, 77, 78, 79, 80, 81, 82, 83, 84, 85, 86, 87, 88, 89, 90, 91, 92, 93, 94, 95, 96, 97, 98, 99, 100, 101, 102, 103, 104, 105, 106, 107, 108, 109, 110, 111, 112, 113, 114, 115, 116, 117, 118, 119, 120, 121, 122, 123, 124, 125, 126, 127, 128, 129, 130, 131, 132, 133, 134, 135, 136, 137, 138, 139, 140, 141, 142, 143, 144, 145, 146, 147, 148, 149, 150, 151, 152, 153, 154, 155, 156, 157, 158, 159, 160, 161, 162, 163, 164, 165, 166, 167, 168, 169, 170, 171, 172, 173, 174, 175, 176, 177, 178, 179, 180, 181, 182, 183, 184, 185] (by decide +kernel) (by decide +kernel)
set_option maxRecDepth 20000 in
theorem gX8_hour_X8_works : GoodIn wsX8_hour (wsV RX8 275 RX8 yX8_works wsX8_works) := goodIn_app (goodIn_of _ (by decide +kernel)) ggX8_hour_X8_works
theorem dX8_hour_0 : decode cX8_hour 0 = .ok (.aload_n 0, 1) := by decide +kernel
theorem dX8_hour_1 : decode cX8_hour 1 = .ok (.iconst 0, 1) := by decide +kernel
theorem dX8_hour_2 : decode cX8_hour 2 = .ok (.putfield 1, 3) := by decide +kernel
theorem dX8_hour_5 : decode cX8_hour 5 = .ok (.iload_n 1, 1) := by decide +kernel
theorem dX8_hour_6 : decode cX8_hour 6 = .ok (.i2l, 1) := by decide +kernel
theorem dX8_hour_7 : decode cX8_hour 7 = .ok (.lconst 0, 1) := by decide +kernel
theorem dX8_hour_8 : decode cX8_hour 8 = .ok (.ldc2_w 213, 3) := by decide +kernel
theorem dX8_hour_11 : decode cX8_hour 11 = .ok (.invokestatic 148, 3) := by decide +kernel
theorem dX8_hour_14 : decode cX8_hour 14 = .ok (.ifCond .eq 32, 3) := by decide +kernel
theorem dX8_hour_17 : decode cX8_hour 17 = .ok (.iload_n 2, 1) := by decide +kernel
theorem dX8_hour_18 : decode cX8_hour 18 = .ok (.i2l, 1) := by decide +kernel
theorem dX8_hour_19 : decode cX8_hour 19 = .ok (.lconst 0, 1) := by decide +kernel
theorem dX8_hour_20 : decode cX8_hour 20 = .ok (.ldc2_w 190, 3) := by decide +kernel
theorem dX8_hour_23 : decode cX8_hour 23 = .ok (.invokestatic 148, 3) := by decide +kernel
theorem dX8_hour_26 : decode cX8_hour 26 = .ok (.ifCond .eq 20, 3) := by decide +kernel
theorem dX8_hour_29 : decode cX8_hour 29 = .ok (.aload_n 0, 1) := by decide +kernel
theorem dX8_hour_30 : decode cX8_hour 30 = .ok (.getfield 159, 3) := by decide +kernel
theorem dX8_hour_33 : decode cX8_hour 33 = .ok (.ifCond .eq 13, 3) := by decide +kernel
theorem dX8_hour_36 : decode cX8_hour 36 = .ok (.aload_n 0, 1) := by decide +kernel
theorem dX8_hour_37 : decode cX8_hour 37 = .ok (.getfield 163, 3) := by decide +kernel
theorem dX8_hour_40 : decode cX8_hour 40 = .ok (.sipush 300, 3) := by decide +kernel
theorem dX8_hour_43 : decode cX8_hour 43 = .ok (.if_icmp .ne 5, 3) := by decide +kernel
theorem dX8_hour_46 : decode cX8_hour 46 = .ok (.iconst (-1), 1) := by decide +kernel
theorem dX8_hour_47 : decode cX8_hour 47 = .ok (.ireturn, 1) := by decide +kernel
theorem dX8_hour_48 : decode cX8_hour 48 = .ok (.aload_n 0, 1) := by decide +kernel
theorem dX8_hour_49 : decode cX8_hour 49 = .ok (.iload_n 1, 1) := by decide +kernel
theorem dX8_hour_50 : decode cX8_hour 50 = .ok (.iload_n 2, 1) := by decide +kernel
theorem dX8_hour_51 : decode cX8_hour 51 = .ok (.invokevirtual 275, 3) := by decide +kernel
theorem dX8_hour_54 : decode cX8_hour 54 = .ok (.ireturn, 1) := by decide +kernel
set_option maxRecDepth 20000 in
theorem ggX8_again_X8_in : GoodIn wsX8_again wsX8_in := goodIn_r _ [31] (by decide +kernel) (by decide +kernel)
set_option maxRecDepth 20000 in
theorem gX8_again_X8_in : GoodIn wsX8_again (va_wsS RX8 148 yX8_in wsX8_in) := goodIn_app (goodIn_of _ (by decide +kernel)) ggX8_again_X8_in
set_option maxRecDepth 20000 in
theorem ggX8_again_X8_lights : GoodIn wsX8_again wsX8_lights := goodIn_r _ [35, 2, 3, 36, 37, 18, 17, 151, 152, 153, 154, 155, 156, 157, 158, 159, 160, 161, 162, 163, 164, 165, 166, 167, 168, 169, 170, 171, 172, 173, 174, 175, 176, 177, 178, 179, 180, 181, 182, 183, 184, 185, 186, 187, 188, 189, 190, 191, 192, 193, 194, 195, 196, 197, 198, 199, 200, 201, 202, 203, 204, 205, 206] (by decide +kernel) (by decide +kernel)
set_option maxRecDepth 20000 in
theorem gX8_again_X8_lights : GoodIn wsX8_again (wsV RX8 203 RX8 yX8_lights wsX8_lights) := goodIn_app (goodIn_of _ (by decide +kernel)) ggX8_again_X8_lights
set_option maxRecDepth 20000 in
theorem ggX8_again_X8_does : GoodIn wsX8_again wsX8_does := goodIn_r _ [41, 22, 14, 151, 152, 153, 154, 155, 156, 157, 158, 159, 160, 161, 162, 163, 164, 165, 166, 167, 168, 169, 170, 171, 172, 173, 174, 175, 176, 177, 178, 179, 180, 181, 182, 183, 184, 185, 186, 187, 188, 189, 190, 191, 192, 193, 194, 195, 196, 197, 198, 199, 200, 201, 202, 203, 204, 205, 206] (by decide +kernel) (by decide +kernel)
set_option maxRecDepth 20000 in
theorem gX8_again_X8_does : GoodIn wsX8_again (wsV RX8 206 RX8 yX8_does wsX8_does) := goodIn_app (goodIn_of _ (by decide +kernel)) ggX8_again_X8_does
set_option maxRecDepth 20000 in
theorem ggX8_again_X8_works : GoodIn wsX8_again wsX8_works := goodIn_r _ [45, 19, 46, 17, 47, 18, 10, 16, 36, 48, 49, 12, 50, 51, 52, 53, 7, 3, 9, 54, 55, 56, 57, 58, 59, 60, 30, 61, 62, 63, 64, 65, 66, 67, 68, 69, 70, 71, 72, 73, 21, 22, 74, 75, 76, 77, 14, 78, 79, 80, 81, 82, 83, 84, 85, 86, 87, 88, 89, 90, 91, 92, 37, 93, 94, 95, 96, 97, 98, 99, 100, 101, 102, 103, 104, 105, 106, 107, 108, 109, 110, 20, 111, 112, 113, 114, 115, 116, 117, 118, 119, 120, 121, 122, 123, 124, 125, 126, 127, 128, 129, 130, 131, 132, 133, 134, 135, 136, 137, 138, 139, 140, 141, 142, 143, 144, 145, 146, 147, 151, 152, 153, 154, 155, 156, 157, 158, 159, 160, 161, 162, 163, 164, 165, 166, 167, 168, 169, 170, 171, 172, 173, 174, 175, 176, 177, 178, 179, 180, 181, 182, 183, 184, 185, 186, 187, 188, 189, 190, 191, 192, 193, 194, 195, 196, 197, 198, 199, 200, 201, 202, 203, 204, 205, 206] (by decide +kernel) (by decide +kernel)
set_option maxRecDepth 20000 in
theorem gX8_again_X8_works : GoodIn wsX8_again (wsV RX8 275 RX8 yX8_works wsX8_works) := goodIn_app (goodIn_of _ (by decide +kernel)) ggX8_again_X8_works
set_option maxRecDepth 20000 in
theorem ggX8_again_X8_sum : GoodIn wsX8_again wsX8_sum := goodIn_r _ [150] (by decide +kernel) (by decide +kernel)
set_option maxRecDepth 20000 in
theorem gX8_again_X8_sum : GoodIn wsX8_again (va_wsS RX8 278 yX8_sum wsX8_sum) := goodIn_app (goodIn_of _ (by decide +kernel)) ggX8_again_X8_sum
theorem dX8_again_0 : decode cX8_again 0 = .ok (.aload_n 0, 1) := by decide +kernel
theorem dX8_again_1 : decode cX8_again 1 = .ok (.iconst 0, 1) := by decide +kernel
theorem dX8_again_2 : decode cX8_again 2 = .ok (.putfield 1, 3) := by decide +kernel
theorem dX8_again_5 : decode cX8_again 5 = .ok (.aload_n 0, 1) := by decide +kernel
theorem dX8_again_6 : decode cX8_again 6 = .ok (.getfield 159, 3) := by decide +kernel
theorem dX8_again_9 : decode cX8_again 9 = .ok (.ifCond .eq 43, 3) := by decide +kernel
theorem dX8_again_12 : decode cX8_again 12 = .ok (.iload_n 1, 1) := by decide +kernel
theorem dX8_again_13 : decode cX8_again 13 = .ok (.i2l, 1) := by decide +kernel
theorem dX8_again_14 : decode cX8_again 14 = .ok (.lconst 0, 1) := by decide +kernel
theorem dX8_again_15 : decode cX8_again 15 = .ok (.aload_n 0, 1) := by decide +kernel
theorem dX8_again_16 : decode cX8_again 16 = .ok (.getfield 163, 3) := by decide +kernel
theorem dX8_again_19 : decode cX8_again 19 = .ok (.iconst 1, 1) := by decide +kernel
theorem dX8_again_20 : decode cX8_again 20 = .ok (.isub, 1) := by decide +kernel
theorem dX8_again_21 : decode cX8_again 21 = .ok (.i2l, 1) := by decide +kernel
theorem dX8_again_22 : decode cX8_again 22 = .ok (.invokestatic 148, 3) := by decide +kernel
theorem dX8_again_25 : decode cX8_again 25 = .ok (.ifCond .eq 27, 3) := by decide +kernel
theorem dX8_again_28 : decode cX8_again 28 = .ok (.iload_n 2, 1) := by decide +kernel
theorem dX8_again_29 : decode cX8_again 29 = .ok (.i2l, 1) := by decide +kernel
theorem dX8_again_30 : decode cX8_again 30 = .ok (.lconst 0, 1) := by decide +kernel
theorem dX8_again_31 : decode cX8_again 31 = .ok (.ldc2_w 213, 3) := by decide +kernel
theorem dX8_again_34 : decode cX8_again 34 = .ok (.invokestatic 148, 3) := by decide +kernel
theorem dX8_again_37 : decode cX8_again 37 = .ok (.ifCond .eq 15, 3) := by decide +kernel
theorem dX8_again_40 : decode cX8_again 40 = .ok (.iload_n 3, 1) := by decide +kernel
theorem dX8_again_41 : decode cX8_again 41 = .ok (.i2l, 1) := by decide +kernel
theorem dX8_again_42 : decode cX8_again 42 = .ok (.lconst 0, 1) := by decide +kernel
theorem dX8_again_43 : decode cX8_again 43 = .ok (.ldc2_w 190, 3) := by decide +kernel
theorem dX8_again_46 : decode cX8_again 46 = .ok (.invokestatic 148, 3) := by decide +kernel
theorem dX8_again_49 : decode cX8_again 49 = .ok (.ifCond .ne 5, 3) := by decide +kernel
theorem dX8_again_52 : decode cX8_again 52 = .ok (.iconst (-1), 1) := by decide +kernel
theorem dX8_again_53 : decode cX8_again 53 = .ok (.ireturn, 1) := by decide +kernel
theorem dX8_again_54 : decode cX8_again 54 = .ok (.aload_n 0, 1) := by decide +kernel
theorem dX8_again_55 : decode cX8_again 55 = .ok (.getfield 163, 3) := by decide +kernel
theorem dX8_again_58 : decode cX8_again 58 = .ok (.istore 4, 2) := by decide +kernel
theorem dX8_again_60 : decode cX8_again 60 = .ok (.iconst 0, 1) := by decide +kernel
theorem dX8_again_61 : decode cX8_again 61 = .ok (.istore 5, 2) := by decide +kernel
theorem dX8_again_63 : decode cX8_again 63 = .ok (.iload 5, 2) := by decide +kernel
theorem dX8_again_65 : decode cX8_again 65 = .ok (.iload 4, 2) := by decide +kernel
theorem dX8_again_67 : decode cX8_again 67 = .ok (.if_icmp .ge 57, 3) := by decide +kernel
theorem dX8_again_70 : decode cX8_again 70 = .ok (.aload_n 0, 1) := by decide +kernel
theorem dX8_again_71 : decode cX8_again 71 = .ok (.getfield 106, 3) := by decide +kernel
theorem dX8_again_74 : decode cX8_again 74 = .ok (.iload 5, 2) := by decide +kernel
theorem dX8_again_76 : decode cX8_again 76 = .ok (.iload 5, 2) := by decide +kernel
theorem dX8_again_78 : decode cX8_again 78 = .ok (.iload_n 1, 1) := by decide +kernel
theorem dX8_again_79 : decode cX8_again 79 = .ok (.if_icmp .ne 7, 3) := by decide +kernel
theorem dX8_again_82 : decode cX8_again 82 = .ok (.iload_n 2, 1) := by decide +kernel
theorem dX8_again_83 : decode cX8_again 83 = .ok (.goto 10, 3) := by decide +kernel
theorem dX8_again_86 : decode cX8_again 86 = .ok (.aload_n 0, 1) := by decide +kernel
theorem dX8_again_87 : decode cX8_again 87 = .ok (.getfield 82, 3) := by decide +kernel
theorem dX8_again_90 : decode cX8_again 90 = .ok (.iload 5, 2) := by decide +kernel
theorem dX8_again_92 : decode cX8_again 92 = .ok (.iaload, 1) := by decide +kernel
theorem dX8_again_93 : decode cX8_again 93 = .ok (.iastore, 1) := by decide +kernel
theorem dX8_again_94 : decode cX8_again 94 = .ok (.aload_n 0, 1) := by decide +kernel
theorem dX8_again_95 : decode cX8_again 95 = .ok (.getfield 109, 3) := by decide +kernel
theorem dX8_again_98 : decode cX8_again 98 = .ok (.iload 5, 2) := by decide +kernel
theorem dX8_again_100 : decode cX8_again 100 = .ok (.iload 5, 2) := by decide +kernel
theorem dX8_again_102 : decode cX8_again 102 = .ok (.iload_n 1, 1) := by decide +kernel
theorem dX8_again_103 : decode cX8_again 103 = .ok (.if_icmp .ne 7, 3) := by decide +kernel
theorem dX8_again_106 : decode cX8_again 106 = .ok (.iload_n 3, 1) := by decide +kernel
theorem dX8_again_107 : decode cX8_again 107 = .ok (.goto 10, 3) := by decide +kernel
theorem dX8_again_110 : decode cX8_again 110 = .ok (.aload_n 0, 1) := by decide +kernel
theorem dX8_again_111 : decode cX8_again 111 = .ok (.getfield 85, 3) := by decide +kernel
theorem dX8_again_114 : decode cX8_again 114 = .ok (.iload 5, 2) := by decide +kernel
theorem dX8_again_116 : decode cX8_again 116 = .ok (.iaload, 1) := by decide +kernel
theorem dX8_again_117 : decode cX8_again 117 = .ok (.iastore, 1) := by decide +kernel
theorem dX8_again_118 : decode cX8_again 118 = .ok (.iinc 5 1, 3) := by decide +kernel
theorem dX8_again_121 : decode cX8_again 121 = .ok (.goto (-58), 3) := by decide +kernel
theorem dX8_again_124 : decode cX8_again 124 = .ok (.iconst 0, 1) := by decide +kernel
theorem dX8_again_125 : decode cX8_again 125 = .ok (.istore 5, 2) := by decide +kernel
theorem dX8_again_127 : decode cX8_again 127 = .ok (.iload 5, 2) := by decide +kernel
theorem dX8_again_129 : decode cX8_again 129 = .ok (.bipush 64, 2) := by decide +kernel
theorem dX8_again_131 : decode cX8_again 131 = .ok (.if_icmp .ge 91, 3) := by decide +kernel
theorem dX8_again_134 : decode cX8_again 134 = .ok (.aload_n 0, 1) := by decide +kernel
theorem dX8_again_135 : decode cX8_again 135 = .ok (.getfield 19, 3) := by decide +kernel
theorem dX8_again_138 : decode cX8_again 138 = .ok (.iload 5, 2) := by decide +kernel
theorem dX8_again_140 : decode cX8_again 140 = .ok (.aload_n 0, 1) := by decide +kernel
theorem dX8_again_141 : decode cX8_again 141 = .ok (.getfield 57, 3) := by decide +kernel
theorem dX8_again_144 : decode cX8_again 144 = .ok (.iload 5, 2) := by decide +kernel
theorem dX8_again_146 : decode cX8_again 146 = .ok (.iaload, 1) := by decide +kernel
theorem dX8_again_147 : decode cX8_again 147 = .ok (.iastore, 1) := by decide +kernel
theorem dX8_again_148 : decode cX8_again 148 = .ok (.aload_n 0, 1) := by decide +kernel
theorem dX8_again_149 : decode cX8_again 149 = .ok (.getfield 26, 3) := by decide +kernel
theorem dX8_again_152 : decode cX8_again 152 = .ok (.iload 5, 2) := by decide +kernel
theorem dX8_again_154 : decode cX8_again 154 = .ok (.aload_n 0, 1) := by decide +kernel
theorem dX8_again_155 : decode cX8_again 155 = .ok (.getfield 60, 3) := by decide +kernel
theorem dX8_again_158 : decode cX8_again 158 = .ok (.iload 5, 2) := by decide +kernel
theorem dX8_again_160 : decode cX8_again 160 = .ok (.iaload, 1) := by decide +kernel
theorem dX8_again_161 : decode cX8_again 161 = .ok (.iastore, 1) := by decide +kernel
theorem dX8_again_162 : decode cX8_again 162 = .ok (.aload_n 0, 1) := by decide +kernel
theorem dX8_again_163 : decode cX8_again 163 = .ok (.getfield 42, 3) := by decide +kernel
theorem dX8_again_166 : decode cX8_again 166 = .ok (.iload 5, 2) := by decide +kernel
theorem dX8_again_168 : decode cX8_again 168 = .ok (.aload_n 0, 1) := by decide +kernel
theorem dX8_again_169 : decode cX8_again 169 = .ok (.getfield 63, 3) := by decide +kernel
theorem dX8_again_172 : decode cX8_again 172 = .ok (.iload 5, 2) := by decide +kernel
theorem dX8_again_174 : decode cX8_again 174 = .ok (.iaload, 1) := by decide +kernel
theorem dX8_again_175 : decode cX8_again 175 = .ok (.iastore, 1) := by decide +kernel
theorem dX8_again_176 : decode cX8_again 176 = .ok (.aload_n 0, 1) := by decide +kernel
theorem dX8_again_177 : decode cX8_again 177 = .ok (.getfield 23, 3) := by decide +kernel
theorem dX8_again_180 : decode cX8_again 180 = .ok (.iload 5, 2) := by decide +kernel
theorem dX8_again_182 : decode cX8_again 182 = .ok (.iconst 0, 1) := by decide +kernel
theorem dX8_again_183 : decode cX8_again 183 = .ok (.iastore, 1) := by decide +kernel
theorem dX8_again_184 : decode cX8_again 184 = .ok (.aload_n 0, 1) := by decide +kernel
theorem dX8_again_185 : decode cX8_again 185 = .ok (.getfield 29, 3) := by decide +kernel
theorem dX8_again_188 : decode cX8_again 188 = .ok (.iload 5, 2) := by decide +kernel
theorem dX8_again_190 : decode cX8_again 190 = .ok (.iconst 0, 1) := by decide +kernel
theorem dX8_again_191 : decode cX8_again 191 = .ok (.iastore, 1) := by decide +kernel
theorem dX8_again_192 : decode cX8_again 192 = .ok (.aload_n 0, 1) := by decide +kernel
theorem dX8_again_193 : decode cX8_again 193 = .ok (.getfield 32, 3) := by decide +kernel
theorem dX8_again_196 : decode cX8_again 196 = .ok (.iload 5, 2) := by decide +kernel
theorem dX8_again_198 : decode cX8_again 198 = .ok (.iconst 0, 1) := by decide +kernel
theorem dX8_again_199 : decode cX8_again 199 = .ok (.bastore, 1) := by decide +kernel
theorem dX8_again_200 : decode cX8_again 200 = .ok (.aload_n 0, 1) := by decide +kernel
theorem dX8_again_201 : decode cX8_again 201 = .ok (.getfield 45, 3) := by decide +kernel
theorem dX8_again_204 : decode cX8_again 204 = .ok (.iload 5, 2) := by decide +kernel
theorem dX8_again_206 : decode cX8_again 206 = .ok (.iconst 0, 1) := by decide +kernel
theorem dX8_again_207 : decode cX8_again 207 = .ok (.iastore, 1) := by decide +kernel
theorem dX8_again_208 : decode cX8_again 208 = .ok (.aload_n 0, 1) := by decide +kernel
theorem dX8_again_209 : decode cX8_again 209 = .ok (.getfield 48, 3) := by decide +kernel
theorem dX8_again_212 : decode cX8_again 212 = .ok (.iload 5, 2) := by decide +kernel
theorem dX8_again_214 : decode cX8_again 214 = .ok (.iconst (-1), 1) := by decide +kernel
theorem dX8_again_215 : decode cX8_again 215 = .ok (.iastore, 1) := by decide +kernel
theorem dX8_again_216 : decode cX8_again 216 = .ok (.iinc 5 1, 3) := by decide +kernel
theorem dX8_again_219 : decode cX8_again 219 = .ok (.goto (-92), 3) := by decide +kernel
theorem dX8_again_222 : decode cX8_again 222 = .ok (.iconst 0, 1) := by decide +kernel
theorem dX8_again_223 : decode cX8_again 223 = .ok (.istore 5, 2) := by decide +kernel
theorem dX8_again_225 : decode cX8_again 225 = .ok (.iload 5, 2) := by decide +kernel
theorem dX8_again_227 : decode cX8_again 227 = .ok (.aload_n 0, 1) := by decide +kernel
theorem dX8_again_228 : decode cX8_again 228 = .ok (.getfield 177, 3) := by decide +kernel
theorem dX8_again_231 : decode cX8_again 231 = .ok (.if_icmp .ge 23, 3) := by decide +kernel
theorem dX8_again_234 : decode cX8_again 234 = .ok (.aload_n 0, 1) := by decide +kernel
theorem dX8_again_235 : decode cX8_again 235 = .ok (.getfield 54, 3) := by decide +kernel
theorem dX8_again_238 : decode cX8_again 238 = .ok (.iload 5, 2) := by decide +kernel
theorem dX8_again_240 : decode cX8_again 240 = .ok (.aload_n 0, 1) := by decide +kernel
theorem dX8_again_241 : decode cX8_again 241 = .ok (.getfield 66, 3) := by decide +kernel
theorem dX8_again_244 : decode cX8_again 244 = .ok (.iload 5, 2) := by decide +kernel
theorem dX8_again_246 : decode cX8_again 246 = .ok (.baload, 1) := by decide +kernel
theorem dX8_again_247 : decode cX8_again 247 = .ok (.bastore, 1) := by decide +kernel
theorem dX8_again_248 : decode cX8_again 248 = .ok (.iinc 5 1, 3) := by decide +kernel
theorem dX8_again_251 : decode cX8_again 251 = .ok (.goto (-26), 3) := by decide +kernel
theorem dX8_again_254 : decode cX8_again 254 = .ok (.aload_n 0, 1) := by decide +kernel
theorem dX8_again_255 : decode cX8_again 255 = .ok (.invokevirtual 203, 3) := by decide +kernel
theorem dX8_again_258 : decode cX8_again 258 = .ok (.iconst 0, 1) := by decide +kernel
theorem dX8_again_259 : decode cX8_again 259 = .ok (.istore 5, 2) := by decide +kernel
theorem dX8_again_261 : decode cX8_again 261 = .ok (.iconst 0, 1) := by decide +kernel
theorem dX8_again_262 : decode cX8_again 262 = .ok (.istore 6, 2) := by decide +kernel
theorem dX8_again_264 : decode cX8_again 264 = .ok (.iload 6, 2) := by decide +kernel
theorem dX8_again_266 : decode cX8_again 266 = .ok (.iload 4, 2) := by decide +kernel
theorem dX8_again_268 : decode cX8_again 268 = .ok (.if_icmp .gt 81, 3) := by decide +kernel
theorem dX8_again_271 : decode cX8_again 271 = .ok (.iload 5, 2) := by decide +kernel
theorem dX8_again_273 : decode cX8_again 273 = .ok (.aload_n 0, 1) := by decide +kernel
theorem dX8_again_274 : decode cX8_again 274 = .ok (.getfield 172, 3) := by decide +kernel
theorem dX8_again_277 : decode cX8_again 277 = .ok (.if_icmp .ge 39, 3) := by decide +kernel
theorem dX8_again_280 : decode cX8_again 280 = .ok (.aload_n 0, 1) := by decide +kernel
theorem dX8_again_281 : decode cX8_again 281 = .ok (.getfield 79, 3) := by decide +kernel
theorem dX8_again_284 : decode cX8_again 284 = .ok (.iload 5, 2) := by decide +kernel
theorem dX8_again_286 : decode cX8_again 286 = .ok (.iaload, 1) := by decide +kernel
theorem dX8_again_287 : decode cX8_again 287 = .ok (.iload 6, 2) := by decide +kernel
theorem dX8_again_289 : decode cX8_again 289 = .ok (.if_icmp .ne 27, 3) := by decide +kernel
theorem dX8_again_292 : decode cX8_again 292 = .ok (.aload_n 0, 1) := by decide +kernel
theorem dX8_again_293 : decode cX8_again 293 = .ok (.aload_n 0, 1) := by decide +kernel
theorem dX8_again_294 : decode cX8_again 294 = .ok (.getfield 73, 3) := by decide +kernel
theorem dX8_again_297 : decode cX8_again 297 = .ok (.iload 5, 2) := by decide +kernel
theorem dX8_again_299 : decode cX8_again 299 = .ok (.iaload, 1) := by decide +kernel
theorem dX8_again_300 : decode cX8_again 300 = .ok (.aload_n 0, 1) := by decide +kernel
theorem dX8_again_301 : decode cX8_again 301 = .ok (.getfield 76, 3) := by decide +kernel
theorem dX8_again_304 : decode cX8_again 304 = .ok (.iload 5, 2) := by decide +kernel
theorem dX8_again_306 : decode cX8_again 306 = .ok (.iaload, 1) := by decide +kernel
theorem dX8_again_307 : decode cX8_again 307 = .ok (.invokevirtual 206, 3) := by decide +kernel
theorem dX8_again_310 : decode cX8_again 310 = .ok (.iinc 5 1, 3) := by decide +kernel
theorem dX8_again_313 : decode cX8_again 313 = .ok (.goto (-42), 3) := by decide +kernel
theorem dX8_again_316 : decode cX8_again 316 = .ok (.iload 6, 2) := by decide +kernel
theorem dX8_again_318 : decode cX8_again 318 = .ok (.iload 4, 2) := by decide +kernel
theorem dX8_again_320 : decode cX8_again 320 = .ok (.if_icmp .ge 23, 3) := by decide +kernel
theorem dX8_again_323 : decode cX8_again 323 = .ok (.aload_n 0, 1) := by decide +kernel
theorem dX8_again_324 : decode cX8_again 324 = .ok (.aload_n 0, 1) := by decide +kernel
theorem dX8_again_325 : decode cX8_again 325 = .ok (.getfield 106, 3) := by decide +kernel
theorem dX8_again_328 : decode cX8_again 328 = .ok (.iload 6, 2) := by decide +kernel
theorem dX8_again_330 : decode cX8_again 330 = .ok (.iaload, 1) := by decide +kernel
theorem dX8_again_331 : decode cX8_again 331 = .ok (.aload_n 0, 1) := by decide +kernel
theorem dX8_again_332 : decode cX8_again 332 = .ok (.getfield 109, 3) := by decide +kernel
theorem dX8_again_335 : decode cX8_again 335 = .ok (.iload 6, 2) := by decide +kernel
theorem dX8_again_337 : decode cX8_again 337 = .ok (.iaload, 1) := by decide +kernel
theorem dX8_again_338 : decode cX8_again 338 = .ok (.invokevirtual 275, 3) := by decide +kernel
theorem dX8_again_341 : decode cX8_again 341 = .ok (.istore 7, 2) := by decide +kernel
theorem dX8_again_343 : decode cX8_again 343 = .ok (.iinc 6 1, 3) := by decide +kernel
theorem dX8_again_346 : decode cX8_again 346 = .ok (.goto (-82), 3) := by decide +kernel
theorem dX8_again_349 : decode cX8_again 349 = .ok (.aload_n 0, 1) := by decide +kernel
theorem dX8_again_350 : decode cX8_again 350 = .ok (.getfield 23, 3) := by decide +kernel
theorem dX8_again_353 : decode cX8_again 353 = .ok (.invokestatic 278, 3) := by decide +kernel
theorem dX8_again_356 : decode cX8_again 356 = .ok (.ireturn, 1) := by decide +kernel
theorem dX8_sum_0 : decode cX8_sum 0 = .ok (.iconst 0, 1) := by decide +kernel
theorem dX8_sum_1 : decode cX8_sum 1 = .ok (.istore_n 1, 1) := by decide +kernel
theorem dX8_sum_2 : decode cX8_sum 2 = .ok (.iconst 0, 1) := by decide +kernel
theorem dX8_sum_3 : decode cX8_sum 3 = .ok (.istore_n 2, 1) := by decide +kernel
theorem dX8_sum_4 : decode cX8_sum 4 = .ok (.iload_n 2, 1) := by decide +kernel
theorem dX8_sum_5 : decode cX8_sum 5 = .ok (.aload_n 0, 1) := by decide +kernel
theorem dX8_sum_6 : decode cX8_sum 6 = .ok (.arraylength, 1) := by decide +kernel
theorem dX8_sum_7 : decode cX8_sum 7 = .ok (.if_icmp .ge 15, 3) := by decide +kernel
theorem dX8_sum_10 : decode cX8_sum 10 = .ok (.iload_n 1, 1) := by decide +kernel
theorem dX8_sum_11 : decode cX8_sum 11 = .ok (.aload_n 0, 1) := by decide +kernel
theorem dX8_sum_12 : decode cX8_sum 12 = .ok (.iload_n 2, 1) := by decide +kernel
theorem dX8_sum_13 : decode cX8_sum 13 = .ok (.iaload, 1) := by decide +kernel
theorem dX8_sum_14 : decode cX8_sum 14 = .ok (.iadd, 1) := by decide +kernel
theorem dX8_sum_15 : decode cX8_sum 15 = .ok (.istore_n 1, 1) := by decide +kernel
theorem dX8_sum_16 : decode cX8_sum 16 = .ok (.iinc 2 1, 3) := by decide +kernel
theorem dX8_sum_19 : decode cX8_sum 19 = .ok (.goto (-15), 3) := by decide +kernel
theorem dX8_sum_22 : decode cX8_sum 22 = .ok (.iload_n 1, 1) := by decide +kernel
theorem dX8_sum_23 : decode cX8_sum 23 = .ok (.ireturn, 1) := by decide +kernel
set_option maxRecDepth 20000 in
theorem ggX8_rake_X8_sum : GoodIn wsX8_rake wsX8_sum := goodIn_r _ [10] (by decide +kernel) (by decide +kernel)
set_option maxRecDepth 20000 in
theorem gX8_rake_X8_sum : GoodIn wsX8_rake (va_wsS RX8 278 yX8_sum wsX8_sum) := goodIn_app (goodIn_of _ (by decide +kernel)) ggX8_rake_X8_sum
set_option maxRecDepth 20000 in
theorem ggX8_rake_X8_empties : GoodIn wsX8_rake wsX8_empties := goodIn_r _ [14, 15, 3, 16, 17, 18, 19, 20, 21, 22, 23, 2, 24, 25, 26, 27, 28, 29, 30, 31, 32, 33, 34, 35, 36, 37, 38, 39, 40, 41, 42, 43, 44, 45, 46, 47, 48, 49, 50, 51, 52, 53, 54, 55, 56, 57, 58, 59, 60, 61, 62, 63, 64, 65, 66, 67, 68, 69, 70, 71, 72, 73, 74, 75, 76, 77, 78, 79, 80, 81, 82, 83] (by decide +kernel) (by decide +kernel)
set_option maxRecDepth 20000 in
theorem gX8_rake_X8_empties : GoodIn wsX8_rake (wsV RX8 145 RX8 yX8_empties wsX8_empties) := goodIn_app (goodIn_of _ (by decide +kernel)) ggX8_rake_X8_empties
theorem dX8_rake_0 : decode cX8_rake 0 = .ok (.aload_n 0, 1) := by decide +kernel
theorem dX8_rake_1 : decode cX8_rake 1 = .ok (.iconst 0, 1) := by decide +kernel
theorem dX8_rake_2 : decode cX8_rake 2 = .ok (.putfield 1, 3) := by decide +kernel
theorem dX8_rake_5 : decode cX8_rake 5 = .ok (.aload_n 0, 1) := by decide +kernel
theorem dX8_rake_6 : decode cX8_rake 6 = .ok (.getfield 159, 3) := by decide +kernel
theorem dX8_rake_9 : decode cX8_rake 9 = .ok (.ifCond .ne 5, 3) := by decide +kernel
theorem dX8_rake_12 : decode cX8_rake 12 = .ok (.iconst (-1), 1) := by decide +kernel
theorem dX8_rake_13 : decode cX8_rake 13 = .ok (.ireturn, 1) := by decide +kernel
theorem dX8_rake_14 : decode cX8_rake 14 = .ok (.aload_n 0, 1) := by decide +kernel
theorem dX8_rake_15 : decode cX8_rake 15 = .ok (.getfield 23, 3) := by decide +kernel
theorem dX8_rake_18 : decode cX8_rake 18 = .ok (.invokestatic 278, 3) := by decide +kernel
theorem dX8_rake_21 : decode cX8_rake 21 = .ok (.bipush 25, 2) := by decide +kernel
theorem dX8_rake_23 : decode cX8_rake 23 = .ok (.idiv, 1) := by decide +kernel
theorem dX8_rake_24 : decode cX8_rake 24 = .ok (.istore_n 1, 1) := by decide +kernel
theorem dX8_rake_25 : decode cX8_rake 25 = .ok (.aload_n 0, 1) := by decide +kernel
theorem dX8_rake_26 : decode cX8_rake 26 = .ok (.dup, 1) := by decide +kernel
theorem dX8_rake_27 : decode cX8_rake 27 = .ok (.getfield 282, 3) := by decide +kernel
theorem dX8_rake_30 : decode cX8_rake 30 = .ok (.iload_n 1, 1) := by decide +kernel
theorem dX8_rake_31 : decode cX8_rake 31 = .ok (.iadd, 1) := by decide +kernel
theorem dX8_rake_32 : decode cX8_rake 32 = .ok (.putfield 282, 3) := by decide +kernel
theorem dX8_rake_35 : decode cX8_rake 35 = .ok (.aload_n 0, 1) := by decide +kernel
theorem dX8_rake_36 : decode cX8_rake 36 = .ok (.invokevirtual 145, 3) := by decide +kernel
theorem dX8_rake_39 : decode cX8_rake 39 = .ok (.iconst 0, 1) := by decide +kernel
theorem dX8_rake_40 : decode cX8_rake 40 = .ok (.istore_n 2, 1) := by decide +kernel
theorem dX8_rake_41 : decode cX8_rake 41 = .ok (.iload_n 2, 1) := by decide +kernel
theorem dX8_rake_42 : decode cX8_rake 42 = .ok (.aload_n 0, 1) := by decide +kernel
theorem dX8_rake_43 : decode cX8_rake 43 = .ok (.getfield 177, 3) := by decide +kernel
theorem dX8_rake_46 : decode cX8_rake 46 = .ok (.if_icmp .ge 16, 3) := by decide +kernel
theorem dX8_rake_49 : decode cX8_rake 49 = .ok (.aload_n 0, 1) := by decide +kernel
theorem dX8_rake_50 : decode cX8_rake 50 = .ok (.getfield 54, 3) := by decide +kernel
theorem dX8_rake_53 : decode cX8_rake 53 = .ok (.iload_n 2, 1) := by decide +kernel
theorem dX8_rake_54 : decode cX8_rake 54 = .ok (.iconst 0, 1) := by decide +kernel
theorem dX8_rake_55 : decode cX8_rake 55 = .ok (.bastore, 1) := by decide +kernel
theorem dX8_rake_56 : decode cX8_rake 56 = .ok (.iinc 2 1, 3) := by decide +kernel
theorem dX8_rake_59 : decode cX8_rake 59 = .ok (.goto (-18), 3) := by decide +kernel
theorem dX8_rake_62 : decode cX8_rake 62 = .ok (.iload_n 1, 1) := by decide +kernel
theorem dX8_rake_63 : decode cX8_rake 63 = .ok (.ireturn, 1) := by decide +kernel
set_option maxRecDepth 20000 in
theorem ggX8_count_X8_opened : GoodIn wsX8_count wsX8_opened := goodIn_r _ [16, 4, 17, 23, 24, 25, 26, 27, 28, 29, 30, 31, 32, 33, 34, 35, 36, 37, 38, 39, 40, 41, 42, 43, 44, 45, 46, 47, 48, 49, 50, 51, 52, 53, 54, 55, 56, 57, 58, 59, 60, 61, 62, 63, 64, 65, 66, 67, 68, 69, 70, 71, 72, 73, 74, 75, 76, 77, 78] (by decide +kernel) (by decide +kernel)
set_option maxRecDepth 20000 in
theorem gX8_count_X8_opened : GoodIn wsX8_count (wsV RX8 272 RX8 yX8_opened wsX8_opened) := goodIn_app (goodIn_of _ (by decide +kernel)) ggX8_count_X8_opened
set_option maxRecDepth 20000 in
theorem ggX8_count_X8_burning : GoodIn wsX8_count wsX8_burning := goodIn_r _ [21, 22, 23, 24, 25, 26, 27, 28, 29, 30, 31, 32, 33, 34, 35, 36, 37, 38, 39, 40, 41, 42, 43, 44, 45, 46, 47, 48, 49, 50, 51, 52, 53, 54, 55, 56, 57, 58, 59, 60, 61, 62, 63, 64, 65, 66, 67, 68, 69, 70, 71, 72, 73, 74, 75, 76, 77, 78] (by decide +kernel) (by decide +kernel)
set_option maxRecDepth 20000 in
theorem gX8_count_X8_burning : GoodIn wsX8_count (wsV RX8 259 RX8 yX8_burning wsX8_burning) := goodIn_app (goodIn_of _ (by decide +kernel)) ggX8_count_X8_burning
theorem dX8_count_0 : decode cX8_count 0 = .ok (.aload_n 0, 1) := by decide +kernel
theorem dX8_count_1 : decode cX8_count 1 = .ok (.iconst 0, 1) := by decide +kernel
theorem dX8_count_2 : decode cX8_count 2 = .ok (.putfield 1, 3) := by decide +kernel
theorem dX8_count_5 : decode cX8_count 5 = .ok (.iload_n 1, 1) := by decide +kernel
theorem dX8_count_6 : decode cX8_count 6 = .ok (.tableswitch 130 0 11 #[62, 67, 72, 77, 82, 87, 92, 105, 110, 115, 120, 125], 62) := by decide +kernel
theorem dX8_count_68 : decode cX8_count 68 = .ok (.aload_n 0, 1) := by decide +kernel
theorem dX8_count_69 : decode cX8_count 69 = .ok (.getfield 13, 3) := by decide +kernel
theorem dX8_count_72 : decode cX8_count 72 = .ok (.ireturn, 1) := by decide +kernel
theorem dX8_count_73 : decode cX8_count 73 = .ok (.aload_n 0, 1) := by decide +kernel
theorem dX8_count_74 : decode cX8_count 74 = .ok (.getfield 16, 3) := by decide +kernel
theorem dX8_count_77 : decode cX8_count 77 = .ok (.ireturn, 1) := by decide +kernel
theorem dX8_count_78 : decode cX8_count 78 = .ok (.aload_n 0, 1) := by decide +kernel
theorem dX8_count_79 : decode cX8_count 79 = .ok (.getfield 177, 3) := by decide +kernel
theorem dX8_count_82 : decode cX8_count 82 = .ok (.ireturn, 1) := by decide +kernel
theorem dX8_count_83 : decode cX8_count 83 = .ok (.aload_n 0, 1) := by decide +kernel
theorem dX8_count_84 : decode cX8_count 84 = .ok (.invokevirtual 272, 3) := by decide +kernel
theorem dX8_count_87 : decode cX8_count 87 = .ok (.ireturn, 1) := by decide +kernel
theorem dX8_count_88 : decode cX8_count 88 = .ok (.aload_n 0, 1) := by decide +kernel
theorem dX8_count_89 : decode cX8_count 89 = .ok (.getfield 200, 3) := by decide +kernel
theorem dX8_count_92 : decode cX8_count 92 = .ok (.ireturn, 1) := by decide +kernel
theorem dX8_count_93 : decode cX8_count 93 = .ok (.aload_n 0, 1) := by decide +kernel
theorem dX8_count_94 : decode cX8_count 94 = .ok (.getfield 163, 3) := by decide +kernel
theorem dX8_count_97 : decode cX8_count 97 = .ok (.ireturn, 1) := by decide +kernel
theorem dX8_count_98 : decode cX8_count 98 = .ok (.aload_n 0, 1) := by decide +kernel
theorem dX8_count_99 : decode cX8_count 99 = .ok (.getfield 159, 3) := by decide +kernel
theorem dX8_count_102 : decode cX8_count 102 = .ok (.ifCond .eq 7, 3) := by decide +kernel
theorem dX8_count_105 : decode cX8_count 105 = .ok (.iconst 1, 1) := by decide +kernel
theorem dX8_count_106 : decode cX8_count 106 = .ok (.goto 4, 3) := by decide +kernel
theorem dX8_count_109 : decode cX8_count 109 = .ok (.iconst 0, 1) := by decide +kernel
theorem dX8_count_110 : decode cX8_count 110 = .ok (.ireturn, 1) := by decide +kernel
theorem dX8_count_111 : decode cX8_count 111 = .ok (.aload_n 0, 1) := by decide +kernel
theorem dX8_count_112 : decode cX8_count 112 = .ok (.invokevirtual 259, 3) := by decide +kernel
theorem dX8_count_115 : decode cX8_count 115 = .ok (.ireturn, 1) := by decide +kernel
theorem dX8_count_116 : decode cX8_count 116 = .ok (.aload_n 0, 1) := by decide +kernel
theorem dX8_count_117 : decode cX8_count 117 = .ok (.getfield 172, 3) := by decide +kernel
theorem dX8_count_120 : decode cX8_count 120 = .ok (.ireturn, 1) := by decide +kernel
theorem dX8_count_121 : decode cX8_count 121 = .ok (.aload_n 0, 1) := by decide +kernel
theorem dX8_count_122 : decode cX8_count 122 = .ok (.getfield 285, 3) := by decide +kernel
theorem dX8_count_125 : decode cX8_count 125 = .ok (.ireturn, 1) := by decide +kernel
theorem dX8_count_126 : decode cX8_count 126 = .ok (.aload_n 0, 1) := by decide +kernel
theorem dX8_count_127 : decode cX8_count 127 = .ok (.getfield 288, 3) := by decide +kernel
theorem dX8_count_130 : decode cX8_count 130 = .ok (.ireturn, 1) := by decide +kernel
theorem dX8_count_131 : decode cX8_count 131 = .ok (.aload_n 0, 1) := by decide +kernel
theorem dX8_count_132 : decode cX8_count 132 = .ok (.getfield 282, 3) := by decide +kernel
theorem dX8_count_135 : decode cX8_count 135 = .ok (.ireturn, 1) := by decide +kernel
theorem dX8_count_136 : decode cX8_count 136 = .ok (.iconst (-1), 1) := by decide +kernel
theorem dX8_count_137 : decode cX8_count 137 = .ok (.ireturn, 1) := by decide +kernel
set_option maxRecDepth 20000 in
theorem ggX8_cell_X8_isCell : GoodIn wsX8_cell wsX8_isCell := goodIn_r _ [16, 17, 18, 19, 20, 15, 21, 38, 39, 40, 41, 42, 43, 44, 45, 46, 47, 48, 49, 50, 51, 52, 53, 54, 55, 56, 57, 58, 59, 60, 61, 62, 63, 64, 65, 66, 67, 68, 69, 70, 71, 72, 73, 74, 75, 76, 77, 78, 79, 80, 81, 82, 83, 84, 85, 86, 87, 88, 89, 90, 91, 92, 93] (by decide +kernel) (by decide +kernel)
set_option maxRecDepth 20000 in
theorem gX8_cell_X8_isCell : GoodIn wsX8_cell (wsV RX8 186 RX8 yX8_isCell wsX8_isCell) := goodIn_app (goodIn_of _ (by decide +kernel)) ggX8_cell_X8_isCell
set_option maxRecDepth 20000 in
theorem ggX8_cell_X8_in : GoodIn wsX8_cell wsX8_in := goodIn_r _ [21] (by decide +kernel) (by decide +kernel)
set_option maxRecDepth 20000 in
theorem gX8_cell_X8_in : GoodIn wsX8_cell (va_wsS RX8 148 yX8_in wsX8_in) := goodIn_app (goodIn_of _ (by decide +kernel)) ggX8_cell_X8_in
set_option maxRecDepth 20000 in
theorem ggX8_cell_X8_refuse : GoodIn wsX8_cell wsX8_refuse := goodIn_r _ [25, 1, 38, 39, 40, 41, 42, 43, 44, 45, 46, 47, 48, 49, 50, 51, 52, 53, 54, 55, 56, 57, 58, 59, 60, 61, 62, 63, 64, 65, 66, 67, 68, 69, 70, 71, 72, 73, 74, 75, 76, 77, 78, 79, 80, 81, 82, 83, 84, 85, 86, 87, 88, 89, 90, 91, 92, 93] (by decide +kernel) (by decide +kernel)
set_option maxRecDepth 20000 in
theorem gX8_cell_X8_refuse : GoodIn wsX8_cell (wsV RX8 291 RX8 yX8_refuse wsX8_refuse) := goodIn_app (goodIn_of _ (by decide +kernel)) ggX8_cell_X8_refuse
set_option maxRecDepth 20000 in
theorem ggX8_cell_X8_isOutside : GoodIn wsX8_cell wsX8_isOutside := goodIn_r _ [29, 17, 18, 30, 31, 32, 15, 33, 34, 35, 36, 37, 38, 39, 40, 41, 42, 43, 44, 45, 46, 47, 48, 49, 50, 51, 52, 53, 54, 55, 56, 57, 58, 59, 60, 61, 62, 63, 64, 65, 66, 67, 68, 69, 70, 71, 72, 73, 74, 75, 76, 77, 78, 79, 80, 81, 82, 83, 84, 85, 86, 87, 88, 89, 90, 91, 92, 93] (by decide +kernel) (by decide +kernel)
set_option maxRecDepth 20000 in
theorem gX8_cell_X8_isOutside : GoodIn wsX8_cell (wsV RX8 196 RX8 yX8_isOutside wsX8_isOutside) := goodIn_app (goodIn_of _ (by decide +kernel)) ggX8_cell_X8_isOutside
theorem dX8_cell_0 : decode cX8_cell 0 = .ok (.aload_n 0, 1) := by decide +kernel
theorem dX8_cell_1 : decode cX8_cell 1 = .ok (.iconst 0, 1) := by decide +kernel
theorem dX8_cell_2 : decode cX8_cell 2 = .ok (.putfield 1, 3) := by decide +kernel
theorem dX8_cell_5 : decode cX8_cell 5 = .ok (.aload_n 0, 1) := by decide +kernel
theorem dX8_cell_6 : decode cX8_cell 6 = .ok (.iload_n 1, 1) := by decide +kernel
theorem dX8_cell_7 : decode cX8_cell 7 = .ok (.iload_n 2, 1) := by decide +kernel
theorem dX8_cell_8 : decode cX8_cell 8 = .ok (.invokevirtual 186, 3) := by decide +kernel
theorem dX8_cell_11 : decode cX8_cell 11 = .ok (.ifCond .eq 15, 3) := by decide +kernel
theorem dX8_cell_14 : decode cX8_cell 14 = .ok (.iload_n 3, 1) := by decide +kernel
theorem dX8_cell_15 : decode cX8_cell 15 = .ok (.i2l, 1) := by decide +kernel
theorem dX8_cell_16 : decode cX8_cell 16 = .ok (.lconst 0, 1) := by decide +kernel
theorem dX8_cell_17 : decode cX8_cell 17 = .ok (.ldc2_w 175, 3) := by decide +kernel
theorem dX8_cell_20 : decode cX8_cell 20 = .ok (.invokestatic 148, 3) := by decide +kernel
theorem dX8_cell_23 : decode cX8_cell 23 = .ok (.ifCond .ne 8, 3) := by decide +kernel
theorem dX8_cell_26 : decode cX8_cell 26 = .ok (.aload_n 0, 1) := by decide +kernel
theorem dX8_cell_27 : decode cX8_cell 27 = .ok (.invokevirtual 291, 3) := by decide +kernel
theorem dX8_cell_30 : decode cX8_cell 30 = .ok (.ireturn, 1) := by decide +kernel
theorem dX8_cell_31 : decode cX8_cell 31 = .ok (.iload_n 2, 1) := by decide +kernel
theorem dX8_cell_32 : decode cX8_cell 32 = .ok (.bipush 8, 2) := by decide +kernel
theorem dX8_cell_34 : decode cX8_cell 34 = .ok (.imul, 1) := by decide +kernel
theorem dX8_cell_35 : decode cX8_cell 35 = .ok (.iload_n 1, 1) := by decide +kernel
theorem dX8_cell_36 : decode cX8_cell 36 = .ok (.iadd, 1) := by decide +kernel
theorem dX8_cell_37 : decode cX8_cell 37 = .ok (.istore 4, 2) := by decide +kernel
theorem dX8_cell_39 : decode cX8_cell 39 = .ok (.iload_n 3, 1) := by decide +kernel
theorem dX8_cell_40 : decode cX8_cell 40 = .ok (.tableswitch 133 0 7 #[48, 56, 64, 72, 80, 96, 117, 125], 48) := by decide +kernel
theorem dX8_cell_88 : decode cX8_cell 88 = .ok (.aload_n 0, 1) := by decide +kernel
theorem dX8_cell_89 : decode cX8_cell 89 = .ok (.getfield 19, 3) := by decide +kernel
theorem dX8_cell_92 : decode cX8_cell 92 = .ok (.iload 4, 2) := by decide +kernel
theorem dX8_cell_94 : decode cX8_cell 94 = .ok (.iaload, 1) := by decide +kernel
theorem dX8_cell_95 : decode cX8_cell 95 = .ok (.ireturn, 1) := by decide +kernel
theorem dX8_cell_96 : decode cX8_cell 96 = .ok (.aload_n 0, 1) := by decide +kernel
theorem dX8_cell_97 : decode cX8_cell 97 = .ok (.getfield 23, 3) := by decide +kernel
theorem dX8_cell_100 : decode cX8_cell 100 = .ok (.iload 4, 2) := by decide +kernel
theorem dX8_cell_102 : decode cX8_cell 102 = .ok (.iaload, 1) := by decide +kernel
theorem dX8_cell_103 : decode cX8_cell 103 = .ok (.ireturn, 1) := by decide +kernel
theorem dX8_cell_104 : decode cX8_cell 104 = .ok (.aload_n 0, 1) := by decide +kernel
theorem dX8_cell_105 : decode cX8_cell 105 = .ok (.getfield 26, 3) := by decide +kernel
theorem dX8_cell_108 : decode cX8_cell 108 = .ok (.iload 4, 2) := by decide +kernel
theorem dX8_cell_110 : decode cX8_cell 110 = .ok (.iaload, 1) := by decide +kernel
theorem dX8_cell_111 : decode cX8_cell 111 = .ok (.ireturn, 1) := by decide +kernel
theorem dX8_cell_112 : decode cX8_cell 112 = .ok (.aload_n 0, 1) := by decide +kernel
theorem dX8_cell_113 : decode cX8_cell 113 = .ok (.getfield 29, 3) := by decide +kernel
theorem dX8_cell_116 : decode cX8_cell 116 = .ok (.iload 4, 2) := by decide +kernel
theorem dX8_cell_118 : decode cX8_cell 118 = .ok (.iaload, 1) := by decide +kernel
theorem dX8_cell_119 : decode cX8_cell 119 = .ok (.ireturn, 1) := by decide +kernel
theorem dX8_cell_120 : decode cX8_cell 120 = .ok (.aload_n 0, 1) := by decide +kernel
theorem dX8_cell_121 : decode cX8_cell 121 = .ok (.getfield 32, 3) := by decide +kernel
theorem dX8_cell_124 : decode cX8_cell 124 = .ok (.iload 4, 2) := by decide +kernel
theorem dX8_cell_126 : decode cX8_cell 126 = .ok (.baload, 1) := by decide +kernel
theorem dX8_cell_127 : decode cX8_cell 127 = .ok (.ifCond .eq 7, 3) := by decide +kernel
theorem dX8_cell_130 : decode cX8_cell 130 = .ok (.iconst 1, 1) := by decide +kernel
theorem dX8_cell_131 : decode cX8_cell 131 = .ok (.goto 4, 3) := by decide +kernel
theorem dX8_cell_134 : decode cX8_cell 134 = .ok (.iconst 0, 1) := by decide +kernel
theorem dX8_cell_135 : decode cX8_cell 135 = .ok (.ireturn, 1) := by decide +kernel
theorem dX8_cell_136 : decode cX8_cell 136 = .ok (.aload_n 0, 1) := by decide +kernel
theorem dX8_cell_137 : decode cX8_cell 137 = .ok (.iload 4, 2) := by decide +kernel
theorem dX8_cell_139 : decode cX8_cell 139 = .ok (.invokevirtual 196, 3) := by decide +kernel
theorem dX8_cell_142 : decode cX8_cell 142 = .ok (.ifCond .eq 13, 3) := by decide +kernel
theorem dX8_cell_145 : decode cX8_cell 145 = .ok (.aload_n 0, 1) := by decide +kernel
theorem dX8_cell_146 : decode cX8_cell 146 = .ok (.getfield 42, 3) := by decide +kernel
theorem dX8_cell_149 : decode cX8_cell 149 = .ok (.iload 4, 2) := by decide +kernel
theorem dX8_cell_151 : decode cX8_cell 151 = .ok (.iaload, 1) := by decide +kernel
theorem dX8_cell_152 : decode cX8_cell 152 = .ok (.goto 4, 3) := by decide +kernel
theorem dX8_cell_155 : decode cX8_cell 155 = .ok (.iconst (-1), 1) := by decide +kernel
theorem dX8_cell_156 : decode cX8_cell 156 = .ok (.ireturn, 1) := by decide +kernel
theorem dX8_cell_157 : decode cX8_cell 157 = .ok (.aload_n 0, 1) := by decide +kernel
theorem dX8_cell_158 : decode cX8_cell 158 = .ok (.getfield 45, 3) := by decide +kernel
theorem dX8_cell_161 : decode cX8_cell 161 = .ok (.iload 4, 2) := by decide +kernel
theorem dX8_cell_163 : decode cX8_cell 163 = .ok (.iaload, 1) := by decide +kernel
theorem dX8_cell_164 : decode cX8_cell 164 = .ok (.ireturn, 1) := by decide +kernel
theorem dX8_cell_165 : decode cX8_cell 165 = .ok (.aload_n 0, 1) := by decide +kernel
theorem dX8_cell_166 : decode cX8_cell 166 = .ok (.getfield 39, 3) := by decide +kernel
theorem dX8_cell_169 : decode cX8_cell 169 = .ok (.iload 4, 2) := by decide +kernel
theorem dX8_cell_171 : decode cX8_cell 171 = .ok (.iaload, 1) := by decide +kernel
theorem dX8_cell_172 : decode cX8_cell 172 = .ok (.ireturn, 1) := by decide +kernel
theorem dX8_cell_173 : decode cX8_cell 173 = .ok (.aload_n 0, 1) := by decide +kernel
theorem dX8_cell_174 : decode cX8_cell 174 = .ok (.getfield 36, 3) := by decide +kernel
theorem dX8_cell_177 : decode cX8_cell 177 = .ok (.iload 4, 2) := by decide +kernel
theorem dX8_cell_179 : decode cX8_cell 179 = .ok (.iaload, 1) := by decide +kernel
theorem dX8_cell_180 : decode cX8_cell 180 = .ok (.ireturn, 1) := by decide +kernel
set_option maxRecDepth 20000 in
theorem ggX8_all_X8_sum : GoodIn wsX8_all wsX8_sum := goodIn_r _ [10] (by decide +kernel) (by decide +kernel)
set_option maxRecDepth 20000 in
theorem gX8_all_X8_sum : GoodIn wsX8_all (va_wsS RX8 278 yX8_sum wsX8_sum) := goodIn_app (goodIn_of _ (by decide +kernel)) ggX8_all_X8_sum
theorem dX8_all_0 : decode cX8_all 0 = .ok (.aload_n 0, 1) := by decide +kernel
theorem dX8_all_1 : decode cX8_all 1 = .ok (.iconst 0, 1) := by decide +kernel
theorem dX8_all_2 : decode cX8_all 2 = .ok (.putfield 1, 3) := by decide +kernel
theorem dX8_all_5 : decode cX8_all 5 = .ok (.iload_n 1, 1) := by decide +kernel
theorem dX8_all_6 : decode cX8_all 6 = .ok (.tableswitch 68 0 4 #[34, 42, 50, 58, 63], 34) := by decide +kernel
theorem dX8_all_40 : decode cX8_all 40 = .ok (.aload_n 0, 1) := by decide +kernel
theorem dX8_all_41 : decode cX8_all 41 = .ok (.getfield 39, 3) := by decide +kernel
theorem dX8_all_44 : decode cX8_all 44 = .ok (.invokestatic 278, 3) := by decide +kernel
theorem dX8_all_47 : decode cX8_all 47 = .ok (.ireturn, 1) := by decide +kernel
theorem dX8_all_48 : decode cX8_all 48 = .ok (.aload_n 0, 1) := by decide +kernel
theorem dX8_all_49 : decode cX8_all 49 = .ok (.getfield 19, 3) := by decide +kernel
theorem dX8_all_52 : decode cX8_all 52 = .ok (.invokestatic 278, 3) := by decide +kernel
theorem dX8_all_55 : decode cX8_all 55 = .ok (.ireturn, 1) := by decide +kernel
theorem dX8_all_56 : decode cX8_all 56 = .ok (.aload_n 0, 1) := by decide +kernel
theorem dX8_all_57 : decode cX8_all 57 = .ok (.getfield 23, 3) := by decide +kernel
theorem dX8_all_60 : decode cX8_all 60 = .ok (.invokestatic 278, 3) := by decide +kernel
theorem dX8_all_63 : decode cX8_all 63 = .ok (.ireturn, 1) := by decide +kernel
theorem dX8_all_64 : decode cX8_all 64 = .ok (.aload_n 0, 1) := by decide +kernel
theorem dX8_all_65 : decode cX8_all 65 = .ok (.getfield 166, 3) := by decide +kernel
theorem dX8_all_68 : decode cX8_all 68 = .ok (.ireturn, 1) := by decide +kernel
theorem dX8_all_69 : decode cX8_all 69 = .ok (.aload_n 0, 1) := by decide +kernel
theorem dX8_all_70 : decode cX8_all 70 = .ok (.getfield 169, 3) := by decide +kernel
theorem dX8_all_73 : decode cX8_all 73 = .ok (.ireturn, 1) := by decide +kernel
theorem dX8_all_74 : decode cX8_all 74 = .ok (.iconst (-1), 1) := by decide +kernel
theorem dX8_all_75 : decode cX8_all 75 = .ok (.ireturn, 1) := by decide +kernel
set_option maxRecDepth 20000 in
theorem ggX8_told_X8_in : GoodIn wsX8_told wsX8_in := goodIn_r _ [12] (by decide +kernel) (by decide +kernel)
set_option maxRecDepth 20000 in
theorem gX8_told_X8_in : GoodIn wsX8_told (va_wsS RX8 148 yX8_in wsX8_in) := goodIn_app (goodIn_of _ (by decide +kernel)) ggX8_told_X8_in
theorem dX8_told_0 : decode cX8_told 0 = .ok (.aload_n 0, 1) := by decide +kernel
theorem dX8_told_1 : decode cX8_told 1 = .ok (.iconst 0, 1) := by decide +kernel
theorem dX8_told_2 : decode cX8_told 2 = .ok (.putfield 1, 3) := by decide +kernel
theorem dX8_told_5 : decode cX8_told 5 = .ok (.iload_n 1, 1) := by decide +kernel
theorem dX8_told_6 : decode cX8_told 6 = .ok (.i2l, 1) := by decide +kernel
theorem dX8_told_7 : decode cX8_told 7 = .ok (.lconst 0, 1) := by decide +kernel
theorem dX8_told_8 : decode cX8_told 8 = .ok (.aload_n 0, 1) := by decide +kernel
theorem dX8_told_9 : decode cX8_told 9 = .ok (.getfield 163, 3) := by decide +kernel
theorem dX8_told_12 : decode cX8_told 12 = .ok (.iconst 1, 1) := by decide +kernel
theorem dX8_told_13 : decode cX8_told 13 = .ok (.isub, 1) := by decide +kernel
theorem dX8_told_14 : decode cX8_told 14 = .ok (.i2l, 1) := by decide +kernel
theorem dX8_told_15 : decode cX8_told 15 = .ok (.invokestatic 148, 3) := by decide +kernel
theorem dX8_told_18 : decode cX8_told 18 = .ok (.ifCond .ne 5, 3) := by decide +kernel
theorem dX8_told_21 : decode cX8_told 21 = .ok (.iconst (-1), 1) := by decide +kernel
theorem dX8_told_22 : decode cX8_told 22 = .ok (.ireturn, 1) := by decide +kernel
theorem dX8_told_23 : decode cX8_told 23 = .ok (.iload_n 2, 1) := by decide +kernel
theorem dX8_told_24 : decode cX8_told 24 = .ok (.tableswitch 82 0 5 #[40, 47, 54, 61, 68, 75], 40) := by decide +kernel
theorem dX8_told_64 : decode cX8_told 64 = .ok (.aload_n 0, 1) := by decide +kernel
theorem dX8_told_65 : decode cX8_told 65 = .ok (.getfield 82, 3) := by decide +kernel
theorem dX8_told_68 : decode cX8_told 68 = .ok (.iload_n 1, 1) := by decide +kernel
theorem dX8_told_69 : decode cX8_told 69 = .ok (.iaload, 1) := by decide +kernel
theorem dX8_told_70 : decode cX8_told 70 = .ok (.ireturn, 1) := by decide +kernel
theorem dX8_told_71 : decode cX8_told 71 = .ok (.aload_n 0, 1) := by decide +kernel
theorem dX8_told_72 : decode cX8_told 72 = .ok (.getfield 85, 3) := by decide +kernel
theorem dX8_told_75 : decode cX8_told 75 = .ok (.iload_n 1, 1) := by decide +kernel
theorem dX8_told_76 : decode cX8_told 76 = .ok (.iaload, 1) := by decide +kernel
theorem dX8_told_77 : decode cX8_told 77 = .ok (.ireturn, 1) := by decide +kernel
theorem dX8_told_78 : decode cX8_told 78 = .ok (.aload_n 0, 1) := by decide +kernel
theorem dX8_told_79 : decode cX8_told 79 = .ok (.getfield 88, 3) := by decide +kernel
theorem dX8_told_82 : decode cX8_told 82 = .ok (.iload_n 1, 1) := by decide +kernel
theorem dX8_told_83 : decode cX8_told 83 = .ok (.iaload, 1) := by decide +kernel
theorem dX8_told_84 : decode cX8_told 84 = .ok (.ireturn, 1) := by decide +kernel
theorem dX8_told_85 : decode cX8_told 85 = .ok (.aload_n 0, 1) := by decide +kernel
theorem dX8_told_86 : decode cX8_told 86 = .ok (.getfield 91, 3) := by decide +kernel
theorem dX8_told_89 : decode cX8_told 89 = .ok (.iload_n 1, 1) := by decide +kernel
theorem dX8_told_90 : decode cX8_told 90 = .ok (.iaload, 1) := by decide +kernel
theorem dX8_told_91 : decode cX8_told 91 = .ok (.ireturn, 1) := by decide +kernel
theorem dX8_told_92 : decode cX8_told 92 = .ok (.aload_n 0, 1) := by decide +kernel
theorem dX8_told_93 : decode cX8_told 93 = .ok (.getfield 94, 3) := by decide +kernel
theorem dX8_told_96 : decode cX8_told 96 = .ok (.iload_n 1, 1) := by decide +kernel
theorem dX8_told_97 : decode cX8_told 97 = .ok (.iaload, 1) := by decide +kernel
theorem dX8_told_98 : decode cX8_told 98 = .ok (.ireturn, 1) := by decide +kernel
theorem dX8_told_99 : decode cX8_told 99 = .ok (.aload_n 0, 1) := by decide +kernel
theorem dX8_told_100 : decode cX8_told 100 = .ok (.getfield 97, 3) := by decide +kernel
theorem dX8_told_103 : decode cX8_told 103 = .ok (.iload_n 1, 1) := by decide +kernel
theorem dX8_told_104 : decode cX8_told 104 = .ok (.iaload, 1) := by decide +kernel
theorem dX8_told_105 : decode cX8_told 105 = .ok (.ireturn, 1) := by decide +kernel
theorem dX8_told_106 : decode cX8_told 106 = .ok (.iconst (-1), 1) := by decide +kernel
theorem dX8_told_107 : decode cX8_told 107 = .ok (.ireturn, 1) := by decide +kernel
set_option maxRecDepth 20000 in
theorem ggX8_breach_X8_isCell : GoodIn wsX8_breach wsX8_isCell := goodIn_r _ [7, 8, 9, 10, 11, 6, 12, 13, 14, 15, 16, 17, 18, 19, 20, 21, 22, 23, 24, 25, 26, 27, 28, 29, 30, 31, 32, 33, 34, 35, 36, 37, 38, 39, 40, 41, 42, 43, 44, 45, 46, 47, 48, 49, 50, 51, 52, 53, 54, 55, 56, 57, 58, 59, 60, 61, 62, 63, 64, 65, 66, 67, 68] (by decide +kernel) (by decide +kernel)
set_option maxRecDepth 20000 in
theorem gX8_breach_X8_isCell : GoodIn wsX8_breach (wsV RX8 186 RX8 yX8_isCell wsX8_isCell) := goodIn_app (goodIn_of _ (by decide +kernel)) ggX8_breach_X8_isCell
theorem dX8_breach_0 : decode cX8_breach 0 = .ok (.aload_n 0, 1) := by decide +kernel
theorem dX8_breach_1 : decode cX8_breach 1 = .ok (.iconst 0, 1) := by decide +kernel
theorem dX8_breach_2 : decode cX8_breach 2 = .ok (.putfield 1, 3) := by decide +kernel
theorem dX8_breach_5 : decode cX8_breach 5 = .ok (.aload_n 0, 1) := by decide +kernel
theorem dX8_breach_6 : decode cX8_breach 6 = .ok (.iload_n 1, 1) := by decide +kernel
theorem dX8_breach_7 : decode cX8_breach 7 = .ok (.iload_n 2, 1) := by decide +kernel
theorem dX8_breach_8 : decode cX8_breach 8 = .ok (.invokevirtual 186, 3) := by decide +kernel
theorem dX8_breach_11 : decode cX8_breach 11 = .ok (.ifCond .eq 17, 3) := by decide +kernel
theorem dX8_breach_14 : decode cX8_breach 14 = .ok (.aload_n 0, 1) := by decide +kernel
theorem dX8_breach_15 : decode cX8_breach 15 = .ok (.getfield 48, 3) := by decide +kernel
theorem dX8_breach_18 : decode cX8_breach 18 = .ok (.iload_n 2, 1) := by decide +kernel
theorem dX8_breach_19 : decode cX8_breach 19 = .ok (.bipush 8, 2) := by decide +kernel
theorem dX8_breach_21 : decode cX8_breach 21 = .ok (.imul, 1) := by decide +kernel
theorem dX8_breach_22 : decode cX8_breach 22 = .ok (.iload_n 1, 1) := by decide +kernel
theorem dX8_breach_23 : decode cX8_breach 23 = .ok (.iadd, 1) := by decide +kernel
theorem dX8_breach_24 : decode cX8_breach 24 = .ok (.iaload, 1) := by decide +kernel
theorem dX8_breach_25 : decode cX8_breach 25 = .ok (.goto 4, 3) := by decide +kernel
theorem dX8_breach_28 : decode cX8_breach 28 = .ok (.iconst (-1), 1) := by decide +kernel
theorem dX8_breach_29 : decode cX8_breach 29 = .ok (.ireturn, 1) := by decide +kernel
theorem dX8_sign_0 : decode cX8_sign 0 = .ok (.aload_n 0, 1) := by decide +kernel
theorem dX8_sign_1 : decode cX8_sign 1 = .ok (.iconst 0, 1) := by decide +kernel
theorem dX8_sign_2 : decode cX8_sign 2 = .ok (.putfield 1, 3) := by decide +kernel
theorem dX8_sign_5 : decode cX8_sign 5 = .ok (.aload_n 0, 1) := by decide +kernel
theorem dX8_sign_6 : decode cX8_sign 6 = .ok (.getfield 288, 3) := by decide +kernel
theorem dX8_sign_9 : decode cX8_sign 9 = .ok (.bipush 96, 2) := by decide +kernel
theorem dX8_sign_11 : decode cX8_sign 11 = .ok (.if_icmp .le 5, 3) := by decide +kernel
theorem dX8_sign_14 : decode cX8_sign 14 = .ok (.iconst (-1), 1) := by decide +kernel
theorem dX8_sign_15 : decode cX8_sign 15 = .ok (.ireturn, 1) := by decide +kernel
theorem dX8_sign_16 : decode cX8_sign 16 = .ok (.iconst 0, 1) := by decide +kernel
theorem dX8_sign_17 : decode cX8_sign 17 = .ok (.istore_n 2, 1) := by decide +kernel
theorem dX8_sign_18 : decode cX8_sign 18 = .ok (.iload_n 2, 1) := by decide +kernel
theorem dX8_sign_19 : decode cX8_sign 19 = .ok (.iconst 4, 1) := by decide +kernel
theorem dX8_sign_20 : decode cX8_sign 20 = .ok (.if_icmp .ge 33, 3) := by decide +kernel
theorem dX8_sign_23 : decode cX8_sign 23 = .ok (.aload_n 0, 1) := by decide +kernel
theorem dX8_sign_24 : decode cX8_sign 24 = .ok (.getfield 112, 3) := by decide +kernel
theorem dX8_sign_27 : decode cX8_sign 27 = .ok (.aload_n 0, 1) := by decide +kernel
theorem dX8_sign_28 : decode cX8_sign 28 = .ok (.getfield 288, 3) := by decide +kernel
theorem dX8_sign_31 : decode cX8_sign 31 = .ok (.iload_n 2, 1) := by decide +kernel
theorem dX8_sign_32 : decode cX8_sign 32 = .ok (.iadd, 1) := by decide +kernel
theorem dX8_sign_33 : decode cX8_sign 33 = .ok (.iload_n 1, 1) := by decide +kernel
theorem dX8_sign_34 : decode cX8_sign 34 = .ok (.bipush 24, 2) := by decide +kernel
theorem dX8_sign_36 : decode cX8_sign 36 = .ok (.bipush 8, 2) := by decide +kernel
theorem dX8_sign_38 : decode cX8_sign 38 = .ok (.iload_n 2, 1) := by decide +kernel
theorem dX8_sign_39 : decode cX8_sign 39 = .ok (.imul, 1) := by decide +kernel
theorem dX8_sign_40 : decode cX8_sign 40 = .ok (.isub, 1) := by decide +kernel
theorem dX8_sign_41 : decode cX8_sign 41 = .ok (.ishr, 1) := by decide +kernel
theorem dX8_sign_42 : decode cX8_sign 42 = .ok (.sipush 255, 3) := by decide +kernel
theorem dX8_sign_45 : decode cX8_sign 45 = .ok (.iand, 1) := by decide +kernel
theorem dX8_sign_46 : decode cX8_sign 46 = .ok (.iastore, 1) := by decide +kernel
theorem dX8_sign_47 : decode cX8_sign 47 = .ok (.iinc 2 1, 3) := by decide +kernel
theorem dX8_sign_50 : decode cX8_sign 50 = .ok (.goto (-32), 3) := by decide +kernel
theorem dX8_sign_53 : decode cX8_sign 53 = .ok (.aload_n 0, 1) := by decide +kernel
theorem dX8_sign_54 : decode cX8_sign 54 = .ok (.dup, 1) := by decide +kernel
theorem dX8_sign_55 : decode cX8_sign 55 = .ok (.getfield 288, 3) := by decide +kernel
theorem dX8_sign_58 : decode cX8_sign 58 = .ok (.iconst 4, 1) := by decide +kernel
theorem dX8_sign_59 : decode cX8_sign 59 = .ok (.iadd, 1) := by decide +kernel
theorem dX8_sign_60 : decode cX8_sign 60 = .ok (.putfield 288, 3) := by decide +kernel
theorem dX8_sign_63 : decode cX8_sign 63 = .ok (.aload_n 0, 1) := by decide +kernel
theorem dX8_sign_64 : decode cX8_sign 64 = .ok (.getfield 288, 3) := by decide +kernel
theorem dX8_sign_67 : decode cX8_sign 67 = .ok (.ireturn, 1) := by decide +kernel
set_option maxRecDepth 20000 in
theorem ggX8_end_X8_in : GoodIn wsX8_end wsX8_in := goodIn_r _ [6] (by decide +kernel) (by decide +kernel)
set_option maxRecDepth 20000 in
theorem gX8_end_X8_in : GoodIn wsX8_end (va_wsS RX8 148 yX8_in wsX8_in) := goodIn_app (goodIn_of _ (by decide +kernel)) ggX8_end_X8_in
theorem dX8_end_0 : decode cX8_end 0 = .ok (.aload_n 0, 1) := by decide +kernel
theorem dX8_end_1 : decode cX8_end 1 = .ok (.iconst 0, 1) := by decide +kernel
theorem dX8_end_2 : decode cX8_end 2 = .ok (.putfield 1, 3) := by decide +kernel
theorem dX8_end_5 : decode cX8_end 5 = .ok (.iload_n 1, 1) := by decide +kernel
theorem dX8_end_6 : decode cX8_end 6 = .ok (.i2l, 1) := by decide +kernel
theorem dX8_end_7 : decode cX8_end 7 = .ok (.lconst 0, 1) := by decide +kernel
theorem dX8_end_8 : decode cX8_end 8 = .ok (.aload_n 0, 1) := by decide +kernel
theorem dX8_end_9 : decode cX8_end 9 = .ok (.getfield 288, 3) := by decide +kernel
theorem dX8_end_12 : decode cX8_end 12 = .ok (.i2l, 1) := by decide +kernel
theorem dX8_end_13 : decode cX8_end 13 = .ok (.invokestatic 148, 3) := by decide +kernel
theorem dX8_end_16 : decode cX8_end 16 = .ok (.ifCond .ne 5, 3) := by decide +kernel
theorem dX8_end_19 : decode cX8_end 19 = .ok (.iconst 0, 1) := by decide +kernel
theorem dX8_end_20 : decode cX8_end 20 = .ok (.ireturn, 1) := by decide +kernel
theorem dX8_end_21 : decode cX8_end 21 = .ok (.aload_n 0, 1) := by decide +kernel
theorem dX8_end_22 : decode cX8_end 22 = .ok (.iload_n 1, 1) := by decide +kernel
theorem dX8_end_23 : decode cX8_end 23 = .ok (.putfield 288, 3) := by decide +kernel
theorem dX8_end_26 : decode cX8_end 26 = .ok (.iconst 1, 1) := by decide +kernel
theorem dX8_end_27 : decode cX8_end 27 = .ok (.ireturn, 1) := by decide +kernel
set_option maxRecDepth 20000 in
theorem ggX8_isSign_J0_indexOf_0f7a4 : GoodIn wsX8_isSign wsJ0_indexOf_0f7a4 := goodIn_r _ [7, 8, 9, 10, 6, 11, 12, 13, 14, 15, 16, 17, 18, 19, 20, 21, 22, 23, 24, 25, 26, 27, 28, 29, 30, 31, 32, 33, 34, 35, 36, 37, 38, 39, 40, 41, 42, 43, 44, 45, 46, 47, 48, 49, 50, 51, 52, 53, 54, 55, 56, 57, 58, 59, 60, 61, 62, 63, 64, 65, 66, 67, 68, 69, 70, 71, 72, 73, 74, 75, 76, 77, 78, 79, 80, 81, 82, 83, 84, 85, 86, 87, 88, 89, 90, 91] (by decide +kernel) (by decide +kernel)
set_option maxRecDepth 20000 in
theorem gX8_isSign_J0_indexOf_0f7a4 : GoodIn wsX8_isSign (wsV RX8 297 RJ0 yJ0_indexOf_0f7a4 wsJ0_indexOf_0f7a4) := goodIn_app (goodIn_of _ (by decide +kernel)) ggX8_isSign_J0_indexOf_0f7a4
theorem dX8_isSign_0 : decode cX8_isSign 0 = .ok (.aload_n 0, 1) := by decide +kernel
theorem dX8_isSign_1 : decode cX8_isSign 1 = .ok (.getfield 294, 3) := by decide +kernel
theorem dX8_isSign_4 : decode cX8_isSign 4 = .ok (.iload_n 1, 1) := by decide +kernel
theorem dX8_isSign_5 : decode cX8_isSign 5 = .ok (.if_icmp .ge 35, 3) := by decide +kernel
theorem dX8_isSign_8 : decode cX8_isSign 8 = .ok (.aload_n 0, 1) := by decide +kernel
theorem dX8_isSign_9 : decode cX8_isSign 9 = .ok (.getfield 112, 3) := by decide +kernel
theorem dX8_isSign_12 : decode cX8_isSign 12 = .ok (.aload_n 0, 1) := by decide +kernel
theorem dX8_isSign_13 : decode cX8_isSign 13 = .ok (.getfield 294, 3) := by decide +kernel
theorem dX8_isSign_16 : decode cX8_isSign 16 = .ok (.iaload, 1) := by decide +kernel
theorem dX8_isSign_17 : decode cX8_isSign 17 = .ok (.ifCond .le 23, 3) := by decide +kernel
theorem dX8_isSign_20 : decode cX8_isSign 20 = .ok (.aload_n 2, 1) := by decide +kernel
theorem dX8_isSign_21 : decode cX8_isSign 21 = .ok (.aload_n 0, 1) := by decide +kernel
theorem dX8_isSign_22 : decode cX8_isSign 22 = .ok (.getfield 112, 3) := by decide +kernel
theorem dX8_isSign_25 : decode cX8_isSign 25 = .ok (.aload_n 0, 1) := by decide +kernel
theorem dX8_isSign_26 : decode cX8_isSign 26 = .ok (.getfield 294, 3) := by decide +kernel
theorem dX8_isSign_29 : decode cX8_isSign 29 = .ok (.iaload, 1) := by decide +kernel
theorem dX8_isSign_30 : decode cX8_isSign 30 = .ok (.invokevirtual 297, 3) := by decide +kernel
theorem dX8_isSign_33 : decode cX8_isSign 33 = .ok (.ifCond .lt 7, 3) := by decide +kernel
theorem dX8_isSign_36 : decode cX8_isSign 36 = .ok (.iconst 1, 1) := by decide +kernel
theorem dX8_isSign_37 : decode cX8_isSign 37 = .ok (.goto 4, 3) := by decide +kernel
theorem dX8_isSign_40 : decode cX8_isSign 40 = .ok (.iconst 0, 1) := by decide +kernel
theorem dX8_isSign_41 : decode cX8_isSign 41 = .ok (.ireturn, 1) := by decide +kernel
set_option maxRecDepth 20000 in
theorem ggX8_numbers_X8_isSign : GoodIn wsX8_numbers wsX8_isSign := goodIn_r _ [8, 1, 3, 9, 10, 11, 12, 13, 14, 15, 16, 17, 18, 19, 20, 21, 22, 23, 24, 25, 26, 27, 28, 29, 30, 31, 32, 33, 34, 35, 36, 37, 38, 39, 40, 41, 42, 43, 44, 45, 46, 47, 48, 49, 50, 51, 52, 53, 54, 55, 56, 57, 58, 59, 60, 61, 62, 63, 64, 65, 66, 67, 68, 69, 70, 71, 72, 73, 74, 75, 76, 77, 78, 79, 80, 81, 82, 83, 84, 85, 86, 87, 88, 89, 90, 91, 92, 93, 94, 95, 96, 97, 98, 99, 100, 101, 102, 103, 104, 105, 106, 107, 108, 109, 110, 111, 112, 113, 114, 115, 116, 117, 118, 119, 120, 121, 122, 123, 124, 125, 126, 127, 128, 129, 130, 131, 132, 133, 134, 135, 136, 137, 138, 139, 140, 141, 142, 143, 144, 145, 146, 147, 148, 149, 150, 151, 152, 153] (by decide +kernel) (by decide +kernel)
set_option maxRecDepth 20000 in
theorem gX8_numbers_X8_isSign : GoodIn wsX8_numbers (wsV RX8 307 RX8 yX8_isSign wsX8_isSign) := goodIn_app (goodIn_of _ (by decide +kernel)) ggX8_numbers_X8_isSign
theorem dX8_numbers_0 : decode cX8_numbers 0 = .ok (.aload_n 0, 1) := by decide +kernel
theorem dX8_numbers_1 : decode cX8_numbers 1 = .ok (.getfield 294, 3) := by decide +kernel
theorem dX8_numbers_4 : decode cX8_numbers 4 = .ok (.istore_n 2, 1) := by decide +kernel
theorem dX8_numbers_5 : decode cX8_numbers 5 = .ok (.aload_n 0, 1) := by decide +kernel
theorem dX8_numbers_6 : decode cX8_numbers 6 = .ok (.iconst 0, 1) := by decide +kernel
theorem dX8_numbers_7 : decode cX8_numbers 7 = .ok (.putfield 302, 3) := by decide +kernel
theorem dX8_numbers_10 : decode cX8_numbers 10 = .ok (.aload_n 0, 1) := by decide +kernel
theorem dX8_numbers_11 : decode cX8_numbers 11 = .ok (.getfield 294, 3) := by decide +kernel
theorem dX8_numbers_14 : decode cX8_numbers 14 = .ok (.iload_n 2, 1) := by decide +kernel
theorem dX8_numbers_15 : decode cX8_numbers 15 = .ok (.iconst 5, 1) := by decide +kernel
theorem dX8_numbers_16 : decode cX8_numbers 16 = .ok (.iadd, 1) := by decide +kernel
theorem dX8_numbers_17 : decode cX8_numbers 17 = .ok (.if_icmp .ge 51, 3) := by decide +kernel
theorem dX8_numbers_20 : decode cX8_numbers 20 = .ok (.aload_n 0, 1) := by decide +kernel
theorem dX8_numbers_21 : decode cX8_numbers 21 = .ok (.iload_n 1, 1) := by decide +kernel
theorem dX8_numbers_22 : decode cX8_numbers 22 = .ok (.ldc_w 305, 3) := by decide +kernel
theorem dX8_numbers_25 : decode cX8_numbers 25 = .ok (.invokevirtual 307, 3) := by decide +kernel
theorem dX8_numbers_28 : decode cX8_numbers 28 = .ok (.ifCond .eq 40, 3) := by decide +kernel
theorem dX8_numbers_31 : decode cX8_numbers 31 = .ok (.aload_n 0, 1) := by decide +kernel
theorem dX8_numbers_32 : decode cX8_numbers 32 = .ok (.bipush 10, 2) := by decide +kernel
theorem dX8_numbers_34 : decode cX8_numbers 34 = .ok (.aload_n 0, 1) := by decide +kernel
theorem dX8_numbers_35 : decode cX8_numbers 35 = .ok (.getfield 302, 3) := by decide +kernel
theorem dX8_numbers_38 : decode cX8_numbers 38 = .ok (.imul, 1) := by decide +kernel
theorem dX8_numbers_39 : decode cX8_numbers 39 = .ok (.aload_n 0, 1) := by decide +kernel
theorem dX8_numbers_40 : decode cX8_numbers 40 = .ok (.getfield 112, 3) := by decide +kernel
theorem dX8_numbers_43 : decode cX8_numbers 43 = .ok (.aload_n 0, 1) := by decide +kernel
theorem dX8_numbers_44 : decode cX8_numbers 44 = .ok (.getfield 294, 3) := by decide +kernel
theorem dX8_numbers_47 : decode cX8_numbers 47 = .ok (.iaload, 1) := by decide +kernel
theorem dX8_numbers_48 : decode cX8_numbers 48 = .ok (.iadd, 1) := by decide +kernel
theorem dX8_numbers_49 : decode cX8_numbers 49 = .ok (.bipush 48, 2) := by decide +kernel
theorem dX8_numbers_51 : decode cX8_numbers 51 = .ok (.isub, 1) := by decide +kernel
theorem dX8_numbers_52 : decode cX8_numbers 52 = .ok (.putfield 302, 3) := by decide +kernel
theorem dX8_numbers_55 : decode cX8_numbers 55 = .ok (.aload_n 0, 1) := by decide +kernel
theorem dX8_numbers_56 : decode cX8_numbers 56 = .ok (.dup, 1) := by decide +kernel
theorem dX8_numbers_57 : decode cX8_numbers 57 = .ok (.getfield 294, 3) := by decide +kernel
theorem dX8_numbers_60 : decode cX8_numbers 60 = .ok (.iconst 1, 1) := by decide +kernel
theorem dX8_numbers_61 : decode cX8_numbers 61 = .ok (.iadd, 1) := by decide +kernel
theorem dX8_numbers_62 : decode cX8_numbers 62 = .ok (.putfield 294, 3) := by decide +kernel
theorem dX8_numbers_65 : decode cX8_numbers 65 = .ok (.goto (-55), 3) := by decide +kernel
theorem dX8_numbers_68 : decode cX8_numbers 68 = .ok (.aload_n 0, 1) := by decide +kernel
theorem dX8_numbers_69 : decode cX8_numbers 69 = .ok (.getfield 294, 3) := by decide +kernel
theorem dX8_numbers_72 : decode cX8_numbers 72 = .ok (.iload_n 2, 1) := by decide +kernel
theorem dX8_numbers_73 : decode cX8_numbers 73 = .ok (.if_icmp .le 7, 3) := by decide +kernel
theorem dX8_numbers_76 : decode cX8_numbers 76 = .ok (.iconst 1, 1) := by decide +kernel
theorem dX8_numbers_77 : decode cX8_numbers 77 = .ok (.goto 4, 3) := by decide +kernel
theorem dX8_numbers_80 : decode cX8_numbers 80 = .ok (.iconst 0, 1) := by decide +kernel
theorem dX8_numbers_81 : decode cX8_numbers 81 = .ok (.ireturn, 1) := by decide +kernel
set_option maxRecDepth 20000 in
theorem ggX8_ask_X8_isSign : GoodIn wsX8_ask wsX8_isSign := goodIn_r _ [13, 5, 4, 14, 15, 16, 17, 18, 19, 20, 21, 22, 23, 24, 25, 26, 27, 28, 29, 30, 31, 32, 33, 34, 35, 36, 37, 38, 39, 40, 41, 42, 43, 44, 45, 46, 47, 48, 49, 50, 51, 52, 53, 54, 55, 56, 57, 58, 59, 60, 61, 62, 63, 64, 65, 66, 67, 68, 69, 70, 71, 72, 73, 74, 75, 76, 77, 78, 79, 80, 81, 82, 83, 84, 85, 86, 87, 88, 89, 90, 91, 92, 93, 94, 95, 96, 97, 98, 99, 100, 101, 102, 107, 108, 109, 110, 111, 112, 113, 114, 115, 116, 117, 118, 119, 120, 121, 122, 123, 124, 125, 126, 127, 128, 129, 130, 131, 132, 133, 134, 135, 136, 137, 138, 139, 140, 141, 142, 143, 144, 145, 146, 147, 148, 149, 150, 151, 152, 153, 154, 155, 156, 157, 158, 159, 160, 161, 162] (by decide +kernel) (by decide +kernel)
set_option maxRecDepth 20000 in
theorem gX8_ask_X8_isSign : GoodIn wsX8_ask (wsV RX8 307 RX8 yX8_isSign wsX8_isSign) := goodIn_app (goodIn_of _ (by decide +kernel)) ggX8_ask_X8_isSign
set_option maxRecDepth 20000 in
theorem ggX8_ask_X8_numbers : GoodIn wsX8_ask wsX8_numbers := goodIn_r _ [106, 5, 8, 4, 9, 10, 11, 12, 13, 14, 15, 16, 17, 18, 19, 20, 21, 22, 23, 24, 25, 26, 27, 28, 29, 30, 31, 32, 33, 34, 35, 36, 37, 38, 39, 40, 41, 42, 43, 44, 45, 46, 47, 48, 49, 50, 51, 52, 53, 54, 55, 56, 57, 58, 59, 60, 61, 62, 63, 64, 65, 66, 67, 68, 69, 70, 71, 72, 73, 74, 75, 76, 77, 78, 79, 80, 81, 82, 83, 84, 85, 86, 87, 88, 89, 90, 91, 92, 93, 94, 95, 96, 97, 98, 99, 100, 101, 102, 107, 108, 109, 110, 111, 112, 113, 114, 115, 116, 117, 118, 119, 120, 121, 122, 123, 124, 125, 126, 127, 128, 129, 130, 131, 132, 133, 134, 135, 136, 137, 138, 139, 140, 141, 142, 143, 144, 145, 146, 147, 148, 149, 150, 151, 152, 153, 154, 155, 156, 157, 158, 159, 160, 161, 162] (by decide +kernel) (by decide +kernel)
set_option maxRecDepth 20000 in
theorem gX8_ask_X8_numbers : GoodIn wsX8_ask (wsV RX8 315 RX8 yX8_numbers wsX8_numbers) := goodIn_app (goodIn_of _ (by decide +kernel)) ggX8_ask_X8_numbers
theorem dX8_ask_0 : decode cX8_ask 0 = .ok (.bipush 21, 2) := by decide +kernel
theorem dX8_ask_2 : decode cX8_ask 2 = .ok (.aload_n 0, 1) := by decide +kernel
theorem dX8_ask_3 : decode cX8_ask 3 = .ok (.getfield 200, 3) := by decide +kernel
theorem dX8_ask_6 : decode cX8_ask 6 = .ok (.imul, 1) := by decide +kernel
theorem dX8_ask_7 : decode cX8_ask 7 = .ok (.aload_n 0, 1) := by decide +kernel
theorem dX8_ask_8 : decode cX8_ask 8 = .ok (.getfield 124, 3) := by decide +kernel
theorem dX8_ask_11 : decode cX8_ask 11 = .ok (.aload_n 0, 1) := by decide +kernel
theorem dX8_ask_12 : decode cX8_ask 12 = .ok (.getfield 200, 3) := by decide +kernel
theorem dX8_ask_15 : decode cX8_ask 15 = .ok (.iaload, 1) := by decide +kernel
theorem dX8_ask_16 : decode cX8_ask 16 = .ok (.iadd, 1) := by decide +kernel
theorem dX8_ask_17 : decode cX8_ask 17 = .ok (.istore_n 2, 1) := by decide +kernel
theorem dX8_ask_18 : decode cX8_ask 18 = .ok (.aload_n 0, 1) := by decide +kernel
theorem dX8_ask_19 : decode cX8_ask 19 = .ok (.iload_n 1, 1) := by decide +kernel
theorem dX8_ask_20 : decode cX8_ask 20 = .ok (.ldc_w 311, 3) := by decide +kernel
theorem dX8_ask_23 : decode cX8_ask 23 = .ok (.invokevirtual 307, 3) := by decide +kernel
theorem dX8_ask_26 : decode cX8_ask 26 = .ok (.ifCond .ne 5, 3) := by decide +kernel
theorem dX8_ask_29 : decode cX8_ask 29 = .ok (.iconst 0, 1) := by decide +kernel
theorem dX8_ask_30 : decode cX8_ask 30 = .ok (.ireturn, 1) := by decide +kernel
theorem dX8_ask_31 : decode cX8_ask 31 = .ok (.aload_n 0, 1) := by decide +kernel
theorem dX8_ask_32 : decode cX8_ask 32 = .ok (.getfield 127, 3) := by decide +kernel
theorem dX8_ask_35 : decode cX8_ask 35 = .ok (.iload_n 2, 1) := by decide +kernel
theorem dX8_ask_36 : decode cX8_ask 36 = .ok (.aload_n 0, 1) := by decide +kernel
theorem dX8_ask_37 : decode cX8_ask 37 = .ok (.getfield 112, 3) := by decide +kernel
theorem dX8_ask_40 : decode cX8_ask 40 = .ok (.aload_n 0, 1) := by decide +kernel
theorem dX8_ask_41 : decode cX8_ask 41 = .ok (.getfield 294, 3) := by decide +kernel
theorem dX8_ask_44 : decode cX8_ask 44 = .ok (.iaload, 1) := by decide +kernel
theorem dX8_ask_45 : decode cX8_ask 45 = .ok (.iastore, 1) := by decide +kernel
theorem dX8_ask_46 : decode cX8_ask 46 = .ok (.aload_n 0, 1) := by decide +kernel
theorem dX8_ask_47 : decode cX8_ask 47 = .ok (.dup, 1) := by decide +kernel
theorem dX8_ask_48 : decode cX8_ask 48 = .ok (.getfield 294, 3) := by decide +kernel
theorem dX8_ask_51 : decode cX8_ask 51 = .ok (.iconst 1, 1) := by decide +kernel
theorem dX8_ask_52 : decode cX8_ask 52 = .ok (.iadd, 1) := by decide +kernel
theorem dX8_ask_53 : decode cX8_ask 53 = .ok (.putfield 294, 3) := by decide +kernel
theorem dX8_ask_56 : decode cX8_ask 56 = .ok (.aload_n 0, 1) := by decide +kernel
theorem dX8_ask_57 : decode cX8_ask 57 = .ok (.iload_n 1, 1) := by decide +kernel
theorem dX8_ask_58 : decode cX8_ask 58 = .ok (.ldc_w 313, 3) := by decide +kernel
theorem dX8_ask_61 : decode cX8_ask 61 = .ok (.invokevirtual 307, 3) := by decide +kernel
theorem dX8_ask_64 : decode cX8_ask 64 = .ok (.ifCond .ne 5, 3) := by decide +kernel
theorem dX8_ask_67 : decode cX8_ask 67 = .ok (.iconst 0, 1) := by decide +kernel
theorem dX8_ask_68 : decode cX8_ask 68 = .ok (.ireturn, 1) := by decide +kernel
theorem dX8_ask_69 : decode cX8_ask 69 = .ok (.aload_n 0, 1) := by decide +kernel
theorem dX8_ask_70 : decode cX8_ask 70 = .ok (.getfield 130, 3) := by decide +kernel
theorem dX8_ask_73 : decode cX8_ask 73 = .ok (.iload_n 2, 1) := by decide +kernel
theorem dX8_ask_74 : decode cX8_ask 74 = .ok (.aload_n 0, 1) := by decide +kernel
theorem dX8_ask_75 : decode cX8_ask 75 = .ok (.getfield 112, 3) := by decide +kernel
theorem dX8_ask_78 : decode cX8_ask 78 = .ok (.aload_n 0, 1) := by decide +kernel
theorem dX8_ask_79 : decode cX8_ask 79 = .ok (.getfield 294, 3) := by decide +kernel
theorem dX8_ask_82 : decode cX8_ask 82 = .ok (.iaload, 1) := by decide +kernel
theorem dX8_ask_83 : decode cX8_ask 83 = .ok (.iastore, 1) := by decide +kernel
theorem dX8_ask_84 : decode cX8_ask 84 = .ok (.aload_n 0, 1) := by decide +kernel
theorem dX8_ask_85 : decode cX8_ask 85 = .ok (.dup, 1) := by decide +kernel
theorem dX8_ask_86 : decode cX8_ask 86 = .ok (.getfield 294, 3) := by decide +kernel
theorem dX8_ask_89 : decode cX8_ask 89 = .ok (.iconst 1, 1) := by decide +kernel
theorem dX8_ask_90 : decode cX8_ask 90 = .ok (.iadd, 1) := by decide +kernel
theorem dX8_ask_91 : decode cX8_ask 91 = .ok (.putfield 294, 3) := by decide +kernel
theorem dX8_ask_94 : decode cX8_ask 94 = .ok (.aload_n 0, 1) := by decide +kernel
theorem dX8_ask_95 : decode cX8_ask 95 = .ok (.iload_n 1, 1) := by decide +kernel
theorem dX8_ask_96 : decode cX8_ask 96 = .ok (.invokevirtual 315, 3) := by decide +kernel
theorem dX8_ask_99 : decode cX8_ask 99 = .ok (.ifCond .ne 5, 3) := by decide +kernel
theorem dX8_ask_102 : decode cX8_ask 102 = .ok (.iconst 0, 1) := by decide +kernel
theorem dX8_ask_103 : decode cX8_ask 103 = .ok (.ireturn, 1) := by decide +kernel
theorem dX8_ask_104 : decode cX8_ask 104 = .ok (.aload_n 0, 1) := by decide +kernel
theorem dX8_ask_105 : decode cX8_ask 105 = .ok (.getfield 133, 3) := by decide +kernel
theorem dX8_ask_108 : decode cX8_ask 108 = .ok (.iload_n 2, 1) := by decide +kernel
theorem dX8_ask_109 : decode cX8_ask 109 = .ok (.aload_n 0, 1) := by decide +kernel
theorem dX8_ask_110 : decode cX8_ask 110 = .ok (.getfield 302, 3) := by decide +kernel
theorem dX8_ask_113 : decode cX8_ask 113 = .ok (.iastore, 1) := by decide +kernel
theorem dX8_ask_114 : decode cX8_ask 114 = .ok (.aload_n 0, 1) := by decide +kernel
theorem dX8_ask_115 : decode cX8_ask 115 = .ok (.getfield 124, 3) := by decide +kernel
theorem dX8_ask_118 : decode cX8_ask 118 = .ok (.aload_n 0, 1) := by decide +kernel
theorem dX8_ask_119 : decode cX8_ask 119 = .ok (.getfield 200, 3) := by decide +kernel
theorem dX8_ask_122 : decode cX8_ask 122 = .ok (.dup2, 1) := by decide +kernel
theorem dX8_ask_123 : decode cX8_ask 123 = .ok (.iaload, 1) := by decide +kernel
theorem dX8_ask_124 : decode cX8_ask 124 = .ok (.iconst 1, 1) := by decide +kernel
theorem dX8_ask_125 : decode cX8_ask 125 = .ok (.iadd, 1) := by decide +kernel
theorem dX8_ask_126 : decode cX8_ask 126 = .ok (.iastore, 1) := by decide +kernel
theorem dX8_ask_127 : decode cX8_ask 127 = .ok (.iconst 1, 1) := by decide +kernel
theorem dX8_ask_128 : decode cX8_ask 128 = .ok (.ireturn, 1) := by decide +kernel
set_option maxRecDepth 20000 in
theorem ggX8_reads_X8_ask : GoodIn wsX8_reads wsX8_ask := goodIn_r _ [12, 3, 2, 13, 5, 1, 14, 15, 7, 16, 17, 18, 11, 19, 20, 21, 22, 23, 24, 25, 26, 27, 28, 29, 30, 31, 32, 33, 34, 35, 36, 37, 38, 39, 40, 41, 42, 43, 44, 45, 46, 47, 48, 49, 50, 51, 52, 53, 54, 55, 56, 57, 58, 59, 60, 61, 62, 63, 64, 65, 66, 67, 68, 69, 70, 71, 72, 73, 74, 75, 76, 77, 78, 79, 80, 81, 82, 83, 84, 85, 86, 87, 88, 89, 90, 91, 92, 93, 94, 95, 96, 97, 98, 99, 100, 101, 102, 103, 104, 105, 106, 107, 108, 109, 110, 111, 112, 113, 114, 115, 116, 117, 118, 119, 120, 121, 122, 123, 124, 125, 126, 127, 128, 129, 130, 131, 132, 133, 134, 135, 136, 137, 138, 139, 140, 141, 142, 143, 144, 145, 146, 147, 148, 149, 150, 151, 152, 153, 154, 155, 156, 157, 158, 159, 160, 161, 162, 163, 164, 165, 166, 167, 168] (by decide +kernel) (by decide +kernel)
set_option maxRecDepth 20000 in
theorem gX8_reads_X8_ask : GoodIn wsX8_reads (wsV RX8 318 RX8 yX8_ask wsX8_ask) := goodIn_app (goodIn_of _ (by decide +kernel)) ggX8_reads_X8_ask
set_option maxRecDepth 20000 in
theorem ggX8_reads_X8_isSign : GoodIn wsX8_reads wsX8_isSign := goodIn_r _ [19, 1, 5, 20, 21, 22, 23, 24, 25, 26, 27, 28, 29, 30, 31, 32, 33, 34, 35, 36, 37, 38, 39, 40, 41, 42, 43, 44, 45, 46, 47, 48, 49, 50, 51, 52, 53, 54, 55, 56, 57, 58, 59, 60, 61, 62, 63, 64, 65, 66, 67, 68, 69, 70, 71, 72, 73, 74, 75, 76, 77, 78, 79, 80, 81, 82, 83, 84, 85, 86, 87, 88, 89, 90, 91, 92, 93, 94, 95, 96, 97, 98, 99, 100, 101, 102, 103, 104, 105, 106, 107, 108, 113, 114, 115, 116, 117, 118, 119, 120, 121, 122, 123, 124, 125, 126, 127, 128, 129, 130, 131, 132, 133, 134, 135, 136, 137, 138, 139, 140, 141, 142, 143, 144, 145, 146, 147, 148, 149, 150, 151, 152, 153, 154, 155, 156, 157, 158, 159, 160, 161, 162, 163, 164, 165, 166, 167, 168] (by decide +kernel) (by decide +kernel)
set_option maxRecDepth 20000 in
theorem gX8_reads_X8_isSign : GoodIn wsX8_reads (wsV RX8 307 RX8 yX8_isSign wsX8_isSign) := goodIn_app (goodIn_of _ (by decide +kernel)) ggX8_reads_X8_isSign
set_option maxRecDepth 20000 in
theorem ggX8_reads_X8_numbers : GoodIn wsX8_reads wsX8_numbers := goodIn_r _ [112, 1, 7, 5, 16, 17, 18, 11, 19, 20, 21, 22, 23, 24, 25, 26, 27, 28, 29, 30, 31, 32, 33, 34, 35, 36, 37, 38, 39, 40, 41, 42, 43, 44, 45, 46, 47, 48, 49, 50, 51, 52, 53, 54, 55, 56, 57, 58, 59, 60, 61, 62, 63, 64, 65, 66, 67, 68, 69, 70, 71, 72, 73, 74, 75, 76, 77, 78, 79, 80, 81, 82, 83, 84, 85, 86, 87, 88, 89, 90, 91, 92, 93, 94, 95, 96, 97, 98, 99, 100, 101, 102, 103, 104, 105, 106, 107, 108, 113, 114, 115, 116, 117, 118, 119, 120, 121, 122, 123, 124, 125, 126, 127, 128, 129, 130, 131, 132, 133, 134, 135, 136, 137, 138, 139, 140, 141, 142, 143, 144, 145, 146, 147, 148, 149, 150, 151, 152, 153, 154, 155, 156, 157, 158, 159, 160, 161, 162, 163, 164, 165, 166, 167, 168] (by decide +kernel) (by decide +kernel)
set_option maxRecDepth 20000 in
theorem gX8_reads_X8_numbers : GoodIn wsX8_reads (wsV RX8 315 RX8 yX8_numbers wsX8_numbers) := goodIn_app (goodIn_of _ (by decide +kernel)) ggX8_reads_X8_numbers
theorem dX8_reads_0 : decode cX8_reads 0 = .ok (.aload_n 0, 1) := by decide +kernel
theorem dX8_reads_1 : decode cX8_reads 1 = .ok (.iconst 0, 1) := by decide +kernel
theorem dX8_reads_2 : decode cX8_reads 2 = .ok (.putfield 294, 3) := by decide +kernel
theorem dX8_reads_5 : decode cX8_reads 5 = .ok (.aload_n 0, 1) := by decide +kernel
theorem dX8_reads_6 : decode cX8_reads 6 = .ok (.getfield 124, 3) := by decide +kernel
theorem dX8_reads_9 : decode cX8_reads 9 = .ok (.aload_n 0, 1) := by decide +kernel
theorem dX8_reads_10 : decode cX8_reads 10 = .ok (.getfield 200, 3) := by decide +kernel
theorem dX8_reads_13 : decode cX8_reads 13 = .ok (.iconst 0, 1) := by decide +kernel
theorem dX8_reads_14 : decode cX8_reads 14 = .ok (.iastore, 1) := by decide +kernel
theorem dX8_reads_15 : decode cX8_reads 15 = .ok (.aload_n 0, 1) := by decide +kernel
theorem dX8_reads_16 : decode cX8_reads 16 = .ok (.iload_n 1, 1) := by decide +kernel
theorem dX8_reads_17 : decode cX8_reads 17 = .ok (.invokevirtual 318, 3) := by decide +kernel
theorem dX8_reads_20 : decode cX8_reads 20 = .ok (.ifCond .ne 5, 3) := by decide +kernel
theorem dX8_reads_23 : decode cX8_reads 23 = .ok (.iconst 0, 1) := by decide +kernel
theorem dX8_reads_24 : decode cX8_reads 24 = .ok (.ireturn, 1) := by decide +kernel
theorem dX8_reads_25 : decode cX8_reads 25 = .ok (.aload_n 0, 1) := by decide +kernel
theorem dX8_reads_26 : decode cX8_reads 26 = .ok (.iload_n 1, 1) := by decide +kernel
theorem dX8_reads_27 : decode cX8_reads 27 = .ok (.ldc_w 321, 3) := by decide +kernel
theorem dX8_reads_30 : decode cX8_reads 30 = .ok (.invokevirtual 307, 3) := by decide +kernel
theorem dX8_reads_33 : decode cX8_reads 33 = .ok (.ifCond .eq 23, 3) := by decide +kernel
theorem dX8_reads_36 : decode cX8_reads 36 = .ok (.aload_n 0, 1) := by decide +kernel
theorem dX8_reads_37 : decode cX8_reads 37 = .ok (.dup, 1) := by decide +kernel
theorem dX8_reads_38 : decode cX8_reads 38 = .ok (.getfield 294, 3) := by decide +kernel
theorem dX8_reads_41 : decode cX8_reads 41 = .ok (.iconst 1, 1) := by decide +kernel
theorem dX8_reads_42 : decode cX8_reads 42 = .ok (.iadd, 1) := by decide +kernel
theorem dX8_reads_43 : decode cX8_reads 43 = .ok (.putfield 294, 3) := by decide +kernel
theorem dX8_reads_46 : decode cX8_reads 46 = .ok (.aload_n 0, 1) := by decide +kernel
theorem dX8_reads_47 : decode cX8_reads 47 = .ok (.iload_n 1, 1) := by decide +kernel
theorem dX8_reads_48 : decode cX8_reads 48 = .ok (.invokevirtual 318, 3) := by decide +kernel
theorem dX8_reads_51 : decode cX8_reads 51 = .ok (.ifCond .ne (-26), 3) := by decide +kernel
theorem dX8_reads_54 : decode cX8_reads 54 = .ok (.iconst 0, 1) := by decide +kernel
theorem dX8_reads_55 : decode cX8_reads 55 = .ok (.ireturn, 1) := by decide +kernel
theorem dX8_reads_56 : decode cX8_reads 56 = .ok (.aload_n 0, 1) := by decide +kernel
theorem dX8_reads_57 : decode cX8_reads 57 = .ok (.iload_n 1, 1) := by decide +kernel
theorem dX8_reads_58 : decode cX8_reads 58 = .ok (.ldc_w 323, 3) := by decide +kernel
theorem dX8_reads_61 : decode cX8_reads 61 = .ok (.invokevirtual 307, 3) := by decide +kernel
theorem dX8_reads_64 : decode cX8_reads 64 = .ok (.ifCond .ne 5, 3) := by decide +kernel
theorem dX8_reads_67 : decode cX8_reads 67 = .ok (.iconst 0, 1) := by decide +kernel
theorem dX8_reads_68 : decode cX8_reads 68 = .ok (.ireturn, 1) := by decide +kernel
theorem dX8_reads_69 : decode cX8_reads 69 = .ok (.aload_n 0, 1) := by decide +kernel
theorem dX8_reads_70 : decode cX8_reads 70 = .ok (.dup, 1) := by decide +kernel
theorem dX8_reads_71 : decode cX8_reads 71 = .ok (.getfield 294, 3) := by decide +kernel
theorem dX8_reads_74 : decode cX8_reads 74 = .ok (.iconst 1, 1) := by decide +kernel
theorem dX8_reads_75 : decode cX8_reads 75 = .ok (.iadd, 1) := by decide +kernel
theorem dX8_reads_76 : decode cX8_reads 76 = .ok (.putfield 294, 3) := by decide +kernel
theorem dX8_reads_79 : decode cX8_reads 79 = .ok (.aload_n 0, 1) := by decide +kernel
theorem dX8_reads_80 : decode cX8_reads 80 = .ok (.iload_n 1, 1) := by decide +kernel
theorem dX8_reads_81 : decode cX8_reads 81 = .ok (.ldc_w 325, 3) := by decide +kernel
theorem dX8_reads_84 : decode cX8_reads 84 = .ok (.invokevirtual 307, 3) := by decide +kernel
theorem dX8_reads_87 : decode cX8_reads 87 = .ok (.ifCond .ne 5, 3) := by decide +kernel
theorem dX8_reads_90 : decode cX8_reads 90 = .ok (.iconst 0, 1) := by decide +kernel
theorem dX8_reads_91 : decode cX8_reads 91 = .ok (.ireturn, 1) := by decide +kernel
theorem dX8_reads_92 : decode cX8_reads 92 = .ok (.aload_n 0, 1) := by decide +kernel
theorem dX8_reads_93 : decode cX8_reads 93 = .ok (.getfield 118, 3) := by decide +kernel
theorem dX8_reads_96 : decode cX8_reads 96 = .ok (.aload_n 0, 1) := by decide +kernel
theorem dX8_reads_97 : decode cX8_reads 97 = .ok (.getfield 200, 3) := by decide +kernel
theorem dX8_reads_100 : decode cX8_reads 100 = .ok (.aload_n 0, 1) := by decide +kernel
theorem dX8_reads_101 : decode cX8_reads 101 = .ok (.getfield 112, 3) := by decide +kernel
theorem dX8_reads_104 : decode cX8_reads 104 = .ok (.aload_n 0, 1) := by decide +kernel
theorem dX8_reads_105 : decode cX8_reads 105 = .ok (.getfield 294, 3) := by decide +kernel
theorem dX8_reads_108 : decode cX8_reads 108 = .ok (.iaload, 1) := by decide +kernel
theorem dX8_reads_109 : decode cX8_reads 109 = .ok (.iastore, 1) := by decide +kernel
theorem dX8_reads_110 : decode cX8_reads 110 = .ok (.aload_n 0, 1) := by decide +kernel
theorem dX8_reads_111 : decode cX8_reads 111 = .ok (.dup, 1) := by decide +kernel
theorem dX8_reads_112 : decode cX8_reads 112 = .ok (.getfield 294, 3) := by decide +kernel
theorem dX8_reads_115 : decode cX8_reads 115 = .ok (.iconst 1, 1) := by decide +kernel
theorem dX8_reads_116 : decode cX8_reads 116 = .ok (.iadd, 1) := by decide +kernel
theorem dX8_reads_117 : decode cX8_reads 117 = .ok (.putfield 294, 3) := by decide +kernel
theorem dX8_reads_120 : decode cX8_reads 120 = .ok (.aload_n 0, 1) := by decide +kernel
theorem dX8_reads_121 : decode cX8_reads 121 = .ok (.getfield 118, 3) := by decide +kernel
theorem dX8_reads_124 : decode cX8_reads 124 = .ok (.aload_n 0, 1) := by decide +kernel
theorem dX8_reads_125 : decode cX8_reads 125 = .ok (.getfield 200, 3) := by decide +kernel
theorem dX8_reads_128 : decode cX8_reads 128 = .ok (.iaload, 1) := by decide +kernel
theorem dX8_reads_129 : decode cX8_reads 129 = .ok (.bipush 43, 2) := by decide +kernel
theorem dX8_reads_131 : decode cX8_reads 131 = .ok (.if_icmp .eq 17, 3) := by decide +kernel
theorem dX8_reads_134 : decode cX8_reads 134 = .ok (.aload_n 0, 1) := by decide +kernel
theorem dX8_reads_135 : decode cX8_reads 135 = .ok (.getfield 118, 3) := by decide +kernel
theorem dX8_reads_138 : decode cX8_reads 138 = .ok (.aload_n 0, 1) := by decide +kernel
theorem dX8_reads_139 : decode cX8_reads 139 = .ok (.getfield 200, 3) := by decide +kernel
theorem dX8_reads_142 : decode cX8_reads 142 = .ok (.iaload, 1) := by decide +kernel
theorem dX8_reads_143 : decode cX8_reads 143 = .ok (.bipush 45, 2) := by decide +kernel
theorem dX8_reads_145 : decode cX8_reads 145 = .ok (.if_icmp .ne 26, 3) := by decide +kernel
theorem dX8_reads_148 : decode cX8_reads 148 = .ok (.aload_n 0, 1) := by decide +kernel
theorem dX8_reads_149 : decode cX8_reads 149 = .ok (.iload_n 1, 1) := by decide +kernel
theorem dX8_reads_150 : decode cX8_reads 150 = .ok (.invokevirtual 315, 3) := by decide +kernel
theorem dX8_reads_153 : decode cX8_reads 153 = .ok (.ifCond .ne 5, 3) := by decide +kernel
theorem dX8_reads_156 : decode cX8_reads 156 = .ok (.iconst 0, 1) := by decide +kernel
theorem dX8_reads_157 : decode cX8_reads 157 = .ok (.ireturn, 1) := by decide +kernel
theorem dX8_reads_158 : decode cX8_reads 158 = .ok (.aload_n 0, 1) := by decide +kernel
theorem dX8_reads_159 : decode cX8_reads 159 = .ok (.getfield 121, 3) := by decide +kernel
theorem dX8_reads_162 : decode cX8_reads 162 = .ok (.aload_n 0, 1) := by decide +kernel
theorem dX8_reads_163 : decode cX8_reads 163 = .ok (.getfield 200, 3) := by decide +kernel
theorem dX8_reads_166 : decode cX8_reads 166 = .ok (.aload_n 0, 1) := by decide +kernel
theorem dX8_reads_167 : decode cX8_reads 167 = .ok (.getfield 302, 3) := by decide +kernel
theorem dX8_reads_170 : decode cX8_reads 170 = .ok (.iastore, 1) := by decide +kernel
theorem dX8_reads_171 : decode cX8_reads 171 = .ok (.aload_n 0, 1) := by decide +kernel
theorem dX8_reads_172 : decode cX8_reads 172 = .ok (.getfield 294, 3) := by decide +kernel
theorem dX8_reads_175 : decode cX8_reads 175 = .ok (.iload_n 1, 1) := by decide +kernel
theorem dX8_reads_176 : decode cX8_reads 176 = .ok (.if_icmp .ne 7, 3) := by decide +kernel
theorem dX8_reads_179 : decode cX8_reads 179 = .ok (.iconst 1, 1) := by decide +kernel
theorem dX8_reads_180 : decode cX8_reads 180 = .ok (.goto 4, 3) := by decide +kernel
theorem dX8_reads_183 : decode cX8_reads 183 = .ok (.iconst 0, 1) := by decide +kernel
theorem dX8_reads_184 : decode cX8_reads 184 = .ok (.ireturn, 1) := by decide +kernel
set_option maxRecDepth 20000 in
theorem ggX8_rule_X8_reads : GoodIn wsX8_rule wsX8_reads := goodIn_r _ [16, 8, 17, 3, 18, 19, 20, 21, 22, 23, 24, 15, 25, 26, 27, 28, 29, 30, 31, 32, 33, 34, 35, 36, 37, 38, 39, 40, 41, 42, 43, 44, 45, 46, 47, 48, 49, 50, 51, 52, 53, 54, 55, 56, 57, 58, 59, 60, 61, 62, 6, 63, 64, 5, 7, 65, 66, 67, 68, 69, 70, 71, 72, 73, 74, 75, 76, 77, 78, 79, 80, 81, 82, 83, 84, 85, 86, 87, 88, 89, 90, 91, 92, 93, 94, 95, 96, 97, 98, 99, 100, 101, 102, 103, 104, 105, 106, 107, 108, 109, 110, 111, 112, 113, 114, 115, 116, 117, 118, 119, 120, 121, 122, 123, 124, 125, 126, 127, 128, 129, 130, 131, 132, 133, 134, 135, 136, 137, 138, 139, 140, 141, 142, 143, 144, 145, 146, 147, 148, 149, 150, 151, 152, 153, 154, 155, 156, 157, 158, 159, 160, 161, 162, 163, 164, 165, 166, 167, 168, 169, 170, 171, 172, 173, 174, 175, 176, 177, 178] (by decide +kernel) (by decide +kernel)
set_option maxRecDepth 20000 in
theorem gX8_rule_X8_reads : GoodIn wsX8_rule (wsV RX8 327 RX8 yX8_reads wsX8_reads) := goodIn_app (goodIn_of _ (by decide +kernel)) ggX8_rule_X8_reads
theorem dX8_rule_0 : decode cX8_rule 0 = .ok (.aload_n 0, 1) := by decide +kernel
theorem dX8_rule_1 : decode cX8_rule 1 = .ok (.iconst 0, 1) := by decide +kernel
theorem dX8_rule_2 : decode cX8_rule 2 = .ok (.putfield 1, 3) := by decide +kernel
theorem dX8_rule_5 : decode cX8_rule 5 = .ok (.aload_n 0, 1) := by decide +kernel
theorem dX8_rule_6 : decode cX8_rule 6 = .ok (.getfield 288, 3) := by decide +kernel
theorem dX8_rule_9 : decode cX8_rule 9 = .ok (.istore_n 1, 1) := by decide +kernel
theorem dX8_rule_10 : decode cX8_rule 10 = .ok (.aload_n 0, 1) := by decide +kernel
theorem dX8_rule_11 : decode cX8_rule 11 = .ok (.iconst 0, 1) := by decide +kernel
theorem dX8_rule_12 : decode cX8_rule 12 = .ok (.putfield 288, 3) := by decide +kernel
theorem dX8_rule_15 : decode cX8_rule 15 = .ok (.aload_n 0, 1) := by decide +kernel
theorem dX8_rule_16 : decode cX8_rule 16 = .ok (.getfield 200, 3) := by decide +kernel
theorem dX8_rule_19 : decode cX8_rule 19 = .ok (.bipush 8, 2) := by decide +kernel
theorem dX8_rule_21 : decode cX8_rule 21 = .ok (.if_icmp .ne 6, 3) := by decide +kernel
theorem dX8_rule_24 : decode cX8_rule 24 = .ok (.bipush (-100), 2) := by decide +kernel
theorem dX8_rule_26 : decode cX8_rule 26 = .ok (.ireturn, 1) := by decide +kernel
theorem dX8_rule_27 : decode cX8_rule 27 = .ok (.aload_n 0, 1) := by decide +kernel
theorem dX8_rule_28 : decode cX8_rule 28 = .ok (.iload_n 1, 1) := by decide +kernel
theorem dX8_rule_29 : decode cX8_rule 29 = .ok (.bipush 40, 2) := by decide +kernel
theorem dX8_rule_31 : decode cX8_rule 31 = .ok (.invokestatic 232, 3) := by decide +kernel
theorem dX8_rule_34 : decode cX8_rule 34 = .ok (.invokevirtual 327, 3) := by decide +kernel
theorem dX8_rule_37 : decode cX8_rule 37 = .ok (.istore_n 2, 1) := by decide +kernel
theorem dX8_rule_38 : decode cX8_rule 38 = .ok (.iload_n 1, 1) := by decide +kernel
theorem dX8_rule_39 : decode cX8_rule 39 = .ok (.bipush 40, 2) := by decide +kernel
theorem dX8_rule_41 : decode cX8_rule 41 = .ok (.if_icmp .le 19, 3) := by decide +kernel
theorem dX8_rule_44 : decode cX8_rule 44 = .ok (.iload_n 2, 1) := by decide +kernel
theorem dX8_rule_45 : decode cX8_rule 45 = .ok (.ifCond .ne 12, 3) := by decide +kernel
theorem dX8_rule_48 : decode cX8_rule 48 = .ok (.aload_n 0, 1) := by decide +kernel
theorem dX8_rule_49 : decode cX8_rule 49 = .ok (.getfield 294, 3) := by decide +kernel
theorem dX8_rule_52 : decode cX8_rule 52 = .ok (.bipush 40, 2) := by decide +kernel
theorem dX8_rule_54 : decode cX8_rule 54 = .ok (.if_icmp .lt 6, 3) := by decide +kernel
theorem dX8_rule_57 : decode cX8_rule 57 = .ok (.bipush (-41), 2) := by decide +kernel
theorem dX8_rule_59 : decode cX8_rule 59 = .ok (.ireturn, 1) := by decide +kernel
theorem dX8_rule_60 : decode cX8_rule 60 = .ok (.iload_n 2, 1) := by decide +kernel
theorem dX8_rule_61 : decode cX8_rule 61 = .ok (.ifCond .ne 10, 3) := by decide +kernel
theorem dX8_rule_64 : decode cX8_rule 64 = .ok (.iconst (-1), 1) := by decide +kernel
theorem dX8_rule_65 : decode cX8_rule 65 = .ok (.aload_n 0, 1) := by decide +kernel
theorem dX8_rule_66 : decode cX8_rule 66 = .ok (.getfield 294, 3) := by decide +kernel
theorem dX8_rule_69 : decode cX8_rule 69 = .ok (.isub, 1) := by decide +kernel
theorem dX8_rule_70 : decode cX8_rule 70 = .ok (.ireturn, 1) := by decide +kernel
theorem dX8_rule_71 : decode cX8_rule 71 = .ok (.aload_n 0, 1) := by decide +kernel
theorem dX8_rule_72 : decode cX8_rule 72 = .ok (.getfield 115, 3) := by decide +kernel
theorem dX8_rule_75 : decode cX8_rule 75 = .ok (.aload_n 0, 1) := by decide +kernel
theorem dX8_rule_76 : decode cX8_rule 76 = .ok (.getfield 200, 3) := by decide +kernel
theorem dX8_rule_79 : decode cX8_rule 79 = .ok (.aload_n 0, 1) := by decide +kernel
theorem dX8_rule_80 : decode cX8_rule 80 = .ok (.getfield 159, 3) := by decide +kernel
theorem dX8_rule_83 : decode cX8_rule 83 = .ok (.ifCond .eq 10, 3) := by decide +kernel
theorem dX8_rule_86 : decode cX8_rule 86 = .ok (.aload_n 0, 1) := by decide +kernel
theorem dX8_rule_87 : decode cX8_rule 87 = .ok (.getfield 163, 3) := by decide +kernel
theorem dX8_rule_90 : decode cX8_rule 90 = .ok (.goto 4, 3) := by decide +kernel
theorem dX8_rule_93 : decode cX8_rule 93 = .ok (.iconst 0, 1) := by decide +kernel
theorem dX8_rule_94 : decode cX8_rule 94 = .ok (.iastore, 1) := by decide +kernel
theorem dX8_rule_95 : decode cX8_rule 95 = .ok (.aload_n 0, 1) := by decide +kernel
theorem dX8_rule_96 : decode cX8_rule 96 = .ok (.dup, 1) := by decide +kernel
theorem dX8_rule_97 : decode cX8_rule 97 = .ok (.getfield 200, 3) := by decide +kernel
theorem dX8_rule_100 : decode cX8_rule 100 = .ok (.iconst 1, 1) := by decide +kernel
theorem dX8_rule_101 : decode cX8_rule 101 = .ok (.iadd, 1) := by decide +kernel
theorem dX8_rule_102 : decode cX8_rule 102 = .ok (.putfield 200, 3) := by decide +kernel
theorem dX8_rule_105 : decode cX8_rule 105 = .ok (.aload_n 0, 1) := by decide +kernel
theorem dX8_rule_106 : decode cX8_rule 106 = .ok (.getfield 200, 3) := by decide +kernel
theorem dX8_rule_109 : decode cX8_rule 109 = .ok (.iconst 1, 1) := by decide +kernel
theorem dX8_rule_110 : decode cX8_rule 110 = .ok (.isub, 1) := by decide +kernel
theorem dX8_rule_111 : decode cX8_rule 111 = .ok (.ireturn, 1) := by decide +kernel
theorem dX8_repeal_0 : decode cX8_repeal 0 = .ok (.aload_n 0, 1) := by decide +kernel
theorem dX8_repeal_1 : decode cX8_repeal 1 = .ok (.iconst 0, 1) := by decide +kernel
theorem dX8_repeal_2 : decode cX8_repeal 2 = .ok (.putfield 1, 3) := by decide +kernel
theorem dX8_repeal_5 : decode cX8_repeal 5 = .ok (.aload_n 0, 1) := by decide +kernel
theorem dX8_repeal_6 : decode cX8_repeal 6 = .ok (.getfield 159, 3) := by decide +kernel
theorem dX8_repeal_9 : decode cX8_repeal 9 = .ok (.ifCond .eq 5, 3) := by decide +kernel
theorem dX8_repeal_12 : decode cX8_repeal 12 = .ok (.iconst (-1), 1) := by decide +kernel
theorem dX8_repeal_13 : decode cX8_repeal 13 = .ok (.ireturn, 1) := by decide +kernel
theorem dX8_repeal_14 : decode cX8_repeal 14 = .ok (.aload_n 0, 1) := by decide +kernel
theorem dX8_repeal_15 : decode cX8_repeal 15 = .ok (.getfield 200, 3) := by decide +kernel
theorem dX8_repeal_18 : decode cX8_repeal 18 = .ok (.istore_n 1, 1) := by decide +kernel
theorem dX8_repeal_19 : decode cX8_repeal 19 = .ok (.aload_n 0, 1) := by decide +kernel
theorem dX8_repeal_20 : decode cX8_repeal 20 = .ok (.iconst 0, 1) := by decide +kernel
theorem dX8_repeal_21 : decode cX8_repeal 21 = .ok (.putfield 200, 3) := by decide +kernel
theorem dX8_repeal_24 : decode cX8_repeal 24 = .ok (.iload_n 1, 1) := by decide +kernel
theorem dX8_repeal_25 : decode cX8_repeal 25 = .ok (.ireturn, 1) := by decide +kernel
set_option maxRecDepth 20000 in
theorem ggX8_wood_X8_in : GoodIn wsX8_wood wsX8_in := goodIn_r _ [12] (by decide +kernel) (by decide +kernel)
set_option maxRecDepth 20000 in
theorem gX8_wood_X8_in : GoodIn wsX8_wood (va_wsS RX8 148 yX8_in wsX8_in) := goodIn_app (goodIn_of _ (by decide +kernel)) ggX8_wood_X8_in
theorem dX8_wood_0 : decode cX8_wood 0 = .ok (.aload_n 0, 1) := by decide +kernel
theorem dX8_wood_1 : decode cX8_wood 1 = .ok (.iconst 0, 1) := by decide +kernel
theorem dX8_wood_2 : decode cX8_wood 2 = .ok (.putfield 1, 3) := by decide +kernel
theorem dX8_wood_5 : decode cX8_wood 5 = .ok (.iload_n 1, 1) := by decide +kernel
theorem dX8_wood_6 : decode cX8_wood 6 = .ok (.i2l, 1) := by decide +kernel
theorem dX8_wood_7 : decode cX8_wood 7 = .ok (.lconst 0, 1) := by decide +kernel
theorem dX8_wood_8 : decode cX8_wood 8 = .ok (.ldc2_w 330, 3) := by decide +kernel
theorem dX8_wood_11 : decode cX8_wood 11 = .ok (.invokestatic 148, 3) := by decide +kernel
theorem dX8_wood_14 : decode cX8_wood 14 = .ok (.ifCond .eq 36, 3) := by decide +kernel
theorem dX8_wood_17 : decode cX8_wood 17 = .ok (.iload_n 2, 1) := by decide +kernel
theorem dX8_wood_18 : decode cX8_wood 18 = .ok (.i2l, 1) := by decide +kernel
theorem dX8_wood_19 : decode cX8_wood 19 = .ok (.lconst 1, 1) := by decide +kernel
theorem dX8_wood_20 : decode cX8_wood 20 = .ok (.ldc2_w 332, 3) := by decide +kernel
theorem dX8_wood_23 : decode cX8_wood 23 = .ok (.invokestatic 148, 3) := by decide +kernel
theorem dX8_wood_26 : decode cX8_wood 26 = .ok (.ifCond .eq 24, 3) := by decide +kernel
theorem dX8_wood_29 : decode cX8_wood 29 = .ok (.iload_n 3, 1) := by decide +kernel
theorem dX8_wood_30 : decode cX8_wood 30 = .ok (.i2l, 1) := by decide +kernel
theorem dX8_wood_31 : decode cX8_wood 31 = .ok (.lconst 1, 1) := by decide +kernel
theorem dX8_wood_32 : decode cX8_wood 32 = .ok (.ldc2_w 334, 3) := by decide +kernel
theorem dX8_wood_35 : decode cX8_wood 35 = .ok (.invokestatic 148, 3) := by decide +kernel
theorem dX8_wood_38 : decode cX8_wood 38 = .ok (.ifCond .eq 12, 3) := by decide +kernel
theorem dX8_wood_41 : decode cX8_wood 41 = .ok (.aload_n 0, 1) := by decide +kernel
theorem dX8_wood_42 : decode cX8_wood 42 = .ok (.getfield 285, 3) := by decide +kernel
theorem dX8_wood_45 : decode cX8_wood 45 = .ok (.bipush 12, 2) := by decide +kernel
theorem dX8_wood_47 : decode cX8_wood 47 = .ok (.if_icmp .ne 5, 3) := by decide +kernel
theorem dX8_wood_50 : decode cX8_wood 50 = .ok (.iconst (-1), 1) := by decide +kernel
theorem dX8_wood_51 : decode cX8_wood 51 = .ok (.ireturn, 1) := by decide +kernel
theorem dX8_wood_52 : decode cX8_wood 52 = .ok (.aload_n 0, 1) := by decide +kernel
theorem dX8_wood_53 : decode cX8_wood 53 = .ok (.getfield 136, 3) := by decide +kernel
theorem dX8_wood_56 : decode cX8_wood 56 = .ok (.aload_n 0, 1) := by decide +kernel
theorem dX8_wood_57 : decode cX8_wood 57 = .ok (.getfield 285, 3) := by decide +kernel
theorem dX8_wood_60 : decode cX8_wood 60 = .ok (.iload_n 1, 1) := by decide +kernel
theorem dX8_wood_61 : decode cX8_wood 61 = .ok (.iastore, 1) := by decide +kernel
theorem dX8_wood_62 : decode cX8_wood 62 = .ok (.aload_n 0, 1) := by decide +kernel
theorem dX8_wood_63 : decode cX8_wood 63 = .ok (.getfield 139, 3) := by decide +kernel
theorem dX8_wood_66 : decode cX8_wood 66 = .ok (.aload_n 0, 1) := by decide +kernel
theorem dX8_wood_67 : decode cX8_wood 67 = .ok (.getfield 285, 3) := by decide +kernel
theorem dX8_wood_70 : decode cX8_wood 70 = .ok (.iload_n 2, 1) := by decide +kernel
theorem dX8_wood_71 : decode cX8_wood 71 = .ok (.iastore, 1) := by decide +kernel
theorem dX8_wood_72 : decode cX8_wood 72 = .ok (.aload_n 0, 1) := by decide +kernel
theorem dX8_wood_73 : decode cX8_wood 73 = .ok (.getfield 142, 3) := by decide +kernel
theorem dX8_wood_76 : decode cX8_wood 76 = .ok (.aload_n 0, 1) := by decide +kernel
theorem dX8_wood_77 : decode cX8_wood 77 = .ok (.getfield 285, 3) := by decide +kernel
theorem dX8_wood_80 : decode cX8_wood 80 = .ok (.iload_n 3, 1) := by decide +kernel
theorem dX8_wood_81 : decode cX8_wood 81 = .ok (.iastore, 1) := by decide +kernel
theorem dX8_wood_82 : decode cX8_wood 82 = .ok (.aload_n 0, 1) := by decide +kernel
theorem dX8_wood_83 : decode cX8_wood 83 = .ok (.dup, 1) := by decide +kernel
theorem dX8_wood_84 : decode cX8_wood 84 = .ok (.getfield 285, 3) := by decide +kernel
theorem dX8_wood_87 : decode cX8_wood 87 = .ok (.iconst 1, 1) := by decide +kernel
theorem dX8_wood_88 : decode cX8_wood 88 = .ok (.iadd, 1) := by decide +kernel
theorem dX8_wood_89 : decode cX8_wood 89 = .ok (.putfield 285, 3) := by decide +kernel
theorem dX8_wood_92 : decode cX8_wood 92 = .ok (.aload_n 0, 1) := by decide +kernel
theorem dX8_wood_93 : decode cX8_wood 93 = .ok (.getfield 285, 3) := by decide +kernel
theorem dX8_wood_96 : decode cX8_wood 96 = .ok (.iconst 1, 1) := by decide +kernel
theorem dX8_wood_97 : decode cX8_wood 97 = .ok (.isub, 1) := by decide +kernel
theorem dX8_wood_98 : decode cX8_wood 98 = .ok (.ireturn, 1) := by decide +kernel
set_option maxRecDepth 20000 in
theorem ggX8_years_X8_in : GoodIn wsX8_years wsX8_in := goodIn_r _ [12] (by decide +kernel) (by decide +kernel)
set_option maxRecDepth 20000 in
theorem gX8_years_X8_in : GoodIn wsX8_years (va_wsS RX8 148 yX8_in wsX8_in) := goodIn_app (goodIn_of _ (by decide +kernel)) ggX8_years_X8_in
theorem dX8_years_0 : decode cX8_years 0 = .ok (.aload_n 0, 1) := by decide +kernel
theorem dX8_years_1 : decode cX8_years 1 = .ok (.iconst 0, 1) := by decide +kernel
theorem dX8_years_2 : decode cX8_years 2 = .ok (.putfield 1, 3) := by decide +kernel
theorem dX8_years_5 : decode cX8_years 5 = .ok (.iload_n 1, 1) := by decide +kernel
theorem dX8_years_6 : decode cX8_years 6 = .ok (.i2l, 1) := by decide +kernel
theorem dX8_years_7 : decode cX8_years 7 = .ok (.lconst 0, 1) := by decide +kernel
theorem dX8_years_8 : decode cX8_years 8 = .ok (.ldc2_w 330, 3) := by decide +kernel
theorem dX8_years_11 : decode cX8_years 11 = .ok (.invokestatic 148, 3) := by decide +kernel
theorem dX8_years_14 : decode cX8_years 14 = .ok (.ifCond .ne 5, 3) := by decide +kernel
theorem dX8_years_17 : decode cX8_years 17 = .ok (.iconst 0, 1) := by decide +kernel
theorem dX8_years_18 : decode cX8_years 18 = .ok (.ireturn, 1) := by decide +kernel
theorem dX8_years_19 : decode cX8_years 19 = .ok (.iconst 0, 1) := by decide +kernel
theorem dX8_years_20 : decode cX8_years 20 = .ok (.istore_n 2, 1) := by decide +kernel
theorem dX8_years_21 : decode cX8_years 21 = .ok (.iload_n 2, 1) := by decide +kernel
theorem dX8_years_22 : decode cX8_years 22 = .ok (.aload_n 0, 1) := by decide +kernel
theorem dX8_years_23 : decode cX8_years 23 = .ok (.getfield 285, 3) := by decide +kernel
theorem dX8_years_26 : decode cX8_years 26 = .ok (.if_icmp .ge 29, 3) := by decide +kernel
theorem dX8_years_29 : decode cX8_years 29 = .ok (.aload_n 0, 1) := by decide +kernel
theorem dX8_years_30 : decode cX8_years 30 = .ok (.getfield 136, 3) := by decide +kernel
theorem dX8_years_33 : decode cX8_years 33 = .ok (.iload_n 2, 1) := by decide +kernel
theorem dX8_years_34 : decode cX8_years 34 = .ok (.sipush 10000, 3) := by decide +kernel
theorem dX8_years_37 : decode cX8_years 37 = .ok (.aload_n 0, 1) := by decide +kernel
theorem dX8_years_38 : decode cX8_years 38 = .ok (.getfield 136, 3) := by decide +kernel
theorem dX8_years_41 : decode cX8_years 41 = .ok (.iload_n 2, 1) := by decide +kernel
theorem dX8_years_42 : decode cX8_years 42 = .ok (.iaload, 1) := by decide +kernel
theorem dX8_years_43 : decode cX8_years 43 = .ok (.iload_n 1, 1) := by decide +kernel
theorem dX8_years_44 : decode cX8_years 44 = .ok (.iadd, 1) := by decide +kernel
theorem dX8_years_45 : decode cX8_years 45 = .ok (.invokestatic 232, 3) := by decide +kernel
theorem dX8_years_48 : decode cX8_years 48 = .ok (.iastore, 1) := by decide +kernel
theorem dX8_years_49 : decode cX8_years 49 = .ok (.iinc 2 1, 3) := by decide +kernel
theorem dX8_years_52 : decode cX8_years 52 = .ok (.goto (-31), 3) := by decide +kernel
theorem dX8_years_55 : decode cX8_years 55 = .ok (.iconst 1, 1) := by decide +kernel
theorem dX8_years_56 : decode cX8_years 56 = .ok (.ireturn, 1) := by decide +kernel
set_option maxRecDepth 20000 in
theorem ggX8_cut_X8_in : GoodIn wsX8_cut wsX8_in := goodIn_r _ [9] (by decide +kernel) (by decide +kernel)
set_option maxRecDepth 20000 in
theorem gX8_cut_X8_in : GoodIn wsX8_cut (va_wsS RX8 148 yX8_in wsX8_in) := goodIn_app (goodIn_of _ (by decide +kernel)) ggX8_cut_X8_in
theorem dX8_cut_0 : decode cX8_cut 0 = .ok (.aload_n 0, 1) := by decide +kernel
theorem dX8_cut_1 : decode cX8_cut 1 = .ok (.iconst 0, 1) := by decide +kernel
theorem dX8_cut_2 : decode cX8_cut 2 = .ok (.putfield 1, 3) := by decide +kernel
theorem dX8_cut_5 : decode cX8_cut 5 = .ok (.iload_n 1, 1) := by decide +kernel
theorem dX8_cut_6 : decode cX8_cut 6 = .ok (.i2l, 1) := by decide +kernel
theorem dX8_cut_7 : decode cX8_cut 7 = .ok (.lconst 0, 1) := by decide +kernel
theorem dX8_cut_8 : decode cX8_cut 8 = .ok (.aload_n 0, 1) := by decide +kernel
theorem dX8_cut_9 : decode cX8_cut 9 = .ok (.getfield 285, 3) := by decide +kernel
theorem dX8_cut_12 : decode cX8_cut 12 = .ok (.iconst 1, 1) := by decide +kernel
theorem dX8_cut_13 : decode cX8_cut 13 = .ok (.isub, 1) := by decide +kernel
theorem dX8_cut_14 : decode cX8_cut 14 = .ok (.i2l, 1) := by decide +kernel
theorem dX8_cut_15 : decode cX8_cut 15 = .ok (.invokestatic 148, 3) := by decide +kernel
theorem dX8_cut_18 : decode cX8_cut 18 = .ok (.ifCond .eq 18, 3) := by decide +kernel
theorem dX8_cut_21 : decode cX8_cut 21 = .ok (.aload_n 0, 1) := by decide +kernel
theorem dX8_cut_22 : decode cX8_cut 22 = .ok (.getfield 136, 3) := by decide +kernel
theorem dX8_cut_25 : decode cX8_cut 25 = .ok (.iload_n 1, 1) := by decide +kernel
theorem dX8_cut_26 : decode cX8_cut 26 = .ok (.iaload, 1) := by decide +kernel
theorem dX8_cut_27 : decode cX8_cut 27 = .ok (.aload_n 0, 1) := by decide +kernel
theorem dX8_cut_28 : decode cX8_cut 28 = .ok (.getfield 139, 3) := by decide +kernel
theorem dX8_cut_31 : decode cX8_cut 31 = .ok (.iload_n 1, 1) := by decide +kernel
theorem dX8_cut_32 : decode cX8_cut 32 = .ok (.iaload, 1) := by decide +kernel
theorem dX8_cut_33 : decode cX8_cut 33 = .ok (.if_icmp .ge 5, 3) := by decide +kernel
theorem dX8_cut_36 : decode cX8_cut 36 = .ok (.iconst (-1), 1) := by decide +kernel
theorem dX8_cut_37 : decode cX8_cut 37 = .ok (.ireturn, 1) := by decide +kernel
theorem dX8_cut_38 : decode cX8_cut 38 = .ok (.aload_n 0, 1) := by decide +kernel
theorem dX8_cut_39 : decode cX8_cut 39 = .ok (.getfield 136, 3) := by decide +kernel
theorem dX8_cut_42 : decode cX8_cut 42 = .ok (.iload_n 1, 1) := by decide +kernel
theorem dX8_cut_43 : decode cX8_cut 43 = .ok (.iconst 0, 1) := by decide +kernel
theorem dX8_cut_44 : decode cX8_cut 44 = .ok (.iastore, 1) := by decide +kernel
theorem dX8_cut_45 : decode cX8_cut 45 = .ok (.aload_n 0, 1) := by decide +kernel
theorem dX8_cut_46 : decode cX8_cut 46 = .ok (.getfield 142, 3) := by decide +kernel
theorem dX8_cut_49 : decode cX8_cut 49 = .ok (.iload_n 1, 1) := by decide +kernel
theorem dX8_cut_50 : decode cX8_cut 50 = .ok (.iaload, 1) := by decide +kernel
theorem dX8_cut_51 : decode cX8_cut 51 = .ok (.ireturn, 1) := by decide +kernel
theorem dX8_loadsOf_0 : decode cX8_loadsOf 0 = .ok (.iconst 0, 1) := by decide +kernel
theorem dX8_loadsOf_1 : decode cX8_loadsOf 1 = .ok (.istore_n 2, 1) := by decide +kernel
theorem dX8_loadsOf_2 : decode cX8_loadsOf 2 = .ok (.iconst 0, 1) := by decide +kernel
theorem dX8_loadsOf_3 : decode cX8_loadsOf 3 = .ok (.istore_n 3, 1) := by decide +kernel
theorem dX8_loadsOf_4 : decode cX8_loadsOf 4 = .ok (.iload_n 3, 1) := by decide +kernel
theorem dX8_loadsOf_5 : decode cX8_loadsOf 5 = .ok (.aload_n 0, 1) := by decide +kernel
theorem dX8_loadsOf_6 : decode cX8_loadsOf 6 = .ok (.getfield 285, 3) := by decide +kernel
theorem dX8_loadsOf_9 : decode cX8_loadsOf 9 = .ok (.if_icmp .ge 44, 3) := by decide +kernel
theorem dX8_loadsOf_12 : decode cX8_loadsOf 12 = .ok (.iload_n 1, 1) := by decide +kernel
theorem dX8_loadsOf_13 : decode cX8_loadsOf 13 = .ok (.iload_n 3, 1) := by decide +kernel
theorem dX8_loadsOf_14 : decode cX8_loadsOf 14 = .ok (.ishr, 1) := by decide +kernel
theorem dX8_loadsOf_15 : decode cX8_loadsOf 15 = .ok (.iconst 1, 1) := by decide +kernel
theorem dX8_loadsOf_16 : decode cX8_loadsOf 16 = .ok (.iand, 1) := by decide +kernel
theorem dX8_loadsOf_17 : decode cX8_loadsOf 17 = .ok (.iconst 1, 1) := by decide +kernel
theorem dX8_loadsOf_18 : decode cX8_loadsOf 18 = .ok (.if_icmp .ne 29, 3) := by decide +kernel
theorem dX8_loadsOf_21 : decode cX8_loadsOf 21 = .ok (.aload_n 0, 1) := by decide +kernel
theorem dX8_loadsOf_22 : decode cX8_loadsOf 22 = .ok (.getfield 136, 3) := by decide +kernel
theorem dX8_loadsOf_25 : decode cX8_loadsOf 25 = .ok (.iload_n 3, 1) := by decide +kernel
theorem dX8_loadsOf_26 : decode cX8_loadsOf 26 = .ok (.iaload, 1) := by decide +kernel
theorem dX8_loadsOf_27 : decode cX8_loadsOf 27 = .ok (.aload_n 0, 1) := by decide +kernel
theorem dX8_loadsOf_28 : decode cX8_loadsOf 28 = .ok (.getfield 139, 3) := by decide +kernel
theorem dX8_loadsOf_31 : decode cX8_loadsOf 31 = .ok (.iload_n 3, 1) := by decide +kernel
theorem dX8_loadsOf_32 : decode cX8_loadsOf 32 = .ok (.iaload, 1) := by decide +kernel
theorem dX8_loadsOf_33 : decode cX8_loadsOf 33 = .ok (.if_icmp .ge 5, 3) := by decide +kernel
theorem dX8_loadsOf_36 : decode cX8_loadsOf 36 = .ok (.iconst (-1), 1) := by decide +kernel
theorem dX8_loadsOf_37 : decode cX8_loadsOf 37 = .ok (.ireturn, 1) := by decide +kernel
theorem dX8_loadsOf_38 : decode cX8_loadsOf 38 = .ok (.iload_n 2, 1) := by decide +kernel
theorem dX8_loadsOf_39 : decode cX8_loadsOf 39 = .ok (.aload_n 0, 1) := by decide +kernel
theorem dX8_loadsOf_40 : decode cX8_loadsOf 40 = .ok (.getfield 142, 3) := by decide +kernel
theorem dX8_loadsOf_43 : decode cX8_loadsOf 43 = .ok (.iload_n 3, 1) := by decide +kernel
theorem dX8_loadsOf_44 : decode cX8_loadsOf 44 = .ok (.iaload, 1) := by decide +kernel
theorem dX8_loadsOf_45 : decode cX8_loadsOf 45 = .ok (.iadd, 1) := by decide +kernel
theorem dX8_loadsOf_46 : decode cX8_loadsOf 46 = .ok (.istore_n 2, 1) := by decide +kernel
theorem dX8_loadsOf_47 : decode cX8_loadsOf 47 = .ok (.iinc 3 1, 3) := by decide +kernel
theorem dX8_loadsOf_50 : decode cX8_loadsOf 50 = .ok (.goto (-46), 3) := by decide +kernel
theorem dX8_loadsOf_53 : decode cX8_loadsOf 53 = .ok (.iload_n 2, 1) := by decide +kernel
theorem dX8_loadsOf_54 : decode cX8_loadsOf 54 = .ok (.ireturn, 1) := by decide +kernel
set_option maxRecDepth 20000 in
theorem ggX8_plan_X8_in : GoodIn wsX8_plan wsX8_in := goodIn_r _ [7] (by decide +kernel) (by decide +kernel)
set_option maxRecDepth 20000 in
theorem gX8_plan_X8_in : GoodIn wsX8_plan (va_wsS RX8 148 yX8_in wsX8_in) := goodIn_app (goodIn_of _ (by decide +kernel)) ggX8_plan_X8_in
set_option maxRecDepth 20000 in
theorem ggX8_plan_X8_loadsOf : GoodIn wsX8_plan wsX8_loadsOf := goodIn_r _ [11, 3, 12, 13, 14, 22, 23, 24, 25, 26, 27, 28, 29, 30, 31, 32, 33, 34, 35, 36, 37, 38, 39, 40, 41, 42, 43, 44, 45, 46, 47, 48, 49, 50, 51, 52, 53, 54, 55, 56, 57, 58, 59, 60, 61, 62, 63, 64, 65, 66, 67, 68, 69, 70, 71, 72, 73, 74, 75, 76, 77] (by decide +kernel) (by decide +kernel)
set_option maxRecDepth 20000 in
theorem gX8_plan_X8_loadsOf : GoodIn wsX8_plan (wsV RX8 338 RX8 yX8_loadsOf wsX8_loadsOf) := goodIn_app (goodIn_of _ (by decide +kernel)) ggX8_plan_X8_loadsOf
set_option maxRecDepth 20000 in
theorem ggX8_plan_J6_bitCount_0f7a4 : GoodIn wsX8_plan wsJ6_bitCount_0f7a4 := goodIn_r _ [18, 19, 20, 21] (by decide +kernel) (by decide +kernel)
set_option maxRecDepth 20000 in
theorem gX8_plan_J6_bitCount_0f7a4 : GoodIn wsX8_plan (va_wsS RX8 341 yJ6_bitCount_0f7a4 wsJ6_bitCount_0f7a4) := goodIn_app (goodIn_of _ (by decide +kernel)) ggX8_plan_J6_bitCount_0f7a4
theorem dX8_plan_0 : decode cX8_plan 0 = .ok (.aload_n 0, 1) := by decide +kernel
theorem dX8_plan_1 : decode cX8_plan 1 = .ok (.iconst 0, 1) := by decide +kernel
theorem dX8_plan_2 : decode cX8_plan 2 = .ok (.putfield 1, 3) := by decide +kernel
theorem dX8_plan_5 : decode cX8_plan 5 = .ok (.iload_n 1, 1) := by decide +kernel
theorem dX8_plan_6 : decode cX8_plan 6 = .ok (.i2l, 1) := by decide +kernel
theorem dX8_plan_7 : decode cX8_plan 7 = .ok (.lconst 1, 1) := by decide +kernel
theorem dX8_plan_8 : decode cX8_plan 8 = .ok (.ldc2_w 336, 3) := by decide +kernel
theorem dX8_plan_11 : decode cX8_plan 11 = .ok (.invokestatic 148, 3) := by decide +kernel
theorem dX8_plan_14 : decode cX8_plan 14 = .ok (.ifCond .ne 5, 3) := by decide +kernel
theorem dX8_plan_17 : decode cX8_plan 17 = .ok (.iconst (-1), 1) := by decide +kernel
theorem dX8_plan_18 : decode cX8_plan 18 = .ok (.ireturn, 1) := by decide +kernel
theorem dX8_plan_19 : decode cX8_plan 19 = .ok (.bipush (-3), 2) := by decide +kernel
theorem dX8_plan_21 : decode cX8_plan 21 = .ok (.istore_n 2, 1) := by decide +kernel
theorem dX8_plan_22 : decode cX8_plan 22 = .ok (.iconst 0, 1) := by decide +kernel
theorem dX8_plan_23 : decode cX8_plan 23 = .ok (.istore_n 3, 1) := by decide +kernel
theorem dX8_plan_24 : decode cX8_plan 24 = .ok (.iconst 0, 1) := by decide +kernel
theorem dX8_plan_25 : decode cX8_plan 25 = .ok (.istore 4, 2) := by decide +kernel
theorem dX8_plan_27 : decode cX8_plan 27 = .ok (.iload 4, 2) := by decide +kernel
theorem dX8_plan_29 : decode cX8_plan 29 = .ok (.iconst 1, 1) := by decide +kernel
theorem dX8_plan_30 : decode cX8_plan 30 = .ok (.aload_n 0, 1) := by decide +kernel
theorem dX8_plan_31 : decode cX8_plan 31 = .ok (.getfield 285, 3) := by decide +kernel
theorem dX8_plan_34 : decode cX8_plan 34 = .ok (.ishl, 1) := by decide +kernel
theorem dX8_plan_35 : decode cX8_plan 35 = .ok (.if_icmp .ge 68, 3) := by decide +kernel
theorem dX8_plan_38 : decode cX8_plan 38 = .ok (.aload_n 0, 1) := by decide +kernel
theorem dX8_plan_39 : decode cX8_plan 39 = .ok (.iload 4, 2) := by decide +kernel
theorem dX8_plan_41 : decode cX8_plan 41 = .ok (.invokevirtual 338, 3) := by decide +kernel
theorem dX8_plan_44 : decode cX8_plan 44 = .ok (.istore 5, 2) := by decide +kernel
theorem dX8_plan_46 : decode cX8_plan 46 = .ok (.iload 5, 2) := by decide +kernel
theorem dX8_plan_48 : decode cX8_plan 48 = .ok (.iload_n 1, 1) := by decide +kernel
theorem dX8_plan_49 : decode cX8_plan 49 = .ok (.if_icmp .ge 6, 3) := by decide +kernel
theorem dX8_plan_52 : decode cX8_plan 52 = .ok (.goto 45, 3) := by decide +kernel
theorem dX8_plan_55 : decode cX8_plan 55 = .ok (.iload_n 2, 1) := by decide +kernel
theorem dX8_plan_56 : decode cX8_plan 56 = .ok (.ifCond .ge 7, 3) := by decide +kernel
theorem dX8_plan_59 : decode cX8_plan 59 = .ok (.iconst (-1), 1) := by decide +kernel
theorem dX8_plan_60 : decode cX8_plan 60 = .ok (.goto 13, 3) := by decide +kernel
theorem dX8_plan_63 : decode cX8_plan 63 = .ok (.iload 4, 2) := by decide +kernel
theorem dX8_plan_65 : decode cX8_plan 65 = .ok (.invokestatic 341, 3) := by decide +kernel
theorem dX8_plan_68 : decode cX8_plan 68 = .ok (.iload_n 2, 1) := by decide +kernel
theorem dX8_plan_69 : decode cX8_plan 69 = .ok (.invokestatic 341, 3) := by decide +kernel
theorem dX8_plan_72 : decode cX8_plan 72 = .ok (.isub, 1) := by decide +kernel
theorem dX8_plan_73 : decode cX8_plan 73 = .ok (.istore 6, 2) := by decide +kernel
theorem dX8_plan_75 : decode cX8_plan 75 = .ok (.iload 6, 2) := by decide +kernel
theorem dX8_plan_77 : decode cX8_plan 77 = .ok (.ifCond .lt 14, 3) := by decide +kernel
theorem dX8_plan_80 : decode cX8_plan 80 = .ok (.iload 6, 2) := by decide +kernel
theorem dX8_plan_82 : decode cX8_plan 82 = .ok (.ifCond .ne 15, 3) := by decide +kernel
theorem dX8_plan_85 : decode cX8_plan 85 = .ok (.iload 5, 2) := by decide +kernel
theorem dX8_plan_87 : decode cX8_plan 87 = .ok (.iload_n 3, 1) := by decide +kernel
theorem dX8_plan_88 : decode cX8_plan 88 = .ok (.if_icmp .ge 9, 3) := by decide +kernel
theorem dX8_plan_91 : decode cX8_plan 91 = .ok (.iload 4, 2) := by decide +kernel
theorem dX8_plan_93 : decode cX8_plan 93 = .ok (.istore_n 2, 1) := by decide +kernel
theorem dX8_plan_94 : decode cX8_plan 94 = .ok (.iload 5, 2) := by decide +kernel
theorem dX8_plan_96 : decode cX8_plan 96 = .ok (.istore_n 3, 1) := by decide +kernel
theorem dX8_plan_97 : decode cX8_plan 97 = .ok (.iinc 4 1, 3) := by decide +kernel
theorem dX8_plan_100 : decode cX8_plan 100 = .ok (.goto (-73), 3) := by decide +kernel
theorem dX8_plan_103 : decode cX8_plan 103 = .ok (.iload_n 2, 1) := by decide +kernel
theorem dX8_plan_104 : decode cX8_plan 104 = .ok (.ireturn, 1) := by decide +kernel
set_option maxRecDepth 20000 in
theorem ggX8_stand_X8_in : GoodIn wsX8_stand wsX8_in := goodIn_r _ [14] (by decide +kernel) (by decide +kernel)
set_option maxRecDepth 20000 in
theorem gX8_stand_X8_in : GoodIn wsX8_stand (va_wsS RX8 148 yX8_in wsX8_in) := goodIn_app (goodIn_of _ (by decide +kernel)) ggX8_stand_X8_in
set_option maxRecDepth 20000 in
theorem ggX8_stand_X8_refuse : GoodIn wsX8_stand wsX8_refuse := goodIn_r _ [18, 1, 19, 20, 21, 22, 23, 24, 25, 26, 27, 28, 29, 30, 31, 32, 33, 34, 35, 36, 37, 38, 39, 40, 41, 42, 43, 44, 45, 46, 47, 48, 49, 50, 51, 52, 53, 54, 55, 56, 57, 58, 59, 60, 61, 62, 63, 64, 65, 66, 67, 68, 69, 70, 71, 72, 73, 74] (by decide +kernel) (by decide +kernel)
set_option maxRecDepth 20000 in
theorem gX8_stand_X8_refuse : GoodIn wsX8_stand (wsV RX8 291 RX8 yX8_refuse wsX8_refuse) := goodIn_app (goodIn_of _ (by decide +kernel)) ggX8_stand_X8_refuse
theorem dX8_stand_0 : decode cX8_stand 0 = .ok (.aload_n 0, 1) := by decide +kernel
theorem dX8_stand_1 : decode cX8_stand 1 = .ok (.iconst 0, 1) := by decide +kernel
theorem dX8_stand_2 : decode cX8_stand 2 = .ok (.putfield 1, 3) := by decide +kernel
theorem dX8_stand_5 : decode cX8_stand 5 = .ok (.iload_n 1, 1) := by decide +kernel
theorem dX8_stand_6 : decode cX8_stand 6 = .ok (.i2l, 1) := by decide +kernel
theorem dX8_stand_7 : decode cX8_stand 7 = .ok (.lconst 0, 1) := by decide +kernel
theorem dX8_stand_8 : decode cX8_stand 8 = .ok (.aload_n 0, 1) := by decide +kernel
theorem dX8_stand_9 : decode cX8_stand 9 = .ok (.getfield 285, 3) := by decide +kernel
theorem dX8_stand_12 : decode cX8_stand 12 = .ok (.iconst 1, 1) := by decide +kernel
theorem dX8_stand_13 : decode cX8_stand 13 = .ok (.isub, 1) := by decide +kernel
theorem dX8_stand_14 : decode cX8_stand 14 = .ok (.i2l, 1) := by decide +kernel
theorem dX8_stand_15 : decode cX8_stand 15 = .ok (.invokestatic 148, 3) := by decide +kernel
theorem dX8_stand_18 : decode cX8_stand 18 = .ok (.ifCond .eq 15, 3) := by decide +kernel
theorem dX8_stand_21 : decode cX8_stand 21 = .ok (.iload_n 2, 1) := by decide +kernel
theorem dX8_stand_22 : decode cX8_stand 22 = .ok (.i2l, 1) := by decide +kernel
theorem dX8_stand_23 : decode cX8_stand 23 = .ok (.lconst 0, 1) := by decide +kernel
theorem dX8_stand_24 : decode cX8_stand 24 = .ok (.ldc2_w 190, 3) := by decide +kernel
theorem dX8_stand_27 : decode cX8_stand 27 = .ok (.invokestatic 148, 3) := by decide +kernel
theorem dX8_stand_30 : decode cX8_stand 30 = .ok (.ifCond .ne 8, 3) := by decide +kernel
theorem dX8_stand_33 : decode cX8_stand 33 = .ok (.aload_n 0, 1) := by decide +kernel
theorem dX8_stand_34 : decode cX8_stand 34 = .ok (.invokevirtual 291, 3) := by decide +kernel
theorem dX8_stand_37 : decode cX8_stand 37 = .ok (.ireturn, 1) := by decide +kernel
theorem dX8_stand_38 : decode cX8_stand 38 = .ok (.iload_n 2, 1) := by decide +kernel
theorem dX8_stand_39 : decode cX8_stand 39 = .ok (.ifCond .ne 12, 3) := by decide +kernel
theorem dX8_stand_42 : decode cX8_stand 42 = .ok (.aload_n 0, 1) := by decide +kernel
theorem dX8_stand_43 : decode cX8_stand 43 = .ok (.getfield 136, 3) := by decide +kernel
theorem dX8_stand_46 : decode cX8_stand 46 = .ok (.iload_n 1, 1) := by decide +kernel
theorem dX8_stand_47 : decode cX8_stand 47 = .ok (.iaload, 1) := by decide +kernel
theorem dX8_stand_48 : decode cX8_stand 48 = .ok (.goto 48, 3) := by decide +kernel
theorem dX8_stand_51 : decode cX8_stand 51 = .ok (.iload_n 2, 1) := by decide +kernel
theorem dX8_stand_52 : decode cX8_stand 52 = .ok (.iconst 1, 1) := by decide +kernel
theorem dX8_stand_53 : decode cX8_stand 53 = .ok (.if_icmp .ne 12, 3) := by decide +kernel
theorem dX8_stand_56 : decode cX8_stand 56 = .ok (.aload_n 0, 1) := by decide +kernel
theorem dX8_stand_57 : decode cX8_stand 57 = .ok (.getfield 139, 3) := by decide +kernel
theorem dX8_stand_60 : decode cX8_stand 60 = .ok (.iload_n 1, 1) := by decide +kernel
theorem dX8_stand_61 : decode cX8_stand 61 = .ok (.iaload, 1) := by decide +kernel
theorem dX8_stand_62 : decode cX8_stand 62 = .ok (.goto 34, 3) := by decide +kernel
theorem dX8_stand_65 : decode cX8_stand 65 = .ok (.iload_n 2, 1) := by decide +kernel
theorem dX8_stand_66 : decode cX8_stand 66 = .ok (.iconst 2, 1) := by decide +kernel
theorem dX8_stand_67 : decode cX8_stand 67 = .ok (.if_icmp .ne 12, 3) := by decide +kernel
theorem dX8_stand_70 : decode cX8_stand 70 = .ok (.aload_n 0, 1) := by decide +kernel
theorem dX8_stand_71 : decode cX8_stand 71 = .ok (.getfield 142, 3) := by decide +kernel
theorem dX8_stand_74 : decode cX8_stand 74 = .ok (.iload_n 1, 1) := by decide +kernel
theorem dX8_stand_75 : decode cX8_stand 75 = .ok (.iaload, 1) := by decide +kernel
theorem dX8_stand_76 : decode cX8_stand 76 = .ok (.goto 20, 3) := by decide +kernel
theorem dX8_stand_79 : decode cX8_stand 79 = .ok (.iconst 0, 1) := by decide +kernel
theorem dX8_stand_80 : decode cX8_stand 80 = .ok (.aload_n 0, 1) := by decide +kernel
theorem dX8_stand_81 : decode cX8_stand 81 = .ok (.getfield 139, 3) := by decide +kernel
theorem dX8_stand_84 : decode cX8_stand 84 = .ok (.iload_n 1, 1) := by decide +kernel
theorem dX8_stand_85 : decode cX8_stand 85 = .ok (.iaload, 1) := by decide +kernel
theorem dX8_stand_86 : decode cX8_stand 86 = .ok (.aload_n 0, 1) := by decide +kernel
theorem dX8_stand_87 : decode cX8_stand 87 = .ok (.getfield 136, 3) := by decide +kernel
theorem dX8_stand_90 : decode cX8_stand 90 = .ok (.iload_n 1, 1) := by decide +kernel
theorem dX8_stand_91 : decode cX8_stand 91 = .ok (.iaload, 1) := by decide +kernel
theorem dX8_stand_92 : decode cX8_stand 92 = .ok (.isub, 1) := by decide +kernel
theorem dX8_stand_93 : decode cX8_stand 93 = .ok (.invokestatic 223, 3) := by decide +kernel
theorem dX8_stand_96 : decode cX8_stand 96 = .ok (.ireturn, 1) := by decide +kernel
