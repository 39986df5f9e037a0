set_option maxRecDepth 20000 in
theorem ggX2_init_X2_build : GoodIn wsX2_init wsX2_build := goodIn_r _ [24, 25, 26, 27, 15, 16, 18, 5, 7, 28, 29, 30, 31, 32, 33, 34, 23, 35, 36, 37, 38, 39, 40, 41, 8, 9, 10, 11, 12, 13, 14, 17, 42, 43, 44, 45, 46, 47, 48, 49, 50, 51, 52, 53, 54, 55, 56, 57, 58, 59, 60, 61, 62, 63, 64, 65] (by decide +kernel) (by decide +kernel)
set_option maxRecDepth 20000 in
theorem gX2_init_X2_build : GoodIn wsX2_init (wsV RX2 55 RX2 yX2_build wsX2_build) := goodIn_app (goodIn_of _ (by decide +kernel)) ggX2_init_X2_build
theorem dX2_init_0 : decode cX2_init 0 = .ok (.aload_n 0, 1) := by decide +kernel
theorem dX2_init_1 : decode cX2_init 1 = .ok (.invokespecial 5, 3) := by decide +kernel
theorem dX2_init_4 : decode cX2_init 4 = .ok (.aload_n 0, 1) := by decide +kernel
theorem dX2_init_5 : decode cX2_init 5 = .ok (.bipush 64, 2) := by decide +kernel
theorem dX2_init_7 : decode cX2_init 7 = .ok (.newarray .int, 2) := by decide +kernel
theorem dX2_init_9 : decode cX2_init 9 = .ok (.putfield 11, 3) := by decide +kernel
theorem dX2_init_12 : decode cX2_init 12 = .ok (.aload_n 0, 1) := by decide +kernel
theorem dX2_init_13 : decode cX2_init 13 = .ok (.bipush 64, 2) := by decide +kernel
theorem dX2_init_15 : decode cX2_init 15 = .ok (.newarray .boolean, 2) := by decide +kernel
theorem dX2_init_17 : decode cX2_init 17 = .ok (.putfield 15, 3) := by decide +kernel
theorem dX2_init_20 : decode cX2_init 20 = .ok (.aload_n 0, 1) := by decide +kernel
theorem dX2_init_21 : decode cX2_init 21 = .ok (.bipush 64, 2) := by decide +kernel
theorem dX2_init_23 : decode cX2_init 23 = .ok (.newarray .int, 2) := by decide +kernel
theorem dX2_init_25 : decode cX2_init 25 = .ok (.putfield 19, 3) := by decide +kernel
theorem dX2_init_28 : decode cX2_init 28 = .ok (.aload_n 0, 1) := by decide +kernel
theorem dX2_init_29 : decode cX2_init 29 = .ok (.bipush 64, 2) := by decide +kernel
theorem dX2_init_31 : decode cX2_init 31 = .ok (.newarray .int, 2) := by decide +kernel
theorem dX2_init_33 : decode cX2_init 33 = .ok (.putfield 22, 3) := by decide +kernel
theorem dX2_init_36 : decode cX2_init 36 = .ok (.aload_n 0, 1) := by decide +kernel
theorem dX2_init_37 : decode cX2_init 37 = .ok (.bipush 64, 2) := by decide +kernel
theorem dX2_init_39 : decode cX2_init 39 = .ok (.newarray .int, 2) := by decide +kernel
theorem dX2_init_41 : decode cX2_init 41 = .ok (.putfield 25, 3) := by decide +kernel
theorem dX2_init_44 : decode cX2_init 44 = .ok (.aload_n 0, 1) := by decide +kernel
theorem dX2_init_45 : decode cX2_init 45 = .ok (.bipush 64, 2) := by decide +kernel
theorem dX2_init_47 : decode cX2_init 47 = .ok (.newarray .int, 2) := by decide +kernel
theorem dX2_init_49 : decode cX2_init 49 = .ok (.putfield 28, 3) := by decide +kernel
theorem dX2_init_52 : decode cX2_init 52 = .ok (.aload_n 0, 1) := by decide +kernel
theorem dX2_init_53 : decode cX2_init 53 = .ok (.bipush 64, 2) := by decide +kernel
theorem dX2_init_55 : decode cX2_init 55 = .ok (.newarray .int, 2) := by decide +kernel
theorem dX2_init_57 : decode cX2_init 57 = .ok (.putfield 31, 3) := by decide +kernel
theorem dX2_init_60 : decode cX2_init 60 = .ok (.aload_n 0, 1) := by decide +kernel
theorem dX2_init_61 : decode cX2_init 61 = .ok (.bipush 64, 2) := by decide +kernel
theorem dX2_init_63 : decode cX2_init 63 = .ok (.newarray .int, 2) := by decide +kernel
theorem dX2_init_65 : decode cX2_init 65 = .ok (.putfield 34, 3) := by decide +kernel
theorem dX2_init_68 : decode cX2_init 68 = .ok (.aload_n 0, 1) := by decide +kernel
theorem dX2_init_69 : decode cX2_init 69 = .ok (.bipush 64, 2) := by decide +kernel
theorem dX2_init_71 : decode cX2_init 71 = .ok (.newarray .int, 2) := by decide +kernel
theorem dX2_init_73 : decode cX2_init 73 = .ok (.putfield 37, 3) := by decide +kernel
theorem dX2_init_76 : decode cX2_init 76 = .ok (.aload_n 0, 1) := by decide +kernel
theorem dX2_init_77 : decode cX2_init 77 = .ok (.bipush 64, 2) := by decide +kernel
theorem dX2_init_79 : decode cX2_init 79 = .ok (.newarray .int, 2) := by decide +kernel
theorem dX2_init_81 : decode cX2_init 81 = .ok (.putfield 40, 3) := by decide +kernel
theorem dX2_init_84 : decode cX2_init 84 = .ok (.aload_n 0, 1) := by decide +kernel
theorem dX2_init_85 : decode cX2_init 85 = .ok (.bipush 64, 2) := by decide +kernel
theorem dX2_init_87 : decode cX2_init 87 = .ok (.newarray .int, 2) := by decide +kernel
theorem dX2_init_89 : decode cX2_init 89 = .ok (.putfield 43, 3) := by decide +kernel
theorem dX2_init_92 : decode cX2_init 92 = .ok (.aload_n 0, 1) := by decide +kernel
theorem dX2_init_93 : decode cX2_init 93 = .ok (.bipush 64, 2) := by decide +kernel
theorem dX2_init_95 : decode cX2_init 95 = .ok (.newarray .int, 2) := by decide +kernel
theorem dX2_init_97 : decode cX2_init 97 = .ok (.putfield 46, 3) := by decide +kernel
theorem dX2_init_100 : decode cX2_init 100 = .ok (.aload_n 0, 1) := by decide +kernel
theorem dX2_init_101 : decode cX2_init 101 = .ok (.bipush 64, 2) := by decide +kernel
theorem dX2_init_103 : decode cX2_init 103 = .ok (.newarray .int, 2) := by decide +kernel
theorem dX2_init_105 : decode cX2_init 105 = .ok (.putfield 49, 3) := by decide +kernel
theorem dX2_init_108 : decode cX2_init 108 = .ok (.aload_n 0, 1) := by decide +kernel
theorem dX2_init_109 : decode cX2_init 109 = .ok (.bipush 64, 2) := by decide +kernel
theorem dX2_init_111 : decode cX2_init 111 = .ok (.newarray .int, 2) := by decide +kernel
theorem dX2_init_113 : decode cX2_init 113 = .ok (.putfield 52, 3) := by decide +kernel
theorem dX2_init_116 : decode cX2_init 116 = .ok (.aload_n 0, 1) := by decide +kernel
theorem dX2_init_117 : decode cX2_init 117 = .ok (.iconst 1, 1) := by decide +kernel
theorem dX2_init_118 : decode cX2_init 118 = .ok (.iconst 1, 1) := by decide +kernel
theorem dX2_init_119 : decode cX2_init 119 = .ok (.invokevirtual 55, 3) := by decide +kernel
theorem dX2_init_122 : decode cX2_init 122 = .ok (.return_, 1) := by decide +kernel
theorem dX2_isKind_0 : decode cX2_isKind 0 = .ok (.iload_n 0, 1) := by decide +kernel
theorem dX2_isKind_1 : decode cX2_isKind 1 = .ok (.ifCond .lt 15, 3) := by decide +kernel
theorem dX2_isKind_4 : decode cX2_isKind 4 = .ok (.iload_n 0, 1) := by decide +kernel
theorem dX2_isKind_5 : decode cX2_isKind 5 = .ok (.getstatic 59, 3) := by decide +kernel
theorem dX2_isKind_8 : decode cX2_isKind 8 = .ok (.arraylength, 1) := by decide +kernel
theorem dX2_isKind_9 : decode cX2_isKind 9 = .ok (.if_icmp .ge 7, 3) := by decide +kernel
theorem dX2_isKind_12 : decode cX2_isKind 12 = .ok (.iconst 1, 1) := by decide +kernel
theorem dX2_isKind_13 : decode cX2_isKind 13 = .ok (.goto 4, 3) := by decide +kernel
theorem dX2_isKind_16 : decode cX2_isKind 16 = .ok (.iconst 0, 1) := by decide +kernel
theorem dX2_isKind_17 : decode cX2_isKind 17 = .ok (.ireturn, 1) := by decide +kernel
theorem dX2_holds_0 : decode cX2_holds 0 = .ok (.iload_n 1, 1) := by decide +kernel
theorem dX2_holds_1 : decode cX2_holds 1 = .ok (.ifCond .lt 27, 3) := by decide +kernel
theorem dX2_holds_4 : decode cX2_holds 4 = .ok (.iload_n 1, 1) := by decide +kernel
theorem dX2_holds_5 : decode cX2_holds 5 = .ok (.aload_n 0, 1) := by decide +kernel
theorem dX2_holds_6 : decode cX2_holds 6 = .ok (.getfield 62, 3) := by decide +kernel
theorem dX2_holds_9 : decode cX2_holds 9 = .ok (.if_icmp .ge 19, 3) := by decide +kernel
theorem dX2_holds_12 : decode cX2_holds 12 = .ok (.iload_n 2, 1) := by decide +kernel
theorem dX2_holds_13 : decode cX2_holds 13 = .ok (.ifCond .lt 15, 3) := by decide +kernel
theorem dX2_holds_16 : decode cX2_holds 16 = .ok (.iload_n 2, 1) := by decide +kernel
theorem dX2_holds_17 : decode cX2_holds 17 = .ok (.aload_n 0, 1) := by decide +kernel
theorem dX2_holds_18 : decode cX2_holds 18 = .ok (.getfield 66, 3) := by decide +kernel
theorem dX2_holds_21 : decode cX2_holds 21 = .ok (.if_icmp .ge 7, 3) := by decide +kernel
theorem dX2_holds_24 : decode cX2_holds 24 = .ok (.iconst 1, 1) := by decide +kernel
theorem dX2_holds_25 : decode cX2_holds 25 = .ok (.goto 4, 3) := by decide +kernel
theorem dX2_holds_28 : decode cX2_holds 28 = .ok (.iconst 0, 1) := by decide +kernel
theorem dX2_holds_29 : decode cX2_holds 29 = .ok (.ireturn, 1) := by decide +kernel
theorem dX2_at_0 : decode cX2_at 0 = .ok (.iload_n 1, 1) := by decide +kernel
theorem dX2_at_1 : decode cX2_at 1 = .ok (.aload_n 0, 1) := by decide +kernel
theorem dX2_at_2 : decode cX2_at 2 = .ok (.getfield 66, 3) := by decide +kernel
theorem dX2_at_5 : decode cX2_at 5 = .ok (.imul, 1) := by decide +kernel
theorem dX2_at_6 : decode cX2_at 6 = .ok (.iload_n 2, 1) := by decide +kernel
theorem dX2_at_7 : decode cX2_at 7 = .ok (.iadd, 1) := by decide +kernel
theorem dX2_at_8 : decode cX2_at 8 = .ok (.ireturn, 1) := by decide +kernel
set_option maxRecDepth 20000 in
theorem ggX2_isOutsideAt_X2_holds : GoodIn wsX2_isOutsideAt wsX2_holds := goodIn_r _ [6, 7, 8, 13, 14, 15, 16, 17, 18, 19, 20, 21, 22, 23, 24, 25, 26, 27, 28, 29, 30, 31] (by decide +kernel) (by decide +kernel)
set_option maxRecDepth 20000 in
theorem gX2_isOutsideAt_X2_holds : GoodIn wsX2_isOutsideAt (wsV RX2 69 RX2 yX2_holds wsX2_holds) := goodIn_app (goodIn_of _ (by decide +kernel)) ggX2_isOutsideAt_X2_holds
set_option maxRecDepth 20000 in
theorem ggX2_isOutsideAt_X2_at : GoodIn wsX2_isOutsideAt wsX2_at := goodIn_r _ [12, 8, 13, 14, 15, 16, 17, 18, 19, 20, 21, 22, 23, 24, 25, 26, 27, 28, 29, 30, 31] (by decide +kernel) (by decide +kernel)
set_option maxRecDepth 20000 in
theorem gX2_isOutsideAt_X2_at : GoodIn wsX2_isOutsideAt (wsV RX2 73 RX2 yX2_at wsX2_at) := goodIn_app (goodIn_of _ (by decide +kernel)) ggX2_isOutsideAt_X2_at
theorem dX2_isOutsideAt_0 : decode cX2_isOutsideAt 0 = .ok (.aload_n 0, 1) := by decide +kernel
theorem dX2_isOutsideAt_1 : decode cX2_isOutsideAt 1 = .ok (.iload_n 1, 1) := by decide +kernel
theorem dX2_isOutsideAt_2 : decode cX2_isOutsideAt 2 = .ok (.iload_n 2, 1) := by decide +kernel
theorem dX2_isOutsideAt_3 : decode cX2_isOutsideAt 3 = .ok (.invokevirtual 69, 3) := by decide +kernel
theorem dX2_isOutsideAt_6 : decode cX2_isOutsideAt 6 = .ok (.ifCond .eq 21, 3) := by decide +kernel
theorem dX2_isOutsideAt_9 : decode cX2_isOutsideAt 9 = .ok (.aload_n 0, 1) := by decide +kernel
theorem dX2_isOutsideAt_10 : decode cX2_isOutsideAt 10 = .ok (.getfield 15, 3) := by decide +kernel
theorem dX2_isOutsideAt_13 : decode cX2_isOutsideAt 13 = .ok (.aload_n 0, 1) := by decide +kernel
theorem dX2_isOutsideAt_14 : decode cX2_isOutsideAt 14 = .ok (.iload_n 1, 1) := by decide +kernel
theorem dX2_isOutsideAt_15 : decode cX2_isOutsideAt 15 = .ok (.iload_n 2, 1) := by decide +kernel
theorem dX2_isOutsideAt_16 : decode cX2_isOutsideAt 16 = .ok (.invokevirtual 73, 3) := by decide +kernel
theorem dX2_isOutsideAt_19 : decode cX2_isOutsideAt 19 = .ok (.baload, 1) := by decide +kernel
theorem dX2_isOutsideAt_20 : decode cX2_isOutsideAt 20 = .ok (.ifCond .eq 7, 3) := by decide +kernel
theorem dX2_isOutsideAt_23 : decode cX2_isOutsideAt 23 = .ok (.iconst 1, 1) := by decide +kernel
theorem dX2_isOutsideAt_24 : decode cX2_isOutsideAt 24 = .ok (.goto 4, 3) := by decide +kernel
theorem dX2_isOutsideAt_27 : decode cX2_isOutsideAt 27 = .ok (.iconst 0, 1) := by decide +kernel
theorem dX2_isOutsideAt_28 : decode cX2_isOutsideAt 28 = .ok (.ireturn, 1) := by decide +kernel
set_option maxRecDepth 20000 in
theorem ggX2_build_J7_fill_53178 : GoodIn wsX2_build wsJ7_fill_53178 := goodIn_r _ [12] (by decide +kernel) (by decide +kernel)
set_option maxRecDepth 20000 in
theorem gX2_build_J7_fill_53178 : GoodIn wsX2_build (va_wsS RX2 80 yJ7_fill_53178 wsJ7_fill_53178) := goodIn_app (goodIn_of _ (by decide +kernel)) ggX2_build_J7_fill_53178
set_option maxRecDepth 20000 in
theorem ggX2_build_X2_at : GoodIn wsX2_build wsX2_at := goodIn_r _ [17, 2, 37, 38, 39, 40, 41, 42, 43, 44, 45, 46, 47, 48, 49, 50, 51, 52, 53, 54, 55] (by decide +kernel) (by decide +kernel)
set_option maxRecDepth 20000 in
theorem gX2_build_X2_at : GoodIn wsX2_build (wsV RX2 73 RX2 yX2_at wsX2_at) := goodIn_app (goodIn_of _ (by decide +kernel)) ggX2_build_X2_at
set_option maxRecDepth 20000 in
theorem ggX2_build_X2_backToLaid : GoodIn wsX2_build wsX2_backToLaid := goodIn_r _ [21, 22, 23, 3, 24, 4, 25, 26, 27, 28, 29, 6, 30, 31, 32, 33, 34, 16, 35, 36, 5, 7, 37, 38, 39, 40, 41, 42, 43, 44, 45, 46, 47, 48, 49, 50, 51, 52, 53, 54, 55] (by decide +kernel) (by decide +kernel)
set_option maxRecDepth 20000 in
theorem gX2_build_X2_backToLaid : GoodIn wsX2_build (wsV RX2 86 RX2 yX2_backToLaid wsX2_backToLaid) := goodIn_app (goodIn_of _ (by decide +kernel)) ggX2_build_X2_backToLaid
theorem dX2_build_0 : decode cX2_build 0 = .ok (.aload_n 0, 1) := by decide +kernel
theorem dX2_build_1 : decode cX2_build 1 = .ok (.iload_n 1, 1) := by decide +kernel
theorem dX2_build_2 : decode cX2_build 2 = .ok (.putfield 62, 3) := by decide +kernel
theorem dX2_build_5 : decode cX2_build 5 = .ok (.aload_n 0, 1) := by decide +kernel
theorem dX2_build_6 : decode cX2_build 6 = .ok (.iload_n 2, 1) := by decide +kernel
theorem dX2_build_7 : decode cX2_build 7 = .ok (.putfield 66, 3) := by decide +kernel
theorem dX2_build_10 : decode cX2_build 10 = .ok (.aload_n 0, 1) := by decide +kernel
theorem dX2_build_11 : decode cX2_build 11 = .ok (.iload_n 1, 1) := by decide +kernel
theorem dX2_build_12 : decode cX2_build 12 = .ok (.iload_n 2, 1) := by decide +kernel
theorem dX2_build_13 : decode cX2_build 13 = .ok (.imul, 1) := by decide +kernel
theorem dX2_build_14 : decode cX2_build 14 = .ok (.putfield 77, 3) := by decide +kernel
theorem dX2_build_17 : decode cX2_build 17 = .ok (.aload_n 0, 1) := by decide +kernel
theorem dX2_build_18 : decode cX2_build 18 = .ok (.getfield 40, 3) := by decide +kernel
theorem dX2_build_21 : decode cX2_build 21 = .ok (.iconst 0, 1) := by decide +kernel
theorem dX2_build_22 : decode cX2_build 22 = .ok (.invokestatic 80, 3) := by decide +kernel
theorem dX2_build_25 : decode cX2_build 25 = .ok (.aload_n 0, 1) := by decide +kernel
theorem dX2_build_26 : decode cX2_build 26 = .ok (.getfield 43, 3) := by decide +kernel
theorem dX2_build_29 : decode cX2_build 29 = .ok (.iconst 0, 1) := by decide +kernel
theorem dX2_build_30 : decode cX2_build 30 = .ok (.invokestatic 80, 3) := by decide +kernel
theorem dX2_build_33 : decode cX2_build 33 = .ok (.aload_n 0, 1) := by decide +kernel
theorem dX2_build_34 : decode cX2_build 34 = .ok (.getfield 49, 3) := by decide +kernel
theorem dX2_build_37 : decode cX2_build 37 = .ok (.iconst 5, 1) := by decide +kernel
theorem dX2_build_38 : decode cX2_build 38 = .ok (.invokestatic 80, 3) := by decide +kernel
theorem dX2_build_41 : decode cX2_build 41 = .ok (.iconst 0, 1) := by decide +kernel
theorem dX2_build_42 : decode cX2_build 42 = .ok (.istore_n 3, 1) := by decide +kernel
theorem dX2_build_43 : decode cX2_build 43 = .ok (.iload_n 3, 1) := by decide +kernel
theorem dX2_build_44 : decode cX2_build 44 = .ok (.aload_n 0, 1) := by decide +kernel
theorem dX2_build_45 : decode cX2_build 45 = .ok (.getfield 62, 3) := by decide +kernel
theorem dX2_build_48 : decode cX2_build 48 = .ok (.if_icmp .ge 81, 3) := by decide +kernel
theorem dX2_build_51 : decode cX2_build 51 = .ok (.iconst 0, 1) := by decide +kernel
theorem dX2_build_52 : decode cX2_build 52 = .ok (.istore 4, 2) := by decide +kernel
theorem dX2_build_54 : decode cX2_build 54 = .ok (.iload 4, 2) := by decide +kernel
theorem dX2_build_56 : decode cX2_build 56 = .ok (.aload_n 0, 1) := by decide +kernel
theorem dX2_build_57 : decode cX2_build 57 = .ok (.getfield 66, 3) := by decide +kernel
theorem dX2_build_60 : decode cX2_build 60 = .ok (.if_icmp .ge 63, 3) := by decide +kernel
theorem dX2_build_63 : decode cX2_build 63 = .ok (.aload_n 0, 1) := by decide +kernel
theorem dX2_build_64 : decode cX2_build 64 = .ok (.iload_n 3, 1) := by decide +kernel
theorem dX2_build_65 : decode cX2_build 65 = .ok (.iload 4, 2) := by decide +kernel
theorem dX2_build_67 : decode cX2_build 67 = .ok (.invokevirtual 73, 3) := by decide +kernel
theorem dX2_build_70 : decode cX2_build 70 = .ok (.istore 5, 2) := by decide +kernel
theorem dX2_build_72 : decode cX2_build 72 = .ok (.aload_n 0, 1) := by decide +kernel
theorem dX2_build_73 : decode cX2_build 73 = .ok (.getfield 11, 3) := by decide +kernel
theorem dX2_build_76 : decode cX2_build 76 = .ok (.iload 5, 2) := by decide +kernel
theorem dX2_build_78 : decode cX2_build 78 = .ok (.iconst 2, 1) := by decide +kernel
theorem dX2_build_79 : decode cX2_build 79 = .ok (.iload_n 3, 1) := by decide +kernel
theorem dX2_build_80 : decode cX2_build 80 = .ok (.imul, 1) := by decide +kernel
theorem dX2_build_81 : decode cX2_build 81 = .ok (.iconst 1, 1) := by decide +kernel
theorem dX2_build_82 : decode cX2_build 82 = .ok (.iadd, 1) := by decide +kernel
theorem dX2_build_83 : decode cX2_build 83 = .ok (.iastore, 1) := by decide +kernel
theorem dX2_build_84 : decode cX2_build 84 = .ok (.aload_n 0, 1) := by decide +kernel
theorem dX2_build_85 : decode cX2_build 85 = .ok (.getfield 15, 3) := by decide +kernel
theorem dX2_build_88 : decode cX2_build 88 = .ok (.iload 5, 2) := by decide +kernel
theorem dX2_build_90 : decode cX2_build 90 = .ok (.iload_n 3, 1) := by decide +kernel
theorem dX2_build_91 : decode cX2_build 91 = .ok (.aload_n 0, 1) := by decide +kernel
theorem dX2_build_92 : decode cX2_build 92 = .ok (.getfield 62, 3) := by decide +kernel
theorem dX2_build_95 : decode cX2_build 95 = .ok (.iconst 1, 1) := by decide +kernel
theorem dX2_build_96 : decode cX2_build 96 = .ok (.isub, 1) := by decide +kernel
theorem dX2_build_97 : decode cX2_build 97 = .ok (.if_icmp .eq 14, 3) := by decide +kernel
theorem dX2_build_100 : decode cX2_build 100 = .ok (.iload 4, 2) := by decide +kernel
theorem dX2_build_102 : decode cX2_build 102 = .ok (.aload_n 0, 1) := by decide +kernel
theorem dX2_build_103 : decode cX2_build 103 = .ok (.getfield 66, 3) := by decide +kernel
theorem dX2_build_106 : decode cX2_build 106 = .ok (.iconst 1, 1) := by decide +kernel
theorem dX2_build_107 : decode cX2_build 107 = .ok (.isub, 1) := by decide +kernel
theorem dX2_build_108 : decode cX2_build 108 = .ok (.if_icmp .ne 7, 3) := by decide +kernel
theorem dX2_build_111 : decode cX2_build 111 = .ok (.iconst 1, 1) := by decide +kernel
theorem dX2_build_112 : decode cX2_build 112 = .ok (.goto 4, 3) := by decide +kernel
theorem dX2_build_115 : decode cX2_build 115 = .ok (.iconst 0, 1) := by decide +kernel
theorem dX2_build_116 : decode cX2_build 116 = .ok (.bastore, 1) := by decide +kernel
theorem dX2_build_117 : decode cX2_build 117 = .ok (.iinc 4 1, 3) := by decide +kernel
theorem dX2_build_120 : decode cX2_build 120 = .ok (.goto (-66), 3) := by decide +kernel
theorem dX2_build_123 : decode cX2_build 123 = .ok (.iinc 3 1, 3) := by decide +kernel
theorem dX2_build_126 : decode cX2_build 126 = .ok (.goto (-83), 3) := by decide +kernel
theorem dX2_build_129 : decode cX2_build 129 = .ok (.aload_n 0, 1) := by decide +kernel
theorem dX2_build_130 : decode cX2_build 130 = .ok (.invokevirtual 86, 3) := by decide +kernel
theorem dX2_build_133 : decode cX2_build 133 = .ok (.return_, 1) := by decide +kernel
set_option maxRecDepth 20000 in
theorem ggX2_fill_X2_dampOf : GoodIn wsX2_fill wsX2_dampOf := goodIn_r _ [12, 2, 13, 1, 3, 14, 15, 16, 17, 18, 19, 20, 21, 22, 23, 24, 25, 26, 27, 28, 29, 30, 31, 32] (by decide +kernel) (by decide +kernel)
set_option maxRecDepth 20000 in
theorem gX2_fill_X2_dampOf : GoodIn wsX2_fill (wsV RX2 89 RX2 yX2_dampOf wsX2_dampOf) := goodIn_app (goodIn_of _ (by decide +kernel)) ggX2_fill_X2_dampOf
theorem dX2_fill_0 : decode cX2_fill 0 = .ok (.aload_n 0, 1) := by decide +kernel
theorem dX2_fill_1 : decode cX2_fill 1 = .ok (.getfield 43, 3) := by decide +kernel
theorem dX2_fill_4 : decode cX2_fill 4 = .ok (.iload_n 1, 1) := by decide +kernel
theorem dX2_fill_5 : decode cX2_fill 5 = .ok (.iload_n 2, 1) := by decide +kernel
theorem dX2_fill_6 : decode cX2_fill 6 = .ok (.iastore, 1) := by decide +kernel
theorem dX2_fill_7 : decode cX2_fill 7 = .ok (.aload_n 0, 1) := by decide +kernel
theorem dX2_fill_8 : decode cX2_fill 8 = .ok (.getfield 40, 3) := by decide +kernel
theorem dX2_fill_11 : decode cX2_fill 11 = .ok (.iload_n 1, 1) := by decide +kernel
theorem dX2_fill_12 : decode cX2_fill 12 = .ok (.bipush 100, 2) := by decide +kernel
theorem dX2_fill_14 : decode cX2_fill 14 = .ok (.aload_n 0, 1) := by decide +kernel
theorem dX2_fill_15 : decode cX2_fill 15 = .ok (.getfield 11, 3) := by decide +kernel
theorem dX2_fill_18 : decode cX2_fill 18 = .ok (.iload_n 1, 1) := by decide +kernel
theorem dX2_fill_19 : decode cX2_fill 19 = .ok (.iaload, 1) := by decide +kernel
theorem dX2_fill_20 : decode cX2_fill 20 = .ok (.imul, 1) := by decide +kernel
theorem dX2_fill_21 : decode cX2_fill 21 = .ok (.iastore, 1) := by decide +kernel
theorem dX2_fill_22 : decode cX2_fill 22 = .ok (.aload_n 0, 1) := by decide +kernel
theorem dX2_fill_23 : decode cX2_fill 23 = .ok (.getfield 19, 3) := by decide +kernel
theorem dX2_fill_26 : decode cX2_fill 26 = .ok (.iload_n 1, 1) := by decide +kernel
theorem dX2_fill_27 : decode cX2_fill 27 = .ok (.aload_n 0, 1) := by decide +kernel
theorem dX2_fill_28 : decode cX2_fill 28 = .ok (.getfield 40, 3) := by decide +kernel
theorem dX2_fill_31 : decode cX2_fill 31 = .ok (.iload_n 1, 1) := by decide +kernel
theorem dX2_fill_32 : decode cX2_fill 32 = .ok (.iaload, 1) := by decide +kernel
theorem dX2_fill_33 : decode cX2_fill 33 = .ok (.iastore, 1) := by decide +kernel
theorem dX2_fill_34 : decode cX2_fill 34 = .ok (.aload_n 0, 1) := by decide +kernel
theorem dX2_fill_35 : decode cX2_fill 35 = .ok (.getfield 25, 3) := by decide +kernel
theorem dX2_fill_38 : decode cX2_fill 38 = .ok (.iload_n 1, 1) := by decide +kernel
theorem dX2_fill_39 : decode cX2_fill 39 = .ok (.aload_n 0, 1) := by decide +kernel
theorem dX2_fill_40 : decode cX2_fill 40 = .ok (.iload_n 1, 1) := by decide +kernel
theorem dX2_fill_41 : decode cX2_fill 41 = .ok (.invokevirtual 89, 3) := by decide +kernel
theorem dX2_fill_44 : decode cX2_fill 44 = .ok (.iastore, 1) := by decide +kernel
theorem dX2_fill_45 : decode cX2_fill 45 = .ok (.aload_n 0, 1) := by decide +kernel
theorem dX2_fill_46 : decode cX2_fill 46 = .ok (.getfield 22, 3) := by decide +kernel
theorem dX2_fill_49 : decode cX2_fill 49 = .ok (.iload_n 1, 1) := by decide +kernel
theorem dX2_fill_50 : decode cX2_fill 50 = .ok (.iconst 0, 1) := by decide +kernel
theorem dX2_fill_51 : decode cX2_fill 51 = .ok (.iastore, 1) := by decide +kernel
theorem dX2_fill_52 : decode cX2_fill 52 = .ok (.aload_n 0, 1) := by decide +kernel
theorem dX2_fill_53 : decode cX2_fill 53 = .ok (.getfield 28, 3) := by decide +kernel
theorem dX2_fill_56 : decode cX2_fill 56 = .ok (.iload_n 1, 1) := by decide +kernel
theorem dX2_fill_57 : decode cX2_fill 57 = .ok (.iconst 0, 1) := by decide +kernel
theorem dX2_fill_58 : decode cX2_fill 58 = .ok (.iastore, 1) := by decide +kernel
theorem dX2_fill_59 : decode cX2_fill 59 = .ok (.aload_n 0, 1) := by decide +kernel
theorem dX2_fill_60 : decode cX2_fill 60 = .ok (.getfield 19, 3) := by decide +kernel
theorem dX2_fill_63 : decode cX2_fill 63 = .ok (.iload_n 1, 1) := by decide +kernel
theorem dX2_fill_64 : decode cX2_fill 64 = .ok (.iaload, 1) := by decide +kernel
theorem dX2_fill_65 : decode cX2_fill 65 = .ok (.ireturn, 1) := by decide +kernel
theorem dX2_dampOf_0 : decode cX2_dampOf 0 = .ok (.aload_n 0, 1) := by decide +kernel
theorem dX2_dampOf_1 : decode cX2_dampOf 1 = .ok (.getfield 40, 3) := by decide +kernel
theorem dX2_dampOf_4 : decode cX2_dampOf 4 = .ok (.iload_n 1, 1) := by decide +kernel
theorem dX2_dampOf_5 : decode cX2_dampOf 5 = .ok (.iaload, 1) := by decide +kernel
theorem dX2_dampOf_6 : decode cX2_dampOf 6 = .ok (.ifCond .le 23, 3) := by decide +kernel
theorem dX2_dampOf_9 : decode cX2_dampOf 9 = .ok (.getstatic 59, 3) := by decide +kernel
theorem dX2_dampOf_12 : decode cX2_dampOf 12 = .ok (.aload_n 0, 1) := by decide +kernel
theorem dX2_dampOf_13 : decode cX2_dampOf 13 = .ok (.getfield 43, 3) := by decide +kernel
theorem dX2_dampOf_16 : decode cX2_dampOf 16 = .ok (.iload_n 1, 1) := by decide +kernel
theorem dX2_dampOf_17 : decode cX2_dampOf 17 = .ok (.iaload, 1) := by decide +kernel
theorem dX2_dampOf_18 : decode cX2_dampOf 18 = .ok (.iaload, 1) := by decide +kernel
theorem dX2_dampOf_19 : decode cX2_dampOf 19 = .ok (.aload_n 0, 1) := by decide +kernel
theorem dX2_dampOf_20 : decode cX2_dampOf 20 = .ok (.getfield 11, 3) := by decide +kernel
theorem dX2_dampOf_23 : decode cX2_dampOf 23 = .ok (.iload_n 1, 1) := by decide +kernel
theorem dX2_dampOf_24 : decode cX2_dampOf 24 = .ok (.iaload, 1) := by decide +kernel
theorem dX2_dampOf_25 : decode cX2_dampOf 25 = .ok (.imul, 1) := by decide +kernel
theorem dX2_dampOf_26 : decode cX2_dampOf 26 = .ok (.goto 4, 3) := by decide +kernel
theorem dX2_dampOf_29 : decode cX2_dampOf 29 = .ok (.iconst 0, 1) := by decide +kernel
theorem dX2_dampOf_30 : decode cX2_dampOf 30 = .ok (.ireturn, 1) := by decide +kernel
theorem dX2_keepCover_0 : decode cX2_keepCover 0 = .ok (.aload_n 0, 1) := by decide +kernel
theorem dX2_keepCover_1 : decode cX2_keepCover 1 = .ok (.getfield 34, 3) := by decide +kernel
theorem dX2_keepCover_4 : decode cX2_keepCover 4 = .ok (.iconst 0, 1) := by decide +kernel
theorem dX2_keepCover_5 : decode cX2_keepCover 5 = .ok (.aload_n 0, 1) := by decide +kernel
theorem dX2_keepCover_6 : decode cX2_keepCover 6 = .ok (.getfield 49, 3) := by decide +kernel
theorem dX2_keepCover_9 : decode cX2_keepCover 9 = .ok (.iconst 0, 1) := by decide +kernel
theorem dX2_keepCover_10 : decode cX2_keepCover 10 = .ok (.bipush 64, 2) := by decide +kernel
theorem dX2_keepCover_12 : decode cX2_keepCover 12 = .ok (.invokestatic 93, 3) := by decide +kernel
theorem dX2_keepCover_15 : decode cX2_keepCover 15 = .ok (.return_, 1) := by decide +kernel
theorem dX2_setAlight_0 : decode cX2_setAlight 0 = .ok (.aload_n 0, 1) := by decide +kernel
theorem dX2_setAlight_1 : decode cX2_setAlight 1 = .ok (.getfield 31, 3) := by decide +kernel
theorem dX2_setAlight_4 : decode cX2_setAlight 4 = .ok (.iconst 0, 1) := by decide +kernel
theorem dX2_setAlight_5 : decode cX2_setAlight 5 = .ok (.iconst 1, 1) := by decide +kernel
theorem dX2_setAlight_6 : decode cX2_setAlight 6 = .ok (.iastore, 1) := by decide +kernel
theorem dX2_setAlight_7 : decode cX2_setAlight 7 = .ok (.aload_n 0, 1) := by decide +kernel
theorem dX2_setAlight_8 : decode cX2_setAlight 8 = .ok (.getfield 28, 3) := by decide +kernel
theorem dX2_setAlight_11 : decode cX2_setAlight 11 = .ok (.iconst 0, 1) := by decide +kernel
theorem dX2_setAlight_12 : decode cX2_setAlight 12 = .ok (.sipush 500, 3) := by decide +kernel
theorem dX2_setAlight_15 : decode cX2_setAlight 15 = .ok (.iastore, 1) := by decide +kernel
theorem dX2_setAlight_16 : decode cX2_setAlight 16 = .ok (.return_, 1) := by decide +kernel
set_option maxRecDepth 20000 in
theorem ggX2_backToLight_X2_backToLaid : GoodIn wsX2_backToLight wsX2_backToLaid := goodIn_r _ [5, 6, 7, 8, 9, 10, 11, 12, 13, 14, 15, 16, 17, 18, 19, 20, 21, 4, 22, 23, 24, 25, 30, 31, 32, 33, 34, 35, 36, 37, 38, 39, 40, 41, 42, 43, 44, 45, 46, 47, 48] (by decide +kernel) (by decide +kernel)
set_option maxRecDepth 20000 in
theorem gX2_backToLight_X2_backToLaid : GoodIn wsX2_backToLight (wsV RX2 86 RX2 yX2_backToLaid wsX2_backToLaid) := goodIn_app (goodIn_of _ (by decide +kernel)) ggX2_backToLight_X2_backToLaid
set_option maxRecDepth 20000 in
theorem ggX2_backToLight_X2_setAlight : GoodIn wsX2_backToLight wsX2_setAlight := goodIn_r _ [29, 14, 13, 30, 31, 32, 33, 34, 35, 36, 37, 38, 39, 40, 41, 42, 43, 44, 45, 46, 47, 48] (by decide +kernel) (by decide +kernel)
set_option maxRecDepth 20000 in
theorem gX2_backToLight_X2_setAlight : GoodIn wsX2_backToLight (wsV RX2 99 RX2 yX2_setAlight wsX2_setAlight) := goodIn_app (goodIn_of _ (by decide +kernel)) ggX2_backToLight_X2_setAlight
theorem dX2_backToLight_0 : decode cX2_backToLight 0 = .ok (.aload_n 0, 1) := by decide +kernel
theorem dX2_backToLight_1 : decode cX2_backToLight 1 = .ok (.invokevirtual 86, 3) := by decide +kernel
theorem dX2_backToLight_4 : decode cX2_backToLight 4 = .ok (.aload_n 0, 1) := by decide +kernel
theorem dX2_backToLight_5 : decode cX2_backToLight 5 = .ok (.invokevirtual 99, 3) := by decide +kernel
theorem dX2_backToLight_8 : decode cX2_backToLight 8 = .ok (.return_, 1) := by decide +kernel
set_option maxRecDepth 20000 in
theorem ggX2_backToLaid_X2_dampOf : GoodIn wsX2_backToLaid wsX2_dampOf := goodIn_r _ [18, 5, 19, 20, 21, 22, 23, 24, 25, 26, 27, 28, 29, 30, 31, 32, 33, 34, 35, 36, 37, 38, 39, 40] (by decide +kernel) (by decide +kernel)
set_option maxRecDepth 20000 in
theorem gX2_backToLaid_X2_dampOf : GoodIn wsX2_backToLaid (wsV RX2 89 RX2 yX2_dampOf wsX2_dampOf) := goodIn_app (goodIn_of _ (by decide +kernel)) ggX2_backToLaid_X2_dampOf
theorem dX2_backToLaid_0 : decode cX2_backToLaid 0 = .ok (.aload_n 0, 1) := by decide +kernel
theorem dX2_backToLaid_1 : decode cX2_backToLaid 1 = .ok (.iconst 0, 1) := by decide +kernel
theorem dX2_backToLaid_2 : decode cX2_backToLaid 2 = .ok (.putfield 102, 3) := by decide +kernel
theorem dX2_backToLaid_5 : decode cX2_backToLaid 5 = .ok (.aload_n 0, 1) := by decide +kernel
theorem dX2_backToLaid_6 : decode cX2_backToLaid 6 = .ok (.iconst 0, 1) := by decide +kernel
theorem dX2_backToLaid_7 : decode cX2_backToLaid 7 = .ok (.putfield 105, 3) := by decide +kernel
theorem dX2_backToLaid_10 : decode cX2_backToLaid 10 = .ok (.iconst 0, 1) := by decide +kernel
theorem dX2_backToLaid_11 : decode cX2_backToLaid 11 = .ok (.istore_n 1, 1) := by decide +kernel
theorem dX2_backToLaid_12 : decode cX2_backToLaid 12 = .ok (.iload_n 1, 1) := by decide +kernel
theorem dX2_backToLaid_13 : decode cX2_backToLaid 13 = .ok (.aload_n 0, 1) := by decide +kernel
theorem dX2_backToLaid_14 : decode cX2_backToLaid 14 = .ok (.getfield 77, 3) := by decide +kernel
theorem dX2_backToLaid_17 : decode cX2_backToLaid 17 = .ok (.if_icmp .ge 79, 3) := by decide +kernel
theorem dX2_backToLaid_20 : decode cX2_backToLaid 20 = .ok (.aload_n 0, 1) := by decide +kernel
theorem dX2_backToLaid_21 : decode cX2_backToLaid 21 = .ok (.getfield 19, 3) := by decide +kernel
theorem dX2_backToLaid_24 : decode cX2_backToLaid 24 = .ok (.iload_n 1, 1) := by decide +kernel
theorem dX2_backToLaid_25 : decode cX2_backToLaid 25 = .ok (.aload_n 0, 1) := by decide +kernel
theorem dX2_backToLaid_26 : decode cX2_backToLaid 26 = .ok (.getfield 40, 3) := by decide +kernel
theorem dX2_backToLaid_29 : decode cX2_backToLaid 29 = .ok (.iload_n 1, 1) := by decide +kernel
theorem dX2_backToLaid_30 : decode cX2_backToLaid 30 = .ok (.iaload, 1) := by decide +kernel
theorem dX2_backToLaid_31 : decode cX2_backToLaid 31 = .ok (.iastore, 1) := by decide +kernel
theorem dX2_backToLaid_32 : decode cX2_backToLaid 32 = .ok (.aload_n 0, 1) := by decide +kernel
theorem dX2_backToLaid_33 : decode cX2_backToLaid 33 = .ok (.getfield 22, 3) := by decide +kernel
theorem dX2_backToLaid_36 : decode cX2_backToLaid 36 = .ok (.iload_n 1, 1) := by decide +kernel
theorem dX2_backToLaid_37 : decode cX2_backToLaid 37 = .ok (.iconst 0, 1) := by decide +kernel
theorem dX2_backToLaid_38 : decode cX2_backToLaid 38 = .ok (.iastore, 1) := by decide +kernel
theorem dX2_backToLaid_39 : decode cX2_backToLaid 39 = .ok (.aload_n 0, 1) := by decide +kernel
theorem dX2_backToLaid_40 : decode cX2_backToLaid 40 = .ok (.getfield 25, 3) := by decide +kernel
theorem dX2_backToLaid_43 : decode cX2_backToLaid 43 = .ok (.iload_n 1, 1) := by decide +kernel
theorem dX2_backToLaid_44 : decode cX2_backToLaid 44 = .ok (.aload_n 0, 1) := by decide +kernel
theorem dX2_backToLaid_45 : decode cX2_backToLaid 45 = .ok (.iload_n 1, 1) := by decide +kernel
theorem dX2_backToLaid_46 : decode cX2_backToLaid 46 = .ok (.invokevirtual 89, 3) := by decide +kernel
theorem dX2_backToLaid_49 : decode cX2_backToLaid 49 = .ok (.iastore, 1) := by decide +kernel
theorem dX2_backToLaid_50 : decode cX2_backToLaid 50 = .ok (.aload_n 0, 1) := by decide +kernel
theorem dX2_backToLaid_51 : decode cX2_backToLaid 51 = .ok (.getfield 28, 3) := by decide +kernel
theorem dX2_backToLaid_54 : decode cX2_backToLaid 54 = .ok (.iload_n 1, 1) := by decide +kernel
theorem dX2_backToLaid_55 : decode cX2_backToLaid 55 = .ok (.iconst 0, 1) := by decide +kernel
theorem dX2_backToLaid_56 : decode cX2_backToLaid 56 = .ok (.iastore, 1) := by decide +kernel
theorem dX2_backToLaid_57 : decode cX2_backToLaid 57 = .ok (.aload_n 0, 1) := by decide +kernel
theorem dX2_backToLaid_58 : decode cX2_backToLaid 58 = .ok (.getfield 31, 3) := by decide +kernel
theorem dX2_backToLaid_61 : decode cX2_backToLaid 61 = .ok (.iload_n 1, 1) := by decide +kernel
theorem dX2_backToLaid_62 : decode cX2_backToLaid 62 = .ok (.iconst 0, 1) := by decide +kernel
theorem dX2_backToLaid_63 : decode cX2_backToLaid 63 = .ok (.iastore, 1) := by decide +kernel
theorem dX2_backToLaid_64 : decode cX2_backToLaid 64 = .ok (.aload_n 0, 1) := by decide +kernel
theorem dX2_backToLaid_65 : decode cX2_backToLaid 65 = .ok (.getfield 34, 3) := by decide +kernel
theorem dX2_backToLaid_68 : decode cX2_backToLaid 68 = .ok (.iload_n 1, 1) := by decide +kernel
theorem dX2_backToLaid_69 : decode cX2_backToLaid 69 = .ok (.aload_n 0, 1) := by decide +kernel
theorem dX2_backToLaid_70 : decode cX2_backToLaid 70 = .ok (.getfield 49, 3) := by decide +kernel
theorem dX2_backToLaid_73 : decode cX2_backToLaid 73 = .ok (.iload_n 1, 1) := by decide +kernel
theorem dX2_backToLaid_74 : decode cX2_backToLaid 74 = .ok (.iaload, 1) := by decide +kernel
theorem dX2_backToLaid_75 : decode cX2_backToLaid 75 = .ok (.iastore, 1) := by decide +kernel
theorem dX2_backToLaid_76 : decode cX2_backToLaid 76 = .ok (.aload_n 0, 1) := by decide +kernel
theorem dX2_backToLaid_77 : decode cX2_backToLaid 77 = .ok (.getfield 37, 3) := by decide +kernel
theorem dX2_backToLaid_80 : decode cX2_backToLaid 80 = .ok (.iload_n 1, 1) := by decide +kernel
theorem dX2_backToLaid_81 : decode cX2_backToLaid 81 = .ok (.iconst 0, 1) := by decide +kernel
theorem dX2_backToLaid_82 : decode cX2_backToLaid 82 = .ok (.iastore, 1) := by decide +kernel
theorem dX2_backToLaid_83 : decode cX2_backToLaid 83 = .ok (.aload_n 0, 1) := by decide +kernel
theorem dX2_backToLaid_84 : decode cX2_backToLaid 84 = .ok (.getfield 46, 3) := by decide +kernel
theorem dX2_backToLaid_87 : decode cX2_backToLaid 87 = .ok (.iload_n 1, 1) := by decide +kernel
theorem dX2_backToLaid_88 : decode cX2_backToLaid 88 = .ok (.iconst (-1), 1) := by decide +kernel
theorem dX2_backToLaid_89 : decode cX2_backToLaid 89 = .ok (.iastore, 1) := by decide +kernel
theorem dX2_backToLaid_90 : decode cX2_backToLaid 90 = .ok (.iinc 1 1, 3) := by decide +kernel
theorem dX2_backToLaid_93 : decode cX2_backToLaid 93 = .ok (.goto (-81), 3) := by decide +kernel
theorem dX2_backToLaid_96 : decode cX2_backToLaid 96 = .ok (.return_, 1) := by decide +kernel
theorem dX2_sum_0 : decode cX2_sum 0 = .ok (.iconst 0, 1) := by decide +kernel
theorem dX2_sum_1 : decode cX2_sum 1 = .ok (.istore_n 2, 1) := by decide +kernel
theorem dX2_sum_2 : decode cX2_sum 2 = .ok (.iconst 0, 1) := by decide +kernel
theorem dX2_sum_3 : decode cX2_sum 3 = .ok (.istore_n 3, 1) := by decide +kernel
theorem dX2_sum_4 : decode cX2_sum 4 = .ok (.iload_n 3, 1) := by decide +kernel
theorem dX2_sum_5 : decode cX2_sum 5 = .ok (.aload_n 0, 1) := by decide +kernel
theorem dX2_sum_6 : decode cX2_sum 6 = .ok (.getfield 77, 3) := by decide +kernel
theorem dX2_sum_9 : decode cX2_sum 9 = .ok (.if_icmp .ge 15, 3) := by decide +kernel
theorem dX2_sum_12 : decode cX2_sum 12 = .ok (.iload_n 2, 1) := by decide +kernel
theorem dX2_sum_13 : decode cX2_sum 13 = .ok (.aload_n 1, 1) := by decide +kernel
theorem dX2_sum_14 : decode cX2_sum 14 = .ok (.iload_n 3, 1) := by decide +kernel
theorem dX2_sum_15 : decode cX2_sum 15 = .ok (.iaload, 1) := by decide +kernel
theorem dX2_sum_16 : decode cX2_sum 16 = .ok (.iadd, 1) := by decide +kernel
theorem dX2_sum_17 : decode cX2_sum 17 = .ok (.istore_n 2, 1) := by decide +kernel
theorem dX2_sum_18 : decode cX2_sum 18 = .ok (.iinc 3 1, 3) := by decide +kernel
theorem dX2_sum_21 : decode cX2_sum 21 = .ok (.goto (-17), 3) := by decide +kernel
theorem dX2_sum_24 : decode cX2_sum 24 = .ok (.iload_n 2, 1) := by decide +kernel
theorem dX2_sum_25 : decode cX2_sum 25 = .ok (.ireturn, 1) := by decide +kernel
set_option maxRecDepth 20000 in
theorem ggX2_breathe_X2_isBare : GoodIn wsX2_breathe wsX2_isBare := goodIn_r _ [10, 11, 12, 31, 32, 33, 34, 35, 36, 37, 38, 39, 40, 41, 42, 43, 44, 45, 46, 47, 48, 49] (by decide +kernel) (by decide +kernel)
set_option maxRecDepth 20000 in
theorem gX2_breathe_X2_isBare : GoodIn wsX2_breathe (wsV RX2 108 RX2 yX2_isBare wsX2_isBare) := goodIn_app (goodIn_of _ (by decide +kernel)) ggX2_breathe_X2_isBare
set_option maxRecDepth 20000 in
theorem ggX2_breathe_X2_spreadOutwards : GoodIn wsX2_breathe wsX2_spreadOutwards := goodIn_r _ [16, 17, 18, 2, 19, 20, 21, 22, 23, 24, 25, 9, 26, 31, 32, 33, 34, 35, 36, 37, 38, 39, 40, 41, 42, 43, 44, 45, 46, 47, 48, 49] (by decide +kernel) (by decide +kernel)
set_option maxRecDepth 20000 in
theorem gX2_breathe_X2_spreadOutwards : GoodIn wsX2_breathe (wsV RX2 123 RX2 yX2_spreadOutwards wsX2_spreadOutwards) := goodIn_app (goodIn_of _ (by decide +kernel)) ggX2_breathe_X2_spreadOutwards
set_option maxRecDepth 20000 in
theorem ggX2_breathe_X2_spreadInwards : GoodIn wsX2_breathe wsX2_spreadInwards := goodIn_r _ [30, 17, 18, 2, 19, 20, 21, 22, 23, 24, 25, 9, 26, 31, 32, 33, 34, 35, 36, 37, 38, 39, 40, 41, 42, 43, 44, 45, 46, 47, 48, 49] (by decide +kernel) (by decide +kernel)
set_option maxRecDepth 20000 in
theorem gX2_breathe_X2_spreadInwards : GoodIn wsX2_breathe (wsV RX2 126 RX2 yX2_spreadInwards wsX2_spreadInwards) := goodIn_app (goodIn_of _ (by decide +kernel)) ggX2_breathe_X2_spreadInwards
theorem dX2_breathe_0 : decode cX2_breathe 0 = .ok (.iconst 0, 1) := by decide +kernel
theorem dX2_breathe_1 : decode cX2_breathe 1 = .ok (.istore_n 3, 1) := by decide +kernel
theorem dX2_breathe_2 : decode cX2_breathe 2 = .ok (.iload_n 3, 1) := by decide +kernel
theorem dX2_breathe_3 : decode cX2_breathe 3 = .ok (.aload_n 0, 1) := by decide +kernel
theorem dX2_breathe_4 : decode cX2_breathe 4 = .ok (.getfield 77, 3) := by decide +kernel
theorem dX2_breathe_7 : decode cX2_breathe 7 = .ok (.if_icmp .ge 28, 3) := by decide +kernel
theorem dX2_breathe_10 : decode cX2_breathe 10 = .ok (.aload_n 0, 1) := by decide +kernel
theorem dX2_breathe_11 : decode cX2_breathe 11 = .ok (.getfield 37, 3) := by decide +kernel
theorem dX2_breathe_14 : decode cX2_breathe 14 = .ok (.iload_n 3, 1) := by decide +kernel
theorem dX2_breathe_15 : decode cX2_breathe 15 = .ok (.aload_n 0, 1) := by decide +kernel
theorem dX2_breathe_16 : decode cX2_breathe 16 = .ok (.iload_n 3, 1) := by decide +kernel
theorem dX2_breathe_17 : decode cX2_breathe 17 = .ok (.invokevirtual 108, 3) := by decide +kernel
theorem dX2_breathe_20 : decode cX2_breathe 20 = .ok (.ifCond .eq 7, 3) := by decide +kernel
theorem dX2_breathe_23 : decode cX2_breathe 23 = .ok (.iload_n 2, 1) := by decide +kernel
theorem dX2_breathe_24 : decode cX2_breathe 24 = .ok (.goto 4, 3) := by decide +kernel
theorem dX2_breathe_27 : decode cX2_breathe 27 = .ok (.iconst 0, 1) := by decide +kernel
theorem dX2_breathe_28 : decode cX2_breathe 28 = .ok (.iastore, 1) := by decide +kernel
theorem dX2_breathe_29 : decode cX2_breathe 29 = .ok (.iinc 3 1, 3) := by decide +kernel
theorem dX2_breathe_32 : decode cX2_breathe 32 = .ok (.goto (-30), 3) := by decide +kernel
theorem dX2_breathe_35 : decode cX2_breathe 35 = .ok (.iconst 0, 1) := by decide +kernel
theorem dX2_breathe_36 : decode cX2_breathe 36 = .ok (.istore_n 3, 1) := by decide +kernel
theorem dX2_breathe_37 : decode cX2_breathe 37 = .ok (.iload_n 3, 1) := by decide +kernel
theorem dX2_breathe_38 : decode cX2_breathe 38 = .ok (.aload_n 1, 1) := by decide +kernel
theorem dX2_breathe_39 : decode cX2_breathe 39 = .ok (.getfield 112, 3) := by decide +kernel
theorem dX2_breathe_42 : decode cX2_breathe 42 = .ok (.if_icmp .ge 30, 3) := by decide +kernel
theorem dX2_breathe_45 : decode cX2_breathe 45 = .ok (.aload_n 1, 1) := by decide +kernel
theorem dX2_breathe_46 : decode cX2_breathe 46 = .ok (.getfield 117, 3) := by decide +kernel
theorem dX2_breathe_49 : decode cX2_breathe 49 = .ok (.iload_n 3, 1) := by decide +kernel
theorem dX2_breathe_50 : decode cX2_breathe 50 = .ok (.baload, 1) := by decide +kernel
theorem dX2_breathe_51 : decode cX2_breathe 51 = .ok (.ifCond .eq 15, 3) := by decide +kernel
theorem dX2_breathe_54 : decode cX2_breathe 54 = .ok (.aload_n 0, 1) := by decide +kernel
theorem dX2_breathe_55 : decode cX2_breathe 55 = .ok (.getfield 37, 3) := by decide +kernel
theorem dX2_breathe_58 : decode cX2_breathe 58 = .ok (.aload_n 1, 1) := by decide +kernel
theorem dX2_breathe_59 : decode cX2_breathe 59 = .ok (.getfield 120, 3) := by decide +kernel
theorem dX2_breathe_62 : decode cX2_breathe 62 = .ok (.iload_n 3, 1) := by decide +kernel
theorem dX2_breathe_63 : decode cX2_breathe 63 = .ok (.iaload, 1) := by decide +kernel
theorem dX2_breathe_64 : decode cX2_breathe 64 = .ok (.iload_n 2, 1) := by decide +kernel
theorem dX2_breathe_65 : decode cX2_breathe 65 = .ok (.iastore, 1) := by decide +kernel
theorem dX2_breathe_66 : decode cX2_breathe 66 = .ok (.iinc 3 1, 3) := by decide +kernel
theorem dX2_breathe_69 : decode cX2_breathe 69 = .ok (.goto (-32), 3) := by decide +kernel
theorem dX2_breathe_72 : decode cX2_breathe 72 = .ok (.aload_n 0, 1) := by decide +kernel
theorem dX2_breathe_73 : decode cX2_breathe 73 = .ok (.invokevirtual 123, 3) := by decide +kernel
theorem dX2_breathe_76 : decode cX2_breathe 76 = .ok (.aload_n 0, 1) := by decide +kernel
theorem dX2_breathe_77 : decode cX2_breathe 77 = .ok (.invokevirtual 126, 3) := by decide +kernel
theorem dX2_breathe_80 : decode cX2_breathe 80 = .ok (.return_, 1) := by decide +kernel
set_option maxRecDepth 20000 in
theorem ggX2_spreadOutwards_X2_at : GoodIn wsX2_spreadOutwards wsX2_at := goodIn_r _ [12, 2, 13, 14, 15, 16, 17, 18, 19, 20, 21, 22, 23, 24, 25, 26, 27, 28, 29, 30, 31] (by decide +kernel) (by decide +kernel)
set_option maxRecDepth 20000 in
theorem gX2_spreadOutwards_X2_at : GoodIn wsX2_spreadOutwards (wsV RX2 73 RX2 yX2_at wsX2_at) := goodIn_app (goodIn_of _ (by decide +kernel)) ggX2_spreadOutwards_X2_at
theorem dX2_spreadOutwards_0 : decode cX2_spreadOutwards 0 = .ok (.iconst 0, 1) := by decide +kernel
theorem dX2_spreadOutwards_1 : decode cX2_spreadOutwards 1 = .ok (.istore_n 1, 1) := by decide +kernel
theorem dX2_spreadOutwards_2 : decode cX2_spreadOutwards 2 = .ok (.iload_n 1, 1) := by decide +kernel
theorem dX2_spreadOutwards_3 : decode cX2_spreadOutwards 3 = .ok (.aload_n 0, 1) := by decide +kernel
theorem dX2_spreadOutwards_4 : decode cX2_spreadOutwards 4 = .ok (.getfield 62, 3) := by decide +kernel
theorem dX2_spreadOutwards_7 : decode cX2_spreadOutwards 7 = .ok (.if_icmp .ge 95, 3) := by decide +kernel
theorem dX2_spreadOutwards_10 : decode cX2_spreadOutwards 10 = .ok (.iconst 0, 1) := by decide +kernel
theorem dX2_spreadOutwards_11 : decode cX2_spreadOutwards 11 = .ok (.istore_n 2, 1) := by decide +kernel
theorem dX2_spreadOutwards_12 : decode cX2_spreadOutwards 12 = .ok (.iload_n 2, 1) := by decide +kernel
theorem dX2_spreadOutwards_13 : decode cX2_spreadOutwards 13 = .ok (.aload_n 0, 1) := by decide +kernel
theorem dX2_spreadOutwards_14 : decode cX2_spreadOutwards 14 = .ok (.getfield 66, 3) := by decide +kernel
theorem dX2_spreadOutwards_17 : decode cX2_spreadOutwards 17 = .ok (.if_icmp .ge 79, 3) := by decide +kernel
theorem dX2_spreadOutwards_20 : decode cX2_spreadOutwards 20 = .ok (.aload_n 0, 1) := by decide +kernel
theorem dX2_spreadOutwards_21 : decode cX2_spreadOutwards 21 = .ok (.iload_n 1, 1) := by decide +kernel
theorem dX2_spreadOutwards_22 : decode cX2_spreadOutwards 22 = .ok (.iload_n 2, 1) := by decide +kernel
theorem dX2_spreadOutwards_23 : decode cX2_spreadOutwards 23 = .ok (.invokevirtual 73, 3) := by decide +kernel
theorem dX2_spreadOutwards_26 : decode cX2_spreadOutwards 26 = .ok (.istore_n 3, 1) := by decide +kernel
theorem dX2_spreadOutwards_27 : decode cX2_spreadOutwards 27 = .ok (.iload_n 2, 1) := by decide +kernel
theorem dX2_spreadOutwards_28 : decode cX2_spreadOutwards 28 = .ok (.ifCond .le 14, 3) := by decide +kernel
theorem dX2_spreadOutwards_31 : decode cX2_spreadOutwards 31 = .ok (.aload_n 0, 1) := by decide +kernel
theorem dX2_spreadOutwards_32 : decode cX2_spreadOutwards 32 = .ok (.getfield 37, 3) := by decide +kernel
theorem dX2_spreadOutwards_35 : decode cX2_spreadOutwards 35 = .ok (.iload_n 3, 1) := by decide +kernel
theorem dX2_spreadOutwards_36 : decode cX2_spreadOutwards 36 = .ok (.iconst 1, 1) := by decide +kernel
theorem dX2_spreadOutwards_37 : decode cX2_spreadOutwards 37 = .ok (.isub, 1) := by decide +kernel
theorem dX2_spreadOutwards_38 : decode cX2_spreadOutwards 38 = .ok (.iaload, 1) := by decide +kernel
theorem dX2_spreadOutwards_39 : decode cX2_spreadOutwards 39 = .ok (.goto 4, 3) := by decide +kernel
theorem dX2_spreadOutwards_42 : decode cX2_spreadOutwards 42 = .ok (.iconst 0, 1) := by decide +kernel
theorem dX2_spreadOutwards_43 : decode cX2_spreadOutwards 43 = .ok (.istore 4, 2) := by decide +kernel
theorem dX2_spreadOutwards_45 : decode cX2_spreadOutwards 45 = .ok (.iload_n 1, 1) := by decide +kernel
theorem dX2_spreadOutwards_46 : decode cX2_spreadOutwards 46 = .ok (.ifCond .le 17, 3) := by decide +kernel
theorem dX2_spreadOutwards_49 : decode cX2_spreadOutwards 49 = .ok (.aload_n 0, 1) := by decide +kernel
theorem dX2_spreadOutwards_50 : decode cX2_spreadOutwards 50 = .ok (.getfield 37, 3) := by decide +kernel
theorem dX2_spreadOutwards_53 : decode cX2_spreadOutwards 53 = .ok (.iload_n 3, 1) := by decide +kernel
theorem dX2_spreadOutwards_54 : decode cX2_spreadOutwards 54 = .ok (.aload_n 0, 1) := by decide +kernel
theorem dX2_spreadOutwards_55 : decode cX2_spreadOutwards 55 = .ok (.getfield 66, 3) := by decide +kernel
theorem dX2_spreadOutwards_58 : decode cX2_spreadOutwards 58 = .ok (.isub, 1) := by decide +kernel
theorem dX2_spreadOutwards_59 : decode cX2_spreadOutwards 59 = .ok (.iaload, 1) := by decide +kernel
theorem dX2_spreadOutwards_60 : decode cX2_spreadOutwards 60 = .ok (.goto 4, 3) := by decide +kernel
theorem dX2_spreadOutwards_63 : decode cX2_spreadOutwards 63 = .ok (.iconst 0, 1) := by decide +kernel
theorem dX2_spreadOutwards_64 : decode cX2_spreadOutwards 64 = .ok (.istore 5, 2) := by decide +kernel
theorem dX2_spreadOutwards_66 : decode cX2_spreadOutwards 66 = .ok (.aload_n 0, 1) := by decide +kernel
theorem dX2_spreadOutwards_67 : decode cX2_spreadOutwards 67 = .ok (.getfield 37, 3) := by decide +kernel
theorem dX2_spreadOutwards_70 : decode cX2_spreadOutwards 70 = .ok (.iload_n 3, 1) := by decide +kernel
theorem dX2_spreadOutwards_71 : decode cX2_spreadOutwards 71 = .ok (.aload_n 0, 1) := by decide +kernel
theorem dX2_spreadOutwards_72 : decode cX2_spreadOutwards 72 = .ok (.getfield 37, 3) := by decide +kernel
theorem dX2_spreadOutwards_75 : decode cX2_spreadOutwards 75 = .ok (.iload_n 3, 1) := by decide +kernel
theorem dX2_spreadOutwards_76 : decode cX2_spreadOutwards 76 = .ok (.iaload, 1) := by decide +kernel
theorem dX2_spreadOutwards_77 : decode cX2_spreadOutwards 77 = .ok (.iload 4, 2) := by decide +kernel
theorem dX2_spreadOutwards_79 : decode cX2_spreadOutwards 79 = .ok (.iload 5, 2) := by decide +kernel
theorem dX2_spreadOutwards_81 : decode cX2_spreadOutwards 81 = .ok (.invokestatic 129, 3) := by decide +kernel
theorem dX2_spreadOutwards_84 : decode cX2_spreadOutwards 84 = .ok (.iconst 1, 1) := by decide +kernel
theorem dX2_spreadOutwards_85 : decode cX2_spreadOutwards 85 = .ok (.isub, 1) := by decide +kernel
theorem dX2_spreadOutwards_86 : decode cX2_spreadOutwards 86 = .ok (.invokestatic 129, 3) := by decide +kernel
theorem dX2_spreadOutwards_89 : decode cX2_spreadOutwards 89 = .ok (.iastore, 1) := by decide +kernel
theorem dX2_spreadOutwards_90 : decode cX2_spreadOutwards 90 = .ok (.iinc 2 1, 3) := by decide +kernel
theorem dX2_spreadOutwards_93 : decode cX2_spreadOutwards 93 = .ok (.goto (-81), 3) := by decide +kernel
theorem dX2_spreadOutwards_96 : decode cX2_spreadOutwards 96 = .ok (.iinc 1 1, 3) := by decide +kernel
theorem dX2_spreadOutwards_99 : decode cX2_spreadOutwards 99 = .ok (.goto (-97), 3) := by decide +kernel
theorem dX2_spreadOutwards_102 : decode cX2_spreadOutwards 102 = .ok (.return_, 1) := by decide +kernel
set_option maxRecDepth 20000 in
theorem ggX2_spreadInwards_X2_at : GoodIn wsX2_spreadInwards wsX2_at := goodIn_r _ [12, 2, 13, 14, 15, 16, 17, 18, 19, 20, 21, 22, 23, 24, 25, 26, 27, 28, 29, 30, 31] (by decide +kernel) (by decide +kernel)
set_option maxRecDepth 20000 in
theorem gX2_spreadInwards_X2_at : GoodIn wsX2_spreadInwards (wsV RX2 73 RX2 yX2_at wsX2_at) := goodIn_app (goodIn_of _ (by decide +kernel)) ggX2_spreadInwards_X2_at
theorem dX2_spreadInwards_0 : decode cX2_spreadInwards 0 = .ok (.aload_n 0, 1) := by decide +kernel
theorem dX2_spreadInwards_1 : decode cX2_spreadInwards 1 = .ok (.getfield 62, 3) := by decide +kernel
theorem dX2_spreadInwards_4 : decode cX2_spreadInwards 4 = .ok (.iconst 1, 1) := by decide +kernel
theorem dX2_spreadInwards_5 : decode cX2_spreadInwards 5 = .ok (.isub, 1) := by decide +kernel
theorem dX2_spreadInwards_6 : decode cX2_spreadInwards 6 = .ok (.istore_n 1, 1) := by decide +kernel
theorem dX2_spreadInwards_7 : decode cX2_spreadInwards 7 = .ok (.iload_n 1, 1) := by decide +kernel
theorem dX2_spreadInwards_8 : decode cX2_spreadInwards 8 = .ok (.ifCond .lt 108, 3) := by decide +kernel
theorem dX2_spreadInwards_11 : decode cX2_spreadInwards 11 = .ok (.aload_n 0, 1) := by decide +kernel
theorem dX2_spreadInwards_12 : decode cX2_spreadInwards 12 = .ok (.getfield 66, 3) := by decide +kernel
theorem dX2_spreadInwards_15 : decode cX2_spreadInwards 15 = .ok (.iconst 1, 1) := by decide +kernel
theorem dX2_spreadInwards_16 : decode cX2_spreadInwards 16 = .ok (.isub, 1) := by decide +kernel
theorem dX2_spreadInwards_17 : decode cX2_spreadInwards 17 = .ok (.istore_n 2, 1) := by decide +kernel
theorem dX2_spreadInwards_18 : decode cX2_spreadInwards 18 = .ok (.iload_n 2, 1) := by decide +kernel
theorem dX2_spreadInwards_19 : decode cX2_spreadInwards 19 = .ok (.ifCond .lt 91, 3) := by decide +kernel
theorem dX2_spreadInwards_22 : decode cX2_spreadInwards 22 = .ok (.aload_n 0, 1) := by decide +kernel
theorem dX2_spreadInwards_23 : decode cX2_spreadInwards 23 = .ok (.iload_n 1, 1) := by decide +kernel
theorem dX2_spreadInwards_24 : decode cX2_spreadInwards 24 = .ok (.iload_n 2, 1) := by decide +kernel
theorem dX2_spreadInwards_25 : decode cX2_spreadInwards 25 = .ok (.invokevirtual 73, 3) := by decide +kernel
theorem dX2_spreadInwards_28 : decode cX2_spreadInwards 28 = .ok (.istore_n 3, 1) := by decide +kernel
theorem dX2_spreadInwards_29 : decode cX2_spreadInwards 29 = .ok (.iload_n 2, 1) := by decide +kernel
theorem dX2_spreadInwards_30 : decode cX2_spreadInwards 30 = .ok (.aload_n 0, 1) := by decide +kernel
theorem dX2_spreadInwards_31 : decode cX2_spreadInwards 31 = .ok (.getfield 66, 3) := by decide +kernel
theorem dX2_spreadInwards_34 : decode cX2_spreadInwards 34 = .ok (.iconst 1, 1) := by decide +kernel
theorem dX2_spreadInwards_35 : decode cX2_spreadInwards 35 = .ok (.isub, 1) := by decide +kernel
theorem dX2_spreadInwards_36 : decode cX2_spreadInwards 36 = .ok (.if_icmp .ge 14, 3) := by decide +kernel
theorem dX2_spreadInwards_39 : decode cX2_spreadInwards 39 = .ok (.aload_n 0, 1) := by decide +kernel
theorem dX2_spreadInwards_40 : decode cX2_spreadInwards 40 = .ok (.getfield 37, 3) := by decide +kernel
theorem dX2_spreadInwards_43 : decode cX2_spreadInwards 43 = .ok (.iload_n 3, 1) := by decide +kernel
theorem dX2_spreadInwards_44 : decode cX2_spreadInwards 44 = .ok (.iconst 1, 1) := by decide +kernel
theorem dX2_spreadInwards_45 : decode cX2_spreadInwards 45 = .ok (.iadd, 1) := by decide +kernel
theorem dX2_spreadInwards_46 : decode cX2_spreadInwards 46 = .ok (.iaload, 1) := by decide +kernel
theorem dX2_spreadInwards_47 : decode cX2_spreadInwards 47 = .ok (.goto 4, 3) := by decide +kernel
theorem dX2_spreadInwards_50 : decode cX2_spreadInwards 50 = .ok (.iconst 0, 1) := by decide +kernel
theorem dX2_spreadInwards_51 : decode cX2_spreadInwards 51 = .ok (.istore 4, 2) := by decide +kernel
theorem dX2_spreadInwards_53 : decode cX2_spreadInwards 53 = .ok (.iload_n 1, 1) := by decide +kernel
theorem dX2_spreadInwards_54 : decode cX2_spreadInwards 54 = .ok (.aload_n 0, 1) := by decide +kernel
theorem dX2_spreadInwards_55 : decode cX2_spreadInwards 55 = .ok (.getfield 62, 3) := by decide +kernel
theorem dX2_spreadInwards_58 : decode cX2_spreadInwards 58 = .ok (.iconst 1, 1) := by decide +kernel
theorem dX2_spreadInwards_59 : decode cX2_spreadInwards 59 = .ok (.isub, 1) := by decide +kernel
theorem dX2_spreadInwards_60 : decode cX2_spreadInwards 60 = .ok (.if_icmp .ge 17, 3) := by decide +kernel
theorem dX2_spreadInwards_63 : decode cX2_spreadInwards 63 = .ok (.aload_n 0, 1) := by decide +kernel
theorem dX2_spreadInwards_64 : decode cX2_spreadInwards 64 = .ok (.getfield 37, 3) := by decide +kernel
theorem dX2_spreadInwards_67 : decode cX2_spreadInwards 67 = .ok (.iload_n 3, 1) := by decide +kernel
theorem dX2_spreadInwards_68 : decode cX2_spreadInwards 68 = .ok (.aload_n 0, 1) := by decide +kernel
theorem dX2_spreadInwards_69 : decode cX2_spreadInwards 69 = .ok (.getfield 66, 3) := by decide +kernel
theorem dX2_spreadInwards_72 : decode cX2_spreadInwards 72 = .ok (.iadd, 1) := by decide +kernel
theorem dX2_spreadInwards_73 : decode cX2_spreadInwards 73 = .ok (.iaload, 1) := by decide +kernel
theorem dX2_spreadInwards_74 : decode cX2_spreadInwards 74 = .ok (.goto 4, 3) := by decide +kernel
theorem dX2_spreadInwards_77 : decode cX2_spreadInwards 77 = .ok (.iconst 0, 1) := by decide +kernel
theorem dX2_spreadInwards_78 : decode cX2_spreadInwards 78 = .ok (.istore 5, 2) := by decide +kernel
theorem dX2_spreadInwards_80 : decode cX2_spreadInwards 80 = .ok (.aload_n 0, 1) := by decide +kernel
theorem dX2_spreadInwards_81 : decode cX2_spreadInwards 81 = .ok (.getfield 37, 3) := by decide +kernel
theorem dX2_spreadInwards_84 : decode cX2_spreadInwards 84 = .ok (.iload_n 3, 1) := by decide +kernel
theorem dX2_spreadInwards_85 : decode cX2_spreadInwards 85 = .ok (.aload_n 0, 1) := by decide +kernel
theorem dX2_spreadInwards_86 : decode cX2_spreadInwards 86 = .ok (.getfield 37, 3) := by decide +kernel
theorem dX2_spreadInwards_89 : decode cX2_spreadInwards 89 = .ok (.iload_n 3, 1) := by decide +kernel
theorem dX2_spreadInwards_90 : decode cX2_spreadInwards 90 = .ok (.iaload, 1) := by decide +kernel
theorem dX2_spreadInwards_91 : decode cX2_spreadInwards 91 = .ok (.iload 4, 2) := by decide +kernel
theorem dX2_spreadInwards_93 : decode cX2_spreadInwards 93 = .ok (.iload 5, 2) := by decide +kernel
theorem dX2_spreadInwards_95 : decode cX2_spreadInwards 95 = .ok (.invokestatic 129, 3) := by decide +kernel
theorem dX2_spreadInwards_98 : decode cX2_spreadInwards 98 = .ok (.iconst 1, 1) := by decide +kernel
theorem dX2_spreadInwards_99 : decode cX2_spreadInwards 99 = .ok (.isub, 1) := by decide +kernel
theorem dX2_spreadInwards_100 : decode cX2_spreadInwards 100 = .ok (.invokestatic 129, 3) := by decide +kernel
theorem dX2_spreadInwards_103 : decode cX2_spreadInwards 103 = .ok (.iastore, 1) := by decide +kernel
theorem dX2_spreadInwards_104 : decode cX2_spreadInwards 104 = .ok (.iinc 2 (-1), 3) := by decide +kernel
theorem dX2_spreadInwards_107 : decode cX2_spreadInwards 107 = .ok (.goto (-89), 3) := by decide +kernel
theorem dX2_spreadInwards_110 : decode cX2_spreadInwards 110 = .ok (.iinc 1 (-1), 3) := by decide +kernel
theorem dX2_spreadInwards_113 : decode cX2_spreadInwards 113 = .ok (.goto (-106), 3) := by decide +kernel
theorem dX2_spreadInwards_116 : decode cX2_spreadInwards 116 = .ok (.return_, 1) := by decide +kernel
set_option maxRecDepth 20000 in
theorem ggX2_burn_X2_burnCell : GoodIn wsX2_burn wsX2_burnCell := goodIn_r _ [10, 11, 4, 12, 13, 14, 15, 16, 17, 18, 3, 19, 20, 21, 9, 22, 23, 24, 25, 26, 27, 28, 29, 30, 31, 32, 33, 34, 35, 36, 37, 38, 39, 40, 41, 42, 43, 44, 45, 46, 47, 48, 49, 50, 51, 52, 53] (by decide +kernel) (by decide +kernel)
set_option maxRecDepth 20000 in
theorem gX2_burn_X2_burnCell : GoodIn wsX2_burn (wsV RX2 134 RX2 yX2_burnCell wsX2_burnCell) := goodIn_app (goodIn_of _ (by decide +kernel)) ggX2_burn_X2_burnCell
theorem dX2_burn_0 : decode cX2_burn 0 = .ok (.iconst 0, 1) := by decide +kernel
theorem dX2_burn_1 : decode cX2_burn 1 = .ok (.istore_n 1, 1) := by decide +kernel
theorem dX2_burn_2 : decode cX2_burn 2 = .ok (.iconst 0, 1) := by decide +kernel
theorem dX2_burn_3 : decode cX2_burn 3 = .ok (.istore_n 2, 1) := by decide +kernel
theorem dX2_burn_4 : decode cX2_burn 4 = .ok (.iload_n 2, 1) := by decide +kernel
theorem dX2_burn_5 : decode cX2_burn 5 = .ok (.aload_n 0, 1) := by decide +kernel
theorem dX2_burn_6 : decode cX2_burn 6 = .ok (.getfield 77, 3) := by decide +kernel
theorem dX2_burn_9 : decode cX2_burn 9 = .ok (.if_icmp .ge 46, 3) := by decide +kernel
theorem dX2_burn_12 : decode cX2_burn 12 = .ok (.aload_n 0, 1) := by decide +kernel
theorem dX2_burn_13 : decode cX2_burn 13 = .ok (.getfield 52, 3) := by decide +kernel
theorem dX2_burn_16 : decode cX2_burn 16 = .ok (.iload_n 2, 1) := by decide +kernel
theorem dX2_burn_17 : decode cX2_burn 17 = .ok (.iconst 0, 1) := by decide +kernel
theorem dX2_burn_18 : decode cX2_burn 18 = .ok (.iastore, 1) := by decide +kernel
theorem dX2_burn_19 : decode cX2_burn 19 = .ok (.aload_n 0, 1) := by decide +kernel
theorem dX2_burn_20 : decode cX2_burn 20 = .ok (.getfield 31, 3) := by decide +kernel
theorem dX2_burn_23 : decode cX2_burn 23 = .ok (.iload_n 2, 1) := by decide +kernel
theorem dX2_burn_24 : decode cX2_burn 24 = .ok (.iaload, 1) := by decide +kernel
theorem dX2_burn_25 : decode cX2_burn 25 = .ok (.iconst 1, 1) := by decide +kernel
theorem dX2_burn_26 : decode cX2_burn 26 = .ok (.if_icmp .ne 23, 3) := by decide +kernel
theorem dX2_burn_29 : decode cX2_burn 29 = .ok (.aload_n 0, 1) := by decide +kernel
theorem dX2_burn_30 : decode cX2_burn 30 = .ok (.getfield 52, 3) := by decide +kernel
theorem dX2_burn_33 : decode cX2_burn 33 = .ok (.iload_n 2, 1) := by decide +kernel
theorem dX2_burn_34 : decode cX2_burn 34 = .ok (.aload_n 0, 1) := by decide +kernel
theorem dX2_burn_35 : decode cX2_burn 35 = .ok (.getfield 28, 3) := by decide +kernel
theorem dX2_burn_38 : decode cX2_burn 38 = .ok (.iload_n 2, 1) := by decide +kernel
theorem dX2_burn_39 : decode cX2_burn 39 = .ok (.iaload, 1) := by decide +kernel
theorem dX2_burn_40 : decode cX2_burn 40 = .ok (.iastore, 1) := by decide +kernel
theorem dX2_burn_41 : decode cX2_burn 41 = .ok (.iload_n 1, 1) := by decide +kernel
theorem dX2_burn_42 : decode cX2_burn 42 = .ok (.aload_n 0, 1) := by decide +kernel
theorem dX2_burn_43 : decode cX2_burn 43 = .ok (.iload_n 2, 1) := by decide +kernel
theorem dX2_burn_44 : decode cX2_burn 44 = .ok (.invokevirtual 134, 3) := by decide +kernel
theorem dX2_burn_47 : decode cX2_burn 47 = .ok (.iadd, 1) := by decide +kernel
theorem dX2_burn_48 : decode cX2_burn 48 = .ok (.istore_n 1, 1) := by decide +kernel
theorem dX2_burn_49 : decode cX2_burn 49 = .ok (.iinc 2 1, 3) := by decide +kernel
theorem dX2_burn_52 : decode cX2_burn 52 = .ok (.goto (-48), 3) := by decide +kernel
theorem dX2_burn_55 : decode cX2_burn 55 = .ok (.aload_n 0, 1) := by decide +kernel
theorem dX2_burn_56 : decode cX2_burn 56 = .ok (.dup, 1) := by decide +kernel
theorem dX2_burn_57 : decode cX2_burn 57 = .ok (.getfield 102, 3) := by decide +kernel
theorem dX2_burn_60 : decode cX2_burn 60 = .ok (.iload_n 1, 1) := by decide +kernel
theorem dX2_burn_61 : decode cX2_burn 61 = .ok (.iadd, 1) := by decide +kernel
theorem dX2_burn_62 : decode cX2_burn 62 = .ok (.putfield 102, 3) := by decide +kernel
theorem dX2_burn_65 : decode cX2_burn 65 = .ok (.iload_n 1, 1) := by decide +kernel
theorem dX2_burn_66 : decode cX2_burn 66 = .ok (.ireturn, 1) := by decide +kernel
set_option maxRecDepth 20000 in
theorem ggX2_burnCell_X2_turnToCoal : GoodIn wsX2_burnCell wsX2_turnToCoal := goodIn_r _ [15, 8, 16, 17, 1, 18, 19, 20, 5, 21, 22, 9, 2, 28, 29, 30, 31, 32, 33, 34, 35, 36, 37, 38, 39, 40, 41, 42, 43, 44, 45, 46] (by decide +kernel) (by decide +kernel)
set_option maxRecDepth 20000 in
theorem gX2_burnCell_X2_turnToCoal : GoodIn wsX2_burnCell (wsV RX2 137 RX2 yX2_turnToCoal wsX2_turnToCoal) := goodIn_app (goodIn_of _ (by decide +kernel)) ggX2_burnCell_X2_turnToCoal
set_option maxRecDepth 20000 in
theorem ggX2_burnCell_X2_turnToAsh : GoodIn wsX2_burnCell wsX2_turnToAsh := goodIn_r _ [26, 1, 9, 18, 19, 20, 5, 21, 27, 28, 29, 30, 31, 32, 33, 34, 35, 36, 37, 38, 39, 40, 41, 42, 43, 44, 45, 46] (by decide +kernel) (by decide +kernel)
set_option maxRecDepth 20000 in
theorem gX2_burnCell_X2_turnToAsh : GoodIn wsX2_burnCell (wsV RX2 140 RX2 yX2_turnToAsh wsX2_turnToAsh) := goodIn_app (goodIn_of _ (by decide +kernel)) ggX2_burnCell_X2_turnToAsh
theorem dX2_burnCell_0 : decode cX2_burnCell 0 = .ok (.iconst 0, 1) := by decide +kernel
theorem dX2_burnCell_1 : decode cX2_burnCell 1 = .ok (.istore_n 2, 1) := by decide +kernel
theorem dX2_burnCell_2 : decode cX2_burnCell 2 = .ok (.aload_n 0, 1) := by decide +kernel
theorem dX2_burnCell_3 : decode cX2_burnCell 3 = .ok (.getfield 37, 3) := by decide +kernel
theorem dX2_burnCell_6 : decode cX2_burnCell 6 = .ok (.iload_n 1, 1) := by decide +kernel
theorem dX2_burnCell_7 : decode cX2_burnCell 7 = .ok (.iaload, 1) := by decide +kernel
theorem dX2_burnCell_8 : decode cX2_burnCell 8 = .ok (.ifCond .ne 25, 3) := by decide +kernel
theorem dX2_burnCell_11 : decode cX2_burnCell 11 = .ok (.aload_n 0, 1) := by decide +kernel
theorem dX2_burnCell_12 : decode cX2_burnCell 12 = .ok (.getfield 28, 3) := by decide +kernel
theorem dX2_burnCell_15 : decode cX2_burnCell 15 = .ok (.iload_n 1, 1) := by decide +kernel
theorem dX2_burnCell_16 : decode cX2_burnCell 16 = .ok (.iconst 0, 1) := by decide +kernel
theorem dX2_burnCell_17 : decode cX2_burnCell 17 = .ok (.aload_n 0, 1) := by decide +kernel
theorem dX2_burnCell_18 : decode cX2_burnCell 18 = .ok (.getfield 28, 3) := by decide +kernel
theorem dX2_burnCell_21 : decode cX2_burnCell 21 = .ok (.iload_n 1, 1) := by decide +kernel
theorem dX2_burnCell_22 : decode cX2_burnCell 22 = .ok (.iaload, 1) := by decide +kernel
theorem dX2_burnCell_23 : decode cX2_burnCell 23 = .ok (.bipush 50, 2) := by decide +kernel
theorem dX2_burnCell_25 : decode cX2_burnCell 25 = .ok (.isub, 1) := by decide +kernel
theorem dX2_burnCell_26 : decode cX2_burnCell 26 = .ok (.invokestatic 129, 3) := by decide +kernel
theorem dX2_burnCell_29 : decode cX2_burnCell 29 = .ok (.iastore, 1) := by decide +kernel
theorem dX2_burnCell_30 : decode cX2_burnCell 30 = .ok (.goto 52, 3) := by decide +kernel
theorem dX2_burnCell_33 : decode cX2_burnCell 33 = .ok (.aload_n 0, 1) := by decide +kernel
theorem dX2_burnCell_34 : decode cX2_burnCell 34 = .ok (.getfield 25, 3) := by decide +kernel
theorem dX2_burnCell_37 : decode cX2_burnCell 37 = .ok (.iload_n 1, 1) := by decide +kernel
theorem dX2_burnCell_38 : decode cX2_burnCell 38 = .ok (.iaload, 1) := by decide +kernel
theorem dX2_burnCell_39 : decode cX2_burnCell 39 = .ok (.ifCond .le 32, 3) := by decide +kernel
theorem dX2_burnCell_42 : decode cX2_burnCell 42 = .ok (.aload_n 0, 1) := by decide +kernel
theorem dX2_burnCell_43 : decode cX2_burnCell 43 = .ok (.getfield 25, 3) := by decide +kernel
theorem dX2_burnCell_46 : decode cX2_burnCell 46 = .ok (.iload_n 1, 1) := by decide +kernel
theorem dX2_burnCell_47 : decode cX2_burnCell 47 = .ok (.iconst 0, 1) := by decide +kernel
theorem dX2_burnCell_48 : decode cX2_burnCell 48 = .ok (.aload_n 0, 1) := by decide +kernel
theorem dX2_burnCell_49 : decode cX2_burnCell 49 = .ok (.getfield 25, 3) := by decide +kernel
theorem dX2_burnCell_52 : decode cX2_burnCell 52 = .ok (.iload_n 1, 1) := by decide +kernel
theorem dX2_burnCell_53 : decode cX2_burnCell 53 = .ok (.iaload, 1) := by decide +kernel
theorem dX2_burnCell_54 : decode cX2_burnCell 54 = .ok (.bipush 10, 2) := by decide +kernel
theorem dX2_burnCell_56 : decode cX2_burnCell 56 = .ok (.aload_n 0, 1) := by decide +kernel
theorem dX2_burnCell_57 : decode cX2_burnCell 57 = .ok (.getfield 37, 3) := by decide +kernel
theorem dX2_burnCell_60 : decode cX2_burnCell 60 = .ok (.iload_n 1, 1) := by decide +kernel
theorem dX2_burnCell_61 : decode cX2_burnCell 61 = .ok (.iaload, 1) := by decide +kernel
theorem dX2_burnCell_62 : decode cX2_burnCell 62 = .ok (.imul, 1) := by decide +kernel
theorem dX2_burnCell_63 : decode cX2_burnCell 63 = .ok (.isub, 1) := by decide +kernel
theorem dX2_burnCell_64 : decode cX2_burnCell 64 = .ok (.invokestatic 129, 3) := by decide +kernel
theorem dX2_burnCell_67 : decode cX2_burnCell 67 = .ok (.iastore, 1) := by decide +kernel
theorem dX2_burnCell_68 : decode cX2_burnCell 68 = .ok (.goto 14, 3) := by decide +kernel
theorem dX2_burnCell_71 : decode cX2_burnCell 71 = .ok (.aload_n 0, 1) := by decide +kernel
theorem dX2_burnCell_72 : decode cX2_burnCell 72 = .ok (.iload_n 1, 1) := by decide +kernel
theorem dX2_burnCell_73 : decode cX2_burnCell 73 = .ok (.invokevirtual 137, 3) := by decide +kernel
theorem dX2_burnCell_76 : decode cX2_burnCell 76 = .ok (.istore_n 2, 1) := by decide +kernel
theorem dX2_burnCell_77 : decode cX2_burnCell 77 = .ok (.aload_n 0, 1) := by decide +kernel
theorem dX2_burnCell_78 : decode cX2_burnCell 78 = .ok (.iload_n 1, 1) := by decide +kernel
theorem dX2_burnCell_79 : decode cX2_burnCell 79 = .ok (.invokevirtual 140, 3) := by decide +kernel
theorem dX2_burnCell_82 : decode cX2_burnCell 82 = .ok (.aload_n 0, 1) := by decide +kernel
theorem dX2_burnCell_83 : decode cX2_burnCell 83 = .ok (.getfield 28, 3) := by decide +kernel
theorem dX2_burnCell_86 : decode cX2_burnCell 86 = .ok (.iload_n 1, 1) := by decide +kernel
theorem dX2_burnCell_87 : decode cX2_burnCell 87 = .ok (.iaload, 1) := by decide +kernel
theorem dX2_burnCell_88 : decode cX2_burnCell 88 = .ok (.ifCond .eq 21, 3) := by decide +kernel
theorem dX2_burnCell_91 : decode cX2_burnCell 91 = .ok (.aload_n 0, 1) := by decide +kernel
theorem dX2_burnCell_92 : decode cX2_burnCell 92 = .ok (.getfield 19, 3) := by decide +kernel
theorem dX2_burnCell_95 : decode cX2_burnCell 95 = .ok (.iload_n 1, 1) := by decide +kernel
theorem dX2_burnCell_96 : decode cX2_burnCell 96 = .ok (.iaload, 1) := by decide +kernel
theorem dX2_burnCell_97 : decode cX2_burnCell 97 = .ok (.ifCond .ne 19, 3) := by decide +kernel
theorem dX2_burnCell_100 : decode cX2_burnCell 100 = .ok (.aload_n 0, 1) := by decide +kernel
theorem dX2_burnCell_101 : decode cX2_burnCell 101 = .ok (.getfield 22, 3) := by decide +kernel
theorem dX2_burnCell_104 : decode cX2_burnCell 104 = .ok (.iload_n 1, 1) := by decide +kernel
theorem dX2_burnCell_105 : decode cX2_burnCell 105 = .ok (.iaload, 1) := by decide +kernel
theorem dX2_burnCell_106 : decode cX2_burnCell 106 = .ok (.ifCond .ne 10, 3) := by decide +kernel
theorem dX2_burnCell_109 : decode cX2_burnCell 109 = .ok (.aload_n 0, 1) := by decide +kernel
theorem dX2_burnCell_110 : decode cX2_burnCell 110 = .ok (.getfield 31, 3) := by decide +kernel
theorem dX2_burnCell_113 : decode cX2_burnCell 113 = .ok (.iload_n 1, 1) := by decide +kernel
theorem dX2_burnCell_114 : decode cX2_burnCell 114 = .ok (.iconst 0, 1) := by decide +kernel
theorem dX2_burnCell_115 : decode cX2_burnCell 115 = .ok (.iastore, 1) := by decide +kernel
theorem dX2_burnCell_116 : decode cX2_burnCell 116 = .ok (.iload_n 2, 1) := by decide +kernel
theorem dX2_burnCell_117 : decode cX2_burnCell 117 = .ok (.ireturn, 1) := by decide +kernel
theorem dX2_turnToCoal_0 : decode cX2_turnToCoal 0 = .ok (.aload_n 0, 1) := by decide +kernel
theorem dX2_turnToCoal_1 : decode cX2_turnToCoal 1 = .ok (.getfield 19, 3) := by decide +kernel
theorem dX2_turnToCoal_4 : decode cX2_turnToCoal 4 = .ok (.iload_n 1, 1) := by decide +kernel
theorem dX2_turnToCoal_5 : decode cX2_turnToCoal 5 = .ok (.iaload, 1) := by decide +kernel
theorem dX2_turnToCoal_6 : decode cX2_turnToCoal 6 = .ok (.getstatic 144, 3) := by decide +kernel
theorem dX2_turnToCoal_9 : decode cX2_turnToCoal 9 = .ok (.aload_n 0, 1) := by decide +kernel
theorem dX2_turnToCoal_10 : decode cX2_turnToCoal 10 = .ok (.getfield 43, 3) := by decide +kernel
theorem dX2_turnToCoal_13 : decode cX2_turnToCoal 13 = .ok (.iload_n 1, 1) := by decide +kernel
theorem dX2_turnToCoal_14 : decode cX2_turnToCoal 14 = .ok (.iaload, 1) := by decide +kernel
theorem dX2_turnToCoal_15 : decode cX2_turnToCoal 15 = .ok (.iaload, 1) := by decide +kernel
theorem dX2_turnToCoal_16 : decode cX2_turnToCoal 16 = .ok (.aload_n 0, 1) := by decide +kernel
theorem dX2_turnToCoal_17 : decode cX2_turnToCoal 17 = .ok (.getfield 37, 3) := by decide +kernel
theorem dX2_turnToCoal_20 : decode cX2_turnToCoal 20 = .ok (.iload_n 1, 1) := by decide +kernel
theorem dX2_turnToCoal_21 : decode cX2_turnToCoal 21 = .ok (.iaload, 1) := by decide +kernel
theorem dX2_turnToCoal_22 : decode cX2_turnToCoal 22 = .ok (.imul, 1) := by decide +kernel
theorem dX2_turnToCoal_23 : decode cX2_turnToCoal 23 = .ok (.aload_n 0, 1) := by decide +kernel
theorem dX2_turnToCoal_24 : decode cX2_turnToCoal 24 = .ok (.getfield 11, 3) := by decide +kernel
theorem dX2_turnToCoal_27 : decode cX2_turnToCoal 27 = .ok (.iload_n 1, 1) := by decide +kernel
theorem dX2_turnToCoal_28 : decode cX2_turnToCoal 28 = .ok (.iaload, 1) := by decide +kernel
theorem dX2_turnToCoal_29 : decode cX2_turnToCoal 29 = .ok (.imul, 1) := by decide +kernel
theorem dX2_turnToCoal_30 : decode cX2_turnToCoal 30 = .ok (.invokestatic 147, 3) := by decide +kernel
theorem dX2_turnToCoal_33 : decode cX2_turnToCoal 33 = .ok (.istore_n 2, 1) := by decide +kernel
theorem dX2_turnToCoal_34 : decode cX2_turnToCoal 34 = .ok (.iload_n 2, 1) := by decide +kernel
theorem dX2_turnToCoal_35 : decode cX2_turnToCoal 35 = .ok (.getstatic 150, 3) := by decide +kernel
theorem dX2_turnToCoal_38 : decode cX2_turnToCoal 38 = .ok (.aload_n 0, 1) := by decide +kernel
theorem dX2_turnToCoal_39 : decode cX2_turnToCoal 39 = .ok (.getfield 43, 3) := by decide +kernel
theorem dX2_turnToCoal_42 : decode cX2_turnToCoal 42 = .ok (.iload_n 1, 1) := by decide +kernel
theorem dX2_turnToCoal_43 : decode cX2_turnToCoal 43 = .ok (.iaload, 1) := by decide +kernel
theorem dX2_turnToCoal_44 : decode cX2_turnToCoal 44 = .ok (.iaload, 1) := by decide +kernel
theorem dX2_turnToCoal_45 : decode cX2_turnToCoal 45 = .ok (.imul, 1) := by decide +kernel
theorem dX2_turnToCoal_46 : decode cX2_turnToCoal 46 = .ok (.bipush 100, 2) := by decide +kernel
theorem dX2_turnToCoal_48 : decode cX2_turnToCoal 48 = .ok (.idiv, 1) := by decide +kernel
theorem dX2_turnToCoal_49 : decode cX2_turnToCoal 49 = .ok (.istore_n 3, 1) := by decide +kernel
theorem dX2_turnToCoal_50 : decode cX2_turnToCoal 50 = .ok (.aload_n 0, 1) := by decide +kernel
theorem dX2_turnToCoal_51 : decode cX2_turnToCoal 51 = .ok (.getfield 19, 3) := by decide +kernel
theorem dX2_turnToCoal_54 : decode cX2_turnToCoal 54 = .ok (.iload_n 1, 1) := by decide +kernel
theorem dX2_turnToCoal_55 : decode cX2_turnToCoal 55 = .ok (.dup2, 1) := by decide +kernel
theorem dX2_turnToCoal_56 : decode cX2_turnToCoal 56 = .ok (.iaload, 1) := by decide +kernel
theorem dX2_turnToCoal_57 : decode cX2_turnToCoal 57 = .ok (.iload_n 2, 1) := by decide +kernel
theorem dX2_turnToCoal_58 : decode cX2_turnToCoal 58 = .ok (.isub, 1) := by decide +kernel
theorem dX2_turnToCoal_59 : decode cX2_turnToCoal 59 = .ok (.iastore, 1) := by decide +kernel
theorem dX2_turnToCoal_60 : decode cX2_turnToCoal 60 = .ok (.aload_n 0, 1) := by decide +kernel
theorem dX2_turnToCoal_61 : decode cX2_turnToCoal 61 = .ok (.getfield 22, 3) := by decide +kernel
theorem dX2_turnToCoal_64 : decode cX2_turnToCoal 64 = .ok (.iload_n 1, 1) := by decide +kernel
theorem dX2_turnToCoal_65 : decode cX2_turnToCoal 65 = .ok (.dup2, 1) := by decide +kernel
theorem dX2_turnToCoal_66 : decode cX2_turnToCoal 66 = .ok (.iaload, 1) := by decide +kernel
theorem dX2_turnToCoal_67 : decode cX2_turnToCoal 67 = .ok (.iload_n 3, 1) := by decide +kernel
theorem dX2_turnToCoal_68 : decode cX2_turnToCoal 68 = .ok (.iadd, 1) := by decide +kernel
theorem dX2_turnToCoal_69 : decode cX2_turnToCoal 69 = .ok (.iastore, 1) := by decide +kernel
theorem dX2_turnToCoal_70 : decode cX2_turnToCoal 70 = .ok (.aload_n 0, 1) := by decide +kernel
theorem dX2_turnToCoal_71 : decode cX2_turnToCoal 71 = .ok (.getfield 28, 3) := by decide +kernel
theorem dX2_turnToCoal_74 : decode cX2_turnToCoal 74 = .ok (.iload_n 1, 1) := by decide +kernel
theorem dX2_turnToCoal_75 : decode cX2_turnToCoal 75 = .ok (.sipush 1000, 3) := by decide +kernel
theorem dX2_turnToCoal_78 : decode cX2_turnToCoal 78 = .ok (.aload_n 0, 1) := by decide +kernel
theorem dX2_turnToCoal_79 : decode cX2_turnToCoal 79 = .ok (.getfield 28, 3) := by decide +kernel
theorem dX2_turnToCoal_82 : decode cX2_turnToCoal 82 = .ok (.iload_n 1, 1) := by decide +kernel
theorem dX2_turnToCoal_83 : decode cX2_turnToCoal 83 = .ok (.iaload, 1) := by decide +kernel
theorem dX2_turnToCoal_84 : decode cX2_turnToCoal 84 = .ok (.bipush 40, 2) := by decide +kernel
theorem dX2_turnToCoal_86 : decode cX2_turnToCoal 86 = .ok (.aload_n 0, 1) := by decide +kernel
theorem dX2_turnToCoal_87 : decode cX2_turnToCoal 87 = .ok (.getfield 37, 3) := by decide +kernel
theorem dX2_turnToCoal_90 : decode cX2_turnToCoal 90 = .ok (.iload_n 1, 1) := by decide +kernel
theorem dX2_turnToCoal_91 : decode cX2_turnToCoal 91 = .ok (.iaload, 1) := by decide +kernel
theorem dX2_turnToCoal_92 : decode cX2_turnToCoal 92 = .ok (.imul, 1) := by decide +kernel
theorem dX2_turnToCoal_93 : decode cX2_turnToCoal 93 = .ok (.iadd, 1) := by decide +kernel
theorem dX2_turnToCoal_94 : decode cX2_turnToCoal 94 = .ok (.invokestatic 147, 3) := by decide +kernel
theorem dX2_turnToCoal_97 : decode cX2_turnToCoal 97 = .ok (.iastore, 1) := by decide +kernel
theorem dX2_turnToCoal_98 : decode cX2_turnToCoal 98 = .ok (.iload_n 2, 1) := by decide +kernel
theorem dX2_turnToCoal_99 : decode cX2_turnToCoal 99 = .ok (.iload_n 3, 1) := by decide +kernel
theorem dX2_turnToCoal_100 : decode cX2_turnToCoal 100 = .ok (.isub, 1) := by decide +kernel
theorem dX2_turnToCoal_101 : decode cX2_turnToCoal 101 = .ok (.ireturn, 1) := by decide +kernel
theorem dX2_turnToAsh_0 : decode cX2_turnToAsh 0 = .ok (.aload_n 0, 1) := by decide +kernel
theorem dX2_turnToAsh_1 : decode cX2_turnToAsh 1 = .ok (.getfield 37, 3) := by decide +kernel
theorem dX2_turnToAsh_4 : decode cX2_turnToAsh 4 = .ok (.iload_n 1, 1) := by decide +kernel
theorem dX2_turnToAsh_5 : decode cX2_turnToAsh 5 = .ok (.iaload, 1) := by decide +kernel
theorem dX2_turnToAsh_6 : decode cX2_turnToAsh 6 = .ok (.iconst 3, 1) := by decide +kernel
theorem dX2_turnToAsh_7 : decode cX2_turnToAsh 7 = .ok (.if_icmp .le 50, 3) := by decide +kernel
theorem dX2_turnToAsh_10 : decode cX2_turnToAsh 10 = .ok (.aload_n 0, 1) := by decide +kernel
theorem dX2_turnToAsh_11 : decode cX2_turnToAsh 11 = .ok (.getfield 22, 3) := by decide +kernel
theorem dX2_turnToAsh_14 : decode cX2_turnToAsh 14 = .ok (.iload_n 1, 1) := by decide +kernel
theorem dX2_turnToAsh_15 : decode cX2_turnToAsh 15 = .ok (.iaload, 1) := by decide +kernel
theorem dX2_turnToAsh_16 : decode cX2_turnToAsh 16 = .ok (.iconst 5, 1) := by decide +kernel
theorem dX2_turnToAsh_17 : decode cX2_turnToAsh 17 = .ok (.aload_n 0, 1) := by decide +kernel
theorem dX2_turnToAsh_18 : decode cX2_turnToAsh 18 = .ok (.getfield 11, 3) := by decide +kernel
theorem dX2_turnToAsh_21 : decode cX2_turnToAsh 21 = .ok (.iload_n 1, 1) := by decide +kernel
theorem dX2_turnToAsh_22 : decode cX2_turnToAsh 22 = .ok (.iaload, 1) := by decide +kernel
theorem dX2_turnToAsh_23 : decode cX2_turnToAsh 23 = .ok (.imul, 1) := by decide +kernel
theorem dX2_turnToAsh_24 : decode cX2_turnToAsh 24 = .ok (.aload_n 0, 1) := by decide +kernel
theorem dX2_turnToAsh_25 : decode cX2_turnToAsh 25 = .ok (.getfield 37, 3) := by decide +kernel
theorem dX2_turnToAsh_28 : decode cX2_turnToAsh 28 = .ok (.iload_n 1, 1) := by decide +kernel
theorem dX2_turnToAsh_29 : decode cX2_turnToAsh 29 = .ok (.iaload, 1) := by decide +kernel
theorem dX2_turnToAsh_30 : decode cX2_turnToAsh 30 = .ok (.iconst 3, 1) := by decide +kernel
theorem dX2_turnToAsh_31 : decode cX2_turnToAsh 31 = .ok (.isub, 1) := by decide +kernel
theorem dX2_turnToAsh_32 : decode cX2_turnToAsh 32 = .ok (.imul, 1) := by decide +kernel
theorem dX2_turnToAsh_33 : decode cX2_turnToAsh 33 = .ok (.invokestatic 147, 3) := by decide +kernel
theorem dX2_turnToAsh_36 : decode cX2_turnToAsh 36 = .ok (.istore_n 2, 1) := by decide +kernel
theorem dX2_turnToAsh_37 : decode cX2_turnToAsh 37 = .ok (.aload_n 0, 1) := by decide +kernel
theorem dX2_turnToAsh_38 : decode cX2_turnToAsh 38 = .ok (.getfield 22, 3) := by decide +kernel
theorem dX2_turnToAsh_41 : decode cX2_turnToAsh 41 = .ok (.iload_n 1, 1) := by decide +kernel
theorem dX2_turnToAsh_42 : decode cX2_turnToAsh 42 = .ok (.dup2, 1) := by decide +kernel
theorem dX2_turnToAsh_43 : decode cX2_turnToAsh 43 = .ok (.iaload, 1) := by decide +kernel
theorem dX2_turnToAsh_44 : decode cX2_turnToAsh 44 = .ok (.iload_n 2, 1) := by decide +kernel
theorem dX2_turnToAsh_45 : decode cX2_turnToAsh 45 = .ok (.isub, 1) := by decide +kernel
theorem dX2_turnToAsh_46 : decode cX2_turnToAsh 46 = .ok (.iastore, 1) := by decide +kernel
theorem dX2_turnToAsh_47 : decode cX2_turnToAsh 47 = .ok (.aload_n 0, 1) := by decide +kernel
theorem dX2_turnToAsh_48 : decode cX2_turnToAsh 48 = .ok (.dup, 1) := by decide +kernel
theorem dX2_turnToAsh_49 : decode cX2_turnToAsh 49 = .ok (.getfield 105, 3) := by decide +kernel
theorem dX2_turnToAsh_52 : decode cX2_turnToAsh 52 = .ok (.iload_n 2, 1) := by decide +kernel
theorem dX2_turnToAsh_53 : decode cX2_turnToAsh 53 = .ok (.iadd, 1) := by decide +kernel
theorem dX2_turnToAsh_54 : decode cX2_turnToAsh 54 = .ok (.putfield 105, 3) := by decide +kernel
theorem dX2_turnToAsh_57 : decode cX2_turnToAsh 57 = .ok (.return_, 1) := by decide +kernel
set_option maxRecDepth 20000 in
theorem ggX2_warm_X2_at : GoodIn wsX2_warm wsX2_at := goodIn_r _ [16, 2, 21, 22, 23, 24, 25, 26, 27, 28, 29, 30, 31, 32, 33, 34, 35, 36, 37, 38, 39] (by decide +kernel) (by decide +kernel)
set_option maxRecDepth 20000 in
theorem gX2_warm_X2_at : GoodIn wsX2_warm (wsV RX2 73 RX2 yX2_at wsX2_at) := goodIn_app (goodIn_of _ (by decide +kernel)) ggX2_warm_X2_at
set_option maxRecDepth 20000 in
theorem ggX2_warm_X2_glowAround : GoodIn wsX2_warm wsX2_glowAround := goodIn_r _ [20, 3, 2, 1, 12, 13, 14, 15, 16, 21, 22, 23, 24, 25, 26, 27, 28, 29, 30, 31, 32, 33, 34, 35, 36, 37, 38, 39] (by decide +kernel) (by decide +kernel)
set_option maxRecDepth 20000 in
theorem gX2_warm_X2_glowAround : GoodIn wsX2_warm (wsV RX2 153 RX2 yX2_glowAround wsX2_glowAround) := goodIn_app (goodIn_of _ (by decide +kernel)) ggX2_warm_X2_glowAround
theorem dX2_warm_0 : decode cX2_warm 0 = .ok (.iconst 0, 1) := by decide +kernel
theorem dX2_warm_1 : decode cX2_warm 1 = .ok (.istore_n 1, 1) := by decide +kernel
theorem dX2_warm_2 : decode cX2_warm 2 = .ok (.iload_n 1, 1) := by decide +kernel
theorem dX2_warm_3 : decode cX2_warm 3 = .ok (.aload_n 0, 1) := by decide +kernel
theorem dX2_warm_4 : decode cX2_warm 4 = .ok (.getfield 62, 3) := by decide +kernel
theorem dX2_warm_7 : decode cX2_warm 7 = .ok (.if_icmp .ge 110, 3) := by decide +kernel
theorem dX2_warm_10 : decode cX2_warm 10 = .ok (.iconst 0, 1) := by decide +kernel
theorem dX2_warm_11 : decode cX2_warm 11 = .ok (.istore_n 2, 1) := by decide +kernel
theorem dX2_warm_12 : decode cX2_warm 12 = .ok (.iload_n 2, 1) := by decide +kernel
theorem dX2_warm_13 : decode cX2_warm 13 = .ok (.aload_n 0, 1) := by decide +kernel
theorem dX2_warm_14 : decode cX2_warm 14 = .ok (.getfield 66, 3) := by decide +kernel
theorem dX2_warm_17 : decode cX2_warm 17 = .ok (.if_icmp .ge 94, 3) := by decide +kernel
theorem dX2_warm_20 : decode cX2_warm 20 = .ok (.aload_n 0, 1) := by decide +kernel
theorem dX2_warm_21 : decode cX2_warm 21 = .ok (.iload_n 1, 1) := by decide +kernel
theorem dX2_warm_22 : decode cX2_warm 22 = .ok (.iload_n 2, 1) := by decide +kernel
theorem dX2_warm_23 : decode cX2_warm 23 = .ok (.invokevirtual 73, 3) := by decide +kernel
theorem dX2_warm_26 : decode cX2_warm 26 = .ok (.istore_n 3, 1) := by decide +kernel
theorem dX2_warm_27 : decode cX2_warm 27 = .ok (.aload_n 0, 1) := by decide +kernel
theorem dX2_warm_28 : decode cX2_warm 28 = .ok (.getfield 52, 3) := by decide +kernel
theorem dX2_warm_31 : decode cX2_warm 31 = .ok (.iload_n 3, 1) := by decide +kernel
theorem dX2_warm_32 : decode cX2_warm 32 = .ok (.iaload, 1) := by decide +kernel
theorem dX2_warm_33 : decode cX2_warm 33 = .ok (.ifCond .ne 72, 3) := by decide +kernel
theorem dX2_warm_36 : decode cX2_warm 36 = .ok (.aload_n 0, 1) := by decide +kernel
theorem dX2_warm_37 : decode cX2_warm 37 = .ok (.getfield 19, 3) := by decide +kernel
theorem dX2_warm_40 : decode cX2_warm 40 = .ok (.iload_n 3, 1) := by decide +kernel
theorem dX2_warm_41 : decode cX2_warm 41 = .ok (.iaload, 1) := by decide +kernel
theorem dX2_warm_42 : decode cX2_warm 42 = .ok (.ifCond .gt 12, 3) := by decide +kernel
theorem dX2_warm_45 : decode cX2_warm 45 = .ok (.aload_n 0, 1) := by decide +kernel
theorem dX2_warm_46 : decode cX2_warm 46 = .ok (.getfield 22, 3) := by decide +kernel
theorem dX2_warm_49 : decode cX2_warm 49 = .ok (.iload_n 3, 1) := by decide +kernel
theorem dX2_warm_50 : decode cX2_warm 50 = .ok (.iaload, 1) := by decide +kernel
theorem dX2_warm_51 : decode cX2_warm 51 = .ok (.ifCond .le 54, 3) := by decide +kernel
theorem dX2_warm_54 : decode cX2_warm 54 = .ok (.aload_n 0, 1) := by decide +kernel
theorem dX2_warm_55 : decode cX2_warm 55 = .ok (.getfield 28, 3) := by decide +kernel
theorem dX2_warm_58 : decode cX2_warm 58 = .ok (.iload_n 3, 1) := by decide +kernel
theorem dX2_warm_59 : decode cX2_warm 59 = .ok (.sipush 1000, 3) := by decide +kernel
theorem dX2_warm_62 : decode cX2_warm 62 = .ok (.aload_n 0, 1) := by decide +kernel
theorem dX2_warm_63 : decode cX2_warm 63 = .ok (.getfield 28, 3) := by decide +kernel
theorem dX2_warm_66 : decode cX2_warm 66 = .ok (.iload_n 3, 1) := by decide +kernel
theorem dX2_warm_67 : decode cX2_warm 67 = .ok (.iaload, 1) := by decide +kernel
theorem dX2_warm_68 : decode cX2_warm 68 = .ok (.aload_n 0, 1) := by decide +kernel
theorem dX2_warm_69 : decode cX2_warm 69 = .ok (.iload_n 1, 1) := by decide +kernel
theorem dX2_warm_70 : decode cX2_warm 70 = .ok (.iload_n 2, 1) := by decide +kernel
theorem dX2_warm_71 : decode cX2_warm 71 = .ok (.invokevirtual 153, 3) := by decide +kernel
theorem dX2_warm_74 : decode cX2_warm 74 = .ok (.bipush 20, 2) := by decide +kernel
theorem dX2_warm_76 : decode cX2_warm 76 = .ok (.idiv, 1) := by decide +kernel
theorem dX2_warm_77 : decode cX2_warm 77 = .ok (.iadd, 1) := by decide +kernel
theorem dX2_warm_78 : decode cX2_warm 78 = .ok (.invokestatic 147, 3) := by decide +kernel
theorem dX2_warm_81 : decode cX2_warm 81 = .ok (.iastore, 1) := by decide +kernel
theorem dX2_warm_82 : decode cX2_warm 82 = .ok (.aload_n 0, 1) := by decide +kernel
theorem dX2_warm_83 : decode cX2_warm 83 = .ok (.getfield 31, 3) := by decide +kernel
theorem dX2_warm_86 : decode cX2_warm 86 = .ok (.iload_n 3, 1) := by decide +kernel
theorem dX2_warm_87 : decode cX2_warm 87 = .ok (.aload_n 0, 1) := by decide +kernel
theorem dX2_warm_88 : decode cX2_warm 88 = .ok (.getfield 28, 3) := by decide +kernel
theorem dX2_warm_91 : decode cX2_warm 91 = .ok (.iload_n 3, 1) := by decide +kernel
theorem dX2_warm_92 : decode cX2_warm 92 = .ok (.iaload, 1) := by decide +kernel
theorem dX2_warm_93 : decode cX2_warm 93 = .ok (.sipush 300, 3) := by decide +kernel
theorem dX2_warm_96 : decode cX2_warm 96 = .ok (.if_icmp .lt 7, 3) := by decide +kernel
theorem dX2_warm_99 : decode cX2_warm 99 = .ok (.iconst 1, 1) := by decide +kernel
theorem dX2_warm_100 : decode cX2_warm 100 = .ok (.goto 4, 3) := by decide +kernel
theorem dX2_warm_103 : decode cX2_warm 103 = .ok (.iconst 0, 1) := by decide +kernel
theorem dX2_warm_104 : decode cX2_warm 104 = .ok (.iastore, 1) := by decide +kernel
theorem dX2_warm_105 : decode cX2_warm 105 = .ok (.iinc 2 1, 3) := by decide +kernel
theorem dX2_warm_108 : decode cX2_warm 108 = .ok (.goto (-96), 3) := by decide +kernel
theorem dX2_warm_111 : decode cX2_warm 111 = .ok (.iinc 1 1, 3) := by decide +kernel
theorem dX2_warm_114 : decode cX2_warm 114 = .ok (.goto (-112), 3) := by decide +kernel
theorem dX2_warm_117 : decode cX2_warm 117 = .ok (.return_, 1) := by decide +kernel
set_option maxRecDepth 20000 in
theorem ggX2_glowAround_X2_at : GoodIn wsX2_glowAround wsX2_at := goodIn_r _ [8, 2, 9, 10, 11, 12, 13, 14, 15, 16, 17, 18, 19, 20, 21, 22, 23, 24, 25, 26, 27] (by decide +kernel) (by decide +kernel)
set_option maxRecDepth 20000 in
theorem gX2_glowAround_X2_at : GoodIn wsX2_glowAround (wsV RX2 73 RX2 yX2_at wsX2_at) := goodIn_app (goodIn_of _ (by decide +kernel)) ggX2_glowAround_X2_at
theorem dX2_glowAround_0 : decode cX2_glowAround 0 = .ok (.aload_n 0, 1) := by decide +kernel
theorem dX2_glowAround_1 : decode cX2_glowAround 1 = .ok (.iload_n 1, 1) := by decide +kernel
theorem dX2_glowAround_2 : decode cX2_glowAround 2 = .ok (.iload_n 2, 1) := by decide +kernel
theorem dX2_glowAround_3 : decode cX2_glowAround 3 = .ok (.invokevirtual 73, 3) := by decide +kernel
theorem dX2_glowAround_6 : decode cX2_glowAround 6 = .ok (.istore_n 3, 1) := by decide +kernel
theorem dX2_glowAround_7 : decode cX2_glowAround 7 = .ok (.iload_n 2, 1) := by decide +kernel
theorem dX2_glowAround_8 : decode cX2_glowAround 8 = .ok (.ifCond .le 14, 3) := by decide +kernel
theorem dX2_glowAround_11 : decode cX2_glowAround 11 = .ok (.aload_n 0, 1) := by decide +kernel
theorem dX2_glowAround_12 : decode cX2_glowAround 12 = .ok (.getfield 52, 3) := by decide +kernel
theorem dX2_glowAround_15 : decode cX2_glowAround 15 = .ok (.iload_n 3, 1) := by decide +kernel
theorem dX2_glowAround_16 : decode cX2_glowAround 16 = .ok (.iconst 1, 1) := by decide +kernel
theorem dX2_glowAround_17 : decode cX2_glowAround 17 = .ok (.isub, 1) := by decide +kernel
theorem dX2_glowAround_18 : decode cX2_glowAround 18 = .ok (.iaload, 1) := by decide +kernel
theorem dX2_glowAround_19 : decode cX2_glowAround 19 = .ok (.goto 4, 3) := by decide +kernel
theorem dX2_glowAround_22 : decode cX2_glowAround 22 = .ok (.iconst 0, 1) := by decide +kernel
theorem dX2_glowAround_23 : decode cX2_glowAround 23 = .ok (.istore 4, 2) := by decide +kernel
theorem dX2_glowAround_25 : decode cX2_glowAround 25 = .ok (.iload_n 2, 1) := by decide +kernel
theorem dX2_glowAround_26 : decode cX2_glowAround 26 = .ok (.aload_n 0, 1) := by decide +kernel
theorem dX2_glowAround_27 : decode cX2_glowAround 27 = .ok (.getfield 66, 3) := by decide +kernel
theorem dX2_glowAround_30 : decode cX2_glowAround 30 = .ok (.iconst 1, 1) := by decide +kernel
theorem dX2_glowAround_31 : decode cX2_glowAround 31 = .ok (.isub, 1) := by decide +kernel
theorem dX2_glowAround_32 : decode cX2_glowAround 32 = .ok (.if_icmp .ge 14, 3) := by decide +kernel
theorem dX2_glowAround_35 : decode cX2_glowAround 35 = .ok (.aload_n 0, 1) := by decide +kernel
theorem dX2_glowAround_36 : decode cX2_glowAround 36 = .ok (.getfield 52, 3) := by decide +kernel
theorem dX2_glowAround_39 : decode cX2_glowAround 39 = .ok (.iload_n 3, 1) := by decide +kernel
theorem dX2_glowAround_40 : decode cX2_glowAround 40 = .ok (.iconst 1, 1) := by decide +kernel
theorem dX2_glowAround_41 : decode cX2_glowAround 41 = .ok (.iadd, 1) := by decide +kernel
theorem dX2_glowAround_42 : decode cX2_glowAround 42 = .ok (.iaload, 1) := by decide +kernel
theorem dX2_glowAround_43 : decode cX2_glowAround 43 = .ok (.goto 4, 3) := by decide +kernel
theorem dX2_glowAround_46 : decode cX2_glowAround 46 = .ok (.iconst 0, 1) := by decide +kernel
theorem dX2_glowAround_47 : decode cX2_glowAround 47 = .ok (.istore 5, 2) := by decide +kernel
theorem dX2_glowAround_49 : decode cX2_glowAround 49 = .ok (.iload_n 1, 1) := by decide +kernel
theorem dX2_glowAround_50 : decode cX2_glowAround 50 = .ok (.ifCond .le 17, 3) := by decide +kernel
theorem dX2_glowAround_53 : decode cX2_glowAround 53 = .ok (.aload_n 0, 1) := by decide +kernel
theorem dX2_glowAround_54 : decode cX2_glowAround 54 = .ok (.getfield 52, 3) := by decide +kernel
theorem dX2_glowAround_57 : decode cX2_glowAround 57 = .ok (.iload_n 3, 1) := by decide +kernel
theorem dX2_glowAround_58 : decode cX2_glowAround 58 = .ok (.aload_n 0, 1) := by decide +kernel
theorem dX2_glowAround_59 : decode cX2_glowAround 59 = .ok (.getfield 66, 3) := by decide +kernel
theorem dX2_glowAround_62 : decode cX2_glowAround 62 = .ok (.isub, 1) := by decide +kernel
theorem dX2_glowAround_63 : decode cX2_glowAround 63 = .ok (.iaload, 1) := by decide +kernel
theorem dX2_glowAround_64 : decode cX2_glowAround 64 = .ok (.goto 4, 3) := by decide +kernel
theorem dX2_glowAround_67 : decode cX2_glowAround 67 = .ok (.iconst 0, 1) := by decide +kernel
theorem dX2_glowAround_68 : decode cX2_glowAround 68 = .ok (.istore 6, 2) := by decide +kernel
theorem dX2_glowAround_70 : decode cX2_glowAround 70 = .ok (.iload_n 1, 1) := by decide +kernel
theorem dX2_glowAround_71 : decode cX2_glowAround 71 = .ok (.aload_n 0, 1) := by decide +kernel
theorem dX2_glowAround_72 : decode cX2_glowAround 72 = .ok (.getfield 62, 3) := by decide +kernel
theorem dX2_glowAround_75 : decode cX2_glowAround 75 = .ok (.iconst 1, 1) := by decide +kernel
theorem dX2_glowAround_76 : decode cX2_glowAround 76 = .ok (.isub, 1) := by decide +kernel
theorem dX2_glowAround_77 : decode cX2_glowAround 77 = .ok (.if_icmp .ge 17, 3) := by decide +kernel
theorem dX2_glowAround_80 : decode cX2_glowAround 80 = .ok (.aload_n 0, 1) := by decide +kernel
theorem dX2_glowAround_81 : decode cX2_glowAround 81 = .ok (.getfield 52, 3) := by decide +kernel
theorem dX2_glowAround_84 : decode cX2_glowAround 84 = .ok (.iload_n 3, 1) := by decide +kernel
theorem dX2_glowAround_85 : decode cX2_glowAround 85 = .ok (.aload_n 0, 1) := by decide +kernel
theorem dX2_glowAround_86 : decode cX2_glowAround 86 = .ok (.getfield 66, 3) := by decide +kernel
theorem dX2_glowAround_89 : decode cX2_glowAround 89 = .ok (.iadd, 1) := by decide +kernel
theorem dX2_glowAround_90 : decode cX2_glowAround 90 = .ok (.iaload, 1) := by decide +kernel
theorem dX2_glowAround_91 : decode cX2_glowAround 91 = .ok (.goto 4, 3) := by decide +kernel
theorem dX2_glowAround_94 : decode cX2_glowAround 94 = .ok (.iconst 0, 1) := by decide +kernel
theorem dX2_glowAround_95 : decode cX2_glowAround 95 = .ok (.istore 7, 2) := by decide +kernel
theorem dX2_glowAround_97 : decode cX2_glowAround 97 = .ok (.iload 4, 2) := by decide +kernel
theorem dX2_glowAround_99 : decode cX2_glowAround 99 = .ok (.iload 5, 2) := by decide +kernel
theorem dX2_glowAround_101 : decode cX2_glowAround 101 = .ok (.iadd, 1) := by decide +kernel
theorem dX2_glowAround_102 : decode cX2_glowAround 102 = .ok (.iload 6, 2) := by decide +kernel
theorem dX2_glowAround_104 : decode cX2_glowAround 104 = .ok (.iadd, 1) := by decide +kernel
theorem dX2_glowAround_105 : decode cX2_glowAround 105 = .ok (.iload 7, 2) := by decide +kernel
theorem dX2_glowAround_107 : decode cX2_glowAround 107 = .ok (.iadd, 1) := by decide +kernel
theorem dX2_glowAround_108 : decode cX2_glowAround 108 = .ok (.ireturn, 1) := by decide +kernel
theorem dX2_sink_0 : decode cX2_sink 0 = .ok (.iconst 0, 1) := by decide +kernel
theorem dX2_sink_1 : decode cX2_sink 1 = .ok (.istore_n 2, 1) := by decide +kernel
theorem dX2_sink_2 : decode cX2_sink 2 = .ok (.iload_n 2, 1) := by decide +kernel
theorem dX2_sink_3 : decode cX2_sink 3 = .ok (.aload_n 0, 1) := by decide +kernel
theorem dX2_sink_4 : decode cX2_sink 4 = .ok (.getfield 77, 3) := by decide +kernel
theorem dX2_sink_7 : decode cX2_sink 7 = .ok (.if_icmp .ge 89, 3) := by decide +kernel
theorem dX2_sink_10 : decode cX2_sink 10 = .ok (.aload_n 0, 1) := by decide +kernel
theorem dX2_sink_11 : decode cX2_sink 11 = .ok (.getfield 15, 3) := by decide +kernel
theorem dX2_sink_14 : decode cX2_sink 14 = .ok (.iload_n 2, 1) := by decide +kernel
theorem dX2_sink_15 : decode cX2_sink 15 = .ok (.baload, 1) := by decide +kernel
theorem dX2_sink_16 : decode cX2_sink 16 = .ok (.ifCond .eq 74, 3) := by decide +kernel
theorem dX2_sink_19 : decode cX2_sink 19 = .ok (.aload_n 0, 1) := by decide +kernel
theorem dX2_sink_20 : decode cX2_sink 20 = .ok (.getfield 34, 3) := by decide +kernel
theorem dX2_sink_23 : decode cX2_sink 23 = .ok (.iload_n 2, 1) := by decide +kernel
theorem dX2_sink_24 : decode cX2_sink 24 = .ok (.iaload, 1) := by decide +kernel
theorem dX2_sink_25 : decode cX2_sink 25 = .ok (.ifCond .le 65, 3) := by decide +kernel
theorem dX2_sink_28 : decode cX2_sink 28 = .ok (.iconst 2, 1) := by decide +kernel
theorem dX2_sink_29 : decode cX2_sink 29 = .ok (.aload_n 0, 1) := by decide +kernel
theorem dX2_sink_30 : decode cX2_sink 30 = .ok (.getfield 19, 3) := by decide +kernel
theorem dX2_sink_33 : decode cX2_sink 33 = .ok (.iload_n 2, 1) := by decide +kernel
theorem dX2_sink_34 : decode cX2_sink 34 = .ok (.iaload, 1) := by decide +kernel
theorem dX2_sink_35 : decode cX2_sink 35 = .ok (.iconst 2, 1) := by decide +kernel
theorem dX2_sink_36 : decode cX2_sink 36 = .ok (.aload_n 0, 1) := by decide +kernel
theorem dX2_sink_37 : decode cX2_sink 37 = .ok (.getfield 22, 3) := by decide +kernel
theorem dX2_sink_40 : decode cX2_sink 40 = .ok (.iload_n 2, 1) := by decide +kernel
theorem dX2_sink_41 : decode cX2_sink 41 = .ok (.iaload, 1) := by decide +kernel
theorem dX2_sink_42 : decode cX2_sink 42 = .ok (.imul, 1) := by decide +kernel
theorem dX2_sink_43 : decode cX2_sink 43 = .ok (.iadd, 1) := by decide +kernel
theorem dX2_sink_44 : decode cX2_sink 44 = .ok (.imul, 1) := by decide +kernel
theorem dX2_sink_45 : decode cX2_sink 45 = .ok (.aload_n 0, 1) := by decide +kernel
theorem dX2_sink_46 : decode cX2_sink 46 = .ok (.getfield 40, 3) := by decide +kernel
theorem dX2_sink_49 : decode cX2_sink 49 = .ok (.iload_n 2, 1) := by decide +kernel
theorem dX2_sink_50 : decode cX2_sink 50 = .ok (.iaload, 1) := by decide +kernel
theorem dX2_sink_51 : decode cX2_sink 51 = .ok (.if_icmp .ge 39, 3) := by decide +kernel
theorem dX2_sink_54 : decode cX2_sink 54 = .ok (.aload_n 0, 1) := by decide +kernel
theorem dX2_sink_55 : decode cX2_sink 55 = .ok (.getfield 34, 3) := by decide +kernel
theorem dX2_sink_58 : decode cX2_sink 58 = .ok (.iload_n 2, 1) := by decide +kernel
theorem dX2_sink_59 : decode cX2_sink 59 = .ok (.dup2, 1) := by decide +kernel
theorem dX2_sink_60 : decode cX2_sink 60 = .ok (.iaload, 1) := by decide +kernel
theorem dX2_sink_61 : decode cX2_sink 61 = .ok (.iconst 1, 1) := by decide +kernel
theorem dX2_sink_62 : decode cX2_sink 62 = .ok (.isub, 1) := by decide +kernel
theorem dX2_sink_63 : decode cX2_sink 63 = .ok (.iastore, 1) := by decide +kernel
theorem dX2_sink_64 : decode cX2_sink 64 = .ok (.aload_n 0, 1) := by decide +kernel
theorem dX2_sink_65 : decode cX2_sink 65 = .ok (.getfield 34, 3) := by decide +kernel
theorem dX2_sink_68 : decode cX2_sink 68 = .ok (.iload_n 2, 1) := by decide +kernel
theorem dX2_sink_69 : decode cX2_sink 69 = .ok (.iaload, 1) := by decide +kernel
theorem dX2_sink_70 : decode cX2_sink 70 = .ok (.ifCond .ne 20, 3) := by decide +kernel
theorem dX2_sink_73 : decode cX2_sink 73 = .ok (.aload_n 0, 1) := by decide +kernel
theorem dX2_sink_74 : decode cX2_sink 74 = .ok (.getfield 46, 3) := by decide +kernel
theorem dX2_sink_77 : decode cX2_sink 77 = .ok (.iload_n 2, 1) := by decide +kernel
theorem dX2_sink_78 : decode cX2_sink 78 = .ok (.iaload, 1) := by decide +kernel
theorem dX2_sink_79 : decode cX2_sink 79 = .ok (.iconst (-1), 1) := by decide +kernel
theorem dX2_sink_80 : decode cX2_sink 80 = .ok (.if_icmp .ne 10, 3) := by decide +kernel
theorem dX2_sink_83 : decode cX2_sink 83 = .ok (.aload_n 0, 1) := by decide +kernel
theorem dX2_sink_84 : decode cX2_sink 84 = .ok (.getfield 46, 3) := by decide +kernel
theorem dX2_sink_87 : decode cX2_sink 87 = .ok (.iload_n 2, 1) := by decide +kernel
theorem dX2_sink_88 : decode cX2_sink 88 = .ok (.iload_n 1, 1) := by decide +kernel
theorem dX2_sink_89 : decode cX2_sink 89 = .ok (.iastore, 1) := by decide +kernel
theorem dX2_sink_90 : decode cX2_sink 90 = .ok (.iinc 2 1, 3) := by decide +kernel
theorem dX2_sink_93 : decode cX2_sink 93 = .ok (.goto (-91), 3) := by decide +kernel
theorem dX2_sink_96 : decode cX2_sink 96 = .ok (.return_, 1) := by decide +kernel
set_option maxRecDepth 20000 in
theorem ggX2_soak_X2_at : GoodIn wsX2_soak wsX2_at := goodIn_r _ [13, 2, 14, 15, 16, 17, 18, 19, 20, 21, 22, 23, 24, 25, 26, 27, 28, 29, 30, 31, 32] (by decide +kernel) (by decide +kernel)
set_option maxRecDepth 20000 in
theorem gX2_soak_X2_at : GoodIn wsX2_soak (wsV RX2 73 RX2 yX2_at wsX2_at) := goodIn_app (goodIn_of _ (by decide +kernel)) ggX2_soak_X2_at
theorem dX2_soak_0 : decode cX2_soak 0 = .ok (.iconst 0, 1) := by decide +kernel
theorem dX2_soak_1 : decode cX2_soak 1 = .ok (.istore_n 2, 1) := by decide +kernel
theorem dX2_soak_2 : decode cX2_soak 2 = .ok (.iload_n 2, 1) := by decide +kernel
theorem dX2_soak_3 : decode cX2_soak 3 = .ok (.aload_n 0, 1) := by decide +kernel
theorem dX2_soak_4 : decode cX2_soak 4 = .ok (.getfield 62, 3) := by decide +kernel
theorem dX2_soak_7 : decode cX2_soak 7 = .ok (.if_icmp .ge 54, 3) := by decide +kernel
theorem dX2_soak_10 : decode cX2_soak 10 = .ok (.aload_n 0, 1) := by decide +kernel
theorem dX2_soak_11 : decode cX2_soak 11 = .ok (.iload_n 2, 1) := by decide +kernel
theorem dX2_soak_12 : decode cX2_soak 12 = .ok (.aload_n 0, 1) := by decide +kernel
theorem dX2_soak_13 : decode cX2_soak 13 = .ok (.getfield 66, 3) := by decide +kernel
theorem dX2_soak_16 : decode cX2_soak 16 = .ok (.iconst 1, 1) := by decide +kernel
theorem dX2_soak_17 : decode cX2_soak 17 = .ok (.isub, 1) := by decide +kernel
theorem dX2_soak_18 : decode cX2_soak 18 = .ok (.invokevirtual 73, 3) := by decide +kernel
theorem dX2_soak_21 : decode cX2_soak 21 = .ok (.istore_n 3, 1) := by decide +kernel
theorem dX2_soak_22 : decode cX2_soak 22 = .ok (.aload_n 0, 1) := by decide +kernel
theorem dX2_soak_23 : decode cX2_soak 23 = .ok (.getfield 25, 3) := by decide +kernel
theorem dX2_soak_26 : decode cX2_soak 26 = .ok (.iload_n 3, 1) := by decide +kernel
theorem dX2_soak_27 : decode cX2_soak 27 = .ok (.bipush 100, 2) := by decide +kernel
theorem dX2_soak_29 : decode cX2_soak 29 = .ok (.aload_n 0, 1) := by decide +kernel
theorem dX2_soak_30 : decode cX2_soak 30 = .ok (.getfield 11, 3) := by decide +kernel
theorem dX2_soak_33 : decode cX2_soak 33 = .ok (.iload_n 3, 1) := by decide +kernel
theorem dX2_soak_34 : decode cX2_soak 34 = .ok (.iaload, 1) := by decide +kernel
theorem dX2_soak_35 : decode cX2_soak 35 = .ok (.imul, 1) := by decide +kernel
theorem dX2_soak_36 : decode cX2_soak 36 = .ok (.aload_n 0, 1) := by decide +kernel
theorem dX2_soak_37 : decode cX2_soak 37 = .ok (.getfield 25, 3) := by decide +kernel
theorem dX2_soak_40 : decode cX2_soak 40 = .ok (.iload_n 3, 1) := by decide +kernel
theorem dX2_soak_41 : decode cX2_soak 41 = .ok (.iaload, 1) := by decide +kernel
theorem dX2_soak_42 : decode cX2_soak 42 = .ok (.iload_n 1, 1) := by decide +kernel
theorem dX2_soak_43 : decode cX2_soak 43 = .ok (.aload_n 0, 1) := by decide +kernel
theorem dX2_soak_44 : decode cX2_soak 44 = .ok (.getfield 11, 3) := by decide +kernel
theorem dX2_soak_47 : decode cX2_soak 47 = .ok (.iload_n 3, 1) := by decide +kernel
theorem dX2_soak_48 : decode cX2_soak 48 = .ok (.iaload, 1) := by decide +kernel
theorem dX2_soak_49 : decode cX2_soak 49 = .ok (.imul, 1) := by decide +kernel
theorem dX2_soak_50 : decode cX2_soak 50 = .ok (.iadd, 1) := by decide +kernel
theorem dX2_soak_51 : decode cX2_soak 51 = .ok (.invokestatic 147, 3) := by decide +kernel
theorem dX2_soak_54 : decode cX2_soak 54 = .ok (.iastore, 1) := by decide +kernel
theorem dX2_soak_55 : decode cX2_soak 55 = .ok (.iinc 2 1, 3) := by decide +kernel
theorem dX2_soak_58 : decode cX2_soak 58 = .ok (.goto (-56), 3) := by decide +kernel
theorem dX2_soak_61 : decode cX2_soak 61 = .ok (.return_, 1) := by decide +kernel
theorem dX2_isBare_0 : decode cX2_isBare 0 = .ok (.aload_n 0, 1) := by decide +kernel
theorem dX2_isBare_1 : decode cX2_isBare 1 = .ok (.getfield 15, 3) := by decide +kernel
theorem dX2_isBare_4 : decode cX2_isBare 4 = .ok (.iload_n 1, 1) := by decide +kernel
theorem dX2_isBare_5 : decode cX2_isBare 5 = .ok (.baload, 1) := by decide +kernel
theorem dX2_isBare_6 : decode cX2_isBare 6 = .ok (.ifCond .eq 16, 3) := by decide +kernel
theorem dX2_isBare_9 : decode cX2_isBare 9 = .ok (.aload_n 0, 1) := by decide +kernel
theorem dX2_isBare_10 : decode cX2_isBare 10 = .ok (.getfield 34, 3) := by decide +kernel
theorem dX2_isBare_13 : decode cX2_isBare 13 = .ok (.iload_n 1, 1) := by decide +kernel
theorem dX2_isBare_14 : decode cX2_isBare 14 = .ok (.iaload, 1) := by decide +kernel
theorem dX2_isBare_15 : decode cX2_isBare 15 = .ok (.ifCond .ne 7, 3) := by decide +kernel
theorem dX2_isBare_18 : decode cX2_isBare 18 = .ok (.iconst 1, 1) := by decide +kernel
theorem dX2_isBare_19 : decode cX2_isBare 19 = .ok (.goto 4, 3) := by decide +kernel
theorem dX2_isBare_22 : decode cX2_isBare 22 = .ok (.iconst 0, 1) := by decide +kernel
theorem dX2_isBare_23 : decode cX2_isBare 23 = .ok (.ireturn, 1) := by decide +kernel
set_option maxRecDepth 20000 in
theorem ggX2_countBare_X2_isBare : GoodIn wsX2_countBare wsX2_isBare := goodIn_r _ [6, 7, 8, 9, 10, 11, 12, 13, 14, 15, 16, 17, 18, 19, 20, 21, 22, 23, 24, 25, 26, 27] (by decide +kernel) (by decide +kernel)
set_option maxRecDepth 20000 in
theorem gX2_countBare_X2_isBare : GoodIn wsX2_countBare (wsV RX2 108 RX2 yX2_isBare wsX2_isBare) := goodIn_app (goodIn_of _ (by decide +kernel)) ggX2_countBare_X2_isBare
theorem dX2_countBare_0 : decode cX2_countBare 0 = .ok (.iconst 0, 1) := by decide +kernel
theorem dX2_countBare_1 : decode cX2_countBare 1 = .ok (.istore_n 1, 1) := by decide +kernel
theorem dX2_countBare_2 : decode cX2_countBare 2 = .ok (.iconst 0, 1) := by decide +kernel
theorem dX2_countBare_3 : decode cX2_countBare 3 = .ok (.istore_n 2, 1) := by decide +kernel
theorem dX2_countBare_4 : decode cX2_countBare 4 = .ok (.iload_n 2, 1) := by decide +kernel
theorem dX2_countBare_5 : decode cX2_countBare 5 = .ok (.aload_n 0, 1) := by decide +kernel
theorem dX2_countBare_6 : decode cX2_countBare 6 = .ok (.getfield 77, 3) := by decide +kernel
theorem dX2_countBare_9 : decode cX2_countBare 9 = .ok (.if_icmp .ge 20, 3) := by decide +kernel
theorem dX2_countBare_12 : decode cX2_countBare 12 = .ok (.aload_n 0, 1) := by decide +kernel
theorem dX2_countBare_13 : decode cX2_countBare 13 = .ok (.iload_n 2, 1) := by decide +kernel
theorem dX2_countBare_14 : decode cX2_countBare 14 = .ok (.invokevirtual 108, 3) := by decide +kernel
theorem dX2_countBare_17 : decode cX2_countBare 17 = .ok (.ifCond .eq 6, 3) := by decide +kernel
theorem dX2_countBare_20 : decode cX2_countBare 20 = .ok (.iinc 1 1, 3) := by decide +kernel
theorem dX2_countBare_23 : decode cX2_countBare 23 = .ok (.iinc 2 1, 3) := by decide +kernel
theorem dX2_countBare_26 : decode cX2_countBare 26 = .ok (.goto (-22), 3) := by decide +kernel
theorem dX2_countBare_29 : decode cX2_countBare 29 = .ok (.iload_n 1, 1) := by decide +kernel
theorem dX2_countBare_30 : decode cX2_countBare 30 = .ok (.ireturn, 1) := by decide +kernel
theorem dX2_thinnest_0 : decode cX2_thinnest 0 = .ok (.aload_n 0, 1) := by decide +kernel
theorem dX2_thinnest_1 : decode cX2_thinnest 1 = .ok (.getfield 77, 3) := by decide +kernel
theorem dX2_thinnest_4 : decode cX2_thinnest 4 = .ok (.iconst 1, 1) := by decide +kernel
theorem dX2_thinnest_5 : decode cX2_thinnest 5 = .ok (.isub, 1) := by decide +kernel
theorem dX2_thinnest_6 : decode cX2_thinnest 6 = .ok (.istore_n 1, 1) := by decide +kernel
theorem dX2_thinnest_7 : decode cX2_thinnest 7 = .ok (.aload_n 0, 1) := by decide +kernel
theorem dX2_thinnest_8 : decode cX2_thinnest 8 = .ok (.getfield 77, 3) := by decide +kernel
theorem dX2_thinnest_11 : decode cX2_thinnest 11 = .ok (.iconst 1, 1) := by decide +kernel
theorem dX2_thinnest_12 : decode cX2_thinnest 12 = .ok (.isub, 1) := by decide +kernel
theorem dX2_thinnest_13 : decode cX2_thinnest 13 = .ok (.istore_n 2, 1) := by decide +kernel
theorem dX2_thinnest_14 : decode cX2_thinnest 14 = .ok (.iload_n 2, 1) := by decide +kernel
theorem dX2_thinnest_15 : decode cX2_thinnest 15 = .ok (.ifCond .lt 35, 3) := by decide +kernel
theorem dX2_thinnest_18 : decode cX2_thinnest 18 = .ok (.aload_n 0, 1) := by decide +kernel
theorem dX2_thinnest_19 : decode cX2_thinnest 19 = .ok (.getfield 15, 3) := by decide +kernel
theorem dX2_thinnest_22 : decode cX2_thinnest 22 = .ok (.iload_n 2, 1) := by decide +kernel
theorem dX2_thinnest_23 : decode cX2_thinnest 23 = .ok (.baload, 1) := by decide +kernel
theorem dX2_thinnest_24 : decode cX2_thinnest 24 = .ok (.ifCond .eq 20, 3) := by decide +kernel
theorem dX2_thinnest_27 : decode cX2_thinnest 27 = .ok (.aload_n 0, 1) := by decide +kernel
theorem dX2_thinnest_28 : decode cX2_thinnest 28 = .ok (.getfield 34, 3) := by decide +kernel
theorem dX2_thinnest_31 : decode cX2_thinnest 31 = .ok (.iload_n 2, 1) := by decide +kernel
theorem dX2_thinnest_32 : decode cX2_thinnest 32 = .ok (.iaload, 1) := by decide +kernel
theorem dX2_thinnest_33 : decode cX2_thinnest 33 = .ok (.aload_n 0, 1) := by decide +kernel
theorem dX2_thinnest_34 : decode cX2_thinnest 34 = .ok (.getfield 34, 3) := by decide +kernel
theorem dX2_thinnest_37 : decode cX2_thinnest 37 = .ok (.iload_n 1, 1) := by decide +kernel
theorem dX2_thinnest_38 : decode cX2_thinnest 38 = .ok (.iaload, 1) := by decide +kernel
theorem dX2_thinnest_39 : decode cX2_thinnest 39 = .ok (.if_icmp .gt 5, 3) := by decide +kernel
theorem dX2_thinnest_42 : decode cX2_thinnest 42 = .ok (.iload_n 2, 1) := by decide +kernel
theorem dX2_thinnest_43 : decode cX2_thinnest 43 = .ok (.istore_n 1, 1) := by decide +kernel
theorem dX2_thinnest_44 : decode cX2_thinnest 44 = .ok (.iinc 2 (-1), 3) := by decide +kernel
theorem dX2_thinnest_47 : decode cX2_thinnest 47 = .ok (.goto (-33), 3) := by decide +kernel
theorem dX2_thinnest_50 : decode cX2_thinnest 50 = .ok (.iload_n 1, 1) := by decide +kernel
theorem dX2_thinnest_51 : decode cX2_thinnest 51 = .ok (.ireturn, 1) := by decide +kernel
set_option maxRecDepth 20000 in
theorem ggX2_mend_X2_thinnest : GoodIn wsX2_mend wsX2_thinnest := goodIn_r _ [10, 11, 12, 1, 13, 14, 15, 16, 17, 18, 19, 20, 21, 22, 23, 24, 25, 26, 27, 28, 29, 30, 31] (by decide +kernel) (by decide +kernel)
set_option maxRecDepth 20000 in
theorem gX2_mend_X2_thinnest : GoodIn wsX2_mend (wsV RX2 156 RX2 yX2_thinnest wsX2_thinnest) := goodIn_app (goodIn_of _ (by decide +kernel)) ggX2_mend_X2_thinnest
theorem dX2_mend_0 : decode cX2_mend 0 = .ok (.aload_n 0, 1) := by decide +kernel
theorem dX2_mend_1 : decode cX2_mend 1 = .ok (.invokevirtual 156, 3) := by decide +kernel
theorem dX2_mend_4 : decode cX2_mend 4 = .ok (.istore_n 1, 1) := by decide +kernel
theorem dX2_mend_5 : decode cX2_mend 5 = .ok (.aload_n 0, 1) := by decide +kernel
theorem dX2_mend_6 : decode cX2_mend 6 = .ok (.getfield 34, 3) := by decide +kernel
theorem dX2_mend_9 : decode cX2_mend 9 = .ok (.iload_n 1, 1) := by decide +kernel
theorem dX2_mend_10 : decode cX2_mend 10 = .ok (.bipush 9, 2) := by decide +kernel
theorem dX2_mend_12 : decode cX2_mend 12 = .ok (.aload_n 0, 1) := by decide +kernel
theorem dX2_mend_13 : decode cX2_mend 13 = .ok (.getfield 34, 3) := by decide +kernel
theorem dX2_mend_16 : decode cX2_mend 16 = .ok (.iload_n 1, 1) := by decide +kernel
theorem dX2_mend_17 : decode cX2_mend 17 = .ok (.iaload, 1) := by decide +kernel
theorem dX2_mend_18 : decode cX2_mend 18 = .ok (.iconst 3, 1) := by decide +kernel
theorem dX2_mend_19 : decode cX2_mend 19 = .ok (.iadd, 1) := by decide +kernel
theorem dX2_mend_20 : decode cX2_mend 20 = .ok (.invokestatic 147, 3) := by decide +kernel
theorem dX2_mend_23 : decode cX2_mend 23 = .ok (.iastore, 1) := by decide +kernel
theorem dX2_mend_24 : decode cX2_mend 24 = .ok (.return_, 1) := by decide +kernel
