set_option maxRecDepth 20000 in
theorem ggX7_init_X2_init : GoodIn wsX7_init wsX2_init := goodIn_r _ [38, 39, 2, 3, 40, 41, 42, 43, 44, 45, 46, 47, 48, 49, 50, 51, 52, 53, 54, 55, 56, 57, 58, 6, 59, 60, 61, 62, 63, 64, 65, 66, 67, 68, 69, 70, 71, 72, 73, 74, 75, 76, 77, 78, 79, 80, 81, 129, 130, 131, 132, 133, 134, 135, 136, 137, 138, 139, 140, 141, 142, 143, 144, 145, 146, 147] (by decide +kernel) (by decide +kernel)
set_option maxRecDepth 20000 in
theorem gX7_init_X2_init : GoodIn wsX7_init (wsX2_init) := ggX7_init_X2_init
set_option maxRecDepth 20000 in
theorem ggX7_init_X1_init : GoodIn wsX7_init wsX1_init := goodIn_r _ [83, 84, 2, 3, 40, 85, 42, 86, 87, 158, 159, 160, 161] (by decide +kernel) (by decide +kernel)
set_option maxRecDepth 20000 in
theorem gX7_init_X1_init_n18 : GoodIn wsX7_init (wsX1_init) := ggX7_init_X1_init
set_option maxRecDepth 20000 in
theorem ggX7_init_X0_init : GoodIn wsX7_init wsX0_init := goodIn_r _ [89, 90, 2, 3, 40, 91, 92, 93, 94, 95, 96, 97, 98, 99, 100, 162, 163, 164, 165, 166, 167, 168, 169, 170, 171, 172, 173] (by decide +kernel) (by decide +kernel)
set_option maxRecDepth 20000 in
theorem gX7_init_X0_init_n25 : GoodIn wsX7_init (wsX0_init) := ggX7_init_X0_init
set_option maxRecDepth 20000 in
theorem ggX7_init_X5_init : GoodIn wsX7_init wsX5_init := goodIn_r _ [102, 103, 2, 3, 40, 104, 174, 175] (by decide +kernel) (by decide +kernel)
set_option maxRecDepth 20000 in
theorem gX7_init_X5_init_n32 : GoodIn wsX7_init (wsX5_init) := ggX7_init_X5_init
set_option maxRecDepth 20000 in
theorem ggX7_init_X4_init : GoodIn wsX7_init wsX4_init := goodIn_r _ [106, 107, 2, 3, 40, 108, 109, 110, 111, 112, 113, 114, 115, 116, 176, 177, 178, 179, 180, 181, 182, 183, 184] (by decide +kernel) (by decide +kernel)
set_option maxRecDepth 20000 in
theorem gX7_init_X4_init_n39 : GoodIn wsX7_init (wsX4_init) := ggX7_init_X4_init
set_option maxRecDepth 20000 in
theorem ggX7_init_X3_init : GoodIn wsX7_init wsX3_init := goodIn_r _ [119, 120, 2, 3, 121, 122, 185, 186, 187, 188] (by decide +kernel) (by decide +kernel)
set_option maxRecDepth 20000 in
theorem gX7_init_X3_init : GoodIn wsX7_init (wsX3_init) := ggX7_init_X3_init
set_option maxRecDepth 20000 in
theorem ggX7_init_X6_init : GoodIn wsX7_init wsX6_init := goodIn_r _ [124, 125, 2, 3, 40, 126, 127, 128, 189, 190, 191, 192] (by decide +kernel) (by decide +kernel)
set_option maxRecDepth 20000 in
theorem gX7_init_X6_init_n55 : GoodIn wsX7_init (wsX6_init) := ggX7_init_X6_init
theorem dX7_init_0 : decode cX7_init 0 = .ok (.aload_n 0, 1) := by decide +kernel
theorem dX7_init_1 : decode cX7_init 1 = .ok (.invokespecial 1, 3) := by decide +kernel
theorem dX7_init_4 : decode cX7_init 4 = .ok (.aload_n 0, 1) := by decide +kernel
theorem dX7_init_5 : decode cX7_init 5 = .ok (.new 7, 3) := by decide +kernel
theorem dX7_init_8 : decode cX7_init 8 = .ok (.dup, 1) := by decide +kernel
theorem dX7_init_9 : decode cX7_init 9 = .ok (.invokespecial 9, 3) := by decide +kernel
theorem dX7_init_12 : decode cX7_init 12 = .ok (.putfield 10, 3) := by decide +kernel
theorem dX7_init_15 : decode cX7_init 15 = .ok (.aload_n 0, 1) := by decide +kernel
theorem dX7_init_16 : decode cX7_init 16 = .ok (.new 16, 3) := by decide +kernel
theorem dX7_init_19 : decode cX7_init 19 = .ok (.dup, 1) := by decide +kernel
theorem dX7_init_20 : decode cX7_init 20 = .ok (.invokespecial 18, 3) := by decide +kernel
theorem dX7_init_23 : decode cX7_init 23 = .ok (.putfield 19, 3) := by decide +kernel
theorem dX7_init_26 : decode cX7_init 26 = .ok (.aload_n 0, 1) := by decide +kernel
theorem dX7_init_27 : decode cX7_init 27 = .ok (.new 23, 3) := by decide +kernel
theorem dX7_init_30 : decode cX7_init 30 = .ok (.dup, 1) := by decide +kernel
theorem dX7_init_31 : decode cX7_init 31 = .ok (.invokespecial 25, 3) := by decide +kernel
theorem dX7_init_34 : decode cX7_init 34 = .ok (.putfield 26, 3) := by decide +kernel
theorem dX7_init_37 : decode cX7_init 37 = .ok (.aload_n 0, 1) := by decide +kernel
theorem dX7_init_38 : decode cX7_init 38 = .ok (.new 30, 3) := by decide +kernel
theorem dX7_init_41 : decode cX7_init 41 = .ok (.dup, 1) := by decide +kernel
theorem dX7_init_42 : decode cX7_init 42 = .ok (.invokespecial 32, 3) := by decide +kernel
theorem dX7_init_45 : decode cX7_init 45 = .ok (.putfield 33, 3) := by decide +kernel
theorem dX7_init_48 : decode cX7_init 48 = .ok (.aload_n 0, 1) := by decide +kernel
theorem dX7_init_49 : decode cX7_init 49 = .ok (.new 37, 3) := by decide +kernel
theorem dX7_init_52 : decode cX7_init 52 = .ok (.dup, 1) := by decide +kernel
theorem dX7_init_53 : decode cX7_init 53 = .ok (.invokespecial 39, 3) := by decide +kernel
theorem dX7_init_56 : decode cX7_init 56 = .ok (.putfield 40, 3) := by decide +kernel
theorem dX7_init_59 : decode cX7_init 59 = .ok (.aload_n 0, 1) := by decide +kernel
theorem dX7_init_60 : decode cX7_init 60 = .ok (.new 44, 3) := by decide +kernel
theorem dX7_init_63 : decode cX7_init 63 = .ok (.dup, 1) := by decide +kernel
theorem dX7_init_64 : decode cX7_init 64 = .ok (.aload_n 0, 1) := by decide +kernel
theorem dX7_init_65 : decode cX7_init 65 = .ok (.getfield 33, 3) := by decide +kernel
theorem dX7_init_68 : decode cX7_init 68 = .ok (.aload_n 0, 1) := by decide +kernel
theorem dX7_init_69 : decode cX7_init 69 = .ok (.getfield 40, 3) := by decide +kernel
theorem dX7_init_72 : decode cX7_init 72 = .ok (.invokespecial 46, 3) := by decide +kernel
theorem dX7_init_75 : decode cX7_init 75 = .ok (.putfield 49, 3) := by decide +kernel
theorem dX7_init_78 : decode cX7_init 78 = .ok (.aload_n 0, 1) := by decide +kernel
theorem dX7_init_79 : decode cX7_init 79 = .ok (.new 53, 3) := by decide +kernel
theorem dX7_init_82 : decode cX7_init 82 = .ok (.dup, 1) := by decide +kernel
theorem dX7_init_83 : decode cX7_init 83 = .ok (.invokespecial 55, 3) := by decide +kernel
theorem dX7_init_86 : decode cX7_init 86 = .ok (.putfield 56, 3) := by decide +kernel
theorem dX7_init_89 : decode cX7_init 89 = .ok (.aload_n 0, 1) := by decide +kernel
theorem dX7_init_90 : decode cX7_init 90 = .ok (.iconst 0, 1) := by decide +kernel
theorem dX7_init_91 : decode cX7_init 91 = .ok (.putfield 60, 3) := by decide +kernel
theorem dX7_init_94 : decode cX7_init 94 = .ok (.aload_n 0, 1) := by decide +kernel
theorem dX7_init_95 : decode cX7_init 95 = .ok (.ldc 64, 2) := by decide +kernel
theorem dX7_init_97 : decode cX7_init 97 = .ok (.putfield 65, 3) := by decide +kernel
theorem dX7_init_100 : decode cX7_init 100 = .ok (.aload_n 0, 1) := by decide +kernel
theorem dX7_init_101 : decode cX7_init 101 = .ok (.iconst 0, 1) := by decide +kernel
theorem dX7_init_102 : decode cX7_init 102 = .ok (.putfield 69, 3) := by decide +kernel
theorem dX7_init_105 : decode cX7_init 105 = .ok (.return_, 1) := by decide +kernel
set_option maxRecDepth 20000 in
theorem ggX7_clamp_X2_build : GoodIn wsX7_clamp wsX2_build := goodIn_r _ [9, 10, 11, 12, 13, 14, 15, 16, 17, 18, 19, 20, 21, 22, 23, 24, 8, 25, 26, 27, 28, 29, 30, 31, 32, 33, 34, 35, 36, 37, 38, 39, 40, 41, 42, 43, 44, 68, 69, 70, 71, 72, 73, 74, 75, 76, 77, 78, 79, 80, 81, 82, 83, 84, 85, 86] (by decide +kernel) (by decide +kernel)
set_option maxRecDepth 20000 in
theorem gX7_clamp_X2_build : GoodIn wsX7_clamp (wsV RX7 72 RX2 yX2_build wsX2_build) := goodIn_app (goodIn_of _ (by decide +kernel)) ggX7_clamp_X2_build
set_option maxRecDepth 20000 in
theorem ggX7_clamp_X1_forget : GoodIn wsX7_clamp wsX1_forget := goodIn_r _ [49, 50, 87, 88, 89, 90] (by decide +kernel) (by decide +kernel)
set_option maxRecDepth 20000 in
theorem gX7_clamp_X1_forget : GoodIn wsX7_clamp (wsV RX7 76 RX1 yX1_forget wsX1_forget) := goodIn_app (goodIn_of _ (by decide +kernel)) ggX7_clamp_X1_forget
set_option maxRecDepth 20000 in
theorem ggX7_clamp_X0_forget : GoodIn wsX7_clamp wsX0_forget := goodIn_r _ [55, 56, 57, 91, 92, 93, 94, 95, 96, 97, 98, 99, 100, 101, 102] (by decide +kernel) (by decide +kernel)
set_option maxRecDepth 20000 in
theorem gX7_clamp_X0_forget : GoodIn wsX7_clamp (wsV RX7 79 RX0 yX0_forget wsX0_forget) := goodIn_app (goodIn_of _ (by decide +kernel)) ggX7_clamp_X0_forget
theorem dX7_clamp_0 : decode cX7_clamp 0 = .ok (.iload_n 1, 1) := by decide +kernel
theorem dX7_clamp_1 : decode cX7_clamp 1 = .ok (.iconst 1, 1) := by decide +kernel
theorem dX7_clamp_2 : decode cX7_clamp 2 = .ok (.if_icmp .lt 20, 3) := by decide +kernel
theorem dX7_clamp_5 : decode cX7_clamp 5 = .ok (.iload_n 1, 1) := by decide +kernel
theorem dX7_clamp_6 : decode cX7_clamp 6 = .ok (.bipush 8, 2) := by decide +kernel
theorem dX7_clamp_8 : decode cX7_clamp 8 = .ok (.if_icmp .gt 14, 3) := by decide +kernel
theorem dX7_clamp_11 : decode cX7_clamp 11 = .ok (.iload_n 2, 1) := by decide +kernel
theorem dX7_clamp_12 : decode cX7_clamp 12 = .ok (.iconst 1, 1) := by decide +kernel
theorem dX7_clamp_13 : decode cX7_clamp 13 = .ok (.if_icmp .lt 9, 3) := by decide +kernel
theorem dX7_clamp_16 : decode cX7_clamp 16 = .ok (.iload_n 2, 1) := by decide +kernel
theorem dX7_clamp_17 : decode cX7_clamp 17 = .ok (.bipush 8, 2) := by decide +kernel
theorem dX7_clamp_19 : decode cX7_clamp 19 = .ok (.if_icmp .le 5, 3) := by decide +kernel
theorem dX7_clamp_22 : decode cX7_clamp 22 = .ok (.iconst 0, 1) := by decide +kernel
theorem dX7_clamp_23 : decode cX7_clamp 23 = .ok (.ireturn, 1) := by decide +kernel
theorem dX7_clamp_24 : decode cX7_clamp 24 = .ok (.aload_n 0, 1) := by decide +kernel
theorem dX7_clamp_25 : decode cX7_clamp 25 = .ok (.getfield 10, 3) := by decide +kernel
theorem dX7_clamp_28 : decode cX7_clamp 28 = .ok (.iload_n 1, 1) := by decide +kernel
theorem dX7_clamp_29 : decode cX7_clamp 29 = .ok (.iload_n 2, 1) := by decide +kernel
theorem dX7_clamp_30 : decode cX7_clamp 30 = .ok (.invokevirtual 72, 3) := by decide +kernel
theorem dX7_clamp_33 : decode cX7_clamp 33 = .ok (.aload_n 0, 1) := by decide +kernel
theorem dX7_clamp_34 : decode cX7_clamp 34 = .ok (.getfield 19, 3) := by decide +kernel
theorem dX7_clamp_37 : decode cX7_clamp 37 = .ok (.invokevirtual 76, 3) := by decide +kernel
theorem dX7_clamp_40 : decode cX7_clamp 40 = .ok (.aload_n 0, 1) := by decide +kernel
theorem dX7_clamp_41 : decode cX7_clamp 41 = .ok (.getfield 26, 3) := by decide +kernel
theorem dX7_clamp_44 : decode cX7_clamp 44 = .ok (.invokevirtual 79, 3) := by decide +kernel
theorem dX7_clamp_47 : decode cX7_clamp 47 = .ok (.aload_n 0, 1) := by decide +kernel
theorem dX7_clamp_48 : decode cX7_clamp 48 = .ok (.iconst 0, 1) := by decide +kernel
theorem dX7_clamp_49 : decode cX7_clamp 49 = .ok (.putfield 60, 3) := by decide +kernel
theorem dX7_clamp_52 : decode cX7_clamp 52 = .ok (.iconst 1, 1) := by decide +kernel
theorem dX7_clamp_53 : decode cX7_clamp 53 = .ok (.ireturn, 1) := by decide +kernel
set_option maxRecDepth 20000 in
theorem ggX7_lay_X2_holds : GoodIn wsX7_lay wsX2_holds := goodIn_r _ [7, 8, 9, 43, 44, 45, 46, 47, 48, 49, 50, 51, 52, 53, 54, 55, 56, 57, 58, 59, 60, 61] (by decide +kernel) (by decide +kernel)
set_option maxRecDepth 20000 in
theorem gX7_lay_X2_holds : GoodIn wsX7_lay (wsV RX7 80 RX2 yX2_holds wsX2_holds) := goodIn_app (goodIn_of _ (by decide +kernel)) ggX7_lay_X2_holds
set_option maxRecDepth 20000 in
theorem ggX7_lay_X2_isKind : GoodIn wsX7_lay wsX2_isKind := goodIn_r _ [12, 13] (by decide +kernel) (by decide +kernel)
set_option maxRecDepth 20000 in
theorem gX7_lay_X2_isKind : GoodIn wsX7_lay (va_wsS RX7 84 yX2_isKind wsX2_isKind) := goodIn_app (goodIn_of _ (by decide +kernel)) ggX7_lay_X2_isKind
set_option maxRecDepth 20000 in
theorem ggX7_lay_X2_at : GoodIn wsX7_lay wsX2_at := goodIn_r _ [17, 9, 43, 44, 45, 46, 47, 48, 49, 50, 51, 52, 53, 54, 55, 56, 57, 58, 59, 60, 61] (by decide +kernel) (by decide +kernel)
set_option maxRecDepth 20000 in
theorem gX7_lay_X2_at : GoodIn wsX7_lay (wsV RX7 88 RX2 yX2_at wsX2_at) := goodIn_app (goodIn_of _ (by decide +kernel)) ggX7_lay_X2_at
set_option maxRecDepth 20000 in
theorem ggX7_lay_X2_fill : GoodIn wsX7_lay wsX2_fill := goodIn_r _ [21, 22, 23, 24, 25, 26, 27, 28, 29, 30, 31, 6, 32, 13, 43, 44, 45, 46, 47, 48, 49, 50, 51, 52, 53, 54, 55, 56, 57, 58, 59, 60, 61] (by decide +kernel) (by decide +kernel)
set_option maxRecDepth 20000 in
theorem gX7_lay_X2_fill : GoodIn wsX7_lay (wsV RX7 92 RX2 yX2_fill wsX2_fill) := goodIn_app (goodIn_of _ (by decide +kernel)) ggX7_lay_X2_fill
theorem dX7_lay_0 : decode cX7_lay 0 = .ok (.aload_n 0, 1) := by decide +kernel
theorem dX7_lay_1 : decode cX7_lay 1 = .ok (.getfield 60, 3) := by decide +kernel
theorem dX7_lay_4 : decode cX7_lay 4 = .ok (.ifCond .ne 22, 3) := by decide +kernel
theorem dX7_lay_7 : decode cX7_lay 7 = .ok (.aload_n 0, 1) := by decide +kernel
theorem dX7_lay_8 : decode cX7_lay 8 = .ok (.getfield 10, 3) := by decide +kernel
theorem dX7_lay_11 : decode cX7_lay 11 = .ok (.iload_n 1, 1) := by decide +kernel
theorem dX7_lay_12 : decode cX7_lay 12 = .ok (.iload_n 2, 1) := by decide +kernel
theorem dX7_lay_13 : decode cX7_lay 13 = .ok (.invokevirtual 80, 3) := by decide +kernel
theorem dX7_lay_16 : decode cX7_lay 16 = .ok (.ifCond .eq 10, 3) := by decide +kernel
theorem dX7_lay_19 : decode cX7_lay 19 = .ok (.iload_n 3, 1) := by decide +kernel
theorem dX7_lay_20 : decode cX7_lay 20 = .ok (.invokestatic 84, 3) := by decide +kernel
theorem dX7_lay_23 : decode cX7_lay 23 = .ok (.ifCond .ne 5, 3) := by decide +kernel
theorem dX7_lay_26 : decode cX7_lay 26 = .ok (.iconst (-1), 1) := by decide +kernel
theorem dX7_lay_27 : decode cX7_lay 27 = .ok (.ireturn, 1) := by decide +kernel
theorem dX7_lay_28 : decode cX7_lay 28 = .ok (.aload_n 0, 1) := by decide +kernel
theorem dX7_lay_29 : decode cX7_lay 29 = .ok (.getfield 10, 3) := by decide +kernel
theorem dX7_lay_32 : decode cX7_lay 32 = .ok (.aload_n 0, 1) := by decide +kernel
theorem dX7_lay_33 : decode cX7_lay 33 = .ok (.getfield 10, 3) := by decide +kernel
theorem dX7_lay_36 : decode cX7_lay 36 = .ok (.iload_n 1, 1) := by decide +kernel
theorem dX7_lay_37 : decode cX7_lay 37 = .ok (.iload_n 2, 1) := by decide +kernel
theorem dX7_lay_38 : decode cX7_lay 38 = .ok (.invokevirtual 88, 3) := by decide +kernel
theorem dX7_lay_41 : decode cX7_lay 41 = .ok (.iload_n 3, 1) := by decide +kernel
theorem dX7_lay_42 : decode cX7_lay 42 = .ok (.invokevirtual 92, 3) := by decide +kernel
theorem dX7_lay_45 : decode cX7_lay 45 = .ok (.ireturn, 1) := by decide +kernel
set_option maxRecDepth 20000 in
theorem ggX7_layRow_X2_holds : GoodIn wsX7_layRow wsX2_holds := goodIn_r _ [8, 9, 10, 48, 49, 50, 51, 52, 53, 54, 55, 56, 57, 58, 59, 60, 61, 62, 63, 64, 65, 66] (by decide +kernel) (by decide +kernel)
set_option maxRecDepth 20000 in
theorem gX7_layRow_X2_holds : GoodIn wsX7_layRow (wsV RX7 80 RX2 yX2_holds wsX2_holds) := goodIn_app (goodIn_of _ (by decide +kernel)) ggX7_layRow_X2_holds
set_option maxRecDepth 20000 in
theorem ggX7_layRow_X7_narrowed : GoodIn wsX7_layRow wsX7_narrowed := goodIn_r _ [14] (by decide +kernel) (by decide +kernel)
set_option maxRecDepth 20000 in
theorem gX7_layRow_X7_narrowed : GoodIn wsX7_layRow (va_wsS RX7 98 yX7_narrowed wsX7_narrowed) := goodIn_app (goodIn_of _ (by decide +kernel)) ggX7_layRow_X7_narrowed
set_option maxRecDepth 20000 in
theorem ggX7_layRow_X2_isKind : GoodIn wsX7_layRow wsX2_isKind := goodIn_r _ [17, 18] (by decide +kernel) (by decide +kernel)
set_option maxRecDepth 20000 in
theorem gX7_layRow_X2_isKind : GoodIn wsX7_layRow (va_wsS RX7 84 yX2_isKind wsX2_isKind) := goodIn_app (goodIn_of _ (by decide +kernel)) ggX7_layRow_X2_isKind
set_option maxRecDepth 20000 in
theorem ggX7_layRow_X2_at : GoodIn wsX7_layRow wsX2_at := goodIn_r _ [22, 10, 48, 49, 50, 51, 52, 53, 54, 55, 56, 57, 58, 59, 60, 61, 62, 63, 64, 65, 66] (by decide +kernel) (by decide +kernel)
set_option maxRecDepth 20000 in
theorem gX7_layRow_X2_at : GoodIn wsX7_layRow (wsV RX7 88 RX2 yX2_at wsX2_at) := goodIn_app (goodIn_of _ (by decide +kernel)) ggX7_layRow_X2_at
set_option maxRecDepth 20000 in
theorem ggX7_layRow_X2_fill : GoodIn wsX7_layRow wsX2_fill := goodIn_r _ [26, 27, 28, 29, 30, 31, 32, 33, 34, 35, 36, 7, 37, 18, 48, 49, 50, 51, 52, 53, 54, 55, 56, 57, 58, 59, 60, 61, 62, 63, 64, 65, 66] (by decide +kernel) (by decide +kernel)
set_option maxRecDepth 20000 in
theorem gX7_layRow_X2_fill : GoodIn wsX7_layRow (wsV RX7 92 RX2 yX2_fill wsX2_fill) := goodIn_app (goodIn_of _ (by decide +kernel)) ggX7_layRow_X2_fill
theorem dX7_layRow_0 : decode cX7_layRow 0 = .ok (.aload_n 0, 1) := by decide +kernel
theorem dX7_layRow_1 : decode cX7_layRow 1 = .ok (.getfield 60, 3) := by decide +kernel
theorem dX7_layRow_4 : decode cX7_layRow 4 = .ok (.ifCond .ne 30, 3) := by decide +kernel
theorem dX7_layRow_7 : decode cX7_layRow 7 = .ok (.aload_n 0, 1) := by decide +kernel
theorem dX7_layRow_8 : decode cX7_layRow 8 = .ok (.getfield 10, 3) := by decide +kernel
theorem dX7_layRow_11 : decode cX7_layRow 11 = .ok (.iconst 0, 1) := by decide +kernel
theorem dX7_layRow_12 : decode cX7_layRow 12 = .ok (.iload_n 1, 1) := by decide +kernel
theorem dX7_layRow_13 : decode cX7_layRow 13 = .ok (.invokevirtual 80, 3) := by decide +kernel
theorem dX7_layRow_16 : decode cX7_layRow 16 = .ok (.ifCond .eq 18, 3) := by decide +kernel
theorem dX7_layRow_19 : decode cX7_layRow 19 = .ok (.iload_n 2, 1) := by decide +kernel
theorem dX7_layRow_20 : decode cX7_layRow 20 = .ok (.ifCond .lt 14, 3) := by decide +kernel
theorem dX7_layRow_23 : decode cX7_layRow 23 = .ok (.iload_n 2, 1) := by decide +kernel
theorem dX7_layRow_24 : decode cX7_layRow 24 = .ok (.iconst 3, 1) := by decide +kernel
theorem dX7_layRow_25 : decode cX7_layRow 25 = .ok (.if_icmp .gt 9, 3) := by decide +kernel
theorem dX7_layRow_28 : decode cX7_layRow 28 = .ok (.iload_n 3, 1) := by decide +kernel
theorem dX7_layRow_29 : decode cX7_layRow 29 = .ok (.bipush 20, 2) := by decide +kernel
theorem dX7_layRow_31 : decode cX7_layRow 31 = .ok (.if_icmp .le 5, 3) := by decide +kernel
theorem dX7_layRow_34 : decode cX7_layRow 34 = .ok (.iconst (-1), 1) := by decide +kernel
theorem dX7_layRow_35 : decode cX7_layRow 35 = .ok (.ireturn, 1) := by decide +kernel
theorem dX7_layRow_36 : decode cX7_layRow 36 = .ok (.iload_n 2, 1) := by decide +kernel
theorem dX7_layRow_37 : decode cX7_layRow 37 = .ok (.iconst 3, 1) := by decide +kernel
theorem dX7_layRow_38 : decode cX7_layRow 38 = .ok (.if_icmp .ne 5, 3) := by decide +kernel
theorem dX7_layRow_41 : decode cX7_layRow 41 = .ok (.iconst 0, 1) := by decide +kernel
theorem dX7_layRow_42 : decode cX7_layRow 42 = .ok (.ireturn, 1) := by decide +kernel
theorem dX7_layRow_43 : decode cX7_layRow 43 = .ok (.iload_n 3, 1) := by decide +kernel
theorem dX7_layRow_44 : decode cX7_layRow 44 = .ok (.ifCond .ge 6, 3) := by decide +kernel
theorem dX7_layRow_47 : decode cX7_layRow 47 = .ok (.bipush (-2), 2) := by decide +kernel
theorem dX7_layRow_49 : decode cX7_layRow 49 = .ok (.ireturn, 1) := by decide +kernel
theorem dX7_layRow_50 : decode cX7_layRow 50 = .ok (.iconst 0, 1) := by decide +kernel
theorem dX7_layRow_51 : decode cX7_layRow 51 = .ok (.istore 6, 2) := by decide +kernel
theorem dX7_layRow_53 : decode cX7_layRow 53 = .ok (.iload 4, 2) := by decide +kernel
theorem dX7_layRow_55 : decode cX7_layRow 55 = .ok (.istore 7, 2) := by decide +kernel
theorem dX7_layRow_57 : decode cX7_layRow 57 = .ok (.iload 6, 2) := by decide +kernel
theorem dX7_layRow_59 : decode cX7_layRow 59 = .ok (.iload_n 3, 1) := by decide +kernel
theorem dX7_layRow_60 : decode cX7_layRow 60 = .ok (.if_icmp .ge 64, 3) := by decide +kernel
theorem dX7_layRow_63 : decode cX7_layRow 63 = .ok (.iload 6, 2) := by decide +kernel
theorem dX7_layRow_65 : decode cX7_layRow 65 = .ok (.aload_n 0, 1) := by decide +kernel
theorem dX7_layRow_66 : decode cX7_layRow 66 = .ok (.getfield 10, 3) := by decide +kernel
theorem dX7_layRow_69 : decode cX7_layRow 69 = .ok (.getfield 95, 3) := by decide +kernel
theorem dX7_layRow_72 : decode cX7_layRow 72 = .ok (.if_icmp .ge 52, 3) := by decide +kernel
theorem dX7_layRow_75 : decode cX7_layRow 75 = .ok (.iload 7, 2) := by decide +kernel
theorem dX7_layRow_77 : decode cX7_layRow 77 = .ok (.iload_n 2, 1) := by decide +kernel
theorem dX7_layRow_78 : decode cX7_layRow 78 = .ok (.invokestatic 98, 3) := by decide +kernel
theorem dX7_layRow_81 : decode cX7_layRow 81 = .ok (.invokestatic 84, 3) := by decide +kernel
theorem dX7_layRow_84 : decode cX7_layRow 84 = .ok (.ifCond .eq 40, 3) := by decide +kernel
theorem dX7_layRow_87 : decode cX7_layRow 87 = .ok (.aload_n 0, 1) := by decide +kernel
theorem dX7_layRow_88 : decode cX7_layRow 88 = .ok (.getfield 10, 3) := by decide +kernel
theorem dX7_layRow_91 : decode cX7_layRow 91 = .ok (.aload_n 0, 1) := by decide +kernel
theorem dX7_layRow_92 : decode cX7_layRow 92 = .ok (.getfield 10, 3) := by decide +kernel
theorem dX7_layRow_95 : decode cX7_layRow 95 = .ok (.iload 6, 2) := by decide +kernel
theorem dX7_layRow_97 : decode cX7_layRow 97 = .ok (.iload_n 1, 1) := by decide +kernel
theorem dX7_layRow_98 : decode cX7_layRow 98 = .ok (.invokevirtual 88, 3) := by decide +kernel
theorem dX7_layRow_101 : decode cX7_layRow 101 = .ok (.iload 7, 2) := by decide +kernel
theorem dX7_layRow_103 : decode cX7_layRow 103 = .ok (.iload_n 2, 1) := by decide +kernel
theorem dX7_layRow_104 : decode cX7_layRow 104 = .ok (.invokestatic 98, 3) := by decide +kernel
theorem dX7_layRow_107 : decode cX7_layRow 107 = .ok (.invokevirtual 92, 3) := by decide +kernel
theorem dX7_layRow_110 : decode cX7_layRow 110 = .ok (.pop, 1) := by decide +kernel
theorem dX7_layRow_111 : decode cX7_layRow 111 = .ok (.iinc 6 1, 3) := by decide +kernel
theorem dX7_layRow_114 : decode cX7_layRow 114 = .ok (.iload 7, 2) := by decide +kernel
theorem dX7_layRow_116 : decode cX7_layRow 116 = .ok (.iload 5, 2) := by decide +kernel
theorem dX7_layRow_118 : decode cX7_layRow 118 = .ok (.iadd, 1) := by decide +kernel
theorem dX7_layRow_119 : decode cX7_layRow 119 = .ok (.istore 7, 2) := by decide +kernel
theorem dX7_layRow_121 : decode cX7_layRow 121 = .ok (.goto (-64), 3) := by decide +kernel
theorem dX7_layRow_124 : decode cX7_layRow 124 = .ok (.iload 6, 2) := by decide +kernel
theorem dX7_layRow_126 : decode cX7_layRow 126 = .ok (.ireturn, 1) := by decide +kernel
theorem dX7_narrowed_0 : decode cX7_narrowed 0 = .ok (.iload_n 1, 1) := by decide +kernel
theorem dX7_narrowed_1 : decode cX7_narrowed 1 = .ok (.ifCond .ne 6, 3) := by decide +kernel
theorem dX7_narrowed_4 : decode cX7_narrowed 4 = .ok (.iload_n 0, 1) := by decide +kernel
theorem dX7_narrowed_5 : decode cX7_narrowed 5 = .ok (.i2b, 1) := by decide +kernel
theorem dX7_narrowed_6 : decode cX7_narrowed 6 = .ok (.ireturn, 1) := by decide +kernel
theorem dX7_narrowed_7 : decode cX7_narrowed 7 = .ok (.iload_n 1, 1) := by decide +kernel
theorem dX7_narrowed_8 : decode cX7_narrowed 8 = .ok (.iconst 1, 1) := by decide +kernel
theorem dX7_narrowed_9 : decode cX7_narrowed 9 = .ok (.if_icmp .ne 8, 3) := by decide +kernel
theorem dX7_narrowed_12 : decode cX7_narrowed 12 = .ok (.iload_n 0, 1) := by decide +kernel
theorem dX7_narrowed_13 : decode cX7_narrowed 13 = .ok (.i2s, 1) := by decide +kernel
theorem dX7_narrowed_14 : decode cX7_narrowed 14 = .ok (.goto 4, 3) := by decide +kernel
theorem dX7_narrowed_17 : decode cX7_narrowed 17 = .ok (.iload_n 0, 1) := by decide +kernel
theorem dX7_narrowed_18 : decode cX7_narrowed 18 = .ok (.ireturn, 1) := by decide +kernel
set_option maxRecDepth 20000 in
theorem ggX7_hole_X2_isOutsideAt : GoodIn wsX7_hole wsX2_isOutsideAt := goodIn_r _ [8, 9, 10, 11, 12, 7, 13, 14, 15, 16, 17, 18, 19, 39, 40, 41, 42, 43, 44, 45, 46, 47, 48, 49, 50, 51, 52, 53, 54, 55, 56, 57] (by decide +kernel) (by decide +kernel)
set_option maxRecDepth 20000 in
theorem gX7_hole_X2_isOutsideAt : GoodIn wsX7_hole (wsV RX7 101 RX2 yX2_isOutsideAt wsX2_isOutsideAt) := goodIn_app (goodIn_of _ (by decide +kernel)) ggX7_hole_X2_isOutsideAt
set_option maxRecDepth 20000 in
theorem ggX7_hole_X2_at : GoodIn wsX7_hole wsX2_at := goodIn_r _ [19, 15, 39, 40, 41, 42, 43, 44, 45, 46, 47, 48, 49, 50, 51, 52, 53, 54, 55, 56, 57] (by decide +kernel) (by decide +kernel)
set_option maxRecDepth 20000 in
theorem gX7_hole_X2_at : GoodIn wsX7_hole (wsV RX7 88 RX2 yX2_at wsX2_at) := goodIn_app (goodIn_of _ (by decide +kernel)) ggX7_hole_X2_at
set_option maxRecDepth 20000 in
theorem ggX7_hole_X1_bore : GoodIn wsX7_hole wsX1_bore := goodIn_r _ [25, 26, 27, 28, 58, 59, 60, 61] (by decide +kernel) (by decide +kernel)
set_option maxRecDepth 20000 in
theorem gX7_hole_X1_bore : GoodIn wsX7_hole (wsV RX7 104 RX1 yX1_bore wsX1_bore) := goodIn_app (goodIn_of _ (by decide +kernel)) ggX7_hole_X1_bore
theorem dX7_hole_0 : decode cX7_hole 0 = .ok (.aload_n 0, 1) := by decide +kernel
theorem dX7_hole_1 : decode cX7_hole 1 = .ok (.getfield 60, 3) := by decide +kernel
theorem dX7_hole_4 : decode cX7_hole 4 = .ok (.ifCond .ne 15, 3) := by decide +kernel
theorem dX7_hole_7 : decode cX7_hole 7 = .ok (.aload_n 0, 1) := by decide +kernel
theorem dX7_hole_8 : decode cX7_hole 8 = .ok (.getfield 10, 3) := by decide +kernel
theorem dX7_hole_11 : decode cX7_hole 11 = .ok (.iload_n 1, 1) := by decide +kernel
theorem dX7_hole_12 : decode cX7_hole 12 = .ok (.iload_n 2, 1) := by decide +kernel
theorem dX7_hole_13 : decode cX7_hole 13 = .ok (.invokevirtual 101, 3) := by decide +kernel
theorem dX7_hole_16 : decode cX7_hole 16 = .ok (.ifCond .ne 5, 3) := by decide +kernel
theorem dX7_hole_19 : decode cX7_hole 19 = .ok (.iconst (-1), 1) := by decide +kernel
theorem dX7_hole_20 : decode cX7_hole 20 = .ok (.ireturn, 1) := by decide +kernel
theorem dX7_hole_21 : decode cX7_hole 21 = .ok (.aload_n 0, 1) := by decide +kernel
theorem dX7_hole_22 : decode cX7_hole 22 = .ok (.getfield 19, 3) := by decide +kernel
theorem dX7_hole_25 : decode cX7_hole 25 = .ok (.aload_n 0, 1) := by decide +kernel
theorem dX7_hole_26 : decode cX7_hole 26 = .ok (.getfield 10, 3) := by decide +kernel
theorem dX7_hole_29 : decode cX7_hole 29 = .ok (.iload_n 1, 1) := by decide +kernel
theorem dX7_hole_30 : decode cX7_hole 30 = .ok (.iload_n 2, 1) := by decide +kernel
theorem dX7_hole_31 : decode cX7_hole 31 = .ok (.invokevirtual 88, 3) := by decide +kernel
theorem dX7_hole_34 : decode cX7_hole 34 = .ok (.invokevirtual 104, 3) := by decide +kernel
theorem dX7_hole_37 : decode cX7_hole 37 = .ok (.ireturn, 1) := by decide +kernel
set_option maxRecDepth 20000 in
theorem ggX7_light_X2_keepCover : GoodIn wsX7_light wsX2_keepCover := goodIn_r _ [10, 11, 12, 13, 14, 15, 16, 51, 52, 53, 54, 55, 56, 57, 58, 59, 60, 61, 62, 63, 64, 65, 66, 67, 68, 69] (by decide +kernel) (by decide +kernel)
set_option maxRecDepth 20000 in
theorem gX7_light_X2_keepCover : GoodIn wsX7_light (wsV RX7 112 RX2 yX2_keepCover wsX2_keepCover) := goodIn_app (goodIn_of _ (by decide +kernel)) ggX7_light_X2_keepCover
set_option maxRecDepth 20000 in
theorem ggX7_light_X1_keepOpen : GoodIn wsX7_light wsX1_keepOpen := goodIn_r _ [21, 22, 23, 24, 70, 71, 72, 73] (by decide +kernel) (by decide +kernel)
set_option maxRecDepth 20000 in
theorem gX7_light_X1_keepOpen : GoodIn wsX7_light (wsV RX7 115 RX1 yX1_keepOpen wsX1_keepOpen) := goodIn_app (goodIn_of _ (by decide +kernel)) ggX7_light_X1_keepOpen
set_option maxRecDepth 20000 in
theorem ggX7_light_X4_actFromFirstHour : GoodIn wsX7_light wsX4_actFromFirstHour := goodIn_r _ [29, 30, 31, 32, 33, 34, 74, 75, 76, 77, 78, 79, 80, 81, 82] (by decide +kernel) (by decide +kernel)
set_option maxRecDepth 20000 in
theorem gX7_light_X4_actFromFirstHour : GoodIn wsX7_light (wsV RX7 118 RX4 yX4_actFromFirstHour wsX4_actFromFirstHour) := goodIn_app (goodIn_of _ (by decide +kernel)) ggX7_light_X4_actFromFirstHour
set_option maxRecDepth 20000 in
theorem ggX7_light_X2_setAlight : GoodIn wsX7_light wsX2_setAlight := goodIn_r _ [38, 39, 40, 51, 52, 53, 54, 55, 56, 57, 58, 59, 60, 61, 62, 63, 64, 65, 66, 67, 68, 69] (by decide +kernel) (by decide +kernel)
set_option maxRecDepth 20000 in
theorem gX7_light_X2_setAlight : GoodIn wsX7_light (wsV RX7 121 RX2 yX2_setAlight wsX2_setAlight) := goodIn_app (goodIn_of _ (by decide +kernel)) ggX7_light_X2_setAlight
theorem dX7_light_0 : decode cX7_light 0 = .ok (.aload_n 0, 1) := by decide +kernel
theorem dX7_light_1 : decode cX7_light 1 = .ok (.getfield 60, 3) := by decide +kernel
theorem dX7_light_4 : decode cX7_light 4 = .ok (.ifCond .ne 15, 3) := by decide +kernel
theorem dX7_light_7 : decode cX7_light 7 = .ok (.aload_n 0, 1) := by decide +kernel
theorem dX7_light_8 : decode cX7_light 8 = .ok (.getfield 10, 3) := by decide +kernel
theorem dX7_light_11 : decode cX7_light 11 = .ok (.getfield 108, 3) := by decide +kernel
theorem dX7_light_14 : decode cX7_light 14 = .ok (.iconst 0, 1) := by decide +kernel
theorem dX7_light_15 : decode cX7_light 15 = .ok (.iaload, 1) := by decide +kernel
theorem dX7_light_16 : decode cX7_light 16 = .ok (.ifCond .ne 5, 3) := by decide +kernel
theorem dX7_light_19 : decode cX7_light 19 = .ok (.iconst 0, 1) := by decide +kernel
theorem dX7_light_20 : decode cX7_light 20 = .ok (.ireturn, 1) := by decide +kernel
theorem dX7_light_21 : decode cX7_light 21 = .ok (.aload_n 0, 1) := by decide +kernel
theorem dX7_light_22 : decode cX7_light 22 = .ok (.iconst 1, 1) := by decide +kernel
theorem dX7_light_23 : decode cX7_light 23 = .ok (.putfield 60, 3) := by decide +kernel
theorem dX7_light_26 : decode cX7_light 26 = .ok (.aload_n 0, 1) := by decide +kernel
theorem dX7_light_27 : decode cX7_light 27 = .ok (.getfield 10, 3) := by decide +kernel
theorem dX7_light_30 : decode cX7_light 30 = .ok (.invokevirtual 112, 3) := by decide +kernel
theorem dX7_light_33 : decode cX7_light 33 = .ok (.aload_n 0, 1) := by decide +kernel
theorem dX7_light_34 : decode cX7_light 34 = .ok (.getfield 19, 3) := by decide +kernel
theorem dX7_light_37 : decode cX7_light 37 = .ok (.invokevirtual 115, 3) := by decide +kernel
theorem dX7_light_40 : decode cX7_light 40 = .ok (.aload_n 0, 1) := by decide +kernel
theorem dX7_light_41 : decode cX7_light 41 = .ok (.getfield 40, 3) := by decide +kernel
theorem dX7_light_44 : decode cX7_light 44 = .ok (.invokevirtual 118, 3) := by decide +kernel
theorem dX7_light_47 : decode cX7_light 47 = .ok (.aload_n 0, 1) := by decide +kernel
theorem dX7_light_48 : decode cX7_light 48 = .ok (.getfield 10, 3) := by decide +kernel
theorem dX7_light_51 : decode cX7_light 51 = .ok (.invokevirtual 121, 3) := by decide +kernel
theorem dX7_light_54 : decode cX7_light 54 = .ok (.iconst 1, 1) := by decide +kernel
theorem dX7_light_55 : decode cX7_light 55 = .ok (.ireturn, 1) := by decide +kernel
set_option maxRecDepth 20000 in
theorem ggX7_open_X1_has : GoodIn wsX7_open wsX1_has := goodIn_r _ [6, 7, 48, 49, 50, 51] (by decide +kernel) (by decide +kernel)
set_option maxRecDepth 20000 in
theorem gX7_open_X1_has : GoodIn wsX7_open (wsV RX7 124 RX1 yX1_has wsX1_has) := goodIn_app (goodIn_of _ (by decide +kernel)) ggX7_open_X1_has
set_option maxRecDepth 20000 in
theorem ggX7_open_X7_workByHand : GoodIn wsX7_open wsX7_workByHand := goodIn_r _ [12, 13, 14, 15, 16, 17, 18, 19, 20, 21, 22, 23, 24, 25, 26, 27, 28, 11, 29, 1, 30, 31, 32, 33, 34, 5, 35, 36, 37, 3, 4, 6, 7, 38, 39, 40, 41, 42, 43, 44, 45, 46, 47, 52, 53, 54, 55, 56, 57, 58, 59, 60, 61, 62, 63, 64, 65, 66, 67, 68, 69, 70, 71, 72, 73, 74, 75, 76, 77, 78, 79, 80, 81, 82, 48, 49, 50, 51] (by decide +kernel) (by decide +kernel)
set_option maxRecDepth 20000 in
theorem gX7_open_X7_workByHand : GoodIn wsX7_open (wsV RX7 127 RX7 yX7_workByHand wsX7_workByHand) := goodIn_app (goodIn_of _ (by decide +kernel)) ggX7_open_X7_workByHand
theorem dX7_open_0 : decode cX7_open 0 = .ok (.aload_n 0, 1) := by decide +kernel
theorem dX7_open_1 : decode cX7_open 1 = .ok (.getfield 19, 3) := by decide +kernel
theorem dX7_open_4 : decode cX7_open 4 = .ok (.iload_n 1, 1) := by decide +kernel
theorem dX7_open_5 : decode cX7_open 5 = .ok (.invokevirtual 124, 3) := by decide +kernel
theorem dX7_open_8 : decode cX7_open 8 = .ok (.ifCond .eq 25, 3) := by decide +kernel
theorem dX7_open_11 : decode cX7_open 11 = .ok (.aload_n 0, 1) := by decide +kernel
theorem dX7_open_12 : decode cX7_open 12 = .ok (.iconst 0, 1) := by decide +kernel
theorem dX7_open_13 : decode cX7_open 13 = .ok (.iload_n 1, 1) := by decide +kernel
theorem dX7_open_14 : decode cX7_open 14 = .ok (.iload_n 2, 1) := by decide +kernel
theorem dX7_open_15 : decode cX7_open 15 = .ok (.ifCond .eq 7, 3) := by decide +kernel
theorem dX7_open_18 : decode cX7_open 18 = .ok (.iconst 1, 1) := by decide +kernel
theorem dX7_open_19 : decode cX7_open 19 = .ok (.goto 4, 3) := by decide +kernel
theorem dX7_open_22 : decode cX7_open 22 = .ok (.iconst 0, 1) := by decide +kernel
theorem dX7_open_23 : decode cX7_open 23 = .ok (.invokevirtual 127, 3) := by decide +kernel
theorem dX7_open_26 : decode cX7_open 26 = .ok (.ifCond .eq 7, 3) := by decide +kernel
theorem dX7_open_29 : decode cX7_open 29 = .ok (.iconst 1, 1) := by decide +kernel
theorem dX7_open_30 : decode cX7_open 30 = .ok (.goto 4, 3) := by decide +kernel
theorem dX7_open_33 : decode cX7_open 33 = .ok (.iconst 0, 1) := by decide +kernel
theorem dX7_open_34 : decode cX7_open 34 = .ok (.ireturn, 1) := by decide +kernel
set_option maxRecDepth 20000 in
theorem ggX7_cover_X2_isOutsideAt : GoodIn wsX7_cover wsX2_isOutsideAt := goodIn_r _ [6, 7, 8, 9, 10, 5, 11, 12, 13, 14, 15, 16, 17, 64, 65, 66, 67, 68, 69, 70, 71, 72, 73, 74, 75, 76, 77, 78, 79, 80, 81, 82] (by decide +kernel) (by decide +kernel)
set_option maxRecDepth 20000 in
theorem gX7_cover_X2_isOutsideAt : GoodIn wsX7_cover (wsV RX7 101 RX2 yX2_isOutsideAt wsX2_isOutsideAt) := goodIn_app (goodIn_of _ (by decide +kernel)) ggX7_cover_X2_isOutsideAt
set_option maxRecDepth 20000 in
theorem ggX7_cover_X2_at : GoodIn wsX7_cover wsX2_at := goodIn_r _ [17, 13, 64, 65, 66, 67, 68, 69, 70, 71, 72, 73, 74, 75, 76, 77, 78, 79, 80, 81, 82] (by decide +kernel) (by decide +kernel)
set_option maxRecDepth 20000 in
theorem gX7_cover_X2_at : GoodIn wsX7_cover (wsV RX7 88 RX2 yX2_at wsX2_at) := goodIn_app (goodIn_of _ (by decide +kernel)) ggX7_cover_X2_at
set_option maxRecDepth 20000 in
theorem ggX7_cover_X7_workByHand : GoodIn wsX7_cover wsX7_workByHand := goodIn_r _ [23, 24, 25, 26, 27, 28, 29, 30, 31, 32, 33, 34, 35, 36, 37, 38, 39, 22, 40, 41, 1, 42, 43, 44, 45, 46, 47, 48, 49, 50, 51, 52, 53, 54, 55, 56, 57, 58, 59, 60, 61, 62, 63, 83, 84, 85, 86, 87, 88, 89, 90, 91, 92, 93, 94, 64, 65, 66, 67, 68, 69, 70, 71, 72, 73, 74, 75, 76, 77, 78, 79, 80, 81, 82, 95, 96, 97, 98] (by decide +kernel) (by decide +kernel)
set_option maxRecDepth 20000 in
theorem gX7_cover_X7_workByHand : GoodIn wsX7_cover (wsV RX7 127 RX7 yX7_workByHand wsX7_workByHand) := goodIn_app (goodIn_of _ (by decide +kernel)) ggX7_cover_X7_workByHand
theorem dX7_cover_0 : decode cX7_cover 0 = .ok (.iload_n 3, 1) := by decide +kernel
theorem dX7_cover_1 : decode cX7_cover 1 = .ok (.ifCond .lt 21, 3) := by decide +kernel
theorem dX7_cover_4 : decode cX7_cover 4 = .ok (.iload_n 3, 1) := by decide +kernel
theorem dX7_cover_5 : decode cX7_cover 5 = .ok (.bipush 9, 2) := by decide +kernel
theorem dX7_cover_7 : decode cX7_cover 7 = .ok (.if_icmp .gt 15, 3) := by decide +kernel
theorem dX7_cover_10 : decode cX7_cover 10 = .ok (.aload_n 0, 1) := by decide +kernel
theorem dX7_cover_11 : decode cX7_cover 11 = .ok (.getfield 10, 3) := by decide +kernel
theorem dX7_cover_14 : decode cX7_cover 14 = .ok (.iload_n 1, 1) := by decide +kernel
theorem dX7_cover_15 : decode cX7_cover 15 = .ok (.iload_n 2, 1) := by decide +kernel
theorem dX7_cover_16 : decode cX7_cover 16 = .ok (.invokevirtual 101, 3) := by decide +kernel
theorem dX7_cover_19 : decode cX7_cover 19 = .ok (.ifCond .ne 5, 3) := by decide +kernel
theorem dX7_cover_22 : decode cX7_cover 22 = .ok (.iconst 0, 1) := by decide +kernel
theorem dX7_cover_23 : decode cX7_cover 23 = .ok (.ireturn, 1) := by decide +kernel
theorem dX7_cover_24 : decode cX7_cover 24 = .ok (.aload_n 0, 1) := by decide +kernel
theorem dX7_cover_25 : decode cX7_cover 25 = .ok (.iconst 1, 1) := by decide +kernel
theorem dX7_cover_26 : decode cX7_cover 26 = .ok (.aload_n 0, 1) := by decide +kernel
theorem dX7_cover_27 : decode cX7_cover 27 = .ok (.getfield 10, 3) := by decide +kernel
theorem dX7_cover_30 : decode cX7_cover 30 = .ok (.iload_n 1, 1) := by decide +kernel
theorem dX7_cover_31 : decode cX7_cover 31 = .ok (.iload_n 2, 1) := by decide +kernel
theorem dX7_cover_32 : decode cX7_cover 32 = .ok (.invokevirtual 88, 3) := by decide +kernel
theorem dX7_cover_35 : decode cX7_cover 35 = .ok (.iload_n 3, 1) := by decide +kernel
theorem dX7_cover_36 : decode cX7_cover 36 = .ok (.invokevirtual 127, 3) := by decide +kernel
theorem dX7_cover_39 : decode cX7_cover 39 = .ok (.ireturn, 1) := by decide +kernel
set_option maxRecDepth 20000 in
theorem ggX7_workByHand_X0_keepAct : GoodIn wsX7_workByHand wsX0_keepAct := goodIn_r _ [7, 8, 9, 10, 11, 12, 13, 43, 44, 45, 46, 47, 48, 49, 50, 51, 52, 53, 54] (by decide +kernel) (by decide +kernel)
set_option maxRecDepth 20000 in
theorem gX7_workByHand_X0_keepAct : GoodIn wsX7_workByHand (wsV RX7 131 RX0 yX0_keepAct wsX0_keepAct) := goodIn_app (goodIn_of _ (by decide +kernel)) ggX7_workByHand_X0_keepAct
set_option maxRecDepth 20000 in
theorem ggX7_workByHand_X7_handle : GoodIn wsX7_workByHand wsX7_handle := goodIn_r _ [18, 19, 20, 21, 22, 23, 24, 25, 26, 27, 28, 29, 30, 31, 32, 33, 34, 35, 36, 37, 38, 39, 40, 41, 42, 55, 56, 57, 58, 59, 60, 61, 62, 63, 64, 65, 66, 67, 68, 69, 70, 71, 72, 73, 74, 75, 76, 77] (by decide +kernel) (by decide +kernel)
set_option maxRecDepth 20000 in
theorem gX7_workByHand_X7_handle : GoodIn wsX7_workByHand (wsV RX7 134 RX7 yX7_handle wsX7_handle) := goodIn_app (goodIn_of _ (by decide +kernel)) ggX7_workByHand_X7_handle
theorem dX7_workByHand_0 : decode cX7_workByHand 0 = .ok (.aload_n 0, 1) := by decide +kernel
theorem dX7_workByHand_1 : decode cX7_workByHand 1 = .ok (.getfield 60, 3) := by decide +kernel
theorem dX7_workByHand_4 : decode cX7_workByHand 4 = .ok (.ifCond .eq 18, 3) := by decide +kernel
theorem dX7_workByHand_7 : decode cX7_workByHand 7 = .ok (.aload_n 0, 1) := by decide +kernel
theorem dX7_workByHand_8 : decode cX7_workByHand 8 = .ok (.getfield 26, 3) := by decide +kernel
theorem dX7_workByHand_11 : decode cX7_workByHand 11 = .ok (.iload_n 1, 1) := by decide +kernel
theorem dX7_workByHand_12 : decode cX7_workByHand 12 = .ok (.iload_n 2, 1) := by decide +kernel
theorem dX7_workByHand_13 : decode cX7_workByHand 13 = .ok (.iload_n 3, 1) := by decide +kernel
theorem dX7_workByHand_14 : decode cX7_workByHand 14 = .ok (.invokevirtual 131, 3) := by decide +kernel
theorem dX7_workByHand_17 : decode cX7_workByHand 17 = .ok (.ifCond .ne 5, 3) := by decide +kernel
theorem dX7_workByHand_20 : decode cX7_workByHand 20 = .ok (.iconst 0, 1) := by decide +kernel
theorem dX7_workByHand_21 : decode cX7_workByHand 21 = .ok (.ireturn, 1) := by decide +kernel
theorem dX7_workByHand_22 : decode cX7_workByHand 22 = .ok (.aload_n 0, 1) := by decide +kernel
theorem dX7_workByHand_23 : decode cX7_workByHand 23 = .ok (.iload_n 1, 1) := by decide +kernel
theorem dX7_workByHand_24 : decode cX7_workByHand 24 = .ok (.iload_n 2, 1) := by decide +kernel
theorem dX7_workByHand_25 : decode cX7_workByHand 25 = .ok (.iload_n 3, 1) := by decide +kernel
theorem dX7_workByHand_26 : decode cX7_workByHand 26 = .ok (.invokevirtual 134, 3) := by decide +kernel
theorem dX7_workByHand_29 : decode cX7_workByHand 29 = .ok (.iconst 1, 1) := by decide +kernel
theorem dX7_workByHand_30 : decode cX7_workByHand 30 = .ok (.ireturn, 1) := by decide +kernel
set_option maxRecDepth 20000 in
theorem ggX7_handle_X1_turn : GoodIn wsX7_handle wsX1_turn := goodIn_r _ [8, 9, 10, 11, 12, 7, 13, 14, 44, 45, 46, 47] (by decide +kernel) (by decide +kernel)
set_option maxRecDepth 20000 in
theorem gX7_handle_X1_turn : GoodIn wsX7_handle (wsV RX7 138 RX1 yX1_turn wsX1_turn) := goodIn_app (goodIn_of _ (by decide +kernel)) ggX7_handle_X1_turn
theorem dX7_handle_0 : decode cX7_handle 0 = .ok (.iload_n 1, 1) := by decide +kernel
theorem dX7_handle_1 : decode cX7_handle 1 = .ok (.ifCond .ne 24, 3) := by decide +kernel
theorem dX7_handle_4 : decode cX7_handle 4 = .ok (.aload_n 0, 1) := by decide +kernel
theorem dX7_handle_5 : decode cX7_handle 5 = .ok (.getfield 19, 3) := by decide +kernel
theorem dX7_handle_8 : decode cX7_handle 8 = .ok (.iload_n 2, 1) := by decide +kernel
theorem dX7_handle_9 : decode cX7_handle 9 = .ok (.iload_n 3, 1) := by decide +kernel
theorem dX7_handle_10 : decode cX7_handle 10 = .ok (.iconst 1, 1) := by decide +kernel
theorem dX7_handle_11 : decode cX7_handle 11 = .ok (.if_icmp .ne 7, 3) := by decide +kernel
theorem dX7_handle_14 : decode cX7_handle 14 = .ok (.iconst 1, 1) := by decide +kernel
theorem dX7_handle_15 : decode cX7_handle 15 = .ok (.goto 4, 3) := by decide +kernel
theorem dX7_handle_18 : decode cX7_handle 18 = .ok (.iconst 0, 1) := by decide +kernel
theorem dX7_handle_19 : decode cX7_handle 19 = .ok (.invokevirtual 138, 3) := by decide +kernel
theorem dX7_handle_22 : decode cX7_handle 22 = .ok (.goto 13, 3) := by decide +kernel
theorem dX7_handle_25 : decode cX7_handle 25 = .ok (.aload_n 0, 1) := by decide +kernel
theorem dX7_handle_26 : decode cX7_handle 26 = .ok (.getfield 10, 3) := by decide +kernel
theorem dX7_handle_29 : decode cX7_handle 29 = .ok (.getfield 142, 3) := by decide +kernel
theorem dX7_handle_32 : decode cX7_handle 32 = .ok (.iload_n 2, 1) := by decide +kernel
theorem dX7_handle_33 : decode cX7_handle 33 = .ok (.iload_n 3, 1) := by decide +kernel
theorem dX7_handle_34 : decode cX7_handle 34 = .ok (.iastore, 1) := by decide +kernel
theorem dX7_handle_35 : decode cX7_handle 35 = .ok (.return_, 1) := by decide +kernel
theorem dX7_watch_0 : decode cX7_watch 0 = .ok (.aload_n 0, 1) := by decide +kernel
theorem dX7_watch_1 : decode cX7_watch 1 = .ok (.getfield 60, 3) := by decide +kernel
theorem dX7_watch_4 : decode cX7_watch 4 = .ok (.ifCond .eq 5, 3) := by decide +kernel
theorem dX7_watch_7 : decode cX7_watch 7 = .ok (.iconst 0, 1) := by decide +kernel
theorem dX7_watch_8 : decode cX7_watch 8 = .ok (.ireturn, 1) := by decide +kernel
theorem dX7_watch_9 : decode cX7_watch 9 = .ok (.aload_n 0, 1) := by decide +kernel
theorem dX7_watch_10 : decode cX7_watch 10 = .ok (.iload_n 1, 1) := by decide +kernel
theorem dX7_watch_11 : decode cX7_watch 11 = .ok (.ldc 64, 2) := by decide +kernel
theorem dX7_watch_13 : decode cX7_watch 13 = .ok (.iand, 1) := by decide +kernel
theorem dX7_watch_14 : decode cX7_watch 14 = .ok (.putfield 65, 3) := by decide +kernel
theorem dX7_watch_17 : decode cX7_watch 17 = .ok (.iconst 1, 1) := by decide +kernel
theorem dX7_watch_18 : decode cX7_watch 18 = .ok (.ireturn, 1) := by decide +kernel
set_option maxRecDepth 20000 in
theorem ggX7_hour_X7_isWeather : GoodIn wsX7_hour wsX7_isWeather := goodIn_r _ [6] (by decide +kernel) (by decide +kernel)
set_option maxRecDepth 20000 in
theorem gX7_hour_X7_isWeather : GoodIn wsX7_hour (va_wsS RX7 145 yX7_isWeather wsX7_isWeather) := goodIn_app (goodIn_of _ (by decide +kernel)) ggX7_hour_X7_isWeather
set_option maxRecDepth 20000 in
theorem ggX7_hour_X0_isFull : GoodIn wsX7_hour wsX0_isFull := goodIn_r _ [11, 12, 197, 198, 199, 200, 201, 202, 203, 204, 205, 206, 207, 208] (by decide +kernel) (by decide +kernel)
set_option maxRecDepth 20000 in
theorem gX7_hour_X0_isFull : GoodIn wsX7_hour (wsV RX7 148 RX0 yX0_isFull wsX0_isFull) := goodIn_app (goodIn_of _ (by decide +kernel)) ggX7_hour_X0_isFull
set_option maxRecDepth 20000 in
theorem ggX7_hour_X7_workHour : GoodIn wsX7_hour wsX7_workHour := goodIn_r _ [16, 17, 18, 2, 19, 20, 21, 22, 23, 24, 25, 26, 27, 28, 29, 30, 31, 32, 33, 34, 35, 36, 37, 38, 39, 40, 41, 42, 43, 44, 45, 46, 47, 48, 49, 50, 51, 52, 53, 54, 55, 56, 57, 58, 59, 60, 61, 62, 63, 64, 65, 66, 67, 68, 69, 70, 71, 72, 73, 74, 75, 76, 77, 78, 79, 80, 81, 82, 83, 84, 85, 86, 87, 88, 89, 90, 91, 92, 93, 94, 95, 96, 97, 98, 99, 100, 101, 102, 103, 104, 105, 106, 107, 108, 109, 110, 111, 5, 112, 113, 114, 115, 116, 117, 118, 119, 120, 121, 122, 123, 124, 125, 126, 127, 128, 129, 130, 131, 132, 133, 134, 135, 136, 137, 138, 139, 140, 141, 142, 143, 144, 145, 146, 147, 148, 149, 150, 151, 152, 153, 154, 155, 156, 157, 158, 159, 160, 161, 162, 163, 164, 165, 166, 167, 168, 169, 170, 171, 172, 173, 174, 175, 176, 177, 178, 10, 179, 180, 12, 181, 182, 183, 184, 185, 186, 8, 9, 11, 187, 188, 189, 190, 191, 192, 193, 194, 195, 196, 197, 198, 199, 200, 201, 202, 203, 204, 205, 206, 207, 208, 209, 210, 211, 212, 213, 214, 215, 216, 217, 218, 219, 220, 221, 222, 223, 224, 225, 226, 227, 228, 229, 230, 231, 232, 233, 234, 235, 236, 237, 238, 239, 240] (by decide +kernel) (by decide +kernel)
set_option maxRecDepth 20000 in
theorem gX7_hour_X7_workHour : GoodIn wsX7_hour (wsV RX7 152 RX7 yX7_workHour wsX7_workHour) := goodIn_app (goodIn_of _ (by decide +kernel)) ggX7_hour_X7_workHour
theorem dX7_hour_0 : decode cX7_hour 0 = .ok (.aload_n 0, 1) := by decide +kernel
theorem dX7_hour_1 : decode cX7_hour 1 = .ok (.getfield 60, 3) := by decide +kernel
theorem dX7_hour_4 : decode cX7_hour 4 = .ok (.ifCond .eq 21, 3) := by decide +kernel
theorem dX7_hour_7 : decode cX7_hour 7 = .ok (.iload_n 1, 1) := by decide +kernel
theorem dX7_hour_8 : decode cX7_hour 8 = .ok (.iload_n 2, 1) := by decide +kernel
theorem dX7_hour_9 : decode cX7_hour 9 = .ok (.invokestatic 145, 3) := by decide +kernel
theorem dX7_hour_12 : decode cX7_hour 12 = .ok (.ifCond .eq 13, 3) := by decide +kernel
theorem dX7_hour_15 : decode cX7_hour 15 = .ok (.aload_n 0, 1) := by decide +kernel
theorem dX7_hour_16 : decode cX7_hour 16 = .ok (.getfield 26, 3) := by decide +kernel
theorem dX7_hour_19 : decode cX7_hour 19 = .ok (.invokevirtual 148, 3) := by decide +kernel
theorem dX7_hour_22 : decode cX7_hour 22 = .ok (.ifCond .eq 5, 3) := by decide +kernel
theorem dX7_hour_25 : decode cX7_hour 25 = .ok (.iconst (-1), 1) := by decide +kernel
theorem dX7_hour_26 : decode cX7_hour 26 = .ok (.ireturn, 1) := by decide +kernel
theorem dX7_hour_27 : decode cX7_hour 27 = .ok (.aload_n 0, 1) := by decide +kernel
theorem dX7_hour_28 : decode cX7_hour 28 = .ok (.iload_n 1, 1) := by decide +kernel
theorem dX7_hour_29 : decode cX7_hour 29 = .ok (.iload_n 2, 1) := by decide +kernel
theorem dX7_hour_30 : decode cX7_hour 30 = .ok (.invokevirtual 152, 3) := by decide +kernel
theorem dX7_hour_33 : decode cX7_hour 33 = .ok (.ireturn, 1) := by decide +kernel
set_option maxRecDepth 20000 in
theorem ggX7_again_X0_has : GoodIn wsX7_again wsX0_has := goodIn_r _ [10, 11, 242, 243, 244, 245, 246, 247, 248, 249, 250, 251, 252, 253] (by decide +kernel) (by decide +kernel)
set_option maxRecDepth 20000 in
theorem gX7_again_X0_has : GoodIn wsX7_again (wsV RX7 155 RX0 yX0_has wsX0_has) := goodIn_app (goodIn_of _ (by decide +kernel)) ggX7_again_X0_has
set_option maxRecDepth 20000 in
theorem ggX7_again_X7_isWeather : GoodIn wsX7_again wsX7_isWeather := goodIn_r _ [15] (by decide +kernel) (by decide +kernel)
set_option maxRecDepth 20000 in
theorem gX7_again_X7_isWeather : GoodIn wsX7_again (va_wsS RX7 145 yX7_isWeather wsX7_isWeather) := goodIn_app (goodIn_of _ (by decide +kernel)) ggX7_again_X7_isWeather
set_option maxRecDepth 20000 in
theorem ggX7_again_X7_workAgain : GoodIn wsX7_again wsX7_workAgain := goodIn_r _ [19, 1, 20, 4, 21, 2, 3, 22, 23, 24, 25, 26, 27, 28, 29, 30, 31, 32, 33, 34, 35, 36, 37, 38, 39, 40, 41, 42, 43, 44, 45, 46, 47, 48, 49, 50, 51, 52, 53, 54, 55, 56, 57, 58, 59, 60, 61, 62, 63, 64, 65, 14, 66, 67, 68, 69, 70, 71, 72, 73, 74, 75, 76, 77, 78, 79, 80, 81, 82, 83, 84, 85, 86, 87, 88, 89, 90, 91, 92, 93, 94, 95, 96, 97, 98, 99, 100, 101, 102, 103, 104, 105, 106, 107, 108, 109, 110, 111, 112, 113, 114, 115, 116, 117, 118, 119, 120, 121, 122, 123, 124, 125, 126, 127, 128, 129, 130, 131, 132, 133, 134, 135, 136, 137, 138, 139, 140, 141, 142, 143, 144, 145, 146, 147, 148, 149, 150, 151, 152, 153, 154, 155, 156, 157, 158, 159, 160, 161, 162, 163, 164, 165, 166, 167, 168, 169, 170, 171, 172, 173, 174, 175, 176, 177, 178, 179, 180, 181, 182, 183, 184, 185, 186, 187, 188, 189, 190, 191, 192, 193, 194, 195, 196, 197, 198, 199, 200, 201, 202, 203, 204, 205, 206, 207, 208, 209, 210, 211, 212, 213, 214, 215, 216, 217, 218, 219, 220, 9, 221, 222, 11, 223, 224, 225, 226, 227, 228, 229, 230, 231, 232, 233, 234, 235, 236, 237, 238, 239, 240, 241, 242, 243, 244, 245, 246, 247, 248, 249, 250, 251, 252, 253, 254, 255, 256, 257, 258, 259, 260, 261, 262, 263, 264, 265, 266, 267, 268, 269, 270, 271, 272, 273, 274, 275, 276, 277, 278, 279, 280, 281, 282, 283, 284, 285] (by decide +kernel) (by decide +kernel)
set_option maxRecDepth 20000 in
theorem gX7_again_X7_workAgain : GoodIn wsX7_again (wsV RX7 162 RX7 yX7_workAgain wsX7_workAgain) := goodIn_app (goodIn_of _ (by decide +kernel)) ggX7_again_X7_workAgain
set_option maxRecDepth 20000 in
theorem ggX7_again_X2_sum : GoodIn wsX7_again wsX2_sum := goodIn_r _ [217, 33, 254, 255, 256, 257, 258, 259, 260, 261, 262, 263, 264, 265, 266, 267, 268, 269, 270, 271, 272] (by decide +kernel) (by decide +kernel)
set_option maxRecDepth 20000 in
theorem gX7_again_X2_sum : GoodIn wsX7_again (wsV RX7 168 RX2 yX2_sum wsX2_sum) := goodIn_app (goodIn_of _ (by decide +kernel)) ggX7_again_X2_sum
theorem dX7_again_0 : decode cX7_again 0 = .ok (.aload_n 0, 1) := by decide +kernel
theorem dX7_again_1 : decode cX7_again 1 = .ok (.getfield 26, 3) := by decide +kernel
theorem dX7_again_4 : decode cX7_again 4 = .ok (.iload_n 1, 1) := by decide +kernel
theorem dX7_again_5 : decode cX7_again 5 = .ok (.invokevirtual 155, 3) := by decide +kernel
theorem dX7_again_8 : decode cX7_again 8 = .ok (.ifCond .eq 11, 3) := by decide +kernel
theorem dX7_again_11 : decode cX7_again 11 = .ok (.iload_n 2, 1) := by decide +kernel
theorem dX7_again_12 : decode cX7_again 12 = .ok (.iload_n 3, 1) := by decide +kernel
theorem dX7_again_13 : decode cX7_again 13 = .ok (.invokestatic 145, 3) := by decide +kernel
theorem dX7_again_16 : decode cX7_again 16 = .ok (.ifCond .ne 5, 3) := by decide +kernel
theorem dX7_again_19 : decode cX7_again 19 = .ok (.iconst (-1), 1) := by decide +kernel
theorem dX7_again_20 : decode cX7_again 20 = .ok (.ireturn, 1) := by decide +kernel
theorem dX7_again_21 : decode cX7_again 21 = .ok (.aload_n 0, 1) := by decide +kernel
theorem dX7_again_22 : decode cX7_again 22 = .ok (.getfield 26, 3) := by decide +kernel
theorem dX7_again_25 : decode cX7_again 25 = .ok (.getfield 156, 3) := by decide +kernel
theorem dX7_again_28 : decode cX7_again 28 = .ok (.iload_n 1, 1) := by decide +kernel
theorem dX7_again_29 : decode cX7_again 29 = .ok (.iload_n 2, 1) := by decide +kernel
theorem dX7_again_30 : decode cX7_again 30 = .ok (.iastore, 1) := by decide +kernel
theorem dX7_again_31 : decode cX7_again 31 = .ok (.aload_n 0, 1) := by decide +kernel
theorem dX7_again_32 : decode cX7_again 32 = .ok (.getfield 26, 3) := by decide +kernel
theorem dX7_again_35 : decode cX7_again 35 = .ok (.getfield 159, 3) := by decide +kernel
theorem dX7_again_38 : decode cX7_again 38 = .ok (.iload_n 1, 1) := by decide +kernel
theorem dX7_again_39 : decode cX7_again 39 = .ok (.iload_n 3, 1) := by decide +kernel
theorem dX7_again_40 : decode cX7_again 40 = .ok (.iastore, 1) := by decide +kernel
theorem dX7_again_41 : decode cX7_again 41 = .ok (.aload_n 0, 1) := by decide +kernel
theorem dX7_again_42 : decode cX7_again 42 = .ok (.invokevirtual 162, 3) := by decide +kernel
theorem dX7_again_45 : decode cX7_again 45 = .ok (.aload_n 0, 1) := by decide +kernel
theorem dX7_again_46 : decode cX7_again 46 = .ok (.getfield 10, 3) := by decide +kernel
theorem dX7_again_49 : decode cX7_again 49 = .ok (.aload_n 0, 1) := by decide +kernel
theorem dX7_again_50 : decode cX7_again 50 = .ok (.getfield 10, 3) := by decide +kernel
theorem dX7_again_53 : decode cX7_again 53 = .ok (.getfield 165, 3) := by decide +kernel
theorem dX7_again_56 : decode cX7_again 56 = .ok (.invokevirtual 168, 3) := by decide +kernel
theorem dX7_again_59 : decode cX7_again 59 = .ok (.ireturn, 1) := by decide +kernel
theorem dX7_isWeather_0 : decode cX7_isWeather 0 = .ok (.iload_n 0, 1) := by decide +kernel
theorem dX7_isWeather_1 : decode cX7_isWeather 1 = .ok (.ifCond .lt 22, 3) := by decide +kernel
theorem dX7_isWeather_4 : decode cX7_isWeather 4 = .ok (.iload_n 0, 1) := by decide +kernel
theorem dX7_isWeather_5 : decode cX7_isWeather 5 = .ok (.bipush 9, 2) := by decide +kernel
theorem dX7_isWeather_7 : decode cX7_isWeather 7 = .ok (.if_icmp .gt 16, 3) := by decide +kernel
theorem dX7_isWeather_10 : decode cX7_isWeather 10 = .ok (.iload_n 1, 1) := by decide +kernel
theorem dX7_isWeather_11 : decode cX7_isWeather 11 = .ok (.ifCond .lt 12, 3) := by decide +kernel
theorem dX7_isWeather_14 : decode cX7_isWeather 14 = .ok (.iload_n 1, 1) := by decide +kernel
theorem dX7_isWeather_15 : decode cX7_isWeather 15 = .ok (.iconst 3, 1) := by decide +kernel
theorem dX7_isWeather_16 : decode cX7_isWeather 16 = .ok (.if_icmp .gt 7, 3) := by decide +kernel
theorem dX7_isWeather_19 : decode cX7_isWeather 19 = .ok (.iconst 1, 1) := by decide +kernel
theorem dX7_isWeather_20 : decode cX7_isWeather 20 = .ok (.goto 4, 3) := by decide +kernel
theorem dX7_isWeather_23 : decode cX7_isWeather 23 = .ok (.iconst 0, 1) := by decide +kernel
theorem dX7_isWeather_24 : decode cX7_isWeather 24 = .ok (.ireturn, 1) := by decide +kernel
set_option maxRecDepth 20000 in
theorem ggX7_workAgain_X2_backToLight : GoodIn wsX7_workAgain wsX2_backToLight := goodIn_r _ [11, 12, 13, 14, 10, 15, 16, 17, 18, 19, 20, 21, 22, 23, 24, 25, 26, 27, 28, 29, 30, 31, 32, 33, 34, 35, 36, 37, 38, 39, 242, 243, 244, 245, 246, 247, 248, 249, 250, 251, 252, 253, 254, 255, 256, 257, 258, 259, 260] (by decide +kernel) (by decide +kernel)
set_option maxRecDepth 20000 in
theorem gX7_workAgain_X2_backToLight : GoodIn wsX7_workAgain (wsV RX7 175 RX2 yX2_backToLight wsX2_backToLight) := goodIn_app (goodIn_of _ (by decide +kernel)) ggX7_workAgain_X2_backToLight
set_option maxRecDepth 20000 in
theorem ggX7_workAgain_X1_backToLight : GoodIn wsX7_workAgain wsX1_backToLight := goodIn_r _ [44, 45, 46, 47, 261, 262, 263, 264] (by decide +kernel) (by decide +kernel)
set_option maxRecDepth 20000 in
theorem gX7_workAgain_X1_backToLight : GoodIn wsX7_workAgain (wsV RX7 178 RX1 yX1_backToLight wsX1_backToLight) := goodIn_app (goodIn_of _ (by decide +kernel)) ggX7_workAgain_X1_backToLight
set_option maxRecDepth 20000 in
theorem ggX7_workAgain_X7_handleAllOf : GoodIn wsX7_workAgain wsX7_handleAllOf := goodIn_r _ [52, 1, 53, 54, 55, 56, 57, 58, 59, 60, 51, 61, 4, 3, 62, 63, 64, 65, 43, 66, 46, 67, 68, 69, 70, 45, 220, 221, 222, 223, 224, 225, 226, 227, 228, 229, 230, 231, 232, 233, 234, 235, 236, 237, 238, 239, 240, 241, 242, 243, 244, 245, 246, 247, 248, 249, 250, 251, 252, 253, 254, 255, 256, 257, 258, 259, 260, 261, 262, 263, 264] (by decide +kernel) (by decide +kernel)
set_option maxRecDepth 20000 in
theorem gX7_workAgain_X7_handleAllOf : GoodIn wsX7_workAgain (wsV RX7 179 RX7 yX7_handleAllOf wsX7_handleAllOf) := goodIn_app (goodIn_of _ (by decide +kernel)) ggX7_workAgain_X7_handleAllOf
set_option maxRecDepth 20000 in
theorem ggX7_workAgain_X7_workHour : GoodIn wsX7_workAgain wsX7_workHour := goodIn_r _ [74, 3, 4, 1, 2, 75, 76, 77, 78, 79, 10, 80, 18, 27, 81, 82, 83, 84, 85, 86, 87, 88, 25, 89, 90, 91, 92, 93, 94, 95, 96, 97, 98, 99, 100, 101, 102, 103, 104, 105, 106, 107, 108, 109, 110, 111, 24, 23, 16, 112, 113, 114, 115, 22, 19, 21, 116, 117, 118, 119, 120, 34, 35, 121, 122, 123, 124, 125, 126, 127, 128, 17, 129, 130, 131, 132, 133, 134, 135, 136, 137, 138, 139, 140, 20, 28, 141, 142, 143, 144, 145, 146, 147, 148, 149, 150, 151, 51, 152, 153, 62, 154, 155, 156, 157, 158, 159, 160, 161, 162, 163, 164, 165, 166, 167, 168, 169, 170, 171, 43, 172, 45, 46, 173, 174, 175, 176, 177, 178, 179, 180, 181, 182, 183, 184, 185, 186, 187, 188, 189, 190, 63, 64, 65, 66, 67, 68, 69, 70, 191, 192, 193, 194, 195, 196, 197, 198, 199, 200, 201, 202, 203, 204, 205, 206, 207, 208, 209, 210, 211, 212, 213, 214, 215, 216, 217, 218, 219, 220, 221, 222, 223, 224, 225, 226, 227, 228, 229, 230, 231, 232, 233, 234, 235, 236, 237, 238, 239, 240, 241, 242, 243, 244, 245, 246, 247, 248, 249, 250, 251, 252, 253, 254, 255, 256, 257, 258, 259, 260, 261, 262, 263, 264, 265, 266, 267, 268, 269, 270, 271, 272, 273] (by decide +kernel) (by decide +kernel)
set_option maxRecDepth 20000 in
theorem gX7_workAgain_X7_workHour : GoodIn wsX7_workAgain (wsV RX7 152 RX7 yX7_workHour wsX7_workHour) := goodIn_app (goodIn_of _ (by decide +kernel)) ggX7_workAgain_X7_workHour
theorem dX7_workAgain_0 : decode cX7_workAgain 0 = .ok (.aload_n 0, 1) := by decide +kernel
theorem dX7_workAgain_1 : decode cX7_workAgain 1 = .ok (.getfield 26, 3) := by decide +kernel
theorem dX7_workAgain_4 : decode cX7_workAgain 4 = .ok (.getfield 172, 3) := by decide +kernel
theorem dX7_workAgain_7 : decode cX7_workAgain 7 = .ok (.istore_n 1, 1) := by decide +kernel
theorem dX7_workAgain_8 : decode cX7_workAgain 8 = .ok (.aload_n 0, 1) := by decide +kernel
theorem dX7_workAgain_9 : decode cX7_workAgain 9 = .ok (.getfield 10, 3) := by decide +kernel
theorem dX7_workAgain_12 : decode cX7_workAgain 12 = .ok (.invokevirtual 175, 3) := by decide +kernel
theorem dX7_workAgain_15 : decode cX7_workAgain 15 = .ok (.aload_n 0, 1) := by decide +kernel
theorem dX7_workAgain_16 : decode cX7_workAgain 16 = .ok (.getfield 19, 3) := by decide +kernel
theorem dX7_workAgain_19 : decode cX7_workAgain 19 = .ok (.invokevirtual 178, 3) := by decide +kernel
theorem dX7_workAgain_22 : decode cX7_workAgain 22 = .ok (.aload_n 0, 1) := by decide +kernel
theorem dX7_workAgain_23 : decode cX7_workAgain 23 = .ok (.getfield 26, 3) := by decide +kernel
theorem dX7_workAgain_26 : decode cX7_workAgain 26 = .ok (.iconst 0, 1) := by decide +kernel
theorem dX7_workAgain_27 : decode cX7_workAgain 27 = .ok (.putfield 172, 3) := by decide +kernel
theorem dX7_workAgain_30 : decode cX7_workAgain 30 = .ok (.iconst 0, 1) := by decide +kernel
theorem dX7_workAgain_31 : decode cX7_workAgain 31 = .ok (.istore_n 2, 1) := by decide +kernel
theorem dX7_workAgain_32 : decode cX7_workAgain 32 = .ok (.iconst 0, 1) := by decide +kernel
theorem dX7_workAgain_33 : decode cX7_workAgain 33 = .ok (.istore_n 3, 1) := by decide +kernel
theorem dX7_workAgain_34 : decode cX7_workAgain 34 = .ok (.iload_n 3, 1) := by decide +kernel
theorem dX7_workAgain_35 : decode cX7_workAgain 35 = .ok (.iload_n 1, 1) := by decide +kernel
theorem dX7_workAgain_36 : decode cX7_workAgain 36 = .ok (.if_icmp .ge 39, 3) := by decide +kernel
theorem dX7_workAgain_39 : decode cX7_workAgain 39 = .ok (.aload_n 0, 1) := by decide +kernel
theorem dX7_workAgain_40 : decode cX7_workAgain 40 = .ok (.iload_n 3, 1) := by decide +kernel
theorem dX7_workAgain_41 : decode cX7_workAgain 41 = .ok (.iload_n 2, 1) := by decide +kernel
theorem dX7_workAgain_42 : decode cX7_workAgain 42 = .ok (.invokevirtual 179, 3) := by decide +kernel
theorem dX7_workAgain_45 : decode cX7_workAgain 45 = .ok (.istore_n 2, 1) := by decide +kernel
theorem dX7_workAgain_46 : decode cX7_workAgain 46 = .ok (.aload_n 0, 1) := by decide +kernel
theorem dX7_workAgain_47 : decode cX7_workAgain 47 = .ok (.aload_n 0, 1) := by decide +kernel
theorem dX7_workAgain_48 : decode cX7_workAgain 48 = .ok (.getfield 26, 3) := by decide +kernel
theorem dX7_workAgain_51 : decode cX7_workAgain 51 = .ok (.getfield 156, 3) := by decide +kernel
theorem dX7_workAgain_54 : decode cX7_workAgain 54 = .ok (.iload_n 3, 1) := by decide +kernel
theorem dX7_workAgain_55 : decode cX7_workAgain 55 = .ok (.iaload, 1) := by decide +kernel
theorem dX7_workAgain_56 : decode cX7_workAgain 56 = .ok (.aload_n 0, 1) := by decide +kernel
theorem dX7_workAgain_57 : decode cX7_workAgain 57 = .ok (.getfield 26, 3) := by decide +kernel
theorem dX7_workAgain_60 : decode cX7_workAgain 60 = .ok (.getfield 159, 3) := by decide +kernel
theorem dX7_workAgain_63 : decode cX7_workAgain 63 = .ok (.iload_n 3, 1) := by decide +kernel
theorem dX7_workAgain_64 : decode cX7_workAgain 64 = .ok (.iaload, 1) := by decide +kernel
theorem dX7_workAgain_65 : decode cX7_workAgain 65 = .ok (.invokevirtual 152, 3) := by decide +kernel
theorem dX7_workAgain_68 : decode cX7_workAgain 68 = .ok (.pop, 1) := by decide +kernel
theorem dX7_workAgain_69 : decode cX7_workAgain 69 = .ok (.iinc 3 1, 3) := by decide +kernel
theorem dX7_workAgain_72 : decode cX7_workAgain 72 = .ok (.goto (-38), 3) := by decide +kernel
theorem dX7_workAgain_75 : decode cX7_workAgain 75 = .ok (.aload_n 0, 1) := by decide +kernel
theorem dX7_workAgain_76 : decode cX7_workAgain 76 = .ok (.iload_n 1, 1) := by decide +kernel
theorem dX7_workAgain_77 : decode cX7_workAgain 77 = .ok (.iload_n 2, 1) := by decide +kernel
theorem dX7_workAgain_78 : decode cX7_workAgain 78 = .ok (.invokevirtual 179, 3) := by decide +kernel
theorem dX7_workAgain_81 : decode cX7_workAgain 81 = .ok (.pop, 1) := by decide +kernel
theorem dX7_workAgain_82 : decode cX7_workAgain 82 = .ok (.return_, 1) := by decide +kernel
set_option maxRecDepth 20000 in
theorem ggX7_handleAllOf_X7_handle : GoodIn wsX7_handleAllOf wsX7_handle := goodIn_r _ [11, 12, 13, 14, 15, 16, 17, 18, 19, 20, 21, 22, 23, 24, 25, 26, 27, 28, 29, 30, 31, 32, 33, 34, 35, 48, 49, 50, 51, 52, 53, 54, 55, 56, 57, 58, 59, 60, 61, 62, 63, 64, 65, 66, 67, 68, 69, 70] (by decide +kernel) (by decide +kernel)
set_option maxRecDepth 20000 in
theorem gX7_handleAllOf_X7_handle : GoodIn wsX7_handleAllOf (wsV RX7 134 RX7 yX7_handle wsX7_handle) := goodIn_app (goodIn_of _ (by decide +kernel)) ggX7_handleAllOf_X7_handle
theorem dX7_handleAllOf_0 : decode cX7_handleAllOf 0 = .ok (.iload_n 2, 1) := by decide +kernel
theorem dX7_handleAllOf_1 : decode cX7_handleAllOf 1 = .ok (.istore_n 3, 1) := by decide +kernel
theorem dX7_handleAllOf_2 : decode cX7_handleAllOf 2 = .ok (.iload_n 3, 1) := by decide +kernel
theorem dX7_handleAllOf_3 : decode cX7_handleAllOf 3 = .ok (.aload_n 0, 1) := by decide +kernel
theorem dX7_handleAllOf_4 : decode cX7_handleAllOf 4 = .ok (.getfield 26, 3) := by decide +kernel
theorem dX7_handleAllOf_7 : decode cX7_handleAllOf 7 = .ok (.getfield 182, 3) := by decide +kernel
theorem dX7_handleAllOf_10 : decode cX7_handleAllOf 10 = .ok (.if_icmp .ge 53, 3) := by decide +kernel
theorem dX7_handleAllOf_13 : decode cX7_handleAllOf 13 = .ok (.aload_n 0, 1) := by decide +kernel
theorem dX7_handleAllOf_14 : decode cX7_handleAllOf 14 = .ok (.getfield 26, 3) := by decide +kernel
theorem dX7_handleAllOf_17 : decode cX7_handleAllOf 17 = .ok (.getfield 185, 3) := by decide +kernel
theorem dX7_handleAllOf_20 : decode cX7_handleAllOf 20 = .ok (.iload_n 3, 1) := by decide +kernel
theorem dX7_handleAllOf_21 : decode cX7_handleAllOf 21 = .ok (.iaload, 1) := by decide +kernel
theorem dX7_handleAllOf_22 : decode cX7_handleAllOf 22 = .ok (.iload_n 1, 1) := by decide +kernel
theorem dX7_handleAllOf_23 : decode cX7_handleAllOf 23 = .ok (.if_icmp .ne 40, 3) := by decide +kernel
theorem dX7_handleAllOf_26 : decode cX7_handleAllOf 26 = .ok (.aload_n 0, 1) := by decide +kernel
theorem dX7_handleAllOf_27 : decode cX7_handleAllOf 27 = .ok (.aload_n 0, 1) := by decide +kernel
theorem dX7_handleAllOf_28 : decode cX7_handleAllOf 28 = .ok (.getfield 26, 3) := by decide +kernel
theorem dX7_handleAllOf_31 : decode cX7_handleAllOf 31 = .ok (.getfield 188, 3) := by decide +kernel
theorem dX7_handleAllOf_34 : decode cX7_handleAllOf 34 = .ok (.iload_n 3, 1) := by decide +kernel
theorem dX7_handleAllOf_35 : decode cX7_handleAllOf 35 = .ok (.iaload, 1) := by decide +kernel
theorem dX7_handleAllOf_36 : decode cX7_handleAllOf 36 = .ok (.aload_n 0, 1) := by decide +kernel
theorem dX7_handleAllOf_37 : decode cX7_handleAllOf 37 = .ok (.getfield 26, 3) := by decide +kernel
theorem dX7_handleAllOf_40 : decode cX7_handleAllOf 40 = .ok (.getfield 191, 3) := by decide +kernel
theorem dX7_handleAllOf_43 : decode cX7_handleAllOf 43 = .ok (.iload_n 3, 1) := by decide +kernel
theorem dX7_handleAllOf_44 : decode cX7_handleAllOf 44 = .ok (.iaload, 1) := by decide +kernel
theorem dX7_handleAllOf_45 : decode cX7_handleAllOf 45 = .ok (.aload_n 0, 1) := by decide +kernel
theorem dX7_handleAllOf_46 : decode cX7_handleAllOf 46 = .ok (.getfield 26, 3) := by decide +kernel
theorem dX7_handleAllOf_49 : decode cX7_handleAllOf 49 = .ok (.getfield 194, 3) := by decide +kernel
theorem dX7_handleAllOf_52 : decode cX7_handleAllOf 52 = .ok (.iload_n 3, 1) := by decide +kernel
theorem dX7_handleAllOf_53 : decode cX7_handleAllOf 53 = .ok (.iaload, 1) := by decide +kernel
theorem dX7_handleAllOf_54 : decode cX7_handleAllOf 54 = .ok (.invokevirtual 134, 3) := by decide +kernel
theorem dX7_handleAllOf_57 : decode cX7_handleAllOf 57 = .ok (.iinc 3 1, 3) := by decide +kernel
theorem dX7_handleAllOf_60 : decode cX7_handleAllOf 60 = .ok (.goto (-58), 3) := by decide +kernel
theorem dX7_handleAllOf_63 : decode cX7_handleAllOf 63 = .ok (.iload_n 3, 1) := by decide +kernel
theorem dX7_handleAllOf_64 : decode cX7_handleAllOf 64 = .ok (.ireturn, 1) := by decide +kernel
set_option maxRecDepth 20000 in
theorem ggX7_workHour_X2_breathe : GoodIn wsX7_workHour wsX2_breathe := goodIn_r _ [11, 12, 13, 14, 15, 16, 17, 18, 19, 10, 20, 21, 22, 23, 24, 25, 26, 27, 28, 29, 30, 31, 32, 33, 34, 35, 36, 37, 38, 39, 40, 200, 201, 202, 203, 204, 205, 206, 207, 208, 209, 210, 211, 212, 213, 214, 215, 216, 217, 218, 219, 220, 221, 222] (by decide +kernel) (by decide +kernel)
set_option maxRecDepth 20000 in
theorem gX7_workHour_X2_breathe : GoodIn wsX7_workHour (wsV RX7 197 RX2 yX2_breathe wsX2_breathe) := goodIn_app (goodIn_of _ (by decide +kernel)) ggX7_workHour_X2_breathe
set_option maxRecDepth 20000 in
theorem ggX7_workHour_X2_burn : GoodIn wsX7_workHour wsX2_burn := goodIn_r _ [44, 12, 45, 46, 47, 48, 49, 50, 51, 10, 52, 13, 29, 30, 31, 32, 53, 54, 55, 56, 57, 58, 59, 60, 61, 62, 63, 64, 65, 66, 67, 68, 69, 70, 71, 200, 201, 202, 203, 204, 205, 206, 207, 208, 209, 210, 211, 212, 213, 214, 215, 216, 217, 218] (by decide +kernel) (by decide +kernel)
set_option maxRecDepth 20000 in
theorem gX7_workHour_X2_burn : GoodIn wsX7_workHour (wsV RX7 201 RX2 yX2_burn wsX2_burn) := goodIn_app (goodIn_of _ (by decide +kernel)) ggX7_workHour_X2_burn
set_option maxRecDepth 20000 in
theorem ggX7_workHour_X2_warm : GoodIn wsX7_workHour wsX2_warm := goodIn_r _ [75, 27, 28, 45, 54, 55, 47, 63, 64, 31, 65, 46, 33, 34, 35, 10, 36, 76, 77, 78, 79, 200, 201, 202, 203, 204, 205, 206, 207, 208, 209, 210, 211, 212, 213, 214, 215, 216, 217, 218] (by decide +kernel) (by decide +kernel)
set_option maxRecDepth 20000 in
theorem gX7_workHour_X2_warm : GoodIn wsX7_workHour (wsV RX7 205 RX2 yX2_warm wsX2_warm) := goodIn_app (goodIn_of _ (by decide +kernel)) ggX7_workHour_X2_warm
set_option maxRecDepth 20000 in
theorem ggX7_workHour_X2_sink : GoodIn wsX7_workHour wsX2_sink := goodIn_r _ [83, 12, 21, 22, 54, 55, 84, 85, 200, 201, 202, 203, 204, 205, 206, 207, 208, 209, 210, 211, 212, 213, 214, 215, 216, 217, 218] (by decide +kernel) (by decide +kernel)
set_option maxRecDepth 20000 in
theorem gX7_workHour_X2_sink : GoodIn wsX7_workHour (wsV RX7 208 RX2 yX2_sink wsX2_sink) := goodIn_app (goodIn_of _ (by decide +kernel)) ggX7_workHour_X2_sink
set_option maxRecDepth 20000 in
theorem ggX7_workHour_X2_soak : GoodIn wsX7_workHour wsX2_soak := goodIn_r _ [89, 27, 28, 53, 62, 63, 64, 31, 65, 33, 34, 35, 10, 36, 200, 201, 202, 203, 204, 205, 206, 207, 208, 209, 210, 211, 212, 213, 214, 215, 216, 217, 218] (by decide +kernel) (by decide +kernel)
set_option maxRecDepth 20000 in
theorem gX7_workHour_X2_soak : GoodIn wsX7_workHour (wsV RX7 212 RX2 yX2_soak wsX2_soak) := goodIn_app (goodIn_of _ (by decide +kernel)) ggX7_workHour_X2_soak
set_option maxRecDepth 20000 in
theorem ggX7_workHour_X2_countBare : GoodIn wsX7_workHour wsX2_countBare := goodIn_r _ [93, 12, 17, 18, 19, 10, 20, 21, 22, 200, 201, 202, 203, 204, 205, 206, 207, 208, 209, 210, 211, 212, 213, 214, 215, 216, 217, 218] (by decide +kernel) (by decide +kernel)
set_option maxRecDepth 20000 in
theorem gX7_workHour_X2_countBare : GoodIn wsX7_workHour (wsV RX7 215 RX2 yX2_countBare wsX2_countBare) := goodIn_app (goodIn_of _ (by decide +kernel)) ggX7_workHour_X2_countBare
set_option maxRecDepth 20000 in
theorem ggX7_workHour_X7_look : GoodIn wsX7_workHour wsX7_look := goodIn_r _ [98, 3, 4, 99, 5, 1, 100, 101, 102, 103, 104, 105, 106, 107, 108, 109, 10, 110, 12, 21, 22, 178, 179, 180, 181, 182, 183, 184, 185, 186, 187, 188, 189, 190, 191, 192, 193, 194, 195, 196, 197, 198, 199, 200, 201, 202, 203, 204, 205, 206, 207, 208, 209, 210, 211, 212, 213, 214, 215, 216, 217, 218, 223, 224, 225, 226, 227, 228, 229, 230, 231] (by decide +kernel) (by decide +kernel)
set_option maxRecDepth 20000 in
theorem gX7_workHour_X7_look : GoodIn wsX7_workHour (wsV RX7 218 RX7 yX7_look wsX7_look) := goodIn_app (goodIn_of _ (by decide +kernel)) ggX7_workHour_X7_look
set_option maxRecDepth 20000 in
theorem ggX7_workHour_X4_see : GoodIn wsX7_workHour wsX4_see := goodIn_r _ [105, 106, 223, 224, 225, 226, 227, 228, 229, 230, 231] (by decide +kernel) (by decide +kernel)
set_option maxRecDepth 20000 in
theorem gX7_workHour_X4_see : GoodIn wsX7_workHour (wsV RX7 221 RX4 yX4_see wsX4_see) := goodIn_app (goodIn_of _ (by decide +kernel)) ggX7_workHour_X4_see
set_option maxRecDepth 20000 in
theorem ggX7_workHour_X7_actByRules : GoodIn wsX7_workHour wsX7_actByRules := goodIn_r _ [114, 5, 115, 2, 3, 4, 116, 117, 118, 119, 120, 121, 122, 101, 102, 103, 104, 105, 106, 123, 124, 125, 126, 127, 128, 129, 130, 131, 132, 133, 134, 135, 136, 137, 97, 138, 139, 140, 1, 141, 142, 143, 144, 145, 146, 147, 148, 149, 150, 151, 10, 152, 22, 63, 64, 31, 65, 153, 108, 109, 110, 12, 21, 154, 155, 156, 157, 178, 179, 180, 181, 182, 183, 184, 185, 186, 187, 223, 224, 225, 226, 227, 228, 229, 230, 231, 188, 189, 190, 191, 192, 193, 194, 195, 196, 197, 198, 199, 219, 220, 221, 222, 200, 201, 202, 203, 204, 205, 206, 207, 208, 209, 210, 211, 212, 213, 214, 215, 216, 217, 218] (by decide +kernel) (by decide +kernel)
set_option maxRecDepth 20000 in
theorem gX7_workHour_X7_actByRules : GoodIn wsX7_workHour (wsV RX7 224 RX7 yX7_actByRules wsX7_actByRules) := goodIn_app (goodIn_of _ (by decide +kernel)) ggX7_workHour_X7_actByRules
set_option maxRecDepth 20000 in
theorem ggX7_workHour_X2_sum : GoodIn wsX7_workHour wsX2_sum := goodIn_r _ [161, 12, 200, 201, 202, 203, 204, 205, 206, 207, 208, 209, 210, 211, 212, 213, 214, 215, 216, 217, 218] (by decide +kernel) (by decide +kernel)
set_option maxRecDepth 20000 in
theorem gX7_workHour_X2_sum : GoodIn wsX7_workHour (wsV RX7 168 RX2 yX2_sum wsX2_sum) := goodIn_app (goodIn_of _ (by decide +kernel)) ggX7_workHour_X2_sum
set_option maxRecDepth 20000 in
theorem ggX7_workHour_X0_note : GoodIn wsX7_workHour wsX0_note := goodIn_r _ [166, 167, 168, 169, 170, 171, 172, 173, 174, 175, 176, 165, 177, 188, 189, 190, 191, 192, 193, 194, 195, 196, 197, 198, 199] (by decide +kernel) (by decide +kernel)
set_option maxRecDepth 20000 in
theorem gX7_workHour_X0_note : GoodIn wsX7_workHour (wsV RX7 230 RX0 yX0_note wsX0_note) := goodIn_app (goodIn_of _ (by decide +kernel)) ggX7_workHour_X0_note
theorem dX7_workHour_0 : decode cX7_workHour 0 = .ok (.aload_n 0, 1) := by decide +kernel
theorem dX7_workHour_1 : decode cX7_workHour 1 = .ok (.getfield 10, 3) := by decide +kernel
theorem dX7_workHour_4 : decode cX7_workHour 4 = .ok (.aload_n 0, 1) := by decide +kernel
theorem dX7_workHour_5 : decode cX7_workHour 5 = .ok (.getfield 19, 3) := by decide +kernel
theorem dX7_workHour_8 : decode cX7_workHour 8 = .ok (.iconst 4, 1) := by decide +kernel
theorem dX7_workHour_9 : decode cX7_workHour 9 = .ok (.iload_n 2, 1) := by decide +kernel
theorem dX7_workHour_10 : decode cX7_workHour 10 = .ok (.iadd, 1) := by decide +kernel
theorem dX7_workHour_11 : decode cX7_workHour 11 = .ok (.invokevirtual 197, 3) := by decide +kernel
theorem dX7_workHour_14 : decode cX7_workHour 14 = .ok (.aload_n 0, 1) := by decide +kernel
theorem dX7_workHour_15 : decode cX7_workHour 15 = .ok (.getfield 10, 3) := by decide +kernel
theorem dX7_workHour_18 : decode cX7_workHour 18 = .ok (.invokevirtual 201, 3) := by decide +kernel
theorem dX7_workHour_21 : decode cX7_workHour 21 = .ok (.istore_n 3, 1) := by decide +kernel
theorem dX7_workHour_22 : decode cX7_workHour 22 = .ok (.aload_n 0, 1) := by decide +kernel
theorem dX7_workHour_23 : decode cX7_workHour 23 = .ok (.getfield 10, 3) := by decide +kernel
theorem dX7_workHour_26 : decode cX7_workHour 26 = .ok (.invokevirtual 205, 3) := by decide +kernel
theorem dX7_workHour_29 : decode cX7_workHour 29 = .ok (.aload_n 0, 1) := by decide +kernel
theorem dX7_workHour_30 : decode cX7_workHour 30 = .ok (.getfield 10, 3) := by decide +kernel
theorem dX7_workHour_33 : decode cX7_workHour 33 = .ok (.aload_n 0, 1) := by decide +kernel
theorem dX7_workHour_34 : decode cX7_workHour 34 = .ok (.getfield 26, 3) := by decide +kernel
theorem dX7_workHour_37 : decode cX7_workHour 37 = .ok (.getfield 172, 3) := by decide +kernel
theorem dX7_workHour_40 : decode cX7_workHour 40 = .ok (.invokevirtual 208, 3) := by decide +kernel
theorem dX7_workHour_43 : decode cX7_workHour 43 = .ok (.aload_n 0, 1) := by decide +kernel
theorem dX7_workHour_44 : decode cX7_workHour 44 = .ok (.getfield 10, 3) := by decide +kernel
theorem dX7_workHour_47 : decode cX7_workHour 47 = .ok (.iload_n 1, 1) := by decide +kernel
theorem dX7_workHour_48 : decode cX7_workHour 48 = .ok (.invokevirtual 212, 3) := by decide +kernel
theorem dX7_workHour_51 : decode cX7_workHour 51 = .ok (.aload_n 0, 1) := by decide +kernel
theorem dX7_workHour_52 : decode cX7_workHour 52 = .ok (.getfield 10, 3) := by decide +kernel
theorem dX7_workHour_55 : decode cX7_workHour 55 = .ok (.invokevirtual 215, 3) := by decide +kernel
theorem dX7_workHour_58 : decode cX7_workHour 58 = .ok (.istore 4, 2) := by decide +kernel
theorem dX7_workHour_60 : decode cX7_workHour 60 = .ok (.aload_n 0, 1) := by decide +kernel
theorem dX7_workHour_61 : decode cX7_workHour 61 = .ok (.iload_n 3, 1) := by decide +kernel
theorem dX7_workHour_62 : decode cX7_workHour 62 = .ok (.iload 4, 2) := by decide +kernel
theorem dX7_workHour_64 : decode cX7_workHour 64 = .ok (.invokevirtual 218, 3) := by decide +kernel
theorem dX7_workHour_67 : decode cX7_workHour 67 = .ok (.aload_n 0, 1) := by decide +kernel
theorem dX7_workHour_68 : decode cX7_workHour 68 = .ok (.getfield 40, 3) := by decide +kernel
theorem dX7_workHour_71 : decode cX7_workHour 71 = .ok (.iconst 5, 1) := by decide +kernel
theorem dX7_workHour_72 : decode cX7_workHour 72 = .ok (.iload_n 1, 1) := by decide +kernel
theorem dX7_workHour_73 : decode cX7_workHour 73 = .ok (.invokevirtual 221, 3) := by decide +kernel
theorem dX7_workHour_76 : decode cX7_workHour 76 = .ok (.aload_n 0, 1) := by decide +kernel
theorem dX7_workHour_77 : decode cX7_workHour 77 = .ok (.getfield 40, 3) := by decide +kernel
theorem dX7_workHour_80 : decode cX7_workHour 80 = .ok (.bipush 6, 2) := by decide +kernel
theorem dX7_workHour_82 : decode cX7_workHour 82 = .ok (.iload_n 2, 1) := by decide +kernel
theorem dX7_workHour_83 : decode cX7_workHour 83 = .ok (.invokevirtual 221, 3) := by decide +kernel
theorem dX7_workHour_86 : decode cX7_workHour 86 = .ok (.aload_n 0, 1) := by decide +kernel
theorem dX7_workHour_87 : decode cX7_workHour 87 = .ok (.invokevirtual 224, 3) := by decide +kernel
theorem dX7_workHour_90 : decode cX7_workHour 90 = .ok (.istore 5, 2) := by decide +kernel
theorem dX7_workHour_92 : decode cX7_workHour 92 = .ok (.aload_n 0, 1) := by decide +kernel
theorem dX7_workHour_93 : decode cX7_workHour 93 = .ok (.getfield 26, 3) := by decide +kernel
theorem dX7_workHour_96 : decode cX7_workHour 96 = .ok (.iload_n 1, 1) := by decide +kernel
theorem dX7_workHour_97 : decode cX7_workHour 97 = .ok (.iload_n 2, 1) := by decide +kernel
theorem dX7_workHour_98 : decode cX7_workHour 98 = .ok (.iload_n 3, 1) := by decide +kernel
theorem dX7_workHour_99 : decode cX7_workHour 99 = .ok (.iload 5, 2) := by decide +kernel
theorem dX7_workHour_101 : decode cX7_workHour 101 = .ok (.aload_n 0, 1) := by decide +kernel
theorem dX7_workHour_102 : decode cX7_workHour 102 = .ok (.getfield 10, 3) := by decide +kernel
theorem dX7_workHour_105 : decode cX7_workHour 105 = .ok (.aload_n 0, 1) := by decide +kernel
theorem dX7_workHour_106 : decode cX7_workHour 106 = .ok (.getfield 10, 3) := by decide +kernel
theorem dX7_workHour_109 : decode cX7_workHour 109 = .ok (.getfield 227, 3) := by decide +kernel
theorem dX7_workHour_112 : decode cX7_workHour 112 = .ok (.invokevirtual 168, 3) := by decide +kernel
theorem dX7_workHour_115 : decode cX7_workHour 115 = .ok (.iload 4, 2) := by decide +kernel
theorem dX7_workHour_117 : decode cX7_workHour 117 = .ok (.invokevirtual 230, 3) := by decide +kernel
theorem dX7_workHour_120 : decode cX7_workHour 120 = .ok (.iload_n 3, 1) := by decide +kernel
theorem dX7_workHour_121 : decode cX7_workHour 121 = .ok (.ireturn, 1) := by decide +kernel
set_option maxRecDepth 20000 in
theorem ggX7_look_X4_see : GoodIn wsX7_look wsX4_see := goodIn_r _ [11, 12, 62, 63, 64, 65, 66, 67, 68, 69, 70] (by decide +kernel) (by decide +kernel)
set_option maxRecDepth 20000 in
theorem gX7_look_X4_see : GoodIn wsX7_look (wsV RX7 221 RX4 yX4_see wsX4_see) := goodIn_app (goodIn_of _ (by decide +kernel)) ggX7_look_X4_see
set_option maxRecDepth 20000 in
theorem ggX7_look_X2_thinnest : GoodIn wsX7_look wsX2_thinnest := goodIn_r _ [17, 18, 19, 20, 43, 44, 45, 46, 47, 48, 49, 50, 51, 52, 53, 54, 55, 56, 57, 58, 59, 60, 61] (by decide +kernel) (by decide +kernel)
set_option maxRecDepth 20000 in
theorem gX7_look_X2_thinnest : GoodIn wsX7_look (wsV RX7 234 RX2 yX2_thinnest wsX2_thinnest) := goodIn_app (goodIn_of _ (by decide +kernel)) ggX7_look_X2_thinnest
theorem dX7_look_0 : decode cX7_look 0 = .ok (.aload_n 0, 1) := by decide +kernel
theorem dX7_look_1 : decode cX7_look 1 = .ok (.getfield 26, 3) := by decide +kernel
theorem dX7_look_4 : decode cX7_look 4 = .ok (.getfield 172, 3) := by decide +kernel
theorem dX7_look_7 : decode cX7_look 7 = .ok (.istore_n 3, 1) := by decide +kernel
theorem dX7_look_8 : decode cX7_look 8 = .ok (.aload_n 0, 1) := by decide +kernel
theorem dX7_look_9 : decode cX7_look 9 = .ok (.getfield 65, 3) := by decide +kernel
theorem dX7_look_12 : decode cX7_look 12 = .ok (.iload_n 3, 1) := by decide +kernel
theorem dX7_look_13 : decode cX7_look 13 = .ok (.bipush 24, 2) := by decide +kernel
theorem dX7_look_15 : decode cX7_look 15 = .ok (.irem, 1) := by decide +kernel
theorem dX7_look_16 : decode cX7_look 16 = .ok (.ishr, 1) := by decide +kernel
theorem dX7_look_17 : decode cX7_look 17 = .ok (.iconst 1, 1) := by decide +kernel
theorem dX7_look_18 : decode cX7_look 18 = .ok (.iand, 1) := by decide +kernel
theorem dX7_look_19 : decode cX7_look 19 = .ok (.iconst 1, 1) := by decide +kernel
theorem dX7_look_20 : decode cX7_look 20 = .ok (.if_icmp .ne 7, 3) := by decide +kernel
theorem dX7_look_23 : decode cX7_look 23 = .ok (.iconst 1, 1) := by decide +kernel
theorem dX7_look_24 : decode cX7_look 24 = .ok (.goto 4, 3) := by decide +kernel
theorem dX7_look_27 : decode cX7_look 27 = .ok (.iconst 0, 1) := by decide +kernel
theorem dX7_look_28 : decode cX7_look 28 = .ok (.istore 4, 2) := by decide +kernel
theorem dX7_look_30 : decode cX7_look 30 = .ok (.aload_n 0, 1) := by decide +kernel
theorem dX7_look_31 : decode cX7_look 31 = .ok (.getfield 40, 3) := by decide +kernel
theorem dX7_look_34 : decode cX7_look 34 = .ok (.iconst 0, 1) := by decide +kernel
theorem dX7_look_35 : decode cX7_look 35 = .ok (.iload 4, 2) := by decide +kernel
theorem dX7_look_37 : decode cX7_look 37 = .ok (.ifCond .eq 7, 3) := by decide +kernel
theorem dX7_look_40 : decode cX7_look 40 = .ok (.iload_n 1, 1) := by decide +kernel
theorem dX7_look_41 : decode cX7_look 41 = .ok (.goto 6, 3) := by decide +kernel
theorem dX7_look_44 : decode cX7_look 44 = .ok (.sipush 9999, 3) := by decide +kernel
theorem dX7_look_47 : decode cX7_look 47 = .ok (.invokevirtual 221, 3) := by decide +kernel
theorem dX7_look_50 : decode cX7_look 50 = .ok (.aload_n 0, 1) := by decide +kernel
theorem dX7_look_51 : decode cX7_look 51 = .ok (.getfield 40, 3) := by decide +kernel
theorem dX7_look_54 : decode cX7_look 54 = .ok (.iconst 1, 1) := by decide +kernel
theorem dX7_look_55 : decode cX7_look 55 = .ok (.iload 4, 2) := by decide +kernel
theorem dX7_look_57 : decode cX7_look 57 = .ok (.ifCond .eq 7, 3) := by decide +kernel
theorem dX7_look_60 : decode cX7_look 60 = .ok (.iload_n 2, 1) := by decide +kernel
theorem dX7_look_61 : decode cX7_look 61 = .ok (.goto 5, 3) := by decide +kernel
theorem dX7_look_64 : decode cX7_look 64 = .ok (.bipush 99, 2) := by decide +kernel
theorem dX7_look_66 : decode cX7_look 66 = .ok (.invokevirtual 221, 3) := by decide +kernel
theorem dX7_look_69 : decode cX7_look 69 = .ok (.aload_n 0, 1) := by decide +kernel
theorem dX7_look_70 : decode cX7_look 70 = .ok (.getfield 40, 3) := by decide +kernel
theorem dX7_look_73 : decode cX7_look 73 = .ok (.iconst 2, 1) := by decide +kernel
theorem dX7_look_74 : decode cX7_look 74 = .ok (.iload 4, 2) := by decide +kernel
theorem dX7_look_76 : decode cX7_look 76 = .ok (.ifCond .eq 21, 3) := by decide +kernel
theorem dX7_look_79 : decode cX7_look 79 = .ok (.aload_n 0, 1) := by decide +kernel
theorem dX7_look_80 : decode cX7_look 80 = .ok (.getfield 10, 3) := by decide +kernel
theorem dX7_look_83 : decode cX7_look 83 = .ok (.getfield 142, 3) := by decide +kernel
theorem dX7_look_86 : decode cX7_look 86 = .ok (.aload_n 0, 1) := by decide +kernel
theorem dX7_look_87 : decode cX7_look 87 = .ok (.getfield 10, 3) := by decide +kernel
theorem dX7_look_90 : decode cX7_look 90 = .ok (.invokevirtual 234, 3) := by decide +kernel
theorem dX7_look_93 : decode cX7_look 93 = .ok (.iaload, 1) := by decide +kernel
theorem dX7_look_94 : decode cX7_look 94 = .ok (.goto 4, 3) := by decide +kernel
theorem dX7_look_97 : decode cX7_look 97 = .ok (.iconst 0, 1) := by decide +kernel
theorem dX7_look_98 : decode cX7_look 98 = .ok (.invokevirtual 221, 3) := by decide +kernel
theorem dX7_look_101 : decode cX7_look 101 = .ok (.aload_n 0, 1) := by decide +kernel
theorem dX7_look_102 : decode cX7_look 102 = .ok (.getfield 40, 3) := by decide +kernel
theorem dX7_look_105 : decode cX7_look 105 = .ok (.iconst 3, 1) := by decide +kernel
theorem dX7_look_106 : decode cX7_look 106 = .ok (.iload_n 3, 1) := by decide +kernel
theorem dX7_look_107 : decode cX7_look 107 = .ok (.invokevirtual 221, 3) := by decide +kernel
theorem dX7_look_110 : decode cX7_look 110 = .ok (.return_, 1) := by decide +kernel
set_option maxRecDepth 20000 in
theorem ggX7_actByRules_X1_countOpen : GoodIn wsX7_actByRules wsX1_countOpen := goodIn_r _ [10, 11, 12, 98, 99, 100, 101] (by decide +kernel) (by decide +kernel)
set_option maxRecDepth 20000 in
theorem gX7_actByRules_X1_countOpen : GoodIn wsX7_actByRules (wsV RX7 240 RX1 yX1_countOpen wsX1_countOpen) := goodIn_app (goodIn_of _ (by decide +kernel)) ggX7_actByRules_X1_countOpen
set_option maxRecDepth 20000 in
theorem ggX7_actByRules_X4_see : GoodIn wsX7_actByRules wsX4_see := goodIn_r _ [17, 18, 77, 78, 79, 80, 81, 82, 83, 84, 85] (by decide +kernel) (by decide +kernel)
set_option maxRecDepth 20000 in
theorem gX7_actByRules_X4_see : GoodIn wsX7_actByRules (wsV RX7 221 RX4 yX4_see wsX4_see) := goodIn_app (goodIn_of _ (by decide +kernel)) ggX7_actByRules_X4_see
set_option maxRecDepth 20000 in
theorem ggX7_actByRules_X4_holdsAt : GoodIn wsX7_actByRules wsX4_holdsAt := goodIn_r _ [22, 23, 24, 18, 25, 26, 27, 28, 29, 16, 30, 77, 78, 79, 80, 81, 82, 83, 84, 85] (by decide +kernel) (by decide +kernel)
set_option maxRecDepth 20000 in
theorem gX7_actByRules_X4_holdsAt : GoodIn wsX7_actByRules (wsV RX7 243 RX4 yX4_holdsAt wsX4_holdsAt) := goodIn_app (goodIn_of _ (by decide +kernel)) ggX7_actByRules_X4_holdsAt
set_option maxRecDepth 20000 in
theorem ggX7_actByRules_X7_actBy : GoodIn wsX7_actByRules wsX7_actBy := goodIn_r _ [35, 1, 36, 3, 37, 38, 39, 40, 41, 9, 42, 12, 43, 44, 45, 46, 11, 47, 48, 49, 50, 51, 52, 53, 54, 55, 56, 57, 58, 59, 60, 61, 62, 63, 64, 65, 66, 67, 68, 69, 70, 71, 72, 73, 74, 75, 76, 77, 78, 79, 80, 81, 82, 83, 84, 85, 98, 99, 100, 101, 102, 103, 104, 105, 106, 107, 108, 109, 110, 111, 112, 113, 114, 115, 116, 117, 118, 119, 120] (by decide +kernel) (by decide +kernel)
set_option maxRecDepth 20000 in
theorem gX7_actByRules_X7_actBy : GoodIn wsX7_actByRules (wsV RX7 246 RX7 yX7_actBy wsX7_actBy) := goodIn_app (goodIn_of _ (by decide +kernel)) ggX7_actByRules_X7_actBy
theorem dX7_actByRules_0 : decode cX7_actByRules 0 = .ok (.iconst 0, 1) := by decide +kernel
theorem dX7_actByRules_1 : decode cX7_actByRules 1 = .ok (.istore_n 1, 1) := by decide +kernel
theorem dX7_actByRules_2 : decode cX7_actByRules 2 = .ok (.iconst 0, 1) := by decide +kernel
theorem dX7_actByRules_3 : decode cX7_actByRules 3 = .ok (.istore_n 2, 1) := by decide +kernel
theorem dX7_actByRules_4 : decode cX7_actByRules 4 = .ok (.iload_n 2, 1) := by decide +kernel
theorem dX7_actByRules_5 : decode cX7_actByRules 5 = .ok (.aload_n 0, 1) := by decide +kernel
theorem dX7_actByRules_6 : decode cX7_actByRules 6 = .ok (.getfield 40, 3) := by decide +kernel
theorem dX7_actByRules_9 : decode cX7_actByRules 9 = .ok (.getfield 237, 3) := by decide +kernel
theorem dX7_actByRules_12 : decode cX7_actByRules 12 = .ok (.if_icmp .ge 53, 3) := by decide +kernel
theorem dX7_actByRules_15 : decode cX7_actByRules 15 = .ok (.aload_n 0, 1) := by decide +kernel
theorem dX7_actByRules_16 : decode cX7_actByRules 16 = .ok (.getfield 40, 3) := by decide +kernel
theorem dX7_actByRules_19 : decode cX7_actByRules 19 = .ok (.iconst 4, 1) := by decide +kernel
theorem dX7_actByRules_20 : decode cX7_actByRules 20 = .ok (.aload_n 0, 1) := by decide +kernel
theorem dX7_actByRules_21 : decode cX7_actByRules 21 = .ok (.getfield 19, 3) := by decide +kernel
theorem dX7_actByRules_24 : decode cX7_actByRules 24 = .ok (.invokevirtual 240, 3) := by decide +kernel
theorem dX7_actByRules_27 : decode cX7_actByRules 27 = .ok (.invokevirtual 221, 3) := by decide +kernel
theorem dX7_actByRules_30 : decode cX7_actByRules 30 = .ok (.aload_n 0, 1) := by decide +kernel
theorem dX7_actByRules_31 : decode cX7_actByRules 31 = .ok (.getfield 40, 3) := by decide +kernel
theorem dX7_actByRules_34 : decode cX7_actByRules 34 = .ok (.iload_n 2, 1) := by decide +kernel
theorem dX7_actByRules_35 : decode cX7_actByRules 35 = .ok (.aload_n 0, 1) := by decide +kernel
theorem dX7_actByRules_36 : decode cX7_actByRules 36 = .ok (.getfield 26, 3) := by decide +kernel
theorem dX7_actByRules_39 : decode cX7_actByRules 39 = .ok (.getfield 172, 3) := by decide +kernel
theorem dX7_actByRules_42 : decode cX7_actByRules 42 = .ok (.invokevirtual 243, 3) := by decide +kernel
theorem dX7_actByRules_45 : decode cX7_actByRules 45 = .ok (.ifCond .eq 14, 3) := by decide +kernel
theorem dX7_actByRules_48 : decode cX7_actByRules 48 = .ok (.aload_n 0, 1) := by decide +kernel
theorem dX7_actByRules_49 : decode cX7_actByRules 49 = .ok (.iload_n 2, 1) := by decide +kernel
theorem dX7_actByRules_50 : decode cX7_actByRules 50 = .ok (.invokevirtual 246, 3) := by decide +kernel
theorem dX7_actByRules_53 : decode cX7_actByRules 53 = .ok (.iload_n 1, 1) := by decide +kernel
theorem dX7_actByRules_54 : decode cX7_actByRules 54 = .ok (.iconst 1, 1) := by decide +kernel
theorem dX7_actByRules_55 : decode cX7_actByRules 55 = .ok (.iload_n 2, 1) := by decide +kernel
theorem dX7_actByRules_56 : decode cX7_actByRules 56 = .ok (.ishl, 1) := by decide +kernel
theorem dX7_actByRules_57 : decode cX7_actByRules 57 = .ok (.ior, 1) := by decide +kernel
theorem dX7_actByRules_58 : decode cX7_actByRules 58 = .ok (.istore_n 1, 1) := by decide +kernel
theorem dX7_actByRules_59 : decode cX7_actByRules 59 = .ok (.iinc 2 1, 3) := by decide +kernel
theorem dX7_actByRules_62 : decode cX7_actByRules 62 = .ok (.goto (-58), 3) := by decide +kernel
theorem dX7_actByRules_65 : decode cX7_actByRules 65 = .ok (.iload_n 1, 1) := by decide +kernel
theorem dX7_actByRules_66 : decode cX7_actByRules 66 = .ok (.ireturn, 1) := by decide +kernel
set_option maxRecDepth 20000 in
theorem ggX7_actBy_X1_turn : GoodIn wsX7_actBy wsX1_turn := goodIn_r _ [10, 11, 12, 13, 14, 9, 15, 16, 56, 57, 58, 59] (by decide +kernel) (by decide +kernel)
set_option maxRecDepth 20000 in
theorem gX7_actBy_X1_turn : GoodIn wsX7_actBy (wsV RX7 138 RX1 yX1_turn wsX1_turn) := goodIn_app (goodIn_of _ (by decide +kernel)) ggX7_actBy_X1_turn
set_option maxRecDepth 20000 in
theorem ggX7_actBy_X2_mend : GoodIn wsX7_actBy wsX2_mend := goodIn_r _ [21, 22, 23, 24, 25, 26, 27, 28, 29, 20, 30, 31, 32, 60, 61, 62, 63, 64, 65, 66, 67, 68, 69, 70, 71, 72, 73, 74, 75, 76, 77, 78] (by decide +kernel) (by decide +kernel)
set_option maxRecDepth 20000 in
theorem gX7_actBy_X2_mend : GoodIn wsX7_actBy (wsV RX7 255 RX2 yX2_mend wsX2_mend) := goodIn_app (goodIn_of _ (by decide +kernel)) ggX7_actBy_X2_mend
set_option maxRecDepth 20000 in
theorem ggX7_actBy_X1_shutAll : GoodIn wsX7_actBy wsX1_shutAll := goodIn_r _ [36, 16, 11, 56, 57, 58, 59] (by decide +kernel) (by decide +kernel)
set_option maxRecDepth 20000 in
theorem gX7_actBy_X1_shutAll : GoodIn wsX7_actBy (wsV RX7 258 RX1 yX1_shutAll wsX1_shutAll) := goodIn_app (goodIn_of _ (by decide +kernel)) ggX7_actBy_X1_shutAll
theorem dX7_actBy_0 : decode cX7_actBy 0 = .ok (.aload_n 0, 1) := by decide +kernel
theorem dX7_actBy_1 : decode cX7_actBy 1 = .ok (.getfield 40, 3) := by decide +kernel
theorem dX7_actBy_4 : decode cX7_actBy 4 = .ok (.getfield 249, 3) := by decide +kernel
theorem dX7_actBy_7 : decode cX7_actBy 7 = .ok (.iload_n 1, 1) := by decide +kernel
theorem dX7_actBy_8 : decode cX7_actBy 8 = .ok (.iaload, 1) := by decide +kernel
theorem dX7_actBy_9 : decode cX7_actBy 9 = .ok (.lookupswitch 85 #[(43, 35), (45, 55), (94, 75)], 35) := by decide +kernel
theorem dX7_actBy_44 : decode cX7_actBy 44 = .ok (.aload_n 0, 1) := by decide +kernel
theorem dX7_actBy_45 : decode cX7_actBy 45 = .ok (.getfield 19, 3) := by decide +kernel
theorem dX7_actBy_48 : decode cX7_actBy 48 = .ok (.aload_n 0, 1) := by decide +kernel
theorem dX7_actBy_49 : decode cX7_actBy 49 = .ok (.getfield 40, 3) := by decide +kernel
theorem dX7_actBy_52 : decode cX7_actBy 52 = .ok (.getfield 252, 3) := by decide +kernel
theorem dX7_actBy_55 : decode cX7_actBy 55 = .ok (.iload_n 1, 1) := by decide +kernel
theorem dX7_actBy_56 : decode cX7_actBy 56 = .ok (.iaload, 1) := by decide +kernel
theorem dX7_actBy_57 : decode cX7_actBy 57 = .ok (.iconst 1, 1) := by decide +kernel
theorem dX7_actBy_58 : decode cX7_actBy 58 = .ok (.invokevirtual 138, 3) := by decide +kernel
theorem dX7_actBy_61 : decode cX7_actBy 61 = .ok (.goto 40, 3) := by decide +kernel
theorem dX7_actBy_64 : decode cX7_actBy 64 = .ok (.aload_n 0, 1) := by decide +kernel
theorem dX7_actBy_65 : decode cX7_actBy 65 = .ok (.getfield 19, 3) := by decide +kernel
theorem dX7_actBy_68 : decode cX7_actBy 68 = .ok (.aload_n 0, 1) := by decide +kernel
theorem dX7_actBy_69 : decode cX7_actBy 69 = .ok (.getfield 40, 3) := by decide +kernel
theorem dX7_actBy_72 : decode cX7_actBy 72 = .ok (.getfield 252, 3) := by decide +kernel
theorem dX7_actBy_75 : decode cX7_actBy 75 = .ok (.iload_n 1, 1) := by decide +kernel
theorem dX7_actBy_76 : decode cX7_actBy 76 = .ok (.iaload, 1) := by decide +kernel
theorem dX7_actBy_77 : decode cX7_actBy 77 = .ok (.iconst 0, 1) := by decide +kernel
theorem dX7_actBy_78 : decode cX7_actBy 78 = .ok (.invokevirtual 138, 3) := by decide +kernel
theorem dX7_actBy_81 : decode cX7_actBy 81 = .ok (.goto 20, 3) := by decide +kernel
theorem dX7_actBy_84 : decode cX7_actBy 84 = .ok (.aload_n 0, 1) := by decide +kernel
theorem dX7_actBy_85 : decode cX7_actBy 85 = .ok (.getfield 10, 3) := by decide +kernel
theorem dX7_actBy_88 : decode cX7_actBy 88 = .ok (.invokevirtual 255, 3) := by decide +kernel
theorem dX7_actBy_91 : decode cX7_actBy 91 = .ok (.goto 10, 3) := by decide +kernel
theorem dX7_actBy_94 : decode cX7_actBy 94 = .ok (.aload_n 0, 1) := by decide +kernel
theorem dX7_actBy_95 : decode cX7_actBy 95 = .ok (.getfield 19, 3) := by decide +kernel
theorem dX7_actBy_98 : decode cX7_actBy 98 = .ok (.invokevirtual 258, 3) := by decide +kernel
theorem dX7_actBy_101 : decode cX7_actBy 101 = .ok (.return_, 1) := by decide +kernel
set_option maxRecDepth 20000 in
theorem ggX7_rake_X2_sum : GoodIn wsX7_rake wsX2_sum := goodIn_r _ [13, 14, 77, 78, 79, 80, 81, 82, 83, 84, 85, 86, 87, 88, 89, 90, 91, 92, 93, 94, 95] (by decide +kernel) (by decide +kernel)
set_option maxRecDepth 20000 in
theorem gX7_rake_X2_sum : GoodIn wsX7_rake (wsV RX7 168 RX2 yX2_sum wsX2_sum) := goodIn_app (goodIn_of _ (by decide +kernel)) ggX7_rake_X2_sum
set_option maxRecDepth 20000 in
theorem ggX7_rake_X2_build : GoodIn wsX7_rake wsX2_build := goodIn_r _ [18, 19, 20, 14, 21, 22, 23, 24, 25, 26, 27, 28, 29, 30, 31, 32, 12, 33, 34, 35, 36, 37, 38, 39, 40, 41, 42, 43, 44, 45, 46, 47, 48, 49, 50, 51, 52, 77, 78, 79, 80, 81, 82, 83, 84, 85, 86, 87, 88, 89, 90, 91, 92, 93, 94, 95] (by decide +kernel) (by decide +kernel)
set_option maxRecDepth 20000 in
theorem gX7_rake_X2_build : GoodIn wsX7_rake (wsV RX7 72 RX2 yX2_build wsX2_build) := goodIn_app (goodIn_of _ (by decide +kernel)) ggX7_rake_X2_build
set_option maxRecDepth 20000 in
theorem ggX7_rake_X1_shutAll : GoodIn wsX7_rake wsX1_shutAll := goodIn_r _ [57, 58, 59, 96, 97, 98, 99] (by decide +kernel) (by decide +kernel)
set_option maxRecDepth 20000 in
theorem gX7_rake_X1_shutAll : GoodIn wsX7_rake (wsV RX7 258 RX1 yX1_shutAll wsX1_shutAll) := goodIn_app (goodIn_of _ (by decide +kernel)) ggX7_rake_X1_shutAll
set_option maxRecDepth 20000 in
theorem ggX7_rake_X0_forget : GoodIn wsX7_rake wsX0_forget := goodIn_r _ [64, 65, 66, 100, 101, 102, 103, 104, 105, 106, 107, 108, 109, 110, 111] (by decide +kernel) (by decide +kernel)
set_option maxRecDepth 20000 in
theorem gX7_rake_X0_forget : GoodIn wsX7_rake (wsV RX7 79 RX0 yX0_forget wsX0_forget) := goodIn_app (goodIn_of _ (by decide +kernel)) ggX7_rake_X0_forget
theorem dX7_rake_0 : decode cX7_rake 0 = .ok (.aload_n 0, 1) := by decide +kernel
theorem dX7_rake_1 : decode cX7_rake 1 = .ok (.getfield 60, 3) := by decide +kernel
theorem dX7_rake_4 : decode cX7_rake 4 = .ok (.ifCond .ne 5, 3) := by decide +kernel
theorem dX7_rake_7 : decode cX7_rake 7 = .ok (.iconst (-1), 1) := by decide +kernel
theorem dX7_rake_8 : decode cX7_rake 8 = .ok (.ireturn, 1) := by decide +kernel
theorem dX7_rake_9 : decode cX7_rake 9 = .ok (.aload_n 0, 1) := by decide +kernel
theorem dX7_rake_10 : decode cX7_rake 10 = .ok (.getfield 10, 3) := by decide +kernel
theorem dX7_rake_13 : decode cX7_rake 13 = .ok (.aload_n 0, 1) := by decide +kernel
theorem dX7_rake_14 : decode cX7_rake 14 = .ok (.getfield 10, 3) := by decide +kernel
theorem dX7_rake_17 : decode cX7_rake 17 = .ok (.getfield 165, 3) := by decide +kernel
theorem dX7_rake_20 : decode cX7_rake 20 = .ok (.invokevirtual 168, 3) := by decide +kernel
theorem dX7_rake_23 : decode cX7_rake 23 = .ok (.bipush 25, 2) := by decide +kernel
theorem dX7_rake_25 : decode cX7_rake 25 = .ok (.idiv, 1) := by decide +kernel
theorem dX7_rake_26 : decode cX7_rake 26 = .ok (.istore_n 1, 1) := by decide +kernel
theorem dX7_rake_27 : decode cX7_rake 27 = .ok (.aload_n 0, 1) := by decide +kernel
theorem dX7_rake_28 : decode cX7_rake 28 = .ok (.dup, 1) := by decide +kernel
theorem dX7_rake_29 : decode cX7_rake 29 = .ok (.getfield 69, 3) := by decide +kernel
theorem dX7_rake_32 : decode cX7_rake 32 = .ok (.iload_n 1, 1) := by decide +kernel
theorem dX7_rake_33 : decode cX7_rake 33 = .ok (.iadd, 1) := by decide +kernel
theorem dX7_rake_34 : decode cX7_rake 34 = .ok (.putfield 69, 3) := by decide +kernel
theorem dX7_rake_37 : decode cX7_rake 37 = .ok (.aload_n 0, 1) := by decide +kernel
theorem dX7_rake_38 : decode cX7_rake 38 = .ok (.getfield 10, 3) := by decide +kernel
theorem dX7_rake_41 : decode cX7_rake 41 = .ok (.aload_n 0, 1) := by decide +kernel
theorem dX7_rake_42 : decode cX7_rake 42 = .ok (.getfield 10, 3) := by decide +kernel
theorem dX7_rake_45 : decode cX7_rake 45 = .ok (.getfield 95, 3) := by decide +kernel
theorem dX7_rake_48 : decode cX7_rake 48 = .ok (.aload_n 0, 1) := by decide +kernel
theorem dX7_rake_49 : decode cX7_rake 49 = .ok (.getfield 10, 3) := by decide +kernel
theorem dX7_rake_52 : decode cX7_rake 52 = .ok (.getfield 261, 3) := by decide +kernel
theorem dX7_rake_55 : decode cX7_rake 55 = .ok (.invokevirtual 72, 3) := by decide +kernel
theorem dX7_rake_58 : decode cX7_rake 58 = .ok (.aload_n 0, 1) := by decide +kernel
theorem dX7_rake_59 : decode cX7_rake 59 = .ok (.getfield 19, 3) := by decide +kernel
theorem dX7_rake_62 : decode cX7_rake 62 = .ok (.invokevirtual 258, 3) := by decide +kernel
theorem dX7_rake_65 : decode cX7_rake 65 = .ok (.aload_n 0, 1) := by decide +kernel
theorem dX7_rake_66 : decode cX7_rake 66 = .ok (.getfield 26, 3) := by decide +kernel
theorem dX7_rake_69 : decode cX7_rake 69 = .ok (.invokevirtual 79, 3) := by decide +kernel
theorem dX7_rake_72 : decode cX7_rake 72 = .ok (.aload_n 0, 1) := by decide +kernel
theorem dX7_rake_73 : decode cX7_rake 73 = .ok (.iconst 0, 1) := by decide +kernel
theorem dX7_rake_74 : decode cX7_rake 74 = .ok (.putfield 60, 3) := by decide +kernel
theorem dX7_rake_77 : decode cX7_rake 77 = .ok (.iload_n 1, 1) := by decide +kernel
theorem dX7_rake_78 : decode cX7_rake 78 = .ok (.ireturn, 1) := by decide +kernel
set_option maxRecDepth 20000 in
theorem ggX7_count_X1_countOpen : GoodIn wsX7_count wsX1_countOpen := goodIn_r _ [22, 23, 24, 60, 61, 62, 63] (by decide +kernel) (by decide +kernel)
set_option maxRecDepth 20000 in
theorem gX7_count_X1_countOpen : GoodIn wsX7_count (wsV RX7 240 RX1 yX1_countOpen wsX1_countOpen) := goodIn_app (goodIn_of _ (by decide +kernel)) ggX7_count_X1_countOpen
set_option maxRecDepth 20000 in
theorem ggX7_count_X2_sum : GoodIn wsX7_count wsX2_sum := goodIn_r _ [29, 30, 41, 42, 43, 44, 45, 46, 47, 48, 49, 50, 51, 52, 53, 54, 55, 56, 57, 58, 59] (by decide +kernel) (by decide +kernel)
set_option maxRecDepth 20000 in
theorem gX7_count_X2_sum : GoodIn wsX7_count (wsV RX7 168 RX2 yX2_sum wsX2_sum) := goodIn_app (goodIn_of _ (by decide +kernel)) ggX7_count_X2_sum
theorem dX7_count_0 : decode cX7_count 0 = .ok (.iload_n 1, 1) := by decide +kernel
theorem dX7_count_1 : decode cX7_count 1 = .ok (.tableswitch 168 0 11 #[63, 71, 79, 87, 95, 103, 111, 124, 139, 147, 155, 163], 63) := by decide +kernel
theorem dX7_count_64 : decode cX7_count 64 = .ok (.aload_n 0, 1) := by decide +kernel
theorem dX7_count_65 : decode cX7_count 65 = .ok (.getfield 10, 3) := by decide +kernel
theorem dX7_count_68 : decode cX7_count 68 = .ok (.getfield 95, 3) := by decide +kernel
theorem dX7_count_71 : decode cX7_count 71 = .ok (.ireturn, 1) := by decide +kernel
theorem dX7_count_72 : decode cX7_count 72 = .ok (.aload_n 0, 1) := by decide +kernel
theorem dX7_count_73 : decode cX7_count 73 = .ok (.getfield 10, 3) := by decide +kernel
theorem dX7_count_76 : decode cX7_count 76 = .ok (.getfield 261, 3) := by decide +kernel
theorem dX7_count_79 : decode cX7_count 79 = .ok (.ireturn, 1) := by decide +kernel
theorem dX7_count_80 : decode cX7_count 80 = .ok (.aload_n 0, 1) := by decide +kernel
theorem dX7_count_81 : decode cX7_count 81 = .ok (.getfield 19, 3) := by decide +kernel
theorem dX7_count_84 : decode cX7_count 84 = .ok (.getfield 264, 3) := by decide +kernel
theorem dX7_count_87 : decode cX7_count 87 = .ok (.ireturn, 1) := by decide +kernel
theorem dX7_count_88 : decode cX7_count 88 = .ok (.aload_n 0, 1) := by decide +kernel
theorem dX7_count_89 : decode cX7_count 89 = .ok (.getfield 19, 3) := by decide +kernel
theorem dX7_count_92 : decode cX7_count 92 = .ok (.invokevirtual 240, 3) := by decide +kernel
theorem dX7_count_95 : decode cX7_count 95 = .ok (.ireturn, 1) := by decide +kernel
theorem dX7_count_96 : decode cX7_count 96 = .ok (.aload_n 0, 1) := by decide +kernel
theorem dX7_count_97 : decode cX7_count 97 = .ok (.getfield 40, 3) := by decide +kernel
theorem dX7_count_100 : decode cX7_count 100 = .ok (.getfield 237, 3) := by decide +kernel
theorem dX7_count_103 : decode cX7_count 103 = .ok (.ireturn, 1) := by decide +kernel
theorem dX7_count_104 : decode cX7_count 104 = .ok (.aload_n 0, 1) := by decide +kernel
theorem dX7_count_105 : decode cX7_count 105 = .ok (.getfield 26, 3) := by decide +kernel
theorem dX7_count_108 : decode cX7_count 108 = .ok (.getfield 172, 3) := by decide +kernel
theorem dX7_count_111 : decode cX7_count 111 = .ok (.ireturn, 1) := by decide +kernel
theorem dX7_count_112 : decode cX7_count 112 = .ok (.aload_n 0, 1) := by decide +kernel
theorem dX7_count_113 : decode cX7_count 113 = .ok (.getfield 60, 3) := by decide +kernel
theorem dX7_count_116 : decode cX7_count 116 = .ok (.ifCond .eq 7, 3) := by decide +kernel
theorem dX7_count_119 : decode cX7_count 119 = .ok (.iconst 1, 1) := by decide +kernel
theorem dX7_count_120 : decode cX7_count 120 = .ok (.goto 4, 3) := by decide +kernel
theorem dX7_count_123 : decode cX7_count 123 = .ok (.iconst 0, 1) := by decide +kernel
theorem dX7_count_124 : decode cX7_count 124 = .ok (.ireturn, 1) := by decide +kernel
theorem dX7_count_125 : decode cX7_count 125 = .ok (.aload_n 0, 1) := by decide +kernel
theorem dX7_count_126 : decode cX7_count 126 = .ok (.getfield 10, 3) := by decide +kernel
theorem dX7_count_129 : decode cX7_count 129 = .ok (.aload_n 0, 1) := by decide +kernel
theorem dX7_count_130 : decode cX7_count 130 = .ok (.getfield 10, 3) := by decide +kernel
theorem dX7_count_133 : decode cX7_count 133 = .ok (.getfield 227, 3) := by decide +kernel
theorem dX7_count_136 : decode cX7_count 136 = .ok (.invokevirtual 168, 3) := by decide +kernel
theorem dX7_count_139 : decode cX7_count 139 = .ok (.ireturn, 1) := by decide +kernel
theorem dX7_count_140 : decode cX7_count 140 = .ok (.aload_n 0, 1) := by decide +kernel
theorem dX7_count_141 : decode cX7_count 141 = .ok (.getfield 26, 3) := by decide +kernel
theorem dX7_count_144 : decode cX7_count 144 = .ok (.getfield 182, 3) := by decide +kernel
theorem dX7_count_147 : decode cX7_count 147 = .ok (.ireturn, 1) := by decide +kernel
theorem dX7_count_148 : decode cX7_count 148 = .ok (.aload_n 0, 1) := by decide +kernel
theorem dX7_count_149 : decode cX7_count 149 = .ok (.getfield 56, 3) := by decide +kernel
theorem dX7_count_152 : decode cX7_count 152 = .ok (.getfield 265, 3) := by decide +kernel
theorem dX7_count_155 : decode cX7_count 155 = .ok (.ireturn, 1) := by decide +kernel
theorem dX7_count_156 : decode cX7_count 156 = .ok (.aload_n 0, 1) := by decide +kernel
theorem dX7_count_157 : decode cX7_count 157 = .ok (.getfield 33, 3) := by decide +kernel
theorem dX7_count_160 : decode cX7_count 160 = .ok (.getfield 266, 3) := by decide +kernel
theorem dX7_count_163 : decode cX7_count 163 = .ok (.ireturn, 1) := by decide +kernel
theorem dX7_count_164 : decode cX7_count 164 = .ok (.aload_n 0, 1) := by decide +kernel
theorem dX7_count_165 : decode cX7_count 165 = .ok (.getfield 69, 3) := by decide +kernel
theorem dX7_count_168 : decode cX7_count 168 = .ok (.ireturn, 1) := by decide +kernel
theorem dX7_count_169 : decode cX7_count 169 = .ok (.iconst (-1), 1) := by decide +kernel
theorem dX7_count_170 : decode cX7_count 170 = .ok (.ireturn, 1) := by decide +kernel
theorem dX7_cell_0 : decode cX7_cell 0 = .ok (.aload_n 0, 1) := by decide +kernel
theorem dX7_cell_1 : decode cX7_cell 1 = .ok (.getfield 10, 3) := by decide +kernel
theorem dX7_cell_4 : decode cX7_cell 4 = .ok (.iload_n 1, 1) := by decide +kernel
theorem dX7_cell_5 : decode cX7_cell 5 = .ok (.iload_n 2, 1) := by decide +kernel
theorem dX7_cell_6 : decode cX7_cell 6 = .ok (.invokevirtual 80, 3) := by decide +kernel
theorem dX7_cell_9 : decode cX7_cell 9 = .ok (.ifCond .eq 13, 3) := by decide +kernel
theorem dX7_cell_12 : decode cX7_cell 12 = .ok (.iload_n 3, 1) := by decide +kernel
theorem dX7_cell_13 : decode cX7_cell 13 = .ok (.ifCond .lt 9, 3) := by decide +kernel
theorem dX7_cell_16 : decode cX7_cell 16 = .ok (.iload_n 3, 1) := by decide +kernel
theorem dX7_cell_17 : decode cX7_cell 17 = .ok (.bipush 8, 2) := by decide +kernel
theorem dX7_cell_19 : decode cX7_cell 19 = .ok (.if_icmp .le 11, 3) := by decide +kernel
theorem dX7_cell_22 : decode cX7_cell 22 = .ok (.new 269, 3) := by decide +kernel
theorem dX7_cell_25 : decode cX7_cell 25 = .ok (.dup, 1) := by decide +kernel
theorem dX7_cell_26 : decode cX7_cell 26 = .ok (.invokespecial 271, 3) := by decide +kernel
theorem dX7_cell_29 : decode cX7_cell 29 = .ok (.athrow, 1) := by decide +kernel
theorem dX7_cell_30 : decode cX7_cell 30 = .ok (.aload_n 0, 1) := by decide +kernel
theorem dX7_cell_31 : decode cX7_cell 31 = .ok (.getfield 10, 3) := by decide +kernel
theorem dX7_cell_34 : decode cX7_cell 34 = .ok (.iload_n 1, 1) := by decide +kernel
theorem dX7_cell_35 : decode cX7_cell 35 = .ok (.iload_n 2, 1) := by decide +kernel
theorem dX7_cell_36 : decode cX7_cell 36 = .ok (.invokevirtual 88, 3) := by decide +kernel
theorem dX7_cell_39 : decode cX7_cell 39 = .ok (.istore 4, 2) := by decide +kernel
theorem dX7_cell_41 : decode cX7_cell 41 = .ok (.iload_n 3, 1) := by decide +kernel
theorem dX7_cell_42 : decode cX7_cell 42 = .ok (.tableswitch 151 0 7 #[46, 57, 68, 79, 90, 101, 129, 140], 46) := by decide +kernel
theorem dX7_cell_88 : decode cX7_cell 88 = .ok (.aload_n 0, 1) := by decide +kernel
theorem dX7_cell_89 : decode cX7_cell 89 = .ok (.getfield 10, 3) := by decide +kernel
theorem dX7_cell_92 : decode cX7_cell 92 = .ok (.getfield 108, 3) := by decide +kernel
theorem dX7_cell_95 : decode cX7_cell 95 = .ok (.iload 4, 2) := by decide +kernel
theorem dX7_cell_97 : decode cX7_cell 97 = .ok (.iaload, 1) := by decide +kernel
theorem dX7_cell_98 : decode cX7_cell 98 = .ok (.ireturn, 1) := by decide +kernel
theorem dX7_cell_99 : decode cX7_cell 99 = .ok (.aload_n 0, 1) := by decide +kernel
theorem dX7_cell_100 : decode cX7_cell 100 = .ok (.getfield 10, 3) := by decide +kernel
theorem dX7_cell_103 : decode cX7_cell 103 = .ok (.getfield 165, 3) := by decide +kernel
theorem dX7_cell_106 : decode cX7_cell 106 = .ok (.iload 4, 2) := by decide +kernel
theorem dX7_cell_108 : decode cX7_cell 108 = .ok (.iaload, 1) := by decide +kernel
theorem dX7_cell_109 : decode cX7_cell 109 = .ok (.ireturn, 1) := by decide +kernel
theorem dX7_cell_110 : decode cX7_cell 110 = .ok (.aload_n 0, 1) := by decide +kernel
theorem dX7_cell_111 : decode cX7_cell 111 = .ok (.getfield 10, 3) := by decide +kernel
theorem dX7_cell_114 : decode cX7_cell 114 = .ok (.getfield 272, 3) := by decide +kernel
theorem dX7_cell_117 : decode cX7_cell 117 = .ok (.iload 4, 2) := by decide +kernel
theorem dX7_cell_119 : decode cX7_cell 119 = .ok (.iaload, 1) := by decide +kernel
theorem dX7_cell_120 : decode cX7_cell 120 = .ok (.ireturn, 1) := by decide +kernel
theorem dX7_cell_121 : decode cX7_cell 121 = .ok (.aload_n 0, 1) := by decide +kernel
theorem dX7_cell_122 : decode cX7_cell 122 = .ok (.getfield 10, 3) := by decide +kernel
theorem dX7_cell_125 : decode cX7_cell 125 = .ok (.getfield 275, 3) := by decide +kernel
theorem dX7_cell_128 : decode cX7_cell 128 = .ok (.iload 4, 2) := by decide +kernel
theorem dX7_cell_130 : decode cX7_cell 130 = .ok (.iaload, 1) := by decide +kernel
theorem dX7_cell_131 : decode cX7_cell 131 = .ok (.ireturn, 1) := by decide +kernel
theorem dX7_cell_132 : decode cX7_cell 132 = .ok (.aload_n 0, 1) := by decide +kernel
theorem dX7_cell_133 : decode cX7_cell 133 = .ok (.getfield 10, 3) := by decide +kernel
theorem dX7_cell_136 : decode cX7_cell 136 = .ok (.getfield 227, 3) := by decide +kernel
theorem dX7_cell_139 : decode cX7_cell 139 = .ok (.iload 4, 2) := by decide +kernel
theorem dX7_cell_141 : decode cX7_cell 141 = .ok (.iaload, 1) := by decide +kernel
theorem dX7_cell_142 : decode cX7_cell 142 = .ok (.ireturn, 1) := by decide +kernel
theorem dX7_cell_143 : decode cX7_cell 143 = .ok (.aload_n 0, 1) := by decide +kernel
theorem dX7_cell_144 : decode cX7_cell 144 = .ok (.getfield 10, 3) := by decide +kernel
theorem dX7_cell_147 : decode cX7_cell 147 = .ok (.getfield 278, 3) := by decide +kernel
theorem dX7_cell_150 : decode cX7_cell 150 = .ok (.iload 4, 2) := by decide +kernel
theorem dX7_cell_152 : decode cX7_cell 152 = .ok (.baload, 1) := by decide +kernel
theorem dX7_cell_153 : decode cX7_cell 153 = .ok (.ifCond .eq 16, 3) := by decide +kernel
theorem dX7_cell_156 : decode cX7_cell 156 = .ok (.aload_n 0, 1) := by decide +kernel
theorem dX7_cell_157 : decode cX7_cell 157 = .ok (.getfield 10, 3) := by decide +kernel
theorem dX7_cell_160 : decode cX7_cell 160 = .ok (.getfield 142, 3) := by decide +kernel
theorem dX7_cell_163 : decode cX7_cell 163 = .ok (.iload 4, 2) := by decide +kernel
theorem dX7_cell_165 : decode cX7_cell 165 = .ok (.iaload, 1) := by decide +kernel
theorem dX7_cell_166 : decode cX7_cell 166 = .ok (.goto 4, 3) := by decide +kernel
theorem dX7_cell_169 : decode cX7_cell 169 = .ok (.iconst (-1), 1) := by decide +kernel
theorem dX7_cell_170 : decode cX7_cell 170 = .ok (.ireturn, 1) := by decide +kernel
theorem dX7_cell_171 : decode cX7_cell 171 = .ok (.aload_n 0, 1) := by decide +kernel
theorem dX7_cell_172 : decode cX7_cell 172 = .ok (.getfield 10, 3) := by decide +kernel
theorem dX7_cell_175 : decode cX7_cell 175 = .ok (.getfield 282, 3) := by decide +kernel
theorem dX7_cell_178 : decode cX7_cell 178 = .ok (.iload 4, 2) := by decide +kernel
theorem dX7_cell_180 : decode cX7_cell 180 = .ok (.iaload, 1) := by decide +kernel
theorem dX7_cell_181 : decode cX7_cell 181 = .ok (.ireturn, 1) := by decide +kernel
theorem dX7_cell_182 : decode cX7_cell 182 = .ok (.aload_n 0, 1) := by decide +kernel
theorem dX7_cell_183 : decode cX7_cell 183 = .ok (.getfield 10, 3) := by decide +kernel
theorem dX7_cell_186 : decode cX7_cell 186 = .ok (.getfield 285, 3) := by decide +kernel
theorem dX7_cell_189 : decode cX7_cell 189 = .ok (.iload 4, 2) := by decide +kernel
theorem dX7_cell_191 : decode cX7_cell 191 = .ok (.iaload, 1) := by decide +kernel
theorem dX7_cell_192 : decode cX7_cell 192 = .ok (.ireturn, 1) := by decide +kernel
theorem dX7_cell_193 : decode cX7_cell 193 = .ok (.aload_n 0, 1) := by decide +kernel
theorem dX7_cell_194 : decode cX7_cell 194 = .ok (.getfield 10, 3) := by decide +kernel
theorem dX7_cell_197 : decode cX7_cell 197 = .ok (.getfield 288, 3) := by decide +kernel
theorem dX7_cell_200 : decode cX7_cell 200 = .ok (.iload 4, 2) := by decide +kernel
theorem dX7_cell_202 : decode cX7_cell 202 = .ok (.iaload, 1) := by decide +kernel
theorem dX7_cell_203 : decode cX7_cell 203 = .ok (.ireturn, 1) := by decide +kernel
set_option maxRecDepth 20000 in
theorem ggX7_all_X2_sum : GoodIn wsX7_all wsX2_sum := goodIn_r _ [11, 12, 23, 24, 25, 26, 27, 28, 29, 30, 31, 32, 33, 34, 35, 36, 37, 38, 39, 40, 41] (by decide +kernel) (by decide +kernel)
set_option maxRecDepth 20000 in
theorem gX7_all_X2_sum : GoodIn wsX7_all (wsV RX7 168 RX2 yX2_sum wsX2_sum) := goodIn_app (goodIn_of _ (by decide +kernel)) ggX7_all_X2_sum
theorem dX7_all_0 : decode cX7_all 0 = .ok (.iload_n 1, 1) := by decide +kernel
theorem dX7_all_1 : decode cX7_all 1 = .ok (.tableswitch 96 0 4 #[35, 50, 65, 80, 88], 35) := by decide +kernel
theorem dX7_all_36 : decode cX7_all 36 = .ok (.aload_n 0, 1) := by decide +kernel
theorem dX7_all_37 : decode cX7_all 37 = .ok (.getfield 10, 3) := by decide +kernel
theorem dX7_all_40 : decode cX7_all 40 = .ok (.aload_n 0, 1) := by decide +kernel
theorem dX7_all_41 : decode cX7_all 41 = .ok (.getfield 10, 3) := by decide +kernel
theorem dX7_all_44 : decode cX7_all 44 = .ok (.getfield 285, 3) := by decide +kernel
theorem dX7_all_47 : decode cX7_all 47 = .ok (.invokevirtual 168, 3) := by decide +kernel
theorem dX7_all_50 : decode cX7_all 50 = .ok (.ireturn, 1) := by decide +kernel
theorem dX7_all_51 : decode cX7_all 51 = .ok (.aload_n 0, 1) := by decide +kernel
theorem dX7_all_52 : decode cX7_all 52 = .ok (.getfield 10, 3) := by decide +kernel
theorem dX7_all_55 : decode cX7_all 55 = .ok (.aload_n 0, 1) := by decide +kernel
theorem dX7_all_56 : decode cX7_all 56 = .ok (.getfield 10, 3) := by decide +kernel
theorem dX7_all_59 : decode cX7_all 59 = .ok (.getfield 108, 3) := by decide +kernel
theorem dX7_all_62 : decode cX7_all 62 = .ok (.invokevirtual 168, 3) := by decide +kernel
theorem dX7_all_65 : decode cX7_all 65 = .ok (.ireturn, 1) := by decide +kernel
theorem dX7_all_66 : decode cX7_all 66 = .ok (.aload_n 0, 1) := by decide +kernel
theorem dX7_all_67 : decode cX7_all 67 = .ok (.getfield 10, 3) := by decide +kernel
theorem dX7_all_70 : decode cX7_all 70 = .ok (.aload_n 0, 1) := by decide +kernel
theorem dX7_all_71 : decode cX7_all 71 = .ok (.getfield 10, 3) := by decide +kernel
theorem dX7_all_74 : decode cX7_all 74 = .ok (.getfield 165, 3) := by decide +kernel
theorem dX7_all_77 : decode cX7_all 77 = .ok (.invokevirtual 168, 3) := by decide +kernel
theorem dX7_all_80 : decode cX7_all 80 = .ok (.ireturn, 1) := by decide +kernel
theorem dX7_all_81 : decode cX7_all 81 = .ok (.aload_n 0, 1) := by decide +kernel
theorem dX7_all_82 : decode cX7_all 82 = .ok (.getfield 10, 3) := by decide +kernel
theorem dX7_all_85 : decode cX7_all 85 = .ok (.getfield 291, 3) := by decide +kernel
theorem dX7_all_88 : decode cX7_all 88 = .ok (.ireturn, 1) := by decide +kernel
theorem dX7_all_89 : decode cX7_all 89 = .ok (.aload_n 0, 1) := by decide +kernel
theorem dX7_all_90 : decode cX7_all 90 = .ok (.getfield 10, 3) := by decide +kernel
theorem dX7_all_93 : decode cX7_all 93 = .ok (.getfield 294, 3) := by decide +kernel
theorem dX7_all_96 : decode cX7_all 96 = .ok (.ireturn, 1) := by decide +kernel
theorem dX7_all_97 : decode cX7_all 97 = .ok (.iconst (-1), 1) := by decide +kernel
theorem dX7_all_98 : decode cX7_all 98 = .ok (.ireturn, 1) := by decide +kernel
set_option maxRecDepth 20000 in
theorem ggX7_told_X0_has : GoodIn wsX7_told wsX0_has := goodIn_r _ [12, 13, 24, 25, 26, 27, 28, 29, 30, 31, 32, 33, 34, 35] (by decide +kernel) (by decide +kernel)
set_option maxRecDepth 20000 in
theorem gX7_told_X0_has : GoodIn wsX7_told (wsV RX7 155 RX0 yX0_has wsX0_has) := goodIn_app (goodIn_of _ (by decide +kernel)) ggX7_told_X0_has
theorem dX7_told_0 : decode cX7_told 0 = .ok (.aload_n 0, 1) := by decide +kernel
theorem dX7_told_1 : decode cX7_told 1 = .ok (.getfield 26, 3) := by decide +kernel
theorem dX7_told_4 : decode cX7_told 4 = .ok (.iload_n 1, 1) := by decide +kernel
theorem dX7_told_5 : decode cX7_told 5 = .ok (.invokevirtual 155, 3) := by decide +kernel
theorem dX7_told_8 : decode cX7_told 8 = .ok (.ifCond .ne 5, 3) := by decide +kernel
theorem dX7_told_11 : decode cX7_told 11 = .ok (.iconst (-1), 1) := by decide +kernel
theorem dX7_told_12 : decode cX7_told 12 = .ok (.ireturn, 1) := by decide +kernel
theorem dX7_told_13 : decode cX7_told 13 = .ok (.iload_n 2, 1) := by decide +kernel
theorem dX7_told_14 : decode cX7_told 14 = .ok (.tableswitch 98 0 5 #[38, 48, 58, 68, 78, 88], 38) := by decide +kernel
theorem dX7_told_52 : decode cX7_told 52 = .ok (.aload_n 0, 1) := by decide +kernel
theorem dX7_told_53 : decode cX7_told 53 = .ok (.getfield 26, 3) := by decide +kernel
theorem dX7_told_56 : decode cX7_told 56 = .ok (.getfield 156, 3) := by decide +kernel
theorem dX7_told_59 : decode cX7_told 59 = .ok (.iload_n 1, 1) := by decide +kernel
theorem dX7_told_60 : decode cX7_told 60 = .ok (.iaload, 1) := by decide +kernel
theorem dX7_told_61 : decode cX7_told 61 = .ok (.ireturn, 1) := by decide +kernel
theorem dX7_told_62 : decode cX7_told 62 = .ok (.aload_n 0, 1) := by decide +kernel
theorem dX7_told_63 : decode cX7_told 63 = .ok (.getfield 26, 3) := by decide +kernel
theorem dX7_told_66 : decode cX7_told 66 = .ok (.getfield 159, 3) := by decide +kernel
theorem dX7_told_69 : decode cX7_told 69 = .ok (.iload_n 1, 1) := by decide +kernel
theorem dX7_told_70 : decode cX7_told 70 = .ok (.iaload, 1) := by decide +kernel
theorem dX7_told_71 : decode cX7_told 71 = .ok (.ireturn, 1) := by decide +kernel
theorem dX7_told_72 : decode cX7_told 72 = .ok (.aload_n 0, 1) := by decide +kernel
theorem dX7_told_73 : decode cX7_told 73 = .ok (.getfield 26, 3) := by decide +kernel
theorem dX7_told_76 : decode cX7_told 76 = .ok (.getfield 297, 3) := by decide +kernel
theorem dX7_told_79 : decode cX7_told 79 = .ok (.iload_n 1, 1) := by decide +kernel
theorem dX7_told_80 : decode cX7_told 80 = .ok (.iaload, 1) := by decide +kernel
theorem dX7_told_81 : decode cX7_told 81 = .ok (.ireturn, 1) := by decide +kernel
theorem dX7_told_82 : decode cX7_told 82 = .ok (.aload_n 0, 1) := by decide +kernel
theorem dX7_told_83 : decode cX7_told 83 = .ok (.getfield 26, 3) := by decide +kernel
theorem dX7_told_86 : decode cX7_told 86 = .ok (.getfield 299, 3) := by decide +kernel
theorem dX7_told_89 : decode cX7_told 89 = .ok (.iload_n 1, 1) := by decide +kernel
theorem dX7_told_90 : decode cX7_told 90 = .ok (.iaload, 1) := by decide +kernel
theorem dX7_told_91 : decode cX7_told 91 = .ok (.ireturn, 1) := by decide +kernel
theorem dX7_told_92 : decode cX7_told 92 = .ok (.aload_n 0, 1) := by decide +kernel
theorem dX7_told_93 : decode cX7_told 93 = .ok (.getfield 26, 3) := by decide +kernel
theorem dX7_told_96 : decode cX7_told 96 = .ok (.getfield 302, 3) := by decide +kernel
theorem dX7_told_99 : decode cX7_told 99 = .ok (.iload_n 1, 1) := by decide +kernel
theorem dX7_told_100 : decode cX7_told 100 = .ok (.iaload, 1) := by decide +kernel
theorem dX7_told_101 : decode cX7_told 101 = .ok (.ireturn, 1) := by decide +kernel
theorem dX7_told_102 : decode cX7_told 102 = .ok (.aload_n 0, 1) := by decide +kernel
theorem dX7_told_103 : decode cX7_told 103 = .ok (.getfield 26, 3) := by decide +kernel
theorem dX7_told_106 : decode cX7_told 106 = .ok (.getfield 305, 3) := by decide +kernel
theorem dX7_told_109 : decode cX7_told 109 = .ok (.iload_n 1, 1) := by decide +kernel
theorem dX7_told_110 : decode cX7_told 110 = .ok (.iaload, 1) := by decide +kernel
theorem dX7_told_111 : decode cX7_told 111 = .ok (.ireturn, 1) := by decide +kernel
theorem dX7_told_112 : decode cX7_told 112 = .ok (.iconst (-1), 1) := by decide +kernel
theorem dX7_told_113 : decode cX7_told 113 = .ok (.ireturn, 1) := by decide +kernel
set_option maxRecDepth 20000 in
theorem ggX7_breach_X2_holds : GoodIn wsX7_breach wsX2_holds := goodIn_r _ [7, 8, 9, 24, 25, 26, 27, 28, 29, 30, 31, 32, 33, 34, 35, 36, 37, 38, 39, 40, 41, 42] (by decide +kernel) (by decide +kernel)
set_option maxRecDepth 20000 in
theorem gX7_breach_X2_holds : GoodIn wsX7_breach (wsV RX7 80 RX2 yX2_holds wsX2_holds) := goodIn_app (goodIn_of _ (by decide +kernel)) ggX7_breach_X2_holds
set_option maxRecDepth 20000 in
theorem ggX7_breach_X2_at : GoodIn wsX7_breach wsX2_at := goodIn_r _ [13, 9, 24, 25, 26, 27, 28, 29, 30, 31, 32, 33, 34, 35, 36, 37, 38, 39, 40, 41, 42] (by decide +kernel) (by decide +kernel)
set_option maxRecDepth 20000 in
theorem gX7_breach_X2_at : GoodIn wsX7_breach (wsV RX7 88 RX2 yX2_at wsX2_at) := goodIn_app (goodIn_of _ (by decide +kernel)) ggX7_breach_X2_at
theorem dX7_breach_0 : decode cX7_breach 0 = .ok (.aload_n 0, 1) := by decide +kernel
theorem dX7_breach_1 : decode cX7_breach 1 = .ok (.getfield 10, 3) := by decide +kernel
theorem dX7_breach_4 : decode cX7_breach 4 = .ok (.iload_n 1, 1) := by decide +kernel
theorem dX7_breach_5 : decode cX7_breach 5 = .ok (.iload_n 2, 1) := by decide +kernel
theorem dX7_breach_6 : decode cX7_breach 6 = .ok (.invokevirtual 80, 3) := by decide +kernel
theorem dX7_breach_9 : decode cX7_breach 9 = .ok (.ifCond .eq 23, 3) := by decide +kernel
theorem dX7_breach_12 : decode cX7_breach 12 = .ok (.aload_n 0, 1) := by decide +kernel
theorem dX7_breach_13 : decode cX7_breach 13 = .ok (.getfield 10, 3) := by decide +kernel
theorem dX7_breach_16 : decode cX7_breach 16 = .ok (.getfield 308, 3) := by decide +kernel
theorem dX7_breach_19 : decode cX7_breach 19 = .ok (.aload_n 0, 1) := by decide +kernel
theorem dX7_breach_20 : decode cX7_breach 20 = .ok (.getfield 10, 3) := by decide +kernel
theorem dX7_breach_23 : decode cX7_breach 23 = .ok (.iload_n 1, 1) := by decide +kernel
theorem dX7_breach_24 : decode cX7_breach 24 = .ok (.iload_n 2, 1) := by decide +kernel
theorem dX7_breach_25 : decode cX7_breach 25 = .ok (.invokevirtual 88, 3) := by decide +kernel
theorem dX7_breach_28 : decode cX7_breach 28 = .ok (.iaload, 1) := by decide +kernel
theorem dX7_breach_29 : decode cX7_breach 29 = .ok (.goto 4, 3) := by decide +kernel
theorem dX7_breach_32 : decode cX7_breach 32 = .ok (.iconst (-1), 1) := by decide +kernel
theorem dX7_breach_33 : decode cX7_breach 33 = .ok (.ireturn, 1) := by decide +kernel
set_option maxRecDepth 20000 in
theorem ggX7_sign_X5_addFour : GoodIn wsX7_sign wsX5_addFour := goodIn_r _ [6, 7, 8, 19, 20] (by decide +kernel) (by decide +kernel)
set_option maxRecDepth 20000 in
theorem gX7_sign_X5_addFour : GoodIn wsX7_sign (wsV RX7 311 RX5 yX5_addFour wsX5_addFour) := goodIn_app (goodIn_of _ (by decide +kernel)) ggX7_sign_X5_addFour
theorem dX7_sign_0 : decode cX7_sign 0 = .ok (.aload_n 0, 1) := by decide +kernel
theorem dX7_sign_1 : decode cX7_sign 1 = .ok (.getfield 33, 3) := by decide +kernel
theorem dX7_sign_4 : decode cX7_sign 4 = .ok (.iload_n 1, 1) := by decide +kernel
theorem dX7_sign_5 : decode cX7_sign 5 = .ok (.invokevirtual 311, 3) := by decide +kernel
theorem dX7_sign_8 : decode cX7_sign 8 = .ok (.ireturn, 1) := by decide +kernel
theorem dX7_end_0 : decode cX7_end 0 = .ok (.iload_n 1, 1) := by decide +kernel
theorem dX7_end_1 : decode cX7_end 1 = .ok (.ifCond .lt 14, 3) := by decide +kernel
theorem dX7_end_4 : decode cX7_end 4 = .ok (.iload_n 1, 1) := by decide +kernel
theorem dX7_end_5 : decode cX7_end 5 = .ok (.aload_n 0, 1) := by decide +kernel
theorem dX7_end_6 : decode cX7_end 6 = .ok (.getfield 33, 3) := by decide +kernel
theorem dX7_end_9 : decode cX7_end 9 = .ok (.getfield 266, 3) := by decide +kernel
theorem dX7_end_12 : decode cX7_end 12 = .ok (.if_icmp .le 5, 3) := by decide +kernel
theorem dX7_end_15 : decode cX7_end 15 = .ok (.iconst 0, 1) := by decide +kernel
theorem dX7_end_16 : decode cX7_end 16 = .ok (.ireturn, 1) := by decide +kernel
theorem dX7_end_17 : decode cX7_end 17 = .ok (.aload_n 0, 1) := by decide +kernel
theorem dX7_end_18 : decode cX7_end 18 = .ok (.getfield 33, 3) := by decide +kernel
theorem dX7_end_21 : decode cX7_end 21 = .ok (.iload_n 1, 1) := by decide +kernel
theorem dX7_end_22 : decode cX7_end 22 = .ok (.putfield 266, 3) := by decide +kernel
theorem dX7_end_25 : decode cX7_end 25 = .ok (.iconst 1, 1) := by decide +kernel
theorem dX7_end_26 : decode cX7_end 26 = .ok (.ireturn, 1) := by decide +kernel
set_option maxRecDepth 20000 in
theorem ggX7_rule_X4_isFull : GoodIn wsX7_rule wsX4_isFull := goodIn_r _ [8, 9, 96, 97, 98, 99, 100, 101, 102, 103, 104] (by decide +kernel) (by decide +kernel)
set_option maxRecDepth 20000 in
theorem gX7_rule_X4_isFull : GoodIn wsX7_rule (wsV RX7 314 RX4 yX4_isFull wsX4_isFull) := goodIn_app (goodIn_of _ (by decide +kernel)) ggX7_rule_X4_isFull
set_option maxRecDepth 20000 in
theorem ggX7_rule_X7_acceptTape : GoodIn wsX7_rule wsX7_acceptTape := goodIn_r _ [14, 15, 1, 16, 17, 18, 19, 20, 21, 22, 23, 24, 25, 26, 27, 28, 5, 6, 7, 8, 9, 29, 30, 31, 32, 33, 34, 35, 36, 37, 38, 39, 40, 41, 42, 43, 44, 45, 46, 47, 48, 49, 50, 51, 52, 53, 54, 55, 56, 57, 58, 59, 60, 61, 62, 63, 64, 65, 66, 67, 68, 69, 70, 71, 72, 73, 74, 75, 76, 77, 78, 79, 80, 81, 82, 83, 84, 85, 86, 87, 88, 89, 90, 91, 92, 93, 105, 106, 107, 108, 109, 110, 111, 112, 113, 114, 115, 116, 117, 118, 119, 120, 94, 95, 96, 97, 98, 99, 100, 101, 102, 103, 104] (by decide +kernel) (by decide +kernel)
set_option maxRecDepth 20000 in
theorem gX7_rule_X7_acceptTape : GoodIn wsX7_rule (wsV RX7 315 RX7 yX7_acceptTape wsX7_acceptTape) := goodIn_app (goodIn_of _ (by decide +kernel)) ggX7_rule_X7_acceptTape
theorem dX7_rule_0 : decode cX7_rule 0 = .ok (.aload_n 0, 1) := by decide +kernel
theorem dX7_rule_1 : decode cX7_rule 1 = .ok (.getfield 40, 3) := by decide +kernel
theorem dX7_rule_4 : decode cX7_rule 4 = .ok (.invokevirtual 314, 3) := by decide +kernel
theorem dX7_rule_7 : decode cX7_rule 7 = .ok (.ifCond .eq 8, 3) := by decide +kernel
theorem dX7_rule_10 : decode cX7_rule 10 = .ok (.bipush (-100), 2) := by decide +kernel
theorem dX7_rule_12 : decode cX7_rule 12 = .ok (.goto 7, 3) := by decide +kernel
theorem dX7_rule_15 : decode cX7_rule 15 = .ok (.aload_n 0, 1) := by decide +kernel
theorem dX7_rule_16 : decode cX7_rule 16 = .ok (.invokevirtual 315, 3) := by decide +kernel
theorem dX7_rule_19 : decode cX7_rule 19 = .ok (.istore_n 1, 1) := by decide +kernel
theorem dX7_rule_20 : decode cX7_rule 20 = .ok (.aload_n 0, 1) := by decide +kernel
theorem dX7_rule_21 : decode cX7_rule 21 = .ok (.getfield 33, 3) := by decide +kernel
theorem dX7_rule_24 : decode cX7_rule 24 = .ok (.iconst 0, 1) := by decide +kernel
theorem dX7_rule_25 : decode cX7_rule 25 = .ok (.putfield 266, 3) := by decide +kernel
theorem dX7_rule_28 : decode cX7_rule 28 = .ok (.iload_n 1, 1) := by decide +kernel
theorem dX7_rule_29 : decode cX7_rule 29 = .ok (.ireturn, 1) := by decide +kernel
set_option maxRecDepth 20000 in
theorem ggX7_acceptTape_X3_findFault : GoodIn wsX7_acceptTape wsX3_findFault := goodIn_r _ [10, 11, 12, 13, 14, 15, 16, 17, 18, 19, 20, 21, 22, 23, 9, 24, 25, 26, 27, 28, 29, 30, 31, 32, 33, 34, 35, 36, 37, 38, 39, 40, 41, 42, 43, 44, 45, 46, 47, 48, 49, 50, 51, 52, 53, 54, 55, 56, 57, 58, 59, 60, 61, 62, 63, 64, 65, 66, 67, 68, 69, 70, 98, 99, 100, 101, 102, 103, 104, 105, 106, 107, 108, 109, 110, 111, 112] (by decide +kernel) (by decide +kernel)
set_option maxRecDepth 20000 in
theorem gX7_acceptTape_X3_findFault : GoodIn wsX7_acceptTape (wsV RX7 318 RX3 yX3_findFault wsX3_findFault) := goodIn_app (goodIn_of _ (by decide +kernel)) ggX7_acceptTape_X3_findFault
set_option maxRecDepth 20000 in
theorem ggX7_acceptTape_X4_accept : GoodIn wsX7_acceptTape wsX4_accept := goodIn_r _ [74, 75, 20, 104, 105, 106, 107, 108, 109, 110, 111, 112] (by decide +kernel) (by decide +kernel)
set_option maxRecDepth 20000 in
theorem gX7_acceptTape_X4_accept : GoodIn wsX7_acceptTape (wsV RX7 321 RX4 yX4_accept wsX4_accept) := goodIn_app (goodIn_of _ (by decide +kernel)) ggX7_acceptTape_X4_accept
theorem dX7_acceptTape_0 : decode cX7_acceptTape 0 = .ok (.aload_n 0, 1) := by decide +kernel
theorem dX7_acceptTape_1 : decode cX7_acceptTape 1 = .ok (.getfield 49, 3) := by decide +kernel
theorem dX7_acceptTape_4 : decode cX7_acceptTape 4 = .ok (.invokevirtual 318, 3) := by decide +kernel
theorem dX7_acceptTape_7 : decode cX7_acceptTape 7 = .ok (.istore_n 1, 1) := by decide +kernel
theorem dX7_acceptTape_8 : decode cX7_acceptTape 8 = .ok (.iload_n 1, 1) := by decide +kernel
theorem dX7_acceptTape_9 : decode cX7_acceptTape 9 = .ok (.iconst (-1), 1) := by decide +kernel
theorem dX7_acceptTape_10 : decode cX7_acceptTape 10 = .ok (.if_icmp .ne 31, 3) := by decide +kernel
theorem dX7_acceptTape_13 : decode cX7_acceptTape 13 = .ok (.aload_n 0, 1) := by decide +kernel
theorem dX7_acceptTape_14 : decode cX7_acceptTape 14 = .ok (.getfield 40, 3) := by decide +kernel
theorem dX7_acceptTape_17 : decode cX7_acceptTape 17 = .ok (.aload_n 0, 1) := by decide +kernel
theorem dX7_acceptTape_18 : decode cX7_acceptTape 18 = .ok (.getfield 60, 3) := by decide +kernel
theorem dX7_acceptTape_21 : decode cX7_acceptTape 21 = .ok (.ifCond .eq 13, 3) := by decide +kernel
theorem dX7_acceptTape_24 : decode cX7_acceptTape 24 = .ok (.aload_n 0, 1) := by decide +kernel
theorem dX7_acceptTape_25 : decode cX7_acceptTape 25 = .ok (.getfield 26, 3) := by decide +kernel
theorem dX7_acceptTape_28 : decode cX7_acceptTape 28 = .ok (.getfield 172, 3) := by decide +kernel
theorem dX7_acceptTape_31 : decode cX7_acceptTape 31 = .ok (.goto 4, 3) := by decide +kernel
theorem dX7_acceptTape_34 : decode cX7_acceptTape 34 = .ok (.iconst 0, 1) := by decide +kernel
theorem dX7_acceptTape_35 : decode cX7_acceptTape 35 = .ok (.invokevirtual 321, 3) := by decide +kernel
theorem dX7_acceptTape_38 : decode cX7_acceptTape 38 = .ok (.goto 6, 3) := by decide +kernel
theorem dX7_acceptTape_41 : decode cX7_acceptTape 41 = .ok (.iconst (-1), 1) := by decide +kernel
theorem dX7_acceptTape_42 : decode cX7_acceptTape 42 = .ok (.iload_n 1, 1) := by decide +kernel
theorem dX7_acceptTape_43 : decode cX7_acceptTape 43 = .ok (.isub, 1) := by decide +kernel
theorem dX7_acceptTape_44 : decode cX7_acceptTape 44 = .ok (.ireturn, 1) := by decide +kernel
theorem dX7_repeal_0 : decode cX7_repeal 0 = .ok (.aload_n 0, 1) := by decide +kernel
theorem dX7_repeal_1 : decode cX7_repeal 1 = .ok (.getfield 60, 3) := by decide +kernel
theorem dX7_repeal_4 : decode cX7_repeal 4 = .ok (.ifCond .eq 5, 3) := by decide +kernel
theorem dX7_repeal_7 : decode cX7_repeal 7 = .ok (.iconst (-1), 1) := by decide +kernel
theorem dX7_repeal_8 : decode cX7_repeal 8 = .ok (.ireturn, 1) := by decide +kernel
theorem dX7_repeal_9 : decode cX7_repeal 9 = .ok (.aload_n 0, 1) := by decide +kernel
theorem dX7_repeal_10 : decode cX7_repeal 10 = .ok (.getfield 40, 3) := by decide +kernel
theorem dX7_repeal_13 : decode cX7_repeal 13 = .ok (.getfield 237, 3) := by decide +kernel
theorem dX7_repeal_16 : decode cX7_repeal 16 = .ok (.istore_n 1, 1) := by decide +kernel
theorem dX7_repeal_17 : decode cX7_repeal 17 = .ok (.aload_n 0, 1) := by decide +kernel
theorem dX7_repeal_18 : decode cX7_repeal 18 = .ok (.getfield 40, 3) := by decide +kernel
theorem dX7_repeal_21 : decode cX7_repeal 21 = .ok (.iconst 0, 1) := by decide +kernel
theorem dX7_repeal_22 : decode cX7_repeal 22 = .ok (.putfield 237, 3) := by decide +kernel
theorem dX7_repeal_25 : decode cX7_repeal 25 = .ok (.iload_n 1, 1) := by decide +kernel
theorem dX7_repeal_26 : decode cX7_repeal 26 = .ok (.ireturn, 1) := by decide +kernel
set_option maxRecDepth 20000 in
theorem ggX7_wood_X6_plant : GoodIn wsX7_wood wsX6_plant := goodIn_r _ [6, 7, 8, 9, 10, 21, 22, 23, 24] (by decide +kernel) (by decide +kernel)
set_option maxRecDepth 20000 in
theorem gX7_wood_X6_plant : GoodIn wsX7_wood (wsV RX7 324 RX6 yX6_plant wsX6_plant) := goodIn_app (goodIn_of _ (by decide +kernel)) ggX7_wood_X6_plant
theorem dX7_wood_0 : decode cX7_wood 0 = .ok (.iload_n 1, 1) := by decide +kernel
theorem dX7_wood_1 : decode cX7_wood 1 = .ok (.ifCond .lt 33, 3) := by decide +kernel
theorem dX7_wood_4 : decode cX7_wood 4 = .ok (.iload_n 1, 1) := by decide +kernel
theorem dX7_wood_5 : decode cX7_wood 5 = .ok (.sipush 200, 3) := by decide +kernel
theorem dX7_wood_8 : decode cX7_wood 8 = .ok (.if_icmp .gt 26, 3) := by decide +kernel
theorem dX7_wood_11 : decode cX7_wood 11 = .ok (.iload_n 2, 1) := by decide +kernel
theorem dX7_wood_12 : decode cX7_wood 12 = .ok (.iconst 1, 1) := by decide +kernel
theorem dX7_wood_13 : decode cX7_wood 13 = .ok (.if_icmp .lt 21, 3) := by decide +kernel
theorem dX7_wood_16 : decode cX7_wood 16 = .ok (.iload_n 2, 1) := by decide +kernel
theorem dX7_wood_17 : decode cX7_wood 17 = .ok (.bipush 100, 2) := by decide +kernel
theorem dX7_wood_19 : decode cX7_wood 19 = .ok (.if_icmp .gt 15, 3) := by decide +kernel
theorem dX7_wood_22 : decode cX7_wood 22 = .ok (.iload_n 3, 1) := by decide +kernel
theorem dX7_wood_23 : decode cX7_wood 23 = .ok (.iconst 1, 1) := by decide +kernel
theorem dX7_wood_24 : decode cX7_wood 24 = .ok (.if_icmp .lt 10, 3) := by decide +kernel
theorem dX7_wood_27 : decode cX7_wood 27 = .ok (.iload_n 3, 1) := by decide +kernel
theorem dX7_wood_28 : decode cX7_wood 28 = .ok (.sipush 1000, 3) := by decide +kernel
theorem dX7_wood_31 : decode cX7_wood 31 = .ok (.if_icmp .le 5, 3) := by decide +kernel
theorem dX7_wood_34 : decode cX7_wood 34 = .ok (.iconst (-1), 1) := by decide +kernel
theorem dX7_wood_35 : decode cX7_wood 35 = .ok (.ireturn, 1) := by decide +kernel
theorem dX7_wood_36 : decode cX7_wood 36 = .ok (.aload_n 0, 1) := by decide +kernel
theorem dX7_wood_37 : decode cX7_wood 37 = .ok (.getfield 56, 3) := by decide +kernel
theorem dX7_wood_40 : decode cX7_wood 40 = .ok (.iload_n 1, 1) := by decide +kernel
theorem dX7_wood_41 : decode cX7_wood 41 = .ok (.iload_n 2, 1) := by decide +kernel
theorem dX7_wood_42 : decode cX7_wood 42 = .ok (.iload_n 3, 1) := by decide +kernel
theorem dX7_wood_43 : decode cX7_wood 43 = .ok (.invokevirtual 324, 3) := by decide +kernel
theorem dX7_wood_46 : decode cX7_wood 46 = .ok (.ireturn, 1) := by decide +kernel
set_option maxRecDepth 20000 in
theorem ggX7_years_X6_grow : GoodIn wsX7_years wsX6_grow := goodIn_r _ [6, 7, 8, 9, 10, 11, 12, 23, 24, 25, 26] (by decide +kernel) (by decide +kernel)
set_option maxRecDepth 20000 in
theorem gX7_years_X6_grow : GoodIn wsX7_years (wsV RX7 328 RX6 yX6_grow wsX6_grow) := goodIn_app (goodIn_of _ (by decide +kernel)) ggX7_years_X6_grow
theorem dX7_years_0 : decode cX7_years 0 = .ok (.iload_n 1, 1) := by decide +kernel
theorem dX7_years_1 : decode cX7_years 1 = .ok (.ifCond .lt 10, 3) := by decide +kernel
theorem dX7_years_4 : decode cX7_years 4 = .ok (.iload_n 1, 1) := by decide +kernel
theorem dX7_years_5 : decode cX7_years 5 = .ok (.sipush 200, 3) := by decide +kernel
theorem dX7_years_8 : decode cX7_years 8 = .ok (.if_icmp .le 5, 3) := by decide +kernel
theorem dX7_years_11 : decode cX7_years 11 = .ok (.iconst 0, 1) := by decide +kernel
theorem dX7_years_12 : decode cX7_years 12 = .ok (.ireturn, 1) := by decide +kernel
theorem dX7_years_13 : decode cX7_years 13 = .ok (.aload_n 0, 1) := by decide +kernel
theorem dX7_years_14 : decode cX7_years 14 = .ok (.getfield 56, 3) := by decide +kernel
theorem dX7_years_17 : decode cX7_years 17 = .ok (.iload_n 1, 1) := by decide +kernel
theorem dX7_years_18 : decode cX7_years 18 = .ok (.invokevirtual 328, 3) := by decide +kernel
theorem dX7_years_21 : decode cX7_years 21 = .ok (.iconst 1, 1) := by decide +kernel
theorem dX7_years_22 : decode cX7_years 22 = .ok (.ireturn, 1) := by decide +kernel
set_option maxRecDepth 20000 in
theorem ggX7_cut_X6_has : GoodIn wsX7_cut wsX6_has := goodIn_r _ [8, 9, 30, 31, 32, 33] (by decide +kernel) (by decide +kernel)
set_option maxRecDepth 20000 in
theorem gX7_cut_X6_has : GoodIn wsX7_cut (wsV RX7 331 RX6 yX6_has wsX6_has) := goodIn_app (goodIn_of _ (by decide +kernel)) ggX7_cut_X6_has
set_option maxRecDepth 20000 in
theorem ggX7_cut_X6_yearsLeft : GoodIn wsX7_cut wsX6_yearsLeft := goodIn_r _ [13, 14, 15, 16, 17, 18, 19, 30, 31, 32, 33] (by decide +kernel) (by decide +kernel)
set_option maxRecDepth 20000 in
theorem gX7_cut_X6_yearsLeft : GoodIn wsX7_cut (wsV RX7 332 RX6 yX6_yearsLeft wsX6_yearsLeft) := goodIn_app (goodIn_of _ (by decide +kernel)) ggX7_cut_X6_yearsLeft
theorem dX7_cut_0 : decode cX7_cut 0 = .ok (.aload_n 0, 1) := by decide +kernel
theorem dX7_cut_1 : decode cX7_cut 1 = .ok (.getfield 56, 3) := by decide +kernel
theorem dX7_cut_4 : decode cX7_cut 4 = .ok (.iload_n 1, 1) := by decide +kernel
theorem dX7_cut_5 : decode cX7_cut 5 = .ok (.invokevirtual 331, 3) := by decide +kernel
theorem dX7_cut_8 : decode cX7_cut 8 = .ok (.ifCond .eq 14, 3) := by decide +kernel
theorem dX7_cut_11 : decode cX7_cut 11 = .ok (.aload_n 0, 1) := by decide +kernel
theorem dX7_cut_12 : decode cX7_cut 12 = .ok (.getfield 56, 3) := by decide +kernel
theorem dX7_cut_15 : decode cX7_cut 15 = .ok (.iload_n 1, 1) := by decide +kernel
theorem dX7_cut_16 : decode cX7_cut 16 = .ok (.invokevirtual 332, 3) := by decide +kernel
theorem dX7_cut_19 : decode cX7_cut 19 = .ok (.ifCond .le 5, 3) := by decide +kernel
theorem dX7_cut_22 : decode cX7_cut 22 = .ok (.iconst (-1), 1) := by decide +kernel
theorem dX7_cut_23 : decode cX7_cut 23 = .ok (.ireturn, 1) := by decide +kernel
theorem dX7_cut_24 : decode cX7_cut 24 = .ok (.aload_n 0, 1) := by decide +kernel
theorem dX7_cut_25 : decode cX7_cut 25 = .ok (.getfield 56, 3) := by decide +kernel
theorem dX7_cut_28 : decode cX7_cut 28 = .ok (.getfield 335, 3) := by decide +kernel
theorem dX7_cut_31 : decode cX7_cut 31 = .ok (.iload_n 1, 1) := by decide +kernel
theorem dX7_cut_32 : decode cX7_cut 32 = .ok (.iconst 0, 1) := by decide +kernel
theorem dX7_cut_33 : decode cX7_cut 33 = .ok (.iastore, 1) := by decide +kernel
theorem dX7_cut_34 : decode cX7_cut 34 = .ok (.aload_n 0, 1) := by decide +kernel
theorem dX7_cut_35 : decode cX7_cut 35 = .ok (.getfield 56, 3) := by decide +kernel
theorem dX7_cut_38 : decode cX7_cut 38 = .ok (.getfield 338, 3) := by decide +kernel
theorem dX7_cut_41 : decode cX7_cut 41 = .ok (.iload_n 1, 1) := by decide +kernel
theorem dX7_cut_42 : decode cX7_cut 42 = .ok (.iaload, 1) := by decide +kernel
theorem dX7_cut_43 : decode cX7_cut 43 = .ok (.ireturn, 1) := by decide +kernel
set_option maxRecDepth 20000 in
theorem ggX7_plan_X6_choose : GoodIn wsX7_plan wsX6_choose := goodIn_r _ [6, 7, 8, 9, 5, 10, 11, 12, 13, 14, 15, 16, 17, 18, 19, 20, 21, 22, 23, 24, 25, 26, 27, 28, 29, 30, 31, 32, 33, 34, 35, 36, 37, 38, 39, 40, 41, 42, 43, 44, 45, 56, 57, 58, 59] (by decide +kernel) (by decide +kernel)
set_option maxRecDepth 20000 in
theorem gX7_plan_X6_choose : GoodIn wsX7_plan (wsV RX7 341 RX6 yX6_choose wsX6_choose) := goodIn_app (goodIn_of _ (by decide +kernel)) ggX7_plan_X6_choose
theorem dX7_plan_0 : decode cX7_plan 0 = .ok (.iload_n 1, 1) := by decide +kernel
theorem dX7_plan_1 : decode cX7_plan 1 = .ok (.iconst 1, 1) := by decide +kernel
theorem dX7_plan_2 : decode cX7_plan 2 = .ok (.if_icmp .lt 10, 3) := by decide +kernel
theorem dX7_plan_5 : decode cX7_plan 5 = .ok (.iload_n 1, 1) := by decide +kernel
theorem dX7_plan_6 : decode cX7_plan 6 = .ok (.sipush 20000, 3) := by decide +kernel
theorem dX7_plan_9 : decode cX7_plan 9 = .ok (.if_icmp .le 5, 3) := by decide +kernel
theorem dX7_plan_12 : decode cX7_plan 12 = .ok (.iconst (-1), 1) := by decide +kernel
theorem dX7_plan_13 : decode cX7_plan 13 = .ok (.ireturn, 1) := by decide +kernel
theorem dX7_plan_14 : decode cX7_plan 14 = .ok (.aload_n 0, 1) := by decide +kernel
theorem dX7_plan_15 : decode cX7_plan 15 = .ok (.getfield 56, 3) := by decide +kernel
theorem dX7_plan_18 : decode cX7_plan 18 = .ok (.iload_n 1, 1) := by decide +kernel
theorem dX7_plan_19 : decode cX7_plan 19 = .ok (.invokevirtual 341, 3) := by decide +kernel
theorem dX7_plan_22 : decode cX7_plan 22 = .ok (.ireturn, 1) := by decide +kernel
theorem dX7_stand_0 : decode cX7_stand 0 = .ok (.aload_n 0, 1) := by decide +kernel
theorem dX7_stand_1 : decode cX7_stand 1 = .ok (.getfield 56, 3) := by decide +kernel
theorem dX7_stand_4 : decode cX7_stand 4 = .ok (.iload_n 1, 1) := by decide +kernel
theorem dX7_stand_5 : decode cX7_stand 5 = .ok (.invokevirtual 331, 3) := by decide +kernel
theorem dX7_stand_8 : decode cX7_stand 8 = .ok (.ifCond .eq 12, 3) := by decide +kernel
theorem dX7_stand_11 : decode cX7_stand 11 = .ok (.iload_n 2, 1) := by decide +kernel
theorem dX7_stand_12 : decode cX7_stand 12 = .ok (.ifCond .lt 8, 3) := by decide +kernel
theorem dX7_stand_15 : decode cX7_stand 15 = .ok (.iload_n 2, 1) := by decide +kernel
theorem dX7_stand_16 : decode cX7_stand 16 = .ok (.iconst 3, 1) := by decide +kernel
theorem dX7_stand_17 : decode cX7_stand 17 = .ok (.if_icmp .le 11, 3) := by decide +kernel
theorem dX7_stand_20 : decode cX7_stand 20 = .ok (.new 269, 3) := by decide +kernel
theorem dX7_stand_23 : decode cX7_stand 23 = .ok (.dup, 1) := by decide +kernel
theorem dX7_stand_24 : decode cX7_stand 24 = .ok (.invokespecial 271, 3) := by decide +kernel
theorem dX7_stand_27 : decode cX7_stand 27 = .ok (.athrow, 1) := by decide +kernel
theorem dX7_stand_28 : decode cX7_stand 28 = .ok (.iload_n 2, 1) := by decide +kernel
theorem dX7_stand_29 : decode cX7_stand 29 = .ok (.tableswitch 57 0 2 #[27, 37, 47], 27) := by decide +kernel
theorem dX7_stand_56 : decode cX7_stand 56 = .ok (.aload_n 0, 1) := by decide +kernel
theorem dX7_stand_57 : decode cX7_stand 57 = .ok (.getfield 56, 3) := by decide +kernel
theorem dX7_stand_60 : decode cX7_stand 60 = .ok (.getfield 335, 3) := by decide +kernel
theorem dX7_stand_63 : decode cX7_stand 63 = .ok (.iload_n 1, 1) := by decide +kernel
theorem dX7_stand_64 : decode cX7_stand 64 = .ok (.iaload, 1) := by decide +kernel
theorem dX7_stand_65 : decode cX7_stand 65 = .ok (.ireturn, 1) := by decide +kernel
theorem dX7_stand_66 : decode cX7_stand 66 = .ok (.aload_n 0, 1) := by decide +kernel
theorem dX7_stand_67 : decode cX7_stand 67 = .ok (.getfield 56, 3) := by decide +kernel
theorem dX7_stand_70 : decode cX7_stand 70 = .ok (.getfield 344, 3) := by decide +kernel
theorem dX7_stand_73 : decode cX7_stand 73 = .ok (.iload_n 1, 1) := by decide +kernel
theorem dX7_stand_74 : decode cX7_stand 74 = .ok (.iaload, 1) := by decide +kernel
theorem dX7_stand_75 : decode cX7_stand 75 = .ok (.ireturn, 1) := by decide +kernel
theorem dX7_stand_76 : decode cX7_stand 76 = .ok (.aload_n 0, 1) := by decide +kernel
theorem dX7_stand_77 : decode cX7_stand 77 = .ok (.getfield 56, 3) := by decide +kernel
theorem dX7_stand_80 : decode cX7_stand 80 = .ok (.getfield 338, 3) := by decide +kernel
theorem dX7_stand_83 : decode cX7_stand 83 = .ok (.iload_n 1, 1) := by decide +kernel
theorem dX7_stand_84 : decode cX7_stand 84 = .ok (.iaload, 1) := by decide +kernel
theorem dX7_stand_85 : decode cX7_stand 85 = .ok (.ireturn, 1) := by decide +kernel
theorem dX7_stand_86 : decode cX7_stand 86 = .ok (.aload_n 0, 1) := by decide +kernel
theorem dX7_stand_87 : decode cX7_stand 87 = .ok (.getfield 56, 3) := by decide +kernel
theorem dX7_stand_90 : decode cX7_stand 90 = .ok (.iload_n 1, 1) := by decide +kernel
theorem dX7_stand_91 : decode cX7_stand 91 = .ok (.invokevirtual 332, 3) := by decide +kernel
theorem dX7_stand_94 : decode cX7_stand 94 = .ok (.ireturn, 1) := by decide +kernel
