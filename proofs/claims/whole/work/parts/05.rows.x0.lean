theorem dX0_init_0 : decode cX0_init 0 = .ok (.aload_n 0, 1) := by decide +kernel
theorem dX0_init_1 : decode cX0_init 1 = .ok (.invokespecial 1, 3) := by decide +kernel
theorem dX0_init_4 : decode cX0_init 4 = .ok (.aload_n 0, 1) := by decide +kernel
theorem dX0_init_5 : decode cX0_init 5 = .ok (.sipush 300, 3) := by decide +kernel
theorem dX0_init_8 : decode cX0_init 8 = .ok (.newarray .int, 2) := by decide +kernel
theorem dX0_init_10 : decode cX0_init 10 = .ok (.putfield 9, 3) := by decide +kernel
theorem dX0_init_13 : decode cX0_init 13 = .ok (.aload_n 0, 1) := by decide +kernel
theorem dX0_init_14 : decode cX0_init 14 = .ok (.sipush 300, 3) := by decide +kernel
theorem dX0_init_17 : decode cX0_init 17 = .ok (.newarray .int, 2) := by decide +kernel
theorem dX0_init_19 : decode cX0_init 19 = .ok (.putfield 13, 3) := by decide +kernel
theorem dX0_init_22 : decode cX0_init 22 = .ok (.aload_n 0, 1) := by decide +kernel
theorem dX0_init_23 : decode cX0_init 23 = .ok (.sipush 300, 3) := by decide +kernel
theorem dX0_init_26 : decode cX0_init 26 = .ok (.newarray .int, 2) := by decide +kernel
theorem dX0_init_28 : decode cX0_init 28 = .ok (.putfield 16, 3) := by decide +kernel
theorem dX0_init_31 : decode cX0_init 31 = .ok (.aload_n 0, 1) := by decide +kernel
theorem dX0_init_32 : decode cX0_init 32 = .ok (.sipush 300, 3) := by decide +kernel
theorem dX0_init_35 : decode cX0_init 35 = .ok (.newarray .int, 2) := by decide +kernel
theorem dX0_init_37 : decode cX0_init 37 = .ok (.putfield 19, 3) := by decide +kernel
theorem dX0_init_40 : decode cX0_init 40 = .ok (.aload_n 0, 1) := by decide +kernel
theorem dX0_init_41 : decode cX0_init 41 = .ok (.sipush 300, 3) := by decide +kernel
theorem dX0_init_44 : decode cX0_init 44 = .ok (.newarray .int, 2) := by decide +kernel
theorem dX0_init_46 : decode cX0_init 46 = .ok (.putfield 22, 3) := by decide +kernel
theorem dX0_init_49 : decode cX0_init 49 = .ok (.aload_n 0, 1) := by decide +kernel
theorem dX0_init_50 : decode cX0_init 50 = .ok (.sipush 300, 3) := by decide +kernel
theorem dX0_init_53 : decode cX0_init 53 = .ok (.newarray .int, 2) := by decide +kernel
theorem dX0_init_55 : decode cX0_init 55 = .ok (.putfield 25, 3) := by decide +kernel
theorem dX0_init_58 : decode cX0_init 58 = .ok (.aload_n 0, 1) := by decide +kernel
theorem dX0_init_59 : decode cX0_init 59 = .ok (.bipush 100, 2) := by decide +kernel
theorem dX0_init_61 : decode cX0_init 61 = .ok (.newarray .int, 2) := by decide +kernel
theorem dX0_init_63 : decode cX0_init 63 = .ok (.putfield 28, 3) := by decide +kernel
theorem dX0_init_66 : decode cX0_init 66 = .ok (.aload_n 0, 1) := by decide +kernel
theorem dX0_init_67 : decode cX0_init 67 = .ok (.bipush 100, 2) := by decide +kernel
theorem dX0_init_69 : decode cX0_init 69 = .ok (.newarray .int, 2) := by decide +kernel
theorem dX0_init_71 : decode cX0_init 71 = .ok (.putfield 31, 3) := by decide +kernel
theorem dX0_init_74 : decode cX0_init 74 = .ok (.aload_n 0, 1) := by decide +kernel
theorem dX0_init_75 : decode cX0_init 75 = .ok (.bipush 100, 2) := by decide +kernel
theorem dX0_init_77 : decode cX0_init 77 = .ok (.newarray .int, 2) := by decide +kernel
theorem dX0_init_79 : decode cX0_init 79 = .ok (.putfield 34, 3) := by decide +kernel
theorem dX0_init_82 : decode cX0_init 82 = .ok (.aload_n 0, 1) := by decide +kernel
theorem dX0_init_83 : decode cX0_init 83 = .ok (.bipush 100, 2) := by decide +kernel
theorem dX0_init_85 : decode cX0_init 85 = .ok (.newarray .int, 2) := by decide +kernel
theorem dX0_init_87 : decode cX0_init 87 = .ok (.putfield 37, 3) := by decide +kernel
theorem dX0_init_90 : decode cX0_init 90 = .ok (.return_, 1) := by decide +kernel
theorem dX0_forget_0 : decode cX0_forget 0 = .ok (.aload_n 0, 1) := by decide +kernel
theorem dX0_forget_1 : decode cX0_forget 1 = .ok (.iconst 0, 1) := by decide +kernel
theorem dX0_forget_2 : decode cX0_forget 2 = .ok (.putfield 40, 3) := by decide +kernel
theorem dX0_forget_5 : decode cX0_forget 5 = .ok (.aload_n 0, 1) := by decide +kernel
theorem dX0_forget_6 : decode cX0_forget 6 = .ok (.iconst 0, 1) := by decide +kernel
theorem dX0_forget_7 : decode cX0_forget 7 = .ok (.putfield 44, 3) := by decide +kernel
theorem dX0_forget_10 : decode cX0_forget 10 = .ok (.return_, 1) := by decide +kernel
theorem dX0_has_0 : decode cX0_has 0 = .ok (.iload_n 1, 1) := by decide +kernel
theorem dX0_has_1 : decode cX0_has 1 = .ok (.ifCond .lt 15, 3) := by decide +kernel
theorem dX0_has_4 : decode cX0_has 4 = .ok (.iload_n 1, 1) := by decide +kernel
theorem dX0_has_5 : decode cX0_has 5 = .ok (.aload_n 0, 1) := by decide +kernel
theorem dX0_has_6 : decode cX0_has 6 = .ok (.getfield 40, 3) := by decide +kernel
theorem dX0_has_9 : decode cX0_has 9 = .ok (.if_icmp .ge 7, 3) := by decide +kernel
theorem dX0_has_12 : decode cX0_has 12 = .ok (.iconst 1, 1) := by decide +kernel
theorem dX0_has_13 : decode cX0_has 13 = .ok (.goto 4, 3) := by decide +kernel
theorem dX0_has_16 : decode cX0_has 16 = .ok (.iconst 0, 1) := by decide +kernel
theorem dX0_has_17 : decode cX0_has 17 = .ok (.ireturn, 1) := by decide +kernel
theorem dX0_isFull_0 : decode cX0_isFull 0 = .ok (.aload_n 0, 1) := by decide +kernel
theorem dX0_isFull_1 : decode cX0_isFull 1 = .ok (.getfield 40, 3) := by decide +kernel
theorem dX0_isFull_4 : decode cX0_isFull 4 = .ok (.sipush 300, 3) := by decide +kernel
theorem dX0_isFull_7 : decode cX0_isFull 7 = .ok (.if_icmp .lt 7, 3) := by decide +kernel
theorem dX0_isFull_10 : decode cX0_isFull 10 = .ok (.iconst 1, 1) := by decide +kernel
theorem dX0_isFull_11 : decode cX0_isFull 11 = .ok (.goto 4, 3) := by decide +kernel
theorem dX0_isFull_14 : decode cX0_isFull 14 = .ok (.iconst 0, 1) := by decide +kernel
theorem dX0_isFull_15 : decode cX0_isFull 15 = .ok (.ireturn, 1) := by decide +kernel
set_option maxRecDepth 20000 in
theorem ggX0_note_X0_isFull : GoodIn wsX0_note wsX0_isFull := goodIn_r _ [12, 2, 13, 14, 15, 16, 17, 18, 19, 20, 21, 22, 23, 24] (by decide +kernel) (by decide +kernel)
set_option maxRecDepth 20000 in
theorem gX0_note_X0_isFull : GoodIn wsX0_note (wsV RX0 47 RX0 yX0_isFull wsX0_isFull) := goodIn_app (goodIn_of _ (by decide +kernel)) ggX0_note_X0_isFull
theorem dX0_note_0 : decode cX0_note 0 = .ok (.aload_n 0, 1) := by decide +kernel
theorem dX0_note_1 : decode cX0_note 1 = .ok (.invokevirtual 47, 3) := by decide +kernel
theorem dX0_note_4 : decode cX0_note 4 = .ok (.ifCond .eq 4, 3) := by decide +kernel
theorem dX0_note_7 : decode cX0_note 7 = .ok (.return_, 1) := by decide +kernel
theorem dX0_note_8 : decode cX0_note 8 = .ok (.aload_n 0, 1) := by decide +kernel
theorem dX0_note_9 : decode cX0_note 9 = .ok (.getfield 9, 3) := by decide +kernel
theorem dX0_note_12 : decode cX0_note 12 = .ok (.aload_n 0, 1) := by decide +kernel
theorem dX0_note_13 : decode cX0_note 13 = .ok (.getfield 40, 3) := by decide +kernel
theorem dX0_note_16 : decode cX0_note 16 = .ok (.iload_n 1, 1) := by decide +kernel
theorem dX0_note_17 : decode cX0_note 17 = .ok (.iastore, 1) := by decide +kernel
theorem dX0_note_18 : decode cX0_note 18 = .ok (.aload_n 0, 1) := by decide +kernel
theorem dX0_note_19 : decode cX0_note 19 = .ok (.getfield 13, 3) := by decide +kernel
theorem dX0_note_22 : decode cX0_note 22 = .ok (.aload_n 0, 1) := by decide +kernel
theorem dX0_note_23 : decode cX0_note 23 = .ok (.getfield 40, 3) := by decide +kernel
theorem dX0_note_26 : decode cX0_note 26 = .ok (.iload_n 2, 1) := by decide +kernel
theorem dX0_note_27 : decode cX0_note 27 = .ok (.iastore, 1) := by decide +kernel
theorem dX0_note_28 : decode cX0_note 28 = .ok (.aload_n 0, 1) := by decide +kernel
theorem dX0_note_29 : decode cX0_note 29 = .ok (.getfield 16, 3) := by decide +kernel
theorem dX0_note_32 : decode cX0_note 32 = .ok (.aload_n 0, 1) := by decide +kernel
theorem dX0_note_33 : decode cX0_note 33 = .ok (.getfield 40, 3) := by decide +kernel
theorem dX0_note_36 : decode cX0_note 36 = .ok (.iload_n 3, 1) := by decide +kernel
theorem dX0_note_37 : decode cX0_note 37 = .ok (.iastore, 1) := by decide +kernel
theorem dX0_note_38 : decode cX0_note 38 = .ok (.aload_n 0, 1) := by decide +kernel
theorem dX0_note_39 : decode cX0_note 39 = .ok (.getfield 19, 3) := by decide +kernel
theorem dX0_note_42 : decode cX0_note 42 = .ok (.aload_n 0, 1) := by decide +kernel
theorem dX0_note_43 : decode cX0_note 43 = .ok (.getfield 40, 3) := by decide +kernel
theorem dX0_note_46 : decode cX0_note 46 = .ok (.iload 4, 2) := by decide +kernel
theorem dX0_note_48 : decode cX0_note 48 = .ok (.iastore, 1) := by decide +kernel
theorem dX0_note_49 : decode cX0_note 49 = .ok (.aload_n 0, 1) := by decide +kernel
theorem dX0_note_50 : decode cX0_note 50 = .ok (.getfield 22, 3) := by decide +kernel
theorem dX0_note_53 : decode cX0_note 53 = .ok (.aload_n 0, 1) := by decide +kernel
theorem dX0_note_54 : decode cX0_note 54 = .ok (.getfield 40, 3) := by decide +kernel
theorem dX0_note_57 : decode cX0_note 57 = .ok (.iload 5, 2) := by decide +kernel
theorem dX0_note_59 : decode cX0_note 59 = .ok (.iastore, 1) := by decide +kernel
theorem dX0_note_60 : decode cX0_note 60 = .ok (.aload_n 0, 1) := by decide +kernel
theorem dX0_note_61 : decode cX0_note 61 = .ok (.getfield 25, 3) := by decide +kernel
theorem dX0_note_64 : decode cX0_note 64 = .ok (.aload_n 0, 1) := by decide +kernel
theorem dX0_note_65 : decode cX0_note 65 = .ok (.getfield 40, 3) := by decide +kernel
theorem dX0_note_68 : decode cX0_note 68 = .ok (.iload 6, 2) := by decide +kernel
theorem dX0_note_70 : decode cX0_note 70 = .ok (.iastore, 1) := by decide +kernel
theorem dX0_note_71 : decode cX0_note 71 = .ok (.aload_n 0, 1) := by decide +kernel
theorem dX0_note_72 : decode cX0_note 72 = .ok (.dup, 1) := by decide +kernel
theorem dX0_note_73 : decode cX0_note 73 = .ok (.getfield 40, 3) := by decide +kernel
theorem dX0_note_76 : decode cX0_note 76 = .ok (.iconst 1, 1) := by decide +kernel
theorem dX0_note_77 : decode cX0_note 77 = .ok (.iadd, 1) := by decide +kernel
theorem dX0_note_78 : decode cX0_note 78 = .ok (.putfield 40, 3) := by decide +kernel
theorem dX0_note_81 : decode cX0_note 81 = .ok (.return_, 1) := by decide +kernel
theorem dX0_keepAct_0 : decode cX0_keepAct 0 = .ok (.aload_n 0, 1) := by decide +kernel
theorem dX0_keepAct_1 : decode cX0_keepAct 1 = .ok (.getfield 44, 3) := by decide +kernel
theorem dX0_keepAct_4 : decode cX0_keepAct 4 = .ok (.bipush 100, 2) := by decide +kernel
theorem dX0_keepAct_6 : decode cX0_keepAct 6 = .ok (.if_icmp .lt 5, 3) := by decide +kernel
theorem dX0_keepAct_9 : decode cX0_keepAct 9 = .ok (.iconst 0, 1) := by decide +kernel
theorem dX0_keepAct_10 : decode cX0_keepAct 10 = .ok (.ireturn, 1) := by decide +kernel
theorem dX0_keepAct_11 : decode cX0_keepAct 11 = .ok (.aload_n 0, 1) := by decide +kernel
theorem dX0_keepAct_12 : decode cX0_keepAct 12 = .ok (.getfield 28, 3) := by decide +kernel
theorem dX0_keepAct_15 : decode cX0_keepAct 15 = .ok (.aload_n 0, 1) := by decide +kernel
theorem dX0_keepAct_16 : decode cX0_keepAct 16 = .ok (.getfield 44, 3) := by decide +kernel
theorem dX0_keepAct_19 : decode cX0_keepAct 19 = .ok (.aload_n 0, 1) := by decide +kernel
theorem dX0_keepAct_20 : decode cX0_keepAct 20 = .ok (.getfield 40, 3) := by decide +kernel
theorem dX0_keepAct_23 : decode cX0_keepAct 23 = .ok (.iastore, 1) := by decide +kernel
theorem dX0_keepAct_24 : decode cX0_keepAct 24 = .ok (.aload_n 0, 1) := by decide +kernel
theorem dX0_keepAct_25 : decode cX0_keepAct 25 = .ok (.getfield 31, 3) := by decide +kernel
theorem dX0_keepAct_28 : decode cX0_keepAct 28 = .ok (.aload_n 0, 1) := by decide +kernel
theorem dX0_keepAct_29 : decode cX0_keepAct 29 = .ok (.getfield 44, 3) := by decide +kernel
theorem dX0_keepAct_32 : decode cX0_keepAct 32 = .ok (.iload_n 1, 1) := by decide +kernel
theorem dX0_keepAct_33 : decode cX0_keepAct 33 = .ok (.iastore, 1) := by decide +kernel
theorem dX0_keepAct_34 : decode cX0_keepAct 34 = .ok (.aload_n 0, 1) := by decide +kernel
theorem dX0_keepAct_35 : decode cX0_keepAct 35 = .ok (.getfield 34, 3) := by decide +kernel
theorem dX0_keepAct_38 : decode cX0_keepAct 38 = .ok (.aload_n 0, 1) := by decide +kernel
theorem dX0_keepAct_39 : decode cX0_keepAct 39 = .ok (.getfield 44, 3) := by decide +kernel
theorem dX0_keepAct_42 : decode cX0_keepAct 42 = .ok (.iload_n 2, 1) := by decide +kernel
theorem dX0_keepAct_43 : decode cX0_keepAct 43 = .ok (.iastore, 1) := by decide +kernel
theorem dX0_keepAct_44 : decode cX0_keepAct 44 = .ok (.aload_n 0, 1) := by decide +kernel
theorem dX0_keepAct_45 : decode cX0_keepAct 45 = .ok (.getfield 37, 3) := by decide +kernel
theorem dX0_keepAct_48 : decode cX0_keepAct 48 = .ok (.aload_n 0, 1) := by decide +kernel
theorem dX0_keepAct_49 : decode cX0_keepAct 49 = .ok (.getfield 44, 3) := by decide +kernel
theorem dX0_keepAct_52 : decode cX0_keepAct 52 = .ok (.iload_n 3, 1) := by decide +kernel
theorem dX0_keepAct_53 : decode cX0_keepAct 53 = .ok (.iastore, 1) := by decide +kernel
theorem dX0_keepAct_54 : decode cX0_keepAct 54 = .ok (.aload_n 0, 1) := by decide +kernel
theorem dX0_keepAct_55 : decode cX0_keepAct 55 = .ok (.dup, 1) := by decide +kernel
theorem dX0_keepAct_56 : decode cX0_keepAct 56 = .ok (.getfield 44, 3) := by decide +kernel
theorem dX0_keepAct_59 : decode cX0_keepAct 59 = .ok (.iconst 1, 1) := by decide +kernel
theorem dX0_keepAct_60 : decode cX0_keepAct 60 = .ok (.iadd, 1) := by decide +kernel
theorem dX0_keepAct_61 : decode cX0_keepAct 61 = .ok (.putfield 44, 3) := by decide +kernel
theorem dX0_keepAct_64 : decode cX0_keepAct 64 = .ok (.iconst 1, 1) := by decide +kernel
theorem dX0_keepAct_65 : decode cX0_keepAct 65 = .ok (.ireturn, 1) := by decide +kernel
theorem dX1_init_0 : decode cX1_init 0 = .ok (.aload_n 0, 1) := by decide +kernel
theorem dX1_init_1 : decode cX1_init 1 = .ok (.invokespecial 3, 3) := by decide +kernel
theorem dX1_init_4 : decode cX1_init 4 = .ok (.aload_n 0, 1) := by decide +kernel
theorem dX1_init_5 : decode cX1_init 5 = .ok (.bipush 12, 2) := by decide +kernel
theorem dX1_init_7 : decode cX1_init 7 = .ok (.newarray .int, 2) := by decide +kernel
theorem dX1_init_9 : decode cX1_init 9 = .ok (.putfield 11, 3) := by decide +kernel
theorem dX1_init_12 : decode cX1_init 12 = .ok (.aload_n 0, 1) := by decide +kernel
theorem dX1_init_13 : decode cX1_init 13 = .ok (.bipush 12, 2) := by decide +kernel
theorem dX1_init_15 : decode cX1_init 15 = .ok (.newarray .boolean, 2) := by decide +kernel
theorem dX1_init_17 : decode cX1_init 17 = .ok (.putfield 15, 3) := by decide +kernel
theorem dX1_init_20 : decode cX1_init 20 = .ok (.aload_n 0, 1) := by decide +kernel
theorem dX1_init_21 : decode cX1_init 21 = .ok (.bipush 12, 2) := by decide +kernel
theorem dX1_init_23 : decode cX1_init 23 = .ok (.newarray .boolean, 2) := by decide +kernel
theorem dX1_init_25 : decode cX1_init 25 = .ok (.putfield 19, 3) := by decide +kernel
theorem dX1_init_28 : decode cX1_init 28 = .ok (.return_, 1) := by decide +kernel
theorem dX1_forget_0 : decode cX1_forget 0 = .ok (.aload_n 0, 1) := by decide +kernel
theorem dX1_forget_1 : decode cX1_forget 1 = .ok (.iconst 0, 1) := by decide +kernel
theorem dX1_forget_2 : decode cX1_forget 2 = .ok (.putfield 22, 3) := by decide +kernel
theorem dX1_forget_5 : decode cX1_forget 5 = .ok (.return_, 1) := by decide +kernel
theorem dX1_has_0 : decode cX1_has 0 = .ok (.iload_n 1, 1) := by decide +kernel
theorem dX1_has_1 : decode cX1_has 1 = .ok (.ifCond .lt 15, 3) := by decide +kernel
theorem dX1_has_4 : decode cX1_has 4 = .ok (.iload_n 1, 1) := by decide +kernel
theorem dX1_has_5 : decode cX1_has 5 = .ok (.aload_n 0, 1) := by decide +kernel
theorem dX1_has_6 : decode cX1_has 6 = .ok (.getfield 22, 3) := by decide +kernel
theorem dX1_has_9 : decode cX1_has 9 = .ok (.if_icmp .ge 7, 3) := by decide +kernel
theorem dX1_has_12 : decode cX1_has 12 = .ok (.iconst 1, 1) := by decide +kernel
theorem dX1_has_13 : decode cX1_has 13 = .ok (.goto 4, 3) := by decide +kernel
theorem dX1_has_16 : decode cX1_has 16 = .ok (.iconst 0, 1) := by decide +kernel
theorem dX1_has_17 : decode cX1_has 17 = .ok (.ireturn, 1) := by decide +kernel
theorem dX1_bore_0 : decode cX1_bore 0 = .ok (.aload_n 0, 1) := by decide +kernel
theorem dX1_bore_1 : decode cX1_bore 1 = .ok (.getfield 22, 3) := by decide +kernel
theorem dX1_bore_4 : decode cX1_bore 4 = .ok (.bipush 12, 2) := by decide +kernel
theorem dX1_bore_6 : decode cX1_bore 6 = .ok (.if_icmp .lt 5, 3) := by decide +kernel
theorem dX1_bore_9 : decode cX1_bore 9 = .ok (.iconst (-1), 1) := by decide +kernel
theorem dX1_bore_10 : decode cX1_bore 10 = .ok (.ireturn, 1) := by decide +kernel
theorem dX1_bore_11 : decode cX1_bore 11 = .ok (.aload_n 0, 1) := by decide +kernel
theorem dX1_bore_12 : decode cX1_bore 12 = .ok (.getfield 11, 3) := by decide +kernel
theorem dX1_bore_15 : decode cX1_bore 15 = .ok (.aload_n 0, 1) := by decide +kernel
theorem dX1_bore_16 : decode cX1_bore 16 = .ok (.getfield 22, 3) := by decide +kernel
theorem dX1_bore_19 : decode cX1_bore 19 = .ok (.iload_n 1, 1) := by decide +kernel
theorem dX1_bore_20 : decode cX1_bore 20 = .ok (.iastore, 1) := by decide +kernel
theorem dX1_bore_21 : decode cX1_bore 21 = .ok (.aload_n 0, 1) := by decide +kernel
theorem dX1_bore_22 : decode cX1_bore 22 = .ok (.getfield 15, 3) := by decide +kernel
theorem dX1_bore_25 : decode cX1_bore 25 = .ok (.aload_n 0, 1) := by decide +kernel
theorem dX1_bore_26 : decode cX1_bore 26 = .ok (.getfield 22, 3) := by decide +kernel
theorem dX1_bore_29 : decode cX1_bore 29 = .ok (.iconst 0, 1) := by decide +kernel
theorem dX1_bore_30 : decode cX1_bore 30 = .ok (.bastore, 1) := by decide +kernel
theorem dX1_bore_31 : decode cX1_bore 31 = .ok (.aload_n 0, 1) := by decide +kernel
theorem dX1_bore_32 : decode cX1_bore 32 = .ok (.dup, 1) := by decide +kernel
theorem dX1_bore_33 : decode cX1_bore 33 = .ok (.getfield 22, 3) := by decide +kernel
theorem dX1_bore_36 : decode cX1_bore 36 = .ok (.iconst 1, 1) := by decide +kernel
theorem dX1_bore_37 : decode cX1_bore 37 = .ok (.iadd, 1) := by decide +kernel
theorem dX1_bore_38 : decode cX1_bore 38 = .ok (.putfield 22, 3) := by decide +kernel
theorem dX1_bore_41 : decode cX1_bore 41 = .ok (.aload_n 0, 1) := by decide +kernel
theorem dX1_bore_42 : decode cX1_bore 42 = .ok (.getfield 22, 3) := by decide +kernel
theorem dX1_bore_45 : decode cX1_bore 45 = .ok (.iconst 1, 1) := by decide +kernel
theorem dX1_bore_46 : decode cX1_bore 46 = .ok (.isub, 1) := by decide +kernel
theorem dX1_bore_47 : decode cX1_bore 47 = .ok (.ireturn, 1) := by decide +kernel
set_option maxRecDepth 20000 in
theorem ggX1_turn_X1_has : GoodIn wsX1_turn wsX1_has := goodIn_r _ [6, 7, 8, 9, 10, 11] (by decide +kernel) (by decide +kernel)
set_option maxRecDepth 20000 in
theorem gX1_turn_X1_has : GoodIn wsX1_turn (wsV RX1 26 RX1 yX1_has wsX1_has) := goodIn_app (goodIn_of _ (by decide +kernel)) ggX1_turn_X1_has
theorem dX1_turn_0 : decode cX1_turn 0 = .ok (.aload_n 0, 1) := by decide +kernel
theorem dX1_turn_1 : decode cX1_turn 1 = .ok (.iload_n 1, 1) := by decide +kernel
theorem dX1_turn_2 : decode cX1_turn 2 = .ok (.invokevirtual 26, 3) := by decide +kernel
theorem dX1_turn_5 : decode cX1_turn 5 = .ok (.ifCond .eq 10, 3) := by decide +kernel
theorem dX1_turn_8 : decode cX1_turn 8 = .ok (.aload_n 0, 1) := by decide +kernel
theorem dX1_turn_9 : decode cX1_turn 9 = .ok (.getfield 15, 3) := by decide +kernel
theorem dX1_turn_12 : decode cX1_turn 12 = .ok (.iload_n 1, 1) := by decide +kernel
theorem dX1_turn_13 : decode cX1_turn 13 = .ok (.iload_n 2, 1) := by decide +kernel
theorem dX1_turn_14 : decode cX1_turn 14 = .ok (.bastore, 1) := by decide +kernel
theorem dX1_turn_15 : decode cX1_turn 15 = .ok (.return_, 1) := by decide +kernel
theorem dX1_shutAll_0 : decode cX1_shutAll 0 = .ok (.iconst 0, 1) := by decide +kernel
theorem dX1_shutAll_1 : decode cX1_shutAll 1 = .ok (.istore_n 1, 1) := by decide +kernel
theorem dX1_shutAll_2 : decode cX1_shutAll 2 = .ok (.iload_n 1, 1) := by decide +kernel
theorem dX1_shutAll_3 : decode cX1_shutAll 3 = .ok (.aload_n 0, 1) := by decide +kernel
theorem dX1_shutAll_4 : decode cX1_shutAll 4 = .ok (.getfield 22, 3) := by decide +kernel
theorem dX1_shutAll_7 : decode cX1_shutAll 7 = .ok (.if_icmp .ge 16, 3) := by decide +kernel
theorem dX1_shutAll_10 : decode cX1_shutAll 10 = .ok (.aload_n 0, 1) := by decide +kernel
theorem dX1_shutAll_11 : decode cX1_shutAll 11 = .ok (.getfield 15, 3) := by decide +kernel
theorem dX1_shutAll_14 : decode cX1_shutAll 14 = .ok (.iload_n 1, 1) := by decide +kernel
theorem dX1_shutAll_15 : decode cX1_shutAll 15 = .ok (.iconst 0, 1) := by decide +kernel
theorem dX1_shutAll_16 : decode cX1_shutAll 16 = .ok (.bastore, 1) := by decide +kernel
theorem dX1_shutAll_17 : decode cX1_shutAll 17 = .ok (.iinc 1 1, 3) := by decide +kernel
theorem dX1_shutAll_20 : decode cX1_shutAll 20 = .ok (.goto (-18), 3) := by decide +kernel
theorem dX1_shutAll_23 : decode cX1_shutAll 23 = .ok (.return_, 1) := by decide +kernel
theorem dX1_countOpen_0 : decode cX1_countOpen 0 = .ok (.iconst 0, 1) := by decide +kernel
theorem dX1_countOpen_1 : decode cX1_countOpen 1 = .ok (.istore_n 1, 1) := by decide +kernel
theorem dX1_countOpen_2 : decode cX1_countOpen 2 = .ok (.iconst 0, 1) := by decide +kernel
theorem dX1_countOpen_3 : decode cX1_countOpen 3 = .ok (.istore_n 2, 1) := by decide +kernel
theorem dX1_countOpen_4 : decode cX1_countOpen 4 = .ok (.iload_n 2, 1) := by decide +kernel
theorem dX1_countOpen_5 : decode cX1_countOpen 5 = .ok (.aload_n 0, 1) := by decide +kernel
theorem dX1_countOpen_6 : decode cX1_countOpen 6 = .ok (.getfield 22, 3) := by decide +kernel
theorem dX1_countOpen_9 : decode cX1_countOpen 9 = .ok (.if_icmp .ge 21, 3) := by decide +kernel
theorem dX1_countOpen_12 : decode cX1_countOpen 12 = .ok (.aload_n 0, 1) := by decide +kernel
theorem dX1_countOpen_13 : decode cX1_countOpen 13 = .ok (.getfield 15, 3) := by decide +kernel
theorem dX1_countOpen_16 : decode cX1_countOpen 16 = .ok (.iload_n 2, 1) := by decide +kernel
theorem dX1_countOpen_17 : decode cX1_countOpen 17 = .ok (.baload, 1) := by decide +kernel
theorem dX1_countOpen_18 : decode cX1_countOpen 18 = .ok (.ifCond .eq 6, 3) := by decide +kernel
theorem dX1_countOpen_21 : decode cX1_countOpen 21 = .ok (.iinc 1 1, 3) := by decide +kernel
theorem dX1_countOpen_24 : decode cX1_countOpen 24 = .ok (.iinc 2 1, 3) := by decide +kernel
theorem dX1_countOpen_27 : decode cX1_countOpen 27 = .ok (.goto (-23), 3) := by decide +kernel
theorem dX1_countOpen_30 : decode cX1_countOpen 30 = .ok (.iload_n 1, 1) := by decide +kernel
theorem dX1_countOpen_31 : decode cX1_countOpen 31 = .ok (.ireturn, 1) := by decide +kernel
theorem dX1_keepOpen_0 : decode cX1_keepOpen 0 = .ok (.iconst 0, 1) := by decide +kernel
theorem dX1_keepOpen_1 : decode cX1_keepOpen 1 = .ok (.istore_n 1, 1) := by decide +kernel
theorem dX1_keepOpen_2 : decode cX1_keepOpen 2 = .ok (.iload_n 1, 1) := by decide +kernel
theorem dX1_keepOpen_3 : decode cX1_keepOpen 3 = .ok (.aload_n 0, 1) := by decide +kernel
theorem dX1_keepOpen_4 : decode cX1_keepOpen 4 = .ok (.getfield 22, 3) := by decide +kernel
theorem dX1_keepOpen_7 : decode cX1_keepOpen 7 = .ok (.if_icmp .ge 21, 3) := by decide +kernel
theorem dX1_keepOpen_10 : decode cX1_keepOpen 10 = .ok (.aload_n 0, 1) := by decide +kernel
theorem dX1_keepOpen_11 : decode cX1_keepOpen 11 = .ok (.getfield 19, 3) := by decide +kernel
theorem dX1_keepOpen_14 : decode cX1_keepOpen 14 = .ok (.iload_n 1, 1) := by decide +kernel
theorem dX1_keepOpen_15 : decode cX1_keepOpen 15 = .ok (.aload_n 0, 1) := by decide +kernel
theorem dX1_keepOpen_16 : decode cX1_keepOpen 16 = .ok (.getfield 15, 3) := by decide +kernel
theorem dX1_keepOpen_19 : decode cX1_keepOpen 19 = .ok (.iload_n 1, 1) := by decide +kernel
theorem dX1_keepOpen_20 : decode cX1_keepOpen 20 = .ok (.baload, 1) := by decide +kernel
theorem dX1_keepOpen_21 : decode cX1_keepOpen 21 = .ok (.bastore, 1) := by decide +kernel
theorem dX1_keepOpen_22 : decode cX1_keepOpen 22 = .ok (.iinc 1 1, 3) := by decide +kernel
theorem dX1_keepOpen_25 : decode cX1_keepOpen 25 = .ok (.goto (-23), 3) := by decide +kernel
theorem dX1_keepOpen_28 : decode cX1_keepOpen 28 = .ok (.return_, 1) := by decide +kernel
theorem dX1_backToLight_0 : decode cX1_backToLight 0 = .ok (.iconst 0, 1) := by decide +kernel
theorem dX1_backToLight_1 : decode cX1_backToLight 1 = .ok (.istore_n 1, 1) := by decide +kernel
theorem dX1_backToLight_2 : decode cX1_backToLight 2 = .ok (.iload_n 1, 1) := by decide +kernel
theorem dX1_backToLight_3 : decode cX1_backToLight 3 = .ok (.aload_n 0, 1) := by decide +kernel
theorem dX1_backToLight_4 : decode cX1_backToLight 4 = .ok (.getfield 22, 3) := by decide +kernel
theorem dX1_backToLight_7 : decode cX1_backToLight 7 = .ok (.if_icmp .ge 21, 3) := by decide +kernel
theorem dX1_backToLight_10 : decode cX1_backToLight 10 = .ok (.aload_n 0, 1) := by decide +kernel
theorem dX1_backToLight_11 : decode cX1_backToLight 11 = .ok (.getfield 15, 3) := by decide +kernel
theorem dX1_backToLight_14 : decode cX1_backToLight 14 = .ok (.iload_n 1, 1) := by decide +kernel
theorem dX1_backToLight_15 : decode cX1_backToLight 15 = .ok (.aload_n 0, 1) := by decide +kernel
theorem dX1_backToLight_16 : decode cX1_backToLight 16 = .ok (.getfield 19, 3) := by decide +kernel
theorem dX1_backToLight_19 : decode cX1_backToLight 19 = .ok (.iload_n 1, 1) := by decide +kernel
theorem dX1_backToLight_20 : decode cX1_backToLight 20 = .ok (.baload, 1) := by decide +kernel
theorem dX1_backToLight_21 : decode cX1_backToLight 21 = .ok (.bastore, 1) := by decide +kernel
theorem dX1_backToLight_22 : decode cX1_backToLight 22 = .ok (.iinc 1 1, 3) := by decide +kernel
theorem dX1_backToLight_25 : decode cX1_backToLight 25 = .ok (.goto (-23), 3) := by decide +kernel
theorem dX1_backToLight_28 : decode cX1_backToLight 28 = .ok (.return_, 1) := by decide +kernel
theorem dX3_init_0 : decode cX3_init 0 = .ok (.aload_n 0, 1) := by decide +kernel
theorem dX3_init_1 : decode cX3_init 1 = .ok (.invokespecial 3, 3) := by decide +kernel
theorem dX3_init_4 : decode cX3_init 4 = .ok (.aload_n 0, 1) := by decide +kernel
theorem dX3_init_5 : decode cX3_init 5 = .ok (.aload_n 1, 1) := by decide +kernel
theorem dX3_init_6 : decode cX3_init 6 = .ok (.putfield 9, 3) := by decide +kernel
theorem dX3_init_9 : decode cX3_init 9 = .ok (.aload_n 0, 1) := by decide +kernel
theorem dX3_init_10 : decode cX3_init 10 = .ok (.aload_n 2, 1) := by decide +kernel
theorem dX3_init_11 : decode cX3_init 11 = .ok (.putfield 15, 3) := by decide +kernel
theorem dX3_init_14 : decode cX3_init 14 = .ok (.return_, 1) := by decide +kernel
set_option maxRecDepth 20000 in
theorem ggX3_findFault_X4_isFull : GoodIn wsX3_findFault wsX4_isFull := goodIn_r _ [9, 10, 68, 69, 70, 71, 72, 73, 74, 75, 76] (by decide +kernel) (by decide +kernel)
set_option maxRecDepth 20000 in
theorem gX3_findFault_X4_isFull : GoodIn wsX3_findFault (wsV RX3 23 RX4 yX4_isFull wsX4_isFull) := goodIn_app (goodIn_of _ (by decide +kernel)) ggX3_findFault_X4_isFull
set_option maxRecDepth 20000 in
theorem ggX3_findFault_X3_readAsks : GoodIn wsX3_findFault wsX3_readAsks := goodIn_r _ [15, 16, 17, 18, 14, 19, 1, 2, 20, 21, 22, 23, 24, 3, 25, 26, 27, 28, 29, 30, 31, 32, 33, 8, 34, 35, 36, 37, 38, 39, 40, 41, 42, 43, 44, 45, 46, 47, 10, 48, 49, 50, 51, 62, 63, 64, 65, 66, 67, 68, 69, 70, 71, 72, 73, 74, 75, 76] (by decide +kernel) (by decide +kernel)
set_option maxRecDepth 20000 in
theorem gX3_findFault_X3_readAsks : GoodIn wsX3_findFault (wsV RX3 29 RX3 yX3_readAsks wsX3_readAsks) := goodIn_app (goodIn_of _ (by decide +kernel)) ggX3_findFault_X3_readAsks
set_option maxRecDepth 20000 in
theorem ggX3_findFault_X3_take : GoodIn wsX3_findFault wsX3_take := goodIn_r _ [39, 1, 21, 22, 23, 14, 24, 3, 25, 26, 27, 28, 29, 30, 31, 62, 63, 64, 65, 66, 67] (by decide +kernel) (by decide +kernel)
set_option maxRecDepth 20000 in
theorem gX3_findFault_X3_take : GoodIn wsX3_findFault (wsV RX3 32 RX3 yX3_take wsX3_take) := goodIn_app (goodIn_of _ (by decide +kernel)) ggX3_findFault_X3_take
set_option maxRecDepth 20000 in
theorem ggX3_findFault_X3_readAct : GoodIn wsX3_findFault wsX3_readAct := goodIn_r _ [55, 20, 2, 21, 22, 23, 14, 24, 1, 3, 25, 26, 27, 28, 29, 30, 31, 36, 37, 38, 39, 40, 41, 42, 43, 56, 57, 58, 8, 59, 60, 10, 61, 62, 63, 64, 65, 66, 67, 68, 69, 70, 71, 72, 73, 74, 75, 76] (by decide +kernel) (by decide +kernel)
set_option maxRecDepth 20000 in
theorem gX3_findFault_X3_readAct : GoodIn wsX3_findFault (wsV RX3 36 RX3 yX3_readAct wsX3_readAct) := goodIn_app (goodIn_of _ (by decide +kernel)) ggX3_findFault_X3_readAct
theorem dX3_findFault_0 : decode cX3_findFault 0 = .ok (.aload_n 0, 1) := by decide +kernel
theorem dX3_findFault_1 : decode cX3_findFault 1 = .ok (.iconst 0, 1) := by decide +kernel
theorem dX3_findFault_2 : decode cX3_findFault 2 = .ok (.putfield 19, 3) := by decide +kernel
theorem dX3_findFault_5 : decode cX3_findFault 5 = .ok (.aload_n 0, 1) := by decide +kernel
theorem dX3_findFault_6 : decode cX3_findFault 6 = .ok (.getfield 15, 3) := by decide +kernel
theorem dX3_findFault_9 : decode cX3_findFault 9 = .ok (.invokevirtual 23, 3) := by decide +kernel
theorem dX3_findFault_12 : decode cX3_findFault 12 = .ok (.ifCond .ne 44, 3) := by decide +kernel
theorem dX3_findFault_15 : decode cX3_findFault 15 = .ok (.aload_n 0, 1) := by decide +kernel
theorem dX3_findFault_16 : decode cX3_findFault 16 = .ok (.invokevirtual 29, 3) := by decide +kernel
theorem dX3_findFault_19 : decode cX3_findFault 19 = .ok (.ifCond .eq 37, 3) := by decide +kernel
theorem dX3_findFault_22 : decode cX3_findFault 22 = .ok (.aload_n 0, 1) := by decide +kernel
theorem dX3_findFault_23 : decode cX3_findFault 23 = .ok (.bipush 58, 2) := by decide +kernel
theorem dX3_findFault_25 : decode cX3_findFault 25 = .ok (.invokevirtual 32, 3) := by decide +kernel
theorem dX3_findFault_28 : decode cX3_findFault 28 = .ok (.ifCond .eq 28, 3) := by decide +kernel
theorem dX3_findFault_31 : decode cX3_findFault 31 = .ok (.aload_n 0, 1) := by decide +kernel
theorem dX3_findFault_32 : decode cX3_findFault 32 = .ok (.invokevirtual 36, 3) := by decide +kernel
theorem dX3_findFault_35 : decode cX3_findFault 35 = .ok (.ifCond .eq 21, 3) := by decide +kernel
theorem dX3_findFault_38 : decode cX3_findFault 38 = .ok (.aload_n 0, 1) := by decide +kernel
theorem dX3_findFault_39 : decode cX3_findFault 39 = .ok (.getfield 19, 3) := by decide +kernel
theorem dX3_findFault_42 : decode cX3_findFault 42 = .ok (.aload_n 0, 1) := by decide +kernel
theorem dX3_findFault_43 : decode cX3_findFault 43 = .ok (.getfield 9, 3) := by decide +kernel
theorem dX3_findFault_46 : decode cX3_findFault 46 = .ok (.getfield 39, 3) := by decide +kernel
theorem dX3_findFault_49 : decode cX3_findFault 49 = .ok (.if_icmp .ne 7, 3) := by decide +kernel
theorem dX3_findFault_52 : decode cX3_findFault 52 = .ok (.iconst 1, 1) := by decide +kernel
theorem dX3_findFault_53 : decode cX3_findFault 53 = .ok (.goto 4, 3) := by decide +kernel
theorem dX3_findFault_56 : decode cX3_findFault 56 = .ok (.iconst 0, 1) := by decide +kernel
theorem dX3_findFault_57 : decode cX3_findFault 57 = .ok (.istore_n 1, 1) := by decide +kernel
theorem dX3_findFault_58 : decode cX3_findFault 58 = .ok (.iload_n 1, 1) := by decide +kernel
theorem dX3_findFault_59 : decode cX3_findFault 59 = .ok (.ifCond .eq 7, 3) := by decide +kernel
theorem dX3_findFault_62 : decode cX3_findFault 62 = .ok (.iconst (-1), 1) := by decide +kernel
theorem dX3_findFault_63 : decode cX3_findFault 63 = .ok (.goto 7, 3) := by decide +kernel
theorem dX3_findFault_66 : decode cX3_findFault 66 = .ok (.aload_n 0, 1) := by decide +kernel
theorem dX3_findFault_67 : decode cX3_findFault 67 = .ok (.getfield 19, 3) := by decide +kernel
theorem dX3_findFault_70 : decode cX3_findFault 70 = .ok (.ireturn, 1) := by decide +kernel
set_option maxRecDepth 20000 in
theorem ggX3_readAsks_X3_readAsk : GoodIn wsX3_readAsks wsX3_readAsk := goodIn_r _ [5, 6, 7, 8, 9, 10, 11, 4, 12, 13, 14, 15, 16, 17, 18, 19, 20, 21, 22, 23, 24, 25, 26, 27, 28, 29, 30, 31, 32, 33, 34, 35, 36, 37, 38, 39, 40, 41, 42, 43, 44, 45, 46, 47, 48, 49, 50, 51, 52, 53, 54, 55, 56, 57] (by decide +kernel) (by decide +kernel)
set_option maxRecDepth 20000 in
theorem gX3_readAsks_X3_readAsk : GoodIn wsX3_readAsks (wsV RX3 44 RX3 yX3_readAsk wsX3_readAsk) := goodIn_app (goodIn_of _ (by decide +kernel)) ggX3_readAsks_X3_readAsk
set_option maxRecDepth 20000 in
theorem ggX3_readAsks_X3_take : GoodIn wsX3_readAsks wsX3_take := goodIn_r _ [29, 6, 9, 10, 11, 4, 12, 13, 14, 15, 16, 17, 18, 19, 20, 43, 44, 45, 46, 47, 48] (by decide +kernel) (by decide +kernel)
set_option maxRecDepth 20000 in
theorem gX3_readAsks_X3_take : GoodIn wsX3_readAsks (wsV RX3 32 RX3 yX3_take wsX3_take) := goodIn_app (goodIn_of _ (by decide +kernel)) ggX3_readAsks_X3_take
theorem dX3_readAsks_0 : decode cX3_readAsks 0 = .ok (.iconst 0, 1) := by decide +kernel
theorem dX3_readAsks_1 : decode cX3_readAsks 1 = .ok (.istore_n 1, 1) := by decide +kernel
theorem dX3_readAsks_2 : decode cX3_readAsks 2 = .ok (.iload_n 1, 1) := by decide +kernel
theorem dX3_readAsks_3 : decode cX3_readAsks 3 = .ok (.bipush 10, 2) := by decide +kernel
theorem dX3_readAsks_5 : decode cX3_readAsks 5 = .ok (.if_icmp .ge 30, 3) := by decide +kernel
theorem dX3_readAsks_8 : decode cX3_readAsks 8 = .ok (.aload_n 0, 1) := by decide +kernel
theorem dX3_readAsks_9 : decode cX3_readAsks 9 = .ok (.iload_n 1, 1) := by decide +kernel
theorem dX3_readAsks_10 : decode cX3_readAsks 10 = .ok (.invokevirtual 44, 3) := by decide +kernel
theorem dX3_readAsks_13 : decode cX3_readAsks 13 = .ok (.ifCond .ne 5, 3) := by decide +kernel
theorem dX3_readAsks_16 : decode cX3_readAsks 16 = .ok (.iconst 0, 1) := by decide +kernel
theorem dX3_readAsks_17 : decode cX3_readAsks 17 = .ok (.ireturn, 1) := by decide +kernel
theorem dX3_readAsks_18 : decode cX3_readAsks 18 = .ok (.aload_n 0, 1) := by decide +kernel
theorem dX3_readAsks_19 : decode cX3_readAsks 19 = .ok (.bipush 38, 2) := by decide +kernel
theorem dX3_readAsks_21 : decode cX3_readAsks 21 = .ok (.invokevirtual 32, 3) := by decide +kernel
theorem dX3_readAsks_24 : decode cX3_readAsks 24 = .ok (.ifCond .ne 5, 3) := by decide +kernel
theorem dX3_readAsks_27 : decode cX3_readAsks 27 = .ok (.iconst 1, 1) := by decide +kernel
theorem dX3_readAsks_28 : decode cX3_readAsks 28 = .ok (.ireturn, 1) := by decide +kernel
theorem dX3_readAsks_29 : decode cX3_readAsks 29 = .ok (.iinc 1 1, 3) := by decide +kernel
theorem dX3_readAsks_32 : decode cX3_readAsks 32 = .ok (.goto (-30), 3) := by decide +kernel
theorem dX3_readAsks_35 : decode cX3_readAsks 35 = .ok (.iconst 0, 1) := by decide +kernel
theorem dX3_readAsks_36 : decode cX3_readAsks 36 = .ok (.ireturn, 1) := by decide +kernel
set_option maxRecDepth 20000 in
theorem ggX3_readAsk_X3_next : GoodIn wsX3_readAsk wsX3_next := goodIn_r _ [8, 1, 9, 10, 11, 12, 13, 14, 15, 16, 39, 40, 41, 42, 43, 44] (by decide +kernel) (by decide +kernel)
set_option maxRecDepth 20000 in
theorem gX3_readAsk_X3_next : GoodIn wsX3_readAsk (wsV RX3 47 RX3 yX3_next wsX3_next) := goodIn_app (goodIn_of _ (by decide +kernel)) ggX3_readAsk_X3_next
set_option maxRecDepth 20000 in
theorem ggX3_readAsk_X4_letterOf : GoodIn wsX3_readAsk wsX4_letterOf := goodIn_r _ [20, 21] (by decide +kernel) (by decide +kernel)
set_option maxRecDepth 20000 in
theorem gX3_readAsk_X4_letterOf : GoodIn wsX3_readAsk (va_wsS RX3 51 yX4_letterOf wsX4_letterOf) := goodIn_app (goodIn_of _ (by decide +kernel)) ggX3_readAsk_X4_letterOf
set_option maxRecDepth 20000 in
theorem ggX3_readAsk_X3_take : GoodIn wsX3_readAsk wsX3_take := goodIn_r _ [25, 1, 4, 5, 6, 7, 8, 9, 10, 11, 12, 13, 14, 15, 16, 39, 40, 41, 42, 43, 44] (by decide +kernel) (by decide +kernel)
set_option maxRecDepth 20000 in
theorem gX3_readAsk_X3_take : GoodIn wsX3_readAsk (wsV RX3 32 RX3 yX3_take wsX3_take) := goodIn_app (goodIn_of _ (by decide +kernel)) ggX3_readAsk_X3_take
set_option maxRecDepth 20000 in
theorem ggX3_readAsk_X3_readNumber : GoodIn wsX3_readAsk wsX3_readNumber := goodIn_r _ [29, 3, 1, 4, 5, 6, 7, 8, 9, 10, 11, 12, 13, 14, 15, 16, 39, 40, 41, 42, 43, 44] (by decide +kernel) (by decide +kernel)
set_option maxRecDepth 20000 in
theorem gX3_readAsk_X3_readNumber : GoodIn wsX3_readAsk (wsV RX3 55 RX3 yX3_readNumber wsX3_readNumber) := goodIn_app (goodIn_of _ (by decide +kernel)) ggX3_readAsk_X3_readNumber
set_option maxRecDepth 20000 in
theorem ggX3_readAsk_X4_putAsk : GoodIn wsX3_readAsk wsX4_putAsk := goodIn_r _ [33, 34, 35, 36, 37, 38, 45, 46, 47, 48, 49, 50, 51, 52, 53] (by decide +kernel) (by decide +kernel)
set_option maxRecDepth 20000 in
theorem gX3_readAsk_X4_putAsk : GoodIn wsX3_readAsk (wsV RX3 61 RX4 yX4_putAsk wsX4_putAsk) := goodIn_app (goodIn_of _ (by decide +kernel)) ggX3_readAsk_X4_putAsk
theorem dX3_readAsk_0 : decode cX3_readAsk 0 = .ok (.aload_n 0, 1) := by decide +kernel
theorem dX3_readAsk_1 : decode cX3_readAsk 1 = .ok (.invokevirtual 47, 3) := by decide +kernel
theorem dX3_readAsk_4 : decode cX3_readAsk 4 = .ok (.invokestatic 51, 3) := by decide +kernel
theorem dX3_readAsk_7 : decode cX3_readAsk 7 = .ok (.istore_n 2, 1) := by decide +kernel
theorem dX3_readAsk_8 : decode cX3_readAsk 8 = .ok (.iload_n 2, 1) := by decide +kernel
theorem dX3_readAsk_9 : decode cX3_readAsk 9 = .ok (.iconst (-1), 1) := by decide +kernel
theorem dX3_readAsk_10 : decode cX3_readAsk 10 = .ok (.if_icmp .ne 5, 3) := by decide +kernel
theorem dX3_readAsk_13 : decode cX3_readAsk 13 = .ok (.iconst 0, 1) := by decide +kernel
theorem dX3_readAsk_14 : decode cX3_readAsk 14 = .ok (.ireturn, 1) := by decide +kernel
theorem dX3_readAsk_15 : decode cX3_readAsk 15 = .ok (.aload_n 0, 1) := by decide +kernel
theorem dX3_readAsk_16 : decode cX3_readAsk 16 = .ok (.dup, 1) := by decide +kernel
theorem dX3_readAsk_17 : decode cX3_readAsk 17 = .ok (.getfield 19, 3) := by decide +kernel
theorem dX3_readAsk_20 : decode cX3_readAsk 20 = .ok (.iconst 1, 1) := by decide +kernel
theorem dX3_readAsk_21 : decode cX3_readAsk 21 = .ok (.iadd, 1) := by decide +kernel
theorem dX3_readAsk_22 : decode cX3_readAsk 22 = .ok (.putfield 19, 3) := by decide +kernel
theorem dX3_readAsk_25 : decode cX3_readAsk 25 = .ok (.aload_n 0, 1) := by decide +kernel
theorem dX3_readAsk_26 : decode cX3_readAsk 26 = .ok (.invokevirtual 47, 3) := by decide +kernel
theorem dX3_readAsk_29 : decode cX3_readAsk 29 = .ok (.istore_n 3, 1) := by decide +kernel
theorem dX3_readAsk_30 : decode cX3_readAsk 30 = .ok (.aload_n 0, 1) := by decide +kernel
theorem dX3_readAsk_31 : decode cX3_readAsk 31 = .ok (.bipush 60, 2) := by decide +kernel
theorem dX3_readAsk_33 : decode cX3_readAsk 33 = .ok (.invokevirtual 32, 3) := by decide +kernel
theorem dX3_readAsk_36 : decode cX3_readAsk 36 = .ok (.ifCond .ne 21, 3) := by decide +kernel
theorem dX3_readAsk_39 : decode cX3_readAsk 39 = .ok (.aload_n 0, 1) := by decide +kernel
theorem dX3_readAsk_40 : decode cX3_readAsk 40 = .ok (.bipush 62, 2) := by decide +kernel
theorem dX3_readAsk_42 : decode cX3_readAsk 42 = .ok (.invokevirtual 32, 3) := by decide +kernel
theorem dX3_readAsk_45 : decode cX3_readAsk 45 = .ok (.ifCond .ne 12, 3) := by decide +kernel
theorem dX3_readAsk_48 : decode cX3_readAsk 48 = .ok (.aload_n 0, 1) := by decide +kernel
theorem dX3_readAsk_49 : decode cX3_readAsk 49 = .ok (.bipush 61, 2) := by decide +kernel
theorem dX3_readAsk_51 : decode cX3_readAsk 51 = .ok (.invokevirtual 32, 3) := by decide +kernel
theorem dX3_readAsk_54 : decode cX3_readAsk 54 = .ok (.ifCond .eq 10, 3) := by decide +kernel
theorem dX3_readAsk_57 : decode cX3_readAsk 57 = .ok (.aload_n 0, 1) := by decide +kernel
theorem dX3_readAsk_58 : decode cX3_readAsk 58 = .ok (.invokevirtual 55, 3) := by decide +kernel
theorem dX3_readAsk_61 : decode cX3_readAsk 61 = .ok (.ifCond .ne 5, 3) := by decide +kernel
theorem dX3_readAsk_64 : decode cX3_readAsk 64 = .ok (.iconst 0, 1) := by decide +kernel
theorem dX3_readAsk_65 : decode cX3_readAsk 65 = .ok (.ireturn, 1) := by decide +kernel
theorem dX3_readAsk_66 : decode cX3_readAsk 66 = .ok (.aload_n 0, 1) := by decide +kernel
theorem dX3_readAsk_67 : decode cX3_readAsk 67 = .ok (.getfield 15, 3) := by decide +kernel
theorem dX3_readAsk_70 : decode cX3_readAsk 70 = .ok (.iload_n 1, 1) := by decide +kernel
theorem dX3_readAsk_71 : decode cX3_readAsk 71 = .ok (.iload_n 2, 1) := by decide +kernel
theorem dX3_readAsk_72 : decode cX3_readAsk 72 = .ok (.iload_n 3, 1) := by decide +kernel
theorem dX3_readAsk_73 : decode cX3_readAsk 73 = .ok (.aload_n 0, 1) := by decide +kernel
theorem dX3_readAsk_74 : decode cX3_readAsk 74 = .ok (.getfield 58, 3) := by decide +kernel
theorem dX3_readAsk_77 : decode cX3_readAsk 77 = .ok (.invokevirtual 61, 3) := by decide +kernel
theorem dX3_readAsk_80 : decode cX3_readAsk 80 = .ok (.iconst 1, 1) := by decide +kernel
theorem dX3_readAsk_81 : decode cX3_readAsk 81 = .ok (.ireturn, 1) := by decide +kernel
set_option maxRecDepth 20000 in
theorem ggX3_readAct_X3_next : GoodIn wsX3_readAct wsX3_next := goodIn_r _ [7, 8, 9, 10, 11, 12, 13, 14, 15, 16, 33, 34, 35, 36, 37, 38] (by decide +kernel) (by decide +kernel)
set_option maxRecDepth 20000 in
theorem gX3_readAct_X3_next : GoodIn wsX3_readAct (wsV RX3 47 RX3 yX3_next wsX3_next) := goodIn_app (goodIn_of _ (by decide +kernel)) ggX3_readAct_X3_next
set_option maxRecDepth 20000 in
theorem ggX3_readAct_X3_take : GoodIn wsX3_readAct wsX3_take := goodIn_r _ [20, 8, 3, 4, 5, 6, 7, 9, 10, 11, 12, 13, 14, 15, 16, 33, 34, 35, 36, 37, 38] (by decide +kernel) (by decide +kernel)
set_option maxRecDepth 20000 in
theorem gX3_readAct_X3_take : GoodIn wsX3_readAct (wsV RX3 32 RX3 yX3_take wsX3_take) := goodIn_app (goodIn_of _ (by decide +kernel)) ggX3_readAct_X3_take
set_option maxRecDepth 20000 in
theorem ggX3_readAct_X3_readNumber : GoodIn wsX3_readAct wsX3_readNumber := goodIn_r _ [24, 1, 8, 3, 4, 5, 6, 7, 9, 10, 11, 12, 13, 14, 15, 16, 33, 34, 35, 36, 37, 38] (by decide +kernel) (by decide +kernel)
set_option maxRecDepth 20000 in
theorem gX3_readAct_X3_readNumber : GoodIn wsX3_readAct (wsV RX3 55 RX3 yX3_readNumber wsX3_readNumber) := goodIn_app (goodIn_of _ (by decide +kernel)) ggX3_readAct_X3_readNumber
set_option maxRecDepth 20000 in
theorem ggX3_readAct_X4_putAct : GoodIn wsX3_readAct wsX4_putAct := goodIn_r _ [29, 30, 31, 32, 39, 40, 41, 42, 43, 44, 45, 46, 47] (by decide +kernel) (by decide +kernel)
set_option maxRecDepth 20000 in
theorem gX3_readAct_X4_putAct : GoodIn wsX3_readAct (wsV RX3 65 RX4 yX4_putAct wsX4_putAct) := goodIn_app (goodIn_of _ (by decide +kernel)) ggX3_readAct_X4_putAct
theorem dX3_readAct_0 : decode cX3_readAct 0 = .ok (.aload_n 0, 1) := by decide +kernel
theorem dX3_readAct_1 : decode cX3_readAct 1 = .ok (.invokevirtual 47, 3) := by decide +kernel
theorem dX3_readAct_4 : decode cX3_readAct 4 = .ok (.istore_n 1, 1) := by decide +kernel
theorem dX3_readAct_5 : decode cX3_readAct 5 = .ok (.aload_n 0, 1) := by decide +kernel
theorem dX3_readAct_6 : decode cX3_readAct 6 = .ok (.iconst (-1), 1) := by decide +kernel
theorem dX3_readAct_7 : decode cX3_readAct 7 = .ok (.putfield 58, 3) := by decide +kernel
theorem dX3_readAct_10 : decode cX3_readAct 10 = .ok (.aload_n 0, 1) := by decide +kernel
theorem dX3_readAct_11 : decode cX3_readAct 11 = .ok (.bipush 94, 2) := by decide +kernel
theorem dX3_readAct_13 : decode cX3_readAct 13 = .ok (.invokevirtual 32, 3) := by decide +kernel
theorem dX3_readAct_16 : decode cX3_readAct 16 = .ok (.ifCond .ne 37, 3) := by decide +kernel
theorem dX3_readAct_19 : decode cX3_readAct 19 = .ok (.aload_n 0, 1) := by decide +kernel
theorem dX3_readAct_20 : decode cX3_readAct 20 = .ok (.bipush 126, 2) := by decide +kernel
theorem dX3_readAct_22 : decode cX3_readAct 22 = .ok (.invokevirtual 32, 3) := by decide +kernel
theorem dX3_readAct_25 : decode cX3_readAct 25 = .ok (.ifCond .ne 28, 3) := by decide +kernel
theorem dX3_readAct_28 : decode cX3_readAct 28 = .ok (.aload_n 0, 1) := by decide +kernel
theorem dX3_readAct_29 : decode cX3_readAct 29 = .ok (.bipush 43, 2) := by decide +kernel
theorem dX3_readAct_31 : decode cX3_readAct 31 = .ok (.invokevirtual 32, 3) := by decide +kernel
theorem dX3_readAct_34 : decode cX3_readAct 34 = .ok (.ifCond .ne 12, 3) := by decide +kernel
theorem dX3_readAct_37 : decode cX3_readAct 37 = .ok (.aload_n 0, 1) := by decide +kernel
theorem dX3_readAct_38 : decode cX3_readAct 38 = .ok (.bipush 45, 2) := by decide +kernel
theorem dX3_readAct_40 : decode cX3_readAct 40 = .ok (.invokevirtual 32, 3) := by decide +kernel
theorem dX3_readAct_43 : decode cX3_readAct 43 = .ok (.ifCond .eq 14, 3) := by decide +kernel
theorem dX3_readAct_46 : decode cX3_readAct 46 = .ok (.aload_n 0, 1) := by decide +kernel
theorem dX3_readAct_47 : decode cX3_readAct 47 = .ok (.invokevirtual 55, 3) := by decide +kernel
theorem dX3_readAct_50 : decode cX3_readAct 50 = .ok (.ifCond .eq 7, 3) := by decide +kernel
theorem dX3_readAct_53 : decode cX3_readAct 53 = .ok (.iconst 1, 1) := by decide +kernel
theorem dX3_readAct_54 : decode cX3_readAct 54 = .ok (.goto 4, 3) := by decide +kernel
theorem dX3_readAct_57 : decode cX3_readAct 57 = .ok (.iconst 0, 1) := by decide +kernel
theorem dX3_readAct_58 : decode cX3_readAct 58 = .ok (.istore_n 2, 1) := by decide +kernel
theorem dX3_readAct_59 : decode cX3_readAct 59 = .ok (.iload_n 2, 1) := by decide +kernel
theorem dX3_readAct_60 : decode cX3_readAct 60 = .ok (.ifCond .eq 15, 3) := by decide +kernel
theorem dX3_readAct_63 : decode cX3_readAct 63 = .ok (.aload_n 0, 1) := by decide +kernel
theorem dX3_readAct_64 : decode cX3_readAct 64 = .ok (.getfield 15, 3) := by decide +kernel
theorem dX3_readAct_67 : decode cX3_readAct 67 = .ok (.iload_n 1, 1) := by decide +kernel
theorem dX3_readAct_68 : decode cX3_readAct 68 = .ok (.aload_n 0, 1) := by decide +kernel
theorem dX3_readAct_69 : decode cX3_readAct 69 = .ok (.getfield 58, 3) := by decide +kernel
theorem dX3_readAct_72 : decode cX3_readAct 72 = .ok (.invokevirtual 65, 3) := by decide +kernel
theorem dX3_readAct_75 : decode cX3_readAct 75 = .ok (.iload_n 2, 1) := by decide +kernel
theorem dX3_readAct_76 : decode cX3_readAct 76 = .ok (.ireturn, 1) := by decide +kernel
set_option maxRecDepth 20000 in
theorem ggX3_readNumber_X3_next : GoodIn wsX3_readNumber wsX3_next := goodIn_r _ [7, 2, 8, 9, 10, 11, 12, 13, 14, 15, 16, 17, 18, 19, 20, 21] (by decide +kernel) (by decide +kernel)
set_option maxRecDepth 20000 in
theorem gX3_readNumber_X3_next : GoodIn wsX3_readNumber (wsV RX3 47 RX3 yX3_next wsX3_next) := goodIn_app (goodIn_of _ (by decide +kernel)) ggX3_readNumber_X3_next
theorem dX3_readNumber_0 : decode cX3_readNumber 0 = .ok (.iconst 0, 1) := by decide +kernel
theorem dX3_readNumber_1 : decode cX3_readNumber 1 = .ok (.istore_n 1, 1) := by decide +kernel
theorem dX3_readNumber_2 : decode cX3_readNumber 2 = .ok (.aload_n 0, 1) := by decide +kernel
theorem dX3_readNumber_3 : decode cX3_readNumber 3 = .ok (.iconst 0, 1) := by decide +kernel
theorem dX3_readNumber_4 : decode cX3_readNumber 4 = .ok (.putfield 58, 3) := by decide +kernel
theorem dX3_readNumber_7 : decode cX3_readNumber 7 = .ok (.iload_n 1, 1) := by decide +kernel
theorem dX3_readNumber_8 : decode cX3_readNumber 8 = .ok (.iconst 5, 1) := by decide +kernel
theorem dX3_readNumber_9 : decode cX3_readNumber 9 = .ok (.if_icmp .ge 56, 3) := by decide +kernel
theorem dX3_readNumber_12 : decode cX3_readNumber 12 = .ok (.aload_n 0, 1) := by decide +kernel
theorem dX3_readNumber_13 : decode cX3_readNumber 13 = .ok (.invokevirtual 47, 3) := by decide +kernel
theorem dX3_readNumber_16 : decode cX3_readNumber 16 = .ok (.bipush 48, 2) := by decide +kernel
theorem dX3_readNumber_18 : decode cX3_readNumber 18 = .ok (.if_icmp .lt 47, 3) := by decide +kernel
theorem dX3_readNumber_21 : decode cX3_readNumber 21 = .ok (.aload_n 0, 1) := by decide +kernel
theorem dX3_readNumber_22 : decode cX3_readNumber 22 = .ok (.invokevirtual 47, 3) := by decide +kernel
theorem dX3_readNumber_25 : decode cX3_readNumber 25 = .ok (.bipush 57, 2) := by decide +kernel
theorem dX3_readNumber_27 : decode cX3_readNumber 27 = .ok (.if_icmp .gt 38, 3) := by decide +kernel
theorem dX3_readNumber_30 : decode cX3_readNumber 30 = .ok (.aload_n 0, 1) := by decide +kernel
theorem dX3_readNumber_31 : decode cX3_readNumber 31 = .ok (.bipush 10, 2) := by decide +kernel
theorem dX3_readNumber_33 : decode cX3_readNumber 33 = .ok (.aload_n 0, 1) := by decide +kernel
theorem dX3_readNumber_34 : decode cX3_readNumber 34 = .ok (.getfield 58, 3) := by decide +kernel
theorem dX3_readNumber_37 : decode cX3_readNumber 37 = .ok (.imul, 1) := by decide +kernel
theorem dX3_readNumber_38 : decode cX3_readNumber 38 = .ok (.aload_n 0, 1) := by decide +kernel
theorem dX3_readNumber_39 : decode cX3_readNumber 39 = .ok (.invokevirtual 47, 3) := by decide +kernel
theorem dX3_readNumber_42 : decode cX3_readNumber 42 = .ok (.iadd, 1) := by decide +kernel
theorem dX3_readNumber_43 : decode cX3_readNumber 43 = .ok (.bipush 48, 2) := by decide +kernel
theorem dX3_readNumber_45 : decode cX3_readNumber 45 = .ok (.isub, 1) := by decide +kernel
theorem dX3_readNumber_46 : decode cX3_readNumber 46 = .ok (.putfield 58, 3) := by decide +kernel
theorem dX3_readNumber_49 : decode cX3_readNumber 49 = .ok (.aload_n 0, 1) := by decide +kernel
theorem dX3_readNumber_50 : decode cX3_readNumber 50 = .ok (.dup, 1) := by decide +kernel
theorem dX3_readNumber_51 : decode cX3_readNumber 51 = .ok (.getfield 19, 3) := by decide +kernel
theorem dX3_readNumber_54 : decode cX3_readNumber 54 = .ok (.iconst 1, 1) := by decide +kernel
theorem dX3_readNumber_55 : decode cX3_readNumber 55 = .ok (.iadd, 1) := by decide +kernel
theorem dX3_readNumber_56 : decode cX3_readNumber 56 = .ok (.putfield 19, 3) := by decide +kernel
theorem dX3_readNumber_59 : decode cX3_readNumber 59 = .ok (.iinc 1 1, 3) := by decide +kernel
theorem dX3_readNumber_62 : decode cX3_readNumber 62 = .ok (.goto (-55), 3) := by decide +kernel
theorem dX3_readNumber_65 : decode cX3_readNumber 65 = .ok (.iload_n 1, 1) := by decide +kernel
theorem dX3_readNumber_66 : decode cX3_readNumber 66 = .ok (.ifCond .le 7, 3) := by decide +kernel
theorem dX3_readNumber_69 : decode cX3_readNumber 69 = .ok (.iconst 1, 1) := by decide +kernel
theorem dX3_readNumber_70 : decode cX3_readNumber 70 = .ok (.goto 4, 3) := by decide +kernel
theorem dX3_readNumber_73 : decode cX3_readNumber 73 = .ok (.iconst 0, 1) := by decide +kernel
theorem dX3_readNumber_74 : decode cX3_readNumber 74 = .ok (.ireturn, 1) := by decide +kernel
set_option maxRecDepth 20000 in
theorem ggX3_take_X3_next : GoodIn wsX3_take wsX3_next := goodIn_r _ [6, 1, 7, 8, 9, 10, 11, 12, 13, 14, 15, 16, 17, 18, 19, 20] (by decide +kernel) (by decide +kernel)
set_option maxRecDepth 20000 in
theorem gX3_take_X3_next : GoodIn wsX3_take (wsV RX3 47 RX3 yX3_next wsX3_next) := goodIn_app (goodIn_of _ (by decide +kernel)) ggX3_take_X3_next
theorem dX3_take_0 : decode cX3_take 0 = .ok (.aload_n 0, 1) := by decide +kernel
theorem dX3_take_1 : decode cX3_take 1 = .ok (.invokevirtual 47, 3) := by decide +kernel
theorem dX3_take_4 : decode cX3_take 4 = .ok (.iload_n 1, 1) := by decide +kernel
theorem dX3_take_5 : decode cX3_take 5 = .ok (.if_icmp .eq 5, 3) := by decide +kernel
theorem dX3_take_8 : decode cX3_take 8 = .ok (.iconst 0, 1) := by decide +kernel
theorem dX3_take_9 : decode cX3_take 9 = .ok (.ireturn, 1) := by decide +kernel
theorem dX3_take_10 : decode cX3_take 10 = .ok (.aload_n 0, 1) := by decide +kernel
theorem dX3_take_11 : decode cX3_take 11 = .ok (.dup, 1) := by decide +kernel
theorem dX3_take_12 : decode cX3_take 12 = .ok (.getfield 19, 3) := by decide +kernel
theorem dX3_take_15 : decode cX3_take 15 = .ok (.iconst 1, 1) := by decide +kernel
theorem dX3_take_16 : decode cX3_take 16 = .ok (.iadd, 1) := by decide +kernel
theorem dX3_take_17 : decode cX3_take 17 = .ok (.putfield 19, 3) := by decide +kernel
theorem dX3_take_20 : decode cX3_take 20 = .ok (.iconst 1, 1) := by decide +kernel
theorem dX3_take_21 : decode cX3_take 21 = .ok (.ireturn, 1) := by decide +kernel
set_option maxRecDepth 20000 in
theorem ggX3_next_X5_signAt : GoodIn wsX3_next wsX5_signAt := goodIn_r _ [7, 8, 9, 14, 15] (by decide +kernel) (by decide +kernel)
set_option maxRecDepth 20000 in
theorem gX3_next_X5_signAt : GoodIn wsX3_next (wsV RX3 69 RX5 yX5_signAt wsX5_signAt) := goodIn_app (goodIn_of _ (by decide +kernel)) ggX3_next_X5_signAt
theorem dX3_next_0 : decode cX3_next 0 = .ok (.aload_n 0, 1) := by decide +kernel
theorem dX3_next_1 : decode cX3_next 1 = .ok (.getfield 19, 3) := by decide +kernel
theorem dX3_next_4 : decode cX3_next 4 = .ok (.bipush 40, 2) := by decide +kernel
theorem dX3_next_6 : decode cX3_next 6 = .ok (.if_icmp .ge 17, 3) := by decide +kernel
theorem dX3_next_9 : decode cX3_next 9 = .ok (.aload_n 0, 1) := by decide +kernel
theorem dX3_next_10 : decode cX3_next 10 = .ok (.getfield 9, 3) := by decide +kernel
theorem dX3_next_13 : decode cX3_next 13 = .ok (.aload_n 0, 1) := by decide +kernel
theorem dX3_next_14 : decode cX3_next 14 = .ok (.getfield 19, 3) := by decide +kernel
theorem dX3_next_17 : decode cX3_next 17 = .ok (.invokevirtual 69, 3) := by decide +kernel
theorem dX3_next_20 : decode cX3_next 20 = .ok (.goto 4, 3) := by decide +kernel
theorem dX3_next_23 : decode cX3_next 23 = .ok (.iconst (-1), 1) := by decide +kernel
theorem dX3_next_24 : decode cX3_next 24 = .ok (.ireturn, 1) := by decide +kernel
theorem dX4_init_0 : decode cX4_init 0 = .ok (.aload_n 0, 1) := by decide +kernel
theorem dX4_init_1 : decode cX4_init 1 = .ok (.invokespecial 3, 3) := by decide +kernel
theorem dX4_init_4 : decode cX4_init 4 = .ok (.aload_n 0, 1) := by decide +kernel
theorem dX4_init_5 : decode cX4_init 5 = .ok (.bipush 8, 2) := by decide +kernel
theorem dX4_init_7 : decode cX4_init 7 = .ok (.newarray .int, 2) := by decide +kernel
theorem dX4_init_9 : decode cX4_init 9 = .ok (.putfield 11, 3) := by decide +kernel
theorem dX4_init_12 : decode cX4_init 12 = .ok (.aload_n 0, 1) := by decide +kernel
theorem dX4_init_13 : decode cX4_init 13 = .ok (.bipush 8, 2) := by decide +kernel
theorem dX4_init_15 : decode cX4_init 15 = .ok (.newarray .int, 2) := by decide +kernel
theorem dX4_init_17 : decode cX4_init 17 = .ok (.putfield 15, 3) := by decide +kernel
theorem dX4_init_20 : decode cX4_init 20 = .ok (.aload_n 0, 1) := by decide +kernel
theorem dX4_init_21 : decode cX4_init 21 = .ok (.bipush 8, 2) := by decide +kernel
theorem dX4_init_23 : decode cX4_init 23 = .ok (.newarray .int, 2) := by decide +kernel
theorem dX4_init_25 : decode cX4_init 25 = .ok (.putfield 18, 3) := by decide +kernel
theorem dX4_init_28 : decode cX4_init 28 = .ok (.aload_n 0, 1) := by decide +kernel
theorem dX4_init_29 : decode cX4_init 29 = .ok (.bipush 8, 2) := by decide +kernel
theorem dX4_init_31 : decode cX4_init 31 = .ok (.newarray .int, 2) := by decide +kernel
theorem dX4_init_33 : decode cX4_init 33 = .ok (.putfield 21, 3) := by decide +kernel
theorem dX4_init_36 : decode cX4_init 36 = .ok (.aload_n 0, 1) := by decide +kernel
theorem dX4_init_37 : decode cX4_init 37 = .ok (.bipush 80, 2) := by decide +kernel
theorem dX4_init_39 : decode cX4_init 39 = .ok (.newarray .int, 2) := by decide +kernel
theorem dX4_init_41 : decode cX4_init 41 = .ok (.putfield 24, 3) := by decide +kernel
theorem dX4_init_44 : decode cX4_init 44 = .ok (.aload_n 0, 1) := by decide +kernel
theorem dX4_init_45 : decode cX4_init 45 = .ok (.bipush 80, 2) := by decide +kernel
theorem dX4_init_47 : decode cX4_init 47 = .ok (.newarray .int, 2) := by decide +kernel
theorem dX4_init_49 : decode cX4_init 49 = .ok (.putfield 27, 3) := by decide +kernel
theorem dX4_init_52 : decode cX4_init 52 = .ok (.aload_n 0, 1) := by decide +kernel
theorem dX4_init_53 : decode cX4_init 53 = .ok (.bipush 80, 2) := by decide +kernel
theorem dX4_init_55 : decode cX4_init 55 = .ok (.newarray .int, 2) := by decide +kernel
theorem dX4_init_57 : decode cX4_init 57 = .ok (.putfield 30, 3) := by decide +kernel
theorem dX4_init_60 : decode cX4_init 60 = .ok (.aload_n 0, 1) := by decide +kernel
theorem dX4_init_61 : decode cX4_init 61 = .ok (.getstatic 33, 3) := by decide +kernel
theorem dX4_init_64 : decode cX4_init 64 = .ok (.arraylength, 1) := by decide +kernel
theorem dX4_init_65 : decode cX4_init 65 = .ok (.newarray .int, 2) := by decide +kernel
theorem dX4_init_67 : decode cX4_init 67 = .ok (.putfield 37, 3) := by decide +kernel
theorem dX4_init_70 : decode cX4_init 70 = .ok (.return_, 1) := by decide +kernel
theorem dX4_letterOf_0 : decode cX4_letterOf 0 = .ok (.iconst 0, 1) := by decide +kernel
theorem dX4_letterOf_1 : decode cX4_letterOf 1 = .ok (.istore_n 1, 1) := by decide +kernel
theorem dX4_letterOf_2 : decode cX4_letterOf 2 = .ok (.iload_n 1, 1) := by decide +kernel
theorem dX4_letterOf_3 : decode cX4_letterOf 3 = .ok (.getstatic 33, 3) := by decide +kernel
theorem dX4_letterOf_6 : decode cX4_letterOf 6 = .ok (.arraylength, 1) := by decide +kernel
theorem dX4_letterOf_7 : decode cX4_letterOf 7 = .ok (.if_icmp .ge 20, 3) := by decide +kernel
theorem dX4_letterOf_10 : decode cX4_letterOf 10 = .ok (.getstatic 33, 3) := by decide +kernel
theorem dX4_letterOf_13 : decode cX4_letterOf 13 = .ok (.iload_n 1, 1) := by decide +kernel
theorem dX4_letterOf_14 : decode cX4_letterOf 14 = .ok (.caload, 1) := by decide +kernel
theorem dX4_letterOf_15 : decode cX4_letterOf 15 = .ok (.iload_n 0, 1) := by decide +kernel
theorem dX4_letterOf_16 : decode cX4_letterOf 16 = .ok (.if_icmp .ne 5, 3) := by decide +kernel
theorem dX4_letterOf_19 : decode cX4_letterOf 19 = .ok (.iload_n 1, 1) := by decide +kernel
theorem dX4_letterOf_20 : decode cX4_letterOf 20 = .ok (.ireturn, 1) := by decide +kernel
theorem dX4_letterOf_21 : decode cX4_letterOf 21 = .ok (.iinc 1 1, 3) := by decide +kernel
theorem dX4_letterOf_24 : decode cX4_letterOf 24 = .ok (.goto (-22), 3) := by decide +kernel
theorem dX4_letterOf_27 : decode cX4_letterOf 27 = .ok (.iconst (-1), 1) := by decide +kernel
theorem dX4_letterOf_28 : decode cX4_letterOf 28 = .ok (.ireturn, 1) := by decide +kernel
theorem dX4_isFull_0 : decode cX4_isFull 0 = .ok (.aload_n 0, 1) := by decide +kernel
theorem dX4_isFull_1 : decode cX4_isFull 1 = .ok (.getfield 40, 3) := by decide +kernel
theorem dX4_isFull_4 : decode cX4_isFull 4 = .ok (.bipush 8, 2) := by decide +kernel
theorem dX4_isFull_6 : decode cX4_isFull 6 = .ok (.if_icmp .lt 7, 3) := by decide +kernel
theorem dX4_isFull_9 : decode cX4_isFull 9 = .ok (.iconst 1, 1) := by decide +kernel
theorem dX4_isFull_10 : decode cX4_isFull 10 = .ok (.goto 4, 3) := by decide +kernel
theorem dX4_isFull_13 : decode cX4_isFull 13 = .ok (.iconst 0, 1) := by decide +kernel
theorem dX4_isFull_14 : decode cX4_isFull 14 = .ok (.ireturn, 1) := by decide +kernel
theorem dX4_accept_0 : decode cX4_accept 0 = .ok (.aload_n 0, 1) := by decide +kernel
theorem dX4_accept_1 : decode cX4_accept 1 = .ok (.getfield 21, 3) := by decide +kernel
theorem dX4_accept_4 : decode cX4_accept 4 = .ok (.aload_n 0, 1) := by decide +kernel
theorem dX4_accept_5 : decode cX4_accept 5 = .ok (.getfield 40, 3) := by decide +kernel
theorem dX4_accept_8 : decode cX4_accept 8 = .ok (.iload_n 1, 1) := by decide +kernel
theorem dX4_accept_9 : decode cX4_accept 9 = .ok (.iastore, 1) := by decide +kernel
theorem dX4_accept_10 : decode cX4_accept 10 = .ok (.aload_n 0, 1) := by decide +kernel
theorem dX4_accept_11 : decode cX4_accept 11 = .ok (.dup, 1) := by decide +kernel
theorem dX4_accept_12 : decode cX4_accept 12 = .ok (.getfield 40, 3) := by decide +kernel
theorem dX4_accept_15 : decode cX4_accept 15 = .ok (.iconst 1, 1) := by decide +kernel
theorem dX4_accept_16 : decode cX4_accept 16 = .ok (.iadd, 1) := by decide +kernel
theorem dX4_accept_17 : decode cX4_accept 17 = .ok (.putfield 40, 3) := by decide +kernel
theorem dX4_accept_20 : decode cX4_accept 20 = .ok (.aload_n 0, 1) := by decide +kernel
theorem dX4_accept_21 : decode cX4_accept 21 = .ok (.getfield 40, 3) := by decide +kernel
theorem dX4_accept_24 : decode cX4_accept 24 = .ok (.iconst 1, 1) := by decide +kernel
theorem dX4_accept_25 : decode cX4_accept 25 = .ok (.isub, 1) := by decide +kernel
theorem dX4_accept_26 : decode cX4_accept 26 = .ok (.ireturn, 1) := by decide +kernel
set_option maxRecDepth 20000 in
theorem ggX4_actFromFirstHour_J7_fill_53178 : GoodIn wsX4_actFromFirstHour wsJ7_fill_53178 := goodIn_r _ [5] (by decide +kernel) (by decide +kernel)
set_option maxRecDepth 20000 in
theorem gX4_actFromFirstHour_J7_fill_53178 : GoodIn wsX4_actFromFirstHour (va_wsS RX4 44 yJ7_fill_53178 wsJ7_fill_53178) := goodIn_app (goodIn_of _ (by decide +kernel)) ggX4_actFromFirstHour_J7_fill_53178
theorem dX4_actFromFirstHour_0 : decode cX4_actFromFirstHour 0 = .ok (.aload_n 0, 1) := by decide +kernel
theorem dX4_actFromFirstHour_1 : decode cX4_actFromFirstHour 1 = .ok (.getfield 21, 3) := by decide +kernel
theorem dX4_actFromFirstHour_4 : decode cX4_actFromFirstHour 4 = .ok (.iconst 0, 1) := by decide +kernel
theorem dX4_actFromFirstHour_5 : decode cX4_actFromFirstHour 5 = .ok (.invokestatic 44, 3) := by decide +kernel
theorem dX4_actFromFirstHour_8 : decode cX4_actFromFirstHour 8 = .ok (.return_, 1) := by decide +kernel
theorem dX4_putAsk_0 : decode cX4_putAsk 0 = .ok (.aload_n 0, 1) := by decide +kernel
theorem dX4_putAsk_1 : decode cX4_putAsk 1 = .ok (.getfield 40, 3) := by decide +kernel
theorem dX4_putAsk_4 : decode cX4_putAsk 4 = .ok (.bipush 10, 2) := by decide +kernel
theorem dX4_putAsk_6 : decode cX4_putAsk 6 = .ok (.imul, 1) := by decide +kernel
theorem dX4_putAsk_7 : decode cX4_putAsk 7 = .ok (.iload_n 1, 1) := by decide +kernel
theorem dX4_putAsk_8 : decode cX4_putAsk 8 = .ok (.iadd, 1) := by decide +kernel
theorem dX4_putAsk_9 : decode cX4_putAsk 9 = .ok (.istore 5, 2) := by decide +kernel
theorem dX4_putAsk_11 : decode cX4_putAsk 11 = .ok (.aload_n 0, 1) := by decide +kernel
theorem dX4_putAsk_12 : decode cX4_putAsk 12 = .ok (.getfield 24, 3) := by decide +kernel
theorem dX4_putAsk_15 : decode cX4_putAsk 15 = .ok (.iload 5, 2) := by decide +kernel
theorem dX4_putAsk_17 : decode cX4_putAsk 17 = .ok (.iload_n 2, 1) := by decide +kernel
theorem dX4_putAsk_18 : decode cX4_putAsk 18 = .ok (.iastore, 1) := by decide +kernel
theorem dX4_putAsk_19 : decode cX4_putAsk 19 = .ok (.aload_n 0, 1) := by decide +kernel
theorem dX4_putAsk_20 : decode cX4_putAsk 20 = .ok (.getfield 27, 3) := by decide +kernel
theorem dX4_putAsk_23 : decode cX4_putAsk 23 = .ok (.iload 5, 2) := by decide +kernel
theorem dX4_putAsk_25 : decode cX4_putAsk 25 = .ok (.iload_n 3, 1) := by decide +kernel
theorem dX4_putAsk_26 : decode cX4_putAsk 26 = .ok (.iastore, 1) := by decide +kernel
theorem dX4_putAsk_27 : decode cX4_putAsk 27 = .ok (.aload_n 0, 1) := by decide +kernel
theorem dX4_putAsk_28 : decode cX4_putAsk 28 = .ok (.getfield 30, 3) := by decide +kernel
theorem dX4_putAsk_31 : decode cX4_putAsk 31 = .ok (.iload 5, 2) := by decide +kernel
theorem dX4_putAsk_33 : decode cX4_putAsk 33 = .ok (.iload 4, 2) := by decide +kernel
theorem dX4_putAsk_35 : decode cX4_putAsk 35 = .ok (.iastore, 1) := by decide +kernel
theorem dX4_putAsk_36 : decode cX4_putAsk 36 = .ok (.aload_n 0, 1) := by decide +kernel
theorem dX4_putAsk_37 : decode cX4_putAsk 37 = .ok (.getfield 18, 3) := by decide +kernel
theorem dX4_putAsk_40 : decode cX4_putAsk 40 = .ok (.aload_n 0, 1) := by decide +kernel
theorem dX4_putAsk_41 : decode cX4_putAsk 41 = .ok (.getfield 40, 3) := by decide +kernel
theorem dX4_putAsk_44 : decode cX4_putAsk 44 = .ok (.iload_n 1, 1) := by decide +kernel
theorem dX4_putAsk_45 : decode cX4_putAsk 45 = .ok (.iconst 1, 1) := by decide +kernel
theorem dX4_putAsk_46 : decode cX4_putAsk 46 = .ok (.iadd, 1) := by decide +kernel
theorem dX4_putAsk_47 : decode cX4_putAsk 47 = .ok (.iastore, 1) := by decide +kernel
theorem dX4_putAsk_48 : decode cX4_putAsk 48 = .ok (.return_, 1) := by decide +kernel
theorem dX4_putAct_0 : decode cX4_putAct 0 = .ok (.aload_n 0, 1) := by decide +kernel
theorem dX4_putAct_1 : decode cX4_putAct 1 = .ok (.getfield 11, 3) := by decide +kernel
theorem dX4_putAct_4 : decode cX4_putAct 4 = .ok (.aload_n 0, 1) := by decide +kernel
theorem dX4_putAct_5 : decode cX4_putAct 5 = .ok (.getfield 40, 3) := by decide +kernel
theorem dX4_putAct_8 : decode cX4_putAct 8 = .ok (.iload_n 1, 1) := by decide +kernel
theorem dX4_putAct_9 : decode cX4_putAct 9 = .ok (.iastore, 1) := by decide +kernel
theorem dX4_putAct_10 : decode cX4_putAct 10 = .ok (.aload_n 0, 1) := by decide +kernel
theorem dX4_putAct_11 : decode cX4_putAct 11 = .ok (.getfield 15, 3) := by decide +kernel
theorem dX4_putAct_14 : decode cX4_putAct 14 = .ok (.aload_n 0, 1) := by decide +kernel
theorem dX4_putAct_15 : decode cX4_putAct 15 = .ok (.getfield 40, 3) := by decide +kernel
theorem dX4_putAct_18 : decode cX4_putAct 18 = .ok (.iload_n 2, 1) := by decide +kernel
theorem dX4_putAct_19 : decode cX4_putAct 19 = .ok (.iastore, 1) := by decide +kernel
theorem dX4_putAct_20 : decode cX4_putAct 20 = .ok (.return_, 1) := by decide +kernel
theorem dX4_see_0 : decode cX4_see 0 = .ok (.aload_n 0, 1) := by decide +kernel
theorem dX4_see_1 : decode cX4_see 1 = .ok (.getfield 37, 3) := by decide +kernel
theorem dX4_see_4 : decode cX4_see 4 = .ok (.iload_n 1, 1) := by decide +kernel
theorem dX4_see_5 : decode cX4_see 5 = .ok (.iload_n 2, 1) := by decide +kernel
theorem dX4_see_6 : decode cX4_see 6 = .ok (.iastore, 1) := by decide +kernel
theorem dX4_see_7 : decode cX4_see 7 = .ok (.return_, 1) := by decide +kernel
set_option maxRecDepth 20000 in
theorem ggX4_holdsAt_X4_isSo : GoodIn wsX4_holdsAt wsX4_isSo := goodIn_r _ [10] (by decide +kernel) (by decide +kernel)
set_option maxRecDepth 20000 in
theorem gX4_holdsAt_X4_isSo : GoodIn wsX4_holdsAt (va_wsS RX4 50 yX4_isSo wsX4_isSo) := goodIn_app (goodIn_of _ (by decide +kernel)) ggX4_holdsAt_X4_isSo
theorem dX4_holdsAt_0 : decode cX4_holdsAt 0 = .ok (.iload_n 2, 1) := by decide +kernel
theorem dX4_holdsAt_1 : decode cX4_holdsAt 1 = .ok (.aload_n 0, 1) := by decide +kernel
theorem dX4_holdsAt_2 : decode cX4_holdsAt 2 = .ok (.getfield 21, 3) := by decide +kernel
theorem dX4_holdsAt_5 : decode cX4_holdsAt 5 = .ok (.iload_n 1, 1) := by decide +kernel
theorem dX4_holdsAt_6 : decode cX4_holdsAt 6 = .ok (.iaload, 1) := by decide +kernel
theorem dX4_holdsAt_7 : decode cX4_holdsAt 7 = .ok (.if_icmp .ge 5, 3) := by decide +kernel
theorem dX4_holdsAt_10 : decode cX4_holdsAt 10 = .ok (.iconst 0, 1) := by decide +kernel
theorem dX4_holdsAt_11 : decode cX4_holdsAt 11 = .ok (.ireturn, 1) := by decide +kernel
theorem dX4_holdsAt_12 : decode cX4_holdsAt 12 = .ok (.iload_n 1, 1) := by decide +kernel
theorem dX4_holdsAt_13 : decode cX4_holdsAt 13 = .ok (.bipush 10, 2) := by decide +kernel
theorem dX4_holdsAt_15 : decode cX4_holdsAt 15 = .ok (.imul, 1) := by decide +kernel
theorem dX4_holdsAt_16 : decode cX4_holdsAt 16 = .ok (.istore_n 3, 1) := by decide +kernel
theorem dX4_holdsAt_17 : decode cX4_holdsAt 17 = .ok (.iload_n 3, 1) := by decide +kernel
theorem dX4_holdsAt_18 : decode cX4_holdsAt 18 = .ok (.iload_n 1, 1) := by decide +kernel
theorem dX4_holdsAt_19 : decode cX4_holdsAt 19 = .ok (.bipush 10, 2) := by decide +kernel
theorem dX4_holdsAt_21 : decode cX4_holdsAt 21 = .ok (.imul, 1) := by decide +kernel
theorem dX4_holdsAt_22 : decode cX4_holdsAt 22 = .ok (.aload_n 0, 1) := by decide +kernel
theorem dX4_holdsAt_23 : decode cX4_holdsAt 23 = .ok (.getfield 18, 3) := by decide +kernel
theorem dX4_holdsAt_26 : decode cX4_holdsAt 26 = .ok (.iload_n 1, 1) := by decide +kernel
theorem dX4_holdsAt_27 : decode cX4_holdsAt 27 = .ok (.iaload, 1) := by decide +kernel
theorem dX4_holdsAt_28 : decode cX4_holdsAt 28 = .ok (.iadd, 1) := by decide +kernel
theorem dX4_holdsAt_29 : decode cX4_holdsAt 29 = .ok (.if_icmp .ge 40, 3) := by decide +kernel
theorem dX4_holdsAt_32 : decode cX4_holdsAt 32 = .ok (.aload_n 0, 1) := by decide +kernel
theorem dX4_holdsAt_33 : decode cX4_holdsAt 33 = .ok (.getfield 37, 3) := by decide +kernel
theorem dX4_holdsAt_36 : decode cX4_holdsAt 36 = .ok (.aload_n 0, 1) := by decide +kernel
theorem dX4_holdsAt_37 : decode cX4_holdsAt 37 = .ok (.getfield 24, 3) := by decide +kernel
theorem dX4_holdsAt_40 : decode cX4_holdsAt 40 = .ok (.iload_n 3, 1) := by decide +kernel
theorem dX4_holdsAt_41 : decode cX4_holdsAt 41 = .ok (.iaload, 1) := by decide +kernel
theorem dX4_holdsAt_42 : decode cX4_holdsAt 42 = .ok (.iaload, 1) := by decide +kernel
theorem dX4_holdsAt_43 : decode cX4_holdsAt 43 = .ok (.aload_n 0, 1) := by decide +kernel
theorem dX4_holdsAt_44 : decode cX4_holdsAt 44 = .ok (.getfield 27, 3) := by decide +kernel
theorem dX4_holdsAt_47 : decode cX4_holdsAt 47 = .ok (.iload_n 3, 1) := by decide +kernel
theorem dX4_holdsAt_48 : decode cX4_holdsAt 48 = .ok (.iaload, 1) := by decide +kernel
theorem dX4_holdsAt_49 : decode cX4_holdsAt 49 = .ok (.aload_n 0, 1) := by decide +kernel
theorem dX4_holdsAt_50 : decode cX4_holdsAt 50 = .ok (.getfield 30, 3) := by decide +kernel
theorem dX4_holdsAt_53 : decode cX4_holdsAt 53 = .ok (.iload_n 3, 1) := by decide +kernel
theorem dX4_holdsAt_54 : decode cX4_holdsAt 54 = .ok (.iaload, 1) := by decide +kernel
theorem dX4_holdsAt_55 : decode cX4_holdsAt 55 = .ok (.invokestatic 50, 3) := by decide +kernel
theorem dX4_holdsAt_58 : decode cX4_holdsAt 58 = .ok (.ifCond .ne 5, 3) := by decide +kernel
theorem dX4_holdsAt_61 : decode cX4_holdsAt 61 = .ok (.iconst 0, 1) := by decide +kernel
theorem dX4_holdsAt_62 : decode cX4_holdsAt 62 = .ok (.ireturn, 1) := by decide +kernel
theorem dX4_holdsAt_63 : decode cX4_holdsAt 63 = .ok (.iinc 3 1, 3) := by decide +kernel
theorem dX4_holdsAt_66 : decode cX4_holdsAt 66 = .ok (.goto (-49), 3) := by decide +kernel
theorem dX4_holdsAt_69 : decode cX4_holdsAt 69 = .ok (.iconst 1, 1) := by decide +kernel
theorem dX4_holdsAt_70 : decode cX4_holdsAt 70 = .ok (.ireturn, 1) := by decide +kernel
theorem dX4_isSo_0 : decode cX4_isSo 0 = .ok (.iload_n 1, 1) := by decide +kernel
theorem dX4_isSo_1 : decode cX4_isSo 1 = .ok (.bipush 60, 2) := by decide +kernel
theorem dX4_isSo_3 : decode cX4_isSo 3 = .ok (.if_icmp .ne 14, 3) := by decide +kernel
theorem dX4_isSo_6 : decode cX4_isSo 6 = .ok (.iload_n 0, 1) := by decide +kernel
theorem dX4_isSo_7 : decode cX4_isSo 7 = .ok (.iload_n 2, 1) := by decide +kernel
theorem dX4_isSo_8 : decode cX4_isSo 8 = .ok (.if_icmp .ge 7, 3) := by decide +kernel
theorem dX4_isSo_11 : decode cX4_isSo 11 = .ok (.iconst 1, 1) := by decide +kernel
theorem dX4_isSo_12 : decode cX4_isSo 12 = .ok (.goto 4, 3) := by decide +kernel
theorem dX4_isSo_15 : decode cX4_isSo 15 = .ok (.iconst 0, 1) := by decide +kernel
theorem dX4_isSo_16 : decode cX4_isSo 16 = .ok (.ireturn, 1) := by decide +kernel
theorem dX4_isSo_17 : decode cX4_isSo 17 = .ok (.iload_n 1, 1) := by decide +kernel
theorem dX4_isSo_18 : decode cX4_isSo 18 = .ok (.bipush 62, 2) := by decide +kernel
theorem dX4_isSo_20 : decode cX4_isSo 20 = .ok (.if_icmp .ne 16, 3) := by decide +kernel
theorem dX4_isSo_23 : decode cX4_isSo 23 = .ok (.iload_n 0, 1) := by decide +kernel
theorem dX4_isSo_24 : decode cX4_isSo 24 = .ok (.iload_n 2, 1) := by decide +kernel
theorem dX4_isSo_25 : decode cX4_isSo 25 = .ok (.if_icmp .le 7, 3) := by decide +kernel
theorem dX4_isSo_28 : decode cX4_isSo 28 = .ok (.iconst 1, 1) := by decide +kernel
theorem dX4_isSo_29 : decode cX4_isSo 29 = .ok (.goto 17, 3) := by decide +kernel
theorem dX4_isSo_32 : decode cX4_isSo 32 = .ok (.iconst 0, 1) := by decide +kernel
theorem dX4_isSo_33 : decode cX4_isSo 33 = .ok (.goto 13, 3) := by decide +kernel
theorem dX4_isSo_36 : decode cX4_isSo 36 = .ok (.iload_n 0, 1) := by decide +kernel
theorem dX4_isSo_37 : decode cX4_isSo 37 = .ok (.iload_n 2, 1) := by decide +kernel
theorem dX4_isSo_38 : decode cX4_isSo 38 = .ok (.if_icmp .ne 7, 3) := by decide +kernel
theorem dX4_isSo_41 : decode cX4_isSo 41 = .ok (.iconst 1, 1) := by decide +kernel
theorem dX4_isSo_42 : decode cX4_isSo 42 = .ok (.goto 4, 3) := by decide +kernel
theorem dX4_isSo_45 : decode cX4_isSo 45 = .ok (.iconst 0, 1) := by decide +kernel
theorem dX4_isSo_46 : decode cX4_isSo 46 = .ok (.ireturn, 1) := by decide +kernel
theorem dX5_init_0 : decode cX5_init 0 = .ok (.aload_n 0, 1) := by decide +kernel
theorem dX5_init_1 : decode cX5_init 1 = .ok (.invokespecial 3, 3) := by decide +kernel
theorem dX5_init_4 : decode cX5_init 4 = .ok (.aload_n 0, 1) := by decide +kernel
theorem dX5_init_5 : decode cX5_init 5 = .ok (.bipush 100, 2) := by decide +kernel
theorem dX5_init_7 : decode cX5_init 7 = .ok (.newarray .int, 2) := by decide +kernel
theorem dX5_init_9 : decode cX5_init 9 = .ok (.putfield 11, 3) := by decide +kernel
theorem dX5_init_12 : decode cX5_init 12 = .ok (.return_, 1) := by decide +kernel
theorem dX5_addFour_0 : decode cX5_addFour 0 = .ok (.aload_n 0, 1) := by decide +kernel
theorem dX5_addFour_1 : decode cX5_addFour 1 = .ok (.getfield 15, 3) := by decide +kernel
theorem dX5_addFour_4 : decode cX5_addFour 4 = .ok (.iconst 4, 1) := by decide +kernel
theorem dX5_addFour_5 : decode cX5_addFour 5 = .ok (.iadd, 1) := by decide +kernel
theorem dX5_addFour_6 : decode cX5_addFour 6 = .ok (.bipush 100, 2) := by decide +kernel
theorem dX5_addFour_8 : decode cX5_addFour 8 = .ok (.if_icmp .le 5, 3) := by decide +kernel
theorem dX5_addFour_11 : decode cX5_addFour 11 = .ok (.iconst (-1), 1) := by decide +kernel
theorem dX5_addFour_12 : decode cX5_addFour 12 = .ok (.ireturn, 1) := by decide +kernel
theorem dX5_addFour_13 : decode cX5_addFour 13 = .ok (.bipush 24, 2) := by decide +kernel
theorem dX5_addFour_15 : decode cX5_addFour 15 = .ok (.istore_n 2, 1) := by decide +kernel
theorem dX5_addFour_16 : decode cX5_addFour 16 = .ok (.iload_n 2, 1) := by decide +kernel
theorem dX5_addFour_17 : decode cX5_addFour 17 = .ok (.ifCond .lt 35, 3) := by decide +kernel
theorem dX5_addFour_20 : decode cX5_addFour 20 = .ok (.aload_n 0, 1) := by decide +kernel
theorem dX5_addFour_21 : decode cX5_addFour 21 = .ok (.getfield 11, 3) := by decide +kernel
theorem dX5_addFour_24 : decode cX5_addFour 24 = .ok (.aload_n 0, 1) := by decide +kernel
theorem dX5_addFour_25 : decode cX5_addFour 25 = .ok (.getfield 15, 3) := by decide +kernel
theorem dX5_addFour_28 : decode cX5_addFour 28 = .ok (.iload_n 1, 1) := by decide +kernel
theorem dX5_addFour_29 : decode cX5_addFour 29 = .ok (.iload_n 2, 1) := by decide +kernel
theorem dX5_addFour_30 : decode cX5_addFour 30 = .ok (.iushr, 1) := by decide +kernel
theorem dX5_addFour_31 : decode cX5_addFour 31 = .ok (.sipush 255, 3) := by decide +kernel
theorem dX5_addFour_34 : decode cX5_addFour 34 = .ok (.iand, 1) := by decide +kernel
theorem dX5_addFour_35 : decode cX5_addFour 35 = .ok (.iastore, 1) := by decide +kernel
theorem dX5_addFour_36 : decode cX5_addFour 36 = .ok (.aload_n 0, 1) := by decide +kernel
theorem dX5_addFour_37 : decode cX5_addFour 37 = .ok (.dup, 1) := by decide +kernel
theorem dX5_addFour_38 : decode cX5_addFour 38 = .ok (.getfield 15, 3) := by decide +kernel
theorem dX5_addFour_41 : decode cX5_addFour 41 = .ok (.iconst 1, 1) := by decide +kernel
theorem dX5_addFour_42 : decode cX5_addFour 42 = .ok (.iadd, 1) := by decide +kernel
theorem dX5_addFour_43 : decode cX5_addFour 43 = .ok (.putfield 15, 3) := by decide +kernel
theorem dX5_addFour_46 : decode cX5_addFour 46 = .ok (.iinc 2 (-8), 3) := by decide +kernel
theorem dX5_addFour_49 : decode cX5_addFour 49 = .ok (.goto (-33), 3) := by decide +kernel
theorem dX5_addFour_52 : decode cX5_addFour 52 = .ok (.aload_n 0, 1) := by decide +kernel
theorem dX5_addFour_53 : decode cX5_addFour 53 = .ok (.getfield 15, 3) := by decide +kernel
theorem dX5_addFour_56 : decode cX5_addFour 56 = .ok (.ireturn, 1) := by decide +kernel
theorem dX5_signAt_0 : decode cX5_signAt 0 = .ok (.iload_n 1, 1) := by decide +kernel
theorem dX5_signAt_1 : decode cX5_signAt 1 = .ok (.ifCond .lt 20, 3) := by decide +kernel
theorem dX5_signAt_4 : decode cX5_signAt 4 = .ok (.iload_n 1, 1) := by decide +kernel
theorem dX5_signAt_5 : decode cX5_signAt 5 = .ok (.aload_n 0, 1) := by decide +kernel
theorem dX5_signAt_6 : decode cX5_signAt 6 = .ok (.getfield 15, 3) := by decide +kernel
theorem dX5_signAt_9 : decode cX5_signAt 9 = .ok (.if_icmp .ge 12, 3) := by decide +kernel
theorem dX5_signAt_12 : decode cX5_signAt 12 = .ok (.aload_n 0, 1) := by decide +kernel
theorem dX5_signAt_13 : decode cX5_signAt 13 = .ok (.getfield 11, 3) := by decide +kernel
theorem dX5_signAt_16 : decode cX5_signAt 16 = .ok (.iload_n 1, 1) := by decide +kernel
theorem dX5_signAt_17 : decode cX5_signAt 17 = .ok (.iaload, 1) := by decide +kernel
theorem dX5_signAt_18 : decode cX5_signAt 18 = .ok (.goto 4, 3) := by decide +kernel
theorem dX5_signAt_21 : decode cX5_signAt 21 = .ok (.iconst (-1), 1) := by decide +kernel
theorem dX5_signAt_22 : decode cX5_signAt 22 = .ok (.ireturn, 1) := by decide +kernel
theorem dX6_init_0 : decode cX6_init 0 = .ok (.aload_n 0, 1) := by decide +kernel
theorem dX6_init_1 : decode cX6_init 1 = .ok (.invokespecial 3, 3) := by decide +kernel
theorem dX6_init_4 : decode cX6_init 4 = .ok (.aload_n 0, 1) := by decide +kernel
theorem dX6_init_5 : decode cX6_init 5 = .ok (.bipush 12, 2) := by decide +kernel
theorem dX6_init_7 : decode cX6_init 7 = .ok (.newarray .int, 2) := by decide +kernel
theorem dX6_init_9 : decode cX6_init 9 = .ok (.putfield 11, 3) := by decide +kernel
theorem dX6_init_12 : decode cX6_init 12 = .ok (.aload_n 0, 1) := by decide +kernel
theorem dX6_init_13 : decode cX6_init 13 = .ok (.bipush 12, 2) := by decide +kernel
theorem dX6_init_15 : decode cX6_init 15 = .ok (.newarray .int, 2) := by decide +kernel
theorem dX6_init_17 : decode cX6_init 17 = .ok (.putfield 15, 3) := by decide +kernel
theorem dX6_init_20 : decode cX6_init 20 = .ok (.aload_n 0, 1) := by decide +kernel
theorem dX6_init_21 : decode cX6_init 21 = .ok (.bipush 12, 2) := by decide +kernel
theorem dX6_init_23 : decode cX6_init 23 = .ok (.newarray .int, 2) := by decide +kernel
theorem dX6_init_25 : decode cX6_init 25 = .ok (.putfield 18, 3) := by decide +kernel
theorem dX6_init_28 : decode cX6_init 28 = .ok (.return_, 1) := by decide +kernel
theorem dX6_has_0 : decode cX6_has 0 = .ok (.iload_n 1, 1) := by decide +kernel
theorem dX6_has_1 : decode cX6_has 1 = .ok (.ifCond .lt 15, 3) := by decide +kernel
theorem dX6_has_4 : decode cX6_has 4 = .ok (.iload_n 1, 1) := by decide +kernel
theorem dX6_has_5 : decode cX6_has 5 = .ok (.aload_n 0, 1) := by decide +kernel
theorem dX6_has_6 : decode cX6_has 6 = .ok (.getfield 21, 3) := by decide +kernel
theorem dX6_has_9 : decode cX6_has 9 = .ok (.if_icmp .ge 7, 3) := by decide +kernel
theorem dX6_has_12 : decode cX6_has 12 = .ok (.iconst 1, 1) := by decide +kernel
theorem dX6_has_13 : decode cX6_has 13 = .ok (.goto 4, 3) := by decide +kernel
theorem dX6_has_16 : decode cX6_has 16 = .ok (.iconst 0, 1) := by decide +kernel
theorem dX6_has_17 : decode cX6_has 17 = .ok (.ireturn, 1) := by decide +kernel
theorem dX6_plant_0 : decode cX6_plant 0 = .ok (.aload_n 0, 1) := by decide +kernel
theorem dX6_plant_1 : decode cX6_plant 1 = .ok (.getfield 21, 3) := by decide +kernel
theorem dX6_plant_4 : decode cX6_plant 4 = .ok (.bipush 12, 2) := by decide +kernel
theorem dX6_plant_6 : decode cX6_plant 6 = .ok (.if_icmp .lt 5, 3) := by decide +kernel
theorem dX6_plant_9 : decode cX6_plant 9 = .ok (.iconst (-1), 1) := by decide +kernel
theorem dX6_plant_10 : decode cX6_plant 10 = .ok (.ireturn, 1) := by decide +kernel
theorem dX6_plant_11 : decode cX6_plant 11 = .ok (.aload_n 0, 1) := by decide +kernel
theorem dX6_plant_12 : decode cX6_plant 12 = .ok (.getfield 11, 3) := by decide +kernel
theorem dX6_plant_15 : decode cX6_plant 15 = .ok (.aload_n 0, 1) := by decide +kernel
theorem dX6_plant_16 : decode cX6_plant 16 = .ok (.getfield 21, 3) := by decide +kernel
theorem dX6_plant_19 : decode cX6_plant 19 = .ok (.iload_n 1, 1) := by decide +kernel
theorem dX6_plant_20 : decode cX6_plant 20 = .ok (.iastore, 1) := by decide +kernel
theorem dX6_plant_21 : decode cX6_plant 21 = .ok (.aload_n 0, 1) := by decide +kernel
theorem dX6_plant_22 : decode cX6_plant 22 = .ok (.getfield 15, 3) := by decide +kernel
theorem dX6_plant_25 : decode cX6_plant 25 = .ok (.aload_n 0, 1) := by decide +kernel
theorem dX6_plant_26 : decode cX6_plant 26 = .ok (.getfield 21, 3) := by decide +kernel
theorem dX6_plant_29 : decode cX6_plant 29 = .ok (.iload_n 2, 1) := by decide +kernel
theorem dX6_plant_30 : decode cX6_plant 30 = .ok (.iastore, 1) := by decide +kernel
theorem dX6_plant_31 : decode cX6_plant 31 = .ok (.aload_n 0, 1) := by decide +kernel
theorem dX6_plant_32 : decode cX6_plant 32 = .ok (.getfield 18, 3) := by decide +kernel
theorem dX6_plant_35 : decode cX6_plant 35 = .ok (.aload_n 0, 1) := by decide +kernel
theorem dX6_plant_36 : decode cX6_plant 36 = .ok (.getfield 21, 3) := by decide +kernel
theorem dX6_plant_39 : decode cX6_plant 39 = .ok (.iload_n 3, 1) := by decide +kernel
theorem dX6_plant_40 : decode cX6_plant 40 = .ok (.iastore, 1) := by decide +kernel
theorem dX6_plant_41 : decode cX6_plant 41 = .ok (.aload_n 0, 1) := by decide +kernel
theorem dX6_plant_42 : decode cX6_plant 42 = .ok (.dup, 1) := by decide +kernel
theorem dX6_plant_43 : decode cX6_plant 43 = .ok (.getfield 21, 3) := by decide +kernel
theorem dX6_plant_46 : decode cX6_plant 46 = .ok (.iconst 1, 1) := by decide +kernel
theorem dX6_plant_47 : decode cX6_plant 47 = .ok (.iadd, 1) := by decide +kernel
theorem dX6_plant_48 : decode cX6_plant 48 = .ok (.putfield 21, 3) := by decide +kernel
theorem dX6_plant_51 : decode cX6_plant 51 = .ok (.aload_n 0, 1) := by decide +kernel
theorem dX6_plant_52 : decode cX6_plant 52 = .ok (.getfield 21, 3) := by decide +kernel
theorem dX6_plant_55 : decode cX6_plant 55 = .ok (.iconst 1, 1) := by decide +kernel
theorem dX6_plant_56 : decode cX6_plant 56 = .ok (.isub, 1) := by decide +kernel
theorem dX6_plant_57 : decode cX6_plant 57 = .ok (.ireturn, 1) := by decide +kernel
theorem dX6_grow_0 : decode cX6_grow 0 = .ok (.iconst 0, 1) := by decide +kernel
theorem dX6_grow_1 : decode cX6_grow 1 = .ok (.istore_n 2, 1) := by decide +kernel
theorem dX6_grow_2 : decode cX6_grow 2 = .ok (.iload_n 2, 1) := by decide +kernel
theorem dX6_grow_3 : decode cX6_grow 3 = .ok (.aload_n 0, 1) := by decide +kernel
theorem dX6_grow_4 : decode cX6_grow 4 = .ok (.getfield 21, 3) := by decide +kernel
theorem dX6_grow_7 : decode cX6_grow 7 = .ok (.if_icmp .ge 29, 3) := by decide +kernel
theorem dX6_grow_10 : decode cX6_grow 10 = .ok (.aload_n 0, 1) := by decide +kernel
theorem dX6_grow_11 : decode cX6_grow 11 = .ok (.getfield 11, 3) := by decide +kernel
theorem dX6_grow_14 : decode cX6_grow 14 = .ok (.iload_n 2, 1) := by decide +kernel
theorem dX6_grow_15 : decode cX6_grow 15 = .ok (.sipush 10000, 3) := by decide +kernel
theorem dX6_grow_18 : decode cX6_grow 18 = .ok (.aload_n 0, 1) := by decide +kernel
theorem dX6_grow_19 : decode cX6_grow 19 = .ok (.getfield 11, 3) := by decide +kernel
theorem dX6_grow_22 : decode cX6_grow 22 = .ok (.iload_n 2, 1) := by decide +kernel
theorem dX6_grow_23 : decode cX6_grow 23 = .ok (.iaload, 1) := by decide +kernel
theorem dX6_grow_24 : decode cX6_grow 24 = .ok (.iload_n 1, 1) := by decide +kernel
theorem dX6_grow_25 : decode cX6_grow 25 = .ok (.iadd, 1) := by decide +kernel
theorem dX6_grow_26 : decode cX6_grow 26 = .ok (.invokestatic 25, 3) := by decide +kernel
theorem dX6_grow_29 : decode cX6_grow 29 = .ok (.iastore, 1) := by decide +kernel
theorem dX6_grow_30 : decode cX6_grow 30 = .ok (.iinc 2 1, 3) := by decide +kernel
theorem dX6_grow_33 : decode cX6_grow 33 = .ok (.goto (-31), 3) := by decide +kernel
theorem dX6_grow_36 : decode cX6_grow 36 = .ok (.return_, 1) := by decide +kernel
theorem dX6_yearsLeft_0 : decode cX6_yearsLeft 0 = .ok (.iconst 0, 1) := by decide +kernel
theorem dX6_yearsLeft_1 : decode cX6_yearsLeft 1 = .ok (.aload_n 0, 1) := by decide +kernel
theorem dX6_yearsLeft_2 : decode cX6_yearsLeft 2 = .ok (.getfield 15, 3) := by decide +kernel
theorem dX6_yearsLeft_5 : decode cX6_yearsLeft 5 = .ok (.iload_n 1, 1) := by decide +kernel
theorem dX6_yearsLeft_6 : decode cX6_yearsLeft 6 = .ok (.iaload, 1) := by decide +kernel
theorem dX6_yearsLeft_7 : decode cX6_yearsLeft 7 = .ok (.aload_n 0, 1) := by decide +kernel
theorem dX6_yearsLeft_8 : decode cX6_yearsLeft 8 = .ok (.getfield 11, 3) := by decide +kernel
theorem dX6_yearsLeft_11 : decode cX6_yearsLeft 11 = .ok (.iload_n 1, 1) := by decide +kernel
theorem dX6_yearsLeft_12 : decode cX6_yearsLeft 12 = .ok (.iaload, 1) := by decide +kernel
theorem dX6_yearsLeft_13 : decode cX6_yearsLeft 13 = .ok (.isub, 1) := by decide +kernel
theorem dX6_yearsLeft_14 : decode cX6_yearsLeft 14 = .ok (.invokestatic 31, 3) := by decide +kernel
theorem dX6_yearsLeft_17 : decode cX6_yearsLeft 17 = .ok (.ireturn, 1) := by decide +kernel
set_option maxRecDepth 20000 in
theorem ggX6_choose_X6_ripeOnes : GoodIn wsX6_choose wsX6_ripeOnes := goodIn_r _ [5, 6, 7, 8, 9, 4, 10, 11, 12, 13, 14, 15, 16, 41, 42, 43, 44] (by decide +kernel) (by decide +kernel)
set_option maxRecDepth 20000 in
theorem gX6_choose_X6_ripeOnes : GoodIn wsX6_choose (wsV RX6 34 RX6 yX6_ripeOnes wsX6_ripeOnes) := goodIn_app (goodIn_of _ (by decide +kernel)) ggX6_choose_X6_ripeOnes
set_option maxRecDepth 20000 in
theorem ggX6_choose_X6_fewestOf : GoodIn wsX6_choose wsX6_fewestOf := goodIn_r _ [20, 6, 21, 22, 23, 24, 4, 25, 41, 42, 43, 44] (by decide +kernel) (by decide +kernel)
set_option maxRecDepth 20000 in
theorem gX6_choose_X6_fewestOf : GoodIn wsX6_choose (wsV RX6 38 RX6 yX6_fewestOf wsX6_fewestOf) := goodIn_app (goodIn_of _ (by decide +kernel)) ggX6_choose_X6_fewestOf
set_option maxRecDepth 20000 in
theorem ggX6_choose_X6_leastOf : GoodIn wsX6_choose wsX6_leastOf := goodIn_r _ [29, 6, 30, 31, 32, 33, 34, 35, 36, 37, 38, 39, 4, 40, 21, 41, 42, 43, 44] (by decide +kernel) (by decide +kernel)
set_option maxRecDepth 20000 in
theorem gX6_choose_X6_leastOf : GoodIn wsX6_choose (wsV RX6 41 RX6 yX6_leastOf wsX6_leastOf) := goodIn_app (goodIn_of _ (by decide +kernel)) ggX6_choose_X6_leastOf
theorem dX6_choose_0 : decode cX6_choose 0 = .ok (.aload_n 0, 1) := by decide +kernel
theorem dX6_choose_1 : decode cX6_choose 1 = .ok (.invokevirtual 34, 3) := by decide +kernel
theorem dX6_choose_4 : decode cX6_choose 4 = .ok (.istore_n 2, 1) := by decide +kernel
theorem dX6_choose_5 : decode cX6_choose 5 = .ok (.aload_n 0, 1) := by decide +kernel
theorem dX6_choose_6 : decode cX6_choose 6 = .ok (.iload_n 2, 1) := by decide +kernel
theorem dX6_choose_7 : decode cX6_choose 7 = .ok (.iload_n 1, 1) := by decide +kernel
theorem dX6_choose_8 : decode cX6_choose 8 = .ok (.invokevirtual 38, 3) := by decide +kernel
theorem dX6_choose_11 : decode cX6_choose 11 = .ok (.istore_n 3, 1) := by decide +kernel
theorem dX6_choose_12 : decode cX6_choose 12 = .ok (.iload_n 3, 1) := by decide +kernel
theorem dX6_choose_13 : decode cX6_choose 13 = .ok (.iconst (-1), 1) := by decide +kernel
theorem dX6_choose_14 : decode cX6_choose 14 = .ok (.if_icmp .ne 8, 3) := by decide +kernel
theorem dX6_choose_17 : decode cX6_choose 17 = .ok (.bipush (-3), 2) := by decide +kernel
theorem dX6_choose_19 : decode cX6_choose 19 = .ok (.goto 10, 3) := by decide +kernel
theorem dX6_choose_22 : decode cX6_choose 22 = .ok (.aload_n 0, 1) := by decide +kernel
theorem dX6_choose_23 : decode cX6_choose 23 = .ok (.iload_n 2, 1) := by decide +kernel
theorem dX6_choose_24 : decode cX6_choose 24 = .ok (.iload_n 3, 1) := by decide +kernel
theorem dX6_choose_25 : decode cX6_choose 25 = .ok (.iload_n 1, 1) := by decide +kernel
theorem dX6_choose_26 : decode cX6_choose 26 = .ok (.invokevirtual 41, 3) := by decide +kernel
theorem dX6_choose_29 : decode cX6_choose 29 = .ok (.ireturn, 1) := by decide +kernel
set_option maxRecDepth 20000 in
theorem ggX6_ripeOnes_X6_yearsLeft : GoodIn wsX6_ripeOnes wsX6_yearsLeft := goodIn_r _ [6, 7, 8, 9, 10, 11, 12, 13, 14, 15, 16] (by decide +kernel) (by decide +kernel)
set_option maxRecDepth 20000 in
theorem gX6_ripeOnes_X6_yearsLeft : GoodIn wsX6_ripeOnes (wsV RX6 45 RX6 yX6_yearsLeft wsX6_yearsLeft) := goodIn_app (goodIn_of _ (by decide +kernel)) ggX6_ripeOnes_X6_yearsLeft
theorem dX6_ripeOnes_0 : decode cX6_ripeOnes 0 = .ok (.iconst 0, 1) := by decide +kernel
theorem dX6_ripeOnes_1 : decode cX6_ripeOnes 1 = .ok (.istore_n 1, 1) := by decide +kernel
theorem dX6_ripeOnes_2 : decode cX6_ripeOnes 2 = .ok (.iconst 0, 1) := by decide +kernel
theorem dX6_ripeOnes_3 : decode cX6_ripeOnes 3 = .ok (.istore_n 2, 1) := by decide +kernel
theorem dX6_ripeOnes_4 : decode cX6_ripeOnes 4 = .ok (.iload_n 2, 1) := by decide +kernel
theorem dX6_ripeOnes_5 : decode cX6_ripeOnes 5 = .ok (.aload_n 0, 1) := by decide +kernel
theorem dX6_ripeOnes_6 : decode cX6_ripeOnes 6 = .ok (.getfield 21, 3) := by decide +kernel
theorem dX6_ripeOnes_9 : decode cX6_ripeOnes 9 = .ok (.if_icmp .ge 23, 3) := by decide +kernel
theorem dX6_ripeOnes_12 : decode cX6_ripeOnes 12 = .ok (.aload_n 0, 1) := by decide +kernel
theorem dX6_ripeOnes_13 : decode cX6_ripeOnes 13 = .ok (.iload_n 2, 1) := by decide +kernel
theorem dX6_ripeOnes_14 : decode cX6_ripeOnes 14 = .ok (.invokevirtual 45, 3) := by decide +kernel
theorem dX6_ripeOnes_17 : decode cX6_ripeOnes 17 = .ok (.ifCond .ne 9, 3) := by decide +kernel
theorem dX6_ripeOnes_20 : decode cX6_ripeOnes 20 = .ok (.iload_n 1, 1) := by decide +kernel
theorem dX6_ripeOnes_21 : decode cX6_ripeOnes 21 = .ok (.iconst 1, 1) := by decide +kernel
theorem dX6_ripeOnes_22 : decode cX6_ripeOnes 22 = .ok (.iload_n 2, 1) := by decide +kernel
theorem dX6_ripeOnes_23 : decode cX6_ripeOnes 23 = .ok (.ishl, 1) := by decide +kernel
theorem dX6_ripeOnes_24 : decode cX6_ripeOnes 24 = .ok (.ior, 1) := by decide +kernel
theorem dX6_ripeOnes_25 : decode cX6_ripeOnes 25 = .ok (.istore_n 1, 1) := by decide +kernel
theorem dX6_ripeOnes_26 : decode cX6_ripeOnes 26 = .ok (.iinc 2 1, 3) := by decide +kernel
theorem dX6_ripeOnes_29 : decode cX6_ripeOnes 29 = .ok (.goto (-25), 3) := by decide +kernel
theorem dX6_ripeOnes_32 : decode cX6_ripeOnes 32 = .ok (.iload_n 1, 1) := by decide +kernel
theorem dX6_ripeOnes_33 : decode cX6_ripeOnes 33 = .ok (.ireturn, 1) := by decide +kernel
set_option maxRecDepth 20000 in
theorem ggX6_fewestOf_X6_greatestOf : GoodIn wsX6_fewestOf wsX6_greatestOf := goodIn_r _ [7, 1, 2, 8, 9, 10, 11] (by decide +kernel) (by decide +kernel)
set_option maxRecDepth 20000 in
theorem gX6_fewestOf_X6_greatestOf : GoodIn wsX6_fewestOf (wsV RX6 49 RX6 yX6_greatestOf wsX6_greatestOf) := goodIn_app (goodIn_of _ (by decide +kernel)) ggX6_fewestOf_X6_greatestOf
theorem dX6_fewestOf_0 : decode cX6_fewestOf 0 = .ok (.iload_n 1, 1) := by decide +kernel
theorem dX6_fewestOf_1 : decode cX6_fewestOf 1 = .ok (.istore_n 3, 1) := by decide +kernel
theorem dX6_fewestOf_2 : decode cX6_fewestOf 2 = .ok (.iconst 0, 1) := by decide +kernel
theorem dX6_fewestOf_3 : decode cX6_fewestOf 3 = .ok (.istore 4, 2) := by decide +kernel
theorem dX6_fewestOf_5 : decode cX6_fewestOf 5 = .ok (.iconst 1, 1) := by decide +kernel
theorem dX6_fewestOf_6 : decode cX6_fewestOf 6 = .ok (.istore 5, 2) := by decide +kernel
theorem dX6_fewestOf_8 : decode cX6_fewestOf 8 = .ok (.iload 5, 2) := by decide +kernel
theorem dX6_fewestOf_10 : decode cX6_fewestOf 10 = .ok (.aload_n 0, 1) := by decide +kernel
theorem dX6_fewestOf_11 : decode cX6_fewestOf 11 = .ok (.getfield 21, 3) := by decide +kernel
theorem dX6_fewestOf_14 : decode cX6_fewestOf 14 = .ok (.if_icmp .gt 50, 3) := by decide +kernel
theorem dX6_fewestOf_17 : decode cX6_fewestOf 17 = .ok (.iload_n 3, 1) := by decide +kernel
theorem dX6_fewestOf_18 : decode cX6_fewestOf 18 = .ok (.ifCond .eq 46, 3) := by decide +kernel
theorem dX6_fewestOf_21 : decode cX6_fewestOf 21 = .ok (.aload_n 0, 1) := by decide +kernel
theorem dX6_fewestOf_22 : decode cX6_fewestOf 22 = .ok (.iload_n 3, 1) := by decide +kernel
theorem dX6_fewestOf_23 : decode cX6_fewestOf 23 = .ok (.invokevirtual 49, 3) := by decide +kernel
theorem dX6_fewestOf_26 : decode cX6_fewestOf 26 = .ok (.istore 6, 2) := by decide +kernel
theorem dX6_fewestOf_28 : decode cX6_fewestOf 28 = .ok (.iload 4, 2) := by decide +kernel
theorem dX6_fewestOf_30 : decode cX6_fewestOf 30 = .ok (.aload_n 0, 1) := by decide +kernel
theorem dX6_fewestOf_31 : decode cX6_fewestOf 31 = .ok (.getfield 18, 3) := by decide +kernel
theorem dX6_fewestOf_34 : decode cX6_fewestOf 34 = .ok (.iload 6, 2) := by decide +kernel
theorem dX6_fewestOf_36 : decode cX6_fewestOf 36 = .ok (.iaload, 1) := by decide +kernel
theorem dX6_fewestOf_37 : decode cX6_fewestOf 37 = .ok (.iadd, 1) := by decide +kernel
theorem dX6_fewestOf_38 : decode cX6_fewestOf 38 = .ok (.istore 4, 2) := by decide +kernel
theorem dX6_fewestOf_40 : decode cX6_fewestOf 40 = .ok (.iload_n 3, 1) := by decide +kernel
theorem dX6_fewestOf_41 : decode cX6_fewestOf 41 = .ok (.iconst 1, 1) := by decide +kernel
theorem dX6_fewestOf_42 : decode cX6_fewestOf 42 = .ok (.iload 6, 2) := by decide +kernel
theorem dX6_fewestOf_44 : decode cX6_fewestOf 44 = .ok (.ishl, 1) := by decide +kernel
theorem dX6_fewestOf_45 : decode cX6_fewestOf 45 = .ok (.iconst (-1), 1) := by decide +kernel
theorem dX6_fewestOf_46 : decode cX6_fewestOf 46 = .ok (.ixor, 1) := by decide +kernel
theorem dX6_fewestOf_47 : decode cX6_fewestOf 47 = .ok (.iand, 1) := by decide +kernel
theorem dX6_fewestOf_48 : decode cX6_fewestOf 48 = .ok (.istore_n 3, 1) := by decide +kernel
theorem dX6_fewestOf_49 : decode cX6_fewestOf 49 = .ok (.iload 4, 2) := by decide +kernel
theorem dX6_fewestOf_51 : decode cX6_fewestOf 51 = .ok (.iload_n 2, 1) := by decide +kernel
theorem dX6_fewestOf_52 : decode cX6_fewestOf 52 = .ok (.if_icmp .lt 6, 3) := by decide +kernel
theorem dX6_fewestOf_55 : decode cX6_fewestOf 55 = .ok (.iload 5, 2) := by decide +kernel
theorem dX6_fewestOf_57 : decode cX6_fewestOf 57 = .ok (.ireturn, 1) := by decide +kernel
theorem dX6_fewestOf_58 : decode cX6_fewestOf 58 = .ok (.iinc 5 1, 3) := by decide +kernel
theorem dX6_fewestOf_61 : decode cX6_fewestOf 61 = .ok (.goto (-53), 3) := by decide +kernel
theorem dX6_fewestOf_64 : decode cX6_fewestOf 64 = .ok (.iconst (-1), 1) := by decide +kernel
theorem dX6_fewestOf_65 : decode cX6_fewestOf 65 = .ok (.ireturn, 1) := by decide +kernel
theorem dX6_greatestOf_0 : decode cX6_greatestOf 0 = .ok (.iconst 0, 1) := by decide +kernel
theorem dX6_greatestOf_1 : decode cX6_greatestOf 1 = .ok (.istore_n 2, 1) := by decide +kernel
theorem dX6_greatestOf_2 : decode cX6_greatestOf 2 = .ok (.iconst 0, 1) := by decide +kernel
theorem dX6_greatestOf_3 : decode cX6_greatestOf 3 = .ok (.istore_n 3, 1) := by decide +kernel
theorem dX6_greatestOf_4 : decode cX6_greatestOf 4 = .ok (.iconst 0, 1) := by decide +kernel
theorem dX6_greatestOf_5 : decode cX6_greatestOf 5 = .ok (.istore 4, 2) := by decide +kernel
theorem dX6_greatestOf_7 : decode cX6_greatestOf 7 = .ok (.iload 4, 2) := by decide +kernel
theorem dX6_greatestOf_9 : decode cX6_greatestOf 9 = .ok (.aload_n 0, 1) := by decide +kernel
theorem dX6_greatestOf_10 : decode cX6_greatestOf 10 = .ok (.getfield 21, 3) := by decide +kernel
theorem dX6_greatestOf_13 : decode cX6_greatestOf 13 = .ok (.if_icmp .ge 41, 3) := by decide +kernel
theorem dX6_greatestOf_16 : decode cX6_greatestOf 16 = .ok (.iload_n 1, 1) := by decide +kernel
theorem dX6_greatestOf_17 : decode cX6_greatestOf 17 = .ok (.iload 4, 2) := by decide +kernel
theorem dX6_greatestOf_19 : decode cX6_greatestOf 19 = .ok (.ishr, 1) := by decide +kernel
theorem dX6_greatestOf_20 : decode cX6_greatestOf 20 = .ok (.iconst 1, 1) := by decide +kernel
theorem dX6_greatestOf_21 : decode cX6_greatestOf 21 = .ok (.iand, 1) := by decide +kernel
theorem dX6_greatestOf_22 : decode cX6_greatestOf 22 = .ok (.iconst 1, 1) := by decide +kernel
theorem dX6_greatestOf_23 : decode cX6_greatestOf 23 = .ok (.if_icmp .ne 25, 3) := by decide +kernel
theorem dX6_greatestOf_26 : decode cX6_greatestOf 26 = .ok (.aload_n 0, 1) := by decide +kernel
theorem dX6_greatestOf_27 : decode cX6_greatestOf 27 = .ok (.getfield 18, 3) := by decide +kernel
theorem dX6_greatestOf_30 : decode cX6_greatestOf 30 = .ok (.iload 4, 2) := by decide +kernel
theorem dX6_greatestOf_32 : decode cX6_greatestOf 32 = .ok (.iaload, 1) := by decide +kernel
theorem dX6_greatestOf_33 : decode cX6_greatestOf 33 = .ok (.iload_n 3, 1) := by decide +kernel
theorem dX6_greatestOf_34 : decode cX6_greatestOf 34 = .ok (.if_icmp .le 14, 3) := by decide +kernel
theorem dX6_greatestOf_37 : decode cX6_greatestOf 37 = .ok (.iload 4, 2) := by decide +kernel
theorem dX6_greatestOf_39 : decode cX6_greatestOf 39 = .ok (.istore_n 2, 1) := by decide +kernel
theorem dX6_greatestOf_40 : decode cX6_greatestOf 40 = .ok (.aload_n 0, 1) := by decide +kernel
theorem dX6_greatestOf_41 : decode cX6_greatestOf 41 = .ok (.getfield 18, 3) := by decide +kernel
theorem dX6_greatestOf_44 : decode cX6_greatestOf 44 = .ok (.iload 4, 2) := by decide +kernel
theorem dX6_greatestOf_46 : decode cX6_greatestOf 46 = .ok (.iaload, 1) := by decide +kernel
theorem dX6_greatestOf_47 : decode cX6_greatestOf 47 = .ok (.istore_n 3, 1) := by decide +kernel
theorem dX6_greatestOf_48 : decode cX6_greatestOf 48 = .ok (.iinc 4 1, 3) := by decide +kernel
theorem dX6_greatestOf_51 : decode cX6_greatestOf 51 = .ok (.goto (-44), 3) := by decide +kernel
theorem dX6_greatestOf_54 : decode cX6_greatestOf 54 = .ok (.iload_n 2, 1) := by decide +kernel
theorem dX6_greatestOf_55 : decode cX6_greatestOf 55 = .ok (.ireturn, 1) := by decide +kernel
set_option maxRecDepth 20000 in
theorem ggX6_leastOf_J6_bitCount_0f7a4 : GoodIn wsX6_leastOf wsJ6_bitCount_0f7a4 := goodIn_r _ [5, 6, 7, 8] (by decide +kernel) (by decide +kernel)
set_option maxRecDepth 20000 in
theorem gX6_leastOf_J6_bitCount_0f7a4 : GoodIn wsX6_leastOf (va_wsS RX6 52 yJ6_bitCount_0f7a4 wsJ6_bitCount_0f7a4) := goodIn_app (goodIn_of _ (by decide +kernel)) ggX6_leastOf_J6_bitCount_0f7a4
set_option maxRecDepth 20000 in
theorem ggX6_leastOf_X6_loadsOf : GoodIn wsX6_leastOf wsX6_loadsOf := goodIn_r _ [13, 1, 14, 15, 16, 17, 18] (by decide +kernel) (by decide +kernel)
set_option maxRecDepth 20000 in
theorem gX6_leastOf_X6_loadsOf : GoodIn wsX6_leastOf (wsV RX6 57 RX6 yX6_loadsOf wsX6_loadsOf) := goodIn_app (goodIn_of _ (by decide +kernel)) ggX6_leastOf_X6_loadsOf
theorem dX6_leastOf_0 : decode cX6_leastOf 0 = .ok (.iconst 0, 1) := by decide +kernel
theorem dX6_leastOf_1 : decode cX6_leastOf 1 = .ok (.istore 4, 2) := by decide +kernel
theorem dX6_leastOf_3 : decode cX6_leastOf 3 = .ok (.iconst 0, 1) := by decide +kernel
theorem dX6_leastOf_4 : decode cX6_leastOf 4 = .ok (.istore 5, 2) := by decide +kernel
theorem dX6_leastOf_6 : decode cX6_leastOf 6 = .ok (.iconst 1, 1) := by decide +kernel
theorem dX6_leastOf_7 : decode cX6_leastOf 7 = .ok (.istore 6, 2) := by decide +kernel
theorem dX6_leastOf_9 : decode cX6_leastOf 9 = .ok (.iload 6, 2) := by decide +kernel
theorem dX6_leastOf_11 : decode cX6_leastOf 11 = .ok (.iconst 1, 1) := by decide +kernel
theorem dX6_leastOf_12 : decode cX6_leastOf 12 = .ok (.aload_n 0, 1) := by decide +kernel
theorem dX6_leastOf_13 : decode cX6_leastOf 13 = .ok (.getfield 21, 3) := by decide +kernel
theorem dX6_leastOf_16 : decode cX6_leastOf 16 = .ok (.ishl, 1) := by decide +kernel
theorem dX6_leastOf_17 : decode cX6_leastOf 17 = .ok (.if_icmp .ge 61, 3) := by decide +kernel
theorem dX6_leastOf_20 : decode cX6_leastOf 20 = .ok (.iload 6, 2) := by decide +kernel
theorem dX6_leastOf_22 : decode cX6_leastOf 22 = .ok (.iload_n 1, 1) := by decide +kernel
theorem dX6_leastOf_23 : decode cX6_leastOf 23 = .ok (.iconst (-1), 1) := by decide +kernel
theorem dX6_leastOf_24 : decode cX6_leastOf 24 = .ok (.ixor, 1) := by decide +kernel
theorem dX6_leastOf_25 : decode cX6_leastOf 25 = .ok (.iand, 1) := by decide +kernel
theorem dX6_leastOf_26 : decode cX6_leastOf 26 = .ok (.ifCond .ne 46, 3) := by decide +kernel
theorem dX6_leastOf_29 : decode cX6_leastOf 29 = .ok (.iload 6, 2) := by decide +kernel
theorem dX6_leastOf_31 : decode cX6_leastOf 31 = .ok (.invokestatic 52, 3) := by decide +kernel
theorem dX6_leastOf_34 : decode cX6_leastOf 34 = .ok (.iload_n 2, 1) := by decide +kernel
theorem dX6_leastOf_35 : decode cX6_leastOf 35 = .ok (.if_icmp .ne 37, 3) := by decide +kernel
theorem dX6_leastOf_38 : decode cX6_leastOf 38 = .ok (.aload_n 0, 1) := by decide +kernel
theorem dX6_leastOf_39 : decode cX6_leastOf 39 = .ok (.iload 6, 2) := by decide +kernel
theorem dX6_leastOf_41 : decode cX6_leastOf 41 = .ok (.invokevirtual 57, 3) := by decide +kernel
theorem dX6_leastOf_44 : decode cX6_leastOf 44 = .ok (.istore 7, 2) := by decide +kernel
theorem dX6_leastOf_46 : decode cX6_leastOf 46 = .ok (.iload 7, 2) := by decide +kernel
theorem dX6_leastOf_48 : decode cX6_leastOf 48 = .ok (.iload_n 3, 1) := by decide +kernel
theorem dX6_leastOf_49 : decode cX6_leastOf 49 = .ok (.if_icmp .lt 23, 3) := by decide +kernel
theorem dX6_leastOf_52 : decode cX6_leastOf 52 = .ok (.iload 4, 2) := by decide +kernel
theorem dX6_leastOf_54 : decode cX6_leastOf 54 = .ok (.ifCond .eq 10, 3) := by decide +kernel
theorem dX6_leastOf_57 : decode cX6_leastOf 57 = .ok (.iload 7, 2) := by decide +kernel
theorem dX6_leastOf_59 : decode cX6_leastOf 59 = .ok (.iload 5, 2) := by decide +kernel
theorem dX6_leastOf_61 : decode cX6_leastOf 61 = .ok (.if_icmp .ge 11, 3) := by decide +kernel
theorem dX6_leastOf_64 : decode cX6_leastOf 64 = .ok (.iload 6, 2) := by decide +kernel
theorem dX6_leastOf_66 : decode cX6_leastOf 66 = .ok (.istore 4, 2) := by decide +kernel
theorem dX6_leastOf_68 : decode cX6_leastOf 68 = .ok (.iload 7, 2) := by decide +kernel
theorem dX6_leastOf_70 : decode cX6_leastOf 70 = .ok (.istore 5, 2) := by decide +kernel
theorem dX6_leastOf_72 : decode cX6_leastOf 72 = .ok (.iinc 6 1, 3) := by decide +kernel
theorem dX6_leastOf_75 : decode cX6_leastOf 75 = .ok (.goto (-66), 3) := by decide +kernel
theorem dX6_leastOf_78 : decode cX6_leastOf 78 = .ok (.iload 4, 2) := by decide +kernel
theorem dX6_leastOf_80 : decode cX6_leastOf 80 = .ok (.ireturn, 1) := by decide +kernel
theorem dX6_loadsOf_0 : decode cX6_loadsOf 0 = .ok (.iconst 0, 1) := by decide +kernel
theorem dX6_loadsOf_1 : decode cX6_loadsOf 1 = .ok (.istore_n 2, 1) := by decide +kernel
theorem dX6_loadsOf_2 : decode cX6_loadsOf 2 = .ok (.iconst 0, 1) := by decide +kernel
theorem dX6_loadsOf_3 : decode cX6_loadsOf 3 = .ok (.istore_n 3, 1) := by decide +kernel
theorem dX6_loadsOf_4 : decode cX6_loadsOf 4 = .ok (.iload_n 3, 1) := by decide +kernel
theorem dX6_loadsOf_5 : decode cX6_loadsOf 5 = .ok (.aload_n 0, 1) := by decide +kernel
theorem dX6_loadsOf_6 : decode cX6_loadsOf 6 = .ok (.getfield 21, 3) := by decide +kernel
theorem dX6_loadsOf_9 : decode cX6_loadsOf 9 = .ok (.if_icmp .ge 27, 3) := by decide +kernel
theorem dX6_loadsOf_12 : decode cX6_loadsOf 12 = .ok (.iload_n 1, 1) := by decide +kernel
theorem dX6_loadsOf_13 : decode cX6_loadsOf 13 = .ok (.iload_n 3, 1) := by decide +kernel
theorem dX6_loadsOf_14 : decode cX6_loadsOf 14 = .ok (.ishr, 1) := by decide +kernel
theorem dX6_loadsOf_15 : decode cX6_loadsOf 15 = .ok (.iconst 1, 1) := by decide +kernel
theorem dX6_loadsOf_16 : decode cX6_loadsOf 16 = .ok (.iand, 1) := by decide +kernel
theorem dX6_loadsOf_17 : decode cX6_loadsOf 17 = .ok (.iconst 1, 1) := by decide +kernel
theorem dX6_loadsOf_18 : decode cX6_loadsOf 18 = .ok (.if_icmp .ne 12, 3) := by decide +kernel
theorem dX6_loadsOf_21 : decode cX6_loadsOf 21 = .ok (.iload_n 2, 1) := by decide +kernel
theorem dX6_loadsOf_22 : decode cX6_loadsOf 22 = .ok (.aload_n 0, 1) := by decide +kernel
theorem dX6_loadsOf_23 : decode cX6_loadsOf 23 = .ok (.getfield 18, 3) := by decide +kernel
theorem dX6_loadsOf_26 : decode cX6_loadsOf 26 = .ok (.iload_n 3, 1) := by decide +kernel
theorem dX6_loadsOf_27 : decode cX6_loadsOf 27 = .ok (.iaload, 1) := by decide +kernel
theorem dX6_loadsOf_28 : decode cX6_loadsOf 28 = .ok (.iadd, 1) := by decide +kernel
theorem dX6_loadsOf_29 : decode cX6_loadsOf 29 = .ok (.istore_n 2, 1) := by decide +kernel
theorem dX6_loadsOf_30 : decode cX6_loadsOf 30 = .ok (.iinc 3 1, 3) := by decide +kernel
theorem dX6_loadsOf_33 : decode cX6_loadsOf 33 = .ok (.goto (-29), 3) := by decide +kernel
theorem dX6_loadsOf_36 : decode cX6_loadsOf 36 = .ok (.iload_n 2, 1) := by decide +kernel
theorem dX6_loadsOf_37 : decode cX6_loadsOf 37 = .ok (.ireturn, 1) := by decide +kernel
