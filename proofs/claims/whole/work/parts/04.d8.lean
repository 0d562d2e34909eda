set_option maxRecDepth 20000 in
theorem ggX8_init_X5_init : GoodIn wsX8_init wsX5_init := goodIn_r _ [39, 40, 2, 3, 33, 41, 42, 43, 44, 74, 75, 76] (by decide +kernel) (by decide +kernel)
set_option maxRecDepth 20000 in
theorem gX8_init_X5_init : GoodIn wsX8_init (wsX5_init) := ggX8_init_X5_init
set_option maxRecDepth 20000 in
theorem ggX8_init_X3_init : GoodIn wsX8_init wsX3_init := goodIn_r _ [46, 47, 2, 3, 33, 48, 49, 50, 51, 88, 89, 90, 91] (by decide +kernel) (by decide +kernel)
set_option maxRecDepth 20000 in
theorem gX8_init_X3_init_n18 : GoodIn wsX8_init (wsX3_init) := ggX8_init_X3_init
set_option maxRecDepth 20000 in
theorem ggX8_init_X4_init : GoodIn wsX8_init wsX4_init := goodIn_r _ [53, 54, 2, 3, 55, 9, 10, 56, 33, 57, 58, 45, 46, 47, 48, 49, 50, 51, 88, 89, 90, 91, 92, 93, 94, 95, 96, 97] (by decide +kernel) (by decide +kernel)
set_option maxRecDepth 20000 in
theorem gX8_init_X4_init_n28 : GoodIn wsX8_init (wsX4_init) := ggX8_init_X4_init
set_option maxRecDepth 20000 in
theorem ggX8_init_X7_init : GoodIn wsX8_init wsX7_init := goodIn_r _ [60, 61, 2, 3] (by decide +kernel) (by decide +kernel)
set_option maxRecDepth 20000 in
theorem gX8_init_X7_init_n35 : GoodIn wsX8_init (wsX7_init) := ggX8_init_X7_init
set_option maxRecDepth 20000 in
theorem ggX8_init_X6_init : GoodIn wsX8_init wsX6_init := goodIn_r _ [63, 64, 2, 3, 33, 65, 66, 108, 109, 110, 111] (by decide +kernel) (by decide +kernel)
set_option maxRecDepth 20000 in
theorem gX8_init_X6_init_n42 : GoodIn wsX8_init (wsX6_init) := ggX8_init_X6_init
set_option maxRecDepth 20000 in
theorem ggX8_init_X2_init : GoodIn wsX8_init wsX2_init := goodIn_r _ [68, 69, 2, 3] (by decide +kernel) (by decide +kernel)
set_option maxRecDepth 20000 in
theorem gX8_init_X2_init_n49 : GoodIn wsX8_init (wsX2_init) := ggX8_init_X2_init
set_option maxRecDepth 20000 in
theorem ggX8_init_X0_init : GoodIn wsX8_init wsX0_init := goodIn_r _ [71, 72, 2, 3, 33, 73, 114, 115, 116, 117, 118] (by decide +kernel) (by decide +kernel)
set_option maxRecDepth 20000 in
theorem gX8_init_X0_init_n56 : GoodIn wsX8_init (wsX0_init) := ggX8_init_X0_init
theorem dX8_init_0 : decode cX8_init 0 = .ok (.aload_n 0, 1) := by decide +kernel
theorem dX8_init_1 : decode cX8_init 1 = .ok (.invokespecial 1, 3) := by decide +kernel
theorem dX8_init_4 : decode cX8_init 4 = .ok (.aload_n 0, 1) := by decide +kernel
theorem dX8_init_5 : decode cX8_init 5 = .ok (.new 7, 3) := by decide +kernel
theorem dX8_init_8 : decode cX8_init 8 = .ok (.dup, 1) := by decide +kernel
theorem dX8_init_9 : decode cX8_init 9 = .ok (.invokespecial 9, 3) := by decide +kernel
theorem dX8_init_12 : decode cX8_init 12 = .ok (.putfield 10, 3) := by decide +kernel
theorem dX8_init_15 : decode cX8_init 15 = .ok (.aload_n 0, 1) := by decide +kernel
theorem dX8_init_16 : decode cX8_init 16 = .ok (.new 16, 3) := by decide +kernel
theorem dX8_init_19 : decode cX8_init 19 = .ok (.dup, 1) := by decide +kernel
theorem dX8_init_20 : decode cX8_init 20 = .ok (.invokespecial 18, 3) := by decide +kernel
theorem dX8_init_23 : decode cX8_init 23 = .ok (.putfield 19, 3) := by decide +kernel
theorem dX8_init_26 : decode cX8_init 26 = .ok (.aload_n 0, 1) := by decide +kernel
theorem dX8_init_27 : decode cX8_init 27 = .ok (.new 16, 3) := by decide +kernel
theorem dX8_init_30 : decode cX8_init 30 = .ok (.dup, 1) := by decide +kernel
theorem dX8_init_31 : decode cX8_init 31 = .ok (.invokespecial 18, 3) := by decide +kernel
theorem dX8_init_34 : decode cX8_init 34 = .ok (.putfield 23, 3) := by decide +kernel
theorem dX8_init_37 : decode cX8_init 37 = .ok (.aload_n 0, 1) := by decide +kernel
theorem dX8_init_38 : decode cX8_init 38 = .ok (.new 26, 3) := by decide +kernel
theorem dX8_init_41 : decode cX8_init 41 = .ok (.dup, 1) := by decide +kernel
theorem dX8_init_42 : decode cX8_init 42 = .ok (.invokespecial 28, 3) := by decide +kernel
theorem dX8_init_45 : decode cX8_init 45 = .ok (.putfield 29, 3) := by decide +kernel
theorem dX8_init_48 : decode cX8_init 48 = .ok (.aload_n 0, 1) := by decide +kernel
theorem dX8_init_49 : decode cX8_init 49 = .ok (.new 33, 3) := by decide +kernel
theorem dX8_init_52 : decode cX8_init 52 = .ok (.dup, 1) := by decide +kernel
theorem dX8_init_53 : decode cX8_init 53 = .ok (.invokespecial 35, 3) := by decide +kernel
theorem dX8_init_56 : decode cX8_init 56 = .ok (.putfield 36, 3) := by decide +kernel
theorem dX8_init_59 : decode cX8_init 59 = .ok (.aload_n 0, 1) := by decide +kernel
theorem dX8_init_60 : decode cX8_init 60 = .ok (.new 40, 3) := by decide +kernel
theorem dX8_init_63 : decode cX8_init 63 = .ok (.dup, 1) := by decide +kernel
theorem dX8_init_64 : decode cX8_init 64 = .ok (.invokespecial 42, 3) := by decide +kernel
theorem dX8_init_67 : decode cX8_init 67 = .ok (.putfield 43, 3) := by decide +kernel
theorem dX8_init_70 : decode cX8_init 70 = .ok (.aload_n 0, 1) := by decide +kernel
theorem dX8_init_71 : decode cX8_init 71 = .ok (.new 47, 3) := by decide +kernel
theorem dX8_init_74 : decode cX8_init 74 = .ok (.dup, 1) := by decide +kernel
theorem dX8_init_75 : decode cX8_init 75 = .ok (.invokespecial 49, 3) := by decide +kernel
theorem dX8_init_78 : decode cX8_init 78 = .ok (.putfield 50, 3) := by decide +kernel
theorem dX8_init_81 : decode cX8_init 81 = .ok (.aload_n 0, 1) := by decide +kernel
theorem dX8_init_82 : decode cX8_init 82 = .ok (.new 54, 3) := by decide +kernel
theorem dX8_init_85 : decode cX8_init 85 = .ok (.dup, 1) := by decide +kernel
theorem dX8_init_86 : decode cX8_init 86 = .ok (.invokespecial 56, 3) := by decide +kernel
theorem dX8_init_89 : decode cX8_init 89 = .ok (.putfield 57, 3) := by decide +kernel
theorem dX8_init_92 : decode cX8_init 92 = .ok (.aload_n 0, 1) := by decide +kernel
theorem dX8_init_93 : decode cX8_init 93 = .ok (.bipush 8, 2) := by decide +kernel
theorem dX8_init_95 : decode cX8_init 95 = .ok (.newarray .int, 2) := by decide +kernel
theorem dX8_init_97 : decode cX8_init 97 = .ok (.putfield 61, 3) := by decide +kernel
theorem dX8_init_100 : decode cX8_init 100 = .ok (.aload_n 0, 1) := by decide +kernel
theorem dX8_init_101 : decode cX8_init 101 = .ok (.iconst 0, 1) := by decide +kernel
theorem dX8_init_102 : decode cX8_init 102 = .ok (.putfield 65, 3) := by decide +kernel
theorem dX8_init_105 : decode cX8_init 105 = .ok (.aload_n 0, 1) := by decide +kernel
theorem dX8_init_106 : decode cX8_init 106 = .ok (.iconst (-1), 1) := by decide +kernel
theorem dX8_init_107 : decode cX8_init 107 = .ok (.putfield 69, 3) := by decide +kernel
theorem dX8_init_110 : decode cX8_init 110 = .ok (.return_, 1) := by decide +kernel
set_option maxRecDepth 20000 in
theorem ggX8_row_X5_has : GoodIn wsX8_row wsX5_has := goodIn_r _ [6] (by decide +kernel) (by decide +kernel)
set_option maxRecDepth 20000 in
theorem gX8_row_X5_has : GoodIn wsX8_row (wsV RX8 73 RX5 yX5_has wsX5_has) := goodIn_app (goodIn_of _ (by decide +kernel)) ggX8_row_X5_has
set_option maxRecDepth 20000 in
theorem ggX8_row_X8_refuse : GoodIn wsX8_row wsX8_refuse := goodIn_r _ [11, 12, 21, 22, 23, 24, 25, 26, 27, 28, 29, 30, 31] (by decide +kernel) (by decide +kernel)
set_option maxRecDepth 20000 in
theorem gX8_row_X8_refuse : GoodIn wsX8_row (wsV RX8 77 RX8 yX8_refuse wsX8_refuse) := goodIn_app (goodIn_of _ (by decide +kernel)) ggX8_row_X8_refuse
set_option maxRecDepth 20000 in
theorem ggX8_row_X5_holdRow : GoodIn wsX8_row wsX5_holdRow := goodIn_r _ [16, 17, 18, 19, 20, 3, 4, 5, 6, 32, 33, 34] (by decide +kernel) (by decide +kernel)
set_option maxRecDepth 20000 in
theorem gX8_row_X5_holdRow : GoodIn wsX8_row (wsV RX8 81 RX5 yX5_holdRow wsX5_holdRow) := goodIn_app (goodIn_of _ (by decide +kernel)) ggX8_row_X5_holdRow
theorem dX8_row_0 : decode cX8_row 0 = .ok (.aload_n 0, 1) := by decide +kernel
theorem dX8_row_1 : decode cX8_row 1 = .ok (.getfield 10, 3) := by decide +kernel
theorem dX8_row_4 : decode cX8_row 4 = .ok (.iload_n 1, 1) := by decide +kernel
theorem dX8_row_5 : decode cX8_row 5 = .ok (.invokevirtual 73, 3) := by decide +kernel
theorem dX8_row_8 : decode cX8_row 8 = .ok (.ifCond .ne 9, 3) := by decide +kernel
theorem dX8_row_11 : decode cX8_row 11 = .ok (.aload_n 0, 1) := by decide +kernel
theorem dX8_row_12 : decode cX8_row 12 = .ok (.iconst (-1), 1) := by decide +kernel
theorem dX8_row_13 : decode cX8_row 13 = .ok (.invokevirtual 77, 3) := by decide +kernel
theorem dX8_row_16 : decode cX8_row 16 = .ok (.ireturn, 1) := by decide +kernel
theorem dX8_row_17 : decode cX8_row 17 = .ok (.iload_n 3, 1) := by decide +kernel
theorem dX8_row_18 : decode cX8_row 18 = .ok (.ifCond .ge 10, 3) := by decide +kernel
theorem dX8_row_21 : decode cX8_row 21 = .ok (.aload_n 0, 1) := by decide +kernel
theorem dX8_row_22 : decode cX8_row 22 = .ok (.bipush (-4), 2) := by decide +kernel
theorem dX8_row_24 : decode cX8_row 24 = .ok (.invokevirtual 77, 3) := by decide +kernel
theorem dX8_row_27 : decode cX8_row 27 = .ok (.ireturn, 1) := by decide +kernel
theorem dX8_row_28 : decode cX8_row 28 = .ok (.iload_n 2, 1) := by decide +kernel
theorem dX8_row_29 : decode cX8_row 29 = .ok (.ifCond .lt 8, 3) := by decide +kernel
theorem dX8_row_32 : decode cX8_row 32 = .ok (.iload_n 2, 1) := by decide +kernel
theorem dX8_row_33 : decode cX8_row 33 = .ok (.iconst 4, 1) := by decide +kernel
theorem dX8_row_34 : decode cX8_row 34 = .ok (.if_icmp .lt 10, 3) := by decide +kernel
theorem dX8_row_37 : decode cX8_row 37 = .ok (.aload_n 0, 1) := by decide +kernel
theorem dX8_row_38 : decode cX8_row 38 = .ok (.bipush (-6), 2) := by decide +kernel
theorem dX8_row_40 : decode cX8_row 40 = .ok (.invokevirtual 77, 3) := by decide +kernel
theorem dX8_row_43 : decode cX8_row 43 = .ok (.ireturn, 1) := by decide +kernel
theorem dX8_row_44 : decode cX8_row 44 = .ok (.iload_n 3, 1) := by decide +kernel
theorem dX8_row_45 : decode cX8_row 45 = .ok (.sipush 160, 3) := by decide +kernel
theorem dX8_row_48 : decode cX8_row 48 = .ok (.if_icmp .le 10, 3) := by decide +kernel
theorem dX8_row_51 : decode cX8_row 51 = .ok (.aload_n 0, 1) := by decide +kernel
theorem dX8_row_52 : decode cX8_row 52 = .ok (.bipush (-7), 2) := by decide +kernel
theorem dX8_row_54 : decode cX8_row 54 = .ok (.invokevirtual 77, 3) := by decide +kernel
theorem dX8_row_57 : decode cX8_row 57 = .ok (.ireturn, 1) := by decide +kernel
theorem dX8_row_58 : decode cX8_row 58 = .ok (.aload_n 0, 1) := by decide +kernel
theorem dX8_row_59 : decode cX8_row 59 = .ok (.getfield 10, 3) := by decide +kernel
theorem dX8_row_62 : decode cX8_row 62 = .ok (.iload_n 1, 1) := by decide +kernel
theorem dX8_row_63 : decode cX8_row 63 = .ok (.iload_n 2, 1) := by decide +kernel
theorem dX8_row_64 : decode cX8_row 64 = .ok (.iload_n 3, 1) := by decide +kernel
theorem dX8_row_65 : decode cX8_row 65 = .ok (.invokevirtual 81, 3) := by decide +kernel
theorem dX8_row_68 : decode cX8_row 68 = .ok (.iconst 1, 1) := by decide +kernel
theorem dX8_row_69 : decode cX8_row 69 = .ok (.ireturn, 1) := by decide +kernel
set_option maxRecDepth 20000 in
theorem ggX8_set_X8_rowRefusal : GoodIn wsX8_set wsX8_rowRefusal := goodIn_r _ [6, 1, 7, 8, 9, 10, 11, 12, 13, 14, 15, 16, 17, 18, 19, 20, 21, 45, 46, 47, 48, 49, 50, 51, 52, 53, 54, 55, 56, 57, 58] (by decide +kernel) (by decide +kernel)
set_option maxRecDepth 20000 in
theorem gX8_set_X8_rowRefusal : GoodIn wsX8_set (wsV RX8 85 RX8 yX8_rowRefusal wsX8_rowRefusal) := goodIn_app (goodIn_of _ (by decide +kernel)) ggX8_set_X8_rowRefusal
set_option maxRecDepth 20000 in
theorem ggX8_set_X5_hasElement : GoodIn wsX8_set wsX5_hasElement := goodIn_r _ [25, 26, 27, 28, 10, 29, 30, 17, 8, 9, 11, 56, 57, 58] (by decide +kernel) (by decide +kernel)
set_option maxRecDepth 20000 in
theorem gX8_set_X5_hasElement : GoodIn wsX8_set (wsV RX8 88 RX5 yX5_hasElement wsX5_hasElement) := goodIn_app (goodIn_of _ (by decide +kernel)) ggX8_set_X5_hasElement
set_option maxRecDepth 20000 in
theorem ggX8_set_X8_refuse : GoodIn wsX8_set wsX8_refuse := goodIn_r _ [34, 35, 45, 46, 47, 48, 49, 50, 51, 52, 53, 54, 55] (by decide +kernel) (by decide +kernel)
set_option maxRecDepth 20000 in
theorem gX8_set_X8_refuse : GoodIn wsX8_set (wsV RX8 77 RX8 yX8_refuse wsX8_refuse) := goodIn_app (goodIn_of _ (by decide +kernel)) ggX8_set_X8_refuse
set_option maxRecDepth 20000 in
theorem ggX8_set_X5_put : GoodIn wsX8_set wsX5_put := goodIn_r _ [39, 40, 16, 41, 23, 24, 10, 25, 26, 27, 28, 29, 30, 17, 8, 9, 11, 42, 43, 44, 56, 57, 58] (by decide +kernel) (by decide +kernel)
set_option maxRecDepth 20000 in
theorem gX8_set_X5_put : GoodIn wsX8_set (wsV RX8 92 RX5 yX5_put wsX5_put) := goodIn_app (goodIn_of _ (by decide +kernel)) ggX8_set_X5_put
theorem dX8_set_0 : decode cX8_set 0 = .ok (.aload_n 0, 1) := by decide +kernel
theorem dX8_set_1 : decode cX8_set 1 = .ok (.iload_n 1, 1) := by decide +kernel
theorem dX8_set_2 : decode cX8_set 2 = .ok (.invokevirtual 85, 3) := by decide +kernel
theorem dX8_set_5 : decode cX8_set 5 = .ok (.istore 5, 2) := by decide +kernel
theorem dX8_set_7 : decode cX8_set 7 = .ok (.iload 5, 2) := by decide +kernel
theorem dX8_set_9 : decode cX8_set 9 = .ok (.ifCond .ne 19, 3) := by decide +kernel
theorem dX8_set_12 : decode cX8_set 12 = .ok (.aload_n 0, 1) := by decide +kernel
theorem dX8_set_13 : decode cX8_set 13 = .ok (.getfield 10, 3) := by decide +kernel
theorem dX8_set_16 : decode cX8_set 16 = .ok (.iload_n 1, 1) := by decide +kernel
theorem dX8_set_17 : decode cX8_set 17 = .ok (.iload_n 2, 1) := by decide +kernel
theorem dX8_set_18 : decode cX8_set 18 = .ok (.invokevirtual 88, 3) := by decide +kernel
theorem dX8_set_21 : decode cX8_set 21 = .ok (.ifCond .ne 7, 3) := by decide +kernel
theorem dX8_set_24 : decode cX8_set 24 = .ok (.bipush (-5), 2) := by decide +kernel
theorem dX8_set_26 : decode cX8_set 26 = .ok (.istore 5, 2) := by decide +kernel
theorem dX8_set_28 : decode cX8_set 28 = .ok (.iload 5, 2) := by decide +kernel
theorem dX8_set_30 : decode cX8_set 30 = .ok (.ifCond .eq 10, 3) := by decide +kernel
theorem dX8_set_33 : decode cX8_set 33 = .ok (.aload_n 0, 1) := by decide +kernel
theorem dX8_set_34 : decode cX8_set 34 = .ok (.iload 5, 2) := by decide +kernel
theorem dX8_set_36 : decode cX8_set 36 = .ok (.invokevirtual 77, 3) := by decide +kernel
theorem dX8_set_39 : decode cX8_set 39 = .ok (.ireturn, 1) := by decide +kernel
theorem dX8_set_40 : decode cX8_set 40 = .ok (.aload_n 0, 1) := by decide +kernel
theorem dX8_set_41 : decode cX8_set 41 = .ok (.getfield 10, 3) := by decide +kernel
theorem dX8_set_44 : decode cX8_set 44 = .ok (.iload_n 1, 1) := by decide +kernel
theorem dX8_set_45 : decode cX8_set 45 = .ok (.iload_n 2, 1) := by decide +kernel
theorem dX8_set_46 : decode cX8_set 46 = .ok (.lload_n 3, 1) := by decide +kernel
theorem dX8_set_47 : decode cX8_set 47 = .ok (.invokevirtual 92, 3) := by decide +kernel
theorem dX8_set_50 : decode cX8_set 50 = .ok (.iconst 1, 1) := by decide +kernel
theorem dX8_set_51 : decode cX8_set 51 = .ok (.ireturn, 1) := by decide +kernel
set_option maxRecDepth 20000 in
theorem ggX8_copy_X8_pairRefusal : GoodIn wsX8_copy wsX8_pairRefusal := goodIn_r _ [6, 7, 8, 9, 10, 11, 12, 13, 5, 14, 1, 15, 16, 17, 18, 19, 20, 21, 22, 23, 24, 25, 26, 27, 28, 29, 54, 55, 56, 57, 58, 59, 60, 61, 62, 63, 64, 65, 66, 67] (by decide +kernel) (by decide +kernel)
set_option maxRecDepth 20000 in
theorem gX8_copy_X8_pairRefusal : GoodIn wsX8_copy (wsV RX8 96 RX8 yX8_pairRefusal wsX8_pairRefusal) := goodIn_app (goodIn_of _ (by decide +kernel)) ggX8_copy_X8_pairRefusal
set_option maxRecDepth 20000 in
theorem ggX8_copy_X5_heldBy : GoodIn wsX8_copy wsX5_heldBy := goodIn_r _ [29, 24, 25, 16, 17, 18, 19, 65, 66, 67] (by decide +kernel) (by decide +kernel)
set_option maxRecDepth 20000 in
theorem gX8_copy_X5_heldBy : GoodIn wsX8_copy (wsV RX8 100 RX5 yX5_heldBy wsX5_heldBy) := goodIn_app (goodIn_of _ (by decide +kernel)) ggX8_copy_X5_heldBy
set_option maxRecDepth 20000 in
theorem ggX8_copy_X5_hasStretch : GoodIn wsX8_copy wsX5_hasStretch := goodIn_r _ [33, 34, 35, 36, 18, 37, 38, 25, 16, 17, 19, 65, 66, 67] (by decide +kernel) (by decide +kernel)
set_option maxRecDepth 20000 in
theorem gX8_copy_X5_hasStretch : GoodIn wsX8_copy (wsV RX8 103 RX5 yX5_hasStretch wsX5_hasStretch) := goodIn_app (goodIn_of _ (by decide +kernel)) ggX8_copy_X5_hasStretch
set_option maxRecDepth 20000 in
theorem ggX8_copy_X8_refuse : GoodIn wsX8_copy wsX8_refuse := goodIn_r _ [42, 43, 54, 55, 56, 57, 58, 59, 60, 61, 62, 63, 64] (by decide +kernel) (by decide +kernel)
set_option maxRecDepth 20000 in
theorem gX8_copy_X8_refuse : GoodIn wsX8_copy (wsV RX8 77 RX8 yX8_refuse wsX8_refuse) := goodIn_app (goodIn_of _ (by decide +kernel)) ggX8_copy_X8_refuse
set_option maxRecDepth 20000 in
theorem ggX8_copy_X5_move : GoodIn wsX8_copy wsX5_move := goodIn_r _ [47, 48, 49, 50, 51, 52, 53, 31, 32, 18, 33, 34, 35, 36, 37, 38, 25, 16, 17, 19, 65, 66, 67] (by decide +kernel) (by decide +kernel)
set_option maxRecDepth 20000 in
theorem gX8_copy_X5_move : GoodIn wsX8_copy (wsV RX8 107 RX5 yX5_move wsX5_move) := goodIn_app (goodIn_of _ (by decide +kernel)) ggX8_copy_X5_move
theorem dX8_copy_0 : decode cX8_copy 0 = .ok (.aload_n 0, 1) := by decide +kernel
theorem dX8_copy_1 : decode cX8_copy 1 = .ok (.iload_n 1, 1) := by decide +kernel
theorem dX8_copy_2 : decode cX8_copy 2 = .ok (.iload_n 2, 1) := by decide +kernel
theorem dX8_copy_3 : decode cX8_copy 3 = .ok (.invokevirtual 96, 3) := by decide +kernel
theorem dX8_copy_6 : decode cX8_copy 6 = .ok (.istore 6, 2) := by decide +kernel
theorem dX8_copy_8 : decode cX8_copy 8 = .ok (.iload 6, 2) := by decide +kernel
theorem dX8_copy_10 : decode cX8_copy 10 = .ok (.ifCond .ne 26, 3) := by decide +kernel
theorem dX8_copy_13 : decode cX8_copy 13 = .ok (.aload_n 0, 1) := by decide +kernel
theorem dX8_copy_14 : decode cX8_copy 14 = .ok (.getfield 10, 3) := by decide +kernel
theorem dX8_copy_17 : decode cX8_copy 17 = .ok (.iload_n 1, 1) := by decide +kernel
theorem dX8_copy_18 : decode cX8_copy 18 = .ok (.invokevirtual 100, 3) := by decide +kernel
theorem dX8_copy_21 : decode cX8_copy 21 = .ok (.aload_n 0, 1) := by decide +kernel
theorem dX8_copy_22 : decode cX8_copy 22 = .ok (.getfield 10, 3) := by decide +kernel
theorem dX8_copy_25 : decode cX8_copy 25 = .ok (.iload_n 2, 1) := by decide +kernel
theorem dX8_copy_26 : decode cX8_copy 26 = .ok (.invokevirtual 100, 3) := by decide +kernel
theorem dX8_copy_29 : decode cX8_copy 29 = .ok (.if_icmp .eq 7, 3) := by decide +kernel
theorem dX8_copy_32 : decode cX8_copy 32 = .ok (.bipush (-2), 2) := by decide +kernel
theorem dX8_copy_34 : decode cX8_copy 34 = .ok (.istore 6, 2) := by decide +kernel
theorem dX8_copy_36 : decode cX8_copy 36 = .ok (.iload 6, 2) := by decide +kernel
theorem dX8_copy_38 : decode cX8_copy 38 = .ok (.ifCond .ne 12, 3) := by decide +kernel
theorem dX8_copy_41 : decode cX8_copy 41 = .ok (.iload 5, 2) := by decide +kernel
theorem dX8_copy_43 : decode cX8_copy 43 = .ok (.ifCond .ge 7, 3) := by decide +kernel
theorem dX8_copy_46 : decode cX8_copy 46 = .ok (.bipush (-4), 2) := by decide +kernel
theorem dX8_copy_48 : decode cX8_copy 48 = .ok (.istore 6, 2) := by decide +kernel
theorem dX8_copy_50 : decode cX8_copy 50 = .ok (.iload 6, 2) := by decide +kernel
theorem dX8_copy_52 : decode cX8_copy 52 = .ok (.ifCond .ne 36, 3) := by decide +kernel
theorem dX8_copy_55 : decode cX8_copy 55 = .ok (.aload_n 0, 1) := by decide +kernel
theorem dX8_copy_56 : decode cX8_copy 56 = .ok (.getfield 10, 3) := by decide +kernel
theorem dX8_copy_59 : decode cX8_copy 59 = .ok (.iload_n 1, 1) := by decide +kernel
theorem dX8_copy_60 : decode cX8_copy 60 = .ok (.iload_n 3, 1) := by decide +kernel
theorem dX8_copy_61 : decode cX8_copy 61 = .ok (.iload 5, 2) := by decide +kernel
theorem dX8_copy_63 : decode cX8_copy 63 = .ok (.invokevirtual 103, 3) := by decide +kernel
theorem dX8_copy_66 : decode cX8_copy 66 = .ok (.ifCond .eq 18, 3) := by decide +kernel
theorem dX8_copy_69 : decode cX8_copy 69 = .ok (.aload_n 0, 1) := by decide +kernel
theorem dX8_copy_70 : decode cX8_copy 70 = .ok (.getfield 10, 3) := by decide +kernel
theorem dX8_copy_73 : decode cX8_copy 73 = .ok (.iload_n 2, 1) := by decide +kernel
theorem dX8_copy_74 : decode cX8_copy 74 = .ok (.iload 4, 2) := by decide +kernel
theorem dX8_copy_76 : decode cX8_copy 76 = .ok (.iload 5, 2) := by decide +kernel
theorem dX8_copy_78 : decode cX8_copy 78 = .ok (.invokevirtual 103, 3) := by decide +kernel
theorem dX8_copy_81 : decode cX8_copy 81 = .ok (.ifCond .ne 7, 3) := by decide +kernel
theorem dX8_copy_84 : decode cX8_copy 84 = .ok (.bipush (-5), 2) := by decide +kernel
theorem dX8_copy_86 : decode cX8_copy 86 = .ok (.istore 6, 2) := by decide +kernel
theorem dX8_copy_88 : decode cX8_copy 88 = .ok (.iload 6, 2) := by decide +kernel
theorem dX8_copy_90 : decode cX8_copy 90 = .ok (.ifCond .eq 10, 3) := by decide +kernel
theorem dX8_copy_93 : decode cX8_copy 93 = .ok (.aload_n 0, 1) := by decide +kernel
theorem dX8_copy_94 : decode cX8_copy 94 = .ok (.iload 6, 2) := by decide +kernel
theorem dX8_copy_96 : decode cX8_copy 96 = .ok (.invokevirtual 77, 3) := by decide +kernel
theorem dX8_copy_99 : decode cX8_copy 99 = .ok (.ireturn, 1) := by decide +kernel
theorem dX8_copy_100 : decode cX8_copy 100 = .ok (.aload_n 0, 1) := by decide +kernel
theorem dX8_copy_101 : decode cX8_copy 101 = .ok (.getfield 10, 3) := by decide +kernel
theorem dX8_copy_104 : decode cX8_copy 104 = .ok (.iload_n 1, 1) := by decide +kernel
theorem dX8_copy_105 : decode cX8_copy 105 = .ok (.iload_n 3, 1) := by decide +kernel
theorem dX8_copy_106 : decode cX8_copy 106 = .ok (.iload_n 2, 1) := by decide +kernel
theorem dX8_copy_107 : decode cX8_copy 107 = .ok (.iload 4, 2) := by decide +kernel
theorem dX8_copy_109 : decode cX8_copy 109 = .ok (.iload 5, 2) := by decide +kernel
theorem dX8_copy_111 : decode cX8_copy 111 = .ok (.invokevirtual 107, 3) := by decide +kernel
theorem dX8_copy_114 : decode cX8_copy 114 = .ok (.iconst 1, 1) := by decide +kernel
theorem dX8_copy_115 : decode cX8_copy 115 = .ok (.ireturn, 1) := by decide +kernel
set_option maxRecDepth 20000 in
theorem ggX8_element_X5_elementAt : GoodIn wsX8_element wsX5_elementAt := goodIn_r _ [6, 7, 8, 9, 10, 5, 11, 12, 13, 14, 15, 16, 17, 18, 19, 20, 32, 33, 34] (by decide +kernel) (by decide +kernel)
set_option maxRecDepth 20000 in
theorem gX8_element_X5_elementAt : GoodIn wsX8_element (wsV RX8 111 RX5 yX5_elementAt wsX5_elementAt) := goodIn_app (goodIn_of _ (by decide +kernel)) ggX8_element_X5_elementAt
theorem dX8_element_0 : decode cX8_element 0 = .ok (.aload_n 0, 1) := by decide +kernel
theorem dX8_element_1 : decode cX8_element 1 = .ok (.getfield 10, 3) := by decide +kernel
theorem dX8_element_4 : decode cX8_element 4 = .ok (.iload_n 1, 1) := by decide +kernel
theorem dX8_element_5 : decode cX8_element 5 = .ok (.iload_n 2, 1) := by decide +kernel
theorem dX8_element_6 : decode cX8_element 6 = .ok (.invokevirtual 111, 3) := by decide +kernel
theorem dX8_element_9 : decode cX8_element 9 = .ok (.lreturn, 1) := by decide +kernel
set_option maxRecDepth 20000 in
theorem ggX8_show_X5_has : GoodIn wsX8_show wsX5_has := goodIn_r _ [7] (by decide +kernel) (by decide +kernel)
set_option maxRecDepth 20000 in
theorem gX8_show_X5_has : GoodIn wsX8_show (wsV RX8 73 RX5 yX5_has wsX5_has) := goodIn_app (goodIn_of _ (by decide +kernel)) ggX8_show_X5_has
set_option maxRecDepth 20000 in
theorem ggX8_show_X8_refuse : GoodIn wsX8_show wsX8_refuse := goodIn_r _ [12, 13, 27, 28, 29, 30, 31, 32, 33, 34, 35, 36, 37] (by decide +kernel) (by decide +kernel)
set_option maxRecDepth 20000 in
theorem gX8_show_X8_refuse : GoodIn wsX8_show (wsV RX8 77 RX8 yX8_refuse wsX8_refuse) := goodIn_app (goodIn_of _ (by decide +kernel)) ggX8_show_X8_refuse
set_option maxRecDepth 20000 in
theorem ggX8_show_X3_hasSetUp : GoodIn wsX8_show wsX3_hasSetUp := goodIn_r _ [18, 19, 38, 39, 40, 41] (by decide +kernel) (by decide +kernel)
set_option maxRecDepth 20000 in
theorem gX8_show_X3_hasSetUp : GoodIn wsX8_show (wsV RX8 115 RX3 yX3_hasSetUp wsX3_hasSetUp) := goodIn_app (goodIn_of _ (by decide +kernel)) ggX8_show_X3_hasSetUp
set_option maxRecDepth 20000 in
theorem ggX8_show_X5_holdSetUp : GoodIn wsX8_show wsX5_holdSetUp := goodIn_r _ [23, 24, 25, 26, 4, 5, 6, 7, 42, 43, 44] (by decide +kernel) (by decide +kernel)
set_option maxRecDepth 20000 in
theorem gX8_show_X5_holdSetUp : GoodIn wsX8_show (wsV RX8 118 RX5 yX5_holdSetUp wsX5_holdSetUp) := goodIn_app (goodIn_of _ (by decide +kernel)) ggX8_show_X5_holdSetUp
theorem dX8_show_0 : decode cX8_show 0 = .ok (.aload_n 0, 1) := by decide +kernel
theorem dX8_show_1 : decode cX8_show 1 = .ok (.getfield 10, 3) := by decide +kernel
theorem dX8_show_4 : decode cX8_show 4 = .ok (.iload_n 1, 1) := by decide +kernel
theorem dX8_show_5 : decode cX8_show 5 = .ok (.invokevirtual 73, 3) := by decide +kernel
theorem dX8_show_8 : decode cX8_show 8 = .ok (.ifCond .ne 9, 3) := by decide +kernel
theorem dX8_show_11 : decode cX8_show 11 = .ok (.aload_n 0, 1) := by decide +kernel
theorem dX8_show_12 : decode cX8_show 12 = .ok (.iconst (-1), 1) := by decide +kernel
theorem dX8_show_13 : decode cX8_show 13 = .ok (.invokevirtual 77, 3) := by decide +kernel
theorem dX8_show_16 : decode cX8_show 16 = .ok (.ireturn, 1) := by decide +kernel
theorem dX8_show_17 : decode cX8_show 17 = .ok (.iload_n 2, 1) := by decide +kernel
theorem dX8_show_18 : decode cX8_show 18 = .ok (.iconst (-1), 1) := by decide +kernel
theorem dX8_show_19 : decode cX8_show 19 = .ok (.if_icmp .eq 20, 3) := by decide +kernel
theorem dX8_show_22 : decode cX8_show 22 = .ok (.aload_n 0, 1) := by decide +kernel
theorem dX8_show_23 : decode cX8_show 23 = .ok (.getfield 19, 3) := by decide +kernel
theorem dX8_show_26 : decode cX8_show 26 = .ok (.iload_n 2, 1) := by decide +kernel
theorem dX8_show_27 : decode cX8_show 27 = .ok (.invokevirtual 115, 3) := by decide +kernel
theorem dX8_show_30 : decode cX8_show 30 = .ok (.ifCond .ne 9, 3) := by decide +kernel
theorem dX8_show_33 : decode cX8_show 33 = .ok (.aload_n 0, 1) := by decide +kernel
theorem dX8_show_34 : decode cX8_show 34 = .ok (.iconst (-1), 1) := by decide +kernel
theorem dX8_show_35 : decode cX8_show 35 = .ok (.invokevirtual 77, 3) := by decide +kernel
theorem dX8_show_38 : decode cX8_show 38 = .ok (.ireturn, 1) := by decide +kernel
theorem dX8_show_39 : decode cX8_show 39 = .ok (.aload_n 0, 1) := by decide +kernel
theorem dX8_show_40 : decode cX8_show 40 = .ok (.getfield 10, 3) := by decide +kernel
theorem dX8_show_43 : decode cX8_show 43 = .ok (.iload_n 1, 1) := by decide +kernel
theorem dX8_show_44 : decode cX8_show 44 = .ok (.iload_n 2, 1) := by decide +kernel
theorem dX8_show_45 : decode cX8_show 45 = .ok (.invokevirtual 118, 3) := by decide +kernel
theorem dX8_show_48 : decode cX8_show 48 = .ok (.iload_n 2, 1) := by decide +kernel
theorem dX8_show_49 : decode cX8_show 49 = .ok (.iconst (-1), 1) := by decide +kernel
theorem dX8_show_50 : decode cX8_show 50 = .ok (.if_icmp .ne 7, 3) := by decide +kernel
theorem dX8_show_53 : decode cX8_show 53 = .ok (.iconst 0, 1) := by decide +kernel
theorem dX8_show_54 : decode cX8_show 54 = .ok (.goto 4, 3) := by decide +kernel
theorem dX8_show_57 : decode cX8_show 57 = .ok (.iconst 1, 1) := by decide +kernel
theorem dX8_show_58 : decode cX8_show 58 = .ok (.ireturn, 1) := by decide +kernel
set_option maxRecDepth 20000 in
theorem ggX8_holds_X5_heldBy : GoodIn wsX8_holds wsX5_heldBy := goodIn_r _ [6, 7, 8, 9, 10, 5, 11, 23, 24, 25] (by decide +kernel) (by decide +kernel)
set_option maxRecDepth 20000 in
theorem gX8_holds_X5_heldBy : GoodIn wsX8_holds (wsV RX8 100 RX5 yX5_heldBy wsX5_heldBy) := goodIn_app (goodIn_of _ (by decide +kernel)) ggX8_holds_X5_heldBy
theorem dX8_holds_0 : decode cX8_holds 0 = .ok (.aload_n 0, 1) := by decide +kernel
theorem dX8_holds_1 : decode cX8_holds 1 = .ok (.getfield 10, 3) := by decide +kernel
theorem dX8_holds_4 : decode cX8_holds 4 = .ok (.iload_n 1, 1) := by decide +kernel
theorem dX8_holds_5 : decode cX8_holds 5 = .ok (.invokevirtual 100, 3) := by decide +kernel
theorem dX8_holds_8 : decode cX8_holds 8 = .ok (.ireturn, 1) := by decide +kernel
set_option maxRecDepth 20000 in
theorem ggX8_says_X8_saysRefusal : GoodIn wsX8_says wsX8_saysRefusal := goodIn_r _ [8, 2, 3, 9, 10, 11, 12, 13, 14, 15, 16, 17, 18, 19, 20, 21, 22, 23, 24, 25, 26, 27, 28, 29, 30, 31, 32, 33, 34, 35, 36, 37, 38, 39, 40, 41, 42, 57, 58, 59, 60, 61, 62, 63, 64, 65, 66, 67, 68, 69, 70, 71, 72, 73, 74] (by decide +kernel) (by decide +kernel)
set_option maxRecDepth 20000 in
theorem gX8_says_X8_saysRefusal : GoodIn wsX8_says (wsV RX8 122 RX8 yX8_saysRefusal wsX8_saysRefusal) := goodIn_app (goodIn_of _ (by decide +kernel)) ggX8_says_X8_saysRefusal
set_option maxRecDepth 20000 in
theorem ggX8_says_X8_refuse : GoodIn wsX8_says wsX8_refuse := goodIn_r _ [46, 47, 57, 58, 59, 60, 61, 62, 63, 64, 65, 66, 67] (by decide +kernel) (by decide +kernel)
set_option maxRecDepth 20000 in
theorem gX8_says_X8_refuse : GoodIn wsX8_says (wsV RX8 77 RX8 yX8_refuse wsX8_refuse) := goodIn_app (goodIn_of _ (by decide +kernel)) ggX8_says_X8_refuse
set_option maxRecDepth 20000 in
theorem ggX8_says_X5_heldBy : GoodIn wsX8_says wsX5_heldBy := goodIn_r _ [23, 24, 25, 10, 11, 12, 13, 68, 69, 70] (by decide +kernel) (by decide +kernel)
set_option maxRecDepth 20000 in
theorem gX8_says_X5_heldBy : GoodIn wsX8_says (wsV RX8 100 RX5 yX5_heldBy wsX5_heldBy) := goodIn_app (goodIn_of _ (by decide +kernel)) ggX8_says_X5_heldBy
set_option maxRecDepth 20000 in
theorem ggX8_says_X3_yardsOf : GoodIn wsX8_says wsX3_yardsOf := goodIn_r _ [51, 52, 31, 32, 16, 33, 34, 71, 72, 73, 74] (by decide +kernel) (by decide +kernel)
set_option maxRecDepth 20000 in
theorem gX8_says_X3_yardsOf : GoodIn wsX8_says (wsV RX8 126 RX3 yX3_yardsOf wsX3_yardsOf) := goodIn_app (goodIn_of _ (by decide +kernel)) ggX8_says_X3_yardsOf
set_option maxRecDepth 20000 in
theorem ggX8_says_X3_get : GoodIn wsX8_says wsX3_get := goodIn_r _ [33, 34, 71, 72, 73, 74] (by decide +kernel) (by decide +kernel)
set_option maxRecDepth 20000 in
theorem gX8_says_X3_get : GoodIn wsX8_says (wsV RX8 129 RX3 yX3_get wsX3_get) := goodIn_app (goodIn_of _ (by decide +kernel)) ggX8_says_X3_get
set_option maxRecDepth 20000 in
theorem ggX8_says_X3_sunkBy : GoodIn wsX8_says wsX3_sunkBy := goodIn_r _ [56, 52, 31, 32, 16, 33, 34, 71, 72, 73, 74] (by decide +kernel) (by decide +kernel)
set_option maxRecDepth 20000 in
theorem gX8_says_X3_sunkBy : GoodIn wsX8_says (wsV RX8 132 RX3 yX3_sunkBy wsX3_sunkBy) := goodIn_app (goodIn_of _ (by decide +kernel)) ggX8_says_X3_sunkBy
theorem dX8_says_0 : decode cX8_says 0 = .ok (.aload_n 0, 1) := by decide +kernel
theorem dX8_says_1 : decode cX8_says 1 = .ok (.iload_n 1, 1) := by decide +kernel
theorem dX8_says_2 : decode cX8_says 2 = .ok (.iload_n 2, 1) := by decide +kernel
theorem dX8_says_3 : decode cX8_says 3 = .ok (.invokevirtual 122, 3) := by decide +kernel
theorem dX8_says_6 : decode cX8_says 6 = .ok (.istore_n 3, 1) := by decide +kernel
theorem dX8_says_7 : decode cX8_says 7 = .ok (.iload_n 3, 1) := by decide +kernel
theorem dX8_says_8 : decode cX8_says 8 = .ok (.ifCond .eq 12, 3) := by decide +kernel
theorem dX8_says_11 : decode cX8_says 11 = .ok (.ldc 125, 2) := by decide +kernel
theorem dX8_says_13 : decode cX8_says 13 = .ok (.aload_n 0, 1) := by decide +kernel
theorem dX8_says_14 : decode cX8_says 14 = .ok (.iload_n 3, 1) := by decide +kernel
theorem dX8_says_15 : decode cX8_says 15 = .ok (.invokevirtual 77, 3) := by decide +kernel
theorem dX8_says_18 : decode cX8_says 18 = .ok (.iadd, 1) := by decide +kernel
theorem dX8_says_19 : decode cX8_says 19 = .ok (.ireturn, 1) := by decide +kernel
theorem dX8_says_20 : decode cX8_says 20 = .ok (.aload_n 0, 1) := by decide +kernel
theorem dX8_says_21 : decode cX8_says 21 = .ok (.getfield 10, 3) := by decide +kernel
theorem dX8_says_24 : decode cX8_says 24 = .ok (.iload_n 1, 1) := by decide +kernel
theorem dX8_says_25 : decode cX8_says 25 = .ok (.invokevirtual 100, 3) := by decide +kernel
theorem dX8_says_28 : decode cX8_says 28 = .ok (.istore 4, 2) := by decide +kernel
theorem dX8_says_30 : decode cX8_says 30 = .ok (.iload_n 2, 1) := by decide +kernel
theorem dX8_says_31 : decode cX8_says 31 = .ok (.tableswitch 79 0 5 #[37, 47, 69, 47, 79, 69], 37) := by decide +kernel
theorem dX8_says_68 : decode cX8_says 68 = .ok (.aload_n 0, 1) := by decide +kernel
theorem dX8_says_69 : decode cX8_says 69 = .ok (.getfield 19, 3) := by decide +kernel
theorem dX8_says_72 : decode cX8_says 72 = .ok (.iload 4, 2) := by decide +kernel
theorem dX8_says_74 : decode cX8_says 74 = .ok (.invokevirtual 126, 3) := by decide +kernel
theorem dX8_says_77 : decode cX8_says 77 = .ok (.ireturn, 1) := by decide +kernel
theorem dX8_says_78 : decode cX8_says 78 = .ok (.aload_n 0, 1) := by decide +kernel
theorem dX8_says_79 : decode cX8_says 79 = .ok (.getfield 19, 3) := by decide +kernel
theorem dX8_says_82 : decode cX8_says 82 = .ok (.iload 4, 2) := by decide +kernel
theorem dX8_says_84 : decode cX8_says 84 = .ok (.iconst 4, 1) := by decide +kernel
theorem dX8_says_85 : decode cX8_says 85 = .ok (.invokevirtual 129, 3) := by decide +kernel
theorem dX8_says_88 : decode cX8_says 88 = .ok (.aload_n 0, 1) := by decide +kernel
theorem dX8_says_89 : decode cX8_says 89 = .ok (.getfield 19, 3) := by decide +kernel
theorem dX8_says_92 : decode cX8_says 92 = .ok (.iload 4, 2) := by decide +kernel
theorem dX8_says_94 : decode cX8_says 94 = .ok (.iconst 5, 1) := by decide +kernel
theorem dX8_says_95 : decode cX8_says 95 = .ok (.invokevirtual 129, 3) := by decide +kernel
theorem dX8_says_98 : decode cX8_says 98 = .ok (.isub, 1) := by decide +kernel
theorem dX8_says_99 : decode cX8_says 99 = .ok (.ireturn, 1) := by decide +kernel
theorem dX8_says_100 : decode cX8_says 100 = .ok (.aload_n 0, 1) := by decide +kernel
theorem dX8_says_101 : decode cX8_says 101 = .ok (.getfield 19, 3) := by decide +kernel
theorem dX8_says_104 : decode cX8_says 104 = .ok (.iload 4, 2) := by decide +kernel
theorem dX8_says_106 : decode cX8_says 106 = .ok (.invokevirtual 132, 3) := by decide +kernel
theorem dX8_says_109 : decode cX8_says 109 = .ok (.ireturn, 1) := by decide +kernel
theorem dX8_says_110 : decode cX8_says 110 = .ok (.aload_n 0, 1) := by decide +kernel
theorem dX8_says_111 : decode cX8_says 111 = .ok (.getfield 19, 3) := by decide +kernel
theorem dX8_says_114 : decode cX8_says 114 = .ok (.iload 4, 2) := by decide +kernel
theorem dX8_says_116 : decode cX8_says 116 = .ok (.iconst 1, 1) := by decide +kernel
theorem dX8_says_117 : decode cX8_says 117 = .ok (.invokevirtual 129, 3) := by decide +kernel
theorem dX8_says_120 : decode cX8_says 120 = .ok (.ireturn, 1) := by decide +kernel
set_option maxRecDepth 20000 in
theorem ggX8_setup_X3_fits : GoodIn wsX8_setup wsX3_fits := goodIn_r _ [5, 6, 7] (by decide +kernel) (by decide +kernel)
set_option maxRecDepth 20000 in
theorem gX8_setup_X3_fits : GoodIn wsX8_setup (va_wsS RX8 135 yX3_fits wsX3_fits) := goodIn_app (goodIn_of _ (by decide +kernel)) ggX8_setup_X3_fits
set_option maxRecDepth 20000 in
theorem ggX8_setup_X8_refuse : GoodIn wsX8_setup wsX8_refuse := goodIn_r _ [12, 13, 33, 34, 35, 36, 37, 38, 39, 40, 41, 42, 43] (by decide +kernel) (by decide +kernel)
set_option maxRecDepth 20000 in
theorem gX8_setup_X8_refuse : GoodIn wsX8_setup (wsV RX8 77 RX8 yX8_refuse wsX8_refuse) := goodIn_app (goodIn_of _ (by decide +kernel)) ggX8_setup_X8_refuse
set_option maxRecDepth 20000 in
theorem ggX8_setup_X3_hasRoomFor : GoodIn wsX8_setup wsX3_hasRoomFor := goodIn_r _ [17, 18, 44, 45, 46, 47] (by decide +kernel) (by decide +kernel)
set_option maxRecDepth 20000 in
theorem gX8_setup_X3_hasRoomFor : GoodIn wsX8_setup (wsV RX8 138 RX3 yX3_hasRoomFor wsX3_hasRoomFor) := goodIn_app (goodIn_of _ (by decide +kernel)) ggX8_setup_X3_hasRoomFor
set_option maxRecDepth 20000 in
theorem ggX8_setup_X3_add : GoodIn wsX8_setup wsX3_add := goodIn_r _ [22, 18, 23, 15, 16, 4, 17, 24, 25, 26, 27, 28, 44, 45, 46, 47] (by decide +kernel) (by decide +kernel)
set_option maxRecDepth 20000 in
theorem gX8_setup_X3_add : GoodIn wsX8_setup (wsV RX8 141 RX3 yX3_add wsX3_add) := goodIn_app (goodIn_of _ (by decide +kernel)) ggX8_setup_X3_add
set_option maxRecDepth 20000 in
theorem ggX8_setup_X3_count : GoodIn wsX8_setup wsX3_count := goodIn_r _ [32, 18, 44, 45, 46, 47] (by decide +kernel) (by decide +kernel)
set_option maxRecDepth 20000 in
theorem gX8_setup_X3_count : GoodIn wsX8_setup (wsV RX8 145 RX3 yX3_count wsX3_count) := goodIn_app (goodIn_of _ (by decide +kernel)) ggX8_setup_X3_count
theorem dX8_setup_0 : decode cX8_setup 0 = .ok (.iconst 0, 1) := by decide +kernel
theorem dX8_setup_1 : decode cX8_setup 1 = .ok (.iload_n 1, 1) := by decide +kernel
theorem dX8_setup_2 : decode cX8_setup 2 = .ok (.invokestatic 135, 3) := by decide +kernel
theorem dX8_setup_5 : decode cX8_setup 5 = .ok (.ifCond .ne 9, 3) := by decide +kernel
theorem dX8_setup_8 : decode cX8_setup 8 = .ok (.aload_n 0, 1) := by decide +kernel
theorem dX8_setup_9 : decode cX8_setup 9 = .ok (.iconst (-1), 1) := by decide +kernel
theorem dX8_setup_10 : decode cX8_setup 10 = .ok (.invokevirtual 77, 3) := by decide +kernel
theorem dX8_setup_13 : decode cX8_setup 13 = .ok (.ireturn, 1) := by decide +kernel
theorem dX8_setup_14 : decode cX8_setup 14 = .ok (.iconst 1, 1) := by decide +kernel
theorem dX8_setup_15 : decode cX8_setup 15 = .ok (.iload_n 2, 1) := by decide +kernel
theorem dX8_setup_16 : decode cX8_setup 16 = .ok (.invokestatic 135, 3) := by decide +kernel
theorem dX8_setup_19 : decode cX8_setup 19 = .ok (.ifCond .eq 42, 3) := by decide +kernel
theorem dX8_setup_22 : decode cX8_setup 22 = .ok (.iconst 2, 1) := by decide +kernel
theorem dX8_setup_23 : decode cX8_setup 23 = .ok (.iload_n 3, 1) := by decide +kernel
theorem dX8_setup_24 : decode cX8_setup 24 = .ok (.invokestatic 135, 3) := by decide +kernel
theorem dX8_setup_27 : decode cX8_setup 27 = .ok (.ifCond .eq 34, 3) := by decide +kernel
theorem dX8_setup_30 : decode cX8_setup 30 = .ok (.iconst 3, 1) := by decide +kernel
theorem dX8_setup_31 : decode cX8_setup 31 = .ok (.iload 4, 2) := by decide +kernel
theorem dX8_setup_33 : decode cX8_setup 33 = .ok (.invokestatic 135, 3) := by decide +kernel
theorem dX8_setup_36 : decode cX8_setup 36 = .ok (.ifCond .eq 25, 3) := by decide +kernel
theorem dX8_setup_39 : decode cX8_setup 39 = .ok (.iconst 4, 1) := by decide +kernel
theorem dX8_setup_40 : decode cX8_setup 40 = .ok (.iload 5, 2) := by decide +kernel
theorem dX8_setup_42 : decode cX8_setup 42 = .ok (.invokestatic 135, 3) := by decide +kernel
theorem dX8_setup_45 : decode cX8_setup 45 = .ok (.ifCond .eq 16, 3) := by decide +kernel
theorem dX8_setup_48 : decode cX8_setup 48 = .ok (.iconst 5, 1) := by decide +kernel
theorem dX8_setup_49 : decode cX8_setup 49 = .ok (.iload 6, 2) := by decide +kernel
theorem dX8_setup_51 : decode cX8_setup 51 = .ok (.invokestatic 135, 3) := by decide +kernel
theorem dX8_setup_54 : decode cX8_setup 54 = .ok (.ifCond .eq 7, 3) := by decide +kernel
theorem dX8_setup_57 : decode cX8_setup 57 = .ok (.iconst 1, 1) := by decide +kernel
theorem dX8_setup_58 : decode cX8_setup 58 = .ok (.goto 4, 3) := by decide +kernel
theorem dX8_setup_61 : decode cX8_setup 61 = .ok (.iconst 0, 1) := by decide +kernel
theorem dX8_setup_62 : decode cX8_setup 62 = .ok (.istore 7, 2) := by decide +kernel
theorem dX8_setup_64 : decode cX8_setup 64 = .ok (.iload 7, 2) := by decide +kernel
theorem dX8_setup_66 : decode cX8_setup 66 = .ok (.ifCond .ne 10, 3) := by decide +kernel
theorem dX8_setup_69 : decode cX8_setup 69 = .ok (.aload_n 0, 1) := by decide +kernel
theorem dX8_setup_70 : decode cX8_setup 70 = .ok (.bipush (-6), 2) := by decide +kernel
theorem dX8_setup_72 : decode cX8_setup 72 = .ok (.invokevirtual 77, 3) := by decide +kernel
theorem dX8_setup_75 : decode cX8_setup 75 = .ok (.ireturn, 1) := by decide +kernel
theorem dX8_setup_76 : decode cX8_setup 76 = .ok (.aload_n 0, 1) := by decide +kernel
theorem dX8_setup_77 : decode cX8_setup 77 = .ok (.getfield 19, 3) := by decide +kernel
theorem dX8_setup_80 : decode cX8_setup 80 = .ok (.iconst 1, 1) := by decide +kernel
theorem dX8_setup_81 : decode cX8_setup 81 = .ok (.invokevirtual 138, 3) := by decide +kernel
theorem dX8_setup_84 : decode cX8_setup 84 = .ok (.ifCond .ne 10, 3) := by decide +kernel
theorem dX8_setup_87 : decode cX8_setup 87 = .ok (.aload_n 0, 1) := by decide +kernel
theorem dX8_setup_88 : decode cX8_setup 88 = .ok (.bipush (-7), 2) := by decide +kernel
theorem dX8_setup_90 : decode cX8_setup 90 = .ok (.invokevirtual 77, 3) := by decide +kernel
theorem dX8_setup_93 : decode cX8_setup 93 = .ok (.ireturn, 1) := by decide +kernel
theorem dX8_setup_94 : decode cX8_setup 94 = .ok (.aload_n 0, 1) := by decide +kernel
theorem dX8_setup_95 : decode cX8_setup 95 = .ok (.getfield 19, 3) := by decide +kernel
theorem dX8_setup_98 : decode cX8_setup 98 = .ok (.iload_n 1, 1) := by decide +kernel
theorem dX8_setup_99 : decode cX8_setup 99 = .ok (.iload_n 2, 1) := by decide +kernel
theorem dX8_setup_100 : decode cX8_setup 100 = .ok (.iload_n 3, 1) := by decide +kernel
theorem dX8_setup_101 : decode cX8_setup 101 = .ok (.iload 4, 2) := by decide +kernel
theorem dX8_setup_103 : decode cX8_setup 103 = .ok (.iload 5, 2) := by decide +kernel
theorem dX8_setup_105 : decode cX8_setup 105 = .ok (.iload 6, 2) := by decide +kernel
theorem dX8_setup_107 : decode cX8_setup 107 = .ok (.invokevirtual 141, 3) := by decide +kernel
theorem dX8_setup_110 : decode cX8_setup 110 = .ok (.aload_n 0, 1) := by decide +kernel
theorem dX8_setup_111 : decode cX8_setup 111 = .ok (.getfield 19, 3) := by decide +kernel
theorem dX8_setup_114 : decode cX8_setup 114 = .ok (.invokevirtual 145, 3) := by decide +kernel
theorem dX8_setup_117 : decode cX8_setup 117 = .ok (.iconst 1, 1) := by decide +kernel
theorem dX8_setup_118 : decode cX8_setup 118 = .ok (.isub, 1) := by decide +kernel
theorem dX8_setup_119 : decode cX8_setup 119 = .ok (.ireturn, 1) := by decide +kernel
set_option maxRecDepth 20000 in
theorem ggX8_setupOf_X3_hasSetUp : GoodIn wsX8_setupOf wsX3_hasSetUp := goodIn_r _ [7, 8, 67, 68, 69, 70] (by decide +kernel) (by decide +kernel)
set_option maxRecDepth 20000 in
theorem gX8_setupOf_X3_hasSetUp : GoodIn wsX8_setupOf (wsV RX8 115 RX3 yX3_hasSetUp wsX3_hasSetUp) := goodIn_app (goodIn_of _ (by decide +kernel)) ggX8_setupOf_X3_hasSetUp
set_option maxRecDepth 20000 in
theorem ggX8_setupOf_X8_refuse : GoodIn wsX8_setupOf wsX8_refuse := goodIn_r _ [13, 14, 56, 57, 58, 59, 60, 61, 62, 63, 64, 65, 66] (by decide +kernel) (by decide +kernel)
set_option maxRecDepth 20000 in
theorem gX8_setupOf_X8_refuse : GoodIn wsX8_setupOf (wsV RX8 77 RX8 yX8_refuse wsX8_refuse) := goodIn_app (goodIn_of _ (by decide +kernel)) ggX8_setupOf_X8_refuse
set_option maxRecDepth 20000 in
theorem ggX8_setupOf_X3_bookedOf : GoodIn wsX8_setupOf wsX3_bookedOf := goodIn_r _ [18, 19, 20, 21, 6, 22, 23, 67, 68, 69, 70] (by decide +kernel) (by decide +kernel)
set_option maxRecDepth 20000 in
theorem gX8_setupOf_X3_bookedOf : GoodIn wsX8_setupOf (wsV RX8 149 RX3 yX3_bookedOf wsX3_bookedOf) := goodIn_app (goodIn_of _ (by decide +kernel)) ggX8_setupOf_X3_bookedOf
set_option maxRecDepth 20000 in
theorem ggX8_setupOf_X3_errorOf : GoodIn wsX8_setupOf wsX3_errorOf := goodIn_r _ [27, 19, 20, 21, 6, 22, 23, 28, 29, 30, 31, 32, 33, 34, 35, 36, 37, 38, 39, 40, 41, 42, 43, 44, 45, 46, 47, 48, 67, 68, 69, 70] (by decide +kernel) (by decide +kernel)
set_option maxRecDepth 20000 in
theorem gX8_setupOf_X3_errorOf : GoodIn wsX8_setupOf (wsV RX8 152 RX3 yX3_errorOf wsX3_errorOf) := goodIn_app (goodIn_of _ (by decide +kernel)) ggX8_setupOf_X3_errorOf
set_option maxRecDepth 20000 in
theorem ggX8_setupOf_X3_riseOf : GoodIn wsX8_setupOf wsX3_riseOf := goodIn_r _ [52, 53, 16, 17, 6, 18, 19, 20, 21, 22, 23, 54, 25, 26, 27, 28, 29, 30, 31, 32, 33, 34, 35, 36, 37, 38, 39, 40, 41, 42, 43, 44, 45, 46, 47, 48, 67, 68, 69, 70] (by decide +kernel) (by decide +kernel)
set_option maxRecDepth 20000 in
theorem gX8_setupOf_X3_riseOf : GoodIn wsX8_setupOf (wsV RX8 155 RX3 yX3_riseOf wsX3_riseOf) := goodIn_app (goodIn_of _ (by decide +kernel)) ggX8_setupOf_X3_riseOf
set_option maxRecDepth 20000 in
theorem ggX8_setupOf_X3_get : GoodIn wsX8_setupOf wsX3_get := goodIn_r _ [22, 23, 67, 68, 69, 70] (by decide +kernel) (by decide +kernel)
set_option maxRecDepth 20000 in
theorem gX8_setupOf_X3_get : GoodIn wsX8_setupOf (wsV RX8 129 RX3 yX3_get wsX3_get) := goodIn_app (goodIn_of _ (by decide +kernel)) ggX8_setupOf_X3_get
theorem dX8_setupOf_0 : decode cX8_setupOf 0 = .ok (.aload_n 0, 1) := by decide +kernel
theorem dX8_setupOf_1 : decode cX8_setupOf 1 = .ok (.getfield 19, 3) := by decide +kernel
theorem dX8_setupOf_4 : decode cX8_setupOf 4 = .ok (.iload_n 1, 1) := by decide +kernel
theorem dX8_setupOf_5 : decode cX8_setupOf 5 = .ok (.invokevirtual 115, 3) := by decide +kernel
theorem dX8_setupOf_8 : decode cX8_setupOf 8 = .ok (.ifCond .eq 13, 3) := by decide +kernel
theorem dX8_setupOf_11 : decode cX8_setupOf 11 = .ok (.iload_n 2, 1) := by decide +kernel
theorem dX8_setupOf_12 : decode cX8_setupOf 12 = .ok (.ifCond .lt 9, 3) := by decide +kernel
theorem dX8_setupOf_15 : decode cX8_setupOf 15 = .ok (.iload_n 2, 1) := by decide +kernel
theorem dX8_setupOf_16 : decode cX8_setupOf 16 = .ok (.bipush 10, 2) := by decide +kernel
theorem dX8_setupOf_18 : decode cX8_setupOf 18 = .ok (.if_icmp .le 13, 3) := by decide +kernel
theorem dX8_setupOf_21 : decode cX8_setupOf 21 = .ok (.ldc 125, 2) := by decide +kernel
theorem dX8_setupOf_23 : decode cX8_setupOf 23 = .ok (.aload_n 0, 1) := by decide +kernel
theorem dX8_setupOf_24 : decode cX8_setupOf 24 = .ok (.bipush (-5), 2) := by decide +kernel
theorem dX8_setupOf_26 : decode cX8_setupOf 26 = .ok (.invokevirtual 77, 3) := by decide +kernel
theorem dX8_setupOf_29 : decode cX8_setupOf 29 = .ok (.iadd, 1) := by decide +kernel
theorem dX8_setupOf_30 : decode cX8_setupOf 30 = .ok (.ireturn, 1) := by decide +kernel
theorem dX8_setupOf_31 : decode cX8_setupOf 31 = .ok (.iload_n 2, 1) := by decide +kernel
theorem dX8_setupOf_32 : decode cX8_setupOf 32 = .ok (.tableswitch 63 8 10 #[28, 37, 54], 28) := by decide +kernel
theorem dX8_setupOf_60 : decode cX8_setupOf 60 = .ok (.aload_n 0, 1) := by decide +kernel
theorem dX8_setupOf_61 : decode cX8_setupOf 61 = .ok (.getfield 19, 3) := by decide +kernel
theorem dX8_setupOf_64 : decode cX8_setupOf 64 = .ok (.iload_n 1, 1) := by decide +kernel
theorem dX8_setupOf_65 : decode cX8_setupOf 65 = .ok (.invokevirtual 149, 3) := by decide +kernel
theorem dX8_setupOf_68 : decode cX8_setupOf 68 = .ok (.ireturn, 1) := by decide +kernel
theorem dX8_setupOf_69 : decode cX8_setupOf 69 = .ok (.aload_n 0, 1) := by decide +kernel
theorem dX8_setupOf_70 : decode cX8_setupOf 70 = .ok (.getfield 19, 3) := by decide +kernel
theorem dX8_setupOf_73 : decode cX8_setupOf 73 = .ok (.iload_n 1, 1) := by decide +kernel
theorem dX8_setupOf_74 : decode cX8_setupOf 74 = .ok (.aload_n 0, 1) := by decide +kernel
theorem dX8_setupOf_75 : decode cX8_setupOf 75 = .ok (.getfield 19, 3) := by decide +kernel
theorem dX8_setupOf_78 : decode cX8_setupOf 78 = .ok (.iload_n 1, 1) := by decide +kernel
theorem dX8_setupOf_79 : decode cX8_setupOf 79 = .ok (.invokevirtual 149, 3) := by decide +kernel
theorem dX8_setupOf_82 : decode cX8_setupOf 82 = .ok (.invokevirtual 152, 3) := by decide +kernel
theorem dX8_setupOf_85 : decode cX8_setupOf 85 = .ok (.ireturn, 1) := by decide +kernel
theorem dX8_setupOf_86 : decode cX8_setupOf 86 = .ok (.aload_n 0, 1) := by decide +kernel
theorem dX8_setupOf_87 : decode cX8_setupOf 87 = .ok (.getfield 19, 3) := by decide +kernel
theorem dX8_setupOf_90 : decode cX8_setupOf 90 = .ok (.iload_n 1, 1) := by decide +kernel
theorem dX8_setupOf_91 : decode cX8_setupOf 91 = .ok (.invokevirtual 155, 3) := by decide +kernel
theorem dX8_setupOf_94 : decode cX8_setupOf 94 = .ok (.ireturn, 1) := by decide +kernel
theorem dX8_setupOf_95 : decode cX8_setupOf 95 = .ok (.aload_n 0, 1) := by decide +kernel
theorem dX8_setupOf_96 : decode cX8_setupOf 96 = .ok (.getfield 19, 3) := by decide +kernel
theorem dX8_setupOf_99 : decode cX8_setupOf 99 = .ok (.iload_n 1, 1) := by decide +kernel
theorem dX8_setupOf_100 : decode cX8_setupOf 100 = .ok (.iload_n 2, 1) := by decide +kernel
theorem dX8_setupOf_101 : decode cX8_setupOf 101 = .ok (.invokevirtual 129, 3) := by decide +kernel
theorem dX8_setupOf_104 : decode cX8_setupOf 104 = .ok (.ireturn, 1) := by decide +kernel
set_option maxRecDepth 20000 in
theorem ggX8_tell_X3_hasSetUp : GoodIn wsX8_tell wsX3_hasSetUp := goodIn_r _ [6, 7, 42, 43, 44, 45] (by decide +kernel) (by decide +kernel)
set_option maxRecDepth 20000 in
theorem gX8_tell_X3_hasSetUp : GoodIn wsX8_tell (wsV RX8 115 RX3 yX3_hasSetUp wsX3_hasSetUp) := goodIn_app (goodIn_of _ (by decide +kernel)) ggX8_tell_X3_hasSetUp
set_option maxRecDepth 20000 in
theorem ggX8_tell_X8_refuse : GoodIn wsX8_tell wsX8_refuse := goodIn_r _ [12, 13, 31, 32, 33, 34, 35, 36, 37, 38, 39, 40, 41] (by decide +kernel) (by decide +kernel)
set_option maxRecDepth 20000 in
theorem gX8_tell_X8_refuse : GoodIn wsX8_tell (wsV RX8 77 RX8 yX8_refuse wsX8_refuse) := goodIn_app (goodIn_of _ (by decide +kernel)) ggX8_tell_X8_refuse
set_option maxRecDepth 20000 in
theorem ggX8_tell_X8_toldColumn : GoodIn wsX8_tell wsX8_toldColumn := goodIn_r _ [16] (by decide +kernel) (by decide +kernel)
set_option maxRecDepth 20000 in
theorem gX8_tell_X8_toldColumn : GoodIn wsX8_tell (va_wsS RX8 158 yX8_toldColumn wsX8_toldColumn) := goodIn_app (goodIn_of _ (by decide +kernel)) ggX8_tell_X8_toldColumn
set_option maxRecDepth 20000 in
theorem ggX8_tell_X3_fits : GoodIn wsX8_tell wsX3_fits := goodIn_r _ [19, 20, 21] (by decide +kernel) (by decide +kernel)
set_option maxRecDepth 20000 in
theorem gX8_tell_X3_fits : GoodIn wsX8_tell (va_wsS RX8 135 yX3_fits wsX3_fits) := goodIn_app (goodIn_of _ (by decide +kernel)) ggX8_tell_X3_fits
set_option maxRecDepth 20000 in
theorem ggX8_tell_X3_get : GoodIn wsX8_tell wsX3_get := goodIn_r _ [25, 26, 42, 43, 44, 45] (by decide +kernel) (by decide +kernel)
set_option maxRecDepth 20000 in
theorem gX8_tell_X3_get : GoodIn wsX8_tell (wsV RX8 129 RX3 yX3_get wsX3_get) := goodIn_app (goodIn_of _ (by decide +kernel)) ggX8_tell_X3_get
set_option maxRecDepth 20000 in
theorem ggX8_tell_X3_put : GoodIn wsX8_tell wsX3_put := goodIn_r _ [30, 26, 42, 43, 44, 45] (by decide +kernel) (by decide +kernel)
set_option maxRecDepth 20000 in
theorem gX8_tell_X3_put : GoodIn wsX8_tell (wsV RX8 161 RX3 yX3_put wsX3_put) := goodIn_app (goodIn_of _ (by decide +kernel)) ggX8_tell_X3_put
theorem dX8_tell_0 : decode cX8_tell 0 = .ok (.aload_n 0, 1) := by decide +kernel
theorem dX8_tell_1 : decode cX8_tell 1 = .ok (.getfield 19, 3) := by decide +kernel
theorem dX8_tell_4 : decode cX8_tell 4 = .ok (.iload_n 1, 1) := by decide +kernel
theorem dX8_tell_5 : decode cX8_tell 5 = .ok (.invokevirtual 115, 3) := by decide +kernel
theorem dX8_tell_8 : decode cX8_tell 8 = .ok (.ifCond .ne 9, 3) := by decide +kernel
theorem dX8_tell_11 : decode cX8_tell 11 = .ok (.aload_n 0, 1) := by decide +kernel
theorem dX8_tell_12 : decode cX8_tell 12 = .ok (.iconst (-1), 1) := by decide +kernel
theorem dX8_tell_13 : decode cX8_tell 13 = .ok (.invokevirtual 77, 3) := by decide +kernel
theorem dX8_tell_16 : decode cX8_tell 16 = .ok (.ireturn, 1) := by decide +kernel
theorem dX8_tell_17 : decode cX8_tell 17 = .ok (.iload_n 2, 1) := by decide +kernel
theorem dX8_tell_18 : decode cX8_tell 18 = .ok (.invokestatic 158, 3) := by decide +kernel
theorem dX8_tell_21 : decode cX8_tell 21 = .ok (.istore 4, 2) := by decide +kernel
theorem dX8_tell_23 : decode cX8_tell 23 = .ok (.iload 4, 2) := by decide +kernel
theorem dX8_tell_25 : decode cX8_tell 25 = .ok (.iconst (-1), 1) := by decide +kernel
theorem dX8_tell_26 : decode cX8_tell 26 = .ok (.if_icmp .eq 12, 3) := by decide +kernel
theorem dX8_tell_29 : decode cX8_tell 29 = .ok (.iload 4, 2) := by decide +kernel
theorem dX8_tell_31 : decode cX8_tell 31 = .ok (.iload_n 3, 1) := by decide +kernel
theorem dX8_tell_32 : decode cX8_tell 32 = .ok (.invokestatic 135, 3) := by decide +kernel
theorem dX8_tell_35 : decode cX8_tell 35 = .ok (.ifCond .ne 10, 3) := by decide +kernel
theorem dX8_tell_38 : decode cX8_tell 38 = .ok (.aload_n 0, 1) := by decide +kernel
theorem dX8_tell_39 : decode cX8_tell 39 = .ok (.bipush (-6), 2) := by decide +kernel
theorem dX8_tell_41 : decode cX8_tell 41 = .ok (.invokevirtual 77, 3) := by decide +kernel
theorem dX8_tell_44 : decode cX8_tell 44 = .ok (.ireturn, 1) := by decide +kernel
theorem dX8_tell_45 : decode cX8_tell 45 = .ok (.aload_n 0, 1) := by decide +kernel
theorem dX8_tell_46 : decode cX8_tell 46 = .ok (.getfield 19, 3) := by decide +kernel
theorem dX8_tell_49 : decode cX8_tell 49 = .ok (.iload_n 1, 1) := by decide +kernel
theorem dX8_tell_50 : decode cX8_tell 50 = .ok (.iload 4, 2) := by decide +kernel
theorem dX8_tell_52 : decode cX8_tell 52 = .ok (.invokevirtual 129, 3) := by decide +kernel
theorem dX8_tell_55 : decode cX8_tell 55 = .ok (.istore 5, 2) := by decide +kernel
theorem dX8_tell_57 : decode cX8_tell 57 = .ok (.aload_n 0, 1) := by decide +kernel
theorem dX8_tell_58 : decode cX8_tell 58 = .ok (.getfield 19, 3) := by decide +kernel
theorem dX8_tell_61 : decode cX8_tell 61 = .ok (.iload_n 1, 1) := by decide +kernel
theorem dX8_tell_62 : decode cX8_tell 62 = .ok (.iload 4, 2) := by decide +kernel
theorem dX8_tell_64 : decode cX8_tell 64 = .ok (.iload_n 3, 1) := by decide +kernel
theorem dX8_tell_65 : decode cX8_tell 65 = .ok (.invokevirtual 161, 3) := by decide +kernel
theorem dX8_tell_68 : decode cX8_tell 68 = .ok (.iload 5, 2) := by decide +kernel
theorem dX8_tell_70 : decode cX8_tell 70 = .ok (.ireturn, 1) := by decide +kernel
set_option maxRecDepth 20000 in
theorem ggX8_ask_X3_fits : GoodIn wsX8_ask wsX3_fits := goodIn_r _ [6, 7, 8] (by decide +kernel) (by decide +kernel)
set_option maxRecDepth 20000 in
theorem gX8_ask_X3_fits : GoodIn wsX8_ask (va_wsS RX8 135 yX3_fits wsX3_fits) := goodIn_app (goodIn_of _ (by decide +kernel)) ggX8_ask_X3_fits
set_option maxRecDepth 20000 in
theorem ggX8_ask_X8_refuse : GoodIn wsX8_ask wsX8_refuse := goodIn_r _ [13, 14, 24, 25, 26, 27, 28, 29, 30, 31, 32, 33, 34] (by decide +kernel) (by decide +kernel)
set_option maxRecDepth 20000 in
theorem gX8_ask_X8_refuse : GoodIn wsX8_ask (wsV RX8 77 RX8 yX8_refuse wsX8_refuse) := goodIn_app (goodIn_of _ (by decide +kernel)) ggX8_ask_X8_refuse
set_option maxRecDepth 20000 in
theorem ggX8_ask_X3_setting : GoodIn wsX8_ask wsX3_setting := goodIn_r _ [18, 19, 35, 36, 37, 38] (by decide +kernel) (by decide +kernel)
set_option maxRecDepth 20000 in
theorem gX8_ask_X3_setting : GoodIn wsX8_ask (wsV RX8 163 RX3 yX3_setting wsX3_setting) := goodIn_app (goodIn_of _ (by decide +kernel)) ggX8_ask_X3_setting
set_option maxRecDepth 20000 in
theorem ggX8_ask_X3_putSetting : GoodIn wsX8_ask wsX3_putSetting := goodIn_r _ [23, 19, 35, 36, 37, 38] (by decide +kernel) (by decide +kernel)
set_option maxRecDepth 20000 in
theorem gX8_ask_X3_putSetting : GoodIn wsX8_ask (wsV RX8 166 RX3 yX3_putSetting wsX3_putSetting) := goodIn_app (goodIn_of _ (by decide +kernel)) ggX8_ask_X3_putSetting
theorem dX8_ask_0 : decode cX8_ask 0 = .ok (.iload_n 1, 1) := by decide +kernel
theorem dX8_ask_1 : decode cX8_ask 1 = .ok (.ifCond .lt 12, 3) := by decide +kernel
theorem dX8_ask_4 : decode cX8_ask 4 = .ok (.iload_n 1, 1) := by decide +kernel
theorem dX8_ask_5 : decode cX8_ask 5 = .ok (.iconst 3, 1) := by decide +kernel
theorem dX8_ask_6 : decode cX8_ask 6 = .ok (.if_icmp .ge 7, 3) := by decide +kernel
theorem dX8_ask_9 : decode cX8_ask 9 = .ok (.iconst 1, 1) := by decide +kernel
theorem dX8_ask_10 : decode cX8_ask 10 = .ok (.goto 4, 3) := by decide +kernel
theorem dX8_ask_13 : decode cX8_ask 13 = .ok (.iconst 0, 1) := by decide +kernel
theorem dX8_ask_14 : decode cX8_ask 14 = .ok (.istore_n 3, 1) := by decide +kernel
theorem dX8_ask_15 : decode cX8_ask 15 = .ok (.iload_n 3, 1) := by decide +kernel
theorem dX8_ask_16 : decode cX8_ask 16 = .ok (.ifCond .eq 14, 3) := by decide +kernel
theorem dX8_ask_19 : decode cX8_ask 19 = .ok (.bipush 8, 2) := by decide +kernel
theorem dX8_ask_21 : decode cX8_ask 21 = .ok (.iload_n 1, 1) := by decide +kernel
theorem dX8_ask_22 : decode cX8_ask 22 = .ok (.iadd, 1) := by decide +kernel
theorem dX8_ask_23 : decode cX8_ask 23 = .ok (.iload_n 2, 1) := by decide +kernel
theorem dX8_ask_24 : decode cX8_ask 24 = .ok (.invokestatic 135, 3) := by decide +kernel
theorem dX8_ask_27 : decode cX8_ask 27 = .ok (.ifCond .ne 13, 3) := by decide +kernel
theorem dX8_ask_30 : decode cX8_ask 30 = .ok (.ldc 125, 2) := by decide +kernel
theorem dX8_ask_32 : decode cX8_ask 32 = .ok (.aload_n 0, 1) := by decide +kernel
theorem dX8_ask_33 : decode cX8_ask 33 = .ok (.bipush (-6), 2) := by decide +kernel
theorem dX8_ask_35 : decode cX8_ask 35 = .ok (.invokevirtual 77, 3) := by decide +kernel
theorem dX8_ask_38 : decode cX8_ask 38 = .ok (.iadd, 1) := by decide +kernel
theorem dX8_ask_39 : decode cX8_ask 39 = .ok (.ireturn, 1) := by decide +kernel
theorem dX8_ask_40 : decode cX8_ask 40 = .ok (.aload_n 0, 1) := by decide +kernel
theorem dX8_ask_41 : decode cX8_ask 41 = .ok (.getfield 19, 3) := by decide +kernel
theorem dX8_ask_44 : decode cX8_ask 44 = .ok (.bipush 8, 2) := by decide +kernel
theorem dX8_ask_46 : decode cX8_ask 46 = .ok (.iload_n 1, 1) := by decide +kernel
theorem dX8_ask_47 : decode cX8_ask 47 = .ok (.iadd, 1) := by decide +kernel
theorem dX8_ask_48 : decode cX8_ask 48 = .ok (.invokevirtual 163, 3) := by decide +kernel
theorem dX8_ask_51 : decode cX8_ask 51 = .ok (.istore 4, 2) := by decide +kernel
theorem dX8_ask_53 : decode cX8_ask 53 = .ok (.aload_n 0, 1) := by decide +kernel
theorem dX8_ask_54 : decode cX8_ask 54 = .ok (.getfield 19, 3) := by decide +kernel
theorem dX8_ask_57 : decode cX8_ask 57 = .ok (.bipush 8, 2) := by decide +kernel
theorem dX8_ask_59 : decode cX8_ask 59 = .ok (.iload_n 1, 1) := by decide +kernel
theorem dX8_ask_60 : decode cX8_ask 60 = .ok (.iadd, 1) := by decide +kernel
theorem dX8_ask_61 : decode cX8_ask 61 = .ok (.iload_n 2, 1) := by decide +kernel
theorem dX8_ask_62 : decode cX8_ask 62 = .ok (.invokevirtual 166, 3) := by decide +kernel
theorem dX8_ask_65 : decode cX8_ask 65 = .ok (.iload 4, 2) := by decide +kernel
theorem dX8_ask_67 : decode cX8_ask 67 = .ok (.ireturn, 1) := by decide +kernel
set_option maxRecDepth 20000 in
theorem ggX8_loop_X8_rowRefusal : GoodIn wsX8_loop wsX8_rowRefusal := goodIn_r _ [9, 3, 10, 11, 12, 13, 14, 15, 16, 17, 18, 19, 20, 21, 22, 23, 24, 201, 202, 203, 204, 205, 206, 207, 208, 209, 210, 211, 212, 213, 214] (by decide +kernel) (by decide +kernel)
set_option maxRecDepth 20000 in
theorem gX8_loop_X8_rowRefusal : GoodIn wsX8_loop (wsV RX8 85 RX8 yX8_rowRefusal wsX8_rowRefusal) := goodIn_app (goodIn_of _ (by decide +kernel)) ggX8_loop_X8_rowRefusal
set_option maxRecDepth 20000 in
theorem ggX8_loop_X8_refuse : GoodIn wsX8_loop wsX8_refuse := goodIn_r _ [28, 29, 201, 202, 203, 204, 205, 206, 207, 208, 209, 210, 211] (by decide +kernel) (by decide +kernel)
set_option maxRecDepth 20000 in
theorem gX8_loop_X8_refuse : GoodIn wsX8_loop (wsV RX8 77 RX8 yX8_refuse wsX8_refuse) := goodIn_app (goodIn_of _ (by decide +kernel)) ggX8_loop_X8_refuse
set_option maxRecDepth 20000 in
theorem ggX8_loop_X4_readOver : GoodIn wsX8_loop wsX4_readOver := goodIn_r _ [34, 35, 36, 37, 38, 39, 40, 41, 42, 43, 44, 45, 46, 13, 47, 48, 20, 11, 12, 14, 49, 50, 51, 52, 53, 54, 55, 56, 57, 58, 59, 60, 61, 62, 63, 64, 65, 66, 67, 68, 69, 70, 71, 72, 73, 74, 75, 76, 77, 78, 33, 79, 80, 81, 82, 83, 84, 85, 86, 87, 88, 89, 90, 91, 92, 93, 94, 95, 96, 97, 98, 99, 100, 101, 102, 103, 104, 105, 106, 107, 108, 109, 110, 111, 112, 113, 114, 115, 116, 117, 118, 119, 120, 121, 122, 123, 124, 125, 126, 127, 128, 129, 130, 131, 132, 133, 134, 135, 136, 137, 138, 139, 140, 141, 142, 143, 144, 145, 146, 147, 148, 149, 150, 151, 152, 153, 154, 155, 156, 157, 158, 159, 160, 161, 162, 163, 164, 165, 166, 167, 168, 169, 170, 171, 172, 173, 174, 175, 176, 177, 178, 179, 180, 181, 182, 183, 184, 185, 186, 187, 188, 189, 190, 191, 192, 193, 194, 195, 196, 215, 216, 217, 218, 219, 220, 212, 213, 214, 221, 222, 223, 224] (by decide +kernel) (by decide +kernel)
set_option maxRecDepth 20000 in
theorem gX8_loop_X4_readOver : GoodIn wsX8_loop (wsV RX8 169 RX4 yX4_readOver wsX4_readOver) := goodIn_app (goodIn_of _ (by decide +kernel)) ggX8_loop_X4_readOver
set_option maxRecDepth 20000 in
theorem ggX8_loop_X4_faultPlace : GoodIn wsX8_loop wsX4_faultPlace := goodIn_r _ [200, 42, 215, 216, 217, 218, 219, 220] (by decide +kernel) (by decide +kernel)
set_option maxRecDepth 20000 in
theorem gX8_loop_X4_faultPlace : GoodIn wsX8_loop (wsV RX8 173 RX4 yX4_faultPlace wsX4_faultPlace) := goodIn_app (goodIn_of _ (by decide +kernel)) ggX8_loop_X4_faultPlace
theorem dX8_loop_0 : decode cX8_loop 0 = .ok (.aload_n 0, 1) := by decide +kernel
theorem dX8_loop_1 : decode cX8_loop 1 = .ok (.iload_n 1, 1) := by decide +kernel
theorem dX8_loop_2 : decode cX8_loop 2 = .ok (.invokevirtual 85, 3) := by decide +kernel
theorem dX8_loop_5 : decode cX8_loop 5 = .ok (.istore_n 2, 1) := by decide +kernel
theorem dX8_loop_6 : decode cX8_loop 6 = .ok (.iload_n 2, 1) := by decide +kernel
theorem dX8_loop_7 : decode cX8_loop 7 = .ok (.ifCond .eq 9, 3) := by decide +kernel
theorem dX8_loop_10 : decode cX8_loop 10 = .ok (.aload_n 0, 1) := by decide +kernel
theorem dX8_loop_11 : decode cX8_loop 11 = .ok (.iload_n 2, 1) := by decide +kernel
theorem dX8_loop_12 : decode cX8_loop 12 = .ok (.invokevirtual 77, 3) := by decide +kernel
theorem dX8_loop_15 : decode cX8_loop 15 = .ok (.ireturn, 1) := by decide +kernel
theorem dX8_loop_16 : decode cX8_loop 16 = .ok (.aload_n 0, 1) := by decide +kernel
theorem dX8_loop_17 : decode cX8_loop 17 = .ok (.getfield 29, 3) := by decide +kernel
theorem dX8_loop_20 : decode cX8_loop 20 = .ok (.aload_n 0, 1) := by decide +kernel
theorem dX8_loop_21 : decode cX8_loop 21 = .ok (.getfield 19, 3) := by decide +kernel
theorem dX8_loop_24 : decode cX8_loop 24 = .ok (.aload_n 0, 1) := by decide +kernel
theorem dX8_loop_25 : decode cX8_loop 25 = .ok (.getfield 10, 3) := by decide +kernel
theorem dX8_loop_28 : decode cX8_loop 28 = .ok (.iload_n 1, 1) := by decide +kernel
theorem dX8_loop_29 : decode cX8_loop 29 = .ok (.invokevirtual 169, 3) := by decide +kernel
theorem dX8_loop_32 : decode cX8_loop 32 = .ok (.istore_n 3, 1) := by decide +kernel
theorem dX8_loop_33 : decode cX8_loop 33 = .ok (.aload_n 0, 1) := by decide +kernel
theorem dX8_loop_34 : decode cX8_loop 34 = .ok (.aload_n 0, 1) := by decide +kernel
theorem dX8_loop_35 : decode cX8_loop 35 = .ok (.getfield 29, 3) := by decide +kernel
theorem dX8_loop_38 : decode cX8_loop 38 = .ok (.invokevirtual 173, 3) := by decide +kernel
theorem dX8_loop_41 : decode cX8_loop 41 = .ok (.putfield 69, 3) := by decide +kernel
theorem dX8_loop_44 : decode cX8_loop 44 = .ok (.aload_n 0, 1) := by decide +kernel
theorem dX8_loop_45 : decode cX8_loop 45 = .ok (.getfield 69, 3) := by decide +kernel
theorem dX8_loop_48 : decode cX8_loop 48 = .ok (.iconst (-1), 1) := by decide +kernel
theorem dX8_loop_49 : decode cX8_loop 49 = .ok (.if_icmp .ne 7, 3) := by decide +kernel
theorem dX8_loop_52 : decode cX8_loop 52 = .ok (.iload_n 3, 1) := by decide +kernel
theorem dX8_loop_53 : decode cX8_loop 53 = .ok (.goto 9, 3) := by decide +kernel
theorem dX8_loop_56 : decode cX8_loop 56 = .ok (.aload_n 0, 1) := by decide +kernel
theorem dX8_loop_57 : decode cX8_loop 57 = .ok (.bipush (-6), 2) := by decide +kernel
theorem dX8_loop_59 : decode cX8_loop 59 = .ok (.invokevirtual 77, 3) := by decide +kernel
theorem dX8_loop_62 : decode cX8_loop 62 = .ok (.ireturn, 1) := by decide +kernel
theorem dX8_fault_0 : decode cX8_fault 0 = .ok (.aload_n 0, 1) := by decide +kernel
theorem dX8_fault_1 : decode cX8_fault 1 = .ok (.getfield 69, 3) := by decide +kernel
theorem dX8_fault_4 : decode cX8_fault 4 = .ok (.ireturn, 1) := by decide +kernel
set_option maxRecDepth 20000 in
theorem ggX8_height_X3_count : GoodIn wsX8_height wsX3_count := goodIn_r _ [7, 8, 72, 73, 74, 75] (by decide +kernel) (by decide +kernel)
set_option maxRecDepth 20000 in
theorem gX8_height_X3_count : GoodIn wsX8_height (wsV RX8 145 RX3 yX3_count wsX3_count) := goodIn_app (goodIn_of _ (by decide +kernel)) ggX8_height_X3_count
set_option maxRecDepth 20000 in
theorem ggX8_height_X8_refuse : GoodIn wsX8_height wsX8_refuse := goodIn_r _ [13, 14, 61, 62, 63, 64, 65, 66, 67, 68, 69, 70, 71] (by decide +kernel) (by decide +kernel)
set_option maxRecDepth 20000 in
theorem gX8_height_X8_refuse : GoodIn wsX8_height (wsV RX8 77 RX8 yX8_refuse wsX8_refuse) := goodIn_app (goodIn_of _ (by decide +kernel)) ggX8_height_X8_refuse
set_option maxRecDepth 20000 in
theorem ggX8_height_X3_heightAt : GoodIn wsX8_height wsX3_heightAt := goodIn_r _ [18, 19, 20, 21, 6, 22, 23, 24, 25, 26, 27, 8, 28, 29, 30, 31, 32, 33, 34, 35, 36, 37, 38, 39, 40, 41, 42, 43, 44, 45, 46, 47, 48, 49, 50, 51, 52, 53, 54, 55, 56, 57, 58, 59, 60, 72, 73, 74, 75] (by decide +kernel) (by decide +kernel)
set_option maxRecDepth 20000 in
theorem gX8_height_X3_heightAt : GoodIn wsX8_height (wsV RX8 176 RX3 yX3_heightAt wsX3_heightAt) := goodIn_app (goodIn_of _ (by decide +kernel)) ggX8_height_X3_heightAt
theorem dX8_height_0 : decode cX8_height 0 = .ok (.iload_n 1, 1) := by decide +kernel
theorem dX8_height_1 : decode cX8_height 1 = .ok (.ifCond .lt 14, 3) := by decide +kernel
theorem dX8_height_4 : decode cX8_height 4 = .ok (.iload_n 1, 1) := by decide +kernel
theorem dX8_height_5 : decode cX8_height 5 = .ok (.aload_n 0, 1) := by decide +kernel
theorem dX8_height_6 : decode cX8_height 6 = .ok (.getfield 19, 3) := by decide +kernel
theorem dX8_height_9 : decode cX8_height 9 = .ok (.invokevirtual 145, 3) := by decide +kernel
theorem dX8_height_12 : decode cX8_height 12 = .ok (.if_icmp .le 13, 3) := by decide +kernel
theorem dX8_height_15 : decode cX8_height 15 = .ok (.ldc 125, 2) := by decide +kernel
theorem dX8_height_17 : decode cX8_height 17 = .ok (.aload_n 0, 1) := by decide +kernel
theorem dX8_height_18 : decode cX8_height 18 = .ok (.bipush (-5), 2) := by decide +kernel
theorem dX8_height_20 : decode cX8_height 20 = .ok (.invokevirtual 77, 3) := by decide +kernel
theorem dX8_height_23 : decode cX8_height 23 = .ok (.iadd, 1) := by decide +kernel
theorem dX8_height_24 : decode cX8_height 24 = .ok (.ireturn, 1) := by decide +kernel
theorem dX8_height_25 : decode cX8_height 25 = .ok (.aload_n 0, 1) := by decide +kernel
theorem dX8_height_26 : decode cX8_height 26 = .ok (.getfield 19, 3) := by decide +kernel
theorem dX8_height_29 : decode cX8_height 29 = .ok (.iload_n 1, 1) := by decide +kernel
theorem dX8_height_30 : decode cX8_height 30 = .ok (.invokevirtual 176, 3) := by decide +kernel
theorem dX8_height_33 : decode cX8_height 33 = .ok (.ireturn, 1) := by decide +kernel
set_option maxRecDepth 20000 in
theorem ggX8_off_X3_count : GoodIn wsX8_off wsX3_count := goodIn_r _ [11, 12, 80, 81, 82, 83] (by decide +kernel) (by decide +kernel)
set_option maxRecDepth 20000 in
theorem gX8_off_X3_count : GoodIn wsX8_off (wsV RX8 145 RX3 yX3_count wsX3_count) := goodIn_app (goodIn_of _ (by decide +kernel)) ggX8_off_X3_count
set_option maxRecDepth 20000 in
theorem ggX8_off_X3_risesAheadOf : GoodIn wsX8_off wsX3_risesAheadOf := goodIn_r _ [16, 12, 17, 18, 19, 10, 20, 21, 22, 23, 24, 25, 26, 27, 28, 29, 30, 31, 32, 33, 34, 35, 36, 37, 38, 39, 40, 41, 42, 43, 44, 45, 46, 47, 48, 49, 50, 51, 52, 53, 54, 80, 81, 82, 83] (by decide +kernel) (by decide +kernel)
set_option maxRecDepth 20000 in
theorem gX8_off_X3_risesAheadOf : GoodIn wsX8_off (wsV RX8 179 RX3 yX3_risesAheadOf wsX3_risesAheadOf) := goodIn_app (goodIn_of _ (by decide +kernel)) ggX8_off_X3_risesAheadOf
set_option maxRecDepth 20000 in
theorem ggX8_off_X3_rawInAll : GoodIn wsX8_off wsX3_rawInAll := goodIn_r _ [58, 12, 21, 22, 23, 10, 24, 25, 26, 27, 28, 29, 80, 81, 82, 83] (by decide +kernel) (by decide +kernel)
set_option maxRecDepth 20000 in
theorem gX8_off_X3_rawInAll : GoodIn wsX8_off (wsV RX8 182 RX3 yX3_rawInAll wsX3_rawInAll) := goodIn_app (goodIn_of _ (by decide +kernel)) ggX8_off_X3_rawInAll
set_option maxRecDepth 20000 in
theorem ggX8_off_X3_mayBeOff : GoodIn wsX8_off wsX3_mayBeOff := goodIn_r _ [62, 12, 38, 39, 40, 10, 41, 42, 80, 81, 82, 83] (by decide +kernel) (by decide +kernel)
set_option maxRecDepth 20000 in
theorem gX8_off_X3_mayBeOff : GoodIn wsX8_off (wsV RX8 185 RX3 yX3_mayBeOff wsX3_mayBeOff) := goodIn_app (goodIn_of _ (by decide +kernel)) ggX8_off_X3_mayBeOff
set_option maxRecDepth 20000 in
theorem ggX8_off_X8_refuse : GoodIn wsX8_off wsX8_refuse := goodIn_r _ [67, 68, 69, 70, 71, 72, 73, 74, 75, 76, 77, 78, 79] (by decide +kernel) (by decide +kernel)
set_option maxRecDepth 20000 in
theorem gX8_off_X8_refuse : GoodIn wsX8_off (wsV RX8 77 RX8 yX8_refuse wsX8_refuse) := goodIn_app (goodIn_of _ (by decide +kernel)) ggX8_off_X8_refuse
theorem dX8_off_0 : decode cX8_off 0 = .ok (.iload_n 1, 1) := by decide +kernel
theorem dX8_off_1 : decode cX8_off 1 = .ok (.tableswitch 95 0 3 #[31, 46, 54, 62], 31) := by decide +kernel
theorem dX8_off_32 : decode cX8_off 32 = .ok (.aload_n 0, 1) := by decide +kernel
theorem dX8_off_33 : decode cX8_off 33 = .ok (.getfield 19, 3) := by decide +kernel
theorem dX8_off_36 : decode cX8_off 36 = .ok (.aload_n 0, 1) := by decide +kernel
theorem dX8_off_37 : decode cX8_off 37 = .ok (.getfield 19, 3) := by decide +kernel
theorem dX8_off_40 : decode cX8_off 40 = .ok (.invokevirtual 145, 3) := by decide +kernel
theorem dX8_off_43 : decode cX8_off 43 = .ok (.invokevirtual 179, 3) := by decide +kernel
theorem dX8_off_46 : decode cX8_off 46 = .ok (.ireturn, 1) := by decide +kernel
theorem dX8_off_47 : decode cX8_off 47 = .ok (.aload_n 0, 1) := by decide +kernel
theorem dX8_off_48 : decode cX8_off 48 = .ok (.getfield 19, 3) := by decide +kernel
theorem dX8_off_51 : decode cX8_off 51 = .ok (.invokevirtual 182, 3) := by decide +kernel
theorem dX8_off_54 : decode cX8_off 54 = .ok (.ireturn, 1) := by decide +kernel
theorem dX8_off_55 : decode cX8_off 55 = .ok (.aload_n 0, 1) := by decide +kernel
theorem dX8_off_56 : decode cX8_off 56 = .ok (.getfield 19, 3) := by decide +kernel
theorem dX8_off_59 : decode cX8_off 59 = .ok (.invokevirtual 185, 3) := by decide +kernel
theorem dX8_off_62 : decode cX8_off 62 = .ok (.ireturn, 1) := by decide +kernel
theorem dX8_off_63 : decode cX8_off 63 = .ok (.aload_n 0, 1) := by decide +kernel
theorem dX8_off_64 : decode cX8_off 64 = .ok (.getfield 19, 3) := by decide +kernel
theorem dX8_off_67 : decode cX8_off 67 = .ok (.aload_n 0, 1) := by decide +kernel
theorem dX8_off_68 : decode cX8_off 68 = .ok (.getfield 19, 3) := by decide +kernel
theorem dX8_off_71 : decode cX8_off 71 = .ok (.invokevirtual 145, 3) := by decide +kernel
theorem dX8_off_74 : decode cX8_off 74 = .ok (.invokevirtual 179, 3) := by decide +kernel
theorem dX8_off_77 : decode cX8_off 77 = .ok (.invokestatic 188, 3) := by decide +kernel
theorem dX8_off_80 : decode cX8_off 80 = .ok (.aload_n 0, 1) := by decide +kernel
theorem dX8_off_81 : decode cX8_off 81 = .ok (.getfield 19, 3) := by decide +kernel
theorem dX8_off_84 : decode cX8_off 84 = .ok (.invokevirtual 185, 3) := by decide +kernel
theorem dX8_off_87 : decode cX8_off 87 = .ok (.if_icmp .le 7, 3) := by decide +kernel
theorem dX8_off_90 : decode cX8_off 90 = .ok (.iconst 1, 1) := by decide +kernel
theorem dX8_off_91 : decode cX8_off 91 = .ok (.goto 4, 3) := by decide +kernel
theorem dX8_off_94 : decode cX8_off 94 = .ok (.iconst 0, 1) := by decide +kernel
theorem dX8_off_95 : decode cX8_off 95 = .ok (.ireturn, 1) := by decide +kernel
theorem dX8_off_96 : decode cX8_off 96 = .ok (.ldc 125, 2) := by decide +kernel
theorem dX8_off_98 : decode cX8_off 98 = .ok (.aload_n 0, 1) := by decide +kernel
theorem dX8_off_99 : decode cX8_off 99 = .ok (.bipush (-5), 2) := by decide +kernel
theorem dX8_off_101 : decode cX8_off 101 = .ok (.invokevirtual 77, 3) := by decide +kernel
theorem dX8_off_104 : decode cX8_off 104 = .ok (.iadd, 1) := by decide +kernel
theorem dX8_off_105 : decode cX8_off 105 = .ok (.ireturn, 1) := by decide +kernel
set_option maxRecDepth 20000 in
theorem ggX8_spread_X3_count : GoodIn wsX8_spread wsX3_count := goodIn_r _ [7, 8, 80, 81, 82, 83] (by decide +kernel) (by decide +kernel)
set_option maxRecDepth 20000 in
theorem gX8_spread_X3_count : GoodIn wsX8_spread (wsV RX8 145 RX3 yX3_count wsX3_count) := goodIn_app (goodIn_of _ (by decide +kernel)) ggX8_spread_X3_count
set_option maxRecDepth 20000 in
theorem ggX8_spread_X8_refuse : GoodIn wsX8_spread wsX8_refuse := goodIn_r _ [13, 14, 69, 70, 71, 72, 73, 74, 75, 76, 77, 78, 79] (by decide +kernel) (by decide +kernel)
set_option maxRecDepth 20000 in
theorem gX8_spread_X8_refuse : GoodIn wsX8_spread (wsV RX8 77 RX8 yX8_refuse wsX8_refuse) := goodIn_app (goodIn_of _ (by decide +kernel)) ggX8_spread_X8_refuse
set_option maxRecDepth 20000 in
theorem ggX8_spread_X3_risesAheadOf : GoodIn wsX8_spread wsX3_risesAheadOf := goodIn_r _ [18, 8, 19, 20, 21, 6, 22, 23, 24, 25, 26, 27, 28, 29, 30, 31, 32, 33, 34, 35, 36, 37, 38, 39, 40, 41, 42, 43, 44, 45, 46, 47, 48, 49, 50, 51, 52, 53, 54, 55, 56, 80, 81, 82, 83] (by decide +kernel) (by decide +kernel)
set_option maxRecDepth 20000 in
theorem gX8_spread_X3_risesAheadOf : GoodIn wsX8_spread (wsV RX8 179 RX3 yX3_risesAheadOf wsX3_risesAheadOf) := goodIn_app (goodIn_of _ (by decide +kernel)) ggX8_spread_X3_risesAheadOf
set_option maxRecDepth 20000 in
theorem ggX8_spread_X3_weightAheadOf : GoodIn wsX8_spread wsX3_weightAheadOf := goodIn_r _ [60, 8, 53, 54, 55, 6, 56, 27, 28, 29, 30, 31, 80, 81, 82, 83] (by decide +kernel) (by decide +kernel)
set_option maxRecDepth 20000 in
theorem gX8_spread_X3_weightAheadOf : GoodIn wsX8_spread (wsV RX8 193 RX3 yX3_weightAheadOf wsX3_weightAheadOf) := goodIn_app (goodIn_of _ (by decide +kernel)) ggX8_spread_X3_weightAheadOf
set_option maxRecDepth 20000 in
theorem ggX8_spread_X3_heightAt : GoodIn wsX8_spread wsX3_heightAt := goodIn_r _ [64, 40, 41, 42, 6, 43, 44, 65, 16, 17, 18, 8, 19, 20, 21, 22, 23, 24, 25, 26, 27, 28, 29, 30, 31, 32, 33, 34, 35, 36, 37, 38, 39, 45, 46, 47, 48, 49, 50, 51, 52, 53, 54, 55, 56, 80, 81, 82, 83] (by decide +kernel) (by decide +kernel)
set_option maxRecDepth 20000 in
theorem gX8_spread_X3_heightAt : GoodIn wsX8_spread (wsV RX8 176 RX3 yX3_heightAt wsX3_heightAt) := goodIn_app (goodIn_of _ (by decide +kernel)) ggX8_spread_X3_heightAt
set_option maxRecDepth 20000 in
theorem ggX8_spread_X8_shareOf : GoodIn wsX8_spread wsX8_shareOf := goodIn_r _ [68] (by decide +kernel) (by decide +kernel)
set_option maxRecDepth 20000 in
theorem gX8_spread_X8_shareOf : GoodIn wsX8_spread (va_wsS RX8 196 yX8_shareOf wsX8_shareOf) := goodIn_app (goodIn_of _ (by decide +kernel)) ggX8_spread_X8_shareOf
theorem dX8_spread_0 : decode cX8_spread 0 = .ok (.iload_n 2, 1) := by decide +kernel
theorem dX8_spread_1 : decode cX8_spread 1 = .ok (.ifCond .lt 27, 3) := by decide +kernel
theorem dX8_spread_4 : decode cX8_spread 4 = .ok (.iload_n 2, 1) := by decide +kernel
theorem dX8_spread_5 : decode cX8_spread 5 = .ok (.aload_n 0, 1) := by decide +kernel
theorem dX8_spread_6 : decode cX8_spread 6 = .ok (.getfield 19, 3) := by decide +kernel
theorem dX8_spread_9 : decode cX8_spread 9 = .ok (.invokevirtual 145, 3) := by decide +kernel
theorem dX8_spread_12 : decode cX8_spread 12 = .ok (.if_icmp .gt 16, 3) := by decide +kernel
theorem dX8_spread_15 : decode cX8_spread 15 = .ok (.iload_n 1, 1) := by decide +kernel
theorem dX8_spread_16 : decode cX8_spread 16 = .ok (.ifCond .lt 12, 3) := by decide +kernel
theorem dX8_spread_19 : decode cX8_spread 19 = .ok (.iload_n 1, 1) := by decide +kernel
theorem dX8_spread_20 : decode cX8_spread 20 = .ok (.iconst 2, 1) := by decide +kernel
theorem dX8_spread_21 : decode cX8_spread 21 = .ok (.if_icmp .gt 7, 3) := by decide +kernel
theorem dX8_spread_24 : decode cX8_spread 24 = .ok (.iconst 1, 1) := by decide +kernel
theorem dX8_spread_25 : decode cX8_spread 25 = .ok (.goto 4, 3) := by decide +kernel
theorem dX8_spread_28 : decode cX8_spread 28 = .ok (.iconst 0, 1) := by decide +kernel
theorem dX8_spread_29 : decode cX8_spread 29 = .ok (.istore_n 3, 1) := by decide +kernel
theorem dX8_spread_30 : decode cX8_spread 30 = .ok (.iload_n 3, 1) := by decide +kernel
theorem dX8_spread_31 : decode cX8_spread 31 = .ok (.ifCond .eq 13, 3) := by decide +kernel
theorem dX8_spread_34 : decode cX8_spread 34 = .ok (.aload_n 0, 1) := by decide +kernel
theorem dX8_spread_35 : decode cX8_spread 35 = .ok (.getfield 19, 3) := by decide +kernel
theorem dX8_spread_38 : decode cX8_spread 38 = .ok (.invokevirtual 145, 3) := by decide +kernel
theorem dX8_spread_41 : decode cX8_spread 41 = .ok (.ifCond .ne 13, 3) := by decide +kernel
theorem dX8_spread_44 : decode cX8_spread 44 = .ok (.ldc 125, 2) := by decide +kernel
theorem dX8_spread_46 : decode cX8_spread 46 = .ok (.aload_n 0, 1) := by decide +kernel
theorem dX8_spread_47 : decode cX8_spread 47 = .ok (.bipush (-5), 2) := by decide +kernel
theorem dX8_spread_49 : decode cX8_spread 49 = .ok (.invokevirtual 77, 3) := by decide +kernel
theorem dX8_spread_52 : decode cX8_spread 52 = .ok (.iadd, 1) := by decide +kernel
theorem dX8_spread_53 : decode cX8_spread 53 = .ok (.ireturn, 1) := by decide +kernel
theorem dX8_spread_54 : decode cX8_spread 54 = .ok (.aload_n 0, 1) := by decide +kernel
theorem dX8_spread_55 : decode cX8_spread 55 = .ok (.getfield 19, 3) := by decide +kernel
theorem dX8_spread_58 : decode cX8_spread 58 = .ok (.aload_n 0, 1) := by decide +kernel
theorem dX8_spread_59 : decode cX8_spread 59 = .ok (.getfield 19, 3) := by decide +kernel
theorem dX8_spread_62 : decode cX8_spread 62 = .ok (.invokevirtual 145, 3) := by decide +kernel
theorem dX8_spread_65 : decode cX8_spread 65 = .ok (.invokevirtual 179, 3) := by decide +kernel
theorem dX8_spread_68 : decode cX8_spread 68 = .ok (.istore 4, 2) := by decide +kernel
theorem dX8_spread_70 : decode cX8_spread 70 = .ok (.aload_n 0, 1) := by decide +kernel
theorem dX8_spread_71 : decode cX8_spread 71 = .ok (.getfield 19, 3) := by decide +kernel
theorem dX8_spread_74 : decode cX8_spread 74 = .ok (.iload_n 2, 1) := by decide +kernel
theorem dX8_spread_75 : decode cX8_spread 75 = .ok (.iload_n 1, 1) := by decide +kernel
theorem dX8_spread_76 : decode cX8_spread 76 = .ok (.invokevirtual 193, 3) := by decide +kernel
theorem dX8_spread_79 : decode cX8_spread 79 = .ok (.lstore 5, 2) := by decide +kernel
theorem dX8_spread_81 : decode cX8_spread 81 = .ok (.aload_n 0, 1) := by decide +kernel
theorem dX8_spread_82 : decode cX8_spread 82 = .ok (.getfield 19, 3) := by decide +kernel
theorem dX8_spread_85 : decode cX8_spread 85 = .ok (.iload_n 2, 1) := by decide +kernel
theorem dX8_spread_86 : decode cX8_spread 86 = .ok (.invokevirtual 176, 3) := by decide +kernel
theorem dX8_spread_89 : decode cX8_spread 89 = .ok (.iload 4, 2) := by decide +kernel
theorem dX8_spread_91 : decode cX8_spread 91 = .ok (.lload 5, 2) := by decide +kernel
theorem dX8_spread_93 : decode cX8_spread 93 = .ok (.aload_n 0, 1) := by decide +kernel
theorem dX8_spread_94 : decode cX8_spread 94 = .ok (.getfield 19, 3) := by decide +kernel
theorem dX8_spread_97 : decode cX8_spread 97 = .ok (.aload_n 0, 1) := by decide +kernel
theorem dX8_spread_98 : decode cX8_spread 98 = .ok (.getfield 19, 3) := by decide +kernel
theorem dX8_spread_101 : decode cX8_spread 101 = .ok (.invokevirtual 145, 3) := by decide +kernel
theorem dX8_spread_104 : decode cX8_spread 104 = .ok (.iload_n 1, 1) := by decide +kernel
theorem dX8_spread_105 : decode cX8_spread 105 = .ok (.invokevirtual 193, 3) := by decide +kernel
theorem dX8_spread_108 : decode cX8_spread 108 = .ok (.invokestatic 196, 3) := by decide +kernel
theorem dX8_spread_111 : decode cX8_spread 111 = .ok (.isub, 1) := by decide +kernel
theorem dX8_spread_112 : decode cX8_spread 112 = .ok (.ireturn, 1) := by decide +kernel
set_option maxRecDepth 20000 in
theorem ggX8_big_X8_refuse : GoodIn wsX8_big wsX8_refuse := goodIn_r _ [7, 8, 91, 92, 93, 94, 95, 96, 97, 98, 99, 100, 101] (by decide +kernel) (by decide +kernel)
set_option maxRecDepth 20000 in
theorem gX8_big_X8_refuse : GoodIn wsX8_big (wsV RX8 77 RX8 yX8_refuse wsX8_refuse) := goodIn_app (goodIn_of _ (by decide +kernel)) ggX8_big_X8_refuse
set_option maxRecDepth 20000 in
theorem ggX8_big_X7_search : GoodIn wsX8_big wsX7_search := goodIn_r _ [13, 14, 15, 16, 17, 18, 19, 20, 21, 22, 23, 24, 25, 26, 27, 28, 29, 30, 31, 32, 33, 34, 35, 36, 37, 38, 39, 40, 41, 42, 43, 44, 45, 46, 47, 48, 49, 50, 51, 52, 53, 54, 55, 56, 57, 58, 59, 60, 61, 62, 63, 64, 65, 66, 67, 68, 69, 70, 71, 72, 12, 73, 74, 75, 76, 77, 78, 79, 80, 81, 82, 102, 103, 104, 105, 106, 107, 108, 109, 110, 111, 112, 113, 114, 115] (by decide +kernel) (by decide +kernel)
set_option maxRecDepth 20000 in
theorem gX8_big_X7_search : GoodIn wsX8_big (wsV RX8 200 RX7 yX7_search wsX7_search) := goodIn_app (goodIn_of _ (by decide +kernel)) ggX8_big_X7_search
set_option maxRecDepth 20000 in
theorem ggX8_big_X7_found : GoodIn wsX8_big wsX7_found := goodIn_r _ [86, 14, 102, 103, 104, 105, 106, 107, 108, 109, 110, 111] (by decide +kernel) (by decide +kernel)
set_option maxRecDepth 20000 in
theorem gX8_big_X7_found : GoodIn wsX8_big (wsV RX8 204 RX7 yX7_found wsX7_found) := goodIn_app (goodIn_of _ (by decide +kernel)) ggX8_big_X7_found
set_option maxRecDepth 20000 in
theorem ggX8_big_X7_firstOf : GoodIn wsX8_big wsX7_firstOf := goodIn_r _ [90, 78, 79, 80, 81, 102, 103, 104, 105, 106, 107, 108, 109, 110, 111] (by decide +kernel) (by decide +kernel)
set_option maxRecDepth 20000 in
theorem gX8_big_X7_firstOf : GoodIn wsX8_big (wsV RX8 207 RX7 yX7_firstOf wsX7_firstOf) := goodIn_app (goodIn_of _ (by decide +kernel)) ggX8_big_X7_firstOf
theorem dX8_big_0 : decode cX8_big 0 = .ok (.iload_n 1, 1) := by decide +kernel
theorem dX8_big_1 : decode cX8_big 1 = .ok (.iconst (-1), 1) := by decide +kernel
theorem dX8_big_2 : decode cX8_big 2 = .ok (.if_icmp .lt 8, 3) := by decide +kernel
theorem dX8_big_5 : decode cX8_big 5 = .ok (.iload_n 1, 1) := by decide +kernel
theorem dX8_big_6 : decode cX8_big 6 = .ok (.iconst 3, 1) := by decide +kernel
theorem dX8_big_7 : decode cX8_big 7 = .ok (.if_icmp .le 10, 3) := by decide +kernel
theorem dX8_big_10 : decode cX8_big 10 = .ok (.aload_n 0, 1) := by decide +kernel
theorem dX8_big_11 : decode cX8_big 11 = .ok (.bipush (-5), 2) := by decide +kernel
theorem dX8_big_13 : decode cX8_big 13 = .ok (.invokevirtual 77, 3) := by decide +kernel
theorem dX8_big_16 : decode cX8_big 16 = .ok (.ireturn, 1) := by decide +kernel
theorem dX8_big_17 : decode cX8_big 17 = .ok (.aload_n 0, 1) := by decide +kernel
theorem dX8_big_18 : decode cX8_big 18 = .ok (.getfield 36, 3) := by decide +kernel
theorem dX8_big_21 : decode cX8_big 21 = .ok (.aload_n 0, 1) := by decide +kernel
theorem dX8_big_22 : decode cX8_big 22 = .ok (.getfield 19, 3) := by decide +kernel
theorem dX8_big_25 : decode cX8_big 25 = .ok (.invokevirtual 200, 3) := by decide +kernel
theorem dX8_big_28 : decode cX8_big 28 = .ok (.iload_n 1, 1) := by decide +kernel
theorem dX8_big_29 : decode cX8_big 29 = .ok (.iconst (-1), 1) := by decide +kernel
theorem dX8_big_30 : decode cX8_big 30 = .ok (.if_icmp .ne 11, 3) := by decide +kernel
theorem dX8_big_33 : decode cX8_big 33 = .ok (.aload_n 0, 1) := by decide +kernel
theorem dX8_big_34 : decode cX8_big 34 = .ok (.getfield 36, 3) := by decide +kernel
theorem dX8_big_37 : decode cX8_big 37 = .ok (.invokevirtual 204, 3) := by decide +kernel
theorem dX8_big_40 : decode cX8_big 40 = .ok (.ireturn, 1) := by decide +kernel
theorem dX8_big_41 : decode cX8_big 41 = .ok (.aload_n 0, 1) := by decide +kernel
theorem dX8_big_42 : decode cX8_big 42 = .ok (.getfield 36, 3) := by decide +kernel
theorem dX8_big_45 : decode cX8_big 45 = .ok (.invokevirtual 204, 3) := by decide +kernel
theorem dX8_big_48 : decode cX8_big 48 = .ok (.ifCond .ne 10, 3) := by decide +kernel
theorem dX8_big_51 : decode cX8_big 51 = .ok (.aload_n 0, 1) := by decide +kernel
theorem dX8_big_52 : decode cX8_big 52 = .ok (.bipush (-5), 2) := by decide +kernel
theorem dX8_big_54 : decode cX8_big 54 = .ok (.invokevirtual 77, 3) := by decide +kernel
theorem dX8_big_57 : decode cX8_big 57 = .ok (.ireturn, 1) := by decide +kernel
theorem dX8_big_58 : decode cX8_big 58 = .ok (.aload_n 0, 1) := by decide +kernel
theorem dX8_big_59 : decode cX8_big 59 = .ok (.getfield 36, 3) := by decide +kernel
theorem dX8_big_62 : decode cX8_big 62 = .ok (.iload_n 1, 1) := by decide +kernel
theorem dX8_big_63 : decode cX8_big 63 = .ok (.invokevirtual 207, 3) := by decide +kernel
theorem dX8_big_66 : decode cX8_big 66 = .ok (.ireturn, 1) := by decide +kernel
set_option maxRecDepth 20000 in
theorem ggX8_parts_X8_rowRefusal : GoodIn wsX8_parts wsX8_rowRefusal := goodIn_r _ [9, 1, 10, 11, 12, 13, 14, 15, 16, 17, 18, 19, 20, 21, 22, 23, 24, 114, 115, 116, 117, 118, 119, 120, 121, 122, 123, 124, 125, 126, 127] (by decide +kernel) (by decide +kernel)
set_option maxRecDepth 20000 in
theorem gX8_parts_X8_rowRefusal : GoodIn wsX8_parts (wsV RX8 85 RX8 yX8_rowRefusal wsX8_rowRefusal) := goodIn_app (goodIn_of _ (by decide +kernel)) ggX8_parts_X8_rowRefusal
set_option maxRecDepth 20000 in
theorem ggX8_parts_X5_lengthOf : GoodIn wsX8_parts wsX5_lengthOf := goodIn_r _ [28, 29, 20, 11, 12, 13, 14, 125, 126, 127] (by decide +kernel) (by decide +kernel)
set_option maxRecDepth 20000 in
theorem gX8_parts_X5_lengthOf : GoodIn wsX8_parts (wsV RX8 210 RX5 yX5_lengthOf wsX5_lengthOf) := goodIn_app (goodIn_of _ (by decide +kernel)) ggX8_parts_X5_lengthOf
set_option maxRecDepth 20000 in
theorem ggX8_parts_X3_count : GoodIn wsX8_parts wsX3_count := goodIn_r _ [34, 35, 128, 129, 130, 131] (by decide +kernel) (by decide +kernel)
set_option maxRecDepth 20000 in
theorem gX8_parts_X3_count : GoodIn wsX8_parts (wsV RX8 145 RX3 yX3_count wsX3_count) := goodIn_app (goodIn_of _ (by decide +kernel)) ggX8_parts_X3_count
set_option maxRecDepth 20000 in
theorem ggX8_parts_X8_refuse : GoodIn wsX8_parts wsX8_refuse := goodIn_r _ [39, 40, 114, 115, 116, 117, 118, 119, 120, 121, 122, 123, 124] (by decide +kernel) (by decide +kernel)
set_option maxRecDepth 20000 in
theorem gX8_parts_X8_refuse : GoodIn wsX8_parts (wsV RX8 77 RX8 yX8_refuse wsX8_refuse) := goodIn_app (goodIn_of _ (by decide +kernel)) ggX8_parts_X8_refuse
set_option maxRecDepth 20000 in
theorem ggX8_parts_X2_search : GoodIn wsX8_parts wsX2_search := goodIn_r _ [45, 46, 47, 48, 49, 50, 51, 52, 53, 54, 33, 55, 56, 57, 31, 32, 34, 35, 58, 59, 60, 61, 62, 63, 64, 65, 66, 67, 68, 69, 70, 71, 72, 73, 74, 75, 76, 77, 78, 79, 80, 81, 82, 83, 84, 85, 86, 87, 88, 89, 90, 91, 92, 93, 94, 13, 95, 96, 97, 98, 99, 100, 101, 102, 103, 104, 105, 26, 27, 28, 29, 20, 11, 12, 14, 132, 133, 128, 129, 130, 131, 125, 126, 127] (by decide +kernel) (by decide +kernel)
set_option maxRecDepth 20000 in
theorem gX8_parts_X2_search : GoodIn wsX8_parts (wsV RX8 213 RX2 yX2_search wsX2_search) := goodIn_app (goodIn_of _ (by decide +kernel)) ggX8_parts_X2_search
set_option maxRecDepth 20000 in
theorem ggX8_parts_X2_worst : GoodIn wsX8_parts wsX2_worst := goodIn_r _ [109, 51, 132, 133] (by decide +kernel) (by decide +kernel)
set_option maxRecDepth 20000 in
theorem gX8_parts_X2_worst : GoodIn wsX8_parts (wsV RX8 216 RX2 yX2_worst wsX2_worst) := goodIn_app (goodIn_of _ (by decide +kernel)) ggX8_parts_X2_worst
set_option maxRecDepth 20000 in
theorem ggX8_parts_X2_worstBy : GoodIn wsX8_parts wsX2_worstBy := goodIn_r _ [113, 50, 132, 133] (by decide +kernel) (by decide +kernel)
set_option maxRecDepth 20000 in
theorem gX8_parts_X2_worstBy : GoodIn wsX8_parts (wsV RX8 219 RX2 yX2_worstBy wsX2_worstBy) := goodIn_app (goodIn_of _ (by decide +kernel)) ggX8_parts_X2_worstBy
theorem dX8_parts_0 : decode cX8_parts 0 = .ok (.aload_n 0, 1) := by decide +kernel
theorem dX8_parts_1 : decode cX8_parts 1 = .ok (.iload_n 1, 1) := by decide +kernel
theorem dX8_parts_2 : decode cX8_parts 2 = .ok (.invokevirtual 85, 3) := by decide +kernel
theorem dX8_parts_5 : decode cX8_parts 5 = .ok (.istore_n 3, 1) := by decide +kernel
theorem dX8_parts_6 : decode cX8_parts 6 = .ok (.iload_n 2, 1) := by decide +kernel
theorem dX8_parts_7 : decode cX8_parts 7 = .ok (.ifCond .eq 8, 3) := by decide +kernel
theorem dX8_parts_10 : decode cX8_parts 10 = .ok (.iload_n 2, 1) := by decide +kernel
theorem dX8_parts_11 : decode cX8_parts 11 = .ok (.iconst 1, 1) := by decide +kernel
theorem dX8_parts_12 : decode cX8_parts 12 = .ok (.if_icmp .ne 7, 3) := by decide +kernel
theorem dX8_parts_15 : decode cX8_parts 15 = .ok (.iconst 1, 1) := by decide +kernel
theorem dX8_parts_16 : decode cX8_parts 16 = .ok (.goto 4, 3) := by decide +kernel
theorem dX8_parts_19 : decode cX8_parts 19 = .ok (.iconst 0, 1) := by decide +kernel
theorem dX8_parts_20 : decode cX8_parts 20 = .ok (.istore 4, 2) := by decide +kernel
theorem dX8_parts_22 : decode cX8_parts 22 = .ok (.iload_n 3, 1) := by decide +kernel
theorem dX8_parts_23 : decode cX8_parts 23 = .ok (.ifCond .ne 39, 3) := by decide +kernel
theorem dX8_parts_26 : decode cX8_parts 26 = .ok (.aload_n 0, 1) := by decide +kernel
theorem dX8_parts_27 : decode cX8_parts 27 = .ok (.getfield 10, 3) := by decide +kernel
theorem dX8_parts_30 : decode cX8_parts 30 = .ok (.iload_n 1, 1) := by decide +kernel
theorem dX8_parts_31 : decode cX8_parts 31 = .ok (.invokevirtual 210, 3) := by decide +kernel
theorem dX8_parts_34 : decode cX8_parts 34 = .ok (.aload_n 0, 1) := by decide +kernel
theorem dX8_parts_35 : decode cX8_parts 35 = .ok (.getfield 19, 3) := by decide +kernel
theorem dX8_parts_38 : decode cX8_parts 38 = .ok (.invokevirtual 145, 3) := by decide +kernel
theorem dX8_parts_41 : decode cX8_parts 41 = .ok (.if_icmp .lt 18, 3) := by decide +kernel
theorem dX8_parts_44 : decode cX8_parts 44 = .ok (.iload 4, 2) := by decide +kernel
theorem dX8_parts_46 : decode cX8_parts 46 = .ok (.ifCond .eq 13, 3) := by decide +kernel
theorem dX8_parts_49 : decode cX8_parts 49 = .ok (.aload_n 0, 1) := by decide +kernel
theorem dX8_parts_50 : decode cX8_parts 50 = .ok (.getfield 19, 3) := by decide +kernel
theorem dX8_parts_53 : decode cX8_parts 53 = .ok (.invokevirtual 145, 3) := by decide +kernel
theorem dX8_parts_56 : decode cX8_parts 56 = .ok (.ifCond .ne 6, 3) := by decide +kernel
theorem dX8_parts_59 : decode cX8_parts 59 = .ok (.bipush (-5), 2) := by decide +kernel
theorem dX8_parts_61 : decode cX8_parts 61 = .ok (.istore_n 3, 1) := by decide +kernel
theorem dX8_parts_62 : decode cX8_parts 62 = .ok (.iload_n 3, 1) := by decide +kernel
theorem dX8_parts_63 : decode cX8_parts 63 = .ok (.ifCond .eq 12, 3) := by decide +kernel
theorem dX8_parts_66 : decode cX8_parts 66 = .ok (.ldc 125, 2) := by decide +kernel
theorem dX8_parts_68 : decode cX8_parts 68 = .ok (.aload_n 0, 1) := by decide +kernel
theorem dX8_parts_69 : decode cX8_parts 69 = .ok (.iload_n 3, 1) := by decide +kernel
theorem dX8_parts_70 : decode cX8_parts 70 = .ok (.invokevirtual 77, 3) := by decide +kernel
theorem dX8_parts_73 : decode cX8_parts 73 = .ok (.iadd, 1) := by decide +kernel
theorem dX8_parts_74 : decode cX8_parts 74 = .ok (.ireturn, 1) := by decide +kernel
theorem dX8_parts_75 : decode cX8_parts 75 = .ok (.aload_n 0, 1) := by decide +kernel
theorem dX8_parts_76 : decode cX8_parts 76 = .ok (.getfield 50, 3) := by decide +kernel
theorem dX8_parts_79 : decode cX8_parts 79 = .ok (.aload_n 0, 1) := by decide +kernel
theorem dX8_parts_80 : decode cX8_parts 80 = .ok (.getfield 19, 3) := by decide +kernel
theorem dX8_parts_83 : decode cX8_parts 83 = .ok (.aload_n 0, 1) := by decide +kernel
theorem dX8_parts_84 : decode cX8_parts 84 = .ok (.getfield 10, 3) := by decide +kernel
theorem dX8_parts_87 : decode cX8_parts 87 = .ok (.iload_n 1, 1) := by decide +kernel
theorem dX8_parts_88 : decode cX8_parts 88 = .ok (.invokevirtual 213, 3) := by decide +kernel
theorem dX8_parts_91 : decode cX8_parts 91 = .ok (.iload_n 2, 1) := by decide +kernel
theorem dX8_parts_92 : decode cX8_parts 92 = .ok (.ifCond .ne 13, 3) := by decide +kernel
theorem dX8_parts_95 : decode cX8_parts 95 = .ok (.aload_n 0, 1) := by decide +kernel
theorem dX8_parts_96 : decode cX8_parts 96 = .ok (.getfield 50, 3) := by decide +kernel
theorem dX8_parts_99 : decode cX8_parts 99 = .ok (.invokevirtual 216, 3) := by decide +kernel
theorem dX8_parts_102 : decode cX8_parts 102 = .ok (.goto 10, 3) := by decide +kernel
theorem dX8_parts_105 : decode cX8_parts 105 = .ok (.aload_n 0, 1) := by decide +kernel
theorem dX8_parts_106 : decode cX8_parts 106 = .ok (.getfield 50, 3) := by decide +kernel
theorem dX8_parts_109 : decode cX8_parts 109 = .ok (.invokevirtual 219, 3) := by decide +kernel
theorem dX8_parts_112 : decode cX8_parts 112 = .ok (.ireturn, 1) := by decide +kernel
set_option maxRecDepth 20000 in
theorem ggX8_again_X8_refuse : GoodIn wsX8_again wsX8_refuse := goodIn_r _ [6, 7, 29, 30, 31, 32, 33, 34, 35, 36, 37, 38, 39] (by decide +kernel) (by decide +kernel)
set_option maxRecDepth 20000 in
theorem gX8_again_X8_refuse : GoodIn wsX8_again (wsV RX8 77 RX8 yX8_refuse wsX8_refuse) := goodIn_app (goodIn_of _ (by decide +kernel)) ggX8_again_X8_refuse
set_option maxRecDepth 20000 in
theorem ggX8_again_X3_count : GoodIn wsX8_again wsX3_count := goodIn_r _ [12, 13, 40, 41, 42, 43] (by decide +kernel) (by decide +kernel)
set_option maxRecDepth 20000 in
theorem gX8_again_X3_count : GoodIn wsX8_again (wsV RX8 145 RX3 yX3_count wsX3_count) := goodIn_app (goodIn_of _ (by decide +kernel)) ggX8_again_X3_count
set_option maxRecDepth 20000 in
theorem ggX8_again_X3_yardsOf : GoodIn wsX8_again wsX3_yardsOf := goodIn_r _ [17, 18, 19, 20, 11, 21, 22, 40, 41, 42, 43] (by decide +kernel) (by decide +kernel)
set_option maxRecDepth 20000 in
theorem gX8_again_X3_yardsOf : GoodIn wsX8_again (wsV RX8 126 RX3 yX3_yardsOf wsX3_yardsOf) := goodIn_app (goodIn_of _ (by decide +kernel)) ggX8_again_X3_yardsOf
set_option maxRecDepth 20000 in
theorem ggX8_again_X3_get : GoodIn wsX8_again wsX3_get := goodIn_r _ [21, 22, 40, 41, 42, 43] (by decide +kernel) (by decide +kernel)
set_option maxRecDepth 20000 in
theorem gX8_again_X3_get : GoodIn wsX8_again (wsV RX8 129 RX3 yX3_get wsX3_get) := goodIn_app (goodIn_of _ (by decide +kernel)) ggX8_again_X3_get
set_option maxRecDepth 20000 in
theorem ggX8_again_X1_weightOf : GoodIn wsX8_again wsX1_weightOf := goodIn_r _ [27, 28] (by decide +kernel) (by decide +kernel)
set_option maxRecDepth 20000 in
theorem gX8_again_X1_weightOf : GoodIn wsX8_again (va_wsS RX8 222 yX1_weightOf wsX1_weightOf) := goodIn_app (goodIn_of _ (by decide +kernel)) ggX8_again_X1_weightOf
theorem dX8_again_0 : decode cX8_again 0 = .ok (.iload_n 1, 1) := by decide +kernel
theorem dX8_again_1 : decode cX8_again 1 = .ok (.ifCond .ge 13, 3) := by decide +kernel
theorem dX8_again_4 : decode cX8_again 4 = .ok (.bipush (-10), 2) := by decide +kernel
theorem dX8_again_6 : decode cX8_again 6 = .ok (.aload_n 0, 1) := by decide +kernel
theorem dX8_again_7 : decode cX8_again 7 = .ok (.bipush (-6), 2) := by decide +kernel
theorem dX8_again_9 : decode cX8_again 9 = .ok (.invokevirtual 77, 3) := by decide +kernel
theorem dX8_again_12 : decode cX8_again 12 = .ok (.iadd, 1) := by decide +kernel
theorem dX8_again_13 : decode cX8_again 13 = .ok (.ireturn, 1) := by decide +kernel
theorem dX8_again_14 : decode cX8_again 14 = .ok (.iconst (-1), 1) := by decide +kernel
theorem dX8_again_15 : decode cX8_again 15 = .ok (.istore_n 2, 1) := by decide +kernel
theorem dX8_again_16 : decode cX8_again 16 = .ok (.iconst 0, 1) := by decide +kernel
theorem dX8_again_17 : decode cX8_again 17 = .ok (.istore_n 3, 1) := by decide +kernel
theorem dX8_again_18 : decode cX8_again 18 = .ok (.iconst 0, 1) := by decide +kernel
theorem dX8_again_19 : decode cX8_again 19 = .ok (.istore 4, 2) := by decide +kernel
theorem dX8_again_21 : decode cX8_again 21 = .ok (.iload 4, 2) := by decide +kernel
theorem dX8_again_23 : decode cX8_again 23 = .ok (.aload_n 0, 1) := by decide +kernel
theorem dX8_again_24 : decode cX8_again 24 = .ok (.getfield 19, 3) := by decide +kernel
theorem dX8_again_27 : decode cX8_again 27 = .ok (.invokevirtual 145, 3) := by decide +kernel
theorem dX8_again_30 : decode cX8_again 30 = .ok (.if_icmp .ge 93, 3) := by decide +kernel
theorem dX8_again_33 : decode cX8_again 33 = .ok (.iconst 0, 1) := by decide +kernel
theorem dX8_again_34 : decode cX8_again 34 = .ok (.istore 5, 2) := by decide +kernel
theorem dX8_again_36 : decode cX8_again 36 = .ok (.iconst 0, 1) := by decide +kernel
theorem dX8_again_37 : decode cX8_again 37 = .ok (.istore 6, 2) := by decide +kernel
theorem dX8_again_39 : decode cX8_again 39 = .ok (.iload 4, 2) := by decide +kernel
theorem dX8_again_41 : decode cX8_again 41 = .ok (.istore 7, 2) := by decide +kernel
theorem dX8_again_43 : decode cX8_again 43 = .ok (.iload 7, 2) := by decide +kernel
theorem dX8_again_45 : decode cX8_again 45 = .ok (.aload_n 0, 1) := by decide +kernel
theorem dX8_again_46 : decode cX8_again 46 = .ok (.getfield 19, 3) := by decide +kernel
theorem dX8_again_49 : decode cX8_again 49 = .ok (.invokevirtual 145, 3) := by decide +kernel
theorem dX8_again_52 : decode cX8_again 52 = .ok (.if_icmp .ge 65, 3) := by decide +kernel
theorem dX8_again_55 : decode cX8_again 55 = .ok (.iload 5, 2) := by decide +kernel
theorem dX8_again_57 : decode cX8_again 57 = .ok (.aload_n 0, 1) := by decide +kernel
theorem dX8_again_58 : decode cX8_again 58 = .ok (.getfield 19, 3) := by decide +kernel
theorem dX8_again_61 : decode cX8_again 61 = .ok (.iload 7, 2) := by decide +kernel
theorem dX8_again_63 : decode cX8_again 63 = .ok (.invokevirtual 126, 3) := by decide +kernel
theorem dX8_again_66 : decode cX8_again 66 = .ok (.iadd, 1) := by decide +kernel
theorem dX8_again_67 : decode cX8_again 67 = .ok (.istore 5, 2) := by decide +kernel
theorem dX8_again_69 : decode cX8_again 69 = .ok (.iload 6, 2) := by decide +kernel
theorem dX8_again_71 : decode cX8_again 71 = .ok (.aload_n 0, 1) := by decide +kernel
theorem dX8_again_72 : decode cX8_again 72 = .ok (.getfield 19, 3) := by decide +kernel
theorem dX8_again_75 : decode cX8_again 75 = .ok (.iload 7, 2) := by decide +kernel
theorem dX8_again_77 : decode cX8_again 77 = .ok (.iconst 0, 1) := by decide +kernel
theorem dX8_again_78 : decode cX8_again 78 = .ok (.invokevirtual 129, 3) := by decide +kernel
theorem dX8_again_81 : decode cX8_again 81 = .ok (.invokestatic 222, 3) := by decide +kernel
theorem dX8_again_84 : decode cX8_again 84 = .ok (.iadd, 1) := by decide +kernel
theorem dX8_again_85 : decode cX8_again 85 = .ok (.istore 6, 2) := by decide +kernel
theorem dX8_again_87 : decode cX8_again 87 = .ok (.iload 5, 2) := by decide +kernel
theorem dX8_again_89 : decode cX8_again 89 = .ok (.iload_n 1, 1) := by decide +kernel
theorem dX8_again_90 : decode cX8_again 90 = .ok (.if_icmp .gt 21, 3) := by decide +kernel
theorem dX8_again_93 : decode cX8_again 93 = .ok (.iload 6, 2) := by decide +kernel
theorem dX8_again_95 : decode cX8_again 95 = .ok (.iload_n 3, 1) := by decide +kernel
theorem dX8_again_96 : decode cX8_again 96 = .ok (.if_icmp .le 15, 3) := by decide +kernel
theorem dX8_again_99 : decode cX8_again 99 = .ok (.bipush 100, 2) := by decide +kernel
theorem dX8_again_101 : decode cX8_again 101 = .ok (.iload 4, 2) := by decide +kernel
theorem dX8_again_103 : decode cX8_again 103 = .ok (.imul, 1) := by decide +kernel
theorem dX8_again_104 : decode cX8_again 104 = .ok (.iload 7, 2) := by decide +kernel
theorem dX8_again_106 : decode cX8_again 106 = .ok (.iadd, 1) := by decide +kernel
theorem dX8_again_107 : decode cX8_again 107 = .ok (.istore_n 2, 1) := by decide +kernel
theorem dX8_again_108 : decode cX8_again 108 = .ok (.iload 6, 2) := by decide +kernel
theorem dX8_again_110 : decode cX8_again 110 = .ok (.istore_n 3, 1) := by decide +kernel
theorem dX8_again_111 : decode cX8_again 111 = .ok (.iinc 7 1, 3) := by decide +kernel
theorem dX8_again_114 : decode cX8_again 114 = .ok (.goto (-71), 3) := by decide +kernel
theorem dX8_again_117 : decode cX8_again 117 = .ok (.iinc 4 1, 3) := by decide +kernel
theorem dX8_again_120 : decode cX8_again 120 = .ok (.goto (-99), 3) := by decide +kernel
theorem dX8_again_123 : decode cX8_again 123 = .ok (.iload_n 2, 1) := by decide +kernel
theorem dX8_again_124 : decode cX8_again 124 = .ok (.ireturn, 1) := by decide +kernel
set_option maxRecDepth 20000 in
theorem ggX8_order_X8_refuse : GoodIn wsX8_order wsX8_refuse := goodIn_r _ [8, 9, 58, 59, 60, 61, 62, 63, 64, 65, 66, 67, 68] (by decide +kernel) (by decide +kernel)
set_option maxRecDepth 20000 in
theorem gX8_order_X8_refuse : GoodIn wsX8_order (wsV RX8 77 RX8 yX8_refuse wsX8_refuse) := goodIn_app (goodIn_of _ (by decide +kernel)) ggX8_order_X8_refuse
set_option maxRecDepth 20000 in
theorem ggX8_order_X6_search : GoodIn wsX8_order wsX6_search := goodIn_r _ [14, 15, 16, 17, 18, 19, 20, 21, 22, 23, 24, 25, 26, 27, 28, 29, 30, 31, 32, 33, 13, 34, 35, 36, 37, 38, 39, 40, 41, 42, 43, 44, 45, 46, 47, 48, 49, 69, 70, 71, 72, 73, 74, 75, 76] (by decide +kernel) (by decide +kernel)
set_option maxRecDepth 20000 in
theorem gX8_order_X6_search : GoodIn wsX8_order (wsV RX8 227 RX6 yX6_search wsX6_search) := goodIn_app (goodIn_of _ (by decide +kernel)) ggX8_order_X6_search
set_option maxRecDepth 20000 in
theorem ggX8_order_X6_leastBits : GoodIn wsX8_order wsX6_leastBits := goodIn_r _ [53, 48, 69, 70, 71, 72] (by decide +kernel) (by decide +kernel)
set_option maxRecDepth 20000 in
theorem gX8_order_X6_leastBits : GoodIn wsX8_order (wsV RX8 228 RX6 yX6_leastBits wsX6_leastBits) := goodIn_app (goodIn_of _ (by decide +kernel)) ggX8_order_X6_leastBits
set_option maxRecDepth 20000 in
theorem ggX8_order_X6_errorsTogether : GoodIn wsX8_order wsX6_errorsTogether := goodIn_r _ [57, 49, 69, 70, 71, 72] (by decide +kernel) (by decide +kernel)
set_option maxRecDepth 20000 in
theorem gX8_order_X6_errorsTogether : GoodIn wsX8_order (wsV RX8 231 RX6 yX6_errorsTogether wsX6_errorsTogether) := goodIn_app (goodIn_of _ (by decide +kernel)) ggX8_order_X6_errorsTogether
theorem dX8_order_0 : decode cX8_order 0 = .ok (.iload_n 1, 1) := by decide +kernel
theorem dX8_order_1 : decode cX8_order 1 = .ok (.ifCond .eq 18, 3) := by decide +kernel
theorem dX8_order_4 : decode cX8_order 4 = .ok (.iload_n 1, 1) := by decide +kernel
theorem dX8_order_5 : decode cX8_order 5 = .ok (.iconst 1, 1) := by decide +kernel
theorem dX8_order_6 : decode cX8_order 6 = .ok (.if_icmp .eq 13, 3) := by decide +kernel
theorem dX8_order_9 : decode cX8_order 9 = .ok (.ldc 125, 2) := by decide +kernel
theorem dX8_order_11 : decode cX8_order 11 = .ok (.aload_n 0, 1) := by decide +kernel
theorem dX8_order_12 : decode cX8_order 12 = .ok (.bipush (-5), 2) := by decide +kernel
theorem dX8_order_14 : decode cX8_order 14 = .ok (.invokevirtual 77, 3) := by decide +kernel
theorem dX8_order_17 : decode cX8_order 17 = .ok (.iadd, 1) := by decide +kernel
theorem dX8_order_18 : decode cX8_order 18 = .ok (.ireturn, 1) := by decide +kernel
theorem dX8_order_19 : decode cX8_order 19 = .ok (.aload_n 0, 1) := by decide +kernel
theorem dX8_order_20 : decode cX8_order 20 = .ok (.getfield 43, 3) := by decide +kernel
theorem dX8_order_23 : decode cX8_order 23 = .ok (.aload_n 0, 1) := by decide +kernel
theorem dX8_order_24 : decode cX8_order 24 = .ok (.getfield 19, 3) := by decide +kernel
theorem dX8_order_27 : decode cX8_order 27 = .ok (.invokevirtual 227, 3) := by decide +kernel
theorem dX8_order_30 : decode cX8_order 30 = .ok (.iload_n 1, 1) := by decide +kernel
theorem dX8_order_31 : decode cX8_order 31 = .ok (.ifCond .ne 13, 3) := by decide +kernel
theorem dX8_order_34 : decode cX8_order 34 = .ok (.aload_n 0, 1) := by decide +kernel
theorem dX8_order_35 : decode cX8_order 35 = .ok (.getfield 43, 3) := by decide +kernel
theorem dX8_order_38 : decode cX8_order 38 = .ok (.invokevirtual 228, 3) := by decide +kernel
theorem dX8_order_41 : decode cX8_order 41 = .ok (.goto 10, 3) := by decide +kernel
theorem dX8_order_44 : decode cX8_order 44 = .ok (.aload_n 0, 1) := by decide +kernel
theorem dX8_order_45 : decode cX8_order 45 = .ok (.getfield 43, 3) := by decide +kernel
theorem dX8_order_48 : decode cX8_order 48 = .ok (.invokevirtual 231, 3) := by decide +kernel
theorem dX8_order_51 : decode cX8_order 51 = .ok (.ireturn, 1) := by decide +kernel
set_option maxRecDepth 20000 in
theorem ggX8_meet_X3_count : GoodIn wsX8_meet wsX3_count := goodIn_r _ [7, 8, 79, 80, 81, 82] (by decide +kernel) (by decide +kernel)
set_option maxRecDepth 20000 in
theorem gX8_meet_X3_count : GoodIn wsX8_meet (wsV RX8 145 RX3 yX3_count wsX3_count) := goodIn_app (goodIn_of _ (by decide +kernel)) ggX8_meet_X3_count
set_option maxRecDepth 20000 in
theorem ggX8_meet_X8_refuse : GoodIn wsX8_meet wsX8_refuse := goodIn_r _ [13, 14, 68, 69, 70, 71, 72, 73, 74, 75, 76, 77, 78] (by decide +kernel) (by decide +kernel)
set_option maxRecDepth 20000 in
theorem gX8_meet_X8_refuse : GoodIn wsX8_meet (wsV RX8 77 RX8 yX8_refuse wsX8_refuse) := goodIn_app (goodIn_of _ (by decide +kernel)) ggX8_meet_X8_refuse
set_option maxRecDepth 20000 in
theorem ggX8_meet_X3_heightAt : GoodIn wsX8_meet wsX3_heightAt := goodIn_r _ [18, 19, 20, 21, 6, 22, 23, 24, 25, 26, 27, 8, 28, 29, 30, 31, 32, 33, 34, 35, 36, 37, 38, 39, 40, 41, 42, 43, 44, 45, 46, 47, 48, 49, 50, 51, 52, 53, 54, 55, 56, 57, 58, 59, 60, 79, 80, 81, 82] (by decide +kernel) (by decide +kernel)
set_option maxRecDepth 20000 in
theorem gX8_meet_X3_heightAt : GoodIn wsX8_meet (wsV RX8 176 RX3 yX3_heightAt wsX3_heightAt) := goodIn_app (goodIn_of _ (by decide +kernel)) ggX8_meet_X3_heightAt
set_option maxRecDepth 20000 in
theorem ggX8_meet_X3_weightAheadOf : GoodIn wsX8_meet wsX3_weightAheadOf := goodIn_r _ [64, 8, 57, 58, 59, 6, 60, 36, 37, 38, 39, 40, 79, 80, 81, 82] (by decide +kernel) (by decide +kernel)
set_option maxRecDepth 20000 in
theorem gX8_meet_X3_weightAheadOf : GoodIn wsX8_meet (wsV RX8 193 RX3 yX3_weightAheadOf wsX3_weightAheadOf) := goodIn_app (goodIn_of _ (by decide +kernel)) ggX8_meet_X3_weightAheadOf
set_option maxRecDepth 20000 in
theorem ggX8_meet_X8_shareOf : GoodIn wsX8_meet wsX8_shareOf := goodIn_r _ [67] (by decide +kernel) (by decide +kernel)
set_option maxRecDepth 20000 in
theorem gX8_meet_X8_shareOf : GoodIn wsX8_meet (va_wsS RX8 196 yX8_shareOf wsX8_shareOf) := goodIn_app (goodIn_of _ (by decide +kernel)) ggX8_meet_X8_shareOf
theorem dX8_meet_0 : decode cX8_meet 0 = .ok (.iload_n 1, 1) := by decide +kernel
theorem dX8_meet_1 : decode cX8_meet 1 = .ok (.iconst 1, 1) := by decide +kernel
theorem dX8_meet_2 : decode cX8_meet 2 = .ok (.if_icmp .lt 27, 3) := by decide +kernel
theorem dX8_meet_5 : decode cX8_meet 5 = .ok (.iload_n 1, 1) := by decide +kernel
theorem dX8_meet_6 : decode cX8_meet 6 = .ok (.aload_n 0, 1) := by decide +kernel
theorem dX8_meet_7 : decode cX8_meet 7 = .ok (.getfield 19, 3) := by decide +kernel
theorem dX8_meet_10 : decode cX8_meet 10 = .ok (.invokevirtual 145, 3) := by decide +kernel
theorem dX8_meet_13 : decode cX8_meet 13 = .ok (.if_icmp .ge 16, 3) := by decide +kernel
theorem dX8_meet_16 : decode cX8_meet 16 = .ok (.iload_n 3, 1) := by decide +kernel
theorem dX8_meet_17 : decode cX8_meet 17 = .ok (.ifCond .eq 8, 3) := by decide +kernel
theorem dX8_meet_20 : decode cX8_meet 20 = .ok (.iload_n 3, 1) := by decide +kernel
theorem dX8_meet_21 : decode cX8_meet 21 = .ok (.iconst 1, 1) := by decide +kernel
theorem dX8_meet_22 : decode cX8_meet 22 = .ok (.if_icmp .ne 7, 3) := by decide +kernel
theorem dX8_meet_25 : decode cX8_meet 25 = .ok (.iconst 1, 1) := by decide +kernel
theorem dX8_meet_26 : decode cX8_meet 26 = .ok (.goto 4, 3) := by decide +kernel
theorem dX8_meet_29 : decode cX8_meet 29 = .ok (.iconst 0, 1) := by decide +kernel
theorem dX8_meet_30 : decode cX8_meet 30 = .ok (.istore 4, 2) := by decide +kernel
theorem dX8_meet_32 : decode cX8_meet 32 = .ok (.iload 4, 2) := by decide +kernel
theorem dX8_meet_34 : decode cX8_meet 34 = .ok (.ifCond .ne 13, 3) := by decide +kernel
theorem dX8_meet_37 : decode cX8_meet 37 = .ok (.ldc 125, 2) := by decide +kernel
theorem dX8_meet_39 : decode cX8_meet 39 = .ok (.aload_n 0, 1) := by decide +kernel
theorem dX8_meet_40 : decode cX8_meet 40 = .ok (.bipush (-5), 2) := by decide +kernel
theorem dX8_meet_42 : decode cX8_meet 42 = .ok (.invokevirtual 77, 3) := by decide +kernel
theorem dX8_meet_45 : decode cX8_meet 45 = .ok (.iadd, 1) := by decide +kernel
theorem dX8_meet_46 : decode cX8_meet 46 = .ok (.ireturn, 1) := by decide +kernel
theorem dX8_meet_47 : decode cX8_meet 47 = .ok (.iload_n 2, 1) := by decide +kernel
theorem dX8_meet_48 : decode cX8_meet 48 = .ok (.sipush (-30000), 3) := by decide +kernel
theorem dX8_meet_51 : decode cX8_meet 51 = .ok (.if_icmp .lt 10, 3) := by decide +kernel
theorem dX8_meet_54 : decode cX8_meet 54 = .ok (.iload_n 2, 1) := by decide +kernel
theorem dX8_meet_55 : decode cX8_meet 55 = .ok (.sipush 30000, 3) := by decide +kernel
theorem dX8_meet_58 : decode cX8_meet 58 = .ok (.if_icmp .le 13, 3) := by decide +kernel
theorem dX8_meet_61 : decode cX8_meet 61 = .ok (.ldc 125, 2) := by decide +kernel
theorem dX8_meet_63 : decode cX8_meet 63 = .ok (.aload_n 0, 1) := by decide +kernel
theorem dX8_meet_64 : decode cX8_meet 64 = .ok (.bipush (-6), 2) := by decide +kernel
theorem dX8_meet_66 : decode cX8_meet 66 = .ok (.invokevirtual 77, 3) := by decide +kernel
theorem dX8_meet_69 : decode cX8_meet 69 = .ok (.iadd, 1) := by decide +kernel
theorem dX8_meet_70 : decode cX8_meet 70 = .ok (.ireturn, 1) := by decide +kernel
theorem dX8_meet_71 : decode cX8_meet 71 = .ok (.iload_n 2, 1) := by decide +kernel
theorem dX8_meet_72 : decode cX8_meet 72 = .ok (.aload_n 0, 1) := by decide +kernel
theorem dX8_meet_73 : decode cX8_meet 73 = .ok (.getfield 19, 3) := by decide +kernel
theorem dX8_meet_76 : decode cX8_meet 76 = .ok (.iload_n 1, 1) := by decide +kernel
theorem dX8_meet_77 : decode cX8_meet 77 = .ok (.invokevirtual 176, 3) := by decide +kernel
theorem dX8_meet_80 : decode cX8_meet 80 = .ok (.isub, 1) := by decide +kernel
theorem dX8_meet_81 : decode cX8_meet 81 = .ok (.istore 5, 2) := by decide +kernel
theorem dX8_meet_83 : decode cX8_meet 83 = .ok (.iload_n 3, 1) := by decide +kernel
theorem dX8_meet_84 : decode cX8_meet 84 = .ok (.ifCond .ne 6, 3) := by decide +kernel
theorem dX8_meet_87 : decode cX8_meet 87 = .ok (.iload 5, 2) := by decide +kernel
theorem dX8_meet_89 : decode cX8_meet 89 = .ok (.ireturn, 1) := by decide +kernel
theorem dX8_meet_90 : decode cX8_meet 90 = .ok (.iload 5, 2) := by decide +kernel
theorem dX8_meet_92 : decode cX8_meet 92 = .ok (.aload_n 0, 1) := by decide +kernel
theorem dX8_meet_93 : decode cX8_meet 93 = .ok (.getfield 19, 3) := by decide +kernel
theorem dX8_meet_96 : decode cX8_meet 96 = .ok (.iload_n 1, 1) := by decide +kernel
theorem dX8_meet_97 : decode cX8_meet 97 = .ok (.iconst 1, 1) := by decide +kernel
theorem dX8_meet_98 : decode cX8_meet 98 = .ok (.invokevirtual 193, 3) := by decide +kernel
theorem dX8_meet_101 : decode cX8_meet 101 = .ok (.aload_n 0, 1) := by decide +kernel
theorem dX8_meet_102 : decode cX8_meet 102 = .ok (.getfield 19, 3) := by decide +kernel
theorem dX8_meet_105 : decode cX8_meet 105 = .ok (.aload_n 0, 1) := by decide +kernel
theorem dX8_meet_106 : decode cX8_meet 106 = .ok (.getfield 19, 3) := by decide +kernel
theorem dX8_meet_109 : decode cX8_meet 109 = .ok (.invokevirtual 145, 3) := by decide +kernel
theorem dX8_meet_112 : decode cX8_meet 112 = .ok (.iconst 1, 1) := by decide +kernel
theorem dX8_meet_113 : decode cX8_meet 113 = .ok (.invokevirtual 193, 3) := by decide +kernel
theorem dX8_meet_116 : decode cX8_meet 116 = .ok (.invokestatic 196, 3) := by decide +kernel
theorem dX8_meet_119 : decode cX8_meet 119 = .ok (.ireturn, 1) := by decide +kernel
set_option maxRecDepth 20000 in
theorem ggX8_rose_X8_pairRefusal : GoodIn wsX8_rose wsX8_pairRefusal := goodIn_r _ [6, 7, 8, 9, 10, 11, 12, 13, 5, 14, 1, 15, 16, 17, 18, 19, 20, 21, 22, 23, 24, 25, 26, 27, 28, 29, 58, 59, 60, 61, 62, 63, 64, 65, 66, 67, 68, 69, 70, 71] (by decide +kernel) (by decide +kernel)
set_option maxRecDepth 20000 in
theorem gX8_rose_X8_pairRefusal : GoodIn wsX8_rose (wsV RX8 96 RX8 yX8_pairRefusal wsX8_pairRefusal) := goodIn_app (goodIn_of _ (by decide +kernel)) ggX8_rose_X8_pairRefusal
set_option maxRecDepth 20000 in
theorem ggX8_rose_X5_lengthOf : GoodIn wsX8_rose wsX5_lengthOf := goodIn_r _ [33, 34, 25, 16, 17, 18, 19, 69, 70, 71] (by decide +kernel) (by decide +kernel)
set_option maxRecDepth 20000 in
theorem gX8_rose_X5_lengthOf : GoodIn wsX8_rose (wsV RX8 210 RX5 yX5_lengthOf wsX5_lengthOf) := goodIn_app (goodIn_of _ (by decide +kernel)) ggX8_rose_X5_lengthOf
set_option maxRecDepth 20000 in
theorem ggX8_rose_X8_refuse : GoodIn wsX8_rose wsX8_refuse := goodIn_r _ [38, 39, 58, 59, 60, 61, 62, 63, 64, 65, 66, 67, 68] (by decide +kernel) (by decide +kernel)
set_option maxRecDepth 20000 in
theorem gX8_rose_X8_refuse : GoodIn wsX8_rose (wsV RX8 77 RX8 yX8_refuse wsX8_refuse) := goodIn_app (goodIn_of _ (by decide +kernel)) ggX8_rose_X8_refuse
set_option maxRecDepth 20000 in
theorem ggX8_rose_X5_differAlike : GoodIn wsX8_rose wsX5_differAlike := goodIn_r _ [43, 44, 45, 46, 18, 47, 48, 49, 50, 51, 52, 53, 54, 55, 56, 57, 31, 32, 33, 34, 25, 16, 17, 19, 69, 70, 71] (by decide +kernel) (by decide +kernel)
set_option maxRecDepth 20000 in
theorem gX8_rose_X5_differAlike : GoodIn wsX8_rose (wsV RX8 234 RX5 yX5_differAlike wsX5_differAlike) := goodIn_app (goodIn_of _ (by decide +kernel)) ggX8_rose_X5_differAlike
theorem dX8_rose_0 : decode cX8_rose 0 = .ok (.aload_n 0, 1) := by decide +kernel
theorem dX8_rose_1 : decode cX8_rose 1 = .ok (.iload_n 1, 1) := by decide +kernel
theorem dX8_rose_2 : decode cX8_rose 2 = .ok (.iload_n 2, 1) := by decide +kernel
theorem dX8_rose_3 : decode cX8_rose 3 = .ok (.invokevirtual 96, 3) := by decide +kernel
theorem dX8_rose_6 : decode cX8_rose 6 = .ok (.istore 4, 2) := by decide +kernel
theorem dX8_rose_8 : decode cX8_rose 8 = .ok (.iload 4, 2) := by decide +kernel
theorem dX8_rose_10 : decode cX8_rose 10 = .ok (.ifCond .ne 11, 3) := by decide +kernel
theorem dX8_rose_13 : decode cX8_rose 13 = .ok (.iload_n 3, 1) := by decide +kernel
theorem dX8_rose_14 : decode cX8_rose 14 = .ok (.ifCond .ge 7, 3) := by decide +kernel
theorem dX8_rose_17 : decode cX8_rose 17 = .ok (.bipush (-4), 2) := by decide +kernel
theorem dX8_rose_19 : decode cX8_rose 19 = .ok (.istore 4, 2) := by decide +kernel
theorem dX8_rose_21 : decode cX8_rose 21 = .ok (.iload 4, 2) := by decide +kernel
theorem dX8_rose_23 : decode cX8_rose 23 = .ok (.ifCond .ne 31, 3) := by decide +kernel
theorem dX8_rose_26 : decode cX8_rose 26 = .ok (.iload_n 3, 1) := by decide +kernel
theorem dX8_rose_27 : decode cX8_rose 27 = .ok (.aload_n 0, 1) := by decide +kernel
theorem dX8_rose_28 : decode cX8_rose 28 = .ok (.getfield 10, 3) := by decide +kernel
theorem dX8_rose_31 : decode cX8_rose 31 = .ok (.iload_n 1, 1) := by decide +kernel
theorem dX8_rose_32 : decode cX8_rose 32 = .ok (.invokevirtual 210, 3) := by decide +kernel
theorem dX8_rose_35 : decode cX8_rose 35 = .ok (.if_icmp .gt 15, 3) := by decide +kernel
theorem dX8_rose_38 : decode cX8_rose 38 = .ok (.iload_n 3, 1) := by decide +kernel
theorem dX8_rose_39 : decode cX8_rose 39 = .ok (.aload_n 0, 1) := by decide +kernel
theorem dX8_rose_40 : decode cX8_rose 40 = .ok (.getfield 10, 3) := by decide +kernel
theorem dX8_rose_43 : decode cX8_rose 43 = .ok (.iload_n 2, 1) := by decide +kernel
theorem dX8_rose_44 : decode cX8_rose 44 = .ok (.invokevirtual 210, 3) := by decide +kernel
theorem dX8_rose_47 : decode cX8_rose 47 = .ok (.if_icmp .le 7, 3) := by decide +kernel
theorem dX8_rose_50 : decode cX8_rose 50 = .ok (.bipush (-5), 2) := by decide +kernel
theorem dX8_rose_52 : decode cX8_rose 52 = .ok (.istore 4, 2) := by decide +kernel
theorem dX8_rose_54 : decode cX8_rose 54 = .ok (.iload 4, 2) := by decide +kernel
theorem dX8_rose_56 : decode cX8_rose 56 = .ok (.ifCond .ne 18, 3) := by decide +kernel
theorem dX8_rose_59 : decode cX8_rose 59 = .ok (.iload_n 3, 1) := by decide +kernel
theorem dX8_rose_60 : decode cX8_rose 60 = .ok (.iconst 2, 1) := by decide +kernel
theorem dX8_rose_61 : decode cX8_rose 61 = .ok (.if_icmp .lt 9, 3) := by decide +kernel
theorem dX8_rose_64 : decode cX8_rose 64 = .ok (.iload_n 3, 1) := by decide +kernel
theorem dX8_rose_65 : decode cX8_rose 65 = .ok (.bipush 40, 2) := by decide +kernel
theorem dX8_rose_67 : decode cX8_rose 67 = .ok (.if_icmp .le 7, 3) := by decide +kernel
theorem dX8_rose_70 : decode cX8_rose 70 = .ok (.bipush (-6), 2) := by decide +kernel
theorem dX8_rose_72 : decode cX8_rose 72 = .ok (.istore 4, 2) := by decide +kernel
theorem dX8_rose_74 : decode cX8_rose 74 = .ok (.iload 4, 2) := by decide +kernel
theorem dX8_rose_76 : decode cX8_rose 76 = .ok (.ifCond .eq 13, 3) := by decide +kernel
theorem dX8_rose_79 : decode cX8_rose 79 = .ok (.bipush (-10), 2) := by decide +kernel
theorem dX8_rose_81 : decode cX8_rose 81 = .ok (.aload_n 0, 1) := by decide +kernel
theorem dX8_rose_82 : decode cX8_rose 82 = .ok (.iload 4, 2) := by decide +kernel
theorem dX8_rose_84 : decode cX8_rose 84 = .ok (.invokevirtual 77, 3) := by decide +kernel
theorem dX8_rose_87 : decode cX8_rose 87 = .ok (.iadd, 1) := by decide +kernel
theorem dX8_rose_88 : decode cX8_rose 88 = .ok (.ireturn, 1) := by decide +kernel
theorem dX8_rose_89 : decode cX8_rose 89 = .ok (.aload_n 0, 1) := by decide +kernel
theorem dX8_rose_90 : decode cX8_rose 90 = .ok (.getfield 10, 3) := by decide +kernel
theorem dX8_rose_93 : decode cX8_rose 93 = .ok (.iload_n 1, 1) := by decide +kernel
theorem dX8_rose_94 : decode cX8_rose 94 = .ok (.iload_n 2, 1) := by decide +kernel
theorem dX8_rose_95 : decode cX8_rose 95 = .ok (.iload_n 3, 1) := by decide +kernel
theorem dX8_rose_96 : decode cX8_rose 96 = .ok (.iconst (-1), 1) := by decide +kernel
theorem dX8_rose_97 : decode cX8_rose 97 = .ok (.invokevirtual 234, 3) := by decide +kernel
theorem dX8_rose_100 : decode cX8_rose 100 = .ok (.ifCond .eq 5, 3) := by decide +kernel
theorem dX8_rose_103 : decode cX8_rose 103 = .ok (.iconst (-1), 1) := by decide +kernel
theorem dX8_rose_104 : decode cX8_rose 104 = .ok (.ireturn, 1) := by decide +kernel
theorem dX8_rose_105 : decode cX8_rose 105 = .ok (.iconst 0, 1) := by decide +kernel
theorem dX8_rose_106 : decode cX8_rose 106 = .ok (.istore 5, 2) := by decide +kernel
theorem dX8_rose_108 : decode cX8_rose 108 = .ok (.iload 5, 2) := by decide +kernel
theorem dX8_rose_110 : decode cX8_rose 110 = .ok (.iload_n 3, 1) := by decide +kernel
theorem dX8_rose_111 : decode cX8_rose 111 = .ok (.if_icmp .ge 27, 3) := by decide +kernel
theorem dX8_rose_114 : decode cX8_rose 114 = .ok (.aload_n 0, 1) := by decide +kernel
theorem dX8_rose_115 : decode cX8_rose 115 = .ok (.getfield 10, 3) := by decide +kernel
theorem dX8_rose_118 : decode cX8_rose 118 = .ok (.iload_n 1, 1) := by decide +kernel
theorem dX8_rose_119 : decode cX8_rose 119 = .ok (.iload_n 2, 1) := by decide +kernel
theorem dX8_rose_120 : decode cX8_rose 120 = .ok (.iload_n 3, 1) := by decide +kernel
theorem dX8_rose_121 : decode cX8_rose 121 = .ok (.iload 5, 2) := by decide +kernel
theorem dX8_rose_123 : decode cX8_rose 123 = .ok (.invokevirtual 234, 3) := by decide +kernel
theorem dX8_rose_126 : decode cX8_rose 126 = .ok (.ifCond .eq 6, 3) := by decide +kernel
theorem dX8_rose_129 : decode cX8_rose 129 = .ok (.iload 5, 2) := by decide +kernel
theorem dX8_rose_131 : decode cX8_rose 131 = .ok (.ireturn, 1) := by decide +kernel
theorem dX8_rose_132 : decode cX8_rose 132 = .ok (.iinc 5 1, 3) := by decide +kernel
theorem dX8_rose_135 : decode cX8_rose 135 = .ok (.goto (-27), 3) := by decide +kernel
theorem dX8_rose_138 : decode cX8_rose 138 = .ok (.bipush (-2), 2) := by decide +kernel
theorem dX8_rose_140 : decode cX8_rose 140 = .ok (.ireturn, 1) := by decide +kernel
set_option maxRecDepth 20000 in
theorem ggX8_crooked_X3_count : GoodIn wsX8_crooked wsX3_count := goodIn_r _ [11, 12, 72, 73, 74, 75] (by decide +kernel) (by decide +kernel)
set_option maxRecDepth 20000 in
theorem gX8_crooked_X3_count : GoodIn wsX8_crooked (wsV RX8 145 RX3 yX3_count wsX3_count) := goodIn_app (goodIn_of _ (by decide +kernel)) ggX8_crooked_X3_count
set_option maxRecDepth 20000 in
theorem ggX8_crooked_X8_refuse : GoodIn wsX8_crooked wsX8_refuse := goodIn_r _ [17, 18, 61, 62, 63, 64, 65, 66, 67, 68, 69, 70, 71] (by decide +kernel) (by decide +kernel)
set_option maxRecDepth 20000 in
theorem gX8_crooked_X8_refuse : GoodIn wsX8_crooked (wsV RX8 77 RX8 yX8_refuse wsX8_refuse) := goodIn_app (goodIn_of _ (by decide +kernel)) ggX8_crooked_X8_refuse
set_option maxRecDepth 20000 in
theorem ggX8_crooked_X3_risesHeldBy : GoodIn wsX8_crooked wsX3_risesHeldBy := goodIn_r _ [22, 12, 23, 24, 25, 10, 26, 27, 28, 29, 30, 31, 32, 33, 34, 35, 36, 37, 38, 39, 40, 41, 42, 43, 44, 45, 46, 47, 48, 49, 50, 51, 52, 53, 54, 55, 56, 57, 58, 59, 60, 72, 73, 74, 75] (by decide +kernel) (by decide +kernel)
set_option maxRecDepth 20000 in
theorem gX8_crooked_X3_risesHeldBy : GoodIn wsX8_crooked (wsV RX8 238 RX3 yX3_risesHeldBy wsX3_risesHeldBy) := goodIn_app (goodIn_of _ (by decide +kernel)) ggX8_crooked_X3_risesHeldBy
theorem dX8_crooked_0 : decode cX8_crooked 0 = .ok (.iload_n 1, 1) := by decide +kernel
theorem dX8_crooked_1 : decode cX8_crooked 1 = .ok (.ifCond .eq 8, 3) := by decide +kernel
theorem dX8_crooked_4 : decode cX8_crooked 4 = .ok (.iload_n 1, 1) := by decide +kernel
theorem dX8_crooked_5 : decode cX8_crooked 5 = .ok (.iconst 1, 1) := by decide +kernel
theorem dX8_crooked_6 : decode cX8_crooked 6 = .ok (.if_icmp .ne 7, 3) := by decide +kernel
theorem dX8_crooked_9 : decode cX8_crooked 9 = .ok (.iconst 1, 1) := by decide +kernel
theorem dX8_crooked_10 : decode cX8_crooked 10 = .ok (.goto 4, 3) := by decide +kernel
theorem dX8_crooked_13 : decode cX8_crooked 13 = .ok (.iconst 0, 1) := by decide +kernel
theorem dX8_crooked_14 : decode cX8_crooked 14 = .ok (.istore_n 2, 1) := by decide +kernel
theorem dX8_crooked_15 : decode cX8_crooked 15 = .ok (.iload_n 2, 1) := by decide +kernel
theorem dX8_crooked_16 : decode cX8_crooked 16 = .ok (.ifCond .eq 13, 3) := by decide +kernel
theorem dX8_crooked_19 : decode cX8_crooked 19 = .ok (.aload_n 0, 1) := by decide +kernel
theorem dX8_crooked_20 : decode cX8_crooked 20 = .ok (.getfield 19, 3) := by decide +kernel
theorem dX8_crooked_23 : decode cX8_crooked 23 = .ok (.invokevirtual 145, 3) := by decide +kernel
theorem dX8_crooked_26 : decode cX8_crooked 26 = .ok (.ifCond .ne 13, 3) := by decide +kernel
theorem dX8_crooked_29 : decode cX8_crooked 29 = .ok (.ldc 125, 2) := by decide +kernel
theorem dX8_crooked_31 : decode cX8_crooked 31 = .ok (.aload_n 0, 1) := by decide +kernel
theorem dX8_crooked_32 : decode cX8_crooked 32 = .ok (.bipush (-5), 2) := by decide +kernel
theorem dX8_crooked_34 : decode cX8_crooked 34 = .ok (.invokevirtual 77, 3) := by decide +kernel
theorem dX8_crooked_37 : decode cX8_crooked 37 = .ok (.iadd, 1) := by decide +kernel
theorem dX8_crooked_38 : decode cX8_crooked 38 = .ok (.ireturn, 1) := by decide +kernel
theorem dX8_crooked_39 : decode cX8_crooked 39 = .ok (.iconst 0, 1) := by decide +kernel
theorem dX8_crooked_40 : decode cX8_crooked 40 = .ok (.istore_n 3, 1) := by decide +kernel
theorem dX8_crooked_41 : decode cX8_crooked 41 = .ok (.iconst 1, 1) := by decide +kernel
theorem dX8_crooked_42 : decode cX8_crooked 42 = .ok (.istore 4, 2) := by decide +kernel
theorem dX8_crooked_44 : decode cX8_crooked 44 = .ok (.iload 4, 2) := by decide +kernel
theorem dX8_crooked_46 : decode cX8_crooked 46 = .ok (.iconst 4, 1) := by decide +kernel
theorem dX8_crooked_47 : decode cX8_crooked 47 = .ok (.if_icmp .ge 38, 3) := by decide +kernel
theorem dX8_crooked_50 : decode cX8_crooked 50 = .ok (.aload_n 0, 1) := by decide +kernel
theorem dX8_crooked_51 : decode cX8_crooked 51 = .ok (.getfield 19, 3) := by decide +kernel
theorem dX8_crooked_54 : decode cX8_crooked 54 = .ok (.iload 4, 2) := by decide +kernel
theorem dX8_crooked_56 : decode cX8_crooked 56 = .ok (.invokevirtual 238, 3) := by decide +kernel
theorem dX8_crooked_59 : decode cX8_crooked 59 = .ok (.invokestatic 188, 3) := by decide +kernel
theorem dX8_crooked_62 : decode cX8_crooked 62 = .ok (.aload_n 0, 1) := by decide +kernel
theorem dX8_crooked_63 : decode cX8_crooked 63 = .ok (.getfield 19, 3) := by decide +kernel
theorem dX8_crooked_66 : decode cX8_crooked 66 = .ok (.iload_n 3, 1) := by decide +kernel
theorem dX8_crooked_67 : decode cX8_crooked 67 = .ok (.invokevirtual 238, 3) := by decide +kernel
theorem dX8_crooked_70 : decode cX8_crooked 70 = .ok (.invokestatic 188, 3) := by decide +kernel
theorem dX8_crooked_73 : decode cX8_crooked 73 = .ok (.if_icmp .le 6, 3) := by decide +kernel
theorem dX8_crooked_76 : decode cX8_crooked 76 = .ok (.iload 4, 2) := by decide +kernel
theorem dX8_crooked_78 : decode cX8_crooked 78 = .ok (.istore_n 3, 1) := by decide +kernel
theorem dX8_crooked_79 : decode cX8_crooked 79 = .ok (.iinc 4 1, 3) := by decide +kernel
theorem dX8_crooked_82 : decode cX8_crooked 82 = .ok (.goto (-38), 3) := by decide +kernel
theorem dX8_crooked_85 : decode cX8_crooked 85 = .ok (.iload_n 1, 1) := by decide +kernel
theorem dX8_crooked_86 : decode cX8_crooked 86 = .ok (.ifCond .ne 7, 3) := by decide +kernel
theorem dX8_crooked_89 : decode cX8_crooked 89 = .ok (.iload_n 3, 1) := by decide +kernel
theorem dX8_crooked_90 : decode cX8_crooked 90 = .ok (.goto 11, 3) := by decide +kernel
theorem dX8_crooked_93 : decode cX8_crooked 93 = .ok (.aload_n 0, 1) := by decide +kernel
theorem dX8_crooked_94 : decode cX8_crooked 94 = .ok (.getfield 19, 3) := by decide +kernel
theorem dX8_crooked_97 : decode cX8_crooked 97 = .ok (.iload_n 3, 1) := by decide +kernel
theorem dX8_crooked_98 : decode cX8_crooked 98 = .ok (.invokevirtual 238, 3) := by decide +kernel
theorem dX8_crooked_101 : decode cX8_crooked 101 = .ok (.ireturn, 1) := by decide +kernel
set_option maxRecDepth 20000 in
theorem ggX8_most_X3_count : GoodIn wsX8_most wsX3_count := goodIn_r _ [10, 11, 42, 43, 44, 45] (by decide +kernel) (by decide +kernel)
set_option maxRecDepth 20000 in
theorem gX8_most_X3_count : GoodIn wsX8_most (wsV RX8 145 RX3 yX3_count wsX3_count) := goodIn_app (goodIn_of _ (by decide +kernel)) ggX8_most_X3_count
set_option maxRecDepth 20000 in
theorem ggX8_most_X8_refuse : GoodIn wsX8_most wsX8_refuse := goodIn_r _ [16, 17, 31, 32, 33, 34, 35, 36, 37, 38, 39, 40, 41] (by decide +kernel) (by decide +kernel)
set_option maxRecDepth 20000 in
theorem gX8_most_X8_refuse : GoodIn wsX8_most (wsV RX8 77 RX8 yX8_refuse wsX8_refuse) := goodIn_app (goodIn_of _ (by decide +kernel)) ggX8_most_X8_refuse
set_option maxRecDepth 20000 in
theorem ggX8_most_X3_yardsOf : GoodIn wsX8_most wsX3_yardsOf := goodIn_r _ [21, 22, 23, 24, 9, 25, 26, 42, 43, 44, 45] (by decide +kernel) (by decide +kernel)
set_option maxRecDepth 20000 in
theorem gX8_most_X3_yardsOf : GoodIn wsX8_most (wsV RX8 126 RX3 yX3_yardsOf wsX3_yardsOf) := goodIn_app (goodIn_of _ (by decide +kernel)) ggX8_most_X3_yardsOf
set_option maxRecDepth 20000 in
theorem ggX8_most_X3_bookedOf : GoodIn wsX8_most wsX3_bookedOf := goodIn_r _ [30, 22, 23, 24, 9, 25, 26, 42, 43, 44, 45] (by decide +kernel) (by decide +kernel)
set_option maxRecDepth 20000 in
theorem gX8_most_X3_bookedOf : GoodIn wsX8_most (wsV RX8 149 RX3 yX3_bookedOf wsX3_bookedOf) := goodIn_app (goodIn_of _ (by decide +kernel)) ggX8_most_X3_bookedOf
theorem dX8_most_0 : decode cX8_most 0 = .ok (.iload_n 1, 1) := by decide +kernel
theorem dX8_most_1 : decode cX8_most 1 = .ok (.ifCond .eq 8, 3) := by decide +kernel
theorem dX8_most_4 : decode cX8_most 4 = .ok (.iload_n 1, 1) := by decide +kernel
theorem dX8_most_5 : decode cX8_most 5 = .ok (.iconst 1, 1) := by decide +kernel
theorem dX8_most_6 : decode cX8_most 6 = .ok (.if_icmp .ne 7, 3) := by decide +kernel
theorem dX8_most_9 : decode cX8_most 9 = .ok (.iconst 1, 1) := by decide +kernel
theorem dX8_most_10 : decode cX8_most 10 = .ok (.goto 4, 3) := by decide +kernel
theorem dX8_most_13 : decode cX8_most 13 = .ok (.iconst 0, 1) := by decide +kernel
theorem dX8_most_14 : decode cX8_most 14 = .ok (.istore_n 2, 1) := by decide +kernel
theorem dX8_most_15 : decode cX8_most 15 = .ok (.iload_n 2, 1) := by decide +kernel
theorem dX8_most_16 : decode cX8_most 16 = .ok (.ifCond .eq 13, 3) := by decide +kernel
theorem dX8_most_19 : decode cX8_most 19 = .ok (.aload_n 0, 1) := by decide +kernel
theorem dX8_most_20 : decode cX8_most 20 = .ok (.getfield 19, 3) := by decide +kernel
theorem dX8_most_23 : decode cX8_most 23 = .ok (.invokevirtual 145, 3) := by decide +kernel
theorem dX8_most_26 : decode cX8_most 26 = .ok (.ifCond .ne 10, 3) := by decide +kernel
theorem dX8_most_29 : decode cX8_most 29 = .ok (.aload_n 0, 1) := by decide +kernel
theorem dX8_most_30 : decode cX8_most 30 = .ok (.bipush (-5), 2) := by decide +kernel
theorem dX8_most_32 : decode cX8_most 32 = .ok (.invokevirtual 77, 3) := by decide +kernel
theorem dX8_most_35 : decode cX8_most 35 = .ok (.ireturn, 1) := by decide +kernel
theorem dX8_most_36 : decode cX8_most 36 = .ok (.iconst 0, 1) := by decide +kernel
theorem dX8_most_37 : decode cX8_most 37 = .ok (.istore_n 3, 1) := by decide +kernel
theorem dX8_most_38 : decode cX8_most 38 = .ok (.iconst 1, 1) := by decide +kernel
theorem dX8_most_39 : decode cX8_most 39 = .ok (.istore 4, 2) := by decide +kernel
theorem dX8_most_41 : decode cX8_most 41 = .ok (.iload 4, 2) := by decide +kernel
theorem dX8_most_43 : decode cX8_most 43 = .ok (.aload_n 0, 1) := by decide +kernel
theorem dX8_most_44 : decode cX8_most 44 = .ok (.getfield 19, 3) := by decide +kernel
theorem dX8_most_47 : decode cX8_most 47 = .ok (.invokevirtual 145, 3) := by decide +kernel
theorem dX8_most_50 : decode cX8_most 50 = .ok (.if_icmp .ge 82, 3) := by decide +kernel
theorem dX8_most_53 : decode cX8_most 53 = .ok (.iload_n 1, 1) := by decide +kernel
theorem dX8_most_54 : decode cX8_most 54 = .ok (.ifCond .ne 31, 3) := by decide +kernel
theorem dX8_most_57 : decode cX8_most 57 = .ok (.aload_n 0, 1) := by decide +kernel
theorem dX8_most_58 : decode cX8_most 58 = .ok (.getfield 19, 3) := by decide +kernel
theorem dX8_most_61 : decode cX8_most 61 = .ok (.iload 4, 2) := by decide +kernel
theorem dX8_most_63 : decode cX8_most 63 = .ok (.invokevirtual 126, 3) := by decide +kernel
theorem dX8_most_66 : decode cX8_most 66 = .ok (.aload_n 0, 1) := by decide +kernel
theorem dX8_most_67 : decode cX8_most 67 = .ok (.getfield 19, 3) := by decide +kernel
theorem dX8_most_70 : decode cX8_most 70 = .ok (.iload_n 3, 1) := by decide +kernel
theorem dX8_most_71 : decode cX8_most 71 = .ok (.invokevirtual 126, 3) := by decide +kernel
theorem dX8_most_74 : decode cX8_most 74 = .ok (.if_icmp .le 7, 3) := by decide +kernel
theorem dX8_most_77 : decode cX8_most 77 = .ok (.iconst 1, 1) := by decide +kernel
theorem dX8_most_78 : decode cX8_most 78 = .ok (.goto 38, 3) := by decide +kernel
theorem dX8_most_81 : decode cX8_most 81 = .ok (.iconst 0, 1) := by decide +kernel
theorem dX8_most_82 : decode cX8_most 82 = .ok (.goto 34, 3) := by decide +kernel
theorem dX8_most_85 : decode cX8_most 85 = .ok (.aload_n 0, 1) := by decide +kernel
theorem dX8_most_86 : decode cX8_most 86 = .ok (.getfield 19, 3) := by decide +kernel
theorem dX8_most_89 : decode cX8_most 89 = .ok (.iload 4, 2) := by decide +kernel
theorem dX8_most_91 : decode cX8_most 91 = .ok (.invokevirtual 149, 3) := by decide +kernel
theorem dX8_most_94 : decode cX8_most 94 = .ok (.invokestatic 188, 3) := by decide +kernel
theorem dX8_most_97 : decode cX8_most 97 = .ok (.aload_n 0, 1) := by decide +kernel
theorem dX8_most_98 : decode cX8_most 98 = .ok (.getfield 19, 3) := by decide +kernel
theorem dX8_most_101 : decode cX8_most 101 = .ok (.iload_n 3, 1) := by decide +kernel
theorem dX8_most_102 : decode cX8_most 102 = .ok (.invokevirtual 149, 3) := by decide +kernel
theorem dX8_most_105 : decode cX8_most 105 = .ok (.invokestatic 188, 3) := by decide +kernel
theorem dX8_most_108 : decode cX8_most 108 = .ok (.if_icmp .le 7, 3) := by decide +kernel
theorem dX8_most_111 : decode cX8_most 111 = .ok (.iconst 1, 1) := by decide +kernel
theorem dX8_most_112 : decode cX8_most 112 = .ok (.goto 4, 3) := by decide +kernel
theorem dX8_most_115 : decode cX8_most 115 = .ok (.iconst 0, 1) := by decide +kernel
theorem dX8_most_116 : decode cX8_most 116 = .ok (.istore 5, 2) := by decide +kernel
theorem dX8_most_118 : decode cX8_most 118 = .ok (.iload 5, 2) := by decide +kernel
theorem dX8_most_120 : decode cX8_most 120 = .ok (.ifCond .eq 6, 3) := by decide +kernel
theorem dX8_most_123 : decode cX8_most 123 = .ok (.iload 4, 2) := by decide +kernel
theorem dX8_most_125 : decode cX8_most 125 = .ok (.istore_n 3, 1) := by decide +kernel
theorem dX8_most_126 : decode cX8_most 126 = .ok (.iinc 4 1, 3) := by decide +kernel
theorem dX8_most_129 : decode cX8_most 129 = .ok (.goto (-88), 3) := by decide +kernel
theorem dX8_most_132 : decode cX8_most 132 = .ok (.iload_n 3, 1) := by decide +kernel
theorem dX8_most_133 : decode cX8_most 133 = .ok (.ireturn, 1) := by decide +kernel
set_option maxRecDepth 20000 in
theorem ggX8_hours_X8_yardsInAll : GoodIn wsX8_hours wsX8_yardsInAll := goodIn_r _ [6, 1, 7, 8, 9, 10, 11, 12, 13, 14, 15, 16, 17, 18, 19, 20, 21, 22, 23, 24, 25, 26, 27, 28, 29, 30, 31, 32, 33, 34, 35, 36, 37, 38, 39, 40] (by decide +kernel) (by decide +kernel)
set_option maxRecDepth 20000 in
theorem gX8_hours_X8_yardsInAll : GoodIn wsX8_hours (wsV RX8 241 RX8 yX8_yardsInAll wsX8_yardsInAll) := goodIn_app (goodIn_of _ (by decide +kernel)) ggX8_hours_X8_yardsInAll
set_option maxRecDepth 20000 in
theorem ggX8_hours_X3_count : GoodIn wsX8_hours wsX3_count := goodIn_r _ [11, 12, 37, 38, 39, 40] (by decide +kernel) (by decide +kernel)
set_option maxRecDepth 20000 in
theorem gX8_hours_X3_count : GoodIn wsX8_hours (wsV RX8 145 RX3 yX3_count wsX3_count) := goodIn_app (goodIn_of _ (by decide +kernel)) ggX8_hours_X3_count
theorem dX8_hours_0 : decode cX8_hours 0 = .ok (.aload_n 0, 1) := by decide +kernel
theorem dX8_hours_1 : decode cX8_hours 1 = .ok (.invokevirtual 241, 3) := by decide +kernel
theorem dX8_hours_4 : decode cX8_hours 4 = .ok (.bipush 10, 2) := by decide +kernel
theorem dX8_hours_6 : decode cX8_hours 6 = .ok (.aload_n 0, 1) := by decide +kernel
theorem dX8_hours_7 : decode cX8_hours 7 = .ok (.getfield 19, 3) := by decide +kernel
theorem dX8_hours_10 : decode cX8_hours 10 = .ok (.invokevirtual 145, 3) := by decide +kernel
theorem dX8_hours_13 : decode cX8_hours 13 = .ok (.imul, 1) := by decide +kernel
theorem dX8_hours_14 : decode cX8_hours 14 = .ok (.iadd, 1) := by decide +kernel
theorem dX8_hours_15 : decode cX8_hours 15 = .ok (.bipush 59, 2) := by decide +kernel
theorem dX8_hours_17 : decode cX8_hours 17 = .ok (.iadd, 1) := by decide +kernel
theorem dX8_hours_18 : decode cX8_hours 18 = .ok (.bipush 60, 2) := by decide +kernel
theorem dX8_hours_20 : decode cX8_hours 20 = .ok (.idiv, 1) := by decide +kernel
theorem dX8_hours_21 : decode cX8_hours 21 = .ok (.ireturn, 1) := by decide +kernel
set_option maxRecDepth 20000 in
theorem ggX8_judge_X8_bookRefusal : GoodIn wsX8_judge wsX8_bookRefusal := goodIn_r _ [5, 6, 7, 8, 9, 10, 4, 11, 12, 13, 14, 15, 16, 17, 18, 19, 20, 21, 22, 23, 24, 25, 26, 27, 28, 29, 30, 31, 61, 62, 63, 64, 65, 66, 67, 68, 69, 70, 71, 72, 73, 74] (by decide +kernel) (by decide +kernel)
set_option maxRecDepth 20000 in
theorem gX8_judge_X8_bookRefusal : GoodIn wsX8_judge (wsV RX8 244 RX8 yX8_bookRefusal wsX8_bookRefusal) := goodIn_app (goodIn_of _ (by decide +kernel)) ggX8_judge_X8_bookRefusal
set_option maxRecDepth 20000 in
theorem ggX8_judge_X8_refuse : GoodIn wsX8_judge wsX8_refuse := goodIn_r _ [35, 36, 61, 62, 63, 64, 65, 66, 67, 68, 69, 70, 71] (by decide +kernel) (by decide +kernel)
set_option maxRecDepth 20000 in
theorem gX8_judge_X8_refuse : GoodIn wsX8_judge (wsV RX8 77 RX8 yX8_refuse wsX8_refuse) := goodIn_app (goodIn_of _ (by decide +kernel)) ggX8_judge_X8_refuse
set_option maxRecDepth 20000 in
theorem ggX8_judge_X8_firstWrong : GoodIn wsX8_judge wsX8_firstWrong := goodIn_r _ [40, 7, 41, 42, 43, 15, 44, 45, 46, 47, 48, 49, 50, 51, 52, 53, 54, 28, 29, 30, 31, 22, 13, 14, 16, 55, 56, 57, 58, 59, 60, 61, 62, 63, 64, 65, 66, 67, 68, 69, 70, 71, 72, 73, 74] (by decide +kernel) (by decide +kernel)
set_option maxRecDepth 20000 in
theorem gX8_judge_X8_firstWrong : GoodIn wsX8_judge (wsV RX8 247 RX8 yX8_firstWrong wsX8_firstWrong) := goodIn_app (goodIn_of _ (by decide +kernel)) ggX8_judge_X8_firstWrong
theorem dX8_judge_0 : decode cX8_judge 0 = .ok (.aload_n 0, 1) := by decide +kernel
theorem dX8_judge_1 : decode cX8_judge 1 = .ok (.iload_n 1, 1) := by decide +kernel
theorem dX8_judge_2 : decode cX8_judge 2 = .ok (.iload_n 2, 1) := by decide +kernel
theorem dX8_judge_3 : decode cX8_judge 3 = .ok (.invokevirtual 244, 3) := by decide +kernel
theorem dX8_judge_6 : decode cX8_judge 6 = .ok (.istore_n 3, 1) := by decide +kernel
theorem dX8_judge_7 : decode cX8_judge 7 = .ok (.iload_n 3, 1) := by decide +kernel
theorem dX8_judge_8 : decode cX8_judge 8 = .ok (.ifCond .eq 12, 3) := by decide +kernel
theorem dX8_judge_11 : decode cX8_judge 11 = .ok (.bipush (-10), 2) := by decide +kernel
theorem dX8_judge_13 : decode cX8_judge 13 = .ok (.aload_n 0, 1) := by decide +kernel
theorem dX8_judge_14 : decode cX8_judge 14 = .ok (.iload_n 3, 1) := by decide +kernel
theorem dX8_judge_15 : decode cX8_judge 15 = .ok (.invokevirtual 77, 3) := by decide +kernel
theorem dX8_judge_18 : decode cX8_judge 18 = .ok (.iadd, 1) := by decide +kernel
theorem dX8_judge_19 : decode cX8_judge 19 = .ok (.ireturn, 1) := by decide +kernel
theorem dX8_judge_20 : decode cX8_judge 20 = .ok (.aload_n 0, 1) := by decide +kernel
theorem dX8_judge_21 : decode cX8_judge 21 = .ok (.iload_n 1, 1) := by decide +kernel
theorem dX8_judge_22 : decode cX8_judge 22 = .ok (.iload_n 2, 1) := by decide +kernel
theorem dX8_judge_23 : decode cX8_judge 23 = .ok (.invokevirtual 247, 3) := by decide +kernel
theorem dX8_judge_26 : decode cX8_judge 26 = .ok (.ireturn, 1) := by decide +kernel
set_option maxRecDepth 20000 in
theorem ggX8_closes_X8_bookRefusal : GoodIn wsX8_closes wsX8_bookRefusal := goodIn_r _ [7, 8, 2, 9, 10, 11, 6, 12, 13, 14, 15, 16, 17, 18, 19, 20, 21, 22, 23, 24, 25, 26, 27, 28, 29, 30, 31, 32, 62, 63, 64, 65, 66, 67, 68, 69, 70, 71, 72, 73, 74, 75] (by decide +kernel) (by decide +kernel)
set_option maxRecDepth 20000 in
theorem gX8_closes_X8_bookRefusal : GoodIn wsX8_closes (wsV RX8 244 RX8 yX8_bookRefusal wsX8_bookRefusal) := goodIn_app (goodIn_of _ (by decide +kernel)) ggX8_closes_X8_bookRefusal
set_option maxRecDepth 20000 in
theorem ggX8_closes_X8_firstWrong : GoodIn wsX8_closes wsX8_firstWrong := goodIn_r _ [36, 2, 37, 38, 39, 16, 40, 41, 42, 43, 44, 45, 46, 47, 48, 49, 50, 29, 30, 31, 32, 23, 14, 15, 17, 51, 52, 53, 54, 55, 56, 62, 63, 64, 65, 66, 67, 68, 69, 70, 71, 72, 73, 74, 75] (by decide +kernel) (by decide +kernel)
set_option maxRecDepth 20000 in
theorem gX8_closes_X8_firstWrong : GoodIn wsX8_closes (wsV RX8 247 RX8 yX8_firstWrong wsX8_firstWrong) := goodIn_app (goodIn_of _ (by decide +kernel)) ggX8_closes_X8_firstWrong
set_option maxRecDepth 20000 in
theorem ggX8_closes_X8_refuse : GoodIn wsX8_closes wsX8_refuse := goodIn_r _ [60, 61, 62, 63, 64, 65, 66, 67, 68, 69, 70, 71, 72] (by decide +kernel) (by decide +kernel)
set_option maxRecDepth 20000 in
theorem gX8_closes_X8_refuse : GoodIn wsX8_closes (wsV RX8 77 RX8 yX8_refuse wsX8_refuse) := goodIn_app (goodIn_of _ (by decide +kernel)) ggX8_closes_X8_refuse
set_option maxRecDepth 20000 in
theorem ggX8_closes_X5_numberAt : GoodIn wsX8_closes wsX5_numberAt := goodIn_r _ [40, 41, 42, 43, 16, 44, 45, 46, 47, 48, 49, 50, 29, 30, 31, 32, 23, 14, 15, 17, 73, 74, 75] (by decide +kernel) (by decide +kernel)
set_option maxRecDepth 20000 in
theorem gX8_closes_X5_numberAt : GoodIn wsX8_closes (wsV RX8 250 RX5 yX5_numberAt wsX5_numberAt) := goodIn_app (goodIn_of _ (by decide +kernel)) ggX8_closes_X5_numberAt
theorem dX8_closes_0 : decode cX8_closes 0 = .ok (.aload_n 0, 1) := by decide +kernel
theorem dX8_closes_1 : decode cX8_closes 1 = .ok (.iload_n 1, 1) := by decide +kernel
theorem dX8_closes_2 : decode cX8_closes 2 = .ok (.iload_n 2, 1) := by decide +kernel
theorem dX8_closes_3 : decode cX8_closes 3 = .ok (.invokevirtual 244, 3) := by decide +kernel
theorem dX8_closes_6 : decode cX8_closes 6 = .ok (.istore_n 3, 1) := by decide +kernel
theorem dX8_closes_7 : decode cX8_closes 7 = .ok (.iload_n 3, 1) := by decide +kernel
theorem dX8_closes_8 : decode cX8_closes 8 = .ok (.ifCond .ne 16, 3) := by decide +kernel
theorem dX8_closes_11 : decode cX8_closes 11 = .ok (.aload_n 0, 1) := by decide +kernel
theorem dX8_closes_12 : decode cX8_closes 12 = .ok (.iload_n 1, 1) := by decide +kernel
theorem dX8_closes_13 : decode cX8_closes 13 = .ok (.iload_n 2, 1) := by decide +kernel
theorem dX8_closes_14 : decode cX8_closes 14 = .ok (.invokevirtual 247, 3) := by decide +kernel
theorem dX8_closes_17 : decode cX8_closes 17 = .ok (.iconst (-1), 1) := by decide +kernel
theorem dX8_closes_18 : decode cX8_closes 18 = .ok (.if_icmp .eq 6, 3) := by decide +kernel
theorem dX8_closes_21 : decode cX8_closes 21 = .ok (.bipush (-6), 2) := by decide +kernel
theorem dX8_closes_23 : decode cX8_closes 23 = .ok (.istore_n 3, 1) := by decide +kernel
theorem dX8_closes_24 : decode cX8_closes 24 = .ok (.iload_n 3, 1) := by decide +kernel
theorem dX8_closes_25 : decode cX8_closes 25 = .ok (.ifCond .eq 12, 3) := by decide +kernel
theorem dX8_closes_28 : decode cX8_closes 28 = .ok (.ldc 125, 2) := by decide +kernel
theorem dX8_closes_30 : decode cX8_closes 30 = .ok (.aload_n 0, 1) := by decide +kernel
theorem dX8_closes_31 : decode cX8_closes 31 = .ok (.iload_n 3, 1) := by decide +kernel
theorem dX8_closes_32 : decode cX8_closes 32 = .ok (.invokevirtual 77, 3) := by decide +kernel
theorem dX8_closes_35 : decode cX8_closes 35 = .ok (.iadd, 1) := by decide +kernel
theorem dX8_closes_36 : decode cX8_closes 36 = .ok (.ireturn, 1) := by decide +kernel
theorem dX8_closes_37 : decode cX8_closes 37 = .ok (.iconst 0, 1) := by decide +kernel
theorem dX8_closes_38 : decode cX8_closes 38 = .ok (.istore 4, 2) := by decide +kernel
theorem dX8_closes_40 : decode cX8_closes 40 = .ok (.iconst 0, 1) := by decide +kernel
theorem dX8_closes_41 : decode cX8_closes 41 = .ok (.istore 5, 2) := by decide +kernel
theorem dX8_closes_43 : decode cX8_closes 43 = .ok (.iload 5, 2) := by decide +kernel
theorem dX8_closes_45 : decode cX8_closes 45 = .ok (.iload_n 2, 1) := by decide +kernel
theorem dX8_closes_46 : decode cX8_closes 46 = .ok (.if_icmp .ge 41, 3) := by decide +kernel
theorem dX8_closes_49 : decode cX8_closes 49 = .ok (.iload 4, 2) := by decide +kernel
theorem dX8_closes_51 : decode cX8_closes 51 = .ok (.aload_n 0, 1) := by decide +kernel
theorem dX8_closes_52 : decode cX8_closes 52 = .ok (.getfield 10, 3) := by decide +kernel
theorem dX8_closes_55 : decode cX8_closes 55 = .ok (.iload_n 1, 1) := by decide +kernel
theorem dX8_closes_56 : decode cX8_closes 56 = .ok (.iconst 4, 1) := by decide +kernel
theorem dX8_closes_57 : decode cX8_closes 57 = .ok (.iload 5, 2) := by decide +kernel
theorem dX8_closes_59 : decode cX8_closes 59 = .ok (.imul, 1) := by decide +kernel
theorem dX8_closes_60 : decode cX8_closes 60 = .ok (.invokevirtual 250, 3) := by decide +kernel
theorem dX8_closes_63 : decode cX8_closes 63 = .ok (.aload_n 0, 1) := by decide +kernel
theorem dX8_closes_64 : decode cX8_closes 64 = .ok (.getfield 10, 3) := by decide +kernel
theorem dX8_closes_67 : decode cX8_closes 67 = .ok (.iload_n 1, 1) := by decide +kernel
theorem dX8_closes_68 : decode cX8_closes 68 = .ok (.iconst 4, 1) := by decide +kernel
theorem dX8_closes_69 : decode cX8_closes 69 = .ok (.iload 5, 2) := by decide +kernel
theorem dX8_closes_71 : decode cX8_closes 71 = .ok (.imul, 1) := by decide +kernel
theorem dX8_closes_72 : decode cX8_closes 72 = .ok (.iconst 1, 1) := by decide +kernel
theorem dX8_closes_73 : decode cX8_closes 73 = .ok (.iadd, 1) := by decide +kernel
theorem dX8_closes_74 : decode cX8_closes 74 = .ok (.invokevirtual 250, 3) := by decide +kernel
theorem dX8_closes_77 : decode cX8_closes 77 = .ok (.isub, 1) := by decide +kernel
theorem dX8_closes_78 : decode cX8_closes 78 = .ok (.iadd, 1) := by decide +kernel
theorem dX8_closes_79 : decode cX8_closes 79 = .ok (.istore 4, 2) := by decide +kernel
theorem dX8_closes_81 : decode cX8_closes 81 = .ok (.iinc 5 1, 3) := by decide +kernel
theorem dX8_closes_84 : decode cX8_closes 84 = .ok (.goto (-41), 3) := by decide +kernel
theorem dX8_closes_87 : decode cX8_closes 87 = .ok (.iload 4, 2) := by decide +kernel
theorem dX8_closes_89 : decode cX8_closes 89 = .ok (.ireturn, 1) := by decide +kernel
set_option maxRecDepth 20000 in
theorem ggX8_done_X8_bookRefusal : GoodIn wsX8_done wsX8_bookRefusal := goodIn_r _ [7, 8, 2, 9, 10, 11, 6, 12, 13, 14, 15, 16, 17, 18, 19, 20, 21, 22, 23, 24, 25, 26, 27, 28, 29, 30, 31, 32, 81, 82, 83, 84, 85, 86, 87, 88, 89, 90, 91, 92, 93, 94] (by decide +kernel) (by decide +kernel)
set_option maxRecDepth 20000 in
theorem gX8_done_X8_bookRefusal : GoodIn wsX8_done (wsV RX8 244 RX8 yX8_bookRefusal wsX8_bookRefusal) := goodIn_app (goodIn_of _ (by decide +kernel)) ggX8_done_X8_bookRefusal
set_option maxRecDepth 20000 in
theorem ggX8_done_X8_firstWrong : GoodIn wsX8_done wsX8_firstWrong := goodIn_r _ [36, 2, 37, 38, 39, 16, 40, 41, 42, 43, 44, 45, 46, 47, 48, 49, 50, 29, 30, 31, 32, 23, 14, 15, 17, 51, 52, 53, 54, 55, 56, 81, 82, 83, 84, 85, 86, 87, 88, 89, 90, 91, 92, 93, 94] (by decide +kernel) (by decide +kernel)
set_option maxRecDepth 20000 in
theorem gX8_done_X8_firstWrong : GoodIn wsX8_done (wsV RX8 247 RX8 yX8_firstWrong wsX8_firstWrong) := goodIn_app (goodIn_of _ (by decide +kernel)) ggX8_done_X8_firstWrong
set_option maxRecDepth 20000 in
theorem ggX8_done_X3_hasRoomFor : GoodIn wsX8_done wsX3_hasRoomFor := goodIn_r _ [60, 61, 95, 96, 97, 98] (by decide +kernel) (by decide +kernel)
set_option maxRecDepth 20000 in
theorem gX8_done_X3_hasRoomFor : GoodIn wsX8_done (wsV RX8 138 RX3 yX3_hasRoomFor wsX3_hasRoomFor) := goodIn_app (goodIn_of _ (by decide +kernel)) ggX8_done_X3_hasRoomFor
set_option maxRecDepth 20000 in
theorem ggX8_done_X8_refuse : GoodIn wsX8_done wsX8_refuse := goodIn_r _ [65, 66, 81, 82, 83, 84, 85, 86, 87, 88, 89, 90, 91] (by decide +kernel) (by decide +kernel)
set_option maxRecDepth 20000 in
theorem gX8_done_X8_refuse : GoodIn wsX8_done (wsV RX8 77 RX8 yX8_refuse wsX8_refuse) := goodIn_app (goodIn_of _ (by decide +kernel)) ggX8_done_X8_refuse
set_option maxRecDepth 20000 in
theorem ggX8_done_X5_numberAt : GoodIn wsX8_done wsX5_numberAt := goodIn_r _ [40, 41, 42, 43, 16, 44, 45, 46, 47, 48, 49, 50, 29, 30, 31, 32, 23, 14, 15, 17, 92, 93, 94] (by decide +kernel) (by decide +kernel)
set_option maxRecDepth 20000 in
theorem gX8_done_X5_numberAt : GoodIn wsX8_done (wsV RX8 250 RX5 yX5_numberAt wsX5_numberAt) := goodIn_app (goodIn_of _ (by decide +kernel)) ggX8_done_X5_numberAt
set_option maxRecDepth 20000 in
theorem ggX8_done_X3_add : GoodIn wsX8_done wsX3_add := goodIn_r _ [70, 61, 71, 58, 59, 53, 60, 72, 73, 74, 75, 76, 95, 96, 97, 98] (by decide +kernel) (by decide +kernel)
set_option maxRecDepth 20000 in
theorem gX8_done_X3_add : GoodIn wsX8_done (wsV RX8 141 RX3 yX3_add wsX3_add) := goodIn_app (goodIn_of _ (by decide +kernel)) ggX8_done_X3_add
set_option maxRecDepth 20000 in
theorem ggX8_done_X3_count : GoodIn wsX8_done wsX3_count := goodIn_r _ [80, 61, 95, 96, 97, 98] (by decide +kernel) (by decide +kernel)
set_option maxRecDepth 20000 in
theorem gX8_done_X3_count : GoodIn wsX8_done (wsV RX8 145 RX3 yX3_count wsX3_count) := goodIn_app (goodIn_of _ (by decide +kernel)) ggX8_done_X3_count
theorem dX8_done_0 : decode cX8_done 0 = .ok (.aload_n 0, 1) := by decide +kernel
theorem dX8_done_1 : decode cX8_done 1 = .ok (.iload_n 1, 1) := by decide +kernel
theorem dX8_done_2 : decode cX8_done 2 = .ok (.iload_n 2, 1) := by decide +kernel
theorem dX8_done_3 : decode cX8_done 3 = .ok (.invokevirtual 244, 3) := by decide +kernel
theorem dX8_done_6 : decode cX8_done 6 = .ok (.istore_n 3, 1) := by decide +kernel
theorem dX8_done_7 : decode cX8_done 7 = .ok (.iload_n 3, 1) := by decide +kernel
theorem dX8_done_8 : decode cX8_done 8 = .ok (.ifCond .ne 16, 3) := by decide +kernel
theorem dX8_done_11 : decode cX8_done 11 = .ok (.aload_n 0, 1) := by decide +kernel
theorem dX8_done_12 : decode cX8_done 12 = .ok (.iload_n 1, 1) := by decide +kernel
theorem dX8_done_13 : decode cX8_done 13 = .ok (.iload_n 2, 1) := by decide +kernel
theorem dX8_done_14 : decode cX8_done 14 = .ok (.invokevirtual 247, 3) := by decide +kernel
theorem dX8_done_17 : decode cX8_done 17 = .ok (.iconst (-1), 1) := by decide +kernel
theorem dX8_done_18 : decode cX8_done 18 = .ok (.if_icmp .eq 6, 3) := by decide +kernel
theorem dX8_done_21 : decode cX8_done 21 = .ok (.bipush (-6), 2) := by decide +kernel
theorem dX8_done_23 : decode cX8_done 23 = .ok (.istore_n 3, 1) := by decide +kernel
theorem dX8_done_24 : decode cX8_done 24 = .ok (.iload_n 3, 1) := by decide +kernel
theorem dX8_done_25 : decode cX8_done 25 = .ok (.ifCond .ne 17, 3) := by decide +kernel
theorem dX8_done_28 : decode cX8_done 28 = .ok (.aload_n 0, 1) := by decide +kernel
theorem dX8_done_29 : decode cX8_done 29 = .ok (.getfield 19, 3) := by decide +kernel
theorem dX8_done_32 : decode cX8_done 32 = .ok (.iload_n 2, 1) := by decide +kernel
theorem dX8_done_33 : decode cX8_done 33 = .ok (.invokevirtual 138, 3) := by decide +kernel
theorem dX8_done_36 : decode cX8_done 36 = .ok (.ifCond .ne 6, 3) := by decide +kernel
theorem dX8_done_39 : decode cX8_done 39 = .ok (.bipush (-7), 2) := by decide +kernel
theorem dX8_done_41 : decode cX8_done 41 = .ok (.istore_n 3, 1) := by decide +kernel
theorem dX8_done_42 : decode cX8_done 42 = .ok (.iload_n 3, 1) := by decide +kernel
theorem dX8_done_43 : decode cX8_done 43 = .ok (.ifCond .eq 9, 3) := by decide +kernel
theorem dX8_done_46 : decode cX8_done 46 = .ok (.aload_n 0, 1) := by decide +kernel
theorem dX8_done_47 : decode cX8_done 47 = .ok (.iload_n 3, 1) := by decide +kernel
theorem dX8_done_48 : decode cX8_done 48 = .ok (.invokevirtual 77, 3) := by decide +kernel
theorem dX8_done_51 : decode cX8_done 51 = .ok (.ireturn, 1) := by decide +kernel
theorem dX8_done_52 : decode cX8_done 52 = .ok (.iconst 0, 1) := by decide +kernel
theorem dX8_done_53 : decode cX8_done 53 = .ok (.istore 4, 2) := by decide +kernel
theorem dX8_done_55 : decode cX8_done 55 = .ok (.iload 4, 2) := by decide +kernel
theorem dX8_done_57 : decode cX8_done 57 = .ok (.iload_n 2, 1) := by decide +kernel
theorem dX8_done_58 : decode cX8_done 58 = .ok (.if_icmp .ge 70, 3) := by decide +kernel
theorem dX8_done_61 : decode cX8_done 61 = .ok (.iconst 4, 1) := by decide +kernel
theorem dX8_done_62 : decode cX8_done 62 = .ok (.iload 4, 2) := by decide +kernel
theorem dX8_done_64 : decode cX8_done 64 = .ok (.imul, 1) := by decide +kernel
theorem dX8_done_65 : decode cX8_done 65 = .ok (.istore 5, 2) := by decide +kernel
theorem dX8_done_67 : decode cX8_done 67 = .ok (.aload_n 0, 1) := by decide +kernel
theorem dX8_done_68 : decode cX8_done 68 = .ok (.getfield 19, 3) := by decide +kernel
theorem dX8_done_71 : decode cX8_done 71 = .ok (.iconst 0, 1) := by decide +kernel
theorem dX8_done_72 : decode cX8_done 72 = .ok (.iconst 0, 1) := by decide +kernel
theorem dX8_done_73 : decode cX8_done 73 = .ok (.aload_n 0, 1) := by decide +kernel
theorem dX8_done_74 : decode cX8_done 74 = .ok (.getfield 10, 3) := by decide +kernel
theorem dX8_done_77 : decode cX8_done 77 = .ok (.iload_n 1, 1) := by decide +kernel
theorem dX8_done_78 : decode cX8_done 78 = .ok (.iload 5, 2) := by decide +kernel
theorem dX8_done_80 : decode cX8_done 80 = .ok (.invokevirtual 250, 3) := by decide +kernel
theorem dX8_done_83 : decode cX8_done 83 = .ok (.aload_n 0, 1) := by decide +kernel
theorem dX8_done_84 : decode cX8_done 84 = .ok (.getfield 10, 3) := by decide +kernel
theorem dX8_done_87 : decode cX8_done 87 = .ok (.iload_n 1, 1) := by decide +kernel
theorem dX8_done_88 : decode cX8_done 88 = .ok (.iload 5, 2) := by decide +kernel
theorem dX8_done_90 : decode cX8_done 90 = .ok (.iconst 1, 1) := by decide +kernel
theorem dX8_done_91 : decode cX8_done 91 = .ok (.iadd, 1) := by decide +kernel
theorem dX8_done_92 : decode cX8_done 92 = .ok (.invokevirtual 250, 3) := by decide +kernel
theorem dX8_done_95 : decode cX8_done 95 = .ok (.aload_n 0, 1) := by decide +kernel
theorem dX8_done_96 : decode cX8_done 96 = .ok (.getfield 10, 3) := by decide +kernel
theorem dX8_done_99 : decode cX8_done 99 = .ok (.iload_n 1, 1) := by decide +kernel
theorem dX8_done_100 : decode cX8_done 100 = .ok (.iload 5, 2) := by decide +kernel
theorem dX8_done_102 : decode cX8_done 102 = .ok (.iconst 2, 1) := by decide +kernel
theorem dX8_done_103 : decode cX8_done 103 = .ok (.iadd, 1) := by decide +kernel
theorem dX8_done_104 : decode cX8_done 104 = .ok (.invokevirtual 250, 3) := by decide +kernel
theorem dX8_done_107 : decode cX8_done 107 = .ok (.aload_n 0, 1) := by decide +kernel
theorem dX8_done_108 : decode cX8_done 108 = .ok (.getfield 10, 3) := by decide +kernel
theorem dX8_done_111 : decode cX8_done 111 = .ok (.iload_n 1, 1) := by decide +kernel
theorem dX8_done_112 : decode cX8_done 112 = .ok (.iload 5, 2) := by decide +kernel
theorem dX8_done_114 : decode cX8_done 114 = .ok (.iconst 3, 1) := by decide +kernel
theorem dX8_done_115 : decode cX8_done 115 = .ok (.iadd, 1) := by decide +kernel
theorem dX8_done_116 : decode cX8_done 116 = .ok (.invokevirtual 250, 3) := by decide +kernel
theorem dX8_done_119 : decode cX8_done 119 = .ok (.invokevirtual 141, 3) := by decide +kernel
theorem dX8_done_122 : decode cX8_done 122 = .ok (.iinc 4 1, 3) := by decide +kernel
theorem dX8_done_125 : decode cX8_done 125 = .ok (.goto (-70), 3) := by decide +kernel
theorem dX8_done_128 : decode cX8_done 128 = .ok (.aload_n 0, 1) := by decide +kernel
theorem dX8_done_129 : decode cX8_done 129 = .ok (.getfield 19, 3) := by decide +kernel
theorem dX8_done_132 : decode cX8_done 132 = .ok (.invokevirtual 145, 3) := by decide +kernel
theorem dX8_done_135 : decode cX8_done 135 = .ok (.ireturn, 1) := by decide +kernel
set_option maxRecDepth 20000 in
theorem ggX8_drop_X3_count : GoodIn wsX8_drop wsX3_count := goodIn_r _ [7, 8, 49, 50, 51, 52] (by decide +kernel) (by decide +kernel)
set_option maxRecDepth 20000 in
theorem gX8_drop_X3_count : GoodIn wsX8_drop (wsV RX8 145 RX3 yX3_count wsX3_count) := goodIn_app (goodIn_of _ (by decide +kernel)) ggX8_drop_X3_count
set_option maxRecDepth 20000 in
theorem ggX8_drop_X8_refuse : GoodIn wsX8_drop wsX8_refuse := goodIn_r _ [13, 14, 38, 39, 40, 41, 42, 43, 44, 45, 46, 47, 48] (by decide +kernel) (by decide +kernel)
set_option maxRecDepth 20000 in
theorem gX8_drop_X8_refuse : GoodIn wsX8_drop (wsV RX8 77 RX8 yX8_refuse wsX8_refuse) := goodIn_app (goodIn_of _ (by decide +kernel)) ggX8_drop_X8_refuse
set_option maxRecDepth 20000 in
theorem ggX8_drop_X3_dropLast : GoodIn wsX8_drop wsX3_dropLast := goodIn_r _ [18, 8, 49, 50, 51, 52] (by decide +kernel) (by decide +kernel)
set_option maxRecDepth 20000 in
theorem gX8_drop_X3_dropLast : GoodIn wsX8_drop (wsV RX8 253 RX3 yX3_dropLast wsX3_dropLast) := goodIn_app (goodIn_of _ (by decide +kernel)) ggX8_drop_X3_dropLast
set_option maxRecDepth 20000 in
theorem ggX8_drop_X5_forgetFrom : GoodIn wsX8_drop wsX5_forgetFrom := goodIn_r _ [23, 24, 25, 26, 27, 22, 28, 29, 30, 31, 32, 33, 34, 35, 36, 37, 53, 54, 55] (by decide +kernel) (by decide +kernel)
set_option maxRecDepth 20000 in
theorem gX8_drop_X5_forgetFrom : GoodIn wsX8_drop (wsV RX8 256 RX5 yX5_forgetFrom wsX5_forgetFrom) := goodIn_app (goodIn_of _ (by decide +kernel)) ggX8_drop_X5_forgetFrom
theorem dX8_drop_0 : decode cX8_drop 0 = .ok (.aload_n 0, 1) := by decide +kernel
theorem dX8_drop_1 : decode cX8_drop 1 = .ok (.getfield 19, 3) := by decide +kernel
theorem dX8_drop_4 : decode cX8_drop 4 = .ok (.invokevirtual 145, 3) := by decide +kernel
theorem dX8_drop_7 : decode cX8_drop 7 = .ok (.ifCond .ne 10, 3) := by decide +kernel
theorem dX8_drop_10 : decode cX8_drop 10 = .ok (.aload_n 0, 1) := by decide +kernel
theorem dX8_drop_11 : decode cX8_drop 11 = .ok (.bipush (-6), 2) := by decide +kernel
theorem dX8_drop_13 : decode cX8_drop 13 = .ok (.invokevirtual 77, 3) := by decide +kernel
theorem dX8_drop_16 : decode cX8_drop 16 = .ok (.ireturn, 1) := by decide +kernel
theorem dX8_drop_17 : decode cX8_drop 17 = .ok (.aload_n 0, 1) := by decide +kernel
theorem dX8_drop_18 : decode cX8_drop 18 = .ok (.getfield 19, 3) := by decide +kernel
theorem dX8_drop_21 : decode cX8_drop 21 = .ok (.invokevirtual 253, 3) := by decide +kernel
theorem dX8_drop_24 : decode cX8_drop 24 = .ok (.aload_n 0, 1) := by decide +kernel
theorem dX8_drop_25 : decode cX8_drop 25 = .ok (.getfield 10, 3) := by decide +kernel
theorem dX8_drop_28 : decode cX8_drop 28 = .ok (.aload_n 0, 1) := by decide +kernel
theorem dX8_drop_29 : decode cX8_drop 29 = .ok (.getfield 19, 3) := by decide +kernel
theorem dX8_drop_32 : decode cX8_drop 32 = .ok (.invokevirtual 145, 3) := by decide +kernel
theorem dX8_drop_35 : decode cX8_drop 35 = .ok (.invokevirtual 256, 3) := by decide +kernel
theorem dX8_drop_38 : decode cX8_drop 38 = .ok (.aload_n 0, 1) := by decide +kernel
theorem dX8_drop_39 : decode cX8_drop 39 = .ok (.getfield 19, 3) := by decide +kernel
theorem dX8_drop_42 : decode cX8_drop 42 = .ok (.invokevirtual 145, 3) := by decide +kernel
theorem dX8_drop_45 : decode cX8_drop 45 = .ok (.ireturn, 1) := by decide +kernel
set_option maxRecDepth 20000 in
theorem ggX8_turn_X3_goOtherWay : GoodIn wsX8_turn wsX3_goOtherWay := goodIn_r _ [6, 7, 8, 9, 10, 5, 11, 12, 13, 14, 15, 16, 17, 18, 19, 20, 73, 74, 75, 76] (by decide +kernel) (by decide +kernel)
set_option maxRecDepth 20000 in
theorem gX8_turn_X3_goOtherWay : GoodIn wsX8_turn (wsV RX8 260 RX3 yX3_goOtherWay wsX3_goOtherWay) := goodIn_app (goodIn_of _ (by decide +kernel)) ggX8_turn_X3_goOtherWay
set_option maxRecDepth 20000 in
theorem ggX8_turn_X3_count : GoodIn wsX8_turn wsX3_count := goodIn_r _ [24, 7, 73, 74, 75, 76] (by decide +kernel) (by decide +kernel)
set_option maxRecDepth 20000 in
theorem gX8_turn_X3_count : GoodIn wsX8_turn (wsV RX8 145 RX3 yX3_count wsX3_count) := goodIn_app (goodIn_of _ (by decide +kernel)) ggX8_turn_X3_count
set_option maxRecDepth 20000 in
theorem ggX8_turn_X3_risesAheadOf : GoodIn wsX8_turn wsX3_risesAheadOf := goodIn_r _ [28, 7, 29, 30, 31, 5, 32, 33, 34, 35, 36, 12, 13, 14, 15, 16, 37, 38, 39, 40, 41, 42, 43, 44, 45, 46, 47, 48, 49, 50, 51, 52, 53, 54, 55, 56, 57, 58, 59, 60, 61, 73, 74, 75, 76] (by decide +kernel) (by decide +kernel)
set_option maxRecDepth 20000 in
theorem gX8_turn_X3_risesAheadOf : GoodIn wsX8_turn (wsV RX8 179 RX3 yX3_risesAheadOf wsX3_risesAheadOf) := goodIn_app (goodIn_of _ (by decide +kernel)) ggX8_turn_X3_risesAheadOf
theorem dX8_turn_0 : decode cX8_turn 0 = .ok (.aload_n 0, 1) := by decide +kernel
theorem dX8_turn_1 : decode cX8_turn 1 = .ok (.getfield 19, 3) := by decide +kernel
theorem dX8_turn_4 : decode cX8_turn 4 = .ok (.invokevirtual 260, 3) := by decide +kernel
theorem dX8_turn_7 : decode cX8_turn 7 = .ok (.aload_n 0, 1) := by decide +kernel
theorem dX8_turn_8 : decode cX8_turn 8 = .ok (.getfield 19, 3) := by decide +kernel
theorem dX8_turn_11 : decode cX8_turn 11 = .ok (.aload_n 0, 1) := by decide +kernel
theorem dX8_turn_12 : decode cX8_turn 12 = .ok (.getfield 19, 3) := by decide +kernel
theorem dX8_turn_15 : decode cX8_turn 15 = .ok (.invokevirtual 145, 3) := by decide +kernel
theorem dX8_turn_18 : decode cX8_turn 18 = .ok (.invokevirtual 179, 3) := by decide +kernel
theorem dX8_turn_21 : decode cX8_turn 21 = .ok (.ireturn, 1) := by decide +kernel
set_option maxRecDepth 20000 in
theorem ggX8_seasons_X3_count : GoodIn wsX8_seasons wsX3_count := goodIn_r _ [7, 8, 89, 90, 91, 92] (by decide +kernel) (by decide +kernel)
set_option maxRecDepth 20000 in
theorem gX8_seasons_X3_count : GoodIn wsX8_seasons (wsV RX8 145 RX3 yX3_count wsX3_count) := goodIn_app (goodIn_of _ (by decide +kernel)) ggX8_seasons_X3_count
set_option maxRecDepth 20000 in
theorem ggX8_seasons_X8_refuse : GoodIn wsX8_seasons wsX8_refuse := goodIn_r _ [13, 14, 78, 79, 80, 81, 82, 83, 84, 85, 86, 87, 88] (by decide +kernel) (by decide +kernel)
set_option maxRecDepth 20000 in
theorem gX8_seasons_X8_refuse : GoodIn wsX8_seasons (wsV RX8 77 RX8 yX8_refuse wsX8_refuse) := goodIn_app (goodIn_of _ (by decide +kernel)) ggX8_seasons_X8_refuse
set_option maxRecDepth 20000 in
theorem ggX8_seasons_X3_readByDraws : GoodIn wsX8_seasons wsX3_readByDraws := goodIn_r _ [18, 8, 19, 20, 21, 22, 23, 24, 25, 26, 27, 28, 6, 29, 30, 31, 32, 33, 34, 35, 36, 37, 38, 39, 40, 89, 90, 91, 92] (by decide +kernel) (by decide +kernel)
set_option maxRecDepth 20000 in
theorem gX8_seasons_X3_readByDraws : GoodIn wsX8_seasons (wsV RX8 263 RX3 yX3_readByDraws wsX3_readByDraws) := goodIn_app (goodIn_of _ (by decide +kernel)) ggX8_seasons_X3_readByDraws
set_option maxRecDepth 20000 in
theorem ggX8_seasons_X3_risesAheadOf : GoodIn wsX8_seasons wsX3_risesAheadOf := goodIn_r _ [44, 8, 45, 46, 47, 6, 48, 49, 50, 51, 52, 32, 33, 34, 35, 36, 53, 54, 55, 56, 57, 58, 59, 60, 61, 62, 63, 64, 65, 66, 67, 68, 69, 70, 71, 72, 73, 74, 75, 76, 77, 89, 90, 91, 92] (by decide +kernel) (by decide +kernel)
set_option maxRecDepth 20000 in
theorem gX8_seasons_X3_risesAheadOf : GoodIn wsX8_seasons (wsV RX8 179 RX3 yX3_risesAheadOf wsX3_risesAheadOf) := goodIn_app (goodIn_of _ (by decide +kernel)) ggX8_seasons_X3_risesAheadOf
theorem dX8_seasons_0 : decode cX8_seasons 0 = .ok (.aload_n 0, 1) := by decide +kernel
theorem dX8_seasons_1 : decode cX8_seasons 1 = .ok (.getfield 19, 3) := by decide +kernel
theorem dX8_seasons_4 : decode cX8_seasons 4 = .ok (.invokevirtual 145, 3) := by decide +kernel
theorem dX8_seasons_7 : decode cX8_seasons 7 = .ok (.ifCond .ne 13, 3) := by decide +kernel
theorem dX8_seasons_10 : decode cX8_seasons 10 = .ok (.ldc 125, 2) := by decide +kernel
theorem dX8_seasons_12 : decode cX8_seasons 12 = .ok (.aload_n 0, 1) := by decide +kernel
theorem dX8_seasons_13 : decode cX8_seasons 13 = .ok (.bipush (-5), 2) := by decide +kernel
theorem dX8_seasons_15 : decode cX8_seasons 15 = .ok (.invokevirtual 77, 3) := by decide +kernel
theorem dX8_seasons_18 : decode cX8_seasons 18 = .ok (.iadd, 1) := by decide +kernel
theorem dX8_seasons_19 : decode cX8_seasons 19 = .ok (.ireturn, 1) := by decide +kernel
theorem dX8_seasons_20 : decode cX8_seasons 20 = .ok (.iload_n 1, 1) := by decide +kernel
theorem dX8_seasons_21 : decode cX8_seasons 21 = .ok (.iconst 1, 1) := by decide +kernel
theorem dX8_seasons_22 : decode cX8_seasons 22 = .ok (.if_icmp .lt 9, 3) := by decide +kernel
theorem dX8_seasons_25 : decode cX8_seasons 25 = .ok (.iload_n 1, 1) := by decide +kernel
theorem dX8_seasons_26 : decode cX8_seasons 26 = .ok (.bipush 60, 2) := by decide +kernel
theorem dX8_seasons_28 : decode cX8_seasons 28 = .ok (.if_icmp .le 13, 3) := by decide +kernel
theorem dX8_seasons_31 : decode cX8_seasons 31 = .ok (.ldc 125, 2) := by decide +kernel
theorem dX8_seasons_33 : decode cX8_seasons 33 = .ok (.aload_n 0, 1) := by decide +kernel
theorem dX8_seasons_34 : decode cX8_seasons 34 = .ok (.bipush (-6), 2) := by decide +kernel
theorem dX8_seasons_36 : decode cX8_seasons 36 = .ok (.invokevirtual 77, 3) := by decide +kernel
theorem dX8_seasons_39 : decode cX8_seasons 39 = .ok (.iadd, 1) := by decide +kernel
theorem dX8_seasons_40 : decode cX8_seasons 40 = .ok (.ireturn, 1) := by decide +kernel
theorem dX8_seasons_41 : decode cX8_seasons 41 = .ok (.iconst 0, 1) := by decide +kernel
theorem dX8_seasons_42 : decode cX8_seasons 42 = .ok (.istore_n 2, 1) := by decide +kernel
theorem dX8_seasons_43 : decode cX8_seasons 43 = .ok (.iload_n 2, 1) := by decide +kernel
theorem dX8_seasons_44 : decode cX8_seasons 44 = .ok (.iload_n 1, 1) := by decide +kernel
theorem dX8_seasons_45 : decode cX8_seasons 45 = .ok (.if_icmp .ge 16, 3) := by decide +kernel
theorem dX8_seasons_48 : decode cX8_seasons 48 = .ok (.aload_n 0, 1) := by decide +kernel
theorem dX8_seasons_49 : decode cX8_seasons 49 = .ok (.getfield 19, 3) := by decide +kernel
theorem dX8_seasons_52 : decode cX8_seasons 52 = .ok (.invokevirtual 263, 3) := by decide +kernel
theorem dX8_seasons_55 : decode cX8_seasons 55 = .ok (.iinc 2 1, 3) := by decide +kernel
theorem dX8_seasons_58 : decode cX8_seasons 58 = .ok (.goto (-15), 3) := by decide +kernel
theorem dX8_seasons_61 : decode cX8_seasons 61 = .ok (.aload_n 0, 1) := by decide +kernel
theorem dX8_seasons_62 : decode cX8_seasons 62 = .ok (.getfield 19, 3) := by decide +kernel
theorem dX8_seasons_65 : decode cX8_seasons 65 = .ok (.aload_n 0, 1) := by decide +kernel
theorem dX8_seasons_66 : decode cX8_seasons 66 = .ok (.getfield 19, 3) := by decide +kernel
theorem dX8_seasons_69 : decode cX8_seasons 69 = .ok (.invokevirtual 145, 3) := by decide +kernel
theorem dX8_seasons_72 : decode cX8_seasons 72 = .ok (.invokevirtual 179, 3) := by decide +kernel
theorem dX8_seasons_75 : decode cX8_seasons 75 = .ok (.ireturn, 1) := by decide +kernel
set_option maxRecDepth 20000 in
theorem ggX8_seed_X3_seedNow : GoodIn wsX8_seed wsX3_seedNow := goodIn_r _ [6, 7, 23, 24, 25, 26] (by decide +kernel) (by decide +kernel)
set_option maxRecDepth 20000 in
theorem gX8_seed_X3_seedNow : GoodIn wsX8_seed (wsV RX8 266 RX3 yX3_seedNow wsX3_seedNow) := goodIn_app (goodIn_of _ (by decide +kernel)) ggX8_seed_X3_seedNow
set_option maxRecDepth 20000 in
theorem ggX8_seed_X3_putSeed : GoodIn wsX8_seed wsX3_putSeed := goodIn_r _ [11, 7, 23, 24, 25, 26] (by decide +kernel) (by decide +kernel)
set_option maxRecDepth 20000 in
theorem gX8_seed_X3_putSeed : GoodIn wsX8_seed (wsV RX8 269 RX3 yX3_putSeed wsX3_putSeed) := goodIn_app (goodIn_of _ (by decide +kernel)) ggX8_seed_X3_putSeed
theorem dX8_seed_0 : decode cX8_seed 0 = .ok (.aload_n 0, 1) := by decide +kernel
theorem dX8_seed_1 : decode cX8_seed 1 = .ok (.getfield 19, 3) := by decide +kernel
theorem dX8_seed_4 : decode cX8_seed 4 = .ok (.invokevirtual 266, 3) := by decide +kernel
theorem dX8_seed_7 : decode cX8_seed 7 = .ok (.istore_n 2, 1) := by decide +kernel
theorem dX8_seed_8 : decode cX8_seed 8 = .ok (.aload_n 0, 1) := by decide +kernel
theorem dX8_seed_9 : decode cX8_seed 9 = .ok (.getfield 19, 3) := by decide +kernel
theorem dX8_seed_12 : decode cX8_seed 12 = .ok (.iload_n 1, 1) := by decide +kernel
theorem dX8_seed_13 : decode cX8_seed 13 = .ok (.invokevirtual 269, 3) := by decide +kernel
theorem dX8_seed_16 : decode cX8_seed 16 = .ok (.iload_n 2, 1) := by decide +kernel
theorem dX8_seed_17 : decode cX8_seed 17 = .ok (.ireturn, 1) := by decide +kernel
set_option maxRecDepth 20000 in
theorem ggX8_act_X0_forget : GoodIn wsX8_act wsX0_forget := goodIn_r _ [7, 8, 55, 56, 57, 58, 59] (by decide +kernel) (by decide +kernel)
set_option maxRecDepth 20000 in
theorem gX8_act_X0_forget : GoodIn wsX8_act (wsV RX8 272 RX0 yX0_forget wsX0_forget) := goodIn_app (goodIn_of _ (by decide +kernel)) ggX8_act_X0_forget
set_option maxRecDepth 20000 in
theorem ggX8_act_X3_hasSetUp : GoodIn wsX8_act wsX3_hasSetUp := goodIn_r _ [13, 14, 60, 61, 62, 63] (by decide +kernel) (by decide +kernel)
set_option maxRecDepth 20000 in
theorem gX8_act_X3_hasSetUp : GoodIn wsX8_act (wsV RX8 115 RX3 yX3_hasSetUp wsX3_hasSetUp) := goodIn_app (goodIn_of _ (by decide +kernel)) ggX8_act_X3_hasSetUp
set_option maxRecDepth 20000 in
theorem ggX8_act_X3_get : GoodIn wsX8_act wsX3_get := goodIn_r _ [18, 19, 60, 61, 62, 63] (by decide +kernel) (by decide +kernel)
set_option maxRecDepth 20000 in
theorem gX8_act_X3_get : GoodIn wsX8_act (wsV RX8 129 RX3 yX3_get wsX3_get) := goodIn_app (goodIn_of _ (by decide +kernel)) ggX8_act_X3_get
set_option maxRecDepth 20000 in
theorem ggX8_act_X0_perform : GoodIn wsX8_act wsX0_perform := goodIn_r _ [23, 24, 25, 26, 27, 28, 6, 29, 30, 31, 32, 33, 34, 35, 36, 37, 38, 39, 40, 41, 42, 8, 43, 55, 56, 57, 58, 59] (by decide +kernel) (by decide +kernel)
set_option maxRecDepth 20000 in
theorem gX8_act_X0_perform : GoodIn wsX8_act (wsV RX8 275 RX0 yX0_perform wsX0_perform) := goodIn_app (goodIn_of _ (by decide +kernel)) ggX8_act_X0_perform
theorem dX8_act_0 : decode cX8_act 0 = .ok (.aload_n 0, 1) := by decide +kernel
theorem dX8_act_1 : decode cX8_act 1 = .ok (.getfield 57, 3) := by decide +kernel
theorem dX8_act_4 : decode cX8_act 4 = .ok (.invokevirtual 272, 3) := by decide +kernel
theorem dX8_act_7 : decode cX8_act 7 = .ok (.aload_n 0, 1) := by decide +kernel
theorem dX8_act_8 : decode cX8_act 8 = .ok (.getfield 19, 3) := by decide +kernel
theorem dX8_act_11 : decode cX8_act 11 = .ok (.iload_n 1, 1) := by decide +kernel
theorem dX8_act_12 : decode cX8_act 12 = .ok (.invokevirtual 115, 3) := by decide +kernel
theorem dX8_act_15 : decode cX8_act 15 = .ok (.ifCond .eq 12, 3) := by decide +kernel
theorem dX8_act_18 : decode cX8_act 18 = .ok (.iload_n 2, 1) := by decide +kernel
theorem dX8_act_19 : decode cX8_act 19 = .ok (.ifCond .lt 8, 3) := by decide +kernel
theorem dX8_act_22 : decode cX8_act 22 = .ok (.iload_n 2, 1) := by decide +kernel
theorem dX8_act_23 : decode cX8_act 23 = .ok (.iconst 3, 1) := by decide +kernel
theorem dX8_act_24 : decode cX8_act 24 = .ok (.if_icmp .lt 5, 3) := by decide +kernel
theorem dX8_act_27 : decode cX8_act 27 = .ok (.iconst 0, 1) := by decide +kernel
theorem dX8_act_28 : decode cX8_act 28 = .ok (.ireturn, 1) := by decide +kernel
theorem dX8_act_29 : decode cX8_act 29 = .ok (.aload_n 0, 1) := by decide +kernel
theorem dX8_act_30 : decode cX8_act 30 = .ok (.getfield 57, 3) := by decide +kernel
theorem dX8_act_33 : decode cX8_act 33 = .ok (.aload_n 0, 1) := by decide +kernel
theorem dX8_act_34 : decode cX8_act 34 = .ok (.getfield 19, 3) := by decide +kernel
theorem dX8_act_37 : decode cX8_act 37 = .ok (.iload_n 1, 1) := by decide +kernel
theorem dX8_act_38 : decode cX8_act 38 = .ok (.iconst 0, 1) := by decide +kernel
theorem dX8_act_39 : decode cX8_act 39 = .ok (.invokevirtual 129, 3) := by decide +kernel
theorem dX8_act_42 : decode cX8_act 42 = .ok (.iload_n 1, 1) := by decide +kernel
theorem dX8_act_43 : decode cX8_act 43 = .ok (.aload_n 0, 1) := by decide +kernel
theorem dX8_act_44 : decode cX8_act 44 = .ok (.getfield 19, 3) := by decide +kernel
theorem dX8_act_47 : decode cX8_act 47 = .ok (.iload_n 1, 1) := by decide +kernel
theorem dX8_act_48 : decode cX8_act 48 = .ok (.iconst 1, 1) := by decide +kernel
theorem dX8_act_49 : decode cX8_act 49 = .ok (.invokevirtual 129, 3) := by decide +kernel
theorem dX8_act_52 : decode cX8_act 52 = .ok (.iload_n 2, 1) := by decide +kernel
theorem dX8_act_53 : decode cX8_act 53 = .ok (.iload_n 3, 1) := by decide +kernel
theorem dX8_act_54 : decode cX8_act 54 = .ok (.invokevirtual 275, 3) := by decide +kernel
theorem dX8_act_57 : decode cX8_act 57 = .ok (.ireturn, 1) := by decide +kernel
set_option maxRecDepth 20000 in
theorem ggX8_trace_X0_bodyAt : GoodIn wsX8_trace wsX0_bodyAt := goodIn_r _ [6, 7, 8, 20, 21, 22, 23, 24] (by decide +kernel) (by decide +kernel)
set_option maxRecDepth 20000 in
theorem gX8_trace_X0_bodyAt : GoodIn wsX8_trace (wsV RX8 279 RX0 yX0_bodyAt wsX0_bodyAt) := goodIn_app (goodIn_of _ (by decide +kernel)) ggX8_trace_X0_bodyAt
theorem dX8_trace_0 : decode cX8_trace 0 = .ok (.aload_n 0, 1) := by decide +kernel
theorem dX8_trace_1 : decode cX8_trace 1 = .ok (.getfield 57, 3) := by decide +kernel
theorem dX8_trace_4 : decode cX8_trace 4 = .ok (.iload_n 1, 1) := by decide +kernel
theorem dX8_trace_5 : decode cX8_trace 5 = .ok (.invokevirtual 279, 3) := by decide +kernel
theorem dX8_trace_8 : decode cX8_trace 8 = .ok (.ireturn, 1) := by decide +kernel
set_option maxRecDepth 20000 in
theorem ggX8_image_X3_becomeLike : GoodIn wsX8_image wsX3_becomeLike := goodIn_r _ [8, 9, 10, 11, 12, 13, 14, 15, 16, 32, 33, 34, 35] (by decide +kernel) (by decide +kernel)
set_option maxRecDepth 20000 in
theorem gX8_image_X3_becomeLike : GoodIn wsX8_image (wsV RX8 282 RX3 yX3_becomeLike wsX3_becomeLike) := goodIn_app (goodIn_of _ (by decide +kernel)) ggX8_image_X3_becomeLike
set_option maxRecDepth 20000 in
theorem ggX8_image_X3_count : GoodIn wsX8_image wsX3_count := goodIn_r _ [20, 15, 32, 33, 34, 35] (by decide +kernel) (by decide +kernel)
set_option maxRecDepth 20000 in
theorem gX8_image_X3_count : GoodIn wsX8_image (wsV RX8 145 RX3 yX3_count wsX3_count) := goodIn_app (goodIn_of _ (by decide +kernel)) ggX8_image_X3_count
theorem dX8_image_0 : decode cX8_image 0 = .ok (.aload_n 0, 1) := by decide +kernel
theorem dX8_image_1 : decode cX8_image 1 = .ok (.getfield 23, 3) := by decide +kernel
theorem dX8_image_4 : decode cX8_image 4 = .ok (.aload_n 0, 1) := by decide +kernel
theorem dX8_image_5 : decode cX8_image 5 = .ok (.getfield 19, 3) := by decide +kernel
theorem dX8_image_8 : decode cX8_image 8 = .ok (.invokevirtual 282, 3) := by decide +kernel
theorem dX8_image_11 : decode cX8_image 11 = .ok (.aload_n 0, 1) := by decide +kernel
theorem dX8_image_12 : decode cX8_image 12 = .ok (.iconst 1, 1) := by decide +kernel
theorem dX8_image_13 : decode cX8_image 13 = .ok (.putfield 65, 3) := by decide +kernel
theorem dX8_image_16 : decode cX8_image 16 = .ok (.aload_n 0, 1) := by decide +kernel
theorem dX8_image_17 : decode cX8_image 17 = .ok (.getfield 19, 3) := by decide +kernel
theorem dX8_image_20 : decode cX8_image 20 = .ok (.invokevirtual 145, 3) := by decide +kernel
theorem dX8_image_23 : decode cX8_image 23 = .ok (.ireturn, 1) := by decide +kernel
set_option maxRecDepth 20000 in
theorem ggX8_restore_X8_refuse : GoodIn wsX8_restore wsX8_refuse := goodIn_r _ [9, 10, 47, 48, 49, 50, 51, 52, 53, 54, 55, 56, 57] (by decide +kernel) (by decide +kernel)
set_option maxRecDepth 20000 in
theorem gX8_restore_X8_refuse : GoodIn wsX8_restore (wsV RX8 77 RX8 yX8_refuse wsX8_refuse) := goodIn_app (goodIn_of _ (by decide +kernel)) ggX8_restore_X8_refuse
set_option maxRecDepth 20000 in
theorem ggX8_restore_X3_becomeLike : GoodIn wsX8_restore wsX3_becomeLike := goodIn_r _ [15, 16, 17, 18, 19, 20, 21, 22, 23, 58, 59, 60, 61] (by decide +kernel) (by decide +kernel)
set_option maxRecDepth 20000 in
theorem gX8_restore_X3_becomeLike : GoodIn wsX8_restore (wsV RX8 282 RX3 yX3_becomeLike wsX3_becomeLike) := goodIn_app (goodIn_of _ (by decide +kernel)) ggX8_restore_X3_becomeLike
set_option maxRecDepth 20000 in
theorem ggX8_restore_X3_count : GoodIn wsX8_restore wsX3_count := goodIn_r _ [27, 22, 58, 59, 60, 61] (by decide +kernel) (by decide +kernel)
set_option maxRecDepth 20000 in
theorem gX8_restore_X3_count : GoodIn wsX8_restore (wsV RX8 145 RX3 yX3_count wsX3_count) := goodIn_app (goodIn_of _ (by decide +kernel)) ggX8_restore_X3_count
set_option maxRecDepth 20000 in
theorem ggX8_restore_X5_forgetFrom : GoodIn wsX8_restore wsX5_forgetFrom := goodIn_r _ [32, 33, 34, 35, 36, 31, 37, 38, 39, 40, 41, 42, 43, 44, 45, 46, 62, 63, 64] (by decide +kernel) (by decide +kernel)
set_option maxRecDepth 20000 in
theorem gX8_restore_X5_forgetFrom : GoodIn wsX8_restore (wsV RX8 256 RX5 yX5_forgetFrom wsX5_forgetFrom) := goodIn_app (goodIn_of _ (by decide +kernel)) ggX8_restore_X5_forgetFrom
theorem dX8_restore_0 : decode cX8_restore 0 = .ok (.aload_n 0, 1) := by decide +kernel
theorem dX8_restore_1 : decode cX8_restore 1 = .ok (.getfield 65, 3) := by decide +kernel
theorem dX8_restore_4 : decode cX8_restore 4 = .ok (.ifCond .ne 10, 3) := by decide +kernel
theorem dX8_restore_7 : decode cX8_restore 7 = .ok (.aload_n 0, 1) := by decide +kernel
theorem dX8_restore_8 : decode cX8_restore 8 = .ok (.bipush (-6), 2) := by decide +kernel
theorem dX8_restore_10 : decode cX8_restore 10 = .ok (.invokevirtual 77, 3) := by decide +kernel
theorem dX8_restore_13 : decode cX8_restore 13 = .ok (.ireturn, 1) := by decide +kernel
theorem dX8_restore_14 : decode cX8_restore 14 = .ok (.aload_n 0, 1) := by decide +kernel
theorem dX8_restore_15 : decode cX8_restore 15 = .ok (.getfield 19, 3) := by decide +kernel
theorem dX8_restore_18 : decode cX8_restore 18 = .ok (.aload_n 0, 1) := by decide +kernel
theorem dX8_restore_19 : decode cX8_restore 19 = .ok (.getfield 23, 3) := by decide +kernel
theorem dX8_restore_22 : decode cX8_restore 22 = .ok (.invokevirtual 282, 3) := by decide +kernel
theorem dX8_restore_25 : decode cX8_restore 25 = .ok (.aload_n 0, 1) := by decide +kernel
theorem dX8_restore_26 : decode cX8_restore 26 = .ok (.getfield 10, 3) := by decide +kernel
theorem dX8_restore_29 : decode cX8_restore 29 = .ok (.aload_n 0, 1) := by decide +kernel
theorem dX8_restore_30 : decode cX8_restore 30 = .ok (.getfield 19, 3) := by decide +kernel
theorem dX8_restore_33 : decode cX8_restore 33 = .ok (.invokevirtual 145, 3) := by decide +kernel
theorem dX8_restore_36 : decode cX8_restore 36 = .ok (.invokevirtual 256, 3) := by decide +kernel
theorem dX8_restore_39 : decode cX8_restore 39 = .ok (.aload_n 0, 1) := by decide +kernel
theorem dX8_restore_40 : decode cX8_restore 40 = .ok (.getfield 19, 3) := by decide +kernel
theorem dX8_restore_43 : decode cX8_restore 43 = .ok (.invokevirtual 145, 3) := by decide +kernel
theorem dX8_restore_46 : decode cX8_restore 46 = .ok (.ireturn, 1) := by decide +kernel
set_option maxRecDepth 20000 in
theorem ggX8_status_X3_count : GoodIn wsX8_status wsX3_count := goodIn_r _ [8, 9, 55, 56, 57, 58] (by decide +kernel) (by decide +kernel)
set_option maxRecDepth 20000 in
theorem gX8_status_X3_count : GoodIn wsX8_status (wsV RX8 145 RX3 yX3_count wsX3_count) := goodIn_app (goodIn_of _ (by decide +kernel)) ggX8_status_X3_count
set_option maxRecDepth 20000 in
theorem ggX8_status_X8_yardsInAll : GoodIn wsX8_status wsX8_yardsInAll := goodIn_r _ [14, 2, 4, 5, 6, 7, 8, 9, 15, 16, 17, 18, 19, 20, 21, 22, 23, 24, 25, 26, 27, 44, 45, 46, 47, 48, 49, 50, 51, 52, 53, 54, 55, 56, 57, 58] (by decide +kernel) (by decide +kernel)
set_option maxRecDepth 20000 in
theorem gX8_status_X8_yardsInAll : GoodIn wsX8_status (wsV RX8 241 RX8 yX8_yardsInAll wsX8_yardsInAll) := goodIn_app (goodIn_of _ (by decide +kernel)) ggX8_status_X8_yardsInAll
set_option maxRecDepth 20000 in
theorem ggX8_status_X3_setting : GoodIn wsX8_status wsX3_setting := goodIn_r _ [31, 32, 55, 56, 57, 58] (by decide +kernel) (by decide +kernel)
set_option maxRecDepth 20000 in
theorem gX8_status_X3_setting : GoodIn wsX8_status (wsV RX8 163 RX3 yX3_setting wsX3_setting) := goodIn_app (goodIn_of _ (by decide +kernel)) ggX8_status_X3_setting
set_option maxRecDepth 20000 in
theorem ggX8_status_X3_seedNow : GoodIn wsX8_status wsX3_seedNow := goodIn_r _ [36, 37, 55, 56, 57, 58] (by decide +kernel) (by decide +kernel)
set_option maxRecDepth 20000 in
theorem gX8_status_X3_seedNow : GoodIn wsX8_status (wsV RX8 266 RX3 yX3_seedNow wsX3_seedNow) := goodIn_app (goodIn_of _ (by decide +kernel)) ggX8_status_X3_seedNow
set_option maxRecDepth 20000 in
theorem ggX8_status_X0_ranInAll : GoodIn wsX8_status wsX0_ranInAll := goodIn_r _ [42, 43, 59, 60, 61, 62, 63] (by decide +kernel) (by decide +kernel)
set_option maxRecDepth 20000 in
theorem gX8_status_X0_ranInAll : GoodIn wsX8_status (wsV RX8 285 RX0 yX0_ranInAll wsX0_ranInAll) := goodIn_app (goodIn_of _ (by decide +kernel)) ggX8_status_X0_ranInAll
theorem dX8_status_0 : decode cX8_status 0 = .ok (.iload_n 1, 1) := by decide +kernel
theorem dX8_status_1 : decode cX8_status 1 = .ok (.bipush 11, 2) := by decide +kernel
theorem dX8_status_3 : decode cX8_status 3 = .ok (.if_icmp .lt 19, 3) := by decide +kernel
theorem dX8_status_6 : decode cX8_status 6 = .ok (.iload_n 1, 1) := by decide +kernel
theorem dX8_status_7 : decode cX8_status 7 = .ok (.bipush 17, 2) := by decide +kernel
theorem dX8_status_9 : decode cX8_status 9 = .ok (.if_icmp .gt 13, 3) := by decide +kernel
theorem dX8_status_12 : decode cX8_status 12 = .ok (.aload_n 0, 1) := by decide +kernel
theorem dX8_status_13 : decode cX8_status 13 = .ok (.getfield 61, 3) := by decide +kernel
theorem dX8_status_16 : decode cX8_status 16 = .ok (.iload_n 1, 1) := by decide +kernel
theorem dX8_status_17 : decode cX8_status 17 = .ok (.bipush 10, 2) := by decide +kernel
theorem dX8_status_19 : decode cX8_status 19 = .ok (.isub, 1) := by decide +kernel
theorem dX8_status_20 : decode cX8_status 20 = .ok (.iaload, 1) := by decide +kernel
theorem dX8_status_21 : decode cX8_status 21 = .ok (.ireturn, 1) := by decide +kernel
theorem dX8_status_22 : decode cX8_status 22 = .ok (.iload_n 1, 1) := by decide +kernel
theorem dX8_status_23 : decode cX8_status 23 = .ok (.tableswitch 100 0 6 #[41, 49, 54, 64, 74, 84, 92], 41) := by decide +kernel
theorem dX8_status_64 : decode cX8_status 64 = .ok (.aload_n 0, 1) := by decide +kernel
theorem dX8_status_65 : decode cX8_status 65 = .ok (.getfield 19, 3) := by decide +kernel
theorem dX8_status_68 : decode cX8_status 68 = .ok (.invokevirtual 145, 3) := by decide +kernel
theorem dX8_status_71 : decode cX8_status 71 = .ok (.ireturn, 1) := by decide +kernel
theorem dX8_status_72 : decode cX8_status 72 = .ok (.aload_n 0, 1) := by decide +kernel
theorem dX8_status_73 : decode cX8_status 73 = .ok (.invokevirtual 241, 3) := by decide +kernel
theorem dX8_status_76 : decode cX8_status 76 = .ok (.ireturn, 1) := by decide +kernel
theorem dX8_status_77 : decode cX8_status 77 = .ok (.aload_n 0, 1) := by decide +kernel
theorem dX8_status_78 : decode cX8_status 78 = .ok (.getfield 19, 3) := by decide +kernel
theorem dX8_status_81 : decode cX8_status 81 = .ok (.bipush 8, 2) := by decide +kernel
theorem dX8_status_83 : decode cX8_status 83 = .ok (.invokevirtual 163, 3) := by decide +kernel
theorem dX8_status_86 : decode cX8_status 86 = .ok (.ireturn, 1) := by decide +kernel
theorem dX8_status_87 : decode cX8_status 87 = .ok (.aload_n 0, 1) := by decide +kernel
theorem dX8_status_88 : decode cX8_status 88 = .ok (.getfield 19, 3) := by decide +kernel
theorem dX8_status_91 : decode cX8_status 91 = .ok (.bipush 9, 2) := by decide +kernel
theorem dX8_status_93 : decode cX8_status 93 = .ok (.invokevirtual 163, 3) := by decide +kernel
theorem dX8_status_96 : decode cX8_status 96 = .ok (.ireturn, 1) := by decide +kernel
theorem dX8_status_97 : decode cX8_status 97 = .ok (.aload_n 0, 1) := by decide +kernel
theorem dX8_status_98 : decode cX8_status 98 = .ok (.getfield 19, 3) := by decide +kernel
theorem dX8_status_101 : decode cX8_status 101 = .ok (.bipush 10, 2) := by decide +kernel
theorem dX8_status_103 : decode cX8_status 103 = .ok (.invokevirtual 163, 3) := by decide +kernel
theorem dX8_status_106 : decode cX8_status 106 = .ok (.ireturn, 1) := by decide +kernel
theorem dX8_status_107 : decode cX8_status 107 = .ok (.aload_n 0, 1) := by decide +kernel
theorem dX8_status_108 : decode cX8_status 108 = .ok (.getfield 19, 3) := by decide +kernel
theorem dX8_status_111 : decode cX8_status 111 = .ok (.invokevirtual 266, 3) := by decide +kernel
theorem dX8_status_114 : decode cX8_status 114 = .ok (.ireturn, 1) := by decide +kernel
theorem dX8_status_115 : decode cX8_status 115 = .ok (.aload_n 0, 1) := by decide +kernel
theorem dX8_status_116 : decode cX8_status 116 = .ok (.getfield 57, 3) := by decide +kernel
theorem dX8_status_119 : decode cX8_status 119 = .ok (.invokevirtual 285, 3) := by decide +kernel
theorem dX8_status_122 : decode cX8_status 122 = .ok (.ireturn, 1) := by decide +kernel
theorem dX8_status_123 : decode cX8_status 123 = .ok (.iconst (-1), 1) := by decide +kernel
theorem dX8_status_124 : decode cX8_status 124 = .ok (.ireturn, 1) := by decide +kernel
theorem dX8_refuse_0 : decode cX8_refuse 0 = .ok (.iload_n 1, 1) := by decide +kernel
theorem dX8_refuse_1 : decode cX8_refuse 1 = .ok (.iconst (-1), 1) := by decide +kernel
theorem dX8_refuse_2 : decode cX8_refuse 2 = .ok (.if_icmp .gt 20, 3) := by decide +kernel
theorem dX8_refuse_5 : decode cX8_refuse 5 = .ok (.iload_n 1, 1) := by decide +kernel
theorem dX8_refuse_6 : decode cX8_refuse 6 = .ok (.bipush (-7), 2) := by decide +kernel
theorem dX8_refuse_8 : decode cX8_refuse 8 = .ok (.if_icmp .lt 14, 3) := by decide +kernel
theorem dX8_refuse_11 : decode cX8_refuse 11 = .ok (.aload_n 0, 1) := by decide +kernel
theorem dX8_refuse_12 : decode cX8_refuse 12 = .ok (.getfield 61, 3) := by decide +kernel
theorem dX8_refuse_15 : decode cX8_refuse 15 = .ok (.iload_n 1, 1) := by decide +kernel
theorem dX8_refuse_16 : decode cX8_refuse 16 = .ok (.ineg, 1) := by decide +kernel
theorem dX8_refuse_17 : decode cX8_refuse 17 = .ok (.dup2, 1) := by decide +kernel
theorem dX8_refuse_18 : decode cX8_refuse 18 = .ok (.iaload, 1) := by decide +kernel
theorem dX8_refuse_19 : decode cX8_refuse 19 = .ok (.iconst 1, 1) := by decide +kernel
theorem dX8_refuse_20 : decode cX8_refuse 20 = .ok (.iadd, 1) := by decide +kernel
theorem dX8_refuse_21 : decode cX8_refuse 21 = .ok (.iastore, 1) := by decide +kernel
theorem dX8_refuse_22 : decode cX8_refuse 22 = .ok (.iload_n 1, 1) := by decide +kernel
theorem dX8_refuse_23 : decode cX8_refuse 23 = .ok (.ireturn, 1) := by decide +kernel
set_option maxRecDepth 20000 in
theorem ggX8_rowRefusal_X5_has : GoodIn wsX8_rowRefusal wsX5_has := goodIn_r _ [6] (by decide +kernel) (by decide +kernel)
set_option maxRecDepth 20000 in
theorem gX8_rowRefusal_X5_has : GoodIn wsX8_rowRefusal (wsV RX8 73 RX5 yX5_has wsX5_has) := goodIn_app (goodIn_of _ (by decide +kernel)) ggX8_rowRefusal_X5_has
set_option maxRecDepth 20000 in
theorem ggX8_rowRefusal_X5_holdsSetUp : GoodIn wsX8_rowRefusal wsX5_holdsSetUp := goodIn_r _ [10, 11, 12, 3, 4, 5, 6, 28, 29, 30] (by decide +kernel) (by decide +kernel)
set_option maxRecDepth 20000 in
theorem gX8_rowRefusal_X5_holdsSetUp : GoodIn wsX8_rowRefusal (wsV RX8 288 RX5 yX5_holdsSetUp wsX5_holdsSetUp) := goodIn_app (goodIn_of _ (by decide +kernel)) ggX8_rowRefusal_X5_holdsSetUp
set_option maxRecDepth 20000 in
theorem ggX8_rowRefusal_X5_heldBy : GoodIn wsX8_rowRefusal wsX5_heldBy := goodIn_r _ [16, 11, 12, 3, 4, 5, 6, 28, 29, 30] (by decide +kernel) (by decide +kernel)
set_option maxRecDepth 20000 in
theorem gX8_rowRefusal_X5_heldBy : GoodIn wsX8_rowRefusal (wsV RX8 100 RX5 yX5_heldBy wsX5_heldBy) := goodIn_app (goodIn_of _ (by decide +kernel)) ggX8_rowRefusal_X5_heldBy
theorem dX8_rowRefusal_0 : decode cX8_rowRefusal 0 = .ok (.aload_n 0, 1) := by decide +kernel
theorem dX8_rowRefusal_1 : decode cX8_rowRefusal 1 = .ok (.getfield 10, 3) := by decide +kernel
theorem dX8_rowRefusal_4 : decode cX8_rowRefusal 4 = .ok (.iload_n 1, 1) := by decide +kernel
theorem dX8_rowRefusal_5 : decode cX8_rowRefusal 5 = .ok (.invokevirtual 73, 3) := by decide +kernel
theorem dX8_rowRefusal_8 : decode cX8_rowRefusal 8 = .ok (.ifCond .ne 5, 3) := by decide +kernel
theorem dX8_rowRefusal_11 : decode cX8_rowRefusal 11 = .ok (.iconst (-1), 1) := by decide +kernel
theorem dX8_rowRefusal_12 : decode cX8_rowRefusal 12 = .ok (.ireturn, 1) := by decide +kernel
theorem dX8_rowRefusal_13 : decode cX8_rowRefusal 13 = .ok (.aload_n 0, 1) := by decide +kernel
theorem dX8_rowRefusal_14 : decode cX8_rowRefusal 14 = .ok (.getfield 10, 3) := by decide +kernel
theorem dX8_rowRefusal_17 : decode cX8_rowRefusal 17 = .ok (.iload_n 1, 1) := by decide +kernel
theorem dX8_rowRefusal_18 : decode cX8_rowRefusal 18 = .ok (.invokevirtual 288, 3) := by decide +kernel
theorem dX8_rowRefusal_21 : decode cX8_rowRefusal 21 = .ok (.ifCond .eq 6, 3) := by decide +kernel
theorem dX8_rowRefusal_24 : decode cX8_rowRefusal 24 = .ok (.bipush (-2), 2) := by decide +kernel
theorem dX8_rowRefusal_26 : decode cX8_rowRefusal 26 = .ok (.ireturn, 1) := by decide +kernel
theorem dX8_rowRefusal_27 : decode cX8_rowRefusal 27 = .ok (.aload_n 0, 1) := by decide +kernel
theorem dX8_rowRefusal_28 : decode cX8_rowRefusal 28 = .ok (.getfield 10, 3) := by decide +kernel
theorem dX8_rowRefusal_31 : decode cX8_rowRefusal 31 = .ok (.iload_n 1, 1) := by decide +kernel
theorem dX8_rowRefusal_32 : decode cX8_rowRefusal 32 = .ok (.invokevirtual 100, 3) := by decide +kernel
theorem dX8_rowRefusal_35 : decode cX8_rowRefusal 35 = .ok (.iconst (-1), 1) := by decide +kernel
theorem dX8_rowRefusal_36 : decode cX8_rowRefusal 36 = .ok (.if_icmp .ne 8, 3) := by decide +kernel
theorem dX8_rowRefusal_39 : decode cX8_rowRefusal 39 = .ok (.bipush (-3), 2) := by decide +kernel
theorem dX8_rowRefusal_41 : decode cX8_rowRefusal 41 = .ok (.goto 4, 3) := by decide +kernel
theorem dX8_rowRefusal_44 : decode cX8_rowRefusal 44 = .ok (.iconst 0, 1) := by decide +kernel
theorem dX8_rowRefusal_45 : decode cX8_rowRefusal 45 = .ok (.ireturn, 1) := by decide +kernel
set_option maxRecDepth 20000 in
theorem ggX8_pairRefusal_X8_rowRefusal : GoodIn wsX8_pairRefusal wsX8_rowRefusal := goodIn_r _ [9, 10, 11, 12, 13, 14, 15, 16, 17, 18, 19, 20, 21, 22, 23, 24, 25, 26, 27, 28, 29, 30, 31, 32, 33, 34, 35, 36, 37, 38, 39] (by decide +kernel) (by decide +kernel)
set_option maxRecDepth 20000 in
theorem gX8_pairRefusal_X8_rowRefusal : GoodIn wsX8_pairRefusal (wsV RX8 85 RX8 yX8_rowRefusal wsX8_rowRefusal) := goodIn_app (goodIn_of _ (by decide +kernel)) ggX8_pairRefusal_X8_rowRefusal
theorem dX8_pairRefusal_0 : decode cX8_pairRefusal 0 = .ok (.aload_n 0, 1) := by decide +kernel
theorem dX8_pairRefusal_1 : decode cX8_pairRefusal 1 = .ok (.iload_n 1, 1) := by decide +kernel
theorem dX8_pairRefusal_2 : decode cX8_pairRefusal 2 = .ok (.invokevirtual 85, 3) := by decide +kernel
theorem dX8_pairRefusal_5 : decode cX8_pairRefusal 5 = .ok (.istore_n 3, 1) := by decide +kernel
theorem dX8_pairRefusal_6 : decode cX8_pairRefusal 6 = .ok (.aload_n 0, 1) := by decide +kernel
theorem dX8_pairRefusal_7 : decode cX8_pairRefusal 7 = .ok (.iload_n 2, 1) := by decide +kernel
theorem dX8_pairRefusal_8 : decode cX8_pairRefusal 8 = .ok (.invokevirtual 85, 3) := by decide +kernel
theorem dX8_pairRefusal_11 : decode cX8_pairRefusal 11 = .ok (.istore 4, 2) := by decide +kernel
theorem dX8_pairRefusal_13 : decode cX8_pairRefusal 13 = .ok (.iload_n 3, 1) := by decide +kernel
theorem dX8_pairRefusal_14 : decode cX8_pairRefusal 14 = .ok (.ifCond .ne 6, 3) := by decide +kernel
theorem dX8_pairRefusal_17 : decode cX8_pairRefusal 17 = .ok (.iload 4, 2) := by decide +kernel
theorem dX8_pairRefusal_19 : decode cX8_pairRefusal 19 = .ok (.ireturn, 1) := by decide +kernel
theorem dX8_pairRefusal_20 : decode cX8_pairRefusal 20 = .ok (.iload 4, 2) := by decide +kernel
theorem dX8_pairRefusal_22 : decode cX8_pairRefusal 22 = .ok (.ifCond .ne 7, 3) := by decide +kernel
theorem dX8_pairRefusal_25 : decode cX8_pairRefusal 25 = .ok (.iload_n 3, 1) := by decide +kernel
theorem dX8_pairRefusal_26 : decode cX8_pairRefusal 26 = .ok (.goto 9, 3) := by decide +kernel
theorem dX8_pairRefusal_29 : decode cX8_pairRefusal 29 = .ok (.iload_n 3, 1) := by decide +kernel
theorem dX8_pairRefusal_30 : decode cX8_pairRefusal 30 = .ok (.iload 4, 2) := by decide +kernel
theorem dX8_pairRefusal_32 : decode cX8_pairRefusal 32 = .ok (.invokestatic 291, 3) := by decide +kernel
theorem dX8_pairRefusal_35 : decode cX8_pairRefusal 35 = .ok (.ireturn, 1) := by decide +kernel
set_option maxRecDepth 20000 in
theorem ggX8_bookRefusal_X8_rowRefusal : GoodIn wsX8_bookRefusal wsX8_rowRefusal := goodIn_r _ [7, 2, 8, 9, 10, 11, 12, 13, 14, 15, 16, 17, 18, 19, 20, 21, 22, 28, 29, 30, 31, 32, 33, 34, 35, 36, 37, 38, 39, 40, 41] (by decide +kernel) (by decide +kernel)
set_option maxRecDepth 20000 in
theorem gX8_bookRefusal_X8_rowRefusal : GoodIn wsX8_bookRefusal (wsV RX8 85 RX8 yX8_rowRefusal wsX8_rowRefusal) := goodIn_app (goodIn_of _ (by decide +kernel)) ggX8_bookRefusal_X8_rowRefusal
set_option maxRecDepth 20000 in
theorem ggX8_bookRefusal_X5_lengthOf : GoodIn wsX8_bookRefusal wsX5_lengthOf := goodIn_r _ [26, 27, 18, 9, 10, 11, 12, 39, 40, 41] (by decide +kernel) (by decide +kernel)
set_option maxRecDepth 20000 in
theorem gX8_bookRefusal_X5_lengthOf : GoodIn wsX8_bookRefusal (wsV RX8 210 RX5 yX5_lengthOf wsX5_lengthOf) := goodIn_app (goodIn_of _ (by decide +kernel)) ggX8_bookRefusal_X5_lengthOf
theorem dX8_bookRefusal_0 : decode cX8_bookRefusal 0 = .ok (.aload_n 0, 1) := by decide +kernel
theorem dX8_bookRefusal_1 : decode cX8_bookRefusal 1 = .ok (.iload_n 1, 1) := by decide +kernel
theorem dX8_bookRefusal_2 : decode cX8_bookRefusal 2 = .ok (.invokevirtual 85, 3) := by decide +kernel
theorem dX8_bookRefusal_5 : decode cX8_bookRefusal 5 = .ok (.istore_n 3, 1) := by decide +kernel
theorem dX8_bookRefusal_6 : decode cX8_bookRefusal 6 = .ok (.iload_n 3, 1) := by decide +kernel
theorem dX8_bookRefusal_7 : decode cX8_bookRefusal 7 = .ok (.ifCond .eq 5, 3) := by decide +kernel
theorem dX8_bookRefusal_10 : decode cX8_bookRefusal 10 = .ok (.iload_n 3, 1) := by decide +kernel
theorem dX8_bookRefusal_11 : decode cX8_bookRefusal 11 = .ok (.ireturn, 1) := by decide +kernel
theorem dX8_bookRefusal_12 : decode cX8_bookRefusal 12 = .ok (.iload_n 2, 1) := by decide +kernel
theorem dX8_bookRefusal_13 : decode cX8_bookRefusal 13 = .ok (.ifCond .ge 6, 3) := by decide +kernel
theorem dX8_bookRefusal_16 : decode cX8_bookRefusal 16 = .ok (.bipush (-4), 2) := by decide +kernel
theorem dX8_bookRefusal_18 : decode cX8_bookRefusal 18 = .ok (.ireturn, 1) := by decide +kernel
theorem dX8_bookRefusal_19 : decode cX8_bookRefusal 19 = .ok (.ldc2_w 294, 3) := by decide +kernel
theorem dX8_bookRefusal_22 : decode cX8_bookRefusal 22 = .ok (.iload_n 2, 1) := by decide +kernel
theorem dX8_bookRefusal_23 : decode cX8_bookRefusal 23 = .ok (.i2l, 1) := by decide +kernel
theorem dX8_bookRefusal_24 : decode cX8_bookRefusal 24 = .ok (.lmul, 1) := by decide +kernel
theorem dX8_bookRefusal_25 : decode cX8_bookRefusal 25 = .ok (.aload_n 0, 1) := by decide +kernel
theorem dX8_bookRefusal_26 : decode cX8_bookRefusal 26 = .ok (.getfield 10, 3) := by decide +kernel
theorem dX8_bookRefusal_29 : decode cX8_bookRefusal 29 = .ok (.iload_n 1, 1) := by decide +kernel
theorem dX8_bookRefusal_30 : decode cX8_bookRefusal 30 = .ok (.invokevirtual 210, 3) := by decide +kernel
theorem dX8_bookRefusal_33 : decode cX8_bookRefusal 33 = .ok (.i2l, 1) := by decide +kernel
theorem dX8_bookRefusal_34 : decode cX8_bookRefusal 34 = .ok (.lcmp, 1) := by decide +kernel
theorem dX8_bookRefusal_35 : decode cX8_bookRefusal 35 = .ok (.ifCond .le 6, 3) := by decide +kernel
theorem dX8_bookRefusal_38 : decode cX8_bookRefusal 38 = .ok (.bipush (-5), 2) := by decide +kernel
theorem dX8_bookRefusal_40 : decode cX8_bookRefusal 40 = .ok (.ireturn, 1) := by decide +kernel
theorem dX8_bookRefusal_41 : decode cX8_bookRefusal 41 = .ok (.iload_n 2, 1) := by decide +kernel
theorem dX8_bookRefusal_42 : decode cX8_bookRefusal 42 = .ok (.bipush 16, 2) := by decide +kernel
theorem dX8_bookRefusal_44 : decode cX8_bookRefusal 44 = .ok (.if_icmp .le 8, 3) := by decide +kernel
theorem dX8_bookRefusal_47 : decode cX8_bookRefusal 47 = .ok (.bipush (-6), 2) := by decide +kernel
theorem dX8_bookRefusal_49 : decode cX8_bookRefusal 49 = .ok (.goto 4, 3) := by decide +kernel
theorem dX8_bookRefusal_52 : decode cX8_bookRefusal 52 = .ok (.iconst 0, 1) := by decide +kernel
theorem dX8_bookRefusal_53 : decode cX8_bookRefusal 53 = .ok (.ireturn, 1) := by decide +kernel
set_option maxRecDepth 20000 in
theorem ggX8_saysRefusal_X5_has : GoodIn wsX8_saysRefusal wsX5_has := goodIn_r _ [7] (by decide +kernel) (by decide +kernel)
set_option maxRecDepth 20000 in
theorem gX8_saysRefusal_X5_has : GoodIn wsX8_saysRefusal (wsV RX8 73 RX5 yX5_has wsX5_has) := goodIn_app (goodIn_of _ (by decide +kernel)) ggX8_saysRefusal_X5_has
set_option maxRecDepth 20000 in
theorem ggX8_saysRefusal_X3_fits : GoodIn wsX8_saysRefusal wsX3_fits := goodIn_r _ [11, 12, 13] (by decide +kernel) (by decide +kernel)
set_option maxRecDepth 20000 in
theorem gX8_saysRefusal_X3_fits : GoodIn wsX8_saysRefusal (va_wsS RX8 135 yX3_fits wsX3_fits) := goodIn_app (goodIn_of _ (by decide +kernel)) ggX8_saysRefusal_X3_fits
set_option maxRecDepth 20000 in
theorem ggX8_saysRefusal_X5_heldBy : GoodIn wsX8_saysRefusal wsX5_heldBy := goodIn_r _ [17, 18, 19, 4, 5, 6, 7, 48, 49, 50] (by decide +kernel) (by decide +kernel)
set_option maxRecDepth 20000 in
theorem gX8_saysRefusal_X5_heldBy : GoodIn wsX8_saysRefusal (wsV RX8 100 RX5 yX5_heldBy wsX5_heldBy) := goodIn_app (goodIn_of _ (by decide +kernel)) ggX8_saysRefusal_X5_heldBy
set_option maxRecDepth 20000 in
theorem ggX8_saysRefusal_X5_holdsSetUp : GoodIn wsX8_saysRefusal wsX5_holdsSetUp := goodIn_r _ [23, 18, 19, 4, 5, 6, 7, 48, 49, 50] (by decide +kernel) (by decide +kernel)
set_option maxRecDepth 20000 in
theorem gX8_saysRefusal_X5_holdsSetUp : GoodIn wsX8_saysRefusal (wsV RX8 288 RX5 yX5_holdsSetUp wsX5_holdsSetUp) := goodIn_app (goodIn_of _ (by decide +kernel)) ggX8_saysRefusal_X5_holdsSetUp
set_option maxRecDepth 20000 in
theorem ggX8_saysRefusal_X3_get : GoodIn wsX8_saysRefusal wsX3_get := goodIn_r _ [27, 28, 51, 52, 53, 54] (by decide +kernel) (by decide +kernel)
set_option maxRecDepth 20000 in
theorem gX8_saysRefusal_X3_get : GoodIn wsX8_saysRefusal (wsV RX8 129 RX3 yX3_get wsX3_get) := goodIn_app (goodIn_of _ (by decide +kernel)) ggX8_saysRefusal_X3_get
set_option maxRecDepth 20000 in
theorem ggX8_saysRefusal_X1_isUnder : GoodIn wsX8_saysRefusal wsX1_isUnder := goodIn_r _ [32, 33, 34, 35, 31, 36] (by decide +kernel) (by decide +kernel)
set_option maxRecDepth 20000 in
theorem gX8_saysRefusal_X1_isUnder : GoodIn wsX8_saysRefusal (va_wsS RX8 296 yX1_isUnder wsX1_isUnder) := goodIn_app (goodIn_of _ (by decide +kernel)) ggX8_saysRefusal_X1_isUnder
theorem dX8_saysRefusal_0 : decode cX8_saysRefusal 0 = .ok (.aload_n 0, 1) := by decide +kernel
theorem dX8_saysRefusal_1 : decode cX8_saysRefusal 1 = .ok (.getfield 10, 3) := by decide +kernel
theorem dX8_saysRefusal_4 : decode cX8_saysRefusal 4 = .ok (.iload_n 1, 1) := by decide +kernel
theorem dX8_saysRefusal_5 : decode cX8_saysRefusal 5 = .ok (.invokevirtual 73, 3) := by decide +kernel
theorem dX8_saysRefusal_8 : decode cX8_saysRefusal 8 = .ok (.ifCond .eq 11, 3) := by decide +kernel
theorem dX8_saysRefusal_11 : decode cX8_saysRefusal 11 = .ok (.iconst 0, 1) := by decide +kernel
theorem dX8_saysRefusal_12 : decode cX8_saysRefusal 12 = .ok (.iload_n 2, 1) := by decide +kernel
theorem dX8_saysRefusal_13 : decode cX8_saysRefusal 13 = .ok (.invokestatic 135, 3) := by decide +kernel
theorem dX8_saysRefusal_16 : decode cX8_saysRefusal 16 = .ok (.ifCond .ne 5, 3) := by decide +kernel
theorem dX8_saysRefusal_19 : decode cX8_saysRefusal 19 = .ok (.iconst (-1), 1) := by decide +kernel
theorem dX8_saysRefusal_20 : decode cX8_saysRefusal 20 = .ok (.ireturn, 1) := by decide +kernel
theorem dX8_saysRefusal_21 : decode cX8_saysRefusal 21 = .ok (.aload_n 0, 1) := by decide +kernel
theorem dX8_saysRefusal_22 : decode cX8_saysRefusal 22 = .ok (.getfield 10, 3) := by decide +kernel
theorem dX8_saysRefusal_25 : decode cX8_saysRefusal 25 = .ok (.iload_n 1, 1) := by decide +kernel
theorem dX8_saysRefusal_26 : decode cX8_saysRefusal 26 = .ok (.invokevirtual 100, 3) := by decide +kernel
theorem dX8_saysRefusal_29 : decode cX8_saysRefusal 29 = .ok (.iconst (-1), 1) := by decide +kernel
theorem dX8_saysRefusal_30 : decode cX8_saysRefusal 30 = .ok (.if_icmp .ne 6, 3) := by decide +kernel
theorem dX8_saysRefusal_33 : decode cX8_saysRefusal 33 = .ok (.bipush (-3), 2) := by decide +kernel
theorem dX8_saysRefusal_35 : decode cX8_saysRefusal 35 = .ok (.ireturn, 1) := by decide +kernel
theorem dX8_saysRefusal_36 : decode cX8_saysRefusal 36 = .ok (.aload_n 0, 1) := by decide +kernel
theorem dX8_saysRefusal_37 : decode cX8_saysRefusal 37 = .ok (.getfield 10, 3) := by decide +kernel
theorem dX8_saysRefusal_40 : decode cX8_saysRefusal 40 = .ok (.iload_n 1, 1) := by decide +kernel
theorem dX8_saysRefusal_41 : decode cX8_saysRefusal 41 = .ok (.invokevirtual 288, 3) := by decide +kernel
theorem dX8_saysRefusal_44 : decode cX8_saysRefusal 44 = .ok (.ifCond .ne 6, 3) := by decide +kernel
theorem dX8_saysRefusal_47 : decode cX8_saysRefusal 47 = .ok (.bipush (-2), 2) := by decide +kernel
theorem dX8_saysRefusal_49 : decode cX8_saysRefusal 49 = .ok (.ireturn, 1) := by decide +kernel
theorem dX8_saysRefusal_50 : decode cX8_saysRefusal 50 = .ok (.aload_n 0, 1) := by decide +kernel
theorem dX8_saysRefusal_51 : decode cX8_saysRefusal 51 = .ok (.getfield 19, 3) := by decide +kernel
theorem dX8_saysRefusal_54 : decode cX8_saysRefusal 54 = .ok (.aload_n 0, 1) := by decide +kernel
theorem dX8_saysRefusal_55 : decode cX8_saysRefusal 55 = .ok (.getfield 10, 3) := by decide +kernel
theorem dX8_saysRefusal_58 : decode cX8_saysRefusal 58 = .ok (.iload_n 1, 1) := by decide +kernel
theorem dX8_saysRefusal_59 : decode cX8_saysRefusal 59 = .ok (.invokevirtual 100, 3) := by decide +kernel
theorem dX8_saysRefusal_62 : decode cX8_saysRefusal 62 = .ok (.iconst 0, 1) := by decide +kernel
theorem dX8_saysRefusal_63 : decode cX8_saysRefusal 63 = .ok (.invokevirtual 129, 3) := by decide +kernel
theorem dX8_saysRefusal_66 : decode cX8_saysRefusal 66 = .ok (.iload_n 2, 1) := by decide +kernel
theorem dX8_saysRefusal_67 : decode cX8_saysRefusal 67 = .ok (.invokestatic 296, 3) := by decide +kernel
theorem dX8_saysRefusal_70 : decode cX8_saysRefusal 70 = .ok (.ifCond .eq 7, 3) := by decide +kernel
theorem dX8_saysRefusal_73 : decode cX8_saysRefusal 73 = .ok (.iconst 0, 1) := by decide +kernel
theorem dX8_saysRefusal_74 : decode cX8_saysRefusal 74 = .ok (.goto 5, 3) := by decide +kernel
theorem dX8_saysRefusal_77 : decode cX8_saysRefusal 77 = .ok (.bipush (-2), 2) := by decide +kernel
theorem dX8_saysRefusal_79 : decode cX8_saysRefusal 79 = .ok (.ireturn, 1) := by decide +kernel
theorem dX8_toldColumn_0 : decode cX8_toldColumn 0 = .ok (.iload_n 0, 1) := by decide +kernel
theorem dX8_toldColumn_1 : decode cX8_toldColumn 1 = .ok (.tableswitch 41 0 3 #[31, 33, 35, 38], 31) := by decide +kernel
theorem dX8_toldColumn_32 : decode cX8_toldColumn 32 = .ok (.iconst 2, 1) := by decide +kernel
theorem dX8_toldColumn_33 : decode cX8_toldColumn 33 = .ok (.ireturn, 1) := by decide +kernel
theorem dX8_toldColumn_34 : decode cX8_toldColumn 34 = .ok (.iconst 3, 1) := by decide +kernel
theorem dX8_toldColumn_35 : decode cX8_toldColumn 35 = .ok (.ireturn, 1) := by decide +kernel
theorem dX8_toldColumn_36 : decode cX8_toldColumn 36 = .ok (.bipush 6, 2) := by decide +kernel
theorem dX8_toldColumn_38 : decode cX8_toldColumn 38 = .ok (.ireturn, 1) := by decide +kernel
theorem dX8_toldColumn_39 : decode cX8_toldColumn 39 = .ok (.bipush 7, 2) := by decide +kernel
theorem dX8_toldColumn_41 : decode cX8_toldColumn 41 = .ok (.ireturn, 1) := by decide +kernel
theorem dX8_toldColumn_42 : decode cX8_toldColumn 42 = .ok (.iconst (-1), 1) := by decide +kernel
theorem dX8_toldColumn_43 : decode cX8_toldColumn 43 = .ok (.ireturn, 1) := by decide +kernel
set_option maxRecDepth 20000 in
theorem ggX8_yardsInAll_X3_count : GoodIn wsX8_yardsInAll wsX3_count := goodIn_r _ [6, 7, 32, 33, 34, 35] (by decide +kernel) (by decide +kernel)
set_option maxRecDepth 20000 in
theorem gX8_yardsInAll_X3_count : GoodIn wsX8_yardsInAll (wsV RX8 145 RX3 yX3_count wsX3_count) := goodIn_app (goodIn_of _ (by decide +kernel)) ggX8_yardsInAll_X3_count
set_option maxRecDepth 20000 in
theorem ggX8_yardsInAll_X3_weightAheadOf : GoodIn wsX8_yardsInAll wsX3_weightAheadOf := goodIn_r _ [11, 7, 12, 13, 14, 5, 15, 16, 17, 18, 19, 20, 32, 33, 34, 35] (by decide +kernel) (by decide +kernel)
set_option maxRecDepth 20000 in
theorem gX8_yardsInAll_X3_weightAheadOf : GoodIn wsX8_yardsInAll (wsV RX8 193 RX3 yX3_weightAheadOf wsX3_weightAheadOf) := goodIn_app (goodIn_of _ (by decide +kernel)) ggX8_yardsInAll_X3_weightAheadOf
theorem dX8_yardsInAll_0 : decode cX8_yardsInAll 0 = .ok (.aload_n 0, 1) := by decide +kernel
theorem dX8_yardsInAll_1 : decode cX8_yardsInAll 1 = .ok (.getfield 19, 3) := by decide +kernel
theorem dX8_yardsInAll_4 : decode cX8_yardsInAll 4 = .ok (.aload_n 0, 1) := by decide +kernel
theorem dX8_yardsInAll_5 : decode cX8_yardsInAll 5 = .ok (.getfield 19, 3) := by decide +kernel
theorem dX8_yardsInAll_8 : decode cX8_yardsInAll 8 = .ok (.invokevirtual 145, 3) := by decide +kernel
theorem dX8_yardsInAll_11 : decode cX8_yardsInAll 11 = .ok (.iconst 1, 1) := by decide +kernel
theorem dX8_yardsInAll_12 : decode cX8_yardsInAll 12 = .ok (.invokevirtual 193, 3) := by decide +kernel
theorem dX8_yardsInAll_15 : decode cX8_yardsInAll 15 = .ok (.l2i, 1) := by decide +kernel
theorem dX8_yardsInAll_16 : decode cX8_yardsInAll 16 = .ok (.ireturn, 1) := by decide +kernel
theorem dX8_shareOf_0 : decode cX8_shareOf 0 = .ok (.lload_n 3, 1) := by decide +kernel
theorem dX8_shareOf_1 : decode cX8_shareOf 1 = .ok (.lconst 0, 1) := by decide +kernel
theorem dX8_shareOf_2 : decode cX8_shareOf 2 = .ok (.lcmp, 1) := by decide +kernel
theorem dX8_shareOf_3 : decode cX8_shareOf 3 = .ok (.ifCond .ne 7, 3) := by decide +kernel
theorem dX8_shareOf_6 : decode cX8_shareOf 6 = .ok (.iconst 0, 1) := by decide +kernel
theorem dX8_shareOf_7 : decode cX8_shareOf 7 = .ok (.goto 10, 3) := by decide +kernel
theorem dX8_shareOf_10 : decode cX8_shareOf 10 = .ok (.iload_n 0, 1) := by decide +kernel
theorem dX8_shareOf_11 : decode cX8_shareOf 11 = .ok (.i2l, 1) := by decide +kernel
theorem dX8_shareOf_12 : decode cX8_shareOf 12 = .ok (.lload_n 1, 1) := by decide +kernel
theorem dX8_shareOf_13 : decode cX8_shareOf 13 = .ok (.lmul, 1) := by decide +kernel
theorem dX8_shareOf_14 : decode cX8_shareOf 14 = .ok (.lload_n 3, 1) := by decide +kernel
theorem dX8_shareOf_15 : decode cX8_shareOf 15 = .ok (.ldiv, 1) := by decide +kernel
theorem dX8_shareOf_16 : decode cX8_shareOf 16 = .ok (.l2i, 1) := by decide +kernel
theorem dX8_shareOf_17 : decode cX8_shareOf 17 = .ok (.ireturn, 1) := by decide +kernel
set_option maxRecDepth 20000 in
theorem ggX8_firstWrong_X5_numberAt : GoodIn wsX8_firstWrong wsX5_numberAt := goodIn_r _ [6, 7, 8, 9, 5, 10, 11, 12, 13, 14, 15, 16, 17, 18, 19, 20, 21, 22, 23, 24, 42, 43, 44] (by decide +kernel) (by decide +kernel)
set_option maxRecDepth 20000 in
theorem gX8_firstWrong_X5_numberAt : GoodIn wsX8_firstWrong (wsV RX8 250 RX5 yX5_numberAt wsX5_numberAt) := goodIn_app (goodIn_of _ (by decide +kernel)) ggX8_firstWrong_X5_numberAt
set_option maxRecDepth 20000 in
theorem ggX8_firstWrong_X3_fits : GoodIn wsX8_firstWrong wsX3_fits := goodIn_r _ [28, 29, 30] (by decide +kernel) (by decide +kernel)
set_option maxRecDepth 20000 in
theorem gX8_firstWrong_X3_fits : GoodIn wsX8_firstWrong (va_wsS RX8 135 yX3_fits wsX3_fits) := goodIn_app (goodIn_of _ (by decide +kernel)) ggX8_firstWrong_X3_fits
theorem dX8_firstWrong_0 : decode cX8_firstWrong 0 = .ok (.iconst 0, 1) := by decide +kernel
theorem dX8_firstWrong_1 : decode cX8_firstWrong 1 = .ok (.istore_n 3, 1) := by decide +kernel
theorem dX8_firstWrong_2 : decode cX8_firstWrong 2 = .ok (.iload_n 3, 1) := by decide +kernel
theorem dX8_firstWrong_3 : decode cX8_firstWrong 3 = .ok (.iconst 4, 1) := by decide +kernel
theorem dX8_firstWrong_4 : decode cX8_firstWrong 4 = .ok (.iload_n 2, 1) := by decide +kernel
theorem dX8_firstWrong_5 : decode cX8_firstWrong 5 = .ok (.imul, 1) := by decide +kernel
theorem dX8_firstWrong_6 : decode cX8_firstWrong 6 = .ok (.if_icmp .ge 31, 3) := by decide +kernel
theorem dX8_firstWrong_9 : decode cX8_firstWrong 9 = .ok (.iconst 2, 1) := by decide +kernel
theorem dX8_firstWrong_10 : decode cX8_firstWrong 10 = .ok (.iload_n 3, 1) := by decide +kernel
theorem dX8_firstWrong_11 : decode cX8_firstWrong 11 = .ok (.iconst 4, 1) := by decide +kernel
theorem dX8_firstWrong_12 : decode cX8_firstWrong 12 = .ok (.irem, 1) := by decide +kernel
theorem dX8_firstWrong_13 : decode cX8_firstWrong 13 = .ok (.iadd, 1) := by decide +kernel
theorem dX8_firstWrong_14 : decode cX8_firstWrong 14 = .ok (.aload_n 0, 1) := by decide +kernel
theorem dX8_firstWrong_15 : decode cX8_firstWrong 15 = .ok (.getfield 10, 3) := by decide +kernel
theorem dX8_firstWrong_18 : decode cX8_firstWrong 18 = .ok (.iload_n 1, 1) := by decide +kernel
theorem dX8_firstWrong_19 : decode cX8_firstWrong 19 = .ok (.iload_n 3, 1) := by decide +kernel
theorem dX8_firstWrong_20 : decode cX8_firstWrong 20 = .ok (.invokevirtual 250, 3) := by decide +kernel
theorem dX8_firstWrong_23 : decode cX8_firstWrong 23 = .ok (.invokestatic 135, 3) := by decide +kernel
theorem dX8_firstWrong_26 : decode cX8_firstWrong 26 = .ok (.ifCond .ne 5, 3) := by decide +kernel
theorem dX8_firstWrong_29 : decode cX8_firstWrong 29 = .ok (.iload_n 3, 1) := by decide +kernel
theorem dX8_firstWrong_30 : decode cX8_firstWrong 30 = .ok (.ireturn, 1) := by decide +kernel
theorem dX8_firstWrong_31 : decode cX8_firstWrong 31 = .ok (.iinc 3 1, 3) := by decide +kernel
theorem dX8_firstWrong_34 : decode cX8_firstWrong 34 = .ok (.goto (-32), 3) := by decide +kernel
theorem dX8_firstWrong_37 : decode cX8_firstWrong 37 = .ok (.iconst (-1), 1) := by decide +kernel
theorem dX8_firstWrong_38 : decode cX8_firstWrong 38 = .ok (.ireturn, 1) := by decide +kernel
