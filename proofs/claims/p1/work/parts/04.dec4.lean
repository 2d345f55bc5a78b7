theorem dX8_orders_5 : decode cX8_orders 5 = .ok (.aload_n 0, 1) := by decide +kernel
theorem dX8_orders_6 : decode cX8_orders 6 = .ok (.invokevirtual 209, 3) := by decide +kernel
theorem dX8_orders_9 : decode cX8_orders 9 = .ok (.aload_n 0, 1) := by decide +kernel
theorem dX8_orders_10 : decode cX8_orders 10 = .ok (.aload_n 0, 1) := by decide +kernel
theorem dX8_orders_11 : decode cX8_orders 11 = .ok (.invokevirtual 238, 3) := by decide +kernel
theorem dX8_orders_14 : decode cX8_orders 14 = .ok (.invokevirtual 241, 3) := by decide +kernel
theorem dX8_orders_17 : decode cX8_orders 17 = .ok (.ireturn, 1) := by decide +kernel
set_option maxRecDepth 20000 in
theorem ggX8_ordered_X8_laysNow : GoodIn wsX8_ordered wsX8_laysNow := goodIn_r _ [8, 9, 10, 11, 12, 13, 14, 15, 7, 16, 17, 18, 19, 20, 56, 57, 58, 59, 60, 61, 62, 63, 64, 65, 66, 67, 68, 69, 70, 71, 72, 73, 74, 75, 76, 77, 78, 79, 80, 81, 82, 83] (by decide +kernel) (by decide +kernel)
set_option maxRecDepth 20000 in
theorem gX8_ordered_X8_laysNow : GoodIn wsX8_ordered (wsV RX8 209 RX8 yX8_laysNow wsX8_laysNow) := goodIn_app (goodIn_of _ (by decide +kernel)) ggX8_ordered_X8_laysNow
set_option maxRecDepth 20000 in
theorem ggX8_ordered_X8_aboardNow : GoodIn wsX8_ordered wsX8_aboardNow := goodIn_r _ [24, 9, 17, 18, 19, 7, 20, 56, 57, 58, 59, 60, 61, 62, 63, 64, 65, 66, 67, 68, 69, 70, 71, 72, 73, 74, 75, 76, 77, 78, 79, 80, 81, 82, 83] (by decide +kernel) (by decide +kernel)
set_option maxRecDepth 20000 in
theorem gX8_ordered_X8_aboardNow : GoodIn wsX8_ordered (wsV RX8 238 RX8 yX8_aboardNow wsX8_aboardNow) := goodIn_app (goodIn_of _ (by decide +kernel)) ggX8_ordered_X8_aboardNow
set_option maxRecDepth 20000 in
theorem ggX8_ordered_X8_ordersOf : GoodIn wsX8_ordered wsX8_ordersOf := goodIn_r _ [28, 2, 29, 30, 31, 7, 32, 3, 33, 9, 34, 35, 36, 37, 38, 39, 40, 41, 42, 43, 44, 11, 10, 13, 14, 15, 16, 45, 46, 47, 48, 12, 49, 50, 51, 52, 56, 57, 58, 59, 60, 61, 62, 63, 64, 65, 66, 67, 68, 69, 70, 71, 72, 73, 74, 75, 76, 77, 78, 79, 80, 81, 82, 83] (by decide +kernel) (by decide +kernel)
set_option maxRecDepth 20000 in
theorem gX8_ordered_X8_ordersOf : GoodIn wsX8_ordered (wsV RX8 241 RX8 yX8_ordersOf wsX8_ordersOf) := goodIn_app (goodIn_of _ (by decide +kernel)) ggX8_ordered_X8_ordersOf
set_option maxRecDepth 20000 in
theorem ggX8_ordered_X8_isIn : GoodIn wsX8_ordered wsX8_isIn := goodIn_r _ [55] (by decide +kernel) (by decide +kernel)
set_option maxRecDepth 20000 in
theorem gX8_ordered_X8_isIn : GoodIn wsX8_ordered (va_wsS RX8 109 yX8_isIn wsX8_isIn) := goodIn_app (goodIn_of _ (by decide +kernel)) ggX8_ordered_X8_isIn
theorem dX8_ordered_0 : decode cX8_ordered 0 = .ok (.aload_n 0, 1) := by decide +kernel
theorem dX8_ordered_1 : decode cX8_ordered 1 = .ok (.iconst 0, 1) := by decide +kernel
theorem dX8_ordered_2 : decode cX8_ordered 2 = .ok (.putfield 1, 3) := by decide +kernel
theorem dX8_ordered_5 : decode cX8_ordered 5 = .ok (.aload_n 0, 1) := by decide +kernel
theorem dX8_ordered_6 : decode cX8_ordered 6 = .ok (.invokevirtual 209, 3) := by decide +kernel
theorem dX8_ordered_9 : decode cX8_ordered 9 = .ok (.aload_n 0, 1) := by decide +kernel
theorem dX8_ordered_10 : decode cX8_ordered 10 = .ok (.aload_n 0, 1) := by decide +kernel
theorem dX8_ordered_11 : decode cX8_ordered 11 = .ok (.invokevirtual 238, 3) := by decide +kernel
theorem dX8_ordered_14 : decode cX8_ordered 14 = .ok (.invokevirtual 241, 3) := by decide +kernel
theorem dX8_ordered_17 : decode cX8_ordered 17 = .ok (.pop, 1) := by decide +kernel
theorem dX8_ordered_18 : decode cX8_ordered 18 = .ok (.iload_n 1, 1) := by decide +kernel
theorem dX8_ordered_19 : decode cX8_ordered 19 = .ok (.iconst 0, 1) := by decide +kernel
theorem dX8_ordered_20 : decode cX8_ordered 20 = .ok (.aload_n 0, 1) := by decide +kernel
theorem dX8_ordered_21 : decode cX8_ordered 21 = .ok (.getfield 199, 3) := by decide +kernel
theorem dX8_ordered_24 : decode cX8_ordered 24 = .ok (.iconst 1, 1) := by decide +kernel
theorem dX8_ordered_25 : decode cX8_ordered 25 = .ok (.isub, 1) := by decide +kernel
theorem dX8_ordered_26 : decode cX8_ordered 26 = .ok (.invokestatic 109, 3) := by decide +kernel
theorem dX8_ordered_29 : decode cX8_ordered 29 = .ok (.ifCond .eq 12, 3) := by decide +kernel
theorem dX8_ordered_32 : decode cX8_ordered 32 = .ok (.aload_n 0, 1) := by decide +kernel
theorem dX8_ordered_33 : decode cX8_ordered 33 = .ok (.getfield 88, 3) := by decide +kernel
theorem dX8_ordered_36 : decode cX8_ordered 36 = .ok (.iload_n 1, 1) := by decide +kernel
theorem dX8_ordered_37 : decode cX8_ordered 37 = .ok (.iaload, 1) := by decide +kernel
theorem dX8_ordered_38 : decode cX8_ordered 38 = .ok (.goto 4, 3) := by decide +kernel
theorem dX8_ordered_41 : decode cX8_ordered 41 = .ok (.iconst (-1), 1) := by decide +kernel
theorem dX8_ordered_42 : decode cX8_ordered 42 = .ok (.ireturn, 1) := by decide +kernel
set_option maxRecDepth 20000 in
theorem ggX8_without_X8_isDrop : GoodIn wsX8_without wsX8_isDrop := goodIn_r _ [6, 7, 8, 9, 5, 10, 45, 46, 47, 48, 49, 50, 51, 52, 53, 54, 55, 56, 57, 58, 59, 60, 61, 62, 63, 64, 65, 66, 67, 68, 69, 70, 71, 72] (by decide +kernel) (by decide +kernel)
set_option maxRecDepth 20000 in
theorem gX8_without_X8_isDrop : GoodIn wsX8_without (wsV RX8 223 RX8 yX8_isDrop wsX8_isDrop) := goodIn_app (goodIn_of _ (by decide +kernel)) ggX8_without_X8_isDrop
set_option maxRecDepth 20000 in
theorem ggX8_without_X8_its : GoodIn wsX8_without wsX8_its := goodIn_r _ [14, 7, 45, 46, 47, 48, 49, 50, 51, 52, 53, 54, 55, 56, 57, 58, 59, 60, 61, 62, 63, 64, 65, 66, 67, 68, 69, 70, 71, 72] (by decide +kernel) (by decide +kernel)
set_option maxRecDepth 20000 in
theorem gX8_without_X8_its : GoodIn wsX8_without (wsV RX8 180 RX8 yX8_its wsX8_its) := goodIn_app (goodIn_of _ (by decide +kernel)) ggX8_without_X8_its
set_option maxRecDepth 20000 in
theorem ggX8_without_X8_laysNow : GoodIn wsX8_without wsX8_laysNow := goodIn_r _ [18, 7, 19, 20, 21, 22, 23, 24, 5, 25, 11, 12, 13, 14, 45, 46, 47, 48, 49, 50, 51, 52, 53, 54, 55, 56, 57, 58, 59, 60, 61, 62, 63, 64, 65, 66, 67, 68, 69, 70, 71, 72] (by decide +kernel) (by decide +kernel)
set_option maxRecDepth 20000 in
theorem gX8_without_X8_laysNow : GoodIn wsX8_without (wsV RX8 209 RX8 yX8_laysNow wsX8_laysNow) := goodIn_app (goodIn_of _ (by decide +kernel)) ggX8_without_X8_laysNow
set_option maxRecDepth 20000 in
theorem ggX8_without_X8_stands : GoodIn wsX8_without wsX8_stands := goodIn_r _ [29, 7, 30, 31, 32, 5, 33, 20, 19, 34, 35, 36, 22, 23, 24, 25, 37, 38, 39, 40, 21, 41, 42, 43, 44, 45, 46, 47, 48, 49, 50, 51, 52, 53, 54, 55, 56, 57, 58, 59, 60, 61, 62, 63, 64, 65, 66, 67, 68, 69, 70, 71, 72] (by decide +kernel) (by decide +kernel)
set_option maxRecDepth 20000 in
theorem gX8_without_X8_stands : GoodIn wsX8_without (wsV RX8 202 RX8 yX8_stands wsX8_stands) := goodIn_app (goodIn_of _ (by decide +kernel)) ggX8_without_X8_stands
theorem dX8_without_0 : decode cX8_without 0 = .ok (.aload_n 0, 1) := by decide +kernel
theorem dX8_without_1 : decode cX8_without 1 = .ok (.iconst 0, 1) := by decide +kernel
theorem dX8_without_2 : decode cX8_without 2 = .ok (.putfield 1, 3) := by decide +kernel
theorem dX8_without_5 : decode cX8_without 5 = .ok (.aload_n 0, 1) := by decide +kernel
theorem dX8_without_6 : decode cX8_without 6 = .ok (.iload_n 1, 1) := by decide +kernel
theorem dX8_without_7 : decode cX8_without 7 = .ok (.invokevirtual 223, 3) := by decide +kernel
theorem dX8_without_10 : decode cX8_without 10 = .ok (.ifCond .eq 13, 3) := by decide +kernel
theorem dX8_without_13 : decode cX8_without 13 = .ok (.aload_n 0, 1) := by decide +kernel
theorem dX8_without_14 : decode cX8_without 14 = .ok (.iload_n 1, 1) := by decide +kernel
theorem dX8_without_15 : decode cX8_without 15 = .ok (.iconst 2, 1) := by decide +kernel
theorem dX8_without_16 : decode cX8_without 16 = .ok (.invokevirtual 180, 3) := by decide +kernel
theorem dX8_without_19 : decode cX8_without 19 = .ok (.iconst 1, 1) := by decide +kernel
theorem dX8_without_20 : decode cX8_without 20 = .ok (.if_icmp .eq 5, 3) := by decide +kernel
theorem dX8_without_23 : decode cX8_without 23 = .ok (.iconst (-1), 1) := by decide +kernel
theorem dX8_without_24 : decode cX8_without 24 = .ok (.ireturn, 1) := by decide +kernel
theorem dX8_without_25 : decode cX8_without 25 = .ok (.aload_n 0, 1) := by decide +kernel
theorem dX8_without_26 : decode cX8_without 26 = .ok (.invokevirtual 209, 3) := by decide +kernel
theorem dX8_without_29 : decode cX8_without 29 = .ok (.aload_n 0, 1) := by decide +kernel
theorem dX8_without_30 : decode cX8_without 30 = .ok (.iconst 1, 1) := by decide +kernel
theorem dX8_without_31 : decode cX8_without 31 = .ok (.iload_n 1, 1) := by decide +kernel
theorem dX8_without_32 : decode cX8_without 32 = .ok (.ishl, 1) := by decide +kernel
theorem dX8_without_33 : decode cX8_without 33 = .ok (.invokevirtual 202, 3) := by decide +kernel
theorem dX8_without_36 : decode cX8_without 36 = .ok (.ireturn, 1) := by decide +kernel
set_option maxRecDepth 20000 in
theorem ggX8_pours_X8_its : GoodIn wsX8_pours wsX8_its := goodIn_r _ [8, 1, 32, 33, 34, 35, 36, 37, 38, 39, 40, 41, 42, 43, 44, 45, 46, 47, 48, 49, 50, 51, 52, 53, 54, 55, 56, 57, 58, 59] (by decide +kernel) (by decide +kernel)
set_option maxRecDepth 20000 in
theorem gX8_pours_X8_its : GoodIn wsX8_pours (wsV RX8 180 RX8 yX8_its wsX8_its) := goodIn_app (goodIn_of _ (by decide +kernel)) ggX8_pours_X8_its
set_option maxRecDepth 20000 in
theorem ggX8_pours_X8_loadedOf : GoodIn wsX8_pours wsX8_loadedOf := goodIn_r _ [12, 1, 13, 14, 15, 7, 16, 32, 33, 34, 35, 36, 37, 38, 39, 40, 41, 42, 43, 44, 45, 46, 47, 48, 49, 50, 51, 52, 53, 54, 55, 56, 57, 58, 59] (by decide +kernel) (by decide +kernel)
set_option maxRecDepth 20000 in
theorem gX8_pours_X8_loadedOf : GoodIn wsX8_pours (wsV RX8 229 RX8 yX8_loadedOf wsX8_loadedOf) := goodIn_app (goodIn_of _ (by decide +kernel)) ggX8_pours_X8_loadedOf
set_option maxRecDepth 20000 in
theorem ggX8_pours_X8_top : GoodIn wsX8_pours wsX8_top := goodIn_r _ [20, 1, 13, 14, 15, 7, 16, 32, 33, 34, 35, 36, 37, 38, 39, 40, 41, 42, 43, 44, 45, 46, 47, 48, 49, 50, 51, 52, 53, 54, 55, 56, 57, 58, 59] (by decide +kernel) (by decide +kernel)
set_option maxRecDepth 20000 in
theorem gX8_pours_X8_top : GoodIn wsX8_pours (wsV RX8 220 RX8 yX8_top wsX8_top) := goodIn_app (goodIn_of _ (by decide +kernel)) ggX8_pours_X8_top
set_option maxRecDepth 20000 in
theorem ggX8_pours_X8_mayCome : GoodIn wsX8_pours wsX8_mayCome := goodIn_r _ [24, 1, 25, 26, 7, 27, 28, 29, 30, 31, 13, 14, 15, 16, 4, 5, 6, 8, 32, 33, 34, 35, 36, 37, 38, 39, 40, 41, 42, 43, 44, 45, 46, 47, 48, 49, 50, 51, 52, 53, 54, 55, 56, 57, 58, 59] (by decide +kernel) (by decide +kernel)
set_option maxRecDepth 20000 in
theorem gX8_pours_X8_mayCome : GoodIn wsX8_pours (wsV RX8 235 RX8 yX8_mayCome wsX8_mayCome) := goodIn_app (goodIn_of _ (by decide +kernel)) ggX8_pours_X8_mayCome
theorem dX8_pours_0 : decode cX8_pours 0 = .ok (.iconst 0, 1) := by decide +kernel
theorem dX8_pours_1 : decode cX8_pours 1 = .ok (.istore_n 2, 1) := by decide +kernel
theorem dX8_pours_2 : decode cX8_pours 2 = .ok (.iconst 0, 1) := by decide +kernel
theorem dX8_pours_3 : decode cX8_pours 3 = .ok (.istore_n 3, 1) := by decide +kernel
theorem dX8_pours_4 : decode cX8_pours 4 = .ok (.iload_n 3, 1) := by decide +kernel
theorem dX8_pours_5 : decode cX8_pours 5 = .ok (.aload_n 0, 1) := by decide +kernel
theorem dX8_pours_6 : decode cX8_pours 6 = .ok (.getfield 70, 3) := by decide +kernel
theorem dX8_pours_9 : decode cX8_pours 9 = .ok (.bipush 9, 2) := by decide +kernel
theorem dX8_pours_11 : decode cX8_pours 11 = .ok (.iaload, 1) := by decide +kernel
theorem dX8_pours_12 : decode cX8_pours 12 = .ok (.if_icmp .ge 16, 3) := by decide +kernel
theorem dX8_pours_15 : decode cX8_pours 15 = .ok (.aload_n 0, 1) := by decide +kernel
theorem dX8_pours_16 : decode cX8_pours 16 = .ok (.getfield 97, 3) := by decide +kernel
theorem dX8_pours_19 : decode cX8_pours 19 = .ok (.iload_n 3, 1) := by decide +kernel
theorem dX8_pours_20 : decode cX8_pours 20 = .ok (.iconst 0, 1) := by decide +kernel
theorem dX8_pours_21 : decode cX8_pours 21 = .ok (.iastore, 1) := by decide +kernel
theorem dX8_pours_22 : decode cX8_pours 22 = .ok (.iinc 3 1, 3) := by decide +kernel
theorem dX8_pours_25 : decode cX8_pours 25 = .ok (.goto (-21), 3) := by decide +kernel
theorem dX8_pours_28 : decode cX8_pours 28 = .ok (.iconst 0, 1) := by decide +kernel
theorem dX8_pours_29 : decode cX8_pours 29 = .ok (.istore_n 3, 1) := by decide +kernel
theorem dX8_pours_30 : decode cX8_pours 30 = .ok (.iload_n 3, 1) := by decide +kernel
theorem dX8_pours_31 : decode cX8_pours 31 = .ok (.aload_n 0, 1) := by decide +kernel
theorem dX8_pours_32 : decode cX8_pours 32 = .ok (.getfield 70, 3) := by decide +kernel
theorem dX8_pours_35 : decode cX8_pours 35 = .ok (.bipush 13, 2) := by decide +kernel
theorem dX8_pours_37 : decode cX8_pours 37 = .ok (.iaload, 1) := by decide +kernel
theorem dX8_pours_38 : decode cX8_pours 38 = .ok (.if_icmp .ge 163, 3) := by decide +kernel
theorem dX8_pours_41 : decode cX8_pours 41 = .ok (.aload_n 0, 1) := by decide +kernel
theorem dX8_pours_42 : decode cX8_pours 42 = .ok (.iload_n 3, 1) := by decide +kernel
theorem dX8_pours_43 : decode cX8_pours 43 = .ok (.iconst 2, 1) := by decide +kernel
theorem dX8_pours_44 : decode cX8_pours 44 = .ok (.invokevirtual 180, 3) := by decide +kernel
theorem dX8_pours_47 : decode cX8_pours 47 = .ok (.ifCond .ne 18, 3) := by decide +kernel
theorem dX8_pours_50 : decode cX8_pours 50 = .ok (.aload_n 0, 1) := by decide +kernel
theorem dX8_pours_51 : decode cX8_pours 51 = .ok (.iload_n 3, 1) := by decide +kernel
theorem dX8_pours_52 : decode cX8_pours 52 = .ok (.iconst 1, 1) := by decide +kernel
theorem dX8_pours_53 : decode cX8_pours 53 = .ok (.invokevirtual 180, 3) := by decide +kernel
theorem dX8_pours_56 : decode cX8_pours 56 = .ok (.aload_n 0, 1) := by decide +kernel
theorem dX8_pours_57 : decode cX8_pours 57 = .ok (.iload_n 3, 1) := by decide +kernel
theorem dX8_pours_58 : decode cX8_pours 58 = .ok (.invokevirtual 229, 3) := by decide +kernel
theorem dX8_pours_61 : decode cX8_pours 61 = .ok (.isub, 1) := by decide +kernel
theorem dX8_pours_62 : decode cX8_pours 62 = .ok (.goto 4, 3) := by decide +kernel
theorem dX8_pours_65 : decode cX8_pours 65 = .ok (.iconst 0, 1) := by decide +kernel
theorem dX8_pours_66 : decode cX8_pours 66 = .ok (.istore 4, 2) := by decide +kernel
theorem dX8_pours_68 : decode cX8_pours 68 = .ok (.iconst 0, 1) := by decide +kernel
theorem dX8_pours_69 : decode cX8_pours 69 = .ok (.istore 5, 2) := by decide +kernel
theorem dX8_pours_71 : decode cX8_pours 71 = .ok (.iconst 0, 1) := by decide +kernel
theorem dX8_pours_72 : decode cX8_pours 72 = .ok (.istore 6, 2) := by decide +kernel
theorem dX8_pours_74 : decode cX8_pours 74 = .ok (.iload 6, 2) := by decide +kernel
theorem dX8_pours_76 : decode cX8_pours 76 = .ok (.aload_n 0, 1) := by decide +kernel
theorem dX8_pours_77 : decode cX8_pours 77 = .ok (.getfield 70, 3) := by decide +kernel
theorem dX8_pours_80 : decode cX8_pours 80 = .ok (.bipush 9, 2) := by decide +kernel
theorem dX8_pours_82 : decode cX8_pours 82 = .ok (.iaload, 1) := by decide +kernel
theorem dX8_pours_83 : decode cX8_pours 83 = .ok (.if_icmp .ge 89, 3) := by decide +kernel
theorem dX8_pours_86 : decode cX8_pours 86 = .ok (.aload_n 0, 1) := by decide +kernel
theorem dX8_pours_87 : decode cX8_pours 87 = .ok (.getfield 94, 3) := by decide +kernel
theorem dX8_pours_90 : decode cX8_pours 90 = .ok (.iload 6, 2) := by decide +kernel
theorem dX8_pours_92 : decode cX8_pours 92 = .ok (.iaload, 1) := by decide +kernel
theorem dX8_pours_93 : decode cX8_pours 93 = .ok (.iload_n 3, 1) := by decide +kernel
theorem dX8_pours_94 : decode cX8_pours 94 = .ok (.if_icmp .eq 6, 3) := by decide +kernel
theorem dX8_pours_97 : decode cX8_pours 97 = .ok (.goto 69, 3) := by decide +kernel
theorem dX8_pours_100 : decode cX8_pours 100 = .ok (.iload 4, 2) := by decide +kernel
theorem dX8_pours_102 : decode cX8_pours 102 = .ok (.aload_n 0, 1) := by decide +kernel
theorem dX8_pours_103 : decode cX8_pours 103 = .ok (.iload 6, 2) := by decide +kernel
theorem dX8_pours_105 : decode cX8_pours 105 = .ok (.invokevirtual 220, 3) := by decide +kernel
theorem dX8_pours_108 : decode cX8_pours 108 = .ok (.if_icmp .ge 8, 3) := by decide +kernel
theorem dX8_pours_111 : decode cX8_pours 111 = .ok (.iload 4, 2) := by decide +kernel
theorem dX8_pours_113 : decode cX8_pours 113 = .ok (.goto 9, 3) := by decide +kernel
theorem dX8_pours_116 : decode cX8_pours 116 = .ok (.aload_n 0, 1) := by decide +kernel
theorem dX8_pours_117 : decode cX8_pours 117 = .ok (.iload 6, 2) := by decide +kernel
theorem dX8_pours_119 : decode cX8_pours 119 = .ok (.invokevirtual 220, 3) := by decide +kernel
theorem dX8_pours_122 : decode cX8_pours 122 = .ok (.istore 7, 2) := by decide +kernel
theorem dX8_pours_124 : decode cX8_pours 124 = .ok (.iload 7, 2) := by decide +kernel
theorem dX8_pours_126 : decode cX8_pours 126 = .ok (.ifCond .eq 19, 3) := by decide +kernel
theorem dX8_pours_129 : decode cX8_pours 129 = .ok (.aload_n 0, 1) := by decide +kernel
theorem dX8_pours_130 : decode cX8_pours 130 = .ok (.iload 6, 2) := by decide +kernel
theorem dX8_pours_132 : decode cX8_pours 132 = .ok (.aload_n 0, 1) := by decide +kernel
theorem dX8_pours_133 : decode cX8_pours 133 = .ok (.iload_n 3, 1) := by decide +kernel
theorem dX8_pours_134 : decode cX8_pours 134 = .ok (.iconst 0, 1) := by decide +kernel
theorem dX8_pours_135 : decode cX8_pours 135 = .ok (.invokevirtual 180, 3) := by decide +kernel
theorem dX8_pours_138 : decode cX8_pours 138 = .ok (.iload_n 1, 1) := by decide +kernel
theorem dX8_pours_139 : decode cX8_pours 139 = .ok (.invokevirtual 235, 3) := by decide +kernel
theorem dX8_pours_142 : decode cX8_pours 142 = .ok (.ifCond .ne 5, 3) := by decide +kernel
theorem dX8_pours_145 : decode cX8_pours 145 = .ok (.iconst (-1), 1) := by decide +kernel
theorem dX8_pours_146 : decode cX8_pours 146 = .ok (.ireturn, 1) := by decide +kernel
theorem dX8_pours_147 : decode cX8_pours 147 = .ok (.aload_n 0, 1) := by decide +kernel
theorem dX8_pours_148 : decode cX8_pours 148 = .ok (.getfield 97, 3) := by decide +kernel
theorem dX8_pours_151 : decode cX8_pours 151 = .ok (.iload 6, 2) := by decide +kernel
theorem dX8_pours_153 : decode cX8_pours 153 = .ok (.iload 7, 2) := by decide +kernel
theorem dX8_pours_155 : decode cX8_pours 155 = .ok (.iastore, 1) := by decide +kernel
theorem dX8_pours_156 : decode cX8_pours 156 = .ok (.iload 4, 2) := by decide +kernel
theorem dX8_pours_158 : decode cX8_pours 158 = .ok (.iload 7, 2) := by decide +kernel
theorem dX8_pours_160 : decode cX8_pours 160 = .ok (.isub, 1) := by decide +kernel
theorem dX8_pours_161 : decode cX8_pours 161 = .ok (.istore 4, 2) := by decide +kernel
theorem dX8_pours_163 : decode cX8_pours 163 = .ok (.iconst 1, 1) := by decide +kernel
theorem dX8_pours_164 : decode cX8_pours 164 = .ok (.istore 5, 2) := by decide +kernel
theorem dX8_pours_166 : decode cX8_pours 166 = .ok (.iinc 6 1, 3) := by decide +kernel
theorem dX8_pours_169 : decode cX8_pours 169 = .ok (.goto (-95), 3) := by decide +kernel
theorem dX8_pours_172 : decode cX8_pours 172 = .ok (.iload 5, 2) := by decide +kernel
theorem dX8_pours_174 : decode cX8_pours 174 = .ok (.ifCond .eq 10, 3) := by decide +kernel
theorem dX8_pours_177 : decode cX8_pours 177 = .ok (.iload 4, 2) := by decide +kernel
theorem dX8_pours_179 : decode cX8_pours 179 = .ok (.ifCond .le 5, 3) := by decide +kernel
theorem dX8_pours_182 : decode cX8_pours 182 = .ok (.iconst (-1), 1) := by decide +kernel
theorem dX8_pours_183 : decode cX8_pours 183 = .ok (.ireturn, 1) := by decide +kernel
theorem dX8_pours_184 : decode cX8_pours 184 = .ok (.iload 5, 2) := by decide +kernel
theorem dX8_pours_186 : decode cX8_pours 186 = .ok (.ifCond .eq 9, 3) := by decide +kernel
theorem dX8_pours_189 : decode cX8_pours 189 = .ok (.iload_n 2, 1) := by decide +kernel
theorem dX8_pours_190 : decode cX8_pours 190 = .ok (.iconst 1, 1) := by decide +kernel
theorem dX8_pours_191 : decode cX8_pours 191 = .ok (.iload_n 3, 1) := by decide +kernel
theorem dX8_pours_192 : decode cX8_pours 192 = .ok (.ishl, 1) := by decide +kernel
theorem dX8_pours_193 : decode cX8_pours 193 = .ok (.ior, 1) := by decide +kernel
theorem dX8_pours_194 : decode cX8_pours 194 = .ok (.istore_n 2, 1) := by decide +kernel
theorem dX8_pours_195 : decode cX8_pours 195 = .ok (.iinc 3 1, 3) := by decide +kernel
theorem dX8_pours_198 : decode cX8_pours 198 = .ok (.goto (-168), 3) := by decide +kernel
theorem dX8_pours_201 : decode cX8_pours 201 = .ok (.iload_n 2, 1) := by decide +kernel
theorem dX8_pours_202 : decode cX8_pours 202 = .ok (.ireturn, 1) := by decide +kernel
set_option maxRecDepth 20000 in
theorem ggX8_looks_X8_pours : GoodIn wsX8_looks wsX8_pours := goodIn_r _ [15, 1, 4, 2, 16, 17, 18, 14, 19, 20, 21, 22, 23, 24, 25, 26, 27, 28, 29, 30, 31, 32, 33, 34, 35, 36, 37, 38, 39, 40, 41, 42, 78, 79, 80, 81, 82, 83, 84, 85, 86, 87, 88, 89, 90, 91, 92, 93, 94, 95, 96, 97, 98, 99, 100, 101, 102, 103, 104, 105] (by decide +kernel) (by decide +kernel)
set_option maxRecDepth 20000 in
theorem gX8_looks_X8_pours : GoodIn wsX8_looks (wsV RX8 244 RX8 yX8_pours wsX8_pours) := goodIn_app (goodIn_of _ (by decide +kernel)) ggX8_looks_X8_pours
set_option maxRecDepth 20000 in
theorem ggX8_looks_X8_has : GoodIn wsX8_looks wsX8_has := goodIn_r _ [38] (by decide +kernel) (by decide +kernel)
set_option maxRecDepth 20000 in
theorem gX8_looks_X8_has : GoodIn wsX8_looks (va_wsS RX8 183 yX8_has wsX8_has) := goodIn_app (goodIn_of _ (by decide +kernel)) ggX8_looks_X8_has
set_option maxRecDepth 20000 in
theorem ggX8_looks_X8_laysNow : GoodIn wsX8_looks wsX8_laysNow := goodIn_r _ [46, 1, 3, 5, 6, 24, 25, 26, 14, 27, 16, 17, 18, 19, 78, 79, 80, 81, 82, 83, 84, 85, 86, 87, 88, 89, 90, 91, 92, 93, 94, 95, 96, 97, 98, 99, 100, 101, 102, 103, 104, 105] (by decide +kernel) (by decide +kernel)
set_option maxRecDepth 20000 in
theorem gX8_looks_X8_laysNow : GoodIn wsX8_looks (wsV RX8 209 RX8 yX8_laysNow wsX8_laysNow) := goodIn_app (goodIn_of _ (by decide +kernel)) ggX8_looks_X8_laysNow
set_option maxRecDepth 20000 in
theorem ggX8_looks_X8_its : GoodIn wsX8_looks wsX8_its := goodIn_r _ [19, 1, 78, 79, 80, 81, 82, 83, 84, 85, 86, 87, 88, 89, 90, 91, 92, 93, 94, 95, 96, 97, 98, 99, 100, 101, 102, 103, 104, 105] (by decide +kernel) (by decide +kernel)
set_option maxRecDepth 20000 in
theorem gX8_looks_X8_its : GoodIn wsX8_looks (wsV RX8 180 RX8 yX8_its wsX8_its) := goodIn_app (goodIn_of _ (by decide +kernel)) ggX8_looks_X8_its
set_option maxRecDepth 20000 in
theorem ggX8_looks_X8_stands : GoodIn wsX8_looks wsX8_stands := goodIn_r _ [50, 1, 51, 52, 53, 14, 54, 5, 3, 36, 37, 38, 24, 25, 26, 27, 55, 56, 57, 58, 6, 59, 60, 61, 62, 78, 79, 80, 81, 82, 83, 84, 85, 86, 87, 88, 89, 90, 91, 92, 93, 94, 95, 96, 97, 98, 99, 100, 101, 102, 103, 104, 105] (by decide +kernel) (by decide +kernel)
set_option maxRecDepth 20000 in
theorem gX8_looks_X8_stands : GoodIn wsX8_looks (wsV RX8 202 RX8 yX8_stands wsX8_stands) := goodIn_app (goodIn_of _ (by decide +kernel)) ggX8_looks_X8_stands
set_option maxRecDepth 20000 in
theorem ggX8_looks_X8_aboardNow : GoodIn wsX8_looks wsX8_aboardNow := goodIn_r _ [66, 1, 16, 17, 18, 14, 19, 78, 79, 80, 81, 82, 83, 84, 85, 86, 87, 88, 89, 90, 91, 92, 93, 94, 95, 96, 97, 98, 99, 100, 101, 102, 103, 104, 105] (by decide +kernel) (by decide +kernel)
set_option maxRecDepth 20000 in
theorem gX8_looks_X8_aboardNow : GoodIn wsX8_looks (wsV RX8 238 RX8 yX8_aboardNow wsX8_aboardNow) := goodIn_app (goodIn_of _ (by decide +kernel)) ggX8_looks_X8_aboardNow
set_option maxRecDepth 20000 in
theorem ggX8_looks_X8_ordersOf : GoodIn wsX8_looks wsX8_ordersOf := goodIn_r _ [70, 71, 72, 73, 74, 14, 75, 76, 77, 1, 36, 37, 38, 47, 48, 49, 50, 51, 52, 53, 54, 5, 3, 24, 25, 26, 27, 55, 56, 57, 58, 6, 59, 60, 61, 62, 78, 79, 80, 81, 82, 83, 84, 85, 86, 87, 88, 89, 90, 91, 92, 93, 94, 95, 96, 97, 98, 99, 100, 101, 102, 103, 104, 105] (by decide +kernel) (by decide +kernel)
set_option maxRecDepth 20000 in
theorem gX8_looks_X8_ordersOf : GoodIn wsX8_looks (wsV RX8 241 RX8 yX8_ordersOf wsX8_ordersOf) := goodIn_app (goodIn_of _ (by decide +kernel)) ggX8_looks_X8_ordersOf
theorem dX8_looks_0 : decode cX8_looks 0 = .ok (.aload_n 0, 1) := by decide +kernel
theorem dX8_looks_1 : decode cX8_looks 1 = .ok (.iload_n 1, 1) := by decide +kernel
theorem dX8_looks_2 : decode cX8_looks 2 = .ok (.invokevirtual 244, 3) := by decide +kernel
theorem dX8_looks_5 : decode cX8_looks 5 = .ok (.istore_n 2, 1) := by decide +kernel
theorem dX8_looks_6 : decode cX8_looks 6 = .ok (.iload_n 2, 1) := by decide +kernel
theorem dX8_looks_7 : decode cX8_looks 7 = .ok (.iconst (-1), 1) := by decide +kernel
theorem dX8_looks_8 : decode cX8_looks 8 = .ok (.if_icmp .ne 4, 3) := by decide +kernel
theorem dX8_looks_11 : decode cX8_looks 11 = .ok (.return_, 1) := by decide +kernel
theorem dX8_looks_12 : decode cX8_looks 12 = .ok (.iconst 0, 1) := by decide +kernel
theorem dX8_looks_13 : decode cX8_looks 13 = .ok (.istore_n 3, 1) := by decide +kernel
theorem dX8_looks_14 : decode cX8_looks 14 = .ok (.iconst 0, 1) := by decide +kernel
theorem dX8_looks_15 : decode cX8_looks 15 = .ok (.istore 4, 2) := by decide +kernel
theorem dX8_looks_17 : decode cX8_looks 17 = .ok (.iload 4, 2) := by decide +kernel
theorem dX8_looks_19 : decode cX8_looks 19 = .ok (.bipush 20, 2) := by decide +kernel
theorem dX8_looks_21 : decode cX8_looks 21 = .ok (.if_icmp .ge 21, 3) := by decide +kernel
theorem dX8_looks_24 : decode cX8_looks 24 = .ok (.iload_n 2, 1) := by decide +kernel
theorem dX8_looks_25 : decode cX8_looks 25 = .ok (.iload 4, 2) := by decide +kernel
theorem dX8_looks_27 : decode cX8_looks 27 = .ok (.invokestatic 183, 3) := by decide +kernel
theorem dX8_looks_30 : decode cX8_looks 30 = .ok (.ifCond .eq 6, 3) := by decide +kernel
theorem dX8_looks_33 : decode cX8_looks 33 = .ok (.iinc 3 1, 3) := by decide +kernel
theorem dX8_looks_36 : decode cX8_looks 36 = .ok (.iinc 4 1, 3) := by decide +kernel
theorem dX8_looks_39 : decode cX8_looks 39 = .ok (.goto (-22), 3) := by decide +kernel
theorem dX8_looks_42 : decode cX8_looks 42 = .ok (.iconst 0, 1) := by decide +kernel
theorem dX8_looks_43 : decode cX8_looks 43 = .ok (.istore 4, 2) := by decide +kernel
theorem dX8_looks_45 : decode cX8_looks 45 = .ok (.aload_n 0, 1) := by decide +kernel
theorem dX8_looks_46 : decode cX8_looks 46 = .ok (.invokevirtual 209, 3) := by decide +kernel
theorem dX8_looks_49 : decode cX8_looks 49 = .ok (.iconst 0, 1) := by decide +kernel
theorem dX8_looks_50 : decode cX8_looks 50 = .ok (.istore 5, 2) := by decide +kernel
theorem dX8_looks_52 : decode cX8_looks 52 = .ok (.iload 5, 2) := by decide +kernel
theorem dX8_looks_54 : decode cX8_looks 54 = .ok (.aload_n 0, 1) := by decide +kernel
theorem dX8_looks_55 : decode cX8_looks 55 = .ok (.getfield 70, 3) := by decide +kernel
theorem dX8_looks_58 : decode cX8_looks 58 = .ok (.bipush 9, 2) := by decide +kernel
theorem dX8_looks_60 : decode cX8_looks 60 = .ok (.iaload, 1) := by decide +kernel
theorem dX8_looks_61 : decode cX8_looks 61 = .ok (.if_icmp .ge 73, 3) := by decide +kernel
theorem dX8_looks_64 : decode cX8_looks 64 = .ok (.aload_n 0, 1) := by decide +kernel
theorem dX8_looks_65 : decode cX8_looks 65 = .ok (.getfield 94, 3) := by decide +kernel
theorem dX8_looks_68 : decode cX8_looks 68 = .ok (.iload 5, 2) := by decide +kernel
theorem dX8_looks_70 : decode cX8_looks 70 = .ok (.iaload, 1) := by decide +kernel
theorem dX8_looks_71 : decode cX8_looks 71 = .ok (.iconst (-1), 1) := by decide +kernel
theorem dX8_looks_72 : decode cX8_looks 72 = .ok (.if_icmp .ne 6, 3) := by decide +kernel
theorem dX8_looks_75 : decode cX8_looks 75 = .ok (.goto 53, 3) := by decide +kernel
theorem dX8_looks_78 : decode cX8_looks 78 = .ok (.iinc 4 1, 3) := by decide +kernel
theorem dX8_looks_81 : decode cX8_looks 81 = .ok (.aload_n 0, 1) := by decide +kernel
theorem dX8_looks_82 : decode cX8_looks 82 = .ok (.getfield 79, 3) := by decide +kernel
theorem dX8_looks_85 : decode cX8_looks 85 = .ok (.iload 5, 2) := by decide +kernel
theorem dX8_looks_87 : decode cX8_looks 87 = .ok (.aload_n 0, 1) := by decide +kernel
theorem dX8_looks_88 : decode cX8_looks 88 = .ok (.getfield 97, 3) := by decide +kernel
theorem dX8_looks_91 : decode cX8_looks 91 = .ok (.iload 5, 2) := by decide +kernel
theorem dX8_looks_93 : decode cX8_looks 93 = .ok (.iaload, 1) := by decide +kernel
theorem dX8_looks_94 : decode cX8_looks 94 = .ok (.iastore, 1) := by decide +kernel
theorem dX8_looks_95 : decode cX8_looks 95 = .ok (.aload_n 0, 1) := by decide +kernel
theorem dX8_looks_96 : decode cX8_looks 96 = .ok (.getfield 85, 3) := by decide +kernel
theorem dX8_looks_99 : decode cX8_looks 99 = .ok (.iload 5, 2) := by decide +kernel
theorem dX8_looks_101 : decode cX8_looks 101 = .ok (.aload_n 0, 1) := by decide +kernel
theorem dX8_looks_102 : decode cX8_looks 102 = .ok (.getfield 94, 3) := by decide +kernel
theorem dX8_looks_105 : decode cX8_looks 105 = .ok (.iload 5, 2) := by decide +kernel
theorem dX8_looks_107 : decode cX8_looks 107 = .ok (.iaload, 1) := by decide +kernel
theorem dX8_looks_108 : decode cX8_looks 108 = .ok (.iastore, 1) := by decide +kernel
theorem dX8_looks_109 : decode cX8_looks 109 = .ok (.aload_n 0, 1) := by decide +kernel
theorem dX8_looks_110 : decode cX8_looks 110 = .ok (.getfield 82, 3) := by decide +kernel
theorem dX8_looks_113 : decode cX8_looks 113 = .ok (.iload 5, 2) := by decide +kernel
theorem dX8_looks_115 : decode cX8_looks 115 = .ok (.aload_n 0, 1) := by decide +kernel
theorem dX8_looks_116 : decode cX8_looks 116 = .ok (.aload_n 0, 1) := by decide +kernel
theorem dX8_looks_117 : decode cX8_looks 117 = .ok (.getfield 94, 3) := by decide +kernel
theorem dX8_looks_120 : decode cX8_looks 120 = .ok (.iload 5, 2) := by decide +kernel
theorem dX8_looks_122 : decode cX8_looks 122 = .ok (.iaload, 1) := by decide +kernel
theorem dX8_looks_123 : decode cX8_looks 123 = .ok (.iconst 0, 1) := by decide +kernel
theorem dX8_looks_124 : decode cX8_looks 124 = .ok (.invokevirtual 180, 3) := by decide +kernel
theorem dX8_looks_127 : decode cX8_looks 127 = .ok (.iastore, 1) := by decide +kernel
theorem dX8_looks_128 : decode cX8_looks 128 = .ok (.iinc 5 1, 3) := by decide +kernel
theorem dX8_looks_131 : decode cX8_looks 131 = .ok (.goto (-79), 3) := by decide +kernel
theorem dX8_looks_134 : decode cX8_looks 134 = .ok (.iload_n 3, 1) := by decide +kernel
theorem dX8_looks_135 : decode cX8_looks 135 = .ok (.aload_n 0, 1) := by decide +kernel
theorem dX8_looks_136 : decode cX8_looks 136 = .ok (.getfield 247, 3) := by decide +kernel
theorem dX8_looks_139 : decode cX8_looks 139 = .ok (.if_icmp .lt 20, 3) := by decide +kernel
theorem dX8_looks_142 : decode cX8_looks 142 = .ok (.iload_n 3, 1) := by decide +kernel
theorem dX8_looks_143 : decode cX8_looks 143 = .ok (.aload_n 0, 1) := by decide +kernel
theorem dX8_looks_144 : decode cX8_looks 144 = .ok (.getfield 247, 3) := by decide +kernel
theorem dX8_looks_147 : decode cX8_looks 147 = .ok (.if_icmp .ne 13, 3) := by decide +kernel
theorem dX8_looks_150 : decode cX8_looks 150 = .ok (.iload 4, 2) := by decide +kernel
theorem dX8_looks_152 : decode cX8_looks 152 = .ok (.aload_n 0, 1) := by decide +kernel
theorem dX8_looks_153 : decode cX8_looks 153 = .ok (.getfield 250, 3) := by decide +kernel
theorem dX8_looks_156 : decode cX8_looks 156 = .ok (.if_icmp .lt 4, 3) := by decide +kernel
theorem dX8_looks_159 : decode cX8_looks 159 = .ok (.return_, 1) := by decide +kernel
theorem dX8_looks_160 : decode cX8_looks 160 = .ok (.aload_n 0, 1) := by decide +kernel
theorem dX8_looks_161 : decode cX8_looks 161 = .ok (.iconst 0, 1) := by decide +kernel
theorem dX8_looks_162 : decode cX8_looks 162 = .ok (.invokevirtual 202, 3) := by decide +kernel
theorem dX8_looks_165 : decode cX8_looks 165 = .ok (.ifCond .ne 16, 3) := by decide +kernel
theorem dX8_looks_168 : decode cX8_looks 168 = .ok (.aload_n 0, 1) := by decide +kernel
theorem dX8_looks_169 : decode cX8_looks 169 = .ok (.aload_n 0, 1) := by decide +kernel
theorem dX8_looks_170 : decode cX8_looks 170 = .ok (.invokevirtual 238, 3) := by decide +kernel
theorem dX8_looks_173 : decode cX8_looks 173 = .ok (.iload_n 2, 1) := by decide +kernel
theorem dX8_looks_174 : decode cX8_looks 174 = .ok (.ior, 1) := by decide +kernel
theorem dX8_looks_175 : decode cX8_looks 175 = .ok (.invokevirtual 241, 3) := by decide +kernel
theorem dX8_looks_178 : decode cX8_looks 178 = .ok (.ifCond .ne 4, 3) := by decide +kernel
theorem dX8_looks_181 : decode cX8_looks 181 = .ok (.return_, 1) := by decide +kernel
theorem dX8_looks_182 : decode cX8_looks 182 = .ok (.aload_n 0, 1) := by decide +kernel
theorem dX8_looks_183 : decode cX8_looks 183 = .ok (.iload_n 3, 1) := by decide +kernel
theorem dX8_looks_184 : decode cX8_looks 184 = .ok (.putfield 247, 3) := by decide +kernel
theorem dX8_looks_187 : decode cX8_looks 187 = .ok (.aload_n 0, 1) := by decide +kernel
theorem dX8_looks_188 : decode cX8_looks 188 = .ok (.iload 4, 2) := by decide +kernel
theorem dX8_looks_190 : decode cX8_looks 190 = .ok (.putfield 250, 3) := by decide +kernel
theorem dX8_looks_193 : decode cX8_looks 193 = .ok (.iconst 0, 1) := by decide +kernel
theorem dX8_looks_194 : decode cX8_looks 194 = .ok (.istore 5, 2) := by decide +kernel
theorem dX8_looks_196 : decode cX8_looks 196 = .ok (.iload 5, 2) := by decide +kernel
theorem dX8_looks_198 : decode cX8_looks 198 = .ok (.iconst 5, 1) := by decide +kernel
theorem dX8_looks_199 : decode cX8_looks 199 = .ok (.if_icmp .ge 37, 3) := by decide +kernel
theorem dX8_looks_202 : decode cX8_looks 202 = .ok (.aload_n 0, 1) := by decide +kernel
theorem dX8_looks_203 : decode cX8_looks 203 = .ok (.getfield 100, 3) := by decide +kernel
theorem dX8_looks_206 : decode cX8_looks 206 = .ok (.iload 5, 2) := by decide +kernel
theorem dX8_looks_208 : decode cX8_looks 208 = .ok (.aload_n 0, 1) := by decide +kernel
theorem dX8_looks_209 : decode cX8_looks 209 = .ok (.getfield 94, 3) := by decide +kernel
theorem dX8_looks_212 : decode cX8_looks 212 = .ok (.iload 5, 2) := by decide +kernel
theorem dX8_looks_214 : decode cX8_looks 214 = .ok (.iaload, 1) := by decide +kernel
theorem dX8_looks_215 : decode cX8_looks 215 = .ok (.iastore, 1) := by decide +kernel
theorem dX8_looks_216 : decode cX8_looks 216 = .ok (.aload_n 0, 1) := by decide +kernel
theorem dX8_looks_217 : decode cX8_looks 217 = .ok (.getfield 103, 3) := by decide +kernel
theorem dX8_looks_220 : decode cX8_looks 220 = .ok (.iload 5, 2) := by decide +kernel
theorem dX8_looks_222 : decode cX8_looks 222 = .ok (.aload_n 0, 1) := by decide +kernel
theorem dX8_looks_223 : decode cX8_looks 223 = .ok (.getfield 97, 3) := by decide +kernel
theorem dX8_looks_226 : decode cX8_looks 226 = .ok (.iload 5, 2) := by decide +kernel
theorem dX8_looks_228 : decode cX8_looks 228 = .ok (.iaload, 1) := by decide +kernel
theorem dX8_looks_229 : decode cX8_looks 229 = .ok (.iastore, 1) := by decide +kernel
theorem dX8_looks_230 : decode cX8_looks 230 = .ok (.iinc 5 1, 3) := by decide +kernel
theorem dX8_looks_233 : decode cX8_looks 233 = .ok (.goto (-37), 3) := by decide +kernel
theorem dX8_looks_236 : decode cX8_looks 236 = .ok (.return_, 1) := by decide +kernel
set_option maxRecDepth 20000 in
theorem ggX8_tries_X8_looks : GoodIn wsX8_tries wsX8_looks := goodIn_r _ [7, 1, 2, 8, 9, 10, 11, 12, 13, 14, 15, 16, 17, 18, 6, 19, 20, 21, 22, 23, 24, 25, 26, 27, 28, 29, 30, 31, 32, 33, 34, 35, 36, 37, 38, 39, 40, 41, 42, 43, 44, 45, 46, 47, 48, 49, 50, 51, 52, 53, 54, 55, 56, 57, 58, 59, 60, 61, 62, 63, 64, 65, 66, 67, 68, 69, 70, 71, 72, 73, 74, 75, 76, 77, 78, 79, 80, 81, 85, 86, 87, 88, 89, 90, 91, 92, 93, 94, 95, 96, 97, 98, 99, 100, 101, 102, 103, 104, 105, 106, 107, 108, 109, 110, 111, 112] (by decide +kernel) (by decide +kernel)
set_option maxRecDepth 20000 in
theorem gX8_tries_X8_looks : GoodIn wsX8_tries (wsV RX8 253 RX8 yX8_looks wsX8_looks) := goodIn_app (goodIn_of _ (by decide +kernel)) ggX8_tries_X8_looks
set_option maxRecDepth 20000 in
theorem ggX8_tries_X8_holds : GoodIn wsX8_tries wsX8_holds := goodIn_r _ [31, 1, 85, 86, 87, 88, 89, 90, 91, 92, 93, 94, 95, 96, 97, 98, 99, 100, 101, 102, 103, 104, 105, 106, 107, 108, 109, 110, 111, 112] (by decide +kernel) (by decide +kernel)
set_option maxRecDepth 20000 in
theorem gX8_tries_X8_holds : GoodIn wsX8_tries (wsV RX8 176 RX8 yX8_holds wsX8_holds) := goodIn_app (goodIn_of _ (by decide +kernel)) ggX8_tries_X8_holds
set_option maxRecDepth 20000 in
theorem ggX8_tries_X8_its : GoodIn wsX8_tries wsX8_its := goodIn_r _ [23, 1, 85, 86, 87, 88, 89, 90, 91, 92, 93, 94, 95, 96, 97, 98, 99, 100, 101, 102, 103, 104, 105, 106, 107, 108, 109, 110, 111, 112] (by decide +kernel) (by decide +kernel)
set_option maxRecDepth 20000 in
theorem gX8_tries_X8_its : GoodIn wsX8_tries (wsV RX8 180 RX8 yX8_its wsX8_its) := goodIn_app (goodIn_of _ (by decide +kernel)) ggX8_tries_X8_its
set_option maxRecDepth 20000 in
theorem ggX8_tries_X8_tries : GoodIn wsX8_tries wsX8_tries := goodIn_r _ [0, 1, 2, 3, 4, 5, 6, 7, 8, 9, 10, 11, 12, 13, 14, 15, 16, 17, 18, 19, 20, 21, 22, 23, 24, 25, 26, 27, 28, 29, 30, 31, 32, 33, 34, 35, 36, 37, 38, 39, 40, 41, 42, 43, 44, 45, 46, 47, 48, 49, 50, 51, 52, 53, 54, 55, 56, 57, 58, 59, 60, 61, 62, 63, 64, 65, 66, 67, 68, 69, 70, 71, 72, 73, 74, 75, 76, 77, 78, 79, 80, 81, 82, 83, 84, 85, 86, 87, 88, 89, 90, 91, 92, 93, 94, 95, 96, 97, 98, 99, 100, 101, 102, 103, 104, 105, 106, 107, 108, 109, 110, 111, 112] (by decide +kernel) (by decide +kernel)
set_option maxRecDepth 20000 in
theorem gX8_tries_X8_tries : GoodIn wsX8_tries (wsV RX8 256 RX8 yX8_tries wsX8_tries) := goodIn_app (goodIn_of _ (by decide +kernel)) ggX8_tries_X8_tries
theorem dX8_tries_0 : decode cX8_tries 0 = .ok (.iload_n 1, 1) := by decide +kernel
theorem dX8_tries_1 : decode cX8_tries 1 = .ok (.aload_n 0, 1) := by decide +kernel
theorem dX8_tries_2 : decode cX8_tries 2 = .ok (.getfield 70, 3) := by decide +kernel
theorem dX8_tries_5 : decode cX8_tries 5 = .ok (.bipush 9, 2) := by decide +kernel
theorem dX8_tries_7 : decode cX8_tries 7 = .ok (.iaload, 1) := by decide +kernel
theorem dX8_tries_8 : decode cX8_tries 8 = .ok (.if_icmp .ne 9, 3) := by decide +kernel
theorem dX8_tries_11 : decode cX8_tries 11 = .ok (.aload_n 0, 1) := by decide +kernel
theorem dX8_tries_12 : decode cX8_tries 12 = .ok (.iload_n 2, 1) := by decide +kernel
theorem dX8_tries_13 : decode cX8_tries 13 = .ok (.invokevirtual 253, 3) := by decide +kernel
theorem dX8_tries_16 : decode cX8_tries 16 = .ok (.return_, 1) := by decide +kernel
theorem dX8_tries_17 : decode cX8_tries 17 = .ok (.iconst 0, 1) := by decide +kernel
theorem dX8_tries_18 : decode cX8_tries 18 = .ok (.istore_n 3, 1) := by decide +kernel
theorem dX8_tries_19 : decode cX8_tries 19 = .ok (.iload_n 3, 1) := by decide +kernel
theorem dX8_tries_20 : decode cX8_tries 20 = .ok (.aload_n 0, 1) := by decide +kernel
theorem dX8_tries_21 : decode cX8_tries 21 = .ok (.getfield 70, 3) := by decide +kernel
theorem dX8_tries_24 : decode cX8_tries 24 = .ok (.bipush 13, 2) := by decide +kernel
theorem dX8_tries_26 : decode cX8_tries 26 = .ok (.iaload, 1) := by decide +kernel
theorem dX8_tries_27 : decode cX8_tries 27 = .ok (.if_icmp .ge 45, 3) := by decide +kernel
theorem dX8_tries_30 : decode cX8_tries 30 = .ok (.aload_n 0, 1) := by decide +kernel
theorem dX8_tries_31 : decode cX8_tries 31 = .ok (.iload_n 1, 1) := by decide +kernel
theorem dX8_tries_32 : decode cX8_tries 32 = .ok (.iconst 4, 1) := by decide +kernel
theorem dX8_tries_33 : decode cX8_tries 33 = .ok (.invokevirtual 176, 3) := by decide +kernel
theorem dX8_tries_36 : decode cX8_tries 36 = .ok (.ifCond .ne 36, 3) := by decide +kernel
theorem dX8_tries_39 : decode cX8_tries 39 = .ok (.aload_n 0, 1) := by decide +kernel
theorem dX8_tries_40 : decode cX8_tries 40 = .ok (.iload_n 3, 1) := by decide +kernel
theorem dX8_tries_41 : decode cX8_tries 41 = .ok (.iconst 2, 1) := by decide +kernel
theorem dX8_tries_42 : decode cX8_tries 42 = .ok (.invokevirtual 180, 3) := by decide +kernel
theorem dX8_tries_45 : decode cX8_tries 45 = .ok (.ifCond .eq 6, 3) := by decide +kernel
theorem dX8_tries_48 : decode cX8_tries 48 = .ok (.goto 18, 3) := by decide +kernel
theorem dX8_tries_51 : decode cX8_tries 51 = .ok (.aload_n 0, 1) := by decide +kernel
theorem dX8_tries_52 : decode cX8_tries 52 = .ok (.getfield 94, 3) := by decide +kernel
theorem dX8_tries_55 : decode cX8_tries 55 = .ok (.iload_n 1, 1) := by decide +kernel
theorem dX8_tries_56 : decode cX8_tries 56 = .ok (.iload_n 3, 1) := by decide +kernel
theorem dX8_tries_57 : decode cX8_tries 57 = .ok (.iastore, 1) := by decide +kernel
theorem dX8_tries_58 : decode cX8_tries 58 = .ok (.aload_n 0, 1) := by decide +kernel
theorem dX8_tries_59 : decode cX8_tries 59 = .ok (.iload_n 1, 1) := by decide +kernel
theorem dX8_tries_60 : decode cX8_tries 60 = .ok (.iconst 1, 1) := by decide +kernel
theorem dX8_tries_61 : decode cX8_tries 61 = .ok (.iadd, 1) := by decide +kernel
theorem dX8_tries_62 : decode cX8_tries 62 = .ok (.iload_n 2, 1) := by decide +kernel
theorem dX8_tries_63 : decode cX8_tries 63 = .ok (.invokevirtual 256, 3) := by decide +kernel
theorem dX8_tries_66 : decode cX8_tries 66 = .ok (.iinc 3 1, 3) := by decide +kernel
theorem dX8_tries_69 : decode cX8_tries 69 = .ok (.goto (-50), 3) := by decide +kernel
theorem dX8_tries_72 : decode cX8_tries 72 = .ok (.aload_n 0, 1) := by decide +kernel
theorem dX8_tries_73 : decode cX8_tries 73 = .ok (.getfield 94, 3) := by decide +kernel
theorem dX8_tries_76 : decode cX8_tries 76 = .ok (.iload_n 1, 1) := by decide +kernel
theorem dX8_tries_77 : decode cX8_tries 77 = .ok (.iconst (-1), 1) := by decide +kernel
theorem dX8_tries_78 : decode cX8_tries 78 = .ok (.iastore, 1) := by decide +kernel
theorem dX8_tries_79 : decode cX8_tries 79 = .ok (.aload_n 0, 1) := by decide +kernel
theorem dX8_tries_80 : decode cX8_tries 80 = .ok (.iload_n 1, 1) := by decide +kernel
theorem dX8_tries_81 : decode cX8_tries 81 = .ok (.iconst 1, 1) := by decide +kernel
theorem dX8_tries_82 : decode cX8_tries 82 = .ok (.iadd, 1) := by decide +kernel
theorem dX8_tries_83 : decode cX8_tries 83 = .ok (.iload_n 2, 1) := by decide +kernel
theorem dX8_tries_84 : decode cX8_tries 84 = .ok (.invokevirtual 256, 3) := by decide +kernel
theorem dX8_tries_87 : decode cX8_tries 87 = .ok (.return_, 1) := by decide +kernel
set_option maxRecDepth 20000 in
theorem ggX8_laysPlan_X8_tries : GoodIn wsX8_laysPlan wsX8_tries := goodIn_r _ [10, 11, 3, 12, 13, 14, 9, 15, 16, 17, 18, 19, 1, 2, 4, 5, 20, 21, 22, 23, 24, 25, 26, 27, 28, 29, 30, 31, 32, 33, 34, 35, 36, 37, 38, 39, 40, 41, 42, 43, 44, 45, 46, 47, 48, 49, 50, 51, 52, 53, 54, 55, 56, 57, 58, 59, 60, 61, 62, 63, 64, 65, 66, 67, 68, 69, 70, 71, 72, 73, 74, 75, 76, 77, 78, 79, 80, 81, 82, 83, 84, 85, 6, 7, 8, 86, 87, 88, 89, 90, 91, 92, 93, 94, 95, 96, 97, 98, 99, 100, 101, 102, 103, 104, 105, 106, 107, 108, 109, 110, 111, 112, 113] (by decide +kernel) (by decide +kernel)
set_option maxRecDepth 20000 in
theorem gX8_laysPlan_X8_tries : GoodIn wsX8_laysPlan (wsV RX8 256 RX8 yX8_tries wsX8_tries) := goodIn_app (goodIn_of _ (by decide +kernel)) ggX8_laysPlan_X8_tries
theorem dX8_laysPlan_0 : decode cX8_laysPlan 0 = .ok (.aload_n 0, 1) := by decide +kernel
theorem dX8_laysPlan_1 : decode cX8_laysPlan 1 = .ok (.iconst (-1), 1) := by decide +kernel
theorem dX8_laysPlan_2 : decode cX8_laysPlan 2 = .ok (.putfield 247, 3) := by decide +kernel
theorem dX8_laysPlan_5 : decode cX8_laysPlan 5 = .ok (.aload_n 0, 1) := by decide +kernel
theorem dX8_laysPlan_6 : decode cX8_laysPlan 6 = .ok (.iconst 0, 1) := by decide +kernel
theorem dX8_laysPlan_7 : decode cX8_laysPlan 7 = .ok (.putfield 250, 3) := by decide +kernel
theorem dX8_laysPlan_10 : decode cX8_laysPlan 10 = .ok (.iconst 0, 1) := by decide +kernel
theorem dX8_laysPlan_11 : decode cX8_laysPlan 11 = .ok (.istore_n 2, 1) := by decide +kernel
theorem dX8_laysPlan_12 : decode cX8_laysPlan 12 = .ok (.iload_n 2, 1) := by decide +kernel
theorem dX8_laysPlan_13 : decode cX8_laysPlan 13 = .ok (.iconst 5, 1) := by decide +kernel
theorem dX8_laysPlan_14 : decode cX8_laysPlan 14 = .ok (.if_icmp .ge 30, 3) := by decide +kernel
theorem dX8_laysPlan_17 : decode cX8_laysPlan 17 = .ok (.aload_n 0, 1) := by decide +kernel
theorem dX8_laysPlan_18 : decode cX8_laysPlan 18 = .ok (.getfield 94, 3) := by decide +kernel
theorem dX8_laysPlan_21 : decode cX8_laysPlan 21 = .ok (.iload_n 2, 1) := by decide +kernel
theorem dX8_laysPlan_22 : decode cX8_laysPlan 22 = .ok (.iconst (-1), 1) := by decide +kernel
theorem dX8_laysPlan_23 : decode cX8_laysPlan 23 = .ok (.iastore, 1) := by decide +kernel
theorem dX8_laysPlan_24 : decode cX8_laysPlan 24 = .ok (.aload_n 0, 1) := by decide +kernel
theorem dX8_laysPlan_25 : decode cX8_laysPlan 25 = .ok (.getfield 100, 3) := by decide +kernel
theorem dX8_laysPlan_28 : decode cX8_laysPlan 28 = .ok (.iload_n 2, 1) := by decide +kernel
theorem dX8_laysPlan_29 : decode cX8_laysPlan 29 = .ok (.iconst (-1), 1) := by decide +kernel
theorem dX8_laysPlan_30 : decode cX8_laysPlan 30 = .ok (.iastore, 1) := by decide +kernel
theorem dX8_laysPlan_31 : decode cX8_laysPlan 31 = .ok (.aload_n 0, 1) := by decide +kernel
theorem dX8_laysPlan_32 : decode cX8_laysPlan 32 = .ok (.getfield 103, 3) := by decide +kernel
theorem dX8_laysPlan_35 : decode cX8_laysPlan 35 = .ok (.iload_n 2, 1) := by decide +kernel
theorem dX8_laysPlan_36 : decode cX8_laysPlan 36 = .ok (.iconst 0, 1) := by decide +kernel
theorem dX8_laysPlan_37 : decode cX8_laysPlan 37 = .ok (.iastore, 1) := by decide +kernel
theorem dX8_laysPlan_38 : decode cX8_laysPlan 38 = .ok (.iinc 2 1, 3) := by decide +kernel
theorem dX8_laysPlan_41 : decode cX8_laysPlan 41 = .ok (.goto (-29), 3) := by decide +kernel
theorem dX8_laysPlan_44 : decode cX8_laysPlan 44 = .ok (.aload_n 0, 1) := by decide +kernel
theorem dX8_laysPlan_45 : decode cX8_laysPlan 45 = .ok (.iconst 0, 1) := by decide +kernel
theorem dX8_laysPlan_46 : decode cX8_laysPlan 46 = .ok (.iload_n 1, 1) := by decide +kernel
theorem dX8_laysPlan_47 : decode cX8_laysPlan 47 = .ok (.invokevirtual 256, 3) := by decide +kernel
theorem dX8_laysPlan_50 : decode cX8_laysPlan 50 = .ok (.return_, 1) := by decide +kernel
set_option maxRecDepth 20000 in
theorem ggX8_plan_X8_isIn : GoodIn wsX8_plan wsX8_isIn := goodIn_r _ [9] (by decide +kernel) (by decide +kernel)
set_option maxRecDepth 20000 in
theorem gX8_plan_X8_isIn : GoodIn wsX8_plan (va_wsS RX8 109 yX8_isIn wsX8_isIn) := goodIn_app (goodIn_of _ (by decide +kernel)) ggX8_plan_X8_isIn
set_option maxRecDepth 20000 in
theorem ggX8_plan_X8_isHold : GoodIn wsX8_plan wsX8_isHold := goodIn_r _ [13, 14, 6, 7, 8, 9, 98, 99, 100, 101, 102, 103, 104, 105, 106, 107, 108, 109, 110, 111, 112, 113, 114, 115, 116, 117, 118, 119, 120, 121, 122, 123, 124, 125] (by decide +kernel) (by decide +kernel)
set_option maxRecDepth 20000 in
theorem gX8_plan_X8_isHold : GoodIn wsX8_plan (wsV RX8 217 RX8 yX8_isHold wsX8_isHold) := goodIn_app (goodIn_of _ (by decide +kernel)) ggX8_plan_X8_isHold
set_option maxRecDepth 20000 in
theorem ggX8_plan_X8_laysPlan : GoodIn wsX8_plan wsX8_laysPlan := goodIn_r _ [18, 2, 3, 19, 4, 5, 20, 21, 22, 8, 23, 14, 24, 25, 26, 27, 28, 29, 30, 31, 32, 33, 34, 35, 36, 37, 38, 39, 40, 41, 42, 43, 44, 45, 46, 47, 48, 49, 50, 51, 52, 53, 54, 55, 56, 57, 58, 59, 60, 61, 62, 63, 64, 65, 66, 67, 68, 69, 70, 71, 72, 73, 74, 75, 76, 77, 78, 79, 80, 81, 82, 83, 84, 85, 86, 87, 88, 89, 90, 91, 92, 93, 94, 95, 96, 97, 98, 99, 100, 101, 102, 103, 104, 105, 106, 107, 108, 109, 110, 111, 112, 113, 114, 115, 116, 117, 118, 119, 120, 121, 122, 123, 124, 125] (by decide +kernel) (by decide +kernel)
set_option maxRecDepth 20000 in
theorem gX8_plan_X8_laysPlan : GoodIn wsX8_plan (wsV RX8 260 RX8 yX8_laysPlan wsX8_laysPlan) := goodIn_app (goodIn_of _ (by decide +kernel)) ggX8_plan_X8_laysPlan
theorem dX8_plan_0 : decode cX8_plan 0 = .ok (.aload_n 0, 1) := by decide +kernel
theorem dX8_plan_1 : decode cX8_plan 1 = .ok (.iconst 0, 1) := by decide +kernel
theorem dX8_plan_2 : decode cX8_plan 2 = .ok (.putfield 1, 3) := by decide +kernel
theorem dX8_plan_5 : decode cX8_plan 5 = .ok (.iload_n 1, 1) := by decide +kernel
theorem dX8_plan_6 : decode cX8_plan 6 = .ok (.bipush 20, 2) := by decide +kernel
theorem dX8_plan_8 : decode cX8_plan 8 = .ok (.if_icmp .lt 10, 3) := by decide +kernel
theorem dX8_plan_11 : decode cX8_plan 11 = .ok (.iload_n 1, 1) := by decide +kernel
theorem dX8_plan_12 : decode cX8_plan 12 = .ok (.bipush 20, 2) := by decide +kernel
theorem dX8_plan_14 : decode cX8_plan 14 = .ok (.isub, 1) := by decide +kernel
theorem dX8_plan_15 : decode cX8_plan 15 = .ok (.goto 7, 3) := by decide +kernel
theorem dX8_plan_18 : decode cX8_plan 18 = .ok (.iload_n 1, 1) := by decide +kernel
theorem dX8_plan_19 : decode cX8_plan 19 = .ok (.bipush 10, 2) := by decide +kernel
theorem dX8_plan_21 : decode cX8_plan 21 = .ok (.isub, 1) := by decide +kernel
theorem dX8_plan_22 : decode cX8_plan 22 = .ok (.istore_n 2, 1) := by decide +kernel
theorem dX8_plan_23 : decode cX8_plan 23 = .ok (.iload_n 1, 1) := by decide +kernel
theorem dX8_plan_24 : decode cX8_plan 24 = .ok (.iconst 0, 1) := by decide +kernel
theorem dX8_plan_25 : decode cX8_plan 25 = .ok (.iconst 1, 1) := by decide +kernel
theorem dX8_plan_26 : decode cX8_plan 26 = .ok (.invokestatic 109, 3) := by decide +kernel
theorem dX8_plan_29 : decode cX8_plan 29 = .ok (.ifCond .ne 23, 3) := by decide +kernel
theorem dX8_plan_32 : decode cX8_plan 32 = .ok (.iload_n 2, 1) := by decide +kernel
theorem dX8_plan_33 : decode cX8_plan 33 = .ok (.iconst 0, 1) := by decide +kernel
theorem dX8_plan_34 : decode cX8_plan 34 = .ok (.bipush 9, 2) := by decide +kernel
theorem dX8_plan_36 : decode cX8_plan 36 = .ok (.invokestatic 109, 3) := by decide +kernel
theorem dX8_plan_39 : decode cX8_plan 39 = .ok (.ifCond .eq 11, 3) := by decide +kernel
theorem dX8_plan_42 : decode cX8_plan 42 = .ok (.aload_n 0, 1) := by decide +kernel
theorem dX8_plan_43 : decode cX8_plan 43 = .ok (.iload_n 2, 1) := by decide +kernel
theorem dX8_plan_44 : decode cX8_plan 44 = .ok (.invokevirtual 217, 3) := by decide +kernel
theorem dX8_plan_47 : decode cX8_plan 47 = .ok (.ifCond .ne 5, 3) := by decide +kernel
theorem dX8_plan_50 : decode cX8_plan 50 = .ok (.iconst (-1), 1) := by decide +kernel
theorem dX8_plan_51 : decode cX8_plan 51 = .ok (.ireturn, 1) := by decide +kernel
theorem dX8_plan_52 : decode cX8_plan 52 = .ok (.aload_n 0, 1) := by decide +kernel
theorem dX8_plan_53 : decode cX8_plan 53 = .ok (.iconst 0, 1) := by decide +kernel
theorem dX8_plan_54 : decode cX8_plan 54 = .ok (.invokevirtual 260, 3) := by decide +kernel
theorem dX8_plan_57 : decode cX8_plan 57 = .ok (.aload_n 0, 1) := by decide +kernel
theorem dX8_plan_58 : decode cX8_plan 58 = .ok (.getfield 247, 3) := by decide +kernel
theorem dX8_plan_61 : decode cX8_plan 61 = .ok (.iconst (-1), 1) := by decide +kernel
theorem dX8_plan_62 : decode cX8_plan 62 = .ok (.if_icmp .ne 6, 3) := by decide +kernel
theorem dX8_plan_65 : decode cX8_plan 65 = .ok (.bipush (-2), 2) := by decide +kernel
theorem dX8_plan_67 : decode cX8_plan 67 = .ok (.ireturn, 1) := by decide +kernel
theorem dX8_plan_68 : decode cX8_plan 68 = .ok (.iload_n 1, 1) := by decide +kernel
theorem dX8_plan_69 : decode cX8_plan 69 = .ok (.ifCond .ne 10, 3) := by decide +kernel
theorem dX8_plan_72 : decode cX8_plan 72 = .ok (.aload_n 0, 1) := by decide +kernel
theorem dX8_plan_73 : decode cX8_plan 73 = .ok (.getfield 247, 3) := by decide +kernel
theorem dX8_plan_76 : decode cX8_plan 76 = .ok (.goto 36, 3) := by decide +kernel
theorem dX8_plan_79 : decode cX8_plan 79 = .ok (.iload_n 1, 1) := by decide +kernel
theorem dX8_plan_80 : decode cX8_plan 80 = .ok (.iconst 1, 1) := by decide +kernel
theorem dX8_plan_81 : decode cX8_plan 81 = .ok (.if_icmp .ne 10, 3) := by decide +kernel
theorem dX8_plan_84 : decode cX8_plan 84 = .ok (.aload_n 0, 1) := by decide +kernel
theorem dX8_plan_85 : decode cX8_plan 85 = .ok (.getfield 250, 3) := by decide +kernel
theorem dX8_plan_88 : decode cX8_plan 88 = .ok (.goto 24, 3) := by decide +kernel
theorem dX8_plan_91 : decode cX8_plan 91 = .ok (.iload_n 1, 1) := by decide +kernel
theorem dX8_plan_92 : decode cX8_plan 92 = .ok (.bipush 20, 2) := by decide +kernel
theorem dX8_plan_94 : decode cX8_plan 94 = .ok (.if_icmp .ge 12, 3) := by decide +kernel
theorem dX8_plan_97 : decode cX8_plan 97 = .ok (.aload_n 0, 1) := by decide +kernel
theorem dX8_plan_98 : decode cX8_plan 98 = .ok (.getfield 100, 3) := by decide +kernel
theorem dX8_plan_101 : decode cX8_plan 101 = .ok (.iload_n 2, 1) := by decide +kernel
theorem dX8_plan_102 : decode cX8_plan 102 = .ok (.iaload, 1) := by decide +kernel
theorem dX8_plan_103 : decode cX8_plan 103 = .ok (.goto 9, 3) := by decide +kernel
theorem dX8_plan_106 : decode cX8_plan 106 = .ok (.aload_n 0, 1) := by decide +kernel
theorem dX8_plan_107 : decode cX8_plan 107 = .ok (.getfield 103, 3) := by decide +kernel
theorem dX8_plan_110 : decode cX8_plan 110 = .ok (.iload_n 2, 1) := by decide +kernel
theorem dX8_plan_111 : decode cX8_plan 111 = .ok (.iaload, 1) := by decide +kernel
theorem dX8_plan_112 : decode cX8_plan 112 = .ok (.ireturn, 1) := by decide +kernel
set_option maxRecDepth 20000 in
theorem ggX8_washes_X8_holds : GoodIn wsX8_washes wsX8_holds := goodIn_r _ [8, 2, 95, 96, 97, 98, 99, 100, 101, 102, 103, 104, 105, 106, 107, 108, 109, 110, 111, 112, 113, 114, 115, 116, 117, 118, 119, 120, 121, 122] (by decide +kernel) (by decide +kernel)
set_option maxRecDepth 20000 in
theorem gX8_washes_X8_holds : GoodIn wsX8_washes (wsV RX8 176 RX8 yX8_holds wsX8_holds) := goodIn_app (goodIn_of _ (by decide +kernel)) ggX8_washes_X8_holds
set_option maxRecDepth 20000 in
theorem ggX8_washes_X8_has : GoodIn wsX8_washes wsX8_has := goodIn_r _ [11] (by decide +kernel) (by decide +kernel)
set_option maxRecDepth 20000 in
theorem gX8_washes_X8_has : GoodIn wsX8_washes (va_wsS RX8 183 yX8_has wsX8_has) := goodIn_app (goodIn_of _ (by decide +kernel)) ggX8_washes_X8_has
set_option maxRecDepth 20000 in
theorem ggX8_washes_X8_laysPlan : GoodIn wsX8_washes wsX8_laysPlan := goodIn_r _ [15, 3, 16, 17, 18, 19, 20, 21, 22, 7, 23, 2, 24, 25, 26, 27, 28, 29, 30, 31, 32, 33, 34, 35, 36, 37, 38, 39, 40, 41, 42, 43, 4, 5, 6, 8, 44, 45, 46, 47, 48, 49, 50, 51, 9, 10, 11, 52, 53, 54, 55, 56, 57, 58, 59, 60, 61, 62, 63, 64, 65, 66, 67, 68, 69, 70, 71, 72, 73, 74, 75, 76, 77, 78, 79, 80, 81, 82, 83, 84, 85, 86, 87, 88, 89, 90, 95, 96, 97, 98, 99, 100, 101, 102, 103, 104, 105, 106, 107, 108, 109, 110, 111, 112, 113, 114, 115, 116, 117, 118, 119, 120, 121, 122] (by decide +kernel) (by decide +kernel)
set_option maxRecDepth 20000 in
theorem gX8_washes_X8_laysPlan : GoodIn wsX8_washes (wsV RX8 260 RX8 yX8_laysPlan wsX8_laysPlan) := goodIn_app (goodIn_of _ (by decide +kernel)) ggX8_washes_X8_laysPlan
set_option maxRecDepth 20000 in
theorem ggX8_washes_X8_having : GoodIn wsX8_washes wsX8_having := goodIn_r _ [94, 2, 36, 37, 38, 7, 39, 95, 96, 97, 98, 99, 100, 101, 102, 103, 104, 105, 106, 107, 108, 109, 110, 111, 112, 113, 114, 115, 116, 117, 118, 119, 120, 121, 122] (by decide +kernel) (by decide +kernel)
set_option maxRecDepth 20000 in
theorem gX8_washes_X8_having : GoodIn wsX8_washes (wsV RX8 263 RX8 yX8_having wsX8_having) := goodIn_app (goodIn_of _ (by decide +kernel)) ggX8_washes_X8_having
theorem dX8_washes_0 : decode cX8_washes 0 = .ok (.aload_n 0, 1) := by decide +kernel
theorem dX8_washes_1 : decode cX8_washes 1 = .ok (.iconst 0, 1) := by decide +kernel
theorem dX8_washes_2 : decode cX8_washes 2 = .ok (.putfield 1, 3) := by decide +kernel
theorem dX8_washes_5 : decode cX8_washes 5 = .ok (.iconst 0, 1) := by decide +kernel
theorem dX8_washes_6 : decode cX8_washes 6 = .ok (.istore_n 1, 1) := by decide +kernel
theorem dX8_washes_7 : decode cX8_washes 7 = .ok (.iconst 0, 1) := by decide +kernel
theorem dX8_washes_8 : decode cX8_washes 8 = .ok (.istore_n 2, 1) := by decide +kernel
theorem dX8_washes_9 : decode cX8_washes 9 = .ok (.iload_n 2, 1) := by decide +kernel
theorem dX8_washes_10 : decode cX8_washes 10 = .ok (.aload_n 0, 1) := by decide +kernel
theorem dX8_washes_11 : decode cX8_washes 11 = .ok (.getfield 70, 3) := by decide +kernel
theorem dX8_washes_14 : decode cX8_washes 14 = .ok (.bipush 9, 2) := by decide +kernel
theorem dX8_washes_16 : decode cX8_washes 16 = .ok (.iaload, 1) := by decide +kernel
theorem dX8_washes_17 : decode cX8_washes 17 = .ok (.if_icmp .ge 24, 3) := by decide +kernel
theorem dX8_washes_20 : decode cX8_washes 20 = .ok (.aload_n 0, 1) := by decide +kernel
theorem dX8_washes_21 : decode cX8_washes 21 = .ok (.iload_n 2, 1) := by decide +kernel
theorem dX8_washes_22 : decode cX8_washes 22 = .ok (.iconst 4, 1) := by decide +kernel
theorem dX8_washes_23 : decode cX8_washes 23 = .ok (.invokevirtual 176, 3) := by decide +kernel
theorem dX8_washes_26 : decode cX8_washes 26 = .ok (.ifCond .ne 9, 3) := by decide +kernel
theorem dX8_washes_29 : decode cX8_washes 29 = .ok (.iload_n 1, 1) := by decide +kernel
theorem dX8_washes_30 : decode cX8_washes 30 = .ok (.iconst 1, 1) := by decide +kernel
theorem dX8_washes_31 : decode cX8_washes 31 = .ok (.iload_n 2, 1) := by decide +kernel
theorem dX8_washes_32 : decode cX8_washes 32 = .ok (.ishl, 1) := by decide +kernel
theorem dX8_washes_33 : decode cX8_washes 33 = .ok (.ior, 1) := by decide +kernel
theorem dX8_washes_34 : decode cX8_washes 34 = .ok (.istore_n 1, 1) := by decide +kernel
theorem dX8_washes_35 : decode cX8_washes 35 = .ok (.iinc 2 1, 3) := by decide +kernel
theorem dX8_washes_38 : decode cX8_washes 38 = .ok (.goto (-29), 3) := by decide +kernel
theorem dX8_washes_41 : decode cX8_washes 41 = .ok (.bipush (-2), 2) := by decide +kernel
theorem dX8_washes_43 : decode cX8_washes 43 = .ok (.istore_n 2, 1) := by decide +kernel
theorem dX8_washes_44 : decode cX8_washes 44 = .ok (.iconst 0, 1) := by decide +kernel
theorem dX8_washes_45 : decode cX8_washes 45 = .ok (.istore_n 3, 1) := by decide +kernel
theorem dX8_washes_46 : decode cX8_washes 46 = .ok (.iload_n 3, 1) := by decide +kernel
theorem dX8_washes_47 : decode cX8_washes 47 = .ok (.bipush 32, 2) := by decide +kernel
theorem dX8_washes_49 : decode cX8_washes 49 = .ok (.if_icmp .ge 82, 3) := by decide +kernel
theorem dX8_washes_52 : decode cX8_washes 52 = .ok (.iconst 0, 1) := by decide +kernel
theorem dX8_washes_53 : decode cX8_washes 53 = .ok (.istore 4, 2) := by decide +kernel
theorem dX8_washes_55 : decode cX8_washes 55 = .ok (.iconst 0, 1) := by decide +kernel
theorem dX8_washes_56 : decode cX8_washes 56 = .ok (.istore 5, 2) := by decide +kernel
theorem dX8_washes_58 : decode cX8_washes 58 = .ok (.iload 5, 2) := by decide +kernel
theorem dX8_washes_60 : decode cX8_washes 60 = .ok (.iconst 5, 1) := by decide +kernel
theorem dX8_washes_61 : decode cX8_washes 61 = .ok (.if_icmp .ge 21, 3) := by decide +kernel
theorem dX8_washes_64 : decode cX8_washes 64 = .ok (.iload_n 3, 1) := by decide +kernel
theorem dX8_washes_65 : decode cX8_washes 65 = .ok (.iload 5, 2) := by decide +kernel
theorem dX8_washes_67 : decode cX8_washes 67 = .ok (.invokestatic 183, 3) := by decide +kernel
theorem dX8_washes_70 : decode cX8_washes 70 = .ok (.ifCond .eq 6, 3) := by decide +kernel
theorem dX8_washes_73 : decode cX8_washes 73 = .ok (.iinc 4 1, 3) := by decide +kernel
theorem dX8_washes_76 : decode cX8_washes 76 = .ok (.iinc 5 1, 3) := by decide +kernel
theorem dX8_washes_79 : decode cX8_washes 79 = .ok (.goto (-21), 3) := by decide +kernel
theorem dX8_washes_82 : decode cX8_washes 82 = .ok (.iload_n 3, 1) := by decide +kernel
theorem dX8_washes_83 : decode cX8_washes 83 = .ok (.iload_n 1, 1) := by decide +kernel
theorem dX8_washes_84 : decode cX8_washes 84 = .ok (.iconst (-1), 1) := by decide +kernel
theorem dX8_washes_85 : decode cX8_washes 85 = .ok (.ixor, 1) := by decide +kernel
theorem dX8_washes_86 : decode cX8_washes 86 = .ok (.iand, 1) := by decide +kernel
theorem dX8_washes_87 : decode cX8_washes 87 = .ok (.ifCond .ne 38, 3) := by decide +kernel
theorem dX8_washes_90 : decode cX8_washes 90 = .ok (.iload_n 2, 1) := by decide +kernel
theorem dX8_washes_91 : decode cX8_washes 91 = .ok (.bipush (-2), 2) := by decide +kernel
theorem dX8_washes_93 : decode cX8_washes 93 = .ok (.if_icmp .eq 12, 3) := by decide +kernel
theorem dX8_washes_96 : decode cX8_washes 96 = .ok (.iload 4, 2) := by decide +kernel
theorem dX8_washes_98 : decode cX8_washes 98 = .ok (.iload_n 2, 1) := by decide +kernel
theorem dX8_washes_99 : decode cX8_washes 99 = .ok (.if_icmp .lt 6, 3) := by decide +kernel
theorem dX8_washes_102 : decode cX8_washes 102 = .ok (.goto 23, 3) := by decide +kernel
theorem dX8_washes_105 : decode cX8_washes 105 = .ok (.aload_n 0, 1) := by decide +kernel
theorem dX8_washes_106 : decode cX8_washes 106 = .ok (.iload_n 3, 1) := by decide +kernel
theorem dX8_washes_107 : decode cX8_washes 107 = .ok (.invokevirtual 260, 3) := by decide +kernel
theorem dX8_washes_110 : decode cX8_washes 110 = .ok (.aload_n 0, 1) := by decide +kernel
theorem dX8_washes_111 : decode cX8_washes 111 = .ok (.getfield 247, 3) := by decide +kernel
theorem dX8_washes_114 : decode cX8_washes 114 = .ok (.aload_n 0, 1) := by decide +kernel
theorem dX8_washes_115 : decode cX8_washes 115 = .ok (.iconst 0, 1) := by decide +kernel
theorem dX8_washes_116 : decode cX8_washes 116 = .ok (.invokevirtual 263, 3) := by decide +kernel
theorem dX8_washes_119 : decode cX8_washes 119 = .ok (.if_icmp .ne 6, 3) := by decide +kernel
theorem dX8_washes_122 : decode cX8_washes 122 = .ok (.iload 4, 2) := by decide +kernel
theorem dX8_washes_124 : decode cX8_washes 124 = .ok (.istore_n 2, 1) := by decide +kernel
theorem dX8_washes_125 : decode cX8_washes 125 = .ok (.iinc 3 1, 3) := by decide +kernel
theorem dX8_washes_128 : decode cX8_washes 128 = .ok (.goto (-82), 3) := by decide +kernel
theorem dX8_washes_131 : decode cX8_washes 131 = .ok (.iload_n 2, 1) := by decide +kernel
theorem dX8_washes_132 : decode cX8_washes 132 = .ok (.ireturn, 1) := by decide +kernel
theorem dX8_snap_0 : decode cX8_snap 0 = .ok (.aload_n 0, 1) := by decide +kernel
theorem dX8_snap_1 : decode cX8_snap 1 = .ok (.getfield 173, 3) := by decide +kernel
theorem dX8_snap_4 : decode cX8_snap 4 = .ok (.bipush 10, 2) := by decide +kernel
theorem dX8_snap_6 : decode cX8_snap 6 = .ok (.if_icmp .ne 44, 3) := by decide +kernel
theorem dX8_snap_9 : decode cX8_snap 9 = .ok (.iconst 0, 1) := by decide +kernel
theorem dX8_snap_10 : decode cX8_snap 10 = .ok (.istore_n 1, 1) := by decide +kernel
theorem dX8_snap_11 : decode cX8_snap 11 = .ok (.iload_n 1, 1) := by decide +kernel
theorem dX8_snap_12 : decode cX8_snap 12 = .ok (.sipush 1413, 3) := by decide +kernel
theorem dX8_snap_15 : decode cX8_snap 15 = .ok (.if_icmp .ge 25, 3) := by decide +kernel
theorem dX8_snap_18 : decode cX8_snap 18 = .ok (.aload_n 0, 1) := by decide +kernel
theorem dX8_snap_19 : decode cX8_snap 19 = .ok (.getfield 76, 3) := by decide +kernel
theorem dX8_snap_22 : decode cX8_snap 22 = .ok (.iload_n 1, 1) := by decide +kernel
theorem dX8_snap_23 : decode cX8_snap 23 = .ok (.aload_n 0, 1) := by decide +kernel
theorem dX8_snap_24 : decode cX8_snap 24 = .ok (.getfield 76, 3) := by decide +kernel
theorem dX8_snap_27 : decode cX8_snap 27 = .ok (.iload_n 1, 1) := by decide +kernel
theorem dX8_snap_28 : decode cX8_snap 28 = .ok (.sipush 157, 3) := by decide +kernel
theorem dX8_snap_31 : decode cX8_snap 31 = .ok (.iadd, 1) := by decide +kernel
theorem dX8_snap_32 : decode cX8_snap 32 = .ok (.iaload, 1) := by decide +kernel
theorem dX8_snap_33 : decode cX8_snap 33 = .ok (.iastore, 1) := by decide +kernel
theorem dX8_snap_34 : decode cX8_snap 34 = .ok (.iinc 1 1, 3) := by decide +kernel
theorem dX8_snap_37 : decode cX8_snap 37 = .ok (.goto (-26), 3) := by decide +kernel
theorem dX8_snap_40 : decode cX8_snap 40 = .ok (.aload_n 0, 1) := by decide +kernel
theorem dX8_snap_41 : decode cX8_snap 41 = .ok (.dup, 1) := by decide +kernel
theorem dX8_snap_42 : decode cX8_snap 42 = .ok (.getfield 173, 3) := by decide +kernel
theorem dX8_snap_45 : decode cX8_snap 45 = .ok (.iconst 1, 1) := by decide +kernel
theorem dX8_snap_46 : decode cX8_snap 46 = .ok (.isub, 1) := by decide +kernel
theorem dX8_snap_47 : decode cX8_snap 47 = .ok (.putfield 173, 3) := by decide +kernel
theorem dX8_snap_50 : decode cX8_snap 50 = .ok (.iconst 0, 1) := by decide +kernel
theorem dX8_snap_51 : decode cX8_snap 51 = .ok (.istore_n 1, 1) := by decide +kernel
theorem dX8_snap_52 : decode cX8_snap 52 = .ok (.iload_n 1, 1) := by decide +kernel
theorem dX8_snap_53 : decode cX8_snap 53 = .ok (.sipush 157, 3) := by decide +kernel
theorem dX8_snap_56 : decode cX8_snap 56 = .ok (.if_icmp .ge 30, 3) := by decide +kernel
theorem dX8_snap_59 : decode cX8_snap 59 = .ok (.aload_n 0, 1) := by decide +kernel
theorem dX8_snap_60 : decode cX8_snap 60 = .ok (.getfield 76, 3) := by decide +kernel
theorem dX8_snap_63 : decode cX8_snap 63 = .ok (.sipush 157, 3) := by decide +kernel
theorem dX8_snap_66 : decode cX8_snap 66 = .ok (.aload_n 0, 1) := by decide +kernel
theorem dX8_snap_67 : decode cX8_snap 67 = .ok (.getfield 173, 3) := by decide +kernel
theorem dX8_snap_70 : decode cX8_snap 70 = .ok (.imul, 1) := by decide +kernel
theorem dX8_snap_71 : decode cX8_snap 71 = .ok (.iload_n 1, 1) := by decide +kernel
theorem dX8_snap_72 : decode cX8_snap 72 = .ok (.iadd, 1) := by decide +kernel
theorem dX8_snap_73 : decode cX8_snap 73 = .ok (.aload_n 0, 1) := by decide +kernel
theorem dX8_snap_74 : decode cX8_snap 74 = .ok (.getfield 70, 3) := by decide +kernel
theorem dX8_snap_77 : decode cX8_snap 77 = .ok (.iload_n 1, 1) := by decide +kernel
theorem dX8_snap_78 : decode cX8_snap 78 = .ok (.iaload, 1) := by decide +kernel
theorem dX8_snap_79 : decode cX8_snap 79 = .ok (.iastore, 1) := by decide +kernel
theorem dX8_snap_80 : decode cX8_snap 80 = .ok (.iinc 1 1, 3) := by decide +kernel
theorem dX8_snap_83 : decode cX8_snap 83 = .ok (.goto (-31), 3) := by decide +kernel
theorem dX8_snap_86 : decode cX8_snap 86 = .ok (.aload_n 0, 1) := by decide +kernel
theorem dX8_snap_87 : decode cX8_snap 87 = .ok (.dup, 1) := by decide +kernel
theorem dX8_snap_88 : decode cX8_snap 88 = .ok (.getfield 173, 3) := by decide +kernel
theorem dX8_snap_91 : decode cX8_snap 91 = .ok (.iconst 1, 1) := by decide +kernel
theorem dX8_snap_92 : decode cX8_snap 92 = .ok (.iadd, 1) := by decide +kernel
theorem dX8_snap_93 : decode cX8_snap 93 = .ok (.putfield 173, 3) := by decide +kernel
theorem dX8_snap_96 : decode cX8_snap 96 = .ok (.return_, 1) := by decide +kernel
set_option maxRecDepth 20000 in
theorem ggX8_asks_X8_isLiquid : GoodIn wsX8_asks wsX8_isLiquid := goodIn_r _ [7, 2, 8, 9, 6, 10, 25, 26, 27, 28, 29, 30, 31, 32, 33, 34, 35, 36, 37, 38, 39, 40, 41, 42, 43, 44, 45, 46, 47, 48, 49, 50, 51, 52] (by decide +kernel) (by decide +kernel)
set_option maxRecDepth 20000 in
theorem gX8_asks_X8_isLiquid : GoodIn wsX8_asks (wsV RX8 232 RX8 yX8_isLiquid wsX8_isLiquid) := goodIn_app (goodIn_of _ (by decide +kernel)) ggX8_asks_X8_isLiquid
set_option maxRecDepth 20000 in
theorem ggX8_asks_X8_isIn : GoodIn wsX8_asks wsX8_isIn := goodIn_r _ [10] (by decide +kernel) (by decide +kernel)
set_option maxRecDepth 20000 in
theorem gX8_asks_X8_isIn : GoodIn wsX8_asks (va_wsS RX8 109 yX8_isIn wsX8_isIn) := goodIn_app (goodIn_of _ (by decide +kernel)) ggX8_asks_X8_isIn
set_option maxRecDepth 20000 in
theorem ggX8_asks_X8_having : GoodIn wsX8_asks wsX8_having := goodIn_r _ [14, 2, 15, 16, 17, 6, 18, 25, 26, 27, 28, 29, 30, 31, 32, 33, 34, 35, 36, 37, 38, 39, 40, 41, 42, 43, 44, 45, 46, 47, 48, 49, 50, 51, 52] (by decide +kernel) (by decide +kernel)
set_option maxRecDepth 20000 in
theorem gX8_asks_X8_having : GoodIn wsX8_asks (wsV RX8 263 RX8 yX8_having wsX8_having) := goodIn_app (goodIn_of _ (by decide +kernel)) ggX8_asks_X8_having
set_option maxRecDepth 20000 in
theorem ggX8_asks_X8_snap : GoodIn wsX8_asks wsX8_snap := goodIn_r _ [22, 23, 24, 2, 25, 26, 27, 28, 29, 30, 31, 32, 33, 34, 35, 36, 37, 38, 39, 40, 41, 42, 43, 44, 45, 46, 47, 48, 49, 50, 51, 52] (by decide +kernel) (by decide +kernel)
set_option maxRecDepth 20000 in
theorem gX8_asks_X8_snap : GoodIn wsX8_asks (wsV RX8 266 RX8 yX8_snap wsX8_snap) := goodIn_app (goodIn_of _ (by decide +kernel)) ggX8_asks_X8_snap
theorem dX8_asks_0 : decode cX8_asks 0 = .ok (.aload_n 0, 1) := by decide +kernel
theorem dX8_asks_1 : decode cX8_asks 1 = .ok (.iconst 0, 1) := by decide +kernel
theorem dX8_asks_2 : decode cX8_asks 2 = .ok (.putfield 1, 3) := by decide +kernel
theorem dX8_asks_5 : decode cX8_asks 5 = .ok (.aload_n 0, 1) := by decide +kernel
theorem dX8_asks_6 : decode cX8_asks 6 = .ok (.iload_n 1, 1) := by decide +kernel
theorem dX8_asks_7 : decode cX8_asks 7 = .ok (.invokevirtual 232, 3) := by decide +kernel
theorem dX8_asks_10 : decode cX8_asks 10 = .ok (.ifCond .eq 14, 3) := by decide +kernel
theorem dX8_asks_13 : decode cX8_asks 13 = .ok (.iload_n 2, 1) := by decide +kernel
theorem dX8_asks_14 : decode cX8_asks 14 = .ok (.iconst 1, 1) := by decide +kernel
theorem dX8_asks_15 : decode cX8_asks 15 = .ok (.sipush 4995, 3) := by decide +kernel
theorem dX8_asks_18 : decode cX8_asks 18 = .ok (.invokestatic 109, 3) := by decide +kernel
theorem dX8_asks_21 : decode cX8_asks 21 = .ok (.ifCond .ne 5, 3) := by decide +kernel
theorem dX8_asks_24 : decode cX8_asks 24 = .ok (.iconst (-1), 1) := by decide +kernel
theorem dX8_asks_25 : decode cX8_asks 25 = .ok (.ireturn, 1) := by decide +kernel
theorem dX8_asks_26 : decode cX8_asks 26 = .ok (.aload_n 0, 1) := by decide +kernel
theorem dX8_asks_27 : decode cX8_asks 27 = .ok (.iconst 0, 1) := by decide +kernel
theorem dX8_asks_28 : decode cX8_asks 28 = .ok (.invokevirtual 263, 3) := by decide +kernel
theorem dX8_asks_31 : decode cX8_asks 31 = .ok (.iconst 4, 1) := by decide +kernel
theorem dX8_asks_32 : decode cX8_asks 32 = .ok (.if_icmp .ne 6, 3) := by decide +kernel
theorem dX8_asks_35 : decode cX8_asks 35 = .ok (.bipush (-2), 2) := by decide +kernel
theorem dX8_asks_37 : decode cX8_asks 37 = .ok (.ireturn, 1) := by decide +kernel
theorem dX8_asks_38 : decode cX8_asks 38 = .ok (.aload_n 0, 1) := by decide +kernel
theorem dX8_asks_39 : decode cX8_asks 39 = .ok (.getfield 70, 3) := by decide +kernel
theorem dX8_asks_42 : decode cX8_asks 42 = .ok (.bipush 13, 2) := by decide +kernel
theorem dX8_asks_44 : decode cX8_asks 44 = .ok (.iaload, 1) := by decide +kernel
theorem dX8_asks_45 : decode cX8_asks 45 = .ok (.bipush 20, 2) := by decide +kernel
theorem dX8_asks_47 : decode cX8_asks 47 = .ok (.if_icmp .ne 6, 3) := by decide +kernel
theorem dX8_asks_50 : decode cX8_asks 50 = .ok (.bipush (-3), 2) := by decide +kernel
theorem dX8_asks_52 : decode cX8_asks 52 = .ok (.ireturn, 1) := by decide +kernel
theorem dX8_asks_53 : decode cX8_asks 53 = .ok (.aload_n 0, 1) := by decide +kernel
theorem dX8_asks_54 : decode cX8_asks 54 = .ok (.invokevirtual 266, 3) := by decide +kernel
theorem dX8_asks_57 : decode cX8_asks 57 = .ok (.aload_n 0, 1) := by decide +kernel
theorem dX8_asks_58 : decode cX8_asks 58 = .ok (.getfield 70, 3) := by decide +kernel
theorem dX8_asks_61 : decode cX8_asks 61 = .ok (.bipush 13, 2) := by decide +kernel
theorem dX8_asks_63 : decode cX8_asks 63 = .ok (.iaload, 1) := by decide +kernel
theorem dX8_asks_64 : decode cX8_asks 64 = .ok (.istore_n 3, 1) := by decide +kernel
theorem dX8_asks_65 : decode cX8_asks 65 = .ok (.bipush 57, 2) := by decide +kernel
theorem dX8_asks_67 : decode cX8_asks 67 = .ok (.iconst 5, 1) := by decide +kernel
theorem dX8_asks_68 : decode cX8_asks 68 = .ok (.iload_n 3, 1) := by decide +kernel
theorem dX8_asks_69 : decode cX8_asks 69 = .ok (.imul, 1) := by decide +kernel
theorem dX8_asks_70 : decode cX8_asks 70 = .ok (.iadd, 1) := by decide +kernel
theorem dX8_asks_71 : decode cX8_asks 71 = .ok (.istore 4, 2) := by decide +kernel
theorem dX8_asks_73 : decode cX8_asks 73 = .ok (.aload_n 0, 1) := by decide +kernel
theorem dX8_asks_74 : decode cX8_asks 74 = .ok (.getfield 70, 3) := by decide +kernel
theorem dX8_asks_77 : decode cX8_asks 77 = .ok (.iload 4, 2) := by decide +kernel
theorem dX8_asks_79 : decode cX8_asks 79 = .ok (.iconst 0, 1) := by decide +kernel
theorem dX8_asks_80 : decode cX8_asks 80 = .ok (.iadd, 1) := by decide +kernel
theorem dX8_asks_81 : decode cX8_asks 81 = .ok (.iload_n 1, 1) := by decide +kernel
theorem dX8_asks_82 : decode cX8_asks 82 = .ok (.iastore, 1) := by decide +kernel
theorem dX8_asks_83 : decode cX8_asks 83 = .ok (.aload_n 0, 1) := by decide +kernel
theorem dX8_asks_84 : decode cX8_asks 84 = .ok (.getfield 70, 3) := by decide +kernel
theorem dX8_asks_87 : decode cX8_asks 87 = .ok (.iload 4, 2) := by decide +kernel
theorem dX8_asks_89 : decode cX8_asks 89 = .ok (.iconst 1, 1) := by decide +kernel
theorem dX8_asks_90 : decode cX8_asks 90 = .ok (.iadd, 1) := by decide +kernel
theorem dX8_asks_91 : decode cX8_asks 91 = .ok (.iload_n 2, 1) := by decide +kernel
theorem dX8_asks_92 : decode cX8_asks 92 = .ok (.iastore, 1) := by decide +kernel
theorem dX8_asks_93 : decode cX8_asks 93 = .ok (.aload_n 0, 1) := by decide +kernel
theorem dX8_asks_94 : decode cX8_asks 94 = .ok (.getfield 70, 3) := by decide +kernel
theorem dX8_asks_97 : decode cX8_asks 97 = .ok (.iload 4, 2) := by decide +kernel
theorem dX8_asks_99 : decode cX8_asks 99 = .ok (.iconst 2, 1) := by decide +kernel
theorem dX8_asks_100 : decode cX8_asks 100 = .ok (.iadd, 1) := by decide +kernel
theorem dX8_asks_101 : decode cX8_asks 101 = .ok (.iconst 0, 1) := by decide +kernel
theorem dX8_asks_102 : decode cX8_asks 102 = .ok (.iastore, 1) := by decide +kernel
theorem dX8_asks_103 : decode cX8_asks 103 = .ok (.aload_n 0, 1) := by decide +kernel
theorem dX8_asks_104 : decode cX8_asks 104 = .ok (.getfield 70, 3) := by decide +kernel
theorem dX8_asks_107 : decode cX8_asks 107 = .ok (.iload 4, 2) := by decide +kernel
theorem dX8_asks_109 : decode cX8_asks 109 = .ok (.iconst 3, 1) := by decide +kernel
theorem dX8_asks_110 : decode cX8_asks 110 = .ok (.iadd, 1) := by decide +kernel
theorem dX8_asks_111 : decode cX8_asks 111 = .ok (.iconst 0, 1) := by decide +kernel
theorem dX8_asks_112 : decode cX8_asks 112 = .ok (.iastore, 1) := by decide +kernel
theorem dX8_asks_113 : decode cX8_asks 113 = .ok (.aload_n 0, 1) := by decide +kernel
theorem dX8_asks_114 : decode cX8_asks 114 = .ok (.getfield 70, 3) := by decide +kernel
theorem dX8_asks_117 : decode cX8_asks 117 = .ok (.iload 4, 2) := by decide +kernel
theorem dX8_asks_119 : decode cX8_asks 119 = .ok (.iconst 4, 1) := by decide +kernel
theorem dX8_asks_120 : decode cX8_asks 120 = .ok (.iadd, 1) := by decide +kernel
theorem dX8_asks_121 : decode cX8_asks 121 = .ok (.iconst 0, 1) := by decide +kernel
theorem dX8_asks_122 : decode cX8_asks 122 = .ok (.iastore, 1) := by decide +kernel
theorem dX8_asks_123 : decode cX8_asks 123 = .ok (.aload_n 0, 1) := by decide +kernel
theorem dX8_asks_124 : decode cX8_asks 124 = .ok (.getfield 70, 3) := by decide +kernel
theorem dX8_asks_127 : decode cX8_asks 127 = .ok (.bipush 13, 2) := by decide +kernel
theorem dX8_asks_129 : decode cX8_asks 129 = .ok (.dup2, 1) := by decide +kernel
theorem dX8_asks_130 : decode cX8_asks 130 = .ok (.iaload, 1) := by decide +kernel
theorem dX8_asks_131 : decode cX8_asks 131 = .ok (.iconst 1, 1) := by decide +kernel
theorem dX8_asks_132 : decode cX8_asks 132 = .ok (.iadd, 1) := by decide +kernel
theorem dX8_asks_133 : decode cX8_asks 133 = .ok (.iastore, 1) := by decide +kernel
theorem dX8_asks_134 : decode cX8_asks 134 = .ok (.iload_n 3, 1) := by decide +kernel
theorem dX8_asks_135 : decode cX8_asks 135 = .ok (.ireturn, 1) := by decide +kernel
set_option maxRecDepth 20000 in
theorem ggX8_cancel_X8_isDrop : GoodIn wsX8_cancel wsX8_isDrop := goodIn_r _ [7, 2, 8, 9, 6, 10, 29, 30, 31, 32, 33, 34, 35, 36, 37, 38, 39, 40, 41, 42, 43, 44, 45, 46, 47, 48, 49, 50, 51, 52, 53, 54, 55, 56] (by decide +kernel) (by decide +kernel)
set_option maxRecDepth 20000 in
theorem gX8_cancel_X8_isDrop : GoodIn wsX8_cancel (wsV RX8 223 RX8 yX8_isDrop wsX8_isDrop) := goodIn_app (goodIn_of _ (by decide +kernel)) ggX8_cancel_X8_isDrop
set_option maxRecDepth 20000 in
theorem ggX8_cancel_X8_its : GoodIn wsX8_cancel wsX8_its := goodIn_r _ [14, 2, 29, 30, 31, 32, 33, 34, 35, 36, 37, 38, 39, 40, 41, 42, 43, 44, 45, 46, 47, 48, 49, 50, 51, 52, 53, 54, 55, 56] (by decide +kernel) (by decide +kernel)
set_option maxRecDepth 20000 in
theorem gX8_cancel_X8_its : GoodIn wsX8_cancel (wsV RX8 180 RX8 yX8_its wsX8_its) := goodIn_app (goodIn_of _ (by decide +kernel)) ggX8_cancel_X8_its
set_option maxRecDepth 20000 in
theorem ggX8_cancel_X8_loadedOf : GoodIn wsX8_cancel wsX8_loadedOf := goodIn_r _ [18, 2, 19, 20, 21, 6, 22, 29, 30, 31, 32, 33, 34, 35, 36, 37, 38, 39, 40, 41, 42, 43, 44, 45, 46, 47, 48, 49, 50, 51, 52, 53, 54, 55, 56] (by decide +kernel) (by decide +kernel)
set_option maxRecDepth 20000 in
theorem gX8_cancel_X8_loadedOf : GoodIn wsX8_cancel (wsV RX8 229 RX8 yX8_loadedOf wsX8_loadedOf) := goodIn_app (goodIn_of _ (by decide +kernel)) ggX8_cancel_X8_loadedOf
set_option maxRecDepth 20000 in
theorem ggX8_cancel_X8_snap : GoodIn wsX8_cancel wsX8_snap := goodIn_r _ [26, 27, 28, 2, 29, 30, 31, 32, 33, 34, 35, 36, 37, 38, 39, 40, 41, 42, 43, 44, 45, 46, 47, 48, 49, 50, 51, 52, 53, 54, 55, 56] (by decide +kernel) (by decide +kernel)
set_option maxRecDepth 20000 in
theorem gX8_cancel_X8_snap : GoodIn wsX8_cancel (wsV RX8 266 RX8 yX8_snap wsX8_snap) := goodIn_app (goodIn_of _ (by decide +kernel)) ggX8_cancel_X8_snap
theorem dX8_cancel_0 : decode cX8_cancel 0 = .ok (.aload_n 0, 1) := by decide +kernel
theorem dX8_cancel_1 : decode cX8_cancel 1 = .ok (.iconst 0, 1) := by decide +kernel
theorem dX8_cancel_2 : decode cX8_cancel 2 = .ok (.putfield 1, 3) := by decide +kernel
theorem dX8_cancel_5 : decode cX8_cancel 5 = .ok (.aload_n 0, 1) := by decide +kernel
theorem dX8_cancel_6 : decode cX8_cancel 6 = .ok (.iload_n 1, 1) := by decide +kernel
theorem dX8_cancel_7 : decode cX8_cancel 7 = .ok (.invokevirtual 223, 3) := by decide +kernel
theorem dX8_cancel_10 : decode cX8_cancel 10 = .ok (.ifCond .eq 20, 3) := by decide +kernel
theorem dX8_cancel_13 : decode cX8_cancel 13 = .ok (.aload_n 0, 1) := by decide +kernel
theorem dX8_cancel_14 : decode cX8_cancel 14 = .ok (.iload_n 1, 1) := by decide +kernel
theorem dX8_cancel_15 : decode cX8_cancel 15 = .ok (.iconst 2, 1) := by decide +kernel
theorem dX8_cancel_16 : decode cX8_cancel 16 = .ok (.invokevirtual 180, 3) := by decide +kernel
theorem dX8_cancel_19 : decode cX8_cancel 19 = .ok (.ifCond .ne 11, 3) := by decide +kernel
theorem dX8_cancel_22 : decode cX8_cancel 22 = .ok (.aload_n 0, 1) := by decide +kernel
theorem dX8_cancel_23 : decode cX8_cancel 23 = .ok (.iload_n 1, 1) := by decide +kernel
theorem dX8_cancel_24 : decode cX8_cancel 24 = .ok (.invokevirtual 229, 3) := by decide +kernel
theorem dX8_cancel_27 : decode cX8_cancel 27 = .ok (.ifCond .le 5, 3) := by decide +kernel
theorem dX8_cancel_30 : decode cX8_cancel 30 = .ok (.iconst 0, 1) := by decide +kernel
theorem dX8_cancel_31 : decode cX8_cancel 31 = .ok (.ireturn, 1) := by decide +kernel
theorem dX8_cancel_32 : decode cX8_cancel 32 = .ok (.aload_n 0, 1) := by decide +kernel
theorem dX8_cancel_33 : decode cX8_cancel 33 = .ok (.invokevirtual 266, 3) := by decide +kernel
theorem dX8_cancel_36 : decode cX8_cancel 36 = .ok (.aload_n 0, 1) := by decide +kernel
theorem dX8_cancel_37 : decode cX8_cancel 37 = .ok (.getfield 70, 3) := by decide +kernel
theorem dX8_cancel_40 : decode cX8_cancel 40 = .ok (.bipush 57, 2) := by decide +kernel
theorem dX8_cancel_42 : decode cX8_cancel 42 = .ok (.iconst 5, 1) := by decide +kernel
theorem dX8_cancel_43 : decode cX8_cancel 43 = .ok (.iload_n 1, 1) := by decide +kernel
theorem dX8_cancel_44 : decode cX8_cancel 44 = .ok (.imul, 1) := by decide +kernel
theorem dX8_cancel_45 : decode cX8_cancel 45 = .ok (.iadd, 1) := by decide +kernel
theorem dX8_cancel_46 : decode cX8_cancel 46 = .ok (.iconst 2, 1) := by decide +kernel
theorem dX8_cancel_47 : decode cX8_cancel 47 = .ok (.iadd, 1) := by decide +kernel
theorem dX8_cancel_48 : decode cX8_cancel 48 = .ok (.iconst 3, 1) := by decide +kernel
theorem dX8_cancel_49 : decode cX8_cancel 49 = .ok (.iastore, 1) := by decide +kernel
theorem dX8_cancel_50 : decode cX8_cancel 50 = .ok (.iconst 1, 1) := by decide +kernel
theorem dX8_cancel_51 : decode cX8_cancel 51 = .ok (.ireturn, 1) := by decide +kernel
set_option maxRecDepth 20000 in
theorem ggX8_puts_X8_its : GoodIn wsX8_puts wsX8_its := goodIn_r _ [6, 1, 15, 16, 17, 18, 19, 20, 21, 22, 23, 24, 25, 26, 27, 28, 29, 30, 31, 32, 33, 34, 35, 36, 37, 38, 39, 40, 41, 42] (by decide +kernel) (by decide +kernel)
set_option maxRecDepth 20000 in
theorem gX8_puts_X8_its : GoodIn wsX8_puts (wsV RX8 180 RX8 yX8_its wsX8_its) := goodIn_app (goodIn_of _ (by decide +kernel)) ggX8_puts_X8_its
set_option maxRecDepth 20000 in
theorem ggX8_puts_X8_loadedOf : GoodIn wsX8_puts wsX8_loadedOf := goodIn_r _ [10, 1, 11, 12, 13, 5, 14, 15, 16, 17, 18, 19, 20, 21, 22, 23, 24, 25, 26, 27, 28, 29, 30, 31, 32, 33, 34, 35, 36, 37, 38, 39, 40, 41, 42] (by decide +kernel) (by decide +kernel)
set_option maxRecDepth 20000 in
theorem gX8_puts_X8_loadedOf : GoodIn wsX8_puts (wsV RX8 229 RX8 yX8_loadedOf wsX8_loadedOf) := goodIn_app (goodIn_of _ (by decide +kernel)) ggX8_puts_X8_loadedOf
theorem dX8_puts_0 : decode cX8_puts 0 = .ok (.aload_n 0, 1) := by decide +kernel
theorem dX8_puts_1 : decode cX8_puts 1 = .ok (.getfield 70, 3) := by decide +kernel
theorem dX8_puts_4 : decode cX8_puts 4 = .ok (.bipush 27, 2) := by decide +kernel
theorem dX8_puts_6 : decode cX8_puts 6 = .ok (.bipush 6, 2) := by decide +kernel
theorem dX8_puts_8 : decode cX8_puts 8 = .ok (.iload_n 1, 1) := by decide +kernel
theorem dX8_puts_9 : decode cX8_puts 9 = .ok (.imul, 1) := by decide +kernel
theorem dX8_puts_10 : decode cX8_puts 10 = .ok (.iadd, 1) := by decide +kernel
theorem dX8_puts_11 : decode cX8_puts 11 = .ok (.iconst 3, 1) := by decide +kernel
theorem dX8_puts_12 : decode cX8_puts 12 = .ok (.iadd, 1) := by decide +kernel
theorem dX8_puts_13 : decode cX8_puts 13 = .ok (.iload_n 3, 1) := by decide +kernel
theorem dX8_puts_14 : decode cX8_puts 14 = .ok (.iastore, 1) := by decide +kernel
theorem dX8_puts_15 : decode cX8_puts 15 = .ok (.aload_n 0, 1) := by decide +kernel
theorem dX8_puts_16 : decode cX8_puts 16 = .ok (.getfield 70, 3) := by decide +kernel
theorem dX8_puts_19 : decode cX8_puts 19 = .ok (.bipush 27, 2) := by decide +kernel
theorem dX8_puts_21 : decode cX8_puts 21 = .ok (.bipush 6, 2) := by decide +kernel
theorem dX8_puts_23 : decode cX8_puts 23 = .ok (.iload_n 1, 1) := by decide +kernel
theorem dX8_puts_24 : decode cX8_puts 24 = .ok (.imul, 1) := by decide +kernel
theorem dX8_puts_25 : decode cX8_puts 25 = .ok (.iadd, 1) := by decide +kernel
theorem dX8_puts_26 : decode cX8_puts 26 = .ok (.iconst 4, 1) := by decide +kernel
theorem dX8_puts_27 : decode cX8_puts 27 = .ok (.iadd, 1) := by decide +kernel
theorem dX8_puts_28 : decode cX8_puts 28 = .ok (.iload_n 2, 1) := by decide +kernel
theorem dX8_puts_29 : decode cX8_puts 29 = .ok (.iconst 1, 1) := by decide +kernel
theorem dX8_puts_30 : decode cX8_puts 30 = .ok (.iadd, 1) := by decide +kernel
theorem dX8_puts_31 : decode cX8_puts 31 = .ok (.iastore, 1) := by decide +kernel
theorem dX8_puts_32 : decode cX8_puts 32 = .ok (.aload_n 0, 1) := by decide +kernel
theorem dX8_puts_33 : decode cX8_puts 33 = .ok (.getfield 70, 3) := by decide +kernel
theorem dX8_puts_36 : decode cX8_puts 36 = .ok (.bipush 27, 2) := by decide +kernel
theorem dX8_puts_38 : decode cX8_puts 38 = .ok (.bipush 6, 2) := by decide +kernel
theorem dX8_puts_40 : decode cX8_puts 40 = .ok (.iload_n 1, 1) := by decide +kernel
theorem dX8_puts_41 : decode cX8_puts 41 = .ok (.imul, 1) := by decide +kernel
theorem dX8_puts_42 : decode cX8_puts 42 = .ok (.iadd, 1) := by decide +kernel
theorem dX8_puts_43 : decode cX8_puts 43 = .ok (.iconst 5, 1) := by decide +kernel
theorem dX8_puts_44 : decode cX8_puts 44 = .ok (.iadd, 1) := by decide +kernel
theorem dX8_puts_45 : decode cX8_puts 45 = .ok (.aload_n 0, 1) := by decide +kernel
theorem dX8_puts_46 : decode cX8_puts 46 = .ok (.iload_n 2, 1) := by decide +kernel
theorem dX8_puts_47 : decode cX8_puts 47 = .ok (.iconst 0, 1) := by decide +kernel
theorem dX8_puts_48 : decode cX8_puts 48 = .ok (.invokevirtual 180, 3) := by decide +kernel
theorem dX8_puts_51 : decode cX8_puts 51 = .ok (.iconst 1, 1) := by decide +kernel
theorem dX8_puts_52 : decode cX8_puts 52 = .ok (.iadd, 1) := by decide +kernel
theorem dX8_puts_53 : decode cX8_puts 53 = .ok (.iastore, 1) := by decide +kernel
theorem dX8_puts_54 : decode cX8_puts 54 = .ok (.aload_n 0, 1) := by decide +kernel
theorem dX8_puts_55 : decode cX8_puts 55 = .ok (.iload_n 2, 1) := by decide +kernel
theorem dX8_puts_56 : decode cX8_puts 56 = .ok (.invokevirtual 229, 3) := by decide +kernel
theorem dX8_puts_59 : decode cX8_puts 59 = .ok (.aload_n 0, 1) := by decide +kernel
theorem dX8_puts_60 : decode cX8_puts 60 = .ok (.iload_n 2, 1) := by decide +kernel
theorem dX8_puts_61 : decode cX8_puts 61 = .ok (.iconst 1, 1) := by decide +kernel
theorem dX8_puts_62 : decode cX8_puts 62 = .ok (.invokevirtual 180, 3) := by decide +kernel
theorem dX8_puts_65 : decode cX8_puts 65 = .ok (.if_icmp .ne 17, 3) := by decide +kernel
theorem dX8_puts_68 : decode cX8_puts 68 = .ok (.aload_n 0, 1) := by decide +kernel
theorem dX8_puts_69 : decode cX8_puts 69 = .ok (.getfield 70, 3) := by decide +kernel
theorem dX8_puts_72 : decode cX8_puts 72 = .ok (.bipush 57, 2) := by decide +kernel
theorem dX8_puts_74 : decode cX8_puts 74 = .ok (.iconst 5, 1) := by decide +kernel
theorem dX8_puts_75 : decode cX8_puts 75 = .ok (.iload_n 2, 1) := by decide +kernel
theorem dX8_puts_76 : decode cX8_puts 76 = .ok (.imul, 1) := by decide +kernel
theorem dX8_puts_77 : decode cX8_puts 77 = .ok (.iadd, 1) := by decide +kernel
theorem dX8_puts_78 : decode cX8_puts 78 = .ok (.iconst 2, 1) := by decide +kernel
theorem dX8_puts_79 : decode cX8_puts 79 = .ok (.iadd, 1) := by decide +kernel
theorem dX8_puts_80 : decode cX8_puts 80 = .ok (.iconst 1, 1) := by decide +kernel
theorem dX8_puts_81 : decode cX8_puts 81 = .ok (.iastore, 1) := by decide +kernel
theorem dX8_puts_82 : decode cX8_puts 82 = .ok (.return_, 1) := by decide +kernel
set_option maxRecDepth 20000 in
theorem ggX8_put_X8_isHold : GoodIn wsX8_put wsX8_isHold := goodIn_r _ [6, 7, 8, 9, 5, 10, 52, 53, 54, 55, 56, 57, 58, 59, 60, 61, 62, 63, 64, 65, 66, 67, 68, 69, 70, 71, 72, 73, 74, 75, 76, 77, 78, 79] (by decide +kernel) (by decide +kernel)
set_option maxRecDepth 20000 in
theorem gX8_put_X8_isHold : GoodIn wsX8_put (wsV RX8 217 RX8 yX8_isHold wsX8_isHold) := goodIn_app (goodIn_of _ (by decide +kernel)) ggX8_put_X8_isHold
set_option maxRecDepth 20000 in
theorem ggX8_put_X8_isDrop : GoodIn wsX8_put wsX8_isDrop := goodIn_r _ [14, 7, 8, 9, 5, 10, 52, 53, 54, 55, 56, 57, 58, 59, 60, 61, 62, 63, 64, 65, 66, 67, 68, 69, 70, 71, 72, 73, 74, 75, 76, 77, 78, 79] (by decide +kernel) (by decide +kernel)
set_option maxRecDepth 20000 in
theorem gX8_put_X8_isDrop : GoodIn wsX8_put (wsV RX8 223 RX8 yX8_isDrop wsX8_isDrop) := goodIn_app (goodIn_of _ (by decide +kernel)) ggX8_put_X8_isDrop
set_option maxRecDepth 20000 in
theorem ggX8_put_X8_its : GoodIn wsX8_put wsX8_its := goodIn_r _ [18, 7, 52, 53, 54, 55, 56, 57, 58, 59, 60, 61, 62, 63, 64, 65, 66, 67, 68, 69, 70, 71, 72, 73, 74, 75, 76, 77, 78, 79] (by decide +kernel) (by decide +kernel)
set_option maxRecDepth 20000 in
theorem gX8_put_X8_its : GoodIn wsX8_put (wsV RX8 180 RX8 yX8_its wsX8_its) := goodIn_app (goodIn_of _ (by decide +kernel)) ggX8_put_X8_its
set_option maxRecDepth 20000 in
theorem ggX8_put_X8_holds : GoodIn wsX8_put wsX8_holds := goodIn_r _ [22, 7, 52, 53, 54, 55, 56, 57, 58, 59, 60, 61, 62, 63, 64, 65, 66, 67, 68, 69, 70, 71, 72, 73, 74, 75, 76, 77, 78, 79] (by decide +kernel) (by decide +kernel)
set_option maxRecDepth 20000 in
theorem gX8_put_X8_holds : GoodIn wsX8_put (wsV RX8 176 RX8 yX8_holds wsX8_holds) := goodIn_app (goodIn_of _ (by decide +kernel)) ggX8_put_X8_holds
set_option maxRecDepth 20000 in
theorem ggX8_put_X8_mayCome : GoodIn wsX8_put wsX8_mayCome := goodIn_r _ [26, 7, 27, 28, 5, 29, 30, 31, 32, 33, 19, 20, 21, 22, 15, 16, 17, 18, 52, 53, 54, 55, 56, 57, 58, 59, 60, 61, 62, 63, 64, 65, 66, 67, 68, 69, 70, 71, 72, 73, 74, 75, 76, 77, 78, 79] (by decide +kernel) (by decide +kernel)
set_option maxRecDepth 20000 in
theorem gX8_put_X8_mayCome : GoodIn wsX8_put (wsV RX8 235 RX8 yX8_mayCome wsX8_mayCome) := goodIn_app (goodIn_of _ (by decide +kernel)) ggX8_put_X8_mayCome
set_option maxRecDepth 20000 in
theorem ggX8_put_X8_top : GoodIn wsX8_put wsX8_top := goodIn_r _ [37, 7, 19, 20, 21, 5, 22, 52, 53, 54, 55, 56, 57, 58, 59, 60, 61, 62, 63, 64, 65, 66, 67, 68, 69, 70, 71, 72, 73, 74, 75, 76, 77, 78, 79] (by decide +kernel) (by decide +kernel)
set_option maxRecDepth 20000 in
theorem gX8_put_X8_top : GoodIn wsX8_put (wsV RX8 220 RX8 yX8_top wsX8_top) := goodIn_app (goodIn_of _ (by decide +kernel)) ggX8_put_X8_top
set_option maxRecDepth 20000 in
theorem ggX8_put_X8_snap : GoodIn wsX8_put wsX8_snap := goodIn_r _ [41, 42, 43, 7, 52, 53, 54, 55, 56, 57, 58, 59, 60, 61, 62, 63, 64, 65, 66, 67, 68, 69, 70, 71, 72, 73, 74, 75, 76, 77, 78, 79] (by decide +kernel) (by decide +kernel)
set_option maxRecDepth 20000 in
theorem gX8_put_X8_snap : GoodIn wsX8_put (wsV RX8 266 RX8 yX8_snap wsX8_snap) := goodIn_app (goodIn_of _ (by decide +kernel)) ggX8_put_X8_snap
set_option maxRecDepth 20000 in
theorem ggX8_put_X8_loadedOf : GoodIn wsX8_put wsX8_loadedOf := goodIn_r _ [47, 7, 19, 20, 21, 5, 22, 52, 53, 54, 55, 56, 57, 58, 59, 60, 61, 62, 63, 64, 65, 66, 67, 68, 69, 70, 71, 72, 73, 74, 75, 76, 77, 78, 79] (by decide +kernel) (by decide +kernel)
set_option maxRecDepth 20000 in
theorem gX8_put_X8_loadedOf : GoodIn wsX8_put (wsV RX8 229 RX8 yX8_loadedOf wsX8_loadedOf) := goodIn_app (goodIn_of _ (by decide +kernel)) ggX8_put_X8_loadedOf
set_option maxRecDepth 20000 in
theorem ggX8_put_X8_puts : GoodIn wsX8_put wsX8_puts := goodIn_r _ [51, 7, 15, 16, 17, 5, 18, 44, 45, 46, 47, 19, 20, 21, 22, 52, 53, 54, 55, 56, 57, 58, 59, 60, 61, 62, 63, 64, 65, 66, 67, 68, 69, 70, 71, 72, 73, 74, 75, 76, 77, 78, 79] (by decide +kernel) (by decide +kernel)
set_option maxRecDepth 20000 in
theorem gX8_put_X8_puts : GoodIn wsX8_put (wsV RX8 269 RX8 yX8_puts wsX8_puts) := goodIn_app (goodIn_of _ (by decide +kernel)) ggX8_put_X8_puts
theorem dX8_put_0 : decode cX8_put 0 = .ok (.aload_n 0, 1) := by decide +kernel
theorem dX8_put_1 : decode cX8_put 1 = .ok (.iconst 0, 1) := by decide +kernel
theorem dX8_put_2 : decode cX8_put 2 = .ok (.putfield 1, 3) := by decide +kernel
theorem dX8_put_5 : decode cX8_put 5 = .ok (.aload_n 0, 1) := by decide +kernel
theorem dX8_put_6 : decode cX8_put 6 = .ok (.iload_n 1, 1) := by decide +kernel
theorem dX8_put_7 : decode cX8_put 7 = .ok (.invokevirtual 217, 3) := by decide +kernel
theorem dX8_put_10 : decode cX8_put 10 = .ok (.ifCond .eq 20, 3) := by decide +kernel
theorem dX8_put_13 : decode cX8_put 13 = .ok (.aload_n 0, 1) := by decide +kernel
theorem dX8_put_14 : decode cX8_put 14 = .ok (.iload_n 2, 1) := by decide +kernel
theorem dX8_put_15 : decode cX8_put 15 = .ok (.invokevirtual 223, 3) := by decide +kernel
theorem dX8_put_18 : decode cX8_put 18 = .ok (.ifCond .eq 12, 3) := by decide +kernel
theorem dX8_put_21 : decode cX8_put 21 = .ok (.aload_n 0, 1) := by decide +kernel
theorem dX8_put_22 : decode cX8_put 22 = .ok (.iload_n 2, 1) := by decide +kernel
theorem dX8_put_23 : decode cX8_put 23 = .ok (.iconst 2, 1) := by decide +kernel
theorem dX8_put_24 : decode cX8_put 24 = .ok (.invokevirtual 180, 3) := by decide +kernel
theorem dX8_put_27 : decode cX8_put 27 = .ok (.ifCond .eq 5, 3) := by decide +kernel
theorem dX8_put_30 : decode cX8_put 30 = .ok (.iconst (-1), 1) := by decide +kernel
theorem dX8_put_31 : decode cX8_put 31 = .ok (.ireturn, 1) := by decide +kernel
theorem dX8_put_32 : decode cX8_put 32 = .ok (.aload_n 0, 1) := by decide +kernel
theorem dX8_put_33 : decode cX8_put 33 = .ok (.iload_n 1, 1) := by decide +kernel
theorem dX8_put_34 : decode cX8_put 34 = .ok (.iconst 4, 1) := by decide +kernel
theorem dX8_put_35 : decode cX8_put 35 = .ok (.invokevirtual 176, 3) := by decide +kernel
theorem dX8_put_38 : decode cX8_put 38 = .ok (.ifCond .le 6, 3) := by decide +kernel
theorem dX8_put_41 : decode cX8_put 41 = .ok (.bipush (-2), 2) := by decide +kernel
theorem dX8_put_43 : decode cX8_put 43 = .ok (.ireturn, 1) := by decide +kernel
theorem dX8_put_44 : decode cX8_put 44 = .ok (.aload_n 0, 1) := by decide +kernel
theorem dX8_put_45 : decode cX8_put 45 = .ok (.iload_n 1, 1) := by decide +kernel
theorem dX8_put_46 : decode cX8_put 46 = .ok (.aload_n 0, 1) := by decide +kernel
theorem dX8_put_47 : decode cX8_put 47 = .ok (.iload_n 2, 1) := by decide +kernel
theorem dX8_put_48 : decode cX8_put 48 = .ok (.iconst 0, 1) := by decide +kernel
theorem dX8_put_49 : decode cX8_put 49 = .ok (.invokevirtual 180, 3) := by decide +kernel
theorem dX8_put_52 : decode cX8_put 52 = .ok (.iconst 0, 1) := by decide +kernel
theorem dX8_put_53 : decode cX8_put 53 = .ok (.invokevirtual 235, 3) := by decide +kernel
theorem dX8_put_56 : decode cX8_put 56 = .ok (.ifCond .ne 6, 3) := by decide +kernel
theorem dX8_put_59 : decode cX8_put 59 = .ok (.bipush (-3), 2) := by decide +kernel
theorem dX8_put_61 : decode cX8_put 61 = .ok (.ireturn, 1) := by decide +kernel
theorem dX8_put_62 : decode cX8_put 62 = .ok (.aload_n 0, 1) := by decide +kernel
theorem dX8_put_63 : decode cX8_put 63 = .ok (.iload_n 1, 1) := by decide +kernel
theorem dX8_put_64 : decode cX8_put 64 = .ok (.invokevirtual 220, 3) := by decide +kernel
theorem dX8_put_67 : decode cX8_put 67 = .ok (.ifCond .ne 6, 3) := by decide +kernel
theorem dX8_put_70 : decode cX8_put 70 = .ok (.bipush (-4), 2) := by decide +kernel
theorem dX8_put_72 : decode cX8_put 72 = .ok (.ireturn, 1) := by decide +kernel
theorem dX8_put_73 : decode cX8_put 73 = .ok (.aload_n 0, 1) := by decide +kernel
theorem dX8_put_74 : decode cX8_put 74 = .ok (.invokevirtual 266, 3) := by decide +kernel
theorem dX8_put_77 : decode cX8_put 77 = .ok (.aload_n 0, 1) := by decide +kernel
theorem dX8_put_78 : decode cX8_put 78 = .ok (.iload_n 2, 1) := by decide +kernel
theorem dX8_put_79 : decode cX8_put 79 = .ok (.iconst 1, 1) := by decide +kernel
theorem dX8_put_80 : decode cX8_put 80 = .ok (.invokevirtual 180, 3) := by decide +kernel
theorem dX8_put_83 : decode cX8_put 83 = .ok (.aload_n 0, 1) := by decide +kernel
theorem dX8_put_84 : decode cX8_put 84 = .ok (.iload_n 2, 1) := by decide +kernel
theorem dX8_put_85 : decode cX8_put 85 = .ok (.invokevirtual 229, 3) := by decide +kernel
theorem dX8_put_88 : decode cX8_put 88 = .ok (.isub, 1) := by decide +kernel
theorem dX8_put_89 : decode cX8_put 89 = .ok (.istore_n 3, 1) := by decide +kernel
theorem dX8_put_90 : decode cX8_put 90 = .ok (.iload_n 3, 1) := by decide +kernel
theorem dX8_put_91 : decode cX8_put 91 = .ok (.aload_n 0, 1) := by decide +kernel
theorem dX8_put_92 : decode cX8_put 92 = .ok (.iload_n 1, 1) := by decide +kernel
theorem dX8_put_93 : decode cX8_put 93 = .ok (.invokevirtual 220, 3) := by decide +kernel
theorem dX8_put_96 : decode cX8_put 96 = .ok (.if_icmp .ge 7, 3) := by decide +kernel
theorem dX8_put_99 : decode cX8_put 99 = .ok (.iload_n 3, 1) := by decide +kernel
theorem dX8_put_100 : decode cX8_put 100 = .ok (.goto 8, 3) := by decide +kernel
theorem dX8_put_103 : decode cX8_put 103 = .ok (.aload_n 0, 1) := by decide +kernel
theorem dX8_put_104 : decode cX8_put 104 = .ok (.iload_n 1, 1) := by decide +kernel
theorem dX8_put_105 : decode cX8_put 105 = .ok (.invokevirtual 220, 3) := by decide +kernel
theorem dX8_put_108 : decode cX8_put 108 = .ok (.istore 4, 2) := by decide +kernel
theorem dX8_put_110 : decode cX8_put 110 = .ok (.aload_n 0, 1) := by decide +kernel
theorem dX8_put_111 : decode cX8_put 111 = .ok (.iload_n 1, 1) := by decide +kernel
theorem dX8_put_112 : decode cX8_put 112 = .ok (.iload_n 2, 1) := by decide +kernel
theorem dX8_put_113 : decode cX8_put 113 = .ok (.iload 4, 2) := by decide +kernel
theorem dX8_put_115 : decode cX8_put 115 = .ok (.invokevirtual 269, 3) := by decide +kernel
theorem dX8_put_118 : decode cX8_put 118 = .ok (.iload 4, 2) := by decide +kernel
theorem dX8_put_120 : decode cX8_put 120 = .ok (.ireturn, 1) := by decide +kernel
set_option maxRecDepth 20000 in
theorem ggX8_load_X8_laysPlan : GoodIn wsX8_load wsX8_laysPlan := goodIn_r _ [10, 2, 11, 12, 4, 5, 13, 14, 15, 9, 16, 3, 17, 18, 19, 20, 21, 22, 23, 24, 25, 26, 27, 28, 29, 30, 31, 32, 33, 34, 35, 36, 37, 38, 39, 40, 41, 42, 43, 44, 45, 46, 47, 48, 49, 50, 51, 52, 53, 54, 55, 56, 57, 58, 59, 60, 61, 62, 63, 64, 65, 66, 67, 68, 69, 70, 71, 72, 73, 74, 75, 76, 77, 78, 79, 80, 81, 82, 83, 84, 85, 86, 87, 88, 89, 90, 101, 102, 103, 104, 105, 106, 107, 108, 109, 110, 111, 112, 113, 114, 115, 116, 117, 118, 119, 120, 121, 122, 123, 124, 125, 126, 127, 128] (by decide +kernel) (by decide +kernel)
set_option maxRecDepth 20000 in
theorem gX8_load_X8_laysPlan : GoodIn wsX8_load (wsV RX8 260 RX8 yX8_laysPlan wsX8_laysPlan) := goodIn_app (goodIn_of _ (by decide +kernel)) ggX8_load_X8_laysPlan
set_option maxRecDepth 20000 in
theorem ggX8_load_X8_snap : GoodIn wsX8_load wsX8_snap := goodIn_r _ [94, 95, 96, 3, 101, 102, 103, 104, 105, 106, 107, 108, 109, 110, 111, 112, 113, 114, 115, 116, 117, 118, 119, 120, 121, 122, 123, 124, 125, 126, 127, 128] (by decide +kernel) (by decide +kernel)
set_option maxRecDepth 20000 in
theorem gX8_load_X8_snap : GoodIn wsX8_load (wsV RX8 266 RX8 yX8_snap wsX8_snap) := goodIn_app (goodIn_of _ (by decide +kernel)) ggX8_load_X8_snap
set_option maxRecDepth 20000 in
theorem ggX8_load_X8_puts : GoodIn wsX8_load wsX8_puts := goodIn_r _ [100, 3, 29, 30, 31, 9, 32, 33, 34, 35, 36, 37, 38, 39, 40, 101, 102, 103, 104, 105, 106, 107, 108, 109, 110, 111, 112, 113, 114, 115, 116, 117, 118, 119, 120, 121, 122, 123, 124, 125, 126, 127, 128] (by decide +kernel) (by decide +kernel)
set_option maxRecDepth 20000 in
theorem gX8_load_X8_puts : GoodIn wsX8_load (wsV RX8 269 RX8 yX8_puts wsX8_puts) := goodIn_app (goodIn_of _ (by decide +kernel)) ggX8_load_X8_puts
theorem dX8_load_0 : decode cX8_load 0 = .ok (.aload_n 0, 1) := by decide +kernel
theorem dX8_load_1 : decode cX8_load 1 = .ok (.iconst 0, 1) := by decide +kernel
theorem dX8_load_2 : decode cX8_load 2 = .ok (.putfield 1, 3) := by decide +kernel
theorem dX8_load_5 : decode cX8_load 5 = .ok (.aload_n 0, 1) := by decide +kernel
theorem dX8_load_6 : decode cX8_load 6 = .ok (.iconst 0, 1) := by decide +kernel
theorem dX8_load_7 : decode cX8_load 7 = .ok (.invokevirtual 260, 3) := by decide +kernel
theorem dX8_load_10 : decode cX8_load 10 = .ok (.aload_n 0, 1) := by decide +kernel
theorem dX8_load_11 : decode cX8_load 11 = .ok (.getfield 247, 3) := by decide +kernel
theorem dX8_load_14 : decode cX8_load 14 = .ok (.iconst (-1), 1) := by decide +kernel
theorem dX8_load_15 : decode cX8_load 15 = .ok (.if_icmp .ne 6, 3) := by decide +kernel
theorem dX8_load_18 : decode cX8_load 18 = .ok (.bipush (-2), 2) := by decide +kernel
theorem dX8_load_20 : decode cX8_load 20 = .ok (.ireturn, 1) := by decide +kernel
theorem dX8_load_21 : decode cX8_load 21 = .ok (.aload_n 0, 1) := by decide +kernel
theorem dX8_load_22 : decode cX8_load 22 = .ok (.getfield 247, 3) := by decide +kernel
theorem dX8_load_25 : decode cX8_load 25 = .ok (.ifCond .ne 5, 3) := by decide +kernel
theorem dX8_load_28 : decode cX8_load 28 = .ok (.iconst (-1), 1) := by decide +kernel
theorem dX8_load_29 : decode cX8_load 29 = .ok (.ireturn, 1) := by decide +kernel
theorem dX8_load_30 : decode cX8_load 30 = .ok (.aload_n 0, 1) := by decide +kernel
theorem dX8_load_31 : decode cX8_load 31 = .ok (.invokevirtual 266, 3) := by decide +kernel
theorem dX8_load_34 : decode cX8_load 34 = .ok (.iconst 0, 1) := by decide +kernel
theorem dX8_load_35 : decode cX8_load 35 = .ok (.istore_n 1, 1) := by decide +kernel
theorem dX8_load_36 : decode cX8_load 36 = .ok (.iload_n 1, 1) := by decide +kernel
theorem dX8_load_37 : decode cX8_load 37 = .ok (.aload_n 0, 1) := by decide +kernel
theorem dX8_load_38 : decode cX8_load 38 = .ok (.getfield 70, 3) := by decide +kernel
theorem dX8_load_41 : decode cX8_load 41 = .ok (.bipush 9, 2) := by decide +kernel
theorem dX8_load_43 : decode cX8_load 43 = .ok (.iaload, 1) := by decide +kernel
theorem dX8_load_44 : decode cX8_load 44 = .ok (.if_icmp .ge 36, 3) := by decide +kernel
theorem dX8_load_47 : decode cX8_load 47 = .ok (.aload_n 0, 1) := by decide +kernel
theorem dX8_load_48 : decode cX8_load 48 = .ok (.getfield 100, 3) := by decide +kernel
theorem dX8_load_51 : decode cX8_load 51 = .ok (.iload_n 1, 1) := by decide +kernel
theorem dX8_load_52 : decode cX8_load 52 = .ok (.iaload, 1) := by decide +kernel
theorem dX8_load_53 : decode cX8_load 53 = .ok (.iconst (-1), 1) := by decide +kernel
theorem dX8_load_54 : decode cX8_load 54 = .ok (.if_icmp .eq 20, 3) := by decide +kernel
theorem dX8_load_57 : decode cX8_load 57 = .ok (.aload_n 0, 1) := by decide +kernel
theorem dX8_load_58 : decode cX8_load 58 = .ok (.iload_n 1, 1) := by decide +kernel
theorem dX8_load_59 : decode cX8_load 59 = .ok (.aload_n 0, 1) := by decide +kernel
theorem dX8_load_60 : decode cX8_load 60 = .ok (.getfield 100, 3) := by decide +kernel
theorem dX8_load_63 : decode cX8_load 63 = .ok (.iload_n 1, 1) := by decide +kernel
theorem dX8_load_64 : decode cX8_load 64 = .ok (.iaload, 1) := by decide +kernel
theorem dX8_load_65 : decode cX8_load 65 = .ok (.aload_n 0, 1) := by decide +kernel
theorem dX8_load_66 : decode cX8_load 66 = .ok (.getfield 103, 3) := by decide +kernel
theorem dX8_load_69 : decode cX8_load 69 = .ok (.iload_n 1, 1) := by decide +kernel
theorem dX8_load_70 : decode cX8_load 70 = .ok (.iaload, 1) := by decide +kernel
theorem dX8_load_71 : decode cX8_load 71 = .ok (.invokevirtual 269, 3) := by decide +kernel
theorem dX8_load_74 : decode cX8_load 74 = .ok (.iinc 1 1, 3) := by decide +kernel
theorem dX8_load_77 : decode cX8_load 77 = .ok (.goto (-41), 3) := by decide +kernel
theorem dX8_load_80 : decode cX8_load 80 = .ok (.aload_n 0, 1) := by decide +kernel
theorem dX8_load_81 : decode cX8_load 81 = .ok (.getfield 247, 3) := by decide +kernel
theorem dX8_load_84 : decode cX8_load 84 = .ok (.ireturn, 1) := by decide +kernel
theorem dX8_goes_0 : decode cX8_goes 0 = .ok (.aload_n 0, 1) := by decide +kernel
theorem dX8_goes_1 : decode cX8_goes 1 = .ok (.getfield 70, 3) := by decide +kernel
theorem dX8_goes_4 : decode cX8_goes 4 = .ok (.bipush 27, 2) := by decide +kernel
theorem dX8_goes_6 : decode cX8_goes 6 = .ok (.bipush 6, 2) := by decide +kernel
theorem dX8_goes_8 : decode cX8_goes 8 = .ok (.iload_n 1, 1) := by decide +kernel
theorem dX8_goes_9 : decode cX8_goes 9 = .ok (.imul, 1) := by decide +kernel
theorem dX8_goes_10 : decode cX8_goes 10 = .ok (.iadd, 1) := by decide +kernel
theorem dX8_goes_11 : decode cX8_goes 11 = .ok (.iconst 3, 1) := by decide +kernel
theorem dX8_goes_12 : decode cX8_goes 12 = .ok (.iadd, 1) := by decide +kernel
theorem dX8_goes_13 : decode cX8_goes 13 = .ok (.iconst 0, 1) := by decide +kernel
theorem dX8_goes_14 : decode cX8_goes 14 = .ok (.iastore, 1) := by decide +kernel
theorem dX8_goes_15 : decode cX8_goes 15 = .ok (.aload_n 0, 1) := by decide +kernel
theorem dX8_goes_16 : decode cX8_goes 16 = .ok (.getfield 70, 3) := by decide +kernel
theorem dX8_goes_19 : decode cX8_goes 19 = .ok (.bipush 27, 2) := by decide +kernel
theorem dX8_goes_21 : decode cX8_goes 21 = .ok (.bipush 6, 2) := by decide +kernel
theorem dX8_goes_23 : decode cX8_goes 23 = .ok (.iload_n 1, 1) := by decide +kernel
theorem dX8_goes_24 : decode cX8_goes 24 = .ok (.imul, 1) := by decide +kernel
theorem dX8_goes_25 : decode cX8_goes 25 = .ok (.iadd, 1) := by decide +kernel
theorem dX8_goes_26 : decode cX8_goes 26 = .ok (.iconst 4, 1) := by decide +kernel
theorem dX8_goes_27 : decode cX8_goes 27 = .ok (.iadd, 1) := by decide +kernel
theorem dX8_goes_28 : decode cX8_goes 28 = .ok (.iconst 0, 1) := by decide +kernel
theorem dX8_goes_29 : decode cX8_goes 29 = .ok (.iastore, 1) := by decide +kernel
theorem dX8_goes_30 : decode cX8_goes 30 = .ok (.return_, 1) := by decide +kernel
set_option maxRecDepth 20000 in
theorem ggX8_unload_X8_isDrop : GoodIn wsX8_unload wsX8_isDrop := goodIn_r _ [7, 2, 8, 9, 6, 10, 59, 60, 61, 62, 63, 64, 65, 66, 67, 68, 69, 70, 71, 72, 73, 74, 75, 76, 77, 78, 79, 80, 81, 82, 83, 84, 85, 86] (by decide +kernel) (by decide +kernel)
set_option maxRecDepth 20000 in
theorem gX8_unload_X8_isDrop : GoodIn wsX8_unload (wsV RX8 223 RX8 yX8_isDrop wsX8_isDrop) := goodIn_app (goodIn_of _ (by decide +kernel)) ggX8_unload_X8_isDrop
set_option maxRecDepth 20000 in
theorem ggX8_unload_X8_its : GoodIn wsX8_unload wsX8_its := goodIn_r _ [14, 2, 59, 60, 61, 62, 63, 64, 65, 66, 67, 68, 69, 70, 71, 72, 73, 74, 75, 76, 77, 78, 79, 80, 81, 82, 83, 84, 85, 86] (by decide +kernel) (by decide +kernel)
set_option maxRecDepth 20000 in
theorem gX8_unload_X8_its : GoodIn wsX8_unload (wsV RX8 180 RX8 yX8_its wsX8_its) := goodIn_app (goodIn_of _ (by decide +kernel)) ggX8_unload_X8_its
set_option maxRecDepth 20000 in
theorem ggX8_unload_X8_loadedOf : GoodIn wsX8_unload wsX8_loadedOf := goodIn_r _ [18, 2, 19, 20, 21, 6, 22, 59, 60, 61, 62, 63, 64, 65, 66, 67, 68, 69, 70, 71, 72, 73, 74, 75, 76, 77, 78, 79, 80, 81, 82, 83, 84, 85, 86] (by decide +kernel) (by decide +kernel)
set_option maxRecDepth 20000 in
theorem gX8_unload_X8_loadedOf : GoodIn wsX8_unload (wsV RX8 229 RX8 yX8_loadedOf wsX8_loadedOf) := goodIn_app (goodIn_of _ (by decide +kernel)) ggX8_unload_X8_loadedOf
set_option maxRecDepth 20000 in
theorem ggX8_unload_X8_isIn : GoodIn wsX8_unload wsX8_isIn := goodIn_r _ [10] (by decide +kernel) (by decide +kernel)
set_option maxRecDepth 20000 in
theorem gX8_unload_X8_isIn : GoodIn wsX8_unload (va_wsS RX8 109 yX8_isIn wsX8_isIn) := goodIn_app (goodIn_of _ (by decide +kernel)) ggX8_unload_X8_isIn
set_option maxRecDepth 20000 in
theorem ggX8_unload_X8_laysNow : GoodIn wsX8_unload wsX8_laysNow := goodIn_r _ [26, 2, 27, 28, 29, 19, 20, 21, 6, 22, 11, 12, 13, 14, 59, 60, 61, 62, 63, 64, 65, 66, 67, 68, 69, 70, 71, 72, 73, 74, 75, 76, 77, 78, 79, 80, 81, 82, 83, 84, 85, 86] (by decide +kernel) (by decide +kernel)
set_option maxRecDepth 20000 in
theorem gX8_unload_X8_laysNow : GoodIn wsX8_unload (wsV RX8 209 RX8 yX8_laysNow wsX8_laysNow) := goodIn_app (goodIn_of _ (by decide +kernel)) ggX8_unload_X8_laysNow
set_option maxRecDepth 20000 in
theorem ggX8_unload_X8_stands : GoodIn wsX8_unload wsX8_stands := goodIn_r _ [33, 2, 34, 35, 36, 6, 37, 28, 27, 38, 39, 40, 19, 20, 21, 22, 41, 42, 43, 44, 29, 45, 46, 47, 48, 59, 60, 61, 62, 63, 64, 65, 66, 67, 68, 69, 70, 71, 72, 73, 74, 75, 76, 77, 78, 79, 80, 81, 82, 83, 84, 85, 86] (by decide +kernel) (by decide +kernel)
set_option maxRecDepth 20000 in
theorem gX8_unload_X8_stands : GoodIn wsX8_unload (wsV RX8 202 RX8 yX8_stands wsX8_stands) := goodIn_app (goodIn_of _ (by decide +kernel)) ggX8_unload_X8_stands
set_option maxRecDepth 20000 in
theorem ggX8_unload_X8_snap : GoodIn wsX8_unload wsX8_snap := goodIn_r _ [52, 53, 54, 2, 59, 60, 61, 62, 63, 64, 65, 66, 67, 68, 69, 70, 71, 72, 73, 74, 75, 76, 77, 78, 79, 80, 81, 82, 83, 84, 85, 86] (by decide +kernel) (by decide +kernel)
set_option maxRecDepth 20000 in
theorem gX8_unload_X8_snap : GoodIn wsX8_unload (wsV RX8 266 RX8 yX8_snap wsX8_snap) := goodIn_app (goodIn_of _ (by decide +kernel)) ggX8_unload_X8_snap
set_option maxRecDepth 20000 in
theorem ggX8_unload_X8_holds : GoodIn wsX8_unload wsX8_holds := goodIn_r _ [22, 2, 59, 60, 61, 62, 63, 64, 65, 66, 67, 68, 69, 70, 71, 72, 73, 74, 75, 76, 77, 78, 79, 80, 81, 82, 83, 84, 85, 86] (by decide +kernel) (by decide +kernel)
set_option maxRecDepth 20000 in
theorem gX8_unload_X8_holds : GoodIn wsX8_unload (wsV RX8 176 RX8 yX8_holds wsX8_holds) := goodIn_app (goodIn_of _ (by decide +kernel)) ggX8_unload_X8_holds
set_option maxRecDepth 20000 in
theorem ggX8_unload_X8_goes : GoodIn wsX8_unload wsX8_goes := goodIn_r _ [58, 2, 59, 60, 61, 62, 63, 64, 65, 66, 67, 68, 69, 70, 71, 72, 73, 74, 75, 76, 77, 78, 79, 80, 81, 82, 83, 84, 85, 86] (by decide +kernel) (by decide +kernel)
set_option maxRecDepth 20000 in
theorem gX8_unload_X8_goes : GoodIn wsX8_unload (wsV RX8 273 RX8 yX8_goes wsX8_goes) := goodIn_app (goodIn_of _ (by decide +kernel)) ggX8_unload_X8_goes
theorem dX8_unload_0 : decode cX8_unload 0 = .ok (.aload_n 0, 1) := by decide +kernel
theorem dX8_unload_1 : decode cX8_unload 1 = .ok (.iconst 0, 1) := by decide +kernel
theorem dX8_unload_2 : decode cX8_unload 2 = .ok (.putfield 1, 3) := by decide +kernel
theorem dX8_unload_5 : decode cX8_unload 5 = .ok (.aload_n 0, 1) := by decide +kernel
theorem dX8_unload_6 : decode cX8_unload 6 = .ok (.iload_n 1, 1) := by decide +kernel
theorem dX8_unload_7 : decode cX8_unload 7 = .ok (.invokevirtual 223, 3) := by decide +kernel
theorem dX8_unload_10 : decode cX8_unload 10 = .ok (.ifCond .eq 26, 3) := by decide +kernel
theorem dX8_unload_13 : decode cX8_unload 13 = .ok (.aload_n 0, 1) := by decide +kernel
theorem dX8_unload_14 : decode cX8_unload 14 = .ok (.iload_n 1, 1) := by decide +kernel
theorem dX8_unload_15 : decode cX8_unload 15 = .ok (.iconst 2, 1) := by decide +kernel
theorem dX8_unload_16 : decode cX8_unload 16 = .ok (.invokevirtual 180, 3) := by decide +kernel
theorem dX8_unload_19 : decode cX8_unload 19 = .ok (.iconst 1, 1) := by decide +kernel
theorem dX8_unload_20 : decode cX8_unload 20 = .ok (.if_icmp .ne 16, 3) := by decide +kernel
theorem dX8_unload_23 : decode cX8_unload 23 = .ok (.iload_n 2, 1) := by decide +kernel
theorem dX8_unload_24 : decode cX8_unload 24 = .ok (.iconst 0, 1) := by decide +kernel
theorem dX8_unload_25 : decode cX8_unload 25 = .ok (.aload_n 0, 1) := by decide +kernel
theorem dX8_unload_26 : decode cX8_unload 26 = .ok (.iload_n 1, 1) := by decide +kernel
theorem dX8_unload_27 : decode cX8_unload 27 = .ok (.invokevirtual 229, 3) := by decide +kernel
theorem dX8_unload_30 : decode cX8_unload 30 = .ok (.invokestatic 109, 3) := by decide +kernel
theorem dX8_unload_33 : decode cX8_unload 33 = .ok (.ifCond .ne 5, 3) := by decide +kernel
theorem dX8_unload_36 : decode cX8_unload 36 = .ok (.iconst (-1), 1) := by decide +kernel
theorem dX8_unload_37 : decode cX8_unload 37 = .ok (.ireturn, 1) := by decide +kernel
theorem dX8_unload_38 : decode cX8_unload 38 = .ok (.aload_n 0, 1) := by decide +kernel
theorem dX8_unload_39 : decode cX8_unload 39 = .ok (.invokevirtual 209, 3) := by decide +kernel
theorem dX8_unload_42 : decode cX8_unload 42 = .ok (.aload_n 0, 1) := by decide +kernel
theorem dX8_unload_43 : decode cX8_unload 43 = .ok (.iconst 1, 1) := by decide +kernel
theorem dX8_unload_44 : decode cX8_unload 44 = .ok (.iload_n 1, 1) := by decide +kernel
theorem dX8_unload_45 : decode cX8_unload 45 = .ok (.ishl, 1) := by decide +kernel
theorem dX8_unload_46 : decode cX8_unload 46 = .ok (.invokevirtual 202, 3) := by decide +kernel
theorem dX8_unload_49 : decode cX8_unload 49 = .ok (.ifCond .eq 6, 3) := by decide +kernel
theorem dX8_unload_52 : decode cX8_unload 52 = .ok (.bipush (-2), 2) := by decide +kernel
theorem dX8_unload_54 : decode cX8_unload 54 = .ok (.ireturn, 1) := by decide +kernel
theorem dX8_unload_55 : decode cX8_unload 55 = .ok (.aload_n 0, 1) := by decide +kernel
theorem dX8_unload_56 : decode cX8_unload 56 = .ok (.invokevirtual 266, 3) := by decide +kernel
theorem dX8_unload_59 : decode cX8_unload 59 = .ok (.aload_n 0, 1) := by decide +kernel
theorem dX8_unload_60 : decode cX8_unload 60 = .ok (.iload_n 1, 1) := by decide +kernel
theorem dX8_unload_61 : decode cX8_unload 61 = .ok (.invokevirtual 229, 3) := by decide +kernel
theorem dX8_unload_64 : decode cX8_unload 64 = .ok (.iload_n 2, 1) := by decide +kernel
theorem dX8_unload_65 : decode cX8_unload 65 = .ok (.isub, 1) := by decide +kernel
theorem dX8_unload_66 : decode cX8_unload 66 = .ok (.istore_n 3, 1) := by decide +kernel
theorem dX8_unload_67 : decode cX8_unload 67 = .ok (.iconst 0, 1) := by decide +kernel
theorem dX8_unload_68 : decode cX8_unload 68 = .ok (.istore 4, 2) := by decide +kernel
theorem dX8_unload_70 : decode cX8_unload 70 = .ok (.iload 4, 2) := by decide +kernel
theorem dX8_unload_72 : decode cX8_unload 72 = .ok (.aload_n 0, 1) := by decide +kernel
theorem dX8_unload_73 : decode cX8_unload 73 = .ok (.getfield 70, 3) := by decide +kernel
theorem dX8_unload_76 : decode cX8_unload 76 = .ok (.bipush 9, 2) := by decide +kernel
theorem dX8_unload_78 : decode cX8_unload 78 = .ok (.iaload, 1) := by decide +kernel
theorem dX8_unload_79 : decode cX8_unload 79 = .ok (.if_icmp .ge 28, 3) := by decide +kernel
theorem dX8_unload_82 : decode cX8_unload 82 = .ok (.aload_n 0, 1) := by decide +kernel
theorem dX8_unload_83 : decode cX8_unload 83 = .ok (.iload 4, 2) := by decide +kernel
theorem dX8_unload_85 : decode cX8_unload 85 = .ok (.iconst 4, 1) := by decide +kernel
theorem dX8_unload_86 : decode cX8_unload 86 = .ok (.invokevirtual 176, 3) := by decide +kernel
theorem dX8_unload_89 : decode cX8_unload 89 = .ok (.iload_n 1, 1) := by decide +kernel
theorem dX8_unload_90 : decode cX8_unload 90 = .ok (.iconst 1, 1) := by decide +kernel
theorem dX8_unload_91 : decode cX8_unload 91 = .ok (.iadd, 1) := by decide +kernel
theorem dX8_unload_92 : decode cX8_unload 92 = .ok (.if_icmp .ne 9, 3) := by decide +kernel
theorem dX8_unload_95 : decode cX8_unload 95 = .ok (.aload_n 0, 1) := by decide +kernel
theorem dX8_unload_96 : decode cX8_unload 96 = .ok (.iload 4, 2) := by decide +kernel
theorem dX8_unload_98 : decode cX8_unload 98 = .ok (.invokevirtual 273, 3) := by decide +kernel
theorem dX8_unload_101 : decode cX8_unload 101 = .ok (.iinc 4 1, 3) := by decide +kernel
theorem dX8_unload_104 : decode cX8_unload 104 = .ok (.goto (-34), 3) := by decide +kernel
theorem dX8_unload_107 : decode cX8_unload 107 = .ok (.aload_n 0, 1) := by decide +kernel
theorem dX8_unload_108 : decode cX8_unload 108 = .ok (.getfield 70, 3) := by decide +kernel
theorem dX8_unload_111 : decode cX8_unload 111 = .ok (.bipush 57, 2) := by decide +kernel
theorem dX8_unload_113 : decode cX8_unload 113 = .ok (.iconst 5, 1) := by decide +kernel
theorem dX8_unload_114 : decode cX8_unload 114 = .ok (.iload_n 1, 1) := by decide +kernel
theorem dX8_unload_115 : decode cX8_unload 115 = .ok (.imul, 1) := by decide +kernel
theorem dX8_unload_116 : decode cX8_unload 116 = .ok (.iadd, 1) := by decide +kernel
theorem dX8_unload_117 : decode cX8_unload 117 = .ok (.iconst 2, 1) := by decide +kernel
theorem dX8_unload_118 : decode cX8_unload 118 = .ok (.iadd, 1) := by decide +kernel
theorem dX8_unload_119 : decode cX8_unload 119 = .ok (.iconst 2, 1) := by decide +kernel
theorem dX8_unload_120 : decode cX8_unload 120 = .ok (.iastore, 1) := by decide +kernel
theorem dX8_unload_121 : decode cX8_unload 121 = .ok (.aload_n 0, 1) := by decide +kernel
theorem dX8_unload_122 : decode cX8_unload 122 = .ok (.getfield 70, 3) := by decide +kernel
theorem dX8_unload_125 : decode cX8_unload 125 = .ok (.bipush 57, 2) := by decide +kernel
theorem dX8_unload_127 : decode cX8_unload 127 = .ok (.iconst 5, 1) := by decide +kernel
theorem dX8_unload_128 : decode cX8_unload 128 = .ok (.iload_n 1, 1) := by decide +kernel
theorem dX8_unload_129 : decode cX8_unload 129 = .ok (.imul, 1) := by decide +kernel
theorem dX8_unload_130 : decode cX8_unload 130 = .ok (.iadd, 1) := by decide +kernel
theorem dX8_unload_131 : decode cX8_unload 131 = .ok (.iconst 3, 1) := by decide +kernel
theorem dX8_unload_132 : decode cX8_unload 132 = .ok (.iadd, 1) := by decide +kernel
theorem dX8_unload_133 : decode cX8_unload 133 = .ok (.iload_n 2, 1) := by decide +kernel
theorem dX8_unload_134 : decode cX8_unload 134 = .ok (.iastore, 1) := by decide +kernel
theorem dX8_unload_135 : decode cX8_unload 135 = .ok (.aload_n 0, 1) := by decide +kernel
theorem dX8_unload_136 : decode cX8_unload 136 = .ok (.getfield 70, 3) := by decide +kernel
theorem dX8_unload_139 : decode cX8_unload 139 = .ok (.bipush 57, 2) := by decide +kernel
theorem dX8_unload_141 : decode cX8_unload 141 = .ok (.iconst 5, 1) := by decide +kernel
theorem dX8_unload_142 : decode cX8_unload 142 = .ok (.iload_n 1, 1) := by decide +kernel
theorem dX8_unload_143 : decode cX8_unload 143 = .ok (.imul, 1) := by decide +kernel
theorem dX8_unload_144 : decode cX8_unload 144 = .ok (.iadd, 1) := by decide +kernel
theorem dX8_unload_145 : decode cX8_unload 145 = .ok (.iconst 4, 1) := by decide +kernel
theorem dX8_unload_146 : decode cX8_unload 146 = .ok (.iadd, 1) := by decide +kernel
theorem dX8_unload_147 : decode cX8_unload 147 = .ok (.iload_n 3, 1) := by decide +kernel
theorem dX8_unload_148 : decode cX8_unload 148 = .ok (.iastore, 1) := by decide +kernel
theorem dX8_unload_149 : decode cX8_unload 149 = .ok (.iload_n 3, 1) := by decide +kernel
theorem dX8_unload_150 : decode cX8_unload 150 = .ok (.ireturn, 1) := by decide +kernel
set_option maxRecDepth 20000 in
theorem ggX8_empty_X8_isHold : GoodIn wsX8_empty wsX8_isHold := goodIn_r _ [7, 2, 8, 9, 6, 10, 33, 34, 35, 36, 37, 38, 39, 40, 41, 42, 43, 44, 45, 46, 47, 48, 49, 50, 51, 52, 53, 54, 55, 56, 57, 58, 59, 60] (by decide +kernel) (by decide +kernel)
set_option maxRecDepth 20000 in
theorem gX8_empty_X8_isHold : GoodIn wsX8_empty (wsV RX8 217 RX8 yX8_isHold wsX8_isHold) := goodIn_app (goodIn_of _ (by decide +kernel)) ggX8_empty_X8_isHold
set_option maxRecDepth 20000 in
theorem ggX8_empty_X8_holds : GoodIn wsX8_empty wsX8_holds := goodIn_r _ [14, 2, 33, 34, 35, 36, 37, 38, 39, 40, 41, 42, 43, 44, 45, 46, 47, 48, 49, 50, 51, 52, 53, 54, 55, 56, 57, 58, 59, 60] (by decide +kernel) (by decide +kernel)
set_option maxRecDepth 20000 in
theorem gX8_empty_X8_holds : GoodIn wsX8_empty (wsV RX8 176 RX8 yX8_holds wsX8_holds) := goodIn_app (goodIn_of _ (by decide +kernel)) ggX8_empty_X8_holds
set_option maxRecDepth 20000 in
theorem ggX8_empty_X8_its : GoodIn wsX8_empty wsX8_its := goodIn_r _ [18, 2, 33, 34, 35, 36, 37, 38, 39, 40, 41, 42, 43, 44, 45, 46, 47, 48, 49, 50, 51, 52, 53, 54, 55, 56, 57, 58, 59, 60] (by decide +kernel) (by decide +kernel)
set_option maxRecDepth 20000 in
theorem gX8_empty_X8_its : GoodIn wsX8_empty (wsV RX8 180 RX8 yX8_its wsX8_its) := goodIn_app (goodIn_of _ (by decide +kernel)) ggX8_empty_X8_its
set_option maxRecDepth 20000 in
theorem ggX8_empty_X8_having : GoodIn wsX8_empty wsX8_having := goodIn_r _ [22, 2, 15, 16, 17, 6, 18, 33, 34, 35, 36, 37, 38, 39, 40, 41, 42, 43, 44, 45, 46, 47, 48, 49, 50, 51, 52, 53, 54, 55, 56, 57, 58, 59, 60] (by decide +kernel) (by decide +kernel)
set_option maxRecDepth 20000 in
theorem gX8_empty_X8_having : GoodIn wsX8_empty (wsV RX8 263 RX8 yX8_having wsX8_having) := goodIn_app (goodIn_of _ (by decide +kernel)) ggX8_empty_X8_having
set_option maxRecDepth 20000 in
theorem ggX8_empty_X8_snap : GoodIn wsX8_empty wsX8_snap := goodIn_r _ [26, 27, 28, 2, 33, 34, 35, 36, 37, 38, 39, 40, 41, 42, 43, 44, 45, 46, 47, 48, 49, 50, 51, 52, 53, 54, 55, 56, 57, 58, 59, 60] (by decide +kernel) (by decide +kernel)
set_option maxRecDepth 20000 in
theorem gX8_empty_X8_snap : GoodIn wsX8_empty (wsV RX8 266 RX8 yX8_snap wsX8_snap) := goodIn_app (goodIn_of _ (by decide +kernel)) ggX8_empty_X8_snap
set_option maxRecDepth 20000 in
theorem ggX8_empty_X8_goes : GoodIn wsX8_empty wsX8_goes := goodIn_r _ [32, 2, 33, 34, 35, 36, 37, 38, 39, 40, 41, 42, 43, 44, 45, 46, 47, 48, 49, 50, 51, 52, 53, 54, 55, 56, 57, 58, 59, 60] (by decide +kernel) (by decide +kernel)
set_option maxRecDepth 20000 in
theorem gX8_empty_X8_goes : GoodIn wsX8_empty (wsV RX8 273 RX8 yX8_goes wsX8_goes) := goodIn_app (goodIn_of _ (by decide +kernel)) ggX8_empty_X8_goes
theorem dX8_empty_0 : decode cX8_empty 0 = .ok (.aload_n 0, 1) := by decide +kernel
theorem dX8_empty_1 : decode cX8_empty 1 = .ok (.iconst 0, 1) := by decide +kernel
theorem dX8_empty_2 : decode cX8_empty 2 = .ok (.putfield 1, 3) := by decide +kernel
theorem dX8_empty_5 : decode cX8_empty 5 = .ok (.aload_n 0, 1) := by decide +kernel
theorem dX8_empty_6 : decode cX8_empty 6 = .ok (.iload_n 1, 1) := by decide +kernel
theorem dX8_empty_7 : decode cX8_empty 7 = .ok (.invokevirtual 217, 3) := by decide +kernel
theorem dX8_empty_10 : decode cX8_empty 10 = .ok (.ifCond .eq 12, 3) := by decide +kernel
theorem dX8_empty_13 : decode cX8_empty 13 = .ok (.aload_n 0, 1) := by decide +kernel
theorem dX8_empty_14 : decode cX8_empty 14 = .ok (.iload_n 1, 1) := by decide +kernel
theorem dX8_empty_15 : decode cX8_empty 15 = .ok (.iconst 4, 1) := by decide +kernel
theorem dX8_empty_16 : decode cX8_empty 16 = .ok (.invokevirtual 176, 3) := by decide +kernel
theorem dX8_empty_19 : decode cX8_empty 19 = .ok (.ifCond .ne 5, 3) := by decide +kernel
theorem dX8_empty_22 : decode cX8_empty 22 = .ok (.iconst (-1), 1) := by decide +kernel
theorem dX8_empty_23 : decode cX8_empty 23 = .ok (.ireturn, 1) := by decide +kernel
theorem dX8_empty_24 : decode cX8_empty 24 = .ok (.aload_n 0, 1) := by decide +kernel
theorem dX8_empty_25 : decode cX8_empty 25 = .ok (.iload_n 1, 1) := by decide +kernel
theorem dX8_empty_26 : decode cX8_empty 26 = .ok (.iconst 4, 1) := by decide +kernel
theorem dX8_empty_27 : decode cX8_empty 27 = .ok (.invokevirtual 176, 3) := by decide +kernel
theorem dX8_empty_30 : decode cX8_empty 30 = .ok (.iconst 1, 1) := by decide +kernel
theorem dX8_empty_31 : decode cX8_empty 31 = .ok (.isub, 1) := by decide +kernel
theorem dX8_empty_32 : decode cX8_empty 32 = .ok (.istore_n 2, 1) := by decide +kernel
theorem dX8_empty_33 : decode cX8_empty 33 = .ok (.aload_n 0, 1) := by decide +kernel
theorem dX8_empty_34 : decode cX8_empty 34 = .ok (.iload_n 2, 1) := by decide +kernel
theorem dX8_empty_35 : decode cX8_empty 35 = .ok (.iconst 2, 1) := by decide +kernel
theorem dX8_empty_36 : decode cX8_empty 36 = .ok (.invokevirtual 180, 3) := by decide +kernel
theorem dX8_empty_39 : decode cX8_empty 39 = .ok (.iconst 1, 1) := by decide +kernel
theorem dX8_empty_40 : decode cX8_empty 40 = .ok (.if_icmp .ne 15, 3) := by decide +kernel
theorem dX8_empty_43 : decode cX8_empty 43 = .ok (.aload_n 0, 1) := by decide +kernel
theorem dX8_empty_44 : decode cX8_empty 44 = .ok (.iconst 0, 1) := by decide +kernel
theorem dX8_empty_45 : decode cX8_empty 45 = .ok (.invokevirtual 263, 3) := by decide +kernel
theorem dX8_empty_48 : decode cX8_empty 48 = .ok (.iconst 4, 1) := by decide +kernel
theorem dX8_empty_49 : decode cX8_empty 49 = .ok (.if_icmp .ne 6, 3) := by decide +kernel
theorem dX8_empty_52 : decode cX8_empty 52 = .ok (.bipush (-2), 2) := by decide +kernel
theorem dX8_empty_54 : decode cX8_empty 54 = .ok (.ireturn, 1) := by decide +kernel
theorem dX8_empty_55 : decode cX8_empty 55 = .ok (.aload_n 0, 1) := by decide +kernel
theorem dX8_empty_56 : decode cX8_empty 56 = .ok (.invokevirtual 266, 3) := by decide +kernel
theorem dX8_empty_59 : decode cX8_empty 59 = .ok (.aload_n 0, 1) := by decide +kernel
theorem dX8_empty_60 : decode cX8_empty 60 = .ok (.iload_n 1, 1) := by decide +kernel
theorem dX8_empty_61 : decode cX8_empty 61 = .ok (.iconst 3, 1) := by decide +kernel
theorem dX8_empty_62 : decode cX8_empty 62 = .ok (.invokevirtual 176, 3) := by decide +kernel
theorem dX8_empty_65 : decode cX8_empty 65 = .ok (.istore_n 3, 1) := by decide +kernel
theorem dX8_empty_66 : decode cX8_empty 66 = .ok (.aload_n 0, 1) := by decide +kernel
theorem dX8_empty_67 : decode cX8_empty 67 = .ok (.iload_n 1, 1) := by decide +kernel
theorem dX8_empty_68 : decode cX8_empty 68 = .ok (.invokevirtual 273, 3) := by decide +kernel
theorem dX8_empty_71 : decode cX8_empty 71 = .ok (.aload_n 0, 1) := by decide +kernel
theorem dX8_empty_72 : decode cX8_empty 72 = .ok (.getfield 70, 3) := by decide +kernel
theorem dX8_empty_75 : decode cX8_empty 75 = .ok (.bipush 57, 2) := by decide +kernel
theorem dX8_empty_77 : decode cX8_empty 77 = .ok (.iconst 5, 1) := by decide +kernel
theorem dX8_empty_78 : decode cX8_empty 78 = .ok (.iload_n 2, 1) := by decide +kernel
theorem dX8_empty_79 : decode cX8_empty 79 = .ok (.imul, 1) := by decide +kernel
theorem dX8_empty_80 : decode cX8_empty 80 = .ok (.iadd, 1) := by decide +kernel
theorem dX8_empty_81 : decode cX8_empty 81 = .ok (.iconst 2, 1) := by decide +kernel
theorem dX8_empty_82 : decode cX8_empty 82 = .ok (.iadd, 1) := by decide +kernel
theorem dX8_empty_83 : decode cX8_empty 83 = .ok (.iconst 0, 1) := by decide +kernel
theorem dX8_empty_84 : decode cX8_empty 84 = .ok (.iastore, 1) := by decide +kernel
theorem dX8_empty_85 : decode cX8_empty 85 = .ok (.iload_n 3, 1) := by decide +kernel
theorem dX8_empty_86 : decode cX8_empty 86 = .ok (.ireturn, 1) := by decide +kernel
set_option maxRecDepth 20000 in
theorem ggX8_wash_X8_isHold : GoodIn wsX8_wash wsX8_isHold := goodIn_r _ [7, 2, 8, 9, 6, 10, 21, 22, 23, 24, 25, 26, 27, 28, 29, 30, 31, 32, 33, 34, 35, 36, 37, 38, 39, 40, 41, 42, 43, 44, 45, 46, 47, 48] (by decide +kernel) (by decide +kernel)
set_option maxRecDepth 20000 in
theorem gX8_wash_X8_isHold : GoodIn wsX8_wash (wsV RX8 217 RX8 yX8_isHold wsX8_isHold) := goodIn_app (goodIn_of _ (by decide +kernel)) ggX8_wash_X8_isHold
set_option maxRecDepth 20000 in
theorem ggX8_wash_X8_holds : GoodIn wsX8_wash wsX8_holds := goodIn_r _ [14, 2, 21, 22, 23, 24, 25, 26, 27, 28, 29, 30, 31, 32, 33, 34, 35, 36, 37, 38, 39, 40, 41, 42, 43, 44, 45, 46, 47, 48] (by decide +kernel) (by decide +kernel)
set_option maxRecDepth 20000 in
theorem gX8_wash_X8_holds : GoodIn wsX8_wash (wsV RX8 176 RX8 yX8_holds wsX8_holds) := goodIn_app (goodIn_of _ (by decide +kernel)) ggX8_wash_X8_holds
set_option maxRecDepth 20000 in
theorem ggX8_wash_X8_snap : GoodIn wsX8_wash wsX8_snap := goodIn_r _ [18, 19, 20, 2, 21, 22, 23, 24, 25, 26, 27, 28, 29, 30, 31, 32, 33, 34, 35, 36, 37, 38, 39, 40, 41, 42, 43, 44, 45, 46, 47, 48] (by decide +kernel) (by decide +kernel)
set_option maxRecDepth 20000 in
theorem gX8_wash_X8_snap : GoodIn wsX8_wash (wsV RX8 266 RX8 yX8_snap wsX8_snap) := goodIn_app (goodIn_of _ (by decide +kernel)) ggX8_wash_X8_snap
theorem dX8_wash_0 : decode cX8_wash 0 = .ok (.aload_n 0, 1) := by decide +kernel
theorem dX8_wash_1 : decode cX8_wash 1 = .ok (.iconst 0, 1) := by decide +kernel
theorem dX8_wash_2 : decode cX8_wash 2 = .ok (.putfield 1, 3) := by decide +kernel
theorem dX8_wash_5 : decode cX8_wash 5 = .ok (.aload_n 0, 1) := by decide +kernel
theorem dX8_wash_6 : decode cX8_wash 6 = .ok (.iload_n 1, 1) := by decide +kernel
theorem dX8_wash_7 : decode cX8_wash 7 = .ok (.invokevirtual 217, 3) := by decide +kernel
theorem dX8_wash_10 : decode cX8_wash 10 = .ok (.ifCond .eq 21, 3) := by decide +kernel
theorem dX8_wash_13 : decode cX8_wash 13 = .ok (.aload_n 0, 1) := by decide +kernel
theorem dX8_wash_14 : decode cX8_wash 14 = .ok (.iload_n 1, 1) := by decide +kernel
theorem dX8_wash_15 : decode cX8_wash 15 = .ok (.iconst 4, 1) := by decide +kernel
theorem dX8_wash_16 : decode cX8_wash 16 = .ok (.invokevirtual 176, 3) := by decide +kernel
theorem dX8_wash_19 : decode cX8_wash 19 = .ok (.ifCond .gt 12, 3) := by decide +kernel
theorem dX8_wash_22 : decode cX8_wash 22 = .ok (.aload_n 0, 1) := by decide +kernel
theorem dX8_wash_23 : decode cX8_wash 23 = .ok (.iload_n 1, 1) := by decide +kernel
theorem dX8_wash_24 : decode cX8_wash 24 = .ok (.iconst 5, 1) := by decide +kernel
theorem dX8_wash_25 : decode cX8_wash 25 = .ok (.invokevirtual 176, 3) := by decide +kernel
theorem dX8_wash_28 : decode cX8_wash 28 = .ok (.ifCond .ne 5, 3) := by decide +kernel
theorem dX8_wash_31 : decode cX8_wash 31 = .ok (.iconst 0, 1) := by decide +kernel
theorem dX8_wash_32 : decode cX8_wash 32 = .ok (.ireturn, 1) := by decide +kernel
theorem dX8_wash_33 : decode cX8_wash 33 = .ok (.aload_n 0, 1) := by decide +kernel
theorem dX8_wash_34 : decode cX8_wash 34 = .ok (.invokevirtual 266, 3) := by decide +kernel
theorem dX8_wash_37 : decode cX8_wash 37 = .ok (.aload_n 0, 1) := by decide +kernel
theorem dX8_wash_38 : decode cX8_wash 38 = .ok (.getfield 70, 3) := by decide +kernel
theorem dX8_wash_41 : decode cX8_wash 41 = .ok (.bipush 27, 2) := by decide +kernel
theorem dX8_wash_43 : decode cX8_wash 43 = .ok (.bipush 6, 2) := by decide +kernel
theorem dX8_wash_45 : decode cX8_wash 45 = .ok (.iload_n 1, 1) := by decide +kernel
theorem dX8_wash_46 : decode cX8_wash 46 = .ok (.imul, 1) := by decide +kernel
theorem dX8_wash_47 : decode cX8_wash 47 = .ok (.iadd, 1) := by decide +kernel
theorem dX8_wash_48 : decode cX8_wash 48 = .ok (.iconst 5, 1) := by decide +kernel
theorem dX8_wash_49 : decode cX8_wash 49 = .ok (.iadd, 1) := by decide +kernel
theorem dX8_wash_50 : decode cX8_wash 50 = .ok (.iconst 0, 1) := by decide +kernel
theorem dX8_wash_51 : decode cX8_wash 51 = .ok (.iastore, 1) := by decide +kernel
theorem dX8_wash_52 : decode cX8_wash 52 = .ok (.aload_n 0, 1) := by decide +kernel
theorem dX8_wash_53 : decode cX8_wash 53 = .ok (.getfield 70, 3) := by decide +kernel
theorem dX8_wash_56 : decode cX8_wash 56 = .ok (.bipush 14, 2) := by decide +kernel
theorem dX8_wash_58 : decode cX8_wash 58 = .ok (.dup2, 1) := by decide +kernel
theorem dX8_wash_59 : decode cX8_wash 59 = .ok (.iaload, 1) := by decide +kernel
theorem dX8_wash_60 : decode cX8_wash 60 = .ok (.iconst 1, 1) := by decide +kernel
theorem dX8_wash_61 : decode cX8_wash 61 = .ok (.iadd, 1) := by decide +kernel
theorem dX8_wash_62 : decode cX8_wash 62 = .ok (.iastore, 1) := by decide +kernel
theorem dX8_wash_63 : decode cX8_wash 63 = .ok (.iconst 1, 1) := by decide +kernel
theorem dX8_wash_64 : decode cX8_wash 64 = .ok (.ireturn, 1) := by decide +kernel
theorem dX8_undo_0 : decode cX8_undo 0 = .ok (.aload_n 0, 1) := by decide +kernel
theorem dX8_undo_1 : decode cX8_undo 1 = .ok (.iconst 0, 1) := by decide +kernel
theorem dX8_undo_2 : decode cX8_undo 2 = .ok (.putfield 1, 3) := by decide +kernel
theorem dX8_undo_5 : decode cX8_undo 5 = .ok (.aload_n 0, 1) := by decide +kernel
theorem dX8_undo_6 : decode cX8_undo 6 = .ok (.getfield 173, 3) := by decide +kernel
theorem dX8_undo_9 : decode cX8_undo 9 = .ok (.ifCond .ne 5, 3) := by decide +kernel
theorem dX8_undo_12 : decode cX8_undo 12 = .ok (.iconst (-1), 1) := by decide +kernel
theorem dX8_undo_13 : decode cX8_undo 13 = .ok (.ireturn, 1) := by decide +kernel
theorem dX8_undo_14 : decode cX8_undo 14 = .ok (.aload_n 0, 1) := by decide +kernel
theorem dX8_undo_15 : decode cX8_undo 15 = .ok (.dup, 1) := by decide +kernel
theorem dX8_undo_16 : decode cX8_undo 16 = .ok (.getfield 173, 3) := by decide +kernel
theorem dX8_undo_19 : decode cX8_undo 19 = .ok (.iconst 1, 1) := by decide +kernel
theorem dX8_undo_20 : decode cX8_undo 20 = .ok (.isub, 1) := by decide +kernel
theorem dX8_undo_21 : decode cX8_undo 21 = .ok (.putfield 173, 3) := by decide +kernel
theorem dX8_undo_24 : decode cX8_undo 24 = .ok (.iconst 0, 1) := by decide +kernel
theorem dX8_undo_25 : decode cX8_undo 25 = .ok (.istore_n 1, 1) := by decide +kernel
theorem dX8_undo_26 : decode cX8_undo 26 = .ok (.iload_n 1, 1) := by decide +kernel
theorem dX8_undo_27 : decode cX8_undo 27 = .ok (.sipush 157, 3) := by decide +kernel
theorem dX8_undo_30 : decode cX8_undo 30 = .ok (.if_icmp .ge 30, 3) := by decide +kernel
theorem dX8_undo_33 : decode cX8_undo 33 = .ok (.aload_n 0, 1) := by decide +kernel
theorem dX8_undo_34 : decode cX8_undo 34 = .ok (.getfield 70, 3) := by decide +kernel
theorem dX8_undo_37 : decode cX8_undo 37 = .ok (.iload_n 1, 1) := by decide +kernel
theorem dX8_undo_38 : decode cX8_undo 38 = .ok (.aload_n 0, 1) := by decide +kernel
theorem dX8_undo_39 : decode cX8_undo 39 = .ok (.getfield 76, 3) := by decide +kernel
theorem dX8_undo_42 : decode cX8_undo 42 = .ok (.sipush 157, 3) := by decide +kernel
theorem dX8_undo_45 : decode cX8_undo 45 = .ok (.aload_n 0, 1) := by decide +kernel
theorem dX8_undo_46 : decode cX8_undo 46 = .ok (.getfield 173, 3) := by decide +kernel
theorem dX8_undo_49 : decode cX8_undo 49 = .ok (.imul, 1) := by decide +kernel
theorem dX8_undo_50 : decode cX8_undo 50 = .ok (.iload_n 1, 1) := by decide +kernel
theorem dX8_undo_51 : decode cX8_undo 51 = .ok (.iadd, 1) := by decide +kernel
theorem dX8_undo_52 : decode cX8_undo 52 = .ok (.iaload, 1) := by decide +kernel
theorem dX8_undo_53 : decode cX8_undo 53 = .ok (.iastore, 1) := by decide +kernel
theorem dX8_undo_54 : decode cX8_undo 54 = .ok (.iinc 1 1, 3) := by decide +kernel
theorem dX8_undo_57 : decode cX8_undo 57 = .ok (.goto (-31), 3) := by decide +kernel
theorem dX8_undo_60 : decode cX8_undo 60 = .ok (.aload_n 0, 1) := by decide +kernel
theorem dX8_undo_61 : decode cX8_undo 61 = .ok (.getfield 173, 3) := by decide +kernel
theorem dX8_undo_64 : decode cX8_undo 64 = .ok (.ireturn, 1) := by decide +kernel
theorem dJ13_bitCount_95d88_0 : decode cJ13_bitCount_95d88 0 = .ok (.lload_n 0, 1) := by decide +kernel
theorem dJ13_bitCount_95d88_1 : decode cJ13_bitCount_95d88 1 = .ok (.lload_n 0, 1) := by decide +kernel
theorem dJ13_bitCount_95d88_2 : decode cJ13_bitCount_95d88 2 = .ok (.iconst 1, 1) := by decide +kernel
theorem dJ13_bitCount_95d88_3 : decode cJ13_bitCount_95d88 3 = .ok (.lushr, 1) := by decide +kernel
theorem dJ13_bitCount_95d88_4 : decode cJ13_bitCount_95d88 4 = .ok (.ldc2_w 314, 3) := by decide +kernel
theorem dJ13_bitCount_95d88_7 : decode cJ13_bitCount_95d88 7 = .ok (.land, 1) := by decide +kernel
theorem dJ13_bitCount_95d88_8 : decode cJ13_bitCount_95d88 8 = .ok (.lsub, 1) := by decide +kernel
theorem dJ13_bitCount_95d88_9 : decode cJ13_bitCount_95d88 9 = .ok (.lstore_n 0, 1) := by decide +kernel
theorem dJ13_bitCount_95d88_10 : decode cJ13_bitCount_95d88 10 = .ok (.lload_n 0, 1) := by decide +kernel
theorem dJ13_bitCount_95d88_11 : decode cJ13_bitCount_95d88 11 = .ok (.ldc2_w 316, 3) := by decide +kernel
theorem dJ13_bitCount_95d88_14 : decode cJ13_bitCount_95d88 14 = .ok (.land, 1) := by decide +kernel
theorem dJ13_bitCount_95d88_15 : decode cJ13_bitCount_95d88 15 = .ok (.lload_n 0, 1) := by decide +kernel
theorem dJ13_bitCount_95d88_16 : decode cJ13_bitCount_95d88 16 = .ok (.iconst 2, 1) := by decide +kernel
theorem dJ13_bitCount_95d88_17 : decode cJ13_bitCount_95d88 17 = .ok (.lushr, 1) := by decide +kernel
theorem dJ13_bitCount_95d88_18 : decode cJ13_bitCount_95d88 18 = .ok (.ldc2_w 316, 3) := by decide +kernel
theorem dJ13_bitCount_95d88_21 : decode cJ13_bitCount_95d88 21 = .ok (.land, 1) := by decide +kernel
theorem dJ13_bitCount_95d88_22 : decode cJ13_bitCount_95d88 22 = .ok (.ladd, 1) := by decide +kernel
theorem dJ13_bitCount_95d88_23 : decode cJ13_bitCount_95d88 23 = .ok (.lstore_n 0, 1) := by decide +kernel
theorem dJ13_bitCount_95d88_24 : decode cJ13_bitCount_95d88 24 = .ok (.lload_n 0, 1) := by decide +kernel
theorem dJ13_bitCount_95d88_25 : decode cJ13_bitCount_95d88 25 = .ok (.lload_n 0, 1) := by decide +kernel
theorem dJ13_bitCount_95d88_26 : decode cJ13_bitCount_95d88 26 = .ok (.iconst 4, 1) := by decide +kernel
theorem dJ13_bitCount_95d88_27 : decode cJ13_bitCount_95d88 27 = .ok (.lushr, 1) := by decide +kernel
theorem dJ13_bitCount_95d88_28 : decode cJ13_bitCount_95d88 28 = .ok (.ladd, 1) := by decide +kernel
theorem dJ13_bitCount_95d88_29 : decode cJ13_bitCount_95d88 29 = .ok (.ldc2_w 318, 3) := by decide +kernel
theorem dJ13_bitCount_95d88_32 : decode cJ13_bitCount_95d88 32 = .ok (.land, 1) := by decide +kernel
theorem dJ13_bitCount_95d88_33 : decode cJ13_bitCount_95d88 33 = .ok (.lstore_n 0, 1) := by decide +kernel
theorem dJ13_bitCount_95d88_34 : decode cJ13_bitCount_95d88 34 = .ok (.lload_n 0, 1) := by decide +kernel
theorem dJ13_bitCount_95d88_35 : decode cJ13_bitCount_95d88 35 = .ok (.lload_n 0, 1) := by decide +kernel
theorem dJ13_bitCount_95d88_36 : decode cJ13_bitCount_95d88 36 = .ok (.bipush 8, 2) := by decide +kernel
theorem dJ13_bitCount_95d88_38 : decode cJ13_bitCount_95d88 38 = .ok (.lushr, 1) := by decide +kernel
theorem dJ13_bitCount_95d88_39 : decode cJ13_bitCount_95d88 39 = .ok (.ladd, 1) := by decide +kernel
theorem dJ13_bitCount_95d88_40 : decode cJ13_bitCount_95d88 40 = .ok (.lstore_n 0, 1) := by decide +kernel
theorem dJ13_bitCount_95d88_41 : decode cJ13_bitCount_95d88 41 = .ok (.lload_n 0, 1) := by decide +kernel
theorem dJ13_bitCount_95d88_42 : decode cJ13_bitCount_95d88 42 = .ok (.lload_n 0, 1) := by decide +kernel
theorem dJ13_bitCount_95d88_43 : decode cJ13_bitCount_95d88 43 = .ok (.bipush 16, 2) := by decide +kernel
theorem dJ13_bitCount_95d88_45 : decode cJ13_bitCount_95d88 45 = .ok (.lushr, 1) := by decide +kernel
theorem dJ13_bitCount_95d88_46 : decode cJ13_bitCount_95d88 46 = .ok (.ladd, 1) := by decide +kernel
theorem dJ13_bitCount_95d88_47 : decode cJ13_bitCount_95d88 47 = .ok (.lstore_n 0, 1) := by decide +kernel
theorem dJ13_bitCount_95d88_48 : decode cJ13_bitCount_95d88 48 = .ok (.lload_n 0, 1) := by decide +kernel
theorem dJ13_bitCount_95d88_49 : decode cJ13_bitCount_95d88 49 = .ok (.lload_n 0, 1) := by decide +kernel
theorem dJ13_bitCount_95d88_50 : decode cJ13_bitCount_95d88 50 = .ok (.bipush 32, 2) := by decide +kernel
theorem dJ13_bitCount_95d88_52 : decode cJ13_bitCount_95d88 52 = .ok (.lushr, 1) := by decide +kernel
theorem dJ13_bitCount_95d88_53 : decode cJ13_bitCount_95d88 53 = .ok (.ladd, 1) := by decide +kernel
theorem dJ13_bitCount_95d88_54 : decode cJ13_bitCount_95d88 54 = .ok (.lstore_n 0, 1) := by decide +kernel
theorem dJ13_bitCount_95d88_55 : decode cJ13_bitCount_95d88 55 = .ok (.lload_n 0, 1) := by decide +kernel
theorem dJ13_bitCount_95d88_56 : decode cJ13_bitCount_95d88 56 = .ok (.l2i, 1) := by decide +kernel
theorem dJ13_bitCount_95d88_57 : decode cJ13_bitCount_95d88 57 = .ok (.bipush 127, 2) := by decide +kernel
theorem dJ13_bitCount_95d88_59 : decode cJ13_bitCount_95d88 59 = .ok (.iand, 1) := by decide +kernel
theorem dJ13_bitCount_95d88_60 : decode cJ13_bitCount_95d88 60 = .ok (.ireturn, 1) := by decide +kernel
theorem dJ9_min_7cf53_0 : decode cJ9_min_7cf53 0 = .ok (.iload_n 0, 1) := by decide +kernel
theorem dJ9_min_7cf53_1 : decode cJ9_min_7cf53 1 = .ok (.iload_n 1, 1) := by decide +kernel
theorem dJ9_min_7cf53_2 : decode cJ9_min_7cf53 2 = .ok (.if_icmp .gt 7, 3) := by decide +kernel
theorem dJ9_min_7cf53_5 : decode cJ9_min_7cf53 5 = .ok (.iload_n 0, 1) := by decide +kernel
theorem dJ9_min_7cf53_6 : decode cJ9_min_7cf53 6 = .ok (.goto 4, 3) := by decide +kernel
theorem dJ9_min_7cf53_9 : decode cJ9_min_7cf53 9 = .ok (.iload_n 1, 1) := by decide +kernel
theorem dJ9_min_7cf53_10 : decode cJ9_min_7cf53 10 = .ok (.ireturn, 1) := by decide +kernel
set_option maxRecDepth 20000 in
theorem ggJ0_length_8abf5_J0_coder_7d493 : GoodIn wsJ0_length_8abf5 wsJ0_coder_7d493 := goodIn_r _ [6, 7, 8] (by decide +kernel) (by decide +kernel)
set_option maxRecDepth 20000 in
theorem gJ0_length_8abf5_J0_coder_7d493 : GoodIn wsJ0_length_8abf5 (wsV RJ0 335 RJ0 yJ0_coder_7d493 wsJ0_coder_7d493) := goodIn_app (goodIn_of _ (by decide +kernel)) ggJ0_length_8abf5_J0_coder_7d493
theorem dJ0_length_8abf5_0 : decode cJ0_length_8abf5 0 = .ok (.aload_n 0, 1) := by decide +kernel
theorem dJ0_length_8abf5_1 : decode cJ0_length_8abf5 1 = .ok (.getfield 9, 3) := by decide +kernel
theorem dJ0_length_8abf5_4 : decode cJ0_length_8abf5 4 = .ok (.arraylength, 1) := by decide +kernel
theorem dJ0_length_8abf5_5 : decode cJ0_length_8abf5 5 = .ok (.aload_n 0, 1) := by decide +kernel
theorem dJ0_length_8abf5_6 : decode cJ0_length_8abf5 6 = .ok (.invokevirtual 335, 3) := by decide +kernel
theorem dJ0_length_8abf5_9 : decode cJ0_length_8abf5 9 = .ok (.ishr, 1) := by decide +kernel
theorem dJ0_length_8abf5_10 : decode cJ0_length_8abf5 10 = .ok (.ireturn, 1) := by decide +kernel
set_option maxRecDepth 20000 in
theorem ggJ0_charAt_5068e_J0_isLatin1_aae02 : GoodIn wsJ0_charAt_5068e wsJ0_isLatin1_aae02 := goodIn_r _ [6, 7, 8] (by decide +kernel) (by decide +kernel)
set_option maxRecDepth 20000 in
theorem gJ0_charAt_5068e_J0_isLatin1_aae02 : GoodIn wsJ0_charAt_5068e (wsV RJ0 492 RJ0 yJ0_isLatin1_aae02 wsJ0_isLatin1_aae02) := goodIn_app (goodIn_of _ (by decide +kernel)) ggJ0_charAt_5068e_J0_isLatin1_aae02
set_option maxRecDepth 20000 in
theorem ggJ0_charAt_5068e_J1_charAt_3b067 : GoodIn wsJ0_charAt_5068e wsJ1_charAt_3b067 := goodIn_r _ [12, 13, 14, 5, 15, 16, 17, 18, 19, 20] (by decide +kernel) (by decide +kernel)
set_option maxRecDepth 20000 in
theorem gJ0_charAt_5068e_J1_charAt_3b067 : GoodIn wsJ0_charAt_5068e (va_wsS RJ0 495 yJ1_charAt_3b067 wsJ1_charAt_3b067) := goodIn_app (goodIn_of _ (by decide +kernel)) ggJ0_charAt_5068e_J1_charAt_3b067
set_option maxRecDepth 20000 in
theorem ggJ0_charAt_5068e_J2_charAt_3b067 : GoodIn wsJ0_charAt_5068e wsJ2_charAt_3b067 := goodIn_r _ [24, 25, 26, 23, 27, 28, 29, 30, 31, 14, 5, 15, 16, 17, 18, 19, 20, 32, 33, 34, 35, 36, 37] (by decide +kernel) (by decide +kernel)
set_option maxRecDepth 20000 in
theorem gJ0_charAt_5068e_J2_charAt_3b067 : GoodIn wsJ0_charAt_5068e (va_wsS RJ0 498 yJ2_charAt_3b067 wsJ2_charAt_3b067) := goodIn_app (goodIn_of _ (by decide +kernel)) ggJ0_charAt_5068e_J2_charAt_3b067
theorem dJ0_charAt_5068e_0 : decode cJ0_charAt_5068e 0 = .ok (.aload_n 0, 1) := by decide +kernel
theorem dJ0_charAt_5068e_1 : decode cJ0_charAt_5068e 1 = .ok (.invokevirtual 492, 3) := by decide +kernel
theorem dJ0_charAt_5068e_4 : decode cJ0_charAt_5068e 4 = .ok (.ifCond .eq 12, 3) := by decide +kernel
theorem dJ0_charAt_5068e_7 : decode cJ0_charAt_5068e 7 = .ok (.aload_n 0, 1) := by decide +kernel
theorem dJ0_charAt_5068e_8 : decode cJ0_charAt_5068e 8 = .ok (.getfield 9, 3) := by decide +kernel
theorem dJ0_charAt_5068e_11 : decode cJ0_charAt_5068e 11 = .ok (.iload_n 1, 1) := by decide +kernel
theorem dJ0_charAt_5068e_12 : decode cJ0_charAt_5068e 12 = .ok (.invokestatic 495, 3) := by decide +kernel
theorem dJ0_charAt_5068e_15 : decode cJ0_charAt_5068e 15 = .ok (.ireturn, 1) := by decide +kernel
theorem dJ0_charAt_5068e_16 : decode cJ0_charAt_5068e 16 = .ok (.aload_n 0, 1) := by decide +kernel
