theorem dX7_may_37 : decode cX7_may 37 = .ok (.iaload, 1) := by decide +kernel
theorem dX7_may_38 : decode cX7_may 38 = .ok (.iload_n 2, 1) := by decide +kernel
theorem dX7_may_39 : decode cX7_may 39 = .ok (.invokevirtual 192, 3) := by decide +kernel
theorem dX7_may_42 : decode cX7_may 42 = .ok (.ifCond .ne 7, 3) := by decide +kernel
theorem dX7_may_45 : decode cX7_may 45 = .ok (.iconst 1, 1) := by decide +kernel
theorem dX7_may_46 : decode cX7_may 46 = .ok (.goto 4, 3) := by decide +kernel
theorem dX7_may_49 : decode cX7_may 49 = .ok (.iconst 0, 1) := by decide +kernel
theorem dX7_may_50 : decode cX7_may 50 = .ok (.ireturn, 1) := by decide +kernel
set_option maxRecDepth 20000 in
theorem ggX7_would_X6_hasCompartment : GoodIn wsX7_would wsX6_hasCompartment := goodIn_r _ [10, 11, 70, 71, 72, 73, 74, 75, 76, 77, 78, 79, 80, 81] (by decide +kernel) (by decide +kernel)
set_option maxRecDepth 20000 in
theorem gX7_would_X6_hasCompartment : GoodIn wsX7_would (wsV RX7 138 RX6 yX6_hasCompartment wsX6_hasCompartment) := goodIn_app (goodIn_of _ (by decide +kernel)) ggX7_would_X6_hasCompartment
set_option maxRecDepth 20000 in
theorem ggX7_would_X6_hasLiquid : GoodIn wsX7_would wsX6_hasLiquid := goodIn_r _ [15, 16, 70, 71, 72, 73, 74, 75, 76, 77, 78, 79, 80, 81] (by decide +kernel) (by decide +kernel)
set_option maxRecDepth 20000 in
theorem gX7_would_X6_hasLiquid : GoodIn wsX7_would (wsV RX7 189 RX6 yX6_hasLiquid wsX6_hasLiquid) := goodIn_app (goodIn_of _ (by decide +kernel)) ggX7_would_X6_hasLiquid
set_option maxRecDepth 20000 in
theorem ggX7_would_X0_copyFrom : GoodIn wsX7_would wsX0_copyFrom := goodIn_r _ [21, 22, 23, 24, 25, 26, 27, 28, 29, 87, 88, 89, 90] (by decide +kernel) (by decide +kernel)
set_option maxRecDepth 20000 in
theorem gX7_would_X0_copyFrom : GoodIn wsX7_would (wsV RX7 196 RX0 yX0_copyFrom wsX0_copyFrom) := goodIn_app (goodIn_of _ (by decide +kernel)) ggX7_would_X0_copyFrom
set_option maxRecDepth 20000 in
theorem ggX7_would_X0_lay : GoodIn wsX7_would wsX0_lay := goodIn_r _ [33, 22, 27, 34, 28, 29, 87, 88, 89, 90, 70, 71, 72, 73, 74, 75, 76, 77, 78, 79, 80, 81] (by decide +kernel) (by decide +kernel)
set_option maxRecDepth 20000 in
theorem gX7_would_X0_lay : GoodIn wsX7_would (wsV RX7 200 RX0 yX0_lay wsX0_lay) := goodIn_app (goodIn_of _ (by decide +kernel)) ggX7_would_X0_lay
set_option maxRecDepth 20000 in
theorem ggX7_would_X0_standing : GoodIn wsX7_would wsX0_standing := goodIn_r _ [38, 39, 40, 41, 42, 20, 43, 44, 22, 45, 46, 47, 48, 49, 50, 51, 52, 53, 27, 54, 55, 56, 57, 58, 70, 71, 72, 73, 74, 75, 76, 77, 78, 79, 80, 81, 87, 88, 89, 90] (by decide +kernel) (by decide +kernel)
set_option maxRecDepth 20000 in
theorem gX7_would_X0_standing : GoodIn wsX7_would (wsV RX7 128 RX0 yX0_standing wsX0_standing) := goodIn_app (goodIn_of _ (by decide +kernel)) ggX7_would_X0_standing
theorem dX7_would_0 : decode cX7_would 0 = .ok (.aload_n 0, 1) := by decide +kernel
theorem dX7_would_1 : decode cX7_would 1 = .ok (.getfield 30, 3) := by decide +kernel
theorem dX7_would_4 : decode cX7_would 4 = .ok (.iload_n 1, 1) := by decide +kernel
theorem dX7_would_5 : decode cX7_would 5 = .ok (.invokevirtual 138, 3) := by decide +kernel
theorem dX7_would_8 : decode cX7_would 8 = .ok (.ifCond .eq 31, 3) := by decide +kernel
theorem dX7_would_11 : decode cX7_would 11 = .ok (.aload_n 0, 1) := by decide +kernel
theorem dX7_would_12 : decode cX7_would 12 = .ok (.getfield 30, 3) := by decide +kernel
theorem dX7_would_15 : decode cX7_would 15 = .ok (.iload_n 2, 1) := by decide +kernel
theorem dX7_would_16 : decode cX7_would 16 = .ok (.invokevirtual 189, 3) := by decide +kernel
theorem dX7_would_19 : decode cX7_would 19 = .ok (.ifCond .eq 20, 3) := by decide +kernel
theorem dX7_would_22 : decode cX7_would 22 = .ok (.iload_n 3, 1) := by decide +kernel
theorem dX7_would_23 : decode cX7_would 23 = .ok (.ifCond .lt 16, 3) := by decide +kernel
theorem dX7_would_26 : decode cX7_would 26 = .ok (.iload_n 3, 1) := by decide +kernel
theorem dX7_would_27 : decode cX7_would 27 = .ok (.aload_n 0, 1) := by decide +kernel
theorem dX7_would_28 : decode cX7_would 28 = .ok (.getfield 30, 3) := by decide +kernel
theorem dX7_would_31 : decode cX7_would 31 = .ok (.getfield 142, 3) := by decide +kernel
theorem dX7_would_34 : decode cX7_would 34 = .ok (.iload_n 1, 1) := by decide +kernel
theorem dX7_would_35 : decode cX7_would 35 = .ok (.iaload, 1) := by decide +kernel
theorem dX7_would_36 : decode cX7_would 36 = .ok (.if_icmp .le 5, 3) := by decide +kernel
theorem dX7_would_39 : decode cX7_would 39 = .ok (.iconst (-1), 1) := by decide +kernel
theorem dX7_would_40 : decode cX7_would 40 = .ok (.ireturn, 1) := by decide +kernel
theorem dX7_would_41 : decode cX7_would 41 = .ok (.aload_n 0, 1) := by decide +kernel
theorem dX7_would_42 : decode cX7_would 42 = .ok (.getfield 54, 3) := by decide +kernel
theorem dX7_would_45 : decode cX7_would 45 = .ok (.aload_n 0, 1) := by decide +kernel
theorem dX7_would_46 : decode cX7_would 46 = .ok (.getfield 40, 3) := by decide +kernel
theorem dX7_would_49 : decode cX7_would 49 = .ok (.getfield 118, 3) := by decide +kernel
theorem dX7_would_52 : decode cX7_would 52 = .ok (.invokevirtual 196, 3) := by decide +kernel
theorem dX7_would_55 : decode cX7_would 55 = .ok (.aload_n 0, 1) := by decide +kernel
theorem dX7_would_56 : decode cX7_would 56 = .ok (.getfield 54, 3) := by decide +kernel
theorem dX7_would_59 : decode cX7_would 59 = .ok (.aload_n 0, 1) := by decide +kernel
theorem dX7_would_60 : decode cX7_would 60 = .ok (.getfield 30, 3) := by decide +kernel
theorem dX7_would_63 : decode cX7_would 63 = .ok (.iload_n 1, 1) := by decide +kernel
theorem dX7_would_64 : decode cX7_would 64 = .ok (.iconst (-1), 1) := by decide +kernel
theorem dX7_would_65 : decode cX7_would 65 = .ok (.iload_n 2, 1) := by decide +kernel
theorem dX7_would_66 : decode cX7_would 66 = .ok (.iload_n 3, 1) := by decide +kernel
theorem dX7_would_67 : decode cX7_would 67 = .ok (.invokevirtual 200, 3) := by decide +kernel
theorem dX7_would_70 : decode cX7_would 70 = .ok (.aload_n 0, 1) := by decide +kernel
theorem dX7_would_71 : decode cX7_would 71 = .ok (.getfield 54, 3) := by decide +kernel
theorem dX7_would_74 : decode cX7_would 74 = .ok (.aload_n 0, 1) := by decide +kernel
theorem dX7_would_75 : decode cX7_would 75 = .ok (.getfield 30, 3) := by decide +kernel
theorem dX7_would_78 : decode cX7_would 78 = .ok (.iconst 0, 1) := by decide +kernel
theorem dX7_would_79 : decode cX7_would 79 = .ok (.invokevirtual 128, 3) := by decide +kernel
theorem dX7_would_82 : decode cX7_would 82 = .ok (.ireturn, 1) := by decide +kernel
set_option maxRecDepth 20000 in
theorem ggX7_orders_X2_count : GoodIn wsX7_orders wsX2_count := goodIn_r _ [10, 11, 12, 13, 14, 15, 9, 16, 17, 18, 19, 20, 21, 22, 23, 24, 25, 26, 27, 28, 29, 30, 31, 32, 33, 34, 35, 36, 37, 38, 39, 40, 41, 42, 43, 44, 45, 46, 47, 48, 49, 50, 51, 52, 53, 54, 55, 56, 57, 58, 59, 60, 61, 62, 63, 80, 81, 82, 83, 84, 85, 86, 87, 88, 89, 90, 91, 92, 93, 94, 95, 96, 97, 98, 99] (by decide +kernel) (by decide +kernel)
set_option maxRecDepth 20000 in
theorem gX7_orders_X2_count : GoodIn wsX7_orders (wsV RX7 204 RX2 yX2_count wsX2_count) := goodIn_app (goodIn_of _ (by decide +kernel)) ggX7_orders_X2_count
theorem dX7_orders_0 : decode cX7_orders 0 = .ok (.aload_n 0, 1) := by decide +kernel
theorem dX7_orders_1 : decode cX7_orders 1 = .ok (.getfield 61, 3) := by decide +kernel
theorem dX7_orders_4 : decode cX7_orders 4 = .ok (.aload_n 0, 1) := by decide +kernel
theorem dX7_orders_5 : decode cX7_orders 5 = .ok (.getfield 30, 3) := by decide +kernel
theorem dX7_orders_8 : decode cX7_orders 8 = .ok (.aload_n 0, 1) := by decide +kernel
theorem dX7_orders_9 : decode cX7_orders 9 = .ok (.getfield 40, 3) := by decide +kernel
theorem dX7_orders_12 : decode cX7_orders 12 = .ok (.getfield 118, 3) := by decide +kernel
theorem dX7_orders_15 : decode cX7_orders 15 = .ok (.aload_n 0, 1) := by decide +kernel
theorem dX7_orders_16 : decode cX7_orders 16 = .ok (.getfield 40, 3) := by decide +kernel
theorem dX7_orders_19 : decode cX7_orders 19 = .ok (.getfield 105, 3) := by decide +kernel
theorem dX7_orders_22 : decode cX7_orders 22 = .ok (.invokevirtual 204, 3) := by decide +kernel
theorem dX7_orders_25 : decode cX7_orders 25 = .ok (.ireturn, 1) := by decide +kernel
set_option maxRecDepth 20000 in
theorem ggX7_ordered_X2_count : GoodIn wsX7_ordered wsX2_count := goodIn_r _ [10, 11, 12, 13, 14, 15, 9, 16, 17, 18, 19, 20, 21, 22, 23, 24, 25, 26, 27, 28, 29, 30, 31, 32, 33, 34, 35, 36, 37, 38, 39, 40, 41, 42, 43, 44, 45, 46, 47, 48, 49, 50, 51, 52, 53, 54, 55, 56, 57, 58, 59, 60, 61, 62, 63, 88, 89, 90, 91, 92, 93, 94, 95, 96, 97, 98, 99, 100, 101, 102, 103, 104, 105, 106, 107] (by decide +kernel) (by decide +kernel)
set_option maxRecDepth 20000 in
theorem gX7_ordered_X2_count : GoodIn wsX7_ordered (wsV RX7 204 RX2 yX2_count wsX2_count) := goodIn_app (goodIn_of _ (by decide +kernel)) ggX7_ordered_X2_count
set_option maxRecDepth 20000 in
theorem ggX7_ordered_X2_dropOfFirst : GoodIn wsX7_ordered wsX2_dropOfFirst := goodIn_r _ [67, 11, 12, 18, 68, 69, 70, 9, 71, 88, 89, 90, 91] (by decide +kernel) (by decide +kernel)
set_option maxRecDepth 20000 in
theorem gX7_ordered_X2_dropOfFirst : GoodIn wsX7_ordered (wsV RX7 208 RX2 yX2_dropOfFirst wsX2_dropOfFirst) := goodIn_app (goodIn_of _ (by decide +kernel)) ggX7_ordered_X2_dropOfFirst
theorem dX7_ordered_0 : decode cX7_ordered 0 = .ok (.aload_n 0, 1) := by decide +kernel
theorem dX7_ordered_1 : decode cX7_ordered 1 = .ok (.getfield 61, 3) := by decide +kernel
theorem dX7_ordered_4 : decode cX7_ordered 4 = .ok (.aload_n 0, 1) := by decide +kernel
theorem dX7_ordered_5 : decode cX7_ordered 5 = .ok (.getfield 30, 3) := by decide +kernel
theorem dX7_ordered_8 : decode cX7_ordered 8 = .ok (.aload_n 0, 1) := by decide +kernel
theorem dX7_ordered_9 : decode cX7_ordered 9 = .ok (.getfield 40, 3) := by decide +kernel
theorem dX7_ordered_12 : decode cX7_ordered 12 = .ok (.getfield 118, 3) := by decide +kernel
theorem dX7_ordered_15 : decode cX7_ordered 15 = .ok (.aload_n 0, 1) := by decide +kernel
theorem dX7_ordered_16 : decode cX7_ordered 16 = .ok (.getfield 40, 3) := by decide +kernel
theorem dX7_ordered_19 : decode cX7_ordered 19 = .ok (.getfield 105, 3) := by decide +kernel
theorem dX7_ordered_22 : decode cX7_ordered 22 = .ok (.invokevirtual 204, 3) := by decide +kernel
theorem dX7_ordered_25 : decode cX7_ordered 25 = .ok (.pop, 1) := by decide +kernel
theorem dX7_ordered_26 : decode cX7_ordered 26 = .ok (.aload_n 0, 1) := by decide +kernel
theorem dX7_ordered_27 : decode cX7_ordered 27 = .ok (.getfield 61, 3) := by decide +kernel
theorem dX7_ordered_30 : decode cX7_ordered 30 = .ok (.iload_n 1, 1) := by decide +kernel
theorem dX7_ordered_31 : decode cX7_ordered 31 = .ok (.invokevirtual 208, 3) := by decide +kernel
theorem dX7_ordered_34 : decode cX7_ordered 34 = .ok (.ireturn, 1) := by decide +kernel
set_option maxRecDepth 20000 in
theorem ggX7_without_X7_isSo : GoodIn wsX7_without wsX7_isSo := goodIn_r _ [8, 1, 3, 9, 10, 11, 12, 13, 14, 15, 16, 17, 18, 19, 20, 21, 22, 23, 24, 25, 26, 27, 28, 58, 59, 60, 61, 62, 63, 64, 65, 66, 67, 68, 69, 70, 71, 72, 73, 74, 75, 76, 77, 78, 79, 80, 81, 82, 83, 84, 85, 86, 87, 88, 89] (by decide +kernel) (by decide +kernel)
set_option maxRecDepth 20000 in
theorem gX7_without_X7_isSo : GoodIn wsX7_without (wsV RX7 211 RX7 yX7_isSo wsX7_isSo) := goodIn_app (goodIn_of _ (by decide +kernel)) ggX7_without_X7_isSo
set_option maxRecDepth 20000 in
theorem ggX7_without_X0_partsOf : GoodIn wsX7_without wsX0_partsOf := goodIn_r _ [32, 27, 86, 87, 88, 89] (by decide +kernel) (by decide +kernel)
set_option maxRecDepth 20000 in
theorem gX7_without_X0_partsOf : GoodIn wsX7_without (wsV RX7 214 RX0 yX0_partsOf wsX0_partsOf) := goodIn_app (goodIn_of _ (by decide +kernel)) ggX7_without_X0_partsOf
set_option maxRecDepth 20000 in
theorem ggX7_without_X0_standing : GoodIn wsX7_without wsX0_standing := goodIn_r _ [36, 37, 38, 39, 40, 25, 41, 42, 28, 43, 44, 45, 46, 47, 48, 49, 50, 51, 52, 53, 54, 55, 56, 57, 74, 75, 76, 77, 78, 79, 80, 81, 82, 83, 84, 85, 86, 87, 88, 89] (by decide +kernel) (by decide +kernel)
set_option maxRecDepth 20000 in
theorem gX7_without_X0_standing : GoodIn wsX7_without (wsV RX7 128 RX0 yX0_standing wsX0_standing) := goodIn_app (goodIn_of _ (by decide +kernel)) ggX7_without_X0_standing
theorem dX7_without_0 : decode cX7_without 0 = .ok (.aload_n 0, 1) := by decide +kernel
theorem dX7_without_1 : decode cX7_without 1 = .ok (.iload_n 1, 1) := by decide +kernel
theorem dX7_without_2 : decode cX7_without 2 = .ok (.iconst 1, 1) := by decide +kernel
theorem dX7_without_3 : decode cX7_without 3 = .ok (.invokevirtual 211, 3) := by decide +kernel
theorem dX7_without_6 : decode cX7_without 6 = .ok (.ifCond .ne 5, 3) := by decide +kernel
theorem dX7_without_9 : decode cX7_without 9 = .ok (.iconst (-1), 1) := by decide +kernel
theorem dX7_without_10 : decode cX7_without 10 = .ok (.ireturn, 1) := by decide +kernel
theorem dX7_without_11 : decode cX7_without 11 = .ok (.aload_n 0, 1) := by decide +kernel
theorem dX7_without_12 : decode cX7_without 12 = .ok (.getfield 40, 3) := by decide +kernel
theorem dX7_without_15 : decode cX7_without 15 = .ok (.getfield 118, 3) := by decide +kernel
theorem dX7_without_18 : decode cX7_without 18 = .ok (.aload_n 0, 1) := by decide +kernel
theorem dX7_without_19 : decode cX7_without 19 = .ok (.getfield 30, 3) := by decide +kernel
theorem dX7_without_22 : decode cX7_without 22 = .ok (.aload_n 0, 1) := by decide +kernel
theorem dX7_without_23 : decode cX7_without 23 = .ok (.getfield 40, 3) := by decide +kernel
theorem dX7_without_26 : decode cX7_without 26 = .ok (.getfield 118, 3) := by decide +kernel
theorem dX7_without_29 : decode cX7_without 29 = .ok (.iload_n 1, 1) := by decide +kernel
theorem dX7_without_30 : decode cX7_without 30 = .ok (.invokevirtual 214, 3) := by decide +kernel
theorem dX7_without_33 : decode cX7_without 33 = .ok (.invokevirtual 128, 3) := by decide +kernel
theorem dX7_without_36 : decode cX7_without 36 = .ok (.ireturn, 1) := by decide +kernel
set_option maxRecDepth 20000 in
theorem ggX7_plan_X3_findsPlan : GoodIn wsX7_plan wsX3_findsPlan := goodIn_r _ [12, 13, 14, 15, 16, 11, 17, 18, 19, 20, 21, 22, 23, 24, 25, 26, 27, 28, 29, 30, 31, 32, 33, 34, 35, 36, 37, 38, 39, 40, 41, 42, 43, 44, 45, 46, 47, 48, 49, 50, 51, 52, 53, 54, 55, 56, 57, 58, 59, 60, 61, 62, 63, 64, 65, 66, 67, 68, 69, 70, 71, 72, 73, 74, 75, 76, 77, 78, 79, 80, 81, 82, 83, 84, 85, 86, 87, 88, 89, 90, 91, 92, 93, 94, 95, 96, 97, 98, 99, 100, 101, 102, 103, 104, 105, 106, 107, 108, 109, 110, 111, 112, 113, 114, 115, 116, 117, 118, 119, 120, 121, 122, 123, 124, 125, 126, 127, 128, 129, 130, 131, 132, 133, 134, 135, 136, 137, 138, 139, 140, 141, 142, 143, 144, 145, 146, 147, 148, 149, 150, 151, 152, 153, 154, 155, 156, 157, 158, 159, 160, 161, 162, 163, 164, 165, 166, 167, 168, 169, 170, 171, 172, 189, 190, 191, 192, 193, 194, 195, 196, 197, 198, 199, 200, 201, 202, 203, 204, 205, 206, 207, 208, 209, 210, 211, 212, 213, 214, 215, 216, 217, 218, 219, 220, 221, 222, 223, 224, 225, 226, 227, 228, 229, 230, 231] (by decide +kernel) (by decide +kernel)
set_option maxRecDepth 20000 in
theorem gX7_plan_X3_findsPlan : GoodIn wsX7_plan (wsV RX7 217 RX3 yX3_findsPlan wsX3_findsPlan) := goodIn_app (goodIn_of _ (by decide +kernel)) ggX7_plan_X3_findsPlan
set_option maxRecDepth 20000 in
theorem ggX7_plan_X6_hasCompartment : GoodIn wsX7_plan wsX6_hasCompartment := goodIn_r _ [176, 177, 212, 213, 214, 215, 216, 217, 218, 219, 220, 221, 222, 223] (by decide +kernel) (by decide +kernel)
set_option maxRecDepth 20000 in
theorem gX7_plan_X6_hasCompartment : GoodIn wsX7_plan (wsV RX7 138 RX6 yX6_hasCompartment wsX6_hasCompartment) := goodIn_app (goodIn_of _ (by decide +kernel)) ggX7_plan_X6_hasCompartment
theorem dX7_plan_0 : decode cX7_plan 0 = .ok (.aload_n 0, 1) := by decide +kernel
theorem dX7_plan_1 : decode cX7_plan 1 = .ok (.getfield 68, 3) := by decide +kernel
theorem dX7_plan_4 : decode cX7_plan 4 = .ok (.aload_n 0, 1) := by decide +kernel
theorem dX7_plan_5 : decode cX7_plan 5 = .ok (.getfield 30, 3) := by decide +kernel
theorem dX7_plan_8 : decode cX7_plan 8 = .ok (.aload_n 0, 1) := by decide +kernel
theorem dX7_plan_9 : decode cX7_plan 9 = .ok (.getfield 40, 3) := by decide +kernel
theorem dX7_plan_12 : decode cX7_plan 12 = .ok (.invokevirtual 217, 3) := by decide +kernel
theorem dX7_plan_15 : decode cX7_plan 15 = .ok (.ifCond .ne 6, 3) := by decide +kernel
theorem dX7_plan_18 : decode cX7_plan 18 = .ok (.bipush (-2), 2) := by decide +kernel
theorem dX7_plan_20 : decode cX7_plan 20 = .ok (.ireturn, 1) := by decide +kernel
theorem dX7_plan_21 : decode cX7_plan 21 = .ok (.iload_n 1, 1) := by decide +kernel
theorem dX7_plan_22 : decode cX7_plan 22 = .ok (.ifCond .ne 11, 3) := by decide +kernel
theorem dX7_plan_25 : decode cX7_plan 25 = .ok (.aload_n 0, 1) := by decide +kernel
theorem dX7_plan_26 : decode cX7_plan 26 = .ok (.getfield 68, 3) := by decide +kernel
theorem dX7_plan_29 : decode cX7_plan 29 = .ok (.getfield 221, 3) := by decide +kernel
theorem dX7_plan_32 : decode cX7_plan 32 = .ok (.ireturn, 1) := by decide +kernel
theorem dX7_plan_33 : decode cX7_plan 33 = .ok (.iload_n 1, 1) := by decide +kernel
theorem dX7_plan_34 : decode cX7_plan 34 = .ok (.iconst 1, 1) := by decide +kernel
theorem dX7_plan_35 : decode cX7_plan 35 = .ok (.if_icmp .ne 11, 3) := by decide +kernel
theorem dX7_plan_38 : decode cX7_plan 38 = .ok (.aload_n 0, 1) := by decide +kernel
theorem dX7_plan_39 : decode cX7_plan 39 = .ok (.getfield 68, 3) := by decide +kernel
theorem dX7_plan_42 : decode cX7_plan 42 = .ok (.getfield 224, 3) := by decide +kernel
theorem dX7_plan_45 : decode cX7_plan 45 = .ok (.ireturn, 1) := by decide +kernel
theorem dX7_plan_46 : decode cX7_plan 46 = .ok (.iload_n 1, 1) := by decide +kernel
theorem dX7_plan_47 : decode cX7_plan 47 = .ok (.bipush 10, 2) := by decide +kernel
theorem dX7_plan_49 : decode cX7_plan 49 = .ok (.if_icmp .lt 30, 3) := by decide +kernel
theorem dX7_plan_52 : decode cX7_plan 52 = .ok (.aload_n 0, 1) := by decide +kernel
theorem dX7_plan_53 : decode cX7_plan 53 = .ok (.getfield 30, 3) := by decide +kernel
theorem dX7_plan_56 : decode cX7_plan 56 = .ok (.iload_n 1, 1) := by decide +kernel
theorem dX7_plan_57 : decode cX7_plan 57 = .ok (.bipush 10, 2) := by decide +kernel
theorem dX7_plan_59 : decode cX7_plan 59 = .ok (.isub, 1) := by decide +kernel
theorem dX7_plan_60 : decode cX7_plan 60 = .ok (.invokevirtual 138, 3) := by decide +kernel
theorem dX7_plan_63 : decode cX7_plan 63 = .ok (.ifCond .eq 16, 3) := by decide +kernel
theorem dX7_plan_66 : decode cX7_plan 66 = .ok (.aload_n 0, 1) := by decide +kernel
theorem dX7_plan_67 : decode cX7_plan 67 = .ok (.getfield 68, 3) := by decide +kernel
theorem dX7_plan_70 : decode cX7_plan 70 = .ok (.getfield 227, 3) := by decide +kernel
theorem dX7_plan_73 : decode cX7_plan 73 = .ok (.iload_n 1, 1) := by decide +kernel
theorem dX7_plan_74 : decode cX7_plan 74 = .ok (.bipush 10, 2) := by decide +kernel
theorem dX7_plan_76 : decode cX7_plan 76 = .ok (.isub, 1) := by decide +kernel
theorem dX7_plan_77 : decode cX7_plan 77 = .ok (.iaload, 1) := by decide +kernel
theorem dX7_plan_78 : decode cX7_plan 78 = .ok (.ireturn, 1) := by decide +kernel
theorem dX7_plan_79 : decode cX7_plan 79 = .ok (.iload_n 1, 1) := by decide +kernel
theorem dX7_plan_80 : decode cX7_plan 80 = .ok (.bipush 20, 2) := by decide +kernel
theorem dX7_plan_82 : decode cX7_plan 82 = .ok (.if_icmp .lt 30, 3) := by decide +kernel
theorem dX7_plan_85 : decode cX7_plan 85 = .ok (.aload_n 0, 1) := by decide +kernel
theorem dX7_plan_86 : decode cX7_plan 86 = .ok (.getfield 30, 3) := by decide +kernel
theorem dX7_plan_89 : decode cX7_plan 89 = .ok (.iload_n 1, 1) := by decide +kernel
theorem dX7_plan_90 : decode cX7_plan 90 = .ok (.bipush 20, 2) := by decide +kernel
theorem dX7_plan_92 : decode cX7_plan 92 = .ok (.isub, 1) := by decide +kernel
theorem dX7_plan_93 : decode cX7_plan 93 = .ok (.invokevirtual 138, 3) := by decide +kernel
theorem dX7_plan_96 : decode cX7_plan 96 = .ok (.ifCond .eq 16, 3) := by decide +kernel
theorem dX7_plan_99 : decode cX7_plan 99 = .ok (.aload_n 0, 1) := by decide +kernel
theorem dX7_plan_100 : decode cX7_plan 100 = .ok (.getfield 68, 3) := by decide +kernel
theorem dX7_plan_103 : decode cX7_plan 103 = .ok (.getfield 230, 3) := by decide +kernel
theorem dX7_plan_106 : decode cX7_plan 106 = .ok (.iload_n 1, 1) := by decide +kernel
theorem dX7_plan_107 : decode cX7_plan 107 = .ok (.bipush 20, 2) := by decide +kernel
theorem dX7_plan_109 : decode cX7_plan 109 = .ok (.isub, 1) := by decide +kernel
theorem dX7_plan_110 : decode cX7_plan 110 = .ok (.iaload, 1) := by decide +kernel
theorem dX7_plan_111 : decode cX7_plan 111 = .ok (.ireturn, 1) := by decide +kernel
theorem dX7_plan_112 : decode cX7_plan 112 = .ok (.iconst (-1), 1) := by decide +kernel
theorem dX7_plan_113 : decode cX7_plan 113 = .ok (.ireturn, 1) := by decide +kernel
set_option maxRecDepth 20000 in
theorem ggX7_washes_X3_fewestWashes : GoodIn wsX7_washes wsX3_fewestWashes := goodIn_r _ [8, 9, 10, 11, 12, 13, 7, 14, 15, 16, 17, 18, 19, 20, 21, 22, 23, 24, 25, 26, 27, 28, 29, 30, 31, 32, 33, 34, 35, 36, 37, 38, 39, 40, 41, 42, 43, 44, 45, 46, 47, 48, 49, 50, 51, 52, 53, 54, 55, 56, 57, 58, 59, 60, 61, 62, 63, 64, 65, 66, 67, 68, 69, 70, 71, 72, 73, 74, 75, 76, 77, 78, 79, 80, 81, 82, 83, 84, 85, 86, 87, 88, 89, 90, 91, 92, 93, 94, 95, 96, 97, 98, 99, 100, 101, 102, 103, 104, 105, 106, 107, 108, 109, 110, 111, 112, 113, 114, 115, 116, 117, 118, 119, 120, 121, 122, 123, 124, 125, 126, 127, 128, 129, 130, 131, 132, 133, 134, 135, 136, 137, 138, 139, 140, 141, 142, 143, 144, 145, 146, 147, 148, 149, 150, 151, 152, 153, 154, 155, 156, 157, 158, 159, 160, 161, 162, 163, 164, 165, 166, 167, 168, 180, 181, 182, 183, 184, 185, 186, 187, 188, 189, 190, 191, 192, 193, 194, 195, 196, 197, 198, 199, 200, 201, 202, 203, 204, 205, 206, 207, 208, 209, 210, 211, 212, 213, 214, 215, 216, 217, 218, 219, 220, 221, 222] (by decide +kernel) (by decide +kernel)
set_option maxRecDepth 20000 in
theorem gX7_washes_X3_fewestWashes : GoodIn wsX7_washes (wsV RX7 233 RX3 yX3_fewestWashes wsX3_fewestWashes) := goodIn_app (goodIn_of _ (by decide +kernel)) ggX7_washes_X3_fewestWashes
theorem dX7_washes_0 : decode cX7_washes 0 = .ok (.aload_n 0, 1) := by decide +kernel
theorem dX7_washes_1 : decode cX7_washes 1 = .ok (.getfield 68, 3) := by decide +kernel
theorem dX7_washes_4 : decode cX7_washes 4 = .ok (.aload_n 0, 1) := by decide +kernel
theorem dX7_washes_5 : decode cX7_washes 5 = .ok (.getfield 30, 3) := by decide +kernel
theorem dX7_washes_8 : decode cX7_washes 8 = .ok (.aload_n 0, 1) := by decide +kernel
theorem dX7_washes_9 : decode cX7_washes 9 = .ok (.getfield 40, 3) := by decide +kernel
theorem dX7_washes_12 : decode cX7_washes 12 = .ok (.invokevirtual 233, 3) := by decide +kernel
theorem dX7_washes_15 : decode cX7_washes 15 = .ok (.istore_n 1, 1) := by decide +kernel
theorem dX7_washes_16 : decode cX7_washes 16 = .ok (.iload_n 1, 1) := by decide +kernel
theorem dX7_washes_17 : decode cX7_washes 17 = .ok (.iconst (-1), 1) := by decide +kernel
theorem dX7_washes_18 : decode cX7_washes 18 = .ok (.if_icmp .ne 8, 3) := by decide +kernel
theorem dX7_washes_21 : decode cX7_washes 21 = .ok (.bipush (-2), 2) := by decide +kernel
theorem dX7_washes_23 : decode cX7_washes 23 = .ok (.goto 4, 3) := by decide +kernel
theorem dX7_washes_26 : decode cX7_washes 26 = .ok (.iload_n 1, 1) := by decide +kernel
theorem dX7_washes_27 : decode cX7_washes 27 = .ok (.ireturn, 1) := by decide +kernel
set_option maxRecDepth 20000 in
theorem ggX7_asks_X6_hasLiquid : GoodIn wsX7_asks wsX6_hasLiquid := goodIn_r _ [11, 12, 82, 83, 84, 85, 86, 87, 88, 89, 90, 91, 92, 93] (by decide +kernel) (by decide +kernel)
set_option maxRecDepth 20000 in
theorem gX7_asks_X6_hasLiquid : GoodIn wsX7_asks (wsV RX7 189 RX6 yX6_hasLiquid wsX6_hasLiquid) := goodIn_app (goodIn_of _ (by decide +kernel)) ggX7_asks_X6_hasLiquid
set_option maxRecDepth 20000 in
theorem ggX7_asks_X5_waiting : GoodIn wsX7_asks wsX5_waiting := goodIn_r _ [17, 18, 19, 20, 21, 16, 22, 23, 24, 25, 26, 27, 28, 29, 30, 31, 32, 77, 78, 79, 80, 81, 82, 83, 84, 85, 86, 87, 88, 89, 90, 91, 92, 93, 94, 95, 96, 97] (by decide +kernel) (by decide +kernel)
set_option maxRecDepth 20000 in
theorem gX7_asks_X5_waiting : GoodIn wsX7_asks (wsV RX7 237 RX5 yX5_waiting wsX5_waiting) := goodIn_app (goodIn_of _ (by decide +kernel)) ggX7_asks_X5_waiting
set_option maxRecDepth 20000 in
theorem ggX7_asks_X1_keep : GoodIn wsX7_asks wsX1_keep := goodIn_r _ [37, 38, 39, 40, 41, 42, 43, 44, 45, 46, 47, 16, 48, 24, 18, 23, 49, 50, 51, 52, 53, 54, 55, 56, 57, 29, 58, 32, 59, 60, 31, 61, 98, 99, 100, 77, 78, 79, 80, 81, 94, 95, 96, 97] (by decide +kernel) (by decide +kernel)
set_option maxRecDepth 20000 in
theorem gX7_asks_X1_keep : GoodIn wsX7_asks (wsV RX7 241 RX1 yX1_keep wsX1_keep) := goodIn_app (goodIn_of _ (by decide +kernel)) ggX7_asks_X1_keep
set_option maxRecDepth 20000 in
theorem ggX7_asks_X5_addDrop : GoodIn wsX7_asks wsX5_addDrop := goodIn_r _ [65, 18, 23, 53, 77, 78, 79, 80, 81] (by decide +kernel) (by decide +kernel)
set_option maxRecDepth 20000 in
theorem gX7_asks_X5_addDrop : GoodIn wsX7_asks (wsV RX7 245 RX5 yX5_addDrop wsX5_addDrop) := goodIn_app (goodIn_of _ (by decide +kernel)) ggX7_asks_X5_addDrop
theorem dX7_asks_0 : decode cX7_asks 0 = .ok (.aload_n 0, 1) := by decide +kernel
theorem dX7_asks_1 : decode cX7_asks 1 = .ok (.getfield 30, 3) := by decide +kernel
theorem dX7_asks_4 : decode cX7_asks 4 = .ok (.iload_n 1, 1) := by decide +kernel
theorem dX7_asks_5 : decode cX7_asks 5 = .ok (.invokevirtual 189, 3) := by decide +kernel
theorem dX7_asks_8 : decode cX7_asks 8 = .ok (.ifCond .eq 15, 3) := by decide +kernel
theorem dX7_asks_11 : decode cX7_asks 11 = .ok (.iload_n 2, 1) := by decide +kernel
theorem dX7_asks_12 : decode cX7_asks 12 = .ok (.iconst 1, 1) := by decide +kernel
theorem dX7_asks_13 : decode cX7_asks 13 = .ok (.if_icmp .lt 10, 3) := by decide +kernel
theorem dX7_asks_16 : decode cX7_asks 16 = .ok (.iload_n 2, 1) := by decide +kernel
theorem dX7_asks_17 : decode cX7_asks 17 = .ok (.sipush 4995, 3) := by decide +kernel
theorem dX7_asks_20 : decode cX7_asks 20 = .ok (.if_icmp .le 5, 3) := by decide +kernel
theorem dX7_asks_23 : decode cX7_asks 23 = .ok (.iconst (-1), 1) := by decide +kernel
theorem dX7_asks_24 : decode cX7_asks 24 = .ok (.ireturn, 1) := by decide +kernel
theorem dX7_asks_25 : decode cX7_asks 25 = .ok (.aload_n 0, 1) := by decide +kernel
theorem dX7_asks_26 : decode cX7_asks 26 = .ok (.getfield 40, 3) := by decide +kernel
theorem dX7_asks_29 : decode cX7_asks 29 = .ok (.aload_n 0, 1) := by decide +kernel
theorem dX7_asks_30 : decode cX7_asks 30 = .ok (.getfield 30, 3) := by decide +kernel
theorem dX7_asks_33 : decode cX7_asks 33 = .ok (.invokevirtual 237, 3) := by decide +kernel
theorem dX7_asks_36 : decode cX7_asks 36 = .ok (.iconst 4, 1) := by decide +kernel
theorem dX7_asks_37 : decode cX7_asks 37 = .ok (.if_icmp .lt 6, 3) := by decide +kernel
theorem dX7_asks_40 : decode cX7_asks 40 = .ok (.bipush (-2), 2) := by decide +kernel
theorem dX7_asks_42 : decode cX7_asks 42 = .ok (.ireturn, 1) := by decide +kernel
theorem dX7_asks_43 : decode cX7_asks 43 = .ok (.aload_n 0, 1) := by decide +kernel
theorem dX7_asks_44 : decode cX7_asks 44 = .ok (.getfield 40, 3) := by decide +kernel
theorem dX7_asks_47 : decode cX7_asks 47 = .ok (.getfield 105, 3) := by decide +kernel
theorem dX7_asks_50 : decode cX7_asks 50 = .ok (.bipush 20, 2) := by decide +kernel
theorem dX7_asks_52 : decode cX7_asks 52 = .ok (.if_icmp .lt 6, 3) := by decide +kernel
theorem dX7_asks_55 : decode cX7_asks 55 = .ok (.bipush (-3), 2) := by decide +kernel
theorem dX7_asks_57 : decode cX7_asks 57 = .ok (.ireturn, 1) := by decide +kernel
theorem dX7_asks_58 : decode cX7_asks 58 = .ok (.aload_n 0, 1) := by decide +kernel
theorem dX7_asks_59 : decode cX7_asks 59 = .ok (.getfield 47, 3) := by decide +kernel
theorem dX7_asks_62 : decode cX7_asks 62 = .ok (.aload_n 0, 1) := by decide +kernel
theorem dX7_asks_63 : decode cX7_asks 63 = .ok (.getfield 40, 3) := by decide +kernel
theorem dX7_asks_66 : decode cX7_asks 66 = .ok (.invokevirtual 241, 3) := by decide +kernel
theorem dX7_asks_69 : decode cX7_asks 69 = .ok (.aload_n 0, 1) := by decide +kernel
theorem dX7_asks_70 : decode cX7_asks 70 = .ok (.getfield 40, 3) := by decide +kernel
theorem dX7_asks_73 : decode cX7_asks 73 = .ok (.getfield 105, 3) := by decide +kernel
theorem dX7_asks_76 : decode cX7_asks 76 = .ok (.istore_n 3, 1) := by decide +kernel
theorem dX7_asks_77 : decode cX7_asks 77 = .ok (.aload_n 0, 1) := by decide +kernel
theorem dX7_asks_78 : decode cX7_asks 78 = .ok (.getfield 30, 3) := by decide +kernel
theorem dX7_asks_81 : decode cX7_asks 81 = .ok (.getfield 171, 3) := by decide +kernel
theorem dX7_asks_84 : decode cX7_asks 84 = .ok (.iload_n 3, 1) := by decide +kernel
theorem dX7_asks_85 : decode cX7_asks 85 = .ok (.iload_n 1, 1) := by decide +kernel
theorem dX7_asks_86 : decode cX7_asks 86 = .ok (.iastore, 1) := by decide +kernel
theorem dX7_asks_87 : decode cX7_asks 87 = .ok (.aload_n 0, 1) := by decide +kernel
theorem dX7_asks_88 : decode cX7_asks 88 = .ok (.getfield 30, 3) := by decide +kernel
theorem dX7_asks_91 : decode cX7_asks 91 = .ok (.getfield 174, 3) := by decide +kernel
theorem dX7_asks_94 : decode cX7_asks 94 = .ok (.iload_n 3, 1) := by decide +kernel
theorem dX7_asks_95 : decode cX7_asks 95 = .ok (.iload_n 2, 1) := by decide +kernel
theorem dX7_asks_96 : decode cX7_asks 96 = .ok (.iastore, 1) := by decide +kernel
theorem dX7_asks_97 : decode cX7_asks 97 = .ok (.aload_n 0, 1) := by decide +kernel
theorem dX7_asks_98 : decode cX7_asks 98 = .ok (.getfield 40, 3) := by decide +kernel
theorem dX7_asks_101 : decode cX7_asks 101 = .ok (.invokevirtual 245, 3) := by decide +kernel
theorem dX7_asks_104 : decode cX7_asks 104 = .ok (.iload_n 3, 1) := by decide +kernel
theorem dX7_asks_105 : decode cX7_asks 105 = .ok (.ireturn, 1) := by decide +kernel
set_option maxRecDepth 20000 in
theorem ggX7_cancel_X7_isSo : GoodIn wsX7_cancel wsX7_isSo := goodIn_r _ [9, 1, 10, 11, 12, 13, 14, 15, 16, 17, 18, 19, 20, 21, 22, 23, 24, 25, 26, 27, 28, 29, 30, 61, 62, 63, 64, 65, 66, 67, 68, 69, 70, 71, 72, 73, 74, 75, 76, 77, 78, 79, 80, 81, 82, 83, 84, 85, 86, 87, 88, 89, 90, 91, 92] (by decide +kernel) (by decide +kernel)
set_option maxRecDepth 20000 in
theorem gX7_cancel_X7_isSo : GoodIn wsX7_cancel (wsV RX7 211 RX7 yX7_isSo wsX7_isSo) := goodIn_app (goodIn_of _ (by decide +kernel)) ggX7_cancel_X7_isSo
set_option maxRecDepth 20000 in
theorem ggX7_cancel_X0_loaded : GoodIn wsX7_cancel wsX0_loaded := goodIn_r _ [28, 29, 30, 89, 90, 91, 92] (by decide +kernel) (by decide +kernel)
set_option maxRecDepth 20000 in
theorem gX7_cancel_X0_loaded : GoodIn wsX7_cancel (wsV RX7 177 RX0 yX0_loaded wsX0_loaded) := goodIn_app (goodIn_of _ (by decide +kernel)) ggX7_cancel_X0_loaded
set_option maxRecDepth 20000 in
theorem ggX7_cancel_X1_keep : GoodIn wsX7_cancel wsX1_keep := goodIn_r _ [36, 37, 38, 39, 40, 41, 42, 43, 44, 45, 46, 14, 47, 22, 16, 21, 48, 49, 50, 51, 52, 53, 54, 55, 56, 27, 57, 30, 58, 59, 29, 60, 93, 94, 95, 72, 73, 74, 75, 76, 89, 90, 91, 92] (by decide +kernel) (by decide +kernel)
set_option maxRecDepth 20000 in
theorem gX7_cancel_X1_keep : GoodIn wsX7_cancel (wsV RX7 241 RX1 yX1_keep wsX1_keep) := goodIn_app (goodIn_of _ (by decide +kernel)) ggX7_cancel_X1_keep
theorem dX7_cancel_0 : decode cX7_cancel 0 = .ok (.aload_n 0, 1) := by decide +kernel
theorem dX7_cancel_1 : decode cX7_cancel 1 = .ok (.iload_n 1, 1) := by decide +kernel
theorem dX7_cancel_2 : decode cX7_cancel 2 = .ok (.iconst 0, 1) := by decide +kernel
theorem dX7_cancel_3 : decode cX7_cancel 3 = .ok (.invokevirtual 211, 3) := by decide +kernel
theorem dX7_cancel_6 : decode cX7_cancel 6 = .ok (.ifCond .eq 17, 3) := by decide +kernel
theorem dX7_cancel_9 : decode cX7_cancel 9 = .ok (.aload_n 0, 1) := by decide +kernel
theorem dX7_cancel_10 : decode cX7_cancel 10 = .ok (.getfield 40, 3) := by decide +kernel
theorem dX7_cancel_13 : decode cX7_cancel 13 = .ok (.getfield 118, 3) := by decide +kernel
theorem dX7_cancel_16 : decode cX7_cancel 16 = .ok (.iload_n 1, 1) := by decide +kernel
theorem dX7_cancel_17 : decode cX7_cancel 17 = .ok (.invokevirtual 177, 3) := by decide +kernel
theorem dX7_cancel_20 : decode cX7_cancel 20 = .ok (.ifCond .le 5, 3) := by decide +kernel
theorem dX7_cancel_23 : decode cX7_cancel 23 = .ok (.iconst 0, 1) := by decide +kernel
theorem dX7_cancel_24 : decode cX7_cancel 24 = .ok (.ireturn, 1) := by decide +kernel
theorem dX7_cancel_25 : decode cX7_cancel 25 = .ok (.aload_n 0, 1) := by decide +kernel
theorem dX7_cancel_26 : decode cX7_cancel 26 = .ok (.getfield 47, 3) := by decide +kernel
theorem dX7_cancel_29 : decode cX7_cancel 29 = .ok (.aload_n 0, 1) := by decide +kernel
theorem dX7_cancel_30 : decode cX7_cancel 30 = .ok (.getfield 40, 3) := by decide +kernel
theorem dX7_cancel_33 : decode cX7_cancel 33 = .ok (.invokevirtual 241, 3) := by decide +kernel
theorem dX7_cancel_36 : decode cX7_cancel 36 = .ok (.aload_n 0, 1) := by decide +kernel
theorem dX7_cancel_37 : decode cX7_cancel 37 = .ok (.getfield 40, 3) := by decide +kernel
theorem dX7_cancel_40 : decode cX7_cancel 40 = .ok (.getfield 248, 3) := by decide +kernel
theorem dX7_cancel_43 : decode cX7_cancel 43 = .ok (.iload_n 1, 1) := by decide +kernel
theorem dX7_cancel_44 : decode cX7_cancel 44 = .ok (.iconst 3, 1) := by decide +kernel
theorem dX7_cancel_45 : decode cX7_cancel 45 = .ok (.iastore, 1) := by decide +kernel
theorem dX7_cancel_46 : decode cX7_cancel 46 = .ok (.iconst 1, 1) := by decide +kernel
theorem dX7_cancel_47 : decode cX7_cancel 47 = .ok (.ireturn, 1) := by decide +kernel
set_option maxRecDepth 20000 in
theorem ggX7_put_X6_hasCompartment : GoodIn wsX7_put wsX6_hasCompartment := goodIn_r _ [17, 18, 107, 108, 109, 110, 111, 112, 113, 114, 115, 116, 117, 118] (by decide +kernel) (by decide +kernel)
set_option maxRecDepth 20000 in
theorem gX7_put_X6_hasCompartment : GoodIn wsX7_put (wsV RX7 138 RX6 yX6_hasCompartment wsX6_hasCompartment) := goodIn_app (goodIn_of _ (by decide +kernel)) ggX7_put_X6_hasCompartment
set_option maxRecDepth 20000 in
theorem ggX7_put_X7_isSo : GoodIn wsX7_put wsX7_isSo := goodIn_r _ [23, 2, 1, 24, 25, 26, 27, 28, 29, 30, 31, 32, 33, 34, 35, 36, 37, 38, 39, 40, 41, 42, 43, 87, 88, 89, 90, 91, 92, 93, 94, 95, 96, 97, 98, 99, 100, 101, 102, 107, 108, 109, 110, 111, 112, 113, 114, 115, 116, 117, 118, 103, 104, 105, 106] (by decide +kernel) (by decide +kernel)
set_option maxRecDepth 20000 in
theorem gX7_put_X7_isSo : GoodIn wsX7_put (wsV RX7 211 RX7 yX7_isSo wsX7_isSo) := goodIn_app (goodIn_of _ (by decide +kernel)) ggX7_put_X7_isSo
set_option maxRecDepth 20000 in
theorem ggX7_put_X6_isBarred : GoodIn wsX7_put wsX6_isBarred := goodIn_r _ [47, 48, 107, 108, 109, 110, 111, 112, 113, 114, 115, 116, 117, 118] (by decide +kernel) (by decide +kernel)
set_option maxRecDepth 20000 in
theorem gX7_put_X6_isBarred : GoodIn wsX7_put (wsV RX7 192 RX6 yX6_isBarred wsX6_isBarred) := goodIn_app (goodIn_of _ (by decide +kernel)) ggX7_put_X6_isBarred
set_option maxRecDepth 20000 in
theorem ggX7_put_X6_top : GoodIn wsX7_put wsX6_top := goodIn_r _ [52, 53, 54, 107, 108, 109, 110, 111, 112, 113, 114, 115, 116, 117, 118] (by decide +kernel) (by decide +kernel)
set_option maxRecDepth 20000 in
theorem gX7_put_X6_top : GoodIn wsX7_put (wsV RX7 152 RX6 yX6_top wsX6_top) := goodIn_app (goodIn_of _ (by decide +kernel)) ggX7_put_X6_top
set_option maxRecDepth 20000 in
theorem ggX7_put_X1_keep : GoodIn wsX7_put wsX1_keep := goodIn_r _ [59, 60, 61, 62, 63, 10, 11, 12, 64, 65, 66, 27, 67, 35, 29, 34, 68, 69, 70, 71, 72, 73, 74, 75, 76, 40, 77, 43, 78, 79, 42, 80, 119, 120, 121, 98, 99, 100, 101, 102, 103, 104, 105, 106] (by decide +kernel) (by decide +kernel)
set_option maxRecDepth 20000 in
theorem gX7_put_X1_keep : GoodIn wsX7_put (wsV RX7 241 RX1 yX1_keep wsX1_keep) := goodIn_app (goodIn_of _ (by decide +kernel)) ggX7_put_X1_keep
set_option maxRecDepth 20000 in
theorem ggX7_put_X0_loaded : GoodIn wsX7_put wsX0_loaded := goodIn_r _ [41, 42, 43, 103, 104, 105, 106] (by decide +kernel) (by decide +kernel)
set_option maxRecDepth 20000 in
theorem gX7_put_X0_loaded : GoodIn wsX7_put (wsV RX7 177 RX0 yX0_loaded wsX0_loaded) := goodIn_app (goodIn_of _ (by decide +kernel)) ggX7_put_X0_loaded
set_option maxRecDepth 20000 in
theorem ggX7_put_X0_lay : GoodIn wsX7_put wsX0_lay := goodIn_r _ [85, 43, 79, 86, 42, 80, 103, 104, 105, 106, 107, 108, 109, 110, 111, 112, 113, 114, 115, 116, 117, 118] (by decide +kernel) (by decide +kernel)
set_option maxRecDepth 20000 in
theorem gX7_put_X0_lay : GoodIn wsX7_put (wsV RX7 200 RX0 yX0_lay wsX0_lay) := goodIn_app (goodIn_of _ (by decide +kernel)) ggX7_put_X0_lay
theorem dX7_put_0 : decode cX7_put 0 = .ok (.aload_n 0, 1) := by decide +kernel
theorem dX7_put_1 : decode cX7_put 1 = .ok (.getfield 30, 3) := by decide +kernel
theorem dX7_put_4 : decode cX7_put 4 = .ok (.iload_n 1, 1) := by decide +kernel
theorem dX7_put_5 : decode cX7_put 5 = .ok (.invokevirtual 138, 3) := by decide +kernel
theorem dX7_put_8 : decode cX7_put 8 = .ok (.ifCond .eq 12, 3) := by decide +kernel
theorem dX7_put_11 : decode cX7_put 11 = .ok (.aload_n 0, 1) := by decide +kernel
theorem dX7_put_12 : decode cX7_put 12 = .ok (.iload_n 2, 1) := by decide +kernel
theorem dX7_put_13 : decode cX7_put 13 = .ok (.iconst 0, 1) := by decide +kernel
theorem dX7_put_14 : decode cX7_put 14 = .ok (.invokevirtual 211, 3) := by decide +kernel
theorem dX7_put_17 : decode cX7_put 17 = .ok (.ifCond .ne 5, 3) := by decide +kernel
theorem dX7_put_20 : decode cX7_put 20 = .ok (.iconst (-1), 1) := by decide +kernel
theorem dX7_put_21 : decode cX7_put 21 = .ok (.ireturn, 1) := by decide +kernel
theorem dX7_put_22 : decode cX7_put 22 = .ok (.aload_n 0, 1) := by decide +kernel
theorem dX7_put_23 : decode cX7_put 23 = .ok (.getfield 40, 3) := by decide +kernel
theorem dX7_put_26 : decode cX7_put 26 = .ok (.getfield 118, 3) := by decide +kernel
theorem dX7_put_29 : decode cX7_put 29 = .ok (.getfield 156, 3) := by decide +kernel
theorem dX7_put_32 : decode cX7_put 32 = .ok (.iload_n 1, 1) := by decide +kernel
theorem dX7_put_33 : decode cX7_put 33 = .ok (.iaload, 1) := by decide +kernel
theorem dX7_put_34 : decode cX7_put 34 = .ok (.ifCond .le 6, 3) := by decide +kernel
theorem dX7_put_37 : decode cX7_put 37 = .ok (.bipush (-2), 2) := by decide +kernel
theorem dX7_put_39 : decode cX7_put 39 = .ok (.ireturn, 1) := by decide +kernel
theorem dX7_put_40 : decode cX7_put 40 = .ok (.aload_n 0, 1) := by decide +kernel
theorem dX7_put_41 : decode cX7_put 41 = .ok (.getfield 30, 3) := by decide +kernel
theorem dX7_put_44 : decode cX7_put 44 = .ok (.getfield 171, 3) := by decide +kernel
theorem dX7_put_47 : decode cX7_put 47 = .ok (.iload_n 2, 1) := by decide +kernel
theorem dX7_put_48 : decode cX7_put 48 = .ok (.iaload, 1) := by decide +kernel
theorem dX7_put_49 : decode cX7_put 49 = .ok (.istore_n 3, 1) := by decide +kernel
theorem dX7_put_50 : decode cX7_put 50 = .ok (.aload_n 0, 1) := by decide +kernel
theorem dX7_put_51 : decode cX7_put 51 = .ok (.getfield 30, 3) := by decide +kernel
theorem dX7_put_54 : decode cX7_put 54 = .ok (.aload_n 0, 1) := by decide +kernel
theorem dX7_put_55 : decode cX7_put 55 = .ok (.getfield 40, 3) := by decide +kernel
theorem dX7_put_58 : decode cX7_put 58 = .ok (.getfield 118, 3) := by decide +kernel
theorem dX7_put_61 : decode cX7_put 61 = .ok (.getfield 162, 3) := by decide +kernel
theorem dX7_put_64 : decode cX7_put 64 = .ok (.iload_n 1, 1) := by decide +kernel
theorem dX7_put_65 : decode cX7_put 65 = .ok (.iaload, 1) := by decide +kernel
theorem dX7_put_66 : decode cX7_put 66 = .ok (.iload_n 3, 1) := by decide +kernel
theorem dX7_put_67 : decode cX7_put 67 = .ok (.invokevirtual 192, 3) := by decide +kernel
theorem dX7_put_70 : decode cX7_put 70 = .ok (.ifCond .eq 6, 3) := by decide +kernel
theorem dX7_put_73 : decode cX7_put 73 = .ok (.bipush (-3), 2) := by decide +kernel
theorem dX7_put_75 : decode cX7_put 75 = .ok (.ireturn, 1) := by decide +kernel
theorem dX7_put_76 : decode cX7_put 76 = .ok (.aload_n 0, 1) := by decide +kernel
theorem dX7_put_77 : decode cX7_put 77 = .ok (.getfield 30, 3) := by decide +kernel
theorem dX7_put_80 : decode cX7_put 80 = .ok (.iload_n 1, 1) := by decide +kernel
theorem dX7_put_81 : decode cX7_put 81 = .ok (.invokevirtual 152, 3) := by decide +kernel
theorem dX7_put_84 : decode cX7_put 84 = .ok (.istore 4, 2) := by decide +kernel
theorem dX7_put_86 : decode cX7_put 86 = .ok (.iload 4, 2) := by decide +kernel
theorem dX7_put_88 : decode cX7_put 88 = .ok (.ifCond .ne 6, 3) := by decide +kernel
theorem dX7_put_91 : decode cX7_put 91 = .ok (.bipush (-4), 2) := by decide +kernel
theorem dX7_put_93 : decode cX7_put 93 = .ok (.ireturn, 1) := by decide +kernel
theorem dX7_put_94 : decode cX7_put 94 = .ok (.aload_n 0, 1) := by decide +kernel
theorem dX7_put_95 : decode cX7_put 95 = .ok (.getfield 47, 3) := by decide +kernel
theorem dX7_put_98 : decode cX7_put 98 = .ok (.aload_n 0, 1) := by decide +kernel
theorem dX7_put_99 : decode cX7_put 99 = .ok (.getfield 40, 3) := by decide +kernel
theorem dX7_put_102 : decode cX7_put 102 = .ok (.invokevirtual 241, 3) := by decide +kernel
theorem dX7_put_105 : decode cX7_put 105 = .ok (.iload 4, 2) := by decide +kernel
theorem dX7_put_107 : decode cX7_put 107 = .ok (.aload_n 0, 1) := by decide +kernel
theorem dX7_put_108 : decode cX7_put 108 = .ok (.getfield 30, 3) := by decide +kernel
theorem dX7_put_111 : decode cX7_put 111 = .ok (.getfield 174, 3) := by decide +kernel
theorem dX7_put_114 : decode cX7_put 114 = .ok (.iload_n 2, 1) := by decide +kernel
theorem dX7_put_115 : decode cX7_put 115 = .ok (.iaload, 1) := by decide +kernel
theorem dX7_put_116 : decode cX7_put 116 = .ok (.aload_n 0, 1) := by decide +kernel
theorem dX7_put_117 : decode cX7_put 117 = .ok (.getfield 40, 3) := by decide +kernel
theorem dX7_put_120 : decode cX7_put 120 = .ok (.getfield 118, 3) := by decide +kernel
theorem dX7_put_123 : decode cX7_put 123 = .ok (.iload_n 2, 1) := by decide +kernel
theorem dX7_put_124 : decode cX7_put 124 = .ok (.invokevirtual 177, 3) := by decide +kernel
theorem dX7_put_127 : decode cX7_put 127 = .ok (.isub, 1) := by decide +kernel
theorem dX7_put_128 : decode cX7_put 128 = .ok (.invokestatic 251, 3) := by decide +kernel
theorem dX7_put_131 : decode cX7_put 131 = .ok (.istore 5, 2) := by decide +kernel
theorem dX7_put_133 : decode cX7_put 133 = .ok (.aload_n 0, 1) := by decide +kernel
theorem dX7_put_134 : decode cX7_put 134 = .ok (.getfield 40, 3) := by decide +kernel
theorem dX7_put_137 : decode cX7_put 137 = .ok (.getfield 118, 3) := by decide +kernel
theorem dX7_put_140 : decode cX7_put 140 = .ok (.aload_n 0, 1) := by decide +kernel
theorem dX7_put_141 : decode cX7_put 141 = .ok (.getfield 30, 3) := by decide +kernel
theorem dX7_put_144 : decode cX7_put 144 = .ok (.iload_n 1, 1) := by decide +kernel
theorem dX7_put_145 : decode cX7_put 145 = .ok (.iload_n 2, 1) := by decide +kernel
theorem dX7_put_146 : decode cX7_put 146 = .ok (.iload_n 3, 1) := by decide +kernel
theorem dX7_put_147 : decode cX7_put 147 = .ok (.iload 5, 2) := by decide +kernel
theorem dX7_put_149 : decode cX7_put 149 = .ok (.invokevirtual 200, 3) := by decide +kernel
theorem dX7_put_152 : decode cX7_put 152 = .ok (.iload 5, 2) := by decide +kernel
theorem dX7_put_154 : decode cX7_put 154 = .ok (.ireturn, 1) := by decide +kernel
set_option maxRecDepth 20000 in
theorem ggX7_load_X3_findsPlan : GoodIn wsX7_load wsX3_findsPlan := goodIn_r _ [15, 16, 17, 18, 19, 14, 20, 21, 22, 23, 24, 25, 26, 27, 28, 29, 30, 31, 32, 33, 34, 35, 36, 37, 38, 39, 40, 41, 42, 43, 44, 45, 46, 47, 48, 49, 50, 51, 52, 53, 54, 55, 56, 57, 58, 59, 60, 61, 62, 63, 64, 65, 66, 67, 68, 69, 70, 71, 72, 73, 74, 75, 76, 77, 78, 79, 80, 81, 82, 83, 84, 85, 86, 87, 88, 89, 90, 91, 92, 93, 94, 95, 96, 97, 98, 99, 100, 101, 102, 103, 104, 105, 106, 107, 108, 109, 110, 111, 112, 113, 114, 115, 116, 117, 118, 119, 120, 121, 122, 123, 124, 125, 126, 127, 128, 129, 130, 131, 132, 133, 134, 135, 136, 137, 138, 139, 140, 141, 142, 143, 144, 145, 146, 147, 148, 149, 150, 151, 152, 153, 154, 155, 156, 157, 158, 159, 160, 161, 162, 163, 164, 165, 166, 167, 168, 169, 170, 171, 172, 173, 174, 175, 210, 211, 212, 213, 214, 215, 216, 217, 218, 219, 220, 221, 222, 223, 224, 225, 226, 227, 240, 241, 242, 243, 244, 228, 229, 230, 231, 232, 233, 234, 235, 236, 237, 238, 239, 245, 246, 247, 248, 249, 250, 251, 252] (by decide +kernel) (by decide +kernel)
set_option maxRecDepth 20000 in
theorem gX7_load_X3_findsPlan : GoodIn wsX7_load (wsV RX7 217 RX3 yX3_findsPlan wsX3_findsPlan) := goodIn_app (goodIn_of _ (by decide +kernel)) ggX7_load_X3_findsPlan
set_option maxRecDepth 20000 in
theorem ggX7_load_X1_keep : GoodIn wsX7_load wsX1_keep := goodIn_r _ [180, 181, 182, 183, 184, 153, 154, 155, 185, 186, 187, 53, 188, 56, 189, 55, 190, 44, 45, 46, 191, 192, 193, 38, 39, 40, 41, 42, 43, 47, 48, 49, 253, 254, 255, 240, 241, 242, 243, 244, 245, 246, 247, 248] (by decide +kernel) (by decide +kernel)
set_option maxRecDepth 20000 in
theorem gX7_load_X1_keep : GoodIn wsX7_load (wsV RX7 241 RX1 yX1_keep wsX1_keep) := goodIn_app (goodIn_of _ (by decide +kernel)) ggX7_load_X1_keep
set_option maxRecDepth 20000 in
theorem ggX7_load_X5_hasDrop : GoodIn wsX7_load wsX5_hasDrop := goodIn_r _ [197, 189, 240, 241, 242, 243, 244] (by decide +kernel) (by decide +kernel)
set_option maxRecDepth 20000 in
theorem gX7_load_X5_hasDrop : GoodIn wsX7_load (wsV RX7 165 RX5 yX5_hasDrop wsX5_hasDrop) := goodIn_app (goodIn_of _ (by decide +kernel)) ggX7_load_X5_hasDrop
set_option maxRecDepth 20000 in
theorem ggX7_load_X0_lay : GoodIn wsX7_load wsX0_lay := goodIn_r _ [166, 42, 47, 167, 48, 49, 245, 246, 247, 248, 228, 229, 230, 231, 232, 233, 234, 235, 236, 237, 238, 239] (by decide +kernel) (by decide +kernel)
set_option maxRecDepth 20000 in
theorem gX7_load_X0_lay : GoodIn wsX7_load (wsV RX7 200 RX0 yX0_lay wsX0_lay) := goodIn_app (goodIn_of _ (by decide +kernel)) ggX7_load_X0_lay
theorem dX7_load_0 : decode cX7_load 0 = .ok (.aload_n 0, 1) := by decide +kernel
theorem dX7_load_1 : decode cX7_load 1 = .ok (.getfield 68, 3) := by decide +kernel
theorem dX7_load_4 : decode cX7_load 4 = .ok (.aload_n 0, 1) := by decide +kernel
theorem dX7_load_5 : decode cX7_load 5 = .ok (.getfield 30, 3) := by decide +kernel
theorem dX7_load_8 : decode cX7_load 8 = .ok (.aload_n 0, 1) := by decide +kernel
theorem dX7_load_9 : decode cX7_load 9 = .ok (.getfield 40, 3) := by decide +kernel
theorem dX7_load_12 : decode cX7_load 12 = .ok (.invokevirtual 217, 3) := by decide +kernel
theorem dX7_load_15 : decode cX7_load 15 = .ok (.ifCond .ne 6, 3) := by decide +kernel
theorem dX7_load_18 : decode cX7_load 18 = .ok (.bipush (-2), 2) := by decide +kernel
theorem dX7_load_20 : decode cX7_load 20 = .ok (.ireturn, 1) := by decide +kernel
theorem dX7_load_21 : decode cX7_load 21 = .ok (.aload_n 0, 1) := by decide +kernel
theorem dX7_load_22 : decode cX7_load 22 = .ok (.getfield 68, 3) := by decide +kernel
theorem dX7_load_25 : decode cX7_load 25 = .ok (.getfield 221, 3) := by decide +kernel
theorem dX7_load_28 : decode cX7_load 28 = .ok (.ifCond .ne 5, 3) := by decide +kernel
theorem dX7_load_31 : decode cX7_load 31 = .ok (.iconst (-1), 1) := by decide +kernel
theorem dX7_load_32 : decode cX7_load 32 = .ok (.ireturn, 1) := by decide +kernel
theorem dX7_load_33 : decode cX7_load 33 = .ok (.aload_n 0, 1) := by decide +kernel
theorem dX7_load_34 : decode cX7_load 34 = .ok (.getfield 47, 3) := by decide +kernel
theorem dX7_load_37 : decode cX7_load 37 = .ok (.aload_n 0, 1) := by decide +kernel
theorem dX7_load_38 : decode cX7_load 38 = .ok (.getfield 40, 3) := by decide +kernel
theorem dX7_load_41 : decode cX7_load 41 = .ok (.invokevirtual 241, 3) := by decide +kernel
theorem dX7_load_44 : decode cX7_load 44 = .ok (.iconst 0, 1) := by decide +kernel
theorem dX7_load_45 : decode cX7_load 45 = .ok (.istore_n 1, 1) := by decide +kernel
theorem dX7_load_46 : decode cX7_load 46 = .ok (.iload_n 1, 1) := by decide +kernel
theorem dX7_load_47 : decode cX7_load 47 = .ok (.aload_n 0, 1) := by decide +kernel
theorem dX7_load_48 : decode cX7_load 48 = .ok (.getfield 30, 3) := by decide +kernel
theorem dX7_load_51 : decode cX7_load 51 = .ok (.getfield 99, 3) := by decide +kernel
theorem dX7_load_54 : decode cX7_load 54 = .ok (.if_icmp .ge 64, 3) := by decide +kernel
theorem dX7_load_57 : decode cX7_load 57 = .ok (.aload_n 0, 1) := by decide +kernel
theorem dX7_load_58 : decode cX7_load 58 = .ok (.getfield 68, 3) := by decide +kernel
theorem dX7_load_61 : decode cX7_load 61 = .ok (.getfield 227, 3) := by decide +kernel
theorem dX7_load_64 : decode cX7_load 64 = .ok (.iload_n 1, 1) := by decide +kernel
theorem dX7_load_65 : decode cX7_load 65 = .ok (.iaload, 1) := by decide +kernel
theorem dX7_load_66 : decode cX7_load 66 = .ok (.istore_n 2, 1) := by decide +kernel
theorem dX7_load_67 : decode cX7_load 67 = .ok (.aload_n 0, 1) := by decide +kernel
theorem dX7_load_68 : decode cX7_load 68 = .ok (.getfield 40, 3) := by decide +kernel
theorem dX7_load_71 : decode cX7_load 71 = .ok (.iload_n 2, 1) := by decide +kernel
theorem dX7_load_72 : decode cX7_load 72 = .ok (.invokevirtual 165, 3) := by decide +kernel
theorem dX7_load_75 : decode cX7_load 75 = .ok (.ifCond .eq 37, 3) := by decide +kernel
theorem dX7_load_78 : decode cX7_load 78 = .ok (.aload_n 0, 1) := by decide +kernel
theorem dX7_load_79 : decode cX7_load 79 = .ok (.getfield 40, 3) := by decide +kernel
theorem dX7_load_82 : decode cX7_load 82 = .ok (.getfield 118, 3) := by decide +kernel
theorem dX7_load_85 : decode cX7_load 85 = .ok (.aload_n 0, 1) := by decide +kernel
theorem dX7_load_86 : decode cX7_load 86 = .ok (.getfield 30, 3) := by decide +kernel
theorem dX7_load_89 : decode cX7_load 89 = .ok (.iload_n 1, 1) := by decide +kernel
theorem dX7_load_90 : decode cX7_load 90 = .ok (.iload_n 2, 1) := by decide +kernel
theorem dX7_load_91 : decode cX7_load 91 = .ok (.aload_n 0, 1) := by decide +kernel
theorem dX7_load_92 : decode cX7_load 92 = .ok (.getfield 30, 3) := by decide +kernel
theorem dX7_load_95 : decode cX7_load 95 = .ok (.getfield 171, 3) := by decide +kernel
theorem dX7_load_98 : decode cX7_load 98 = .ok (.iload_n 2, 1) := by decide +kernel
theorem dX7_load_99 : decode cX7_load 99 = .ok (.iaload, 1) := by decide +kernel
theorem dX7_load_100 : decode cX7_load 100 = .ok (.aload_n 0, 1) := by decide +kernel
theorem dX7_load_101 : decode cX7_load 101 = .ok (.getfield 68, 3) := by decide +kernel
theorem dX7_load_104 : decode cX7_load 104 = .ok (.getfield 230, 3) := by decide +kernel
theorem dX7_load_107 : decode cX7_load 107 = .ok (.iload_n 1, 1) := by decide +kernel
theorem dX7_load_108 : decode cX7_load 108 = .ok (.iaload, 1) := by decide +kernel
theorem dX7_load_109 : decode cX7_load 109 = .ok (.invokevirtual 200, 3) := by decide +kernel
theorem dX7_load_112 : decode cX7_load 112 = .ok (.iinc 1 1, 3) := by decide +kernel
theorem dX7_load_115 : decode cX7_load 115 = .ok (.goto (-69), 3) := by decide +kernel
theorem dX7_load_118 : decode cX7_load 118 = .ok (.aload_n 0, 1) := by decide +kernel
theorem dX7_load_119 : decode cX7_load 119 = .ok (.getfield 68, 3) := by decide +kernel
theorem dX7_load_122 : decode cX7_load 122 = .ok (.getfield 221, 3) := by decide +kernel
theorem dX7_load_125 : decode cX7_load 125 = .ok (.ireturn, 1) := by decide +kernel
set_option maxRecDepth 20000 in
theorem ggX7_unload_X7_isSo : GoodIn wsX7_unload wsX7_isSo := goodIn_r _ [11, 1, 3, 12, 13, 14, 15, 16, 17, 18, 19, 20, 21, 22, 23, 24, 25, 26, 27, 28, 29, 30, 31, 102, 103, 104, 105, 106, 107, 108, 109, 110, 111, 112, 113, 114, 115, 116, 117, 118, 119, 120, 121, 122, 123, 124, 125, 126, 127, 128, 129, 130, 131, 132, 133] (by decide +kernel) (by decide +kernel)
set_option maxRecDepth 20000 in
theorem gX7_unload_X7_isSo : GoodIn wsX7_unload (wsV RX7 211 RX7 yX7_isSo wsX7_isSo) := goodIn_app (goodIn_of _ (by decide +kernel)) ggX7_unload_X7_isSo
set_option maxRecDepth 20000 in
theorem ggX7_unload_X0_loaded : GoodIn wsX7_unload wsX0_loaded := goodIn_r _ [29, 30, 31, 130, 131, 132, 133] (by decide +kernel) (by decide +kernel)
set_option maxRecDepth 20000 in
theorem gX7_unload_X0_loaded : GoodIn wsX7_unload (wsV RX7 177 RX0 yX0_loaded wsX0_loaded) := goodIn_app (goodIn_of _ (by decide +kernel)) ggX7_unload_X0_loaded
set_option maxRecDepth 20000 in
theorem ggX7_unload_X0_partsOf : GoodIn wsX7_unload wsX0_partsOf := goodIn_r _ [36, 30, 130, 131, 132, 133] (by decide +kernel) (by decide +kernel)
set_option maxRecDepth 20000 in
theorem gX7_unload_X0_partsOf : GoodIn wsX7_unload (wsV RX7 214 RX0 yX0_partsOf wsX0_partsOf) := goodIn_app (goodIn_of _ (by decide +kernel)) ggX7_unload_X0_partsOf
set_option maxRecDepth 20000 in
theorem ggX7_unload_X0_standing : GoodIn wsX7_unload wsX0_standing := goodIn_r _ [40, 41, 42, 43, 44, 28, 45, 46, 31, 47, 48, 49, 50, 51, 52, 53, 54, 55, 56, 57, 58, 59, 60, 61, 118, 119, 120, 121, 122, 123, 124, 125, 126, 127, 128, 129, 130, 131, 132, 133] (by decide +kernel) (by decide +kernel)
set_option maxRecDepth 20000 in
theorem gX7_unload_X0_standing : GoodIn wsX7_unload (wsV RX7 128 RX0 yX0_standing wsX0_standing) := goodIn_app (goodIn_of _ (by decide +kernel)) ggX7_unload_X0_standing
set_option maxRecDepth 20000 in
theorem ggX7_unload_X1_keep : GoodIn wsX7_unload wsX1_keep := goodIn_r _ [66, 67, 68, 69, 70, 71, 72, 73, 74, 75, 76, 15, 77, 23, 17, 22, 78, 79, 80, 81, 82, 83, 84, 85, 86, 28, 87, 31, 88, 56, 30, 89, 134, 135, 136, 113, 114, 115, 116, 117, 130, 131, 132, 133] (by decide +kernel) (by decide +kernel)
set_option maxRecDepth 20000 in
theorem gX7_unload_X1_keep : GoodIn wsX7_unload (wsV RX7 241 RX1 yX1_keep wsX1_keep) := goodIn_app (goodIn_of _ (by decide +kernel)) ggX7_unload_X1_keep
set_option maxRecDepth 20000 in
theorem ggX7_unload_X0_takeOutAll : GoodIn wsX7_unload wsX0_takeOutAll := goodIn_r _ [93, 49, 50, 28, 51, 94, 95, 96, 97, 31, 56, 30, 130, 131, 132, 133] (by decide +kernel) (by decide +kernel)
set_option maxRecDepth 20000 in
theorem gX7_unload_X0_takeOutAll : GoodIn wsX7_unload (wsV RX7 257 RX0 yX0_takeOutAll wsX0_takeOutAll) := goodIn_app (goodIn_of _ (by decide +kernel)) ggX7_unload_X0_takeOutAll
set_option maxRecDepth 20000 in
theorem ggX7_unload_X5_shortOf : GoodIn wsX7_unload wsX5_shortOf := goodIn_r _ [101, 22, 24, 82, 113, 114, 115, 116, 117, 118, 119, 120, 121, 122, 123, 124, 125, 126, 127, 128, 129] (by decide +kernel) (by decide +kernel)
set_option maxRecDepth 20000 in
theorem gX7_unload_X5_shortOf : GoodIn wsX7_unload (wsV RX7 186 RX5 yX5_shortOf wsX5_shortOf) := goodIn_app (goodIn_of _ (by decide +kernel)) ggX7_unload_X5_shortOf
theorem dX7_unload_0 : decode cX7_unload 0 = .ok (.aload_n 0, 1) := by decide +kernel
theorem dX7_unload_1 : decode cX7_unload 1 = .ok (.iload_n 1, 1) := by decide +kernel
theorem dX7_unload_2 : decode cX7_unload 2 = .ok (.iconst 1, 1) := by decide +kernel
theorem dX7_unload_3 : decode cX7_unload 3 = .ok (.invokevirtual 211, 3) := by decide +kernel
theorem dX7_unload_6 : decode cX7_unload 6 = .ok (.ifCond .eq 22, 3) := by decide +kernel
theorem dX7_unload_9 : decode cX7_unload 9 = .ok (.iload_n 2, 1) := by decide +kernel
theorem dX7_unload_10 : decode cX7_unload 10 = .ok (.ifCond .lt 18, 3) := by decide +kernel
theorem dX7_unload_13 : decode cX7_unload 13 = .ok (.iload_n 2, 1) := by decide +kernel
theorem dX7_unload_14 : decode cX7_unload 14 = .ok (.aload_n 0, 1) := by decide +kernel
theorem dX7_unload_15 : decode cX7_unload 15 = .ok (.getfield 40, 3) := by decide +kernel
theorem dX7_unload_18 : decode cX7_unload 18 = .ok (.getfield 118, 3) := by decide +kernel
theorem dX7_unload_21 : decode cX7_unload 21 = .ok (.iload_n 1, 1) := by decide +kernel
theorem dX7_unload_22 : decode cX7_unload 22 = .ok (.invokevirtual 177, 3) := by decide +kernel
theorem dX7_unload_25 : decode cX7_unload 25 = .ok (.if_icmp .le 5, 3) := by decide +kernel
theorem dX7_unload_28 : decode cX7_unload 28 = .ok (.iconst (-1), 1) := by decide +kernel
theorem dX7_unload_29 : decode cX7_unload 29 = .ok (.ireturn, 1) := by decide +kernel
theorem dX7_unload_30 : decode cX7_unload 30 = .ok (.aload_n 0, 1) := by decide +kernel
theorem dX7_unload_31 : decode cX7_unload 31 = .ok (.getfield 40, 3) := by decide +kernel
theorem dX7_unload_34 : decode cX7_unload 34 = .ok (.getfield 118, 3) := by decide +kernel
theorem dX7_unload_37 : decode cX7_unload 37 = .ok (.iload_n 1, 1) := by decide +kernel
theorem dX7_unload_38 : decode cX7_unload 38 = .ok (.invokevirtual 214, 3) := by decide +kernel
theorem dX7_unload_41 : decode cX7_unload 41 = .ok (.istore_n 3, 1) := by decide +kernel
theorem dX7_unload_42 : decode cX7_unload 42 = .ok (.aload_n 0, 1) := by decide +kernel
theorem dX7_unload_43 : decode cX7_unload 43 = .ok (.getfield 40, 3) := by decide +kernel
theorem dX7_unload_46 : decode cX7_unload 46 = .ok (.getfield 118, 3) := by decide +kernel
theorem dX7_unload_49 : decode cX7_unload 49 = .ok (.aload_n 0, 1) := by decide +kernel
theorem dX7_unload_50 : decode cX7_unload 50 = .ok (.getfield 30, 3) := by decide +kernel
theorem dX7_unload_53 : decode cX7_unload 53 = .ok (.iload_n 3, 1) := by decide +kernel
theorem dX7_unload_54 : decode cX7_unload 54 = .ok (.invokevirtual 128, 3) := by decide +kernel
theorem dX7_unload_57 : decode cX7_unload 57 = .ok (.ifCond .eq 6, 3) := by decide +kernel
theorem dX7_unload_60 : decode cX7_unload 60 = .ok (.bipush (-2), 2) := by decide +kernel
theorem dX7_unload_62 : decode cX7_unload 62 = .ok (.ireturn, 1) := by decide +kernel
theorem dX7_unload_63 : decode cX7_unload 63 = .ok (.aload_n 0, 1) := by decide +kernel
theorem dX7_unload_64 : decode cX7_unload 64 = .ok (.getfield 47, 3) := by decide +kernel
theorem dX7_unload_67 : decode cX7_unload 67 = .ok (.aload_n 0, 1) := by decide +kernel
theorem dX7_unload_68 : decode cX7_unload 68 = .ok (.getfield 40, 3) := by decide +kernel
theorem dX7_unload_71 : decode cX7_unload 71 = .ok (.invokevirtual 241, 3) := by decide +kernel
theorem dX7_unload_74 : decode cX7_unload 74 = .ok (.aload_n 0, 1) := by decide +kernel
theorem dX7_unload_75 : decode cX7_unload 75 = .ok (.getfield 40, 3) := by decide +kernel
theorem dX7_unload_78 : decode cX7_unload 78 = .ok (.getfield 118, 3) := by decide +kernel
theorem dX7_unload_81 : decode cX7_unload 81 = .ok (.iload_n 3, 1) := by decide +kernel
theorem dX7_unload_82 : decode cX7_unload 82 = .ok (.invokevirtual 257, 3) := by decide +kernel
theorem dX7_unload_85 : decode cX7_unload 85 = .ok (.aload_n 0, 1) := by decide +kernel
theorem dX7_unload_86 : decode cX7_unload 86 = .ok (.getfield 40, 3) := by decide +kernel
theorem dX7_unload_89 : decode cX7_unload 89 = .ok (.getfield 248, 3) := by decide +kernel
theorem dX7_unload_92 : decode cX7_unload 92 = .ok (.iload_n 1, 1) := by decide +kernel
theorem dX7_unload_93 : decode cX7_unload 93 = .ok (.iconst 2, 1) := by decide +kernel
theorem dX7_unload_94 : decode cX7_unload 94 = .ok (.iastore, 1) := by decide +kernel
theorem dX7_unload_95 : decode cX7_unload 95 = .ok (.aload_n 0, 1) := by decide +kernel
theorem dX7_unload_96 : decode cX7_unload 96 = .ok (.getfield 40, 3) := by decide +kernel
theorem dX7_unload_99 : decode cX7_unload 99 = .ok (.getfield 183, 3) := by decide +kernel
theorem dX7_unload_102 : decode cX7_unload 102 = .ok (.iload_n 1, 1) := by decide +kernel
theorem dX7_unload_103 : decode cX7_unload 103 = .ok (.iload_n 2, 1) := by decide +kernel
theorem dX7_unload_104 : decode cX7_unload 104 = .ok (.iastore, 1) := by decide +kernel
theorem dX7_unload_105 : decode cX7_unload 105 = .ok (.aload_n 0, 1) := by decide +kernel
theorem dX7_unload_106 : decode cX7_unload 106 = .ok (.getfield 40, 3) := by decide +kernel
theorem dX7_unload_109 : decode cX7_unload 109 = .ok (.aload_n 0, 1) := by decide +kernel
theorem dX7_unload_110 : decode cX7_unload 110 = .ok (.getfield 30, 3) := by decide +kernel
theorem dX7_unload_113 : decode cX7_unload 113 = .ok (.iload_n 1, 1) := by decide +kernel
theorem dX7_unload_114 : decode cX7_unload 114 = .ok (.invokevirtual 186, 3) := by decide +kernel
theorem dX7_unload_117 : decode cX7_unload 117 = .ok (.ireturn, 1) := by decide +kernel
set_option maxRecDepth 20000 in
theorem ggX7_empty_X6_hasCompartment : GoodIn wsX7_empty wsX6_hasCompartment := goodIn_r _ [11, 12, 96, 97, 98, 99, 100, 101, 102, 103, 104, 105, 106, 107] (by decide +kernel) (by decide +kernel)
set_option maxRecDepth 20000 in
theorem gX7_empty_X6_hasCompartment : GoodIn wsX7_empty (wsV RX7 138 RX6 yX6_hasCompartment wsX6_hasCompartment) := goodIn_app (goodIn_of _ (by decide +kernel)) ggX7_empty_X6_hasCompartment
set_option maxRecDepth 20000 in
theorem ggX7_empty_X7_isSo : GoodIn wsX7_empty wsX7_isSo := goodIn_r _ [17, 2, 1, 18, 19, 20, 21, 22, 23, 24, 25, 26, 27, 28, 29, 30, 31, 32, 33, 34, 35, 36, 37, 76, 77, 78, 79, 80, 81, 82, 83, 84, 85, 86, 87, 88, 89, 90, 91, 96, 97, 98, 99, 100, 101, 102, 103, 104, 105, 106, 107, 92, 93, 94, 95] (by decide +kernel) (by decide +kernel)
set_option maxRecDepth 20000 in
theorem gX7_empty_X7_isSo : GoodIn wsX7_empty (wsV RX7 211 RX7 yX7_isSo wsX7_isSo) := goodIn_app (goodIn_of _ (by decide +kernel)) ggX7_empty_X7_isSo
set_option maxRecDepth 20000 in
theorem ggX7_empty_X5_waiting : GoodIn wsX7_empty wsX5_waiting := goodIn_r _ [41, 23, 42, 25, 26, 21, 27, 28, 29, 30, 31, 32, 33, 34, 35, 36, 37, 87, 88, 89, 90, 91, 96, 97, 98, 99, 100, 101, 102, 103, 104, 105, 106, 107, 92, 93, 94, 95] (by decide +kernel) (by decide +kernel)
set_option maxRecDepth 20000 in
theorem gX7_empty_X5_waiting : GoodIn wsX7_empty (wsV RX7 237 RX5 yX5_waiting wsX5_waiting) := goodIn_app (goodIn_of _ (by decide +kernel)) ggX7_empty_X5_waiting
set_option maxRecDepth 20000 in
theorem ggX7_empty_X1_keep : GoodIn wsX7_empty wsX1_keep := goodIn_r _ [47, 48, 49, 50, 51, 52, 53, 54, 55, 56, 57, 21, 58, 29, 23, 28, 59, 60, 61, 62, 63, 64, 65, 66, 67, 34, 68, 37, 69, 70, 36, 71, 108, 109, 110, 87, 88, 89, 90, 91, 92, 93, 94, 95] (by decide +kernel) (by decide +kernel)
set_option maxRecDepth 20000 in
theorem gX7_empty_X1_keep : GoodIn wsX7_empty (wsV RX7 241 RX1 yX1_keep wsX1_keep) := goodIn_app (goodIn_of _ (by decide +kernel)) ggX7_empty_X1_keep
set_option maxRecDepth 20000 in
theorem ggX7_empty_X0_takeOut : GoodIn wsX7_empty wsX0_takeOut := goodIn_r _ [75, 37, 70, 36, 92, 93, 94, 95] (by decide +kernel) (by decide +kernel)
set_option maxRecDepth 20000 in
theorem gX7_empty_X0_takeOut : GoodIn wsX7_empty (wsV RX7 260 RX0 yX0_takeOut wsX0_takeOut) := goodIn_app (goodIn_of _ (by decide +kernel)) ggX7_empty_X0_takeOut
theorem dX7_empty_0 : decode cX7_empty 0 = .ok (.aload_n 0, 1) := by decide +kernel
theorem dX7_empty_1 : decode cX7_empty 1 = .ok (.getfield 30, 3) := by decide +kernel
theorem dX7_empty_4 : decode cX7_empty 4 = .ok (.iload_n 1, 1) := by decide +kernel
theorem dX7_empty_5 : decode cX7_empty 5 = .ok (.invokevirtual 138, 3) := by decide +kernel
theorem dX7_empty_8 : decode cX7_empty 8 = .ok (.ifCond .eq 18, 3) := by decide +kernel
theorem dX7_empty_11 : decode cX7_empty 11 = .ok (.aload_n 0, 1) := by decide +kernel
theorem dX7_empty_12 : decode cX7_empty 12 = .ok (.getfield 40, 3) := by decide +kernel
theorem dX7_empty_15 : decode cX7_empty 15 = .ok (.getfield 118, 3) := by decide +kernel
theorem dX7_empty_18 : decode cX7_empty 18 = .ok (.getfield 156, 3) := by decide +kernel
theorem dX7_empty_21 : decode cX7_empty 21 = .ok (.iload_n 1, 1) := by decide +kernel
theorem dX7_empty_22 : decode cX7_empty 22 = .ok (.iaload, 1) := by decide +kernel
theorem dX7_empty_23 : decode cX7_empty 23 = .ok (.ifCond .ne 5, 3) := by decide +kernel
theorem dX7_empty_26 : decode cX7_empty 26 = .ok (.iconst (-1), 1) := by decide +kernel
theorem dX7_empty_27 : decode cX7_empty 27 = .ok (.ireturn, 1) := by decide +kernel
theorem dX7_empty_28 : decode cX7_empty 28 = .ok (.aload_n 0, 1) := by decide +kernel
theorem dX7_empty_29 : decode cX7_empty 29 = .ok (.aload_n 0, 1) := by decide +kernel
theorem dX7_empty_30 : decode cX7_empty 30 = .ok (.getfield 40, 3) := by decide +kernel
theorem dX7_empty_33 : decode cX7_empty 33 = .ok (.getfield 118, 3) := by decide +kernel
theorem dX7_empty_36 : decode cX7_empty 36 = .ok (.getfield 159, 3) := by decide +kernel
theorem dX7_empty_39 : decode cX7_empty 39 = .ok (.iload_n 1, 1) := by decide +kernel
theorem dX7_empty_40 : decode cX7_empty 40 = .ok (.iaload, 1) := by decide +kernel
theorem dX7_empty_41 : decode cX7_empty 41 = .ok (.iconst 1, 1) := by decide +kernel
theorem dX7_empty_42 : decode cX7_empty 42 = .ok (.invokevirtual 211, 3) := by decide +kernel
theorem dX7_empty_45 : decode cX7_empty 45 = .ok (.ifCond .eq 21, 3) := by decide +kernel
theorem dX7_empty_48 : decode cX7_empty 48 = .ok (.aload_n 0, 1) := by decide +kernel
theorem dX7_empty_49 : decode cX7_empty 49 = .ok (.getfield 40, 3) := by decide +kernel
theorem dX7_empty_52 : decode cX7_empty 52 = .ok (.aload_n 0, 1) := by decide +kernel
theorem dX7_empty_53 : decode cX7_empty 53 = .ok (.getfield 30, 3) := by decide +kernel
theorem dX7_empty_56 : decode cX7_empty 56 = .ok (.invokevirtual 237, 3) := by decide +kernel
theorem dX7_empty_59 : decode cX7_empty 59 = .ok (.iconst 4, 1) := by decide +kernel
theorem dX7_empty_60 : decode cX7_empty 60 = .ok (.if_icmp .lt 6, 3) := by decide +kernel
theorem dX7_empty_63 : decode cX7_empty 63 = .ok (.bipush (-2), 2) := by decide +kernel
theorem dX7_empty_65 : decode cX7_empty 65 = .ok (.ireturn, 1) := by decide +kernel
theorem dX7_empty_66 : decode cX7_empty 66 = .ok (.aload_n 0, 1) := by decide +kernel
theorem dX7_empty_67 : decode cX7_empty 67 = .ok (.getfield 47, 3) := by decide +kernel
theorem dX7_empty_70 : decode cX7_empty 70 = .ok (.aload_n 0, 1) := by decide +kernel
theorem dX7_empty_71 : decode cX7_empty 71 = .ok (.getfield 40, 3) := by decide +kernel
theorem dX7_empty_74 : decode cX7_empty 74 = .ok (.invokevirtual 241, 3) := by decide +kernel
theorem dX7_empty_77 : decode cX7_empty 77 = .ok (.aload_n 0, 1) := by decide +kernel
theorem dX7_empty_78 : decode cX7_empty 78 = .ok (.getfield 40, 3) := by decide +kernel
theorem dX7_empty_81 : decode cX7_empty 81 = .ok (.getfield 118, 3) := by decide +kernel
theorem dX7_empty_84 : decode cX7_empty 84 = .ok (.getfield 156, 3) := by decide +kernel
theorem dX7_empty_87 : decode cX7_empty 87 = .ok (.iload_n 1, 1) := by decide +kernel
theorem dX7_empty_88 : decode cX7_empty 88 = .ok (.iaload, 1) := by decide +kernel
theorem dX7_empty_89 : decode cX7_empty 89 = .ok (.istore_n 2, 1) := by decide +kernel
theorem dX7_empty_90 : decode cX7_empty 90 = .ok (.aload_n 0, 1) := by decide +kernel
theorem dX7_empty_91 : decode cX7_empty 91 = .ok (.getfield 40, 3) := by decide +kernel
theorem dX7_empty_94 : decode cX7_empty 94 = .ok (.getfield 118, 3) := by decide +kernel
theorem dX7_empty_97 : decode cX7_empty 97 = .ok (.iload_n 1, 1) := by decide +kernel
theorem dX7_empty_98 : decode cX7_empty 98 = .ok (.invokevirtual 260, 3) := by decide +kernel
theorem dX7_empty_101 : decode cX7_empty 101 = .ok (.iload_n 2, 1) := by decide +kernel
theorem dX7_empty_102 : decode cX7_empty 102 = .ok (.ireturn, 1) := by decide +kernel
set_option maxRecDepth 20000 in
theorem ggX7_wash_X6_hasCompartment : GoodIn wsX7_wash wsX6_hasCompartment := goodIn_r _ [12, 13, 70, 71, 72, 73, 74, 75, 76, 77, 78, 79, 80, 81] (by decide +kernel) (by decide +kernel)
set_option maxRecDepth 20000 in
theorem gX7_wash_X6_hasCompartment : GoodIn wsX7_wash (wsV RX7 138 RX6 yX6_hasCompartment wsX6_hasCompartment) := goodIn_app (goodIn_of _ (by decide +kernel)) ggX7_wash_X6_hasCompartment
set_option maxRecDepth 20000 in
theorem ggX7_wash_X1_keep : GoodIn wsX7_wash wsX1_keep := goodIn_r _ [18, 19, 20, 21, 22, 23, 24, 25, 26, 27, 28, 29, 30, 31, 32, 33, 34, 35, 36, 37, 38, 39, 40, 41, 42, 43, 44, 45, 46, 47, 48, 49, 82, 83, 84, 61, 62, 63, 64, 65, 66, 67, 68, 69] (by decide +kernel) (by decide +kernel)
set_option maxRecDepth 20000 in
theorem gX7_wash_X1_keep : GoodIn wsX7_wash (wsV RX7 241 RX1 yX1_keep wsX1_keep) := goodIn_app (goodIn_of _ (by decide +kernel)) ggX7_wash_X1_keep
theorem dX7_wash_0 : decode cX7_wash 0 = .ok (.aload_n 0, 1) := by decide +kernel
theorem dX7_wash_1 : decode cX7_wash 1 = .ok (.getfield 30, 3) := by decide +kernel
theorem dX7_wash_4 : decode cX7_wash 4 = .ok (.iload_n 1, 1) := by decide +kernel
theorem dX7_wash_5 : decode cX7_wash 5 = .ok (.invokevirtual 138, 3) := by decide +kernel
theorem dX7_wash_8 : decode cX7_wash 8 = .ok (.ifCond .eq 34, 3) := by decide +kernel
theorem dX7_wash_11 : decode cX7_wash 11 = .ok (.aload_n 0, 1) := by decide +kernel
theorem dX7_wash_12 : decode cX7_wash 12 = .ok (.getfield 40, 3) := by decide +kernel
theorem dX7_wash_15 : decode cX7_wash 15 = .ok (.getfield 118, 3) := by decide +kernel
theorem dX7_wash_18 : decode cX7_wash 18 = .ok (.getfield 156, 3) := by decide +kernel
theorem dX7_wash_21 : decode cX7_wash 21 = .ok (.iload_n 1, 1) := by decide +kernel
theorem dX7_wash_22 : decode cX7_wash 22 = .ok (.iaload, 1) := by decide +kernel
theorem dX7_wash_23 : decode cX7_wash 23 = .ok (.ifCond .gt 19, 3) := by decide +kernel
theorem dX7_wash_26 : decode cX7_wash 26 = .ok (.aload_n 0, 1) := by decide +kernel
theorem dX7_wash_27 : decode cX7_wash 27 = .ok (.getfield 40, 3) := by decide +kernel
theorem dX7_wash_30 : decode cX7_wash 30 = .ok (.getfield 118, 3) := by decide +kernel
theorem dX7_wash_33 : decode cX7_wash 33 = .ok (.getfield 162, 3) := by decide +kernel
theorem dX7_wash_36 : decode cX7_wash 36 = .ok (.iload_n 1, 1) := by decide +kernel
theorem dX7_wash_37 : decode cX7_wash 37 = .ok (.iaload, 1) := by decide +kernel
theorem dX7_wash_38 : decode cX7_wash 38 = .ok (.iconst (-1), 1) := by decide +kernel
theorem dX7_wash_39 : decode cX7_wash 39 = .ok (.if_icmp .ne 5, 3) := by decide +kernel
theorem dX7_wash_42 : decode cX7_wash 42 = .ok (.iconst 0, 1) := by decide +kernel
theorem dX7_wash_43 : decode cX7_wash 43 = .ok (.ireturn, 1) := by decide +kernel
theorem dX7_wash_44 : decode cX7_wash 44 = .ok (.aload_n 0, 1) := by decide +kernel
theorem dX7_wash_45 : decode cX7_wash 45 = .ok (.getfield 47, 3) := by decide +kernel
theorem dX7_wash_48 : decode cX7_wash 48 = .ok (.aload_n 0, 1) := by decide +kernel
theorem dX7_wash_49 : decode cX7_wash 49 = .ok (.getfield 40, 3) := by decide +kernel
theorem dX7_wash_52 : decode cX7_wash 52 = .ok (.invokevirtual 241, 3) := by decide +kernel
theorem dX7_wash_55 : decode cX7_wash 55 = .ok (.aload_n 0, 1) := by decide +kernel
theorem dX7_wash_56 : decode cX7_wash 56 = .ok (.getfield 40, 3) := by decide +kernel
theorem dX7_wash_59 : decode cX7_wash 59 = .ok (.getfield 118, 3) := by decide +kernel
theorem dX7_wash_62 : decode cX7_wash 62 = .ok (.getfield 162, 3) := by decide +kernel
theorem dX7_wash_65 : decode cX7_wash 65 = .ok (.iload_n 1, 1) := by decide +kernel
theorem dX7_wash_66 : decode cX7_wash 66 = .ok (.iconst (-1), 1) := by decide +kernel
theorem dX7_wash_67 : decode cX7_wash 67 = .ok (.iastore, 1) := by decide +kernel
theorem dX7_wash_68 : decode cX7_wash 68 = .ok (.aload_n 0, 1) := by decide +kernel
theorem dX7_wash_69 : decode cX7_wash 69 = .ok (.getfield 40, 3) := by decide +kernel
theorem dX7_wash_72 : decode cX7_wash 72 = .ok (.dup, 1) := by decide +kernel
theorem dX7_wash_73 : decode cX7_wash 73 = .ok (.getfield 131, 3) := by decide +kernel
theorem dX7_wash_76 : decode cX7_wash 76 = .ok (.iconst 1, 1) := by decide +kernel
theorem dX7_wash_77 : decode cX7_wash 77 = .ok (.iadd, 1) := by decide +kernel
theorem dX7_wash_78 : decode cX7_wash 78 = .ok (.putfield 131, 3) := by decide +kernel
theorem dX7_wash_81 : decode cX7_wash 81 = .ok (.iconst 1, 1) := by decide +kernel
theorem dX7_wash_82 : decode cX7_wash 82 = .ok (.ireturn, 1) := by decide +kernel
set_option maxRecDepth 20000 in
theorem ggX7_undo_X1_goBack : GoodIn wsX7_undo wsX1_goBack := goodIn_r _ [8, 9, 10, 11, 12, 13, 14, 15, 16, 17, 18, 19, 20, 21, 22, 23, 24, 25, 26, 27, 28, 29, 30, 31, 32, 33, 34, 35, 47, 48, 49, 50, 51, 52, 53, 54, 55, 56, 57, 58] (by decide +kernel) (by decide +kernel)
set_option maxRecDepth 20000 in
theorem gX7_undo_X1_goBack : GoodIn wsX7_undo (wsV RX7 263 RX1 yX1_goBack wsX1_goBack) := goodIn_app (goodIn_of _ (by decide +kernel)) ggX7_undo_X1_goBack
theorem dX7_undo_0 : decode cX7_undo 0 = .ok (.aload_n 0, 1) := by decide +kernel
theorem dX7_undo_1 : decode cX7_undo 1 = .ok (.getfield 47, 3) := by decide +kernel
theorem dX7_undo_4 : decode cX7_undo 4 = .ok (.aload_n 0, 1) := by decide +kernel
theorem dX7_undo_5 : decode cX7_undo 5 = .ok (.getfield 40, 3) := by decide +kernel
theorem dX7_undo_8 : decode cX7_undo 8 = .ok (.invokevirtual 263, 3) := by decide +kernel
theorem dX7_undo_11 : decode cX7_undo 11 = .ok (.ifCond .eq 13, 3) := by decide +kernel
theorem dX7_undo_14 : decode cX7_undo 14 = .ok (.aload_n 0, 1) := by decide +kernel
theorem dX7_undo_15 : decode cX7_undo 15 = .ok (.getfield 47, 3) := by decide +kernel
theorem dX7_undo_18 : decode cX7_undo 18 = .ok (.getfield 134, 3) := by decide +kernel
theorem dX7_undo_21 : decode cX7_undo 21 = .ok (.goto 4, 3) := by decide +kernel
theorem dX7_undo_24 : decode cX7_undo 24 = .ok (.iconst (-1), 1) := by decide +kernel
theorem dX7_undo_25 : decode cX7_undo 25 = .ok (.ireturn, 1) := by decide +kernel
theorem dX7_tapeNumber_0 : decode cX7_tapeNumber 0 = .ok (.bipush 24, 2) := by decide +kernel
theorem dX7_tapeNumber_2 : decode cX7_tapeNumber 2 = .ok (.istore_n 2, 1) := by decide +kernel
theorem dX7_tapeNumber_3 : decode cX7_tapeNumber 3 = .ok (.iload_n 2, 1) := by decide +kernel
theorem dX7_tapeNumber_4 : decode cX7_tapeNumber 4 = .ok (.ifCond .lt 42, 3) := by decide +kernel
theorem dX7_tapeNumber_7 : decode cX7_tapeNumber 7 = .ok (.aload_n 0, 1) := by decide +kernel
theorem dX7_tapeNumber_8 : decode cX7_tapeNumber 8 = .ok (.getfield 13, 3) := by decide +kernel
theorem dX7_tapeNumber_11 : decode cX7_tapeNumber 11 = .ok (.sipush 740, 3) := by decide +kernel
theorem dX7_tapeNumber_14 : decode cX7_tapeNumber 14 = .ok (.if_icmp .ge 26, 3) := by decide +kernel
theorem dX7_tapeNumber_17 : decode cX7_tapeNumber 17 = .ok (.aload_n 0, 1) := by decide +kernel
theorem dX7_tapeNumber_18 : decode cX7_tapeNumber 18 = .ok (.getfield 9, 3) := by decide +kernel
theorem dX7_tapeNumber_21 : decode cX7_tapeNumber 21 = .ok (.aload_n 0, 1) := by decide +kernel
theorem dX7_tapeNumber_22 : decode cX7_tapeNumber 22 = .ok (.getfield 13, 3) := by decide +kernel
theorem dX7_tapeNumber_25 : decode cX7_tapeNumber 25 = .ok (.iload_n 1, 1) := by decide +kernel
theorem dX7_tapeNumber_26 : decode cX7_tapeNumber 26 = .ok (.iload_n 2, 1) := by decide +kernel
theorem dX7_tapeNumber_27 : decode cX7_tapeNumber 27 = .ok (.ishr, 1) := by decide +kernel
theorem dX7_tapeNumber_28 : decode cX7_tapeNumber 28 = .ok (.i2b, 1) := by decide +kernel
theorem dX7_tapeNumber_29 : decode cX7_tapeNumber 29 = .ok (.bastore, 1) := by decide +kernel
theorem dX7_tapeNumber_30 : decode cX7_tapeNumber 30 = .ok (.aload_n 0, 1) := by decide +kernel
theorem dX7_tapeNumber_31 : decode cX7_tapeNumber 31 = .ok (.dup, 1) := by decide +kernel
theorem dX7_tapeNumber_32 : decode cX7_tapeNumber 32 = .ok (.getfield 13, 3) := by decide +kernel
theorem dX7_tapeNumber_35 : decode cX7_tapeNumber 35 = .ok (.iconst 1, 1) := by decide +kernel
theorem dX7_tapeNumber_36 : decode cX7_tapeNumber 36 = .ok (.iadd, 1) := by decide +kernel
theorem dX7_tapeNumber_37 : decode cX7_tapeNumber 37 = .ok (.putfield 13, 3) := by decide +kernel
theorem dX7_tapeNumber_40 : decode cX7_tapeNumber 40 = .ok (.iinc 2 (-8), 3) := by decide +kernel
theorem dX7_tapeNumber_43 : decode cX7_tapeNumber 43 = .ok (.goto (-40), 3) := by decide +kernel
theorem dX7_tapeNumber_46 : decode cX7_tapeNumber 46 = .ok (.return_, 1) := by decide +kernel
set_option maxRecDepth 20000 in
theorem ggX7_isSo_X5_hasDrop : GoodIn wsX7_isSo wsX5_hasDrop := goodIn_r _ [7, 8, 34, 35, 36, 37, 38] (by decide +kernel) (by decide +kernel)
set_option maxRecDepth 20000 in
theorem gX7_isSo_X5_hasDrop : GoodIn wsX7_isSo (wsV RX7 165 RX5 yX5_hasDrop wsX5_hasDrop) := goodIn_app (goodIn_of _ (by decide +kernel)) ggX7_isSo_X5_hasDrop
set_option maxRecDepth 20000 in
theorem ggX7_isSo_X5_how : GoodIn wsX7_isSo wsX5_how := goodIn_r _ [12, 13, 14, 15, 16, 17, 18, 19, 20, 21, 22, 34, 35, 36, 37, 38, 39, 40, 41, 42, 43, 44, 45, 46, 47, 48, 49, 50, 51, 52, 53, 54] (by decide +kernel) (by decide +kernel)
set_option maxRecDepth 20000 in
theorem gX7_isSo_X5_how : GoodIn wsX7_isSo (wsV RX7 180 RX5 yX5_how wsX5_how) := goodIn_app (goodIn_of _ (by decide +kernel)) ggX7_isSo_X5_how
theorem dX7_isSo_0 : decode cX7_isSo 0 = .ok (.aload_n 0, 1) := by decide +kernel
theorem dX7_isSo_1 : decode cX7_isSo 1 = .ok (.getfield 40, 3) := by decide +kernel
theorem dX7_isSo_4 : decode cX7_isSo 4 = .ok (.iload_n 1, 1) := by decide +kernel
theorem dX7_isSo_5 : decode cX7_isSo 5 = .ok (.invokevirtual 165, 3) := by decide +kernel
theorem dX7_isSo_8 : decode cX7_isSo 8 = .ok (.ifCond .eq 23, 3) := by decide +kernel
theorem dX7_isSo_11 : decode cX7_isSo 11 = .ok (.aload_n 0, 1) := by decide +kernel
theorem dX7_isSo_12 : decode cX7_isSo 12 = .ok (.getfield 40, 3) := by decide +kernel
theorem dX7_isSo_15 : decode cX7_isSo 15 = .ok (.aload_n 0, 1) := by decide +kernel
theorem dX7_isSo_16 : decode cX7_isSo 16 = .ok (.getfield 30, 3) := by decide +kernel
theorem dX7_isSo_19 : decode cX7_isSo 19 = .ok (.iload_n 1, 1) := by decide +kernel
theorem dX7_isSo_20 : decode cX7_isSo 20 = .ok (.invokevirtual 180, 3) := by decide +kernel
theorem dX7_isSo_23 : decode cX7_isSo 23 = .ok (.iload_n 2, 1) := by decide +kernel
theorem dX7_isSo_24 : decode cX7_isSo 24 = .ok (.if_icmp .ne 7, 3) := by decide +kernel
theorem dX7_isSo_27 : decode cX7_isSo 27 = .ok (.iconst 1, 1) := by decide +kernel
theorem dX7_isSo_28 : decode cX7_isSo 28 = .ok (.goto 4, 3) := by decide +kernel
theorem dX7_isSo_31 : decode cX7_isSo 31 = .ok (.iconst 0, 1) := by decide +kernel
theorem dX7_isSo_32 : decode cX7_isSo 32 = .ok (.ireturn, 1) := by decide +kernel
theorem dX8_thrown_0 : decode cX8_thrown 0 = .ok (.aload_n 0, 1) := by decide +kernel
theorem dX8_thrown_1 : decode cX8_thrown 1 = .ok (.getfield 1, 3) := by decide +kernel
theorem dX8_thrown_4 : decode cX8_thrown 4 = .ok (.ireturn, 1) := by decide +kernel
theorem dX8_refuse_0 : decode cX8_refuse 0 = .ok (.aload_n 0, 1) := by decide +kernel
theorem dX8_refuse_1 : decode cX8_refuse 1 = .ok (.iconst 1, 1) := by decide +kernel
theorem dX8_refuse_2 : decode cX8_refuse 2 = .ok (.putfield 1, 3) := by decide +kernel
theorem dX8_refuse_5 : decode cX8_refuse 5 = .ok (.iconst 0, 1) := by decide +kernel
theorem dX8_refuse_6 : decode cX8_refuse 6 = .ok (.ireturn, 1) := by decide +kernel
theorem dX8_isIn_0 : decode cX8_isIn 0 = .ok (.iload_n 0, 1) := by decide +kernel
theorem dX8_isIn_1 : decode cX8_isIn 1 = .ok (.iload_n 1, 1) := by decide +kernel
theorem dX8_isIn_2 : decode cX8_isIn 2 = .ok (.if_icmp .lt 12, 3) := by decide +kernel
theorem dX8_isIn_5 : decode cX8_isIn 5 = .ok (.iload_n 0, 1) := by decide +kernel
theorem dX8_isIn_6 : decode cX8_isIn 6 = .ok (.iload_n 2, 1) := by decide +kernel
theorem dX8_isIn_7 : decode cX8_isIn 7 = .ok (.if_icmp .gt 7, 3) := by decide +kernel
theorem dX8_isIn_10 : decode cX8_isIn 10 = .ok (.iconst 1, 1) := by decide +kernel
theorem dX8_isIn_11 : decode cX8_isIn 11 = .ok (.goto 4, 3) := by decide +kernel
theorem dX8_isIn_14 : decode cX8_isIn 14 = .ok (.iconst 0, 1) := by decide +kernel
theorem dX8_isIn_15 : decode cX8_isIn 15 = .ok (.ireturn, 1) := by decide +kernel
theorem dX8_has_0 : decode cX8_has 0 = .ok (.iload_n 0, 1) := by decide +kernel
theorem dX8_has_1 : decode cX8_has 1 = .ok (.iload_n 1, 1) := by decide +kernel
theorem dX8_has_2 : decode cX8_has 2 = .ok (.ishr, 1) := by decide +kernel
theorem dX8_has_3 : decode cX8_has 3 = .ok (.iconst 1, 1) := by decide +kernel
theorem dX8_has_4 : decode cX8_has 4 = .ok (.iand, 1) := by decide +kernel
theorem dX8_has_5 : decode cX8_has 5 = .ok (.iconst 1, 1) := by decide +kernel
theorem dX8_has_6 : decode cX8_has 6 = .ok (.if_icmp .ne 7, 3) := by decide +kernel
theorem dX8_has_9 : decode cX8_has 9 = .ok (.iconst 1, 1) := by decide +kernel
theorem dX8_has_10 : decode cX8_has 10 = .ok (.goto 4, 3) := by decide +kernel
theorem dX8_has_13 : decode cX8_has 13 = .ok (.iconst 0, 1) := by decide +kernel
theorem dX8_has_14 : decode cX8_has 14 = .ok (.ireturn, 1) := by decide +kernel
theorem dX8_lays_0 : decode cX8_lays 0 = .ok (.bipush 24, 2) := by decide +kernel
theorem dX8_lays_2 : decode cX8_lays 2 = .ok (.istore_n 2, 1) := by decide +kernel
theorem dX8_lays_3 : decode cX8_lays 3 = .ok (.iload_n 2, 1) := by decide +kernel
theorem dX8_lays_4 : decode cX8_lays 4 = .ok (.ifCond .lt 35, 3) := by decide +kernel
theorem dX8_lays_7 : decode cX8_lays 7 = .ok (.aload_n 0, 1) := by decide +kernel
theorem dX8_lays_8 : decode cX8_lays 8 = .ok (.getfield 7, 3) := by decide +kernel
theorem dX8_lays_11 : decode cX8_lays 11 = .ok (.aload_n 0, 1) := by decide +kernel
theorem dX8_lays_12 : decode cX8_lays 12 = .ok (.getfield 11, 3) := by decide +kernel
theorem dX8_lays_15 : decode cX8_lays 15 = .ok (.iload_n 1, 1) := by decide +kernel
theorem dX8_lays_16 : decode cX8_lays 16 = .ok (.iload_n 2, 1) := by decide +kernel
theorem dX8_lays_17 : decode cX8_lays 17 = .ok (.iushr, 1) := by decide +kernel
theorem dX8_lays_18 : decode cX8_lays 18 = .ok (.sipush 255, 3) := by decide +kernel
theorem dX8_lays_21 : decode cX8_lays 21 = .ok (.iand, 1) := by decide +kernel
theorem dX8_lays_22 : decode cX8_lays 22 = .ok (.iastore, 1) := by decide +kernel
theorem dX8_lays_23 : decode cX8_lays 23 = .ok (.aload_n 0, 1) := by decide +kernel
theorem dX8_lays_24 : decode cX8_lays 24 = .ok (.dup, 1) := by decide +kernel
theorem dX8_lays_25 : decode cX8_lays 25 = .ok (.getfield 11, 3) := by decide +kernel
theorem dX8_lays_28 : decode cX8_lays 28 = .ok (.iconst 1, 1) := by decide +kernel
theorem dX8_lays_29 : decode cX8_lays 29 = .ok (.iadd, 1) := by decide +kernel
theorem dX8_lays_30 : decode cX8_lays 30 = .ok (.putfield 11, 3) := by decide +kernel
theorem dX8_lays_33 : decode cX8_lays 33 = .ok (.iinc 2 (-8), 3) := by decide +kernel
theorem dX8_lays_36 : decode cX8_lays 36 = .ok (.goto (-33), 3) := by decide +kernel
theorem dX8_lays_39 : decode cX8_lays 39 = .ok (.return_, 1) := by decide +kernel
set_option maxRecDepth 20000 in
theorem ggX8_feed_X8_lays : GoodIn wsX8_feed wsX8_lays := goodIn_r _ [7, 8, 2, 9, 10, 11, 12, 13, 14, 15, 16, 17, 18, 19, 20, 21, 22, 23, 24, 25, 26, 27, 28, 29, 30, 31, 32, 33, 34, 35, 36] (by decide +kernel) (by decide +kernel)
set_option maxRecDepth 20000 in
theorem gX8_feed_X8_lays : GoodIn wsX8_feed (wsV RX8 14 RX8 yX8_lays wsX8_lays) := goodIn_app (goodIn_of _ (by decide +kernel)) ggX8_feed_X8_lays
theorem dX8_feed_0 : decode cX8_feed 0 = .ok (.aload_n 0, 1) := by decide +kernel
theorem dX8_feed_1 : decode cX8_feed 1 = .ok (.iconst 0, 1) := by decide +kernel
theorem dX8_feed_2 : decode cX8_feed 2 = .ok (.putfield 1, 3) := by decide +kernel
theorem dX8_feed_5 : decode cX8_feed 5 = .ok (.aload_n 0, 1) := by decide +kernel
theorem dX8_feed_6 : decode cX8_feed 6 = .ok (.getfield 11, 3) := by decide +kernel
theorem dX8_feed_9 : decode cX8_feed 9 = .ok (.bipush 20, 2) := by decide +kernel
theorem dX8_feed_11 : decode cX8_feed 11 = .ok (.iadd, 1) := by decide +kernel
theorem dX8_feed_12 : decode cX8_feed 12 = .ok (.sipush 740, 3) := by decide +kernel
theorem dX8_feed_15 : decode cX8_feed 15 = .ok (.if_icmp .le 5, 3) := by decide +kernel
theorem dX8_feed_18 : decode cX8_feed 18 = .ok (.iconst (-1), 1) := by decide +kernel
theorem dX8_feed_19 : decode cX8_feed 19 = .ok (.ireturn, 1) := by decide +kernel
theorem dX8_feed_20 : decode cX8_feed 20 = .ok (.aload_n 0, 1) := by decide +kernel
theorem dX8_feed_21 : decode cX8_feed 21 = .ok (.iload_n 1, 1) := by decide +kernel
theorem dX8_feed_22 : decode cX8_feed 22 = .ok (.invokevirtual 14, 3) := by decide +kernel
theorem dX8_feed_25 : decode cX8_feed 25 = .ok (.aload_n 0, 1) := by decide +kernel
theorem dX8_feed_26 : decode cX8_feed 26 = .ok (.iload_n 2, 1) := by decide +kernel
theorem dX8_feed_27 : decode cX8_feed 27 = .ok (.invokevirtual 14, 3) := by decide +kernel
theorem dX8_feed_30 : decode cX8_feed 30 = .ok (.aload_n 0, 1) := by decide +kernel
theorem dX8_feed_31 : decode cX8_feed 31 = .ok (.iload_n 3, 1) := by decide +kernel
theorem dX8_feed_32 : decode cX8_feed 32 = .ok (.invokevirtual 14, 3) := by decide +kernel
theorem dX8_feed_35 : decode cX8_feed 35 = .ok (.aload_n 0, 1) := by decide +kernel
theorem dX8_feed_36 : decode cX8_feed 36 = .ok (.iload 4, 2) := by decide +kernel
theorem dX8_feed_38 : decode cX8_feed 38 = .ok (.invokevirtual 14, 3) := by decide +kernel
theorem dX8_feed_41 : decode cX8_feed 41 = .ok (.aload_n 0, 1) := by decide +kernel
theorem dX8_feed_42 : decode cX8_feed 42 = .ok (.iload 5, 2) := by decide +kernel
theorem dX8_feed_44 : decode cX8_feed 44 = .ok (.invokevirtual 14, 3) := by decide +kernel
theorem dX8_feed_47 : decode cX8_feed 47 = .ok (.aload_n 0, 1) := by decide +kernel
theorem dX8_feed_48 : decode cX8_feed 48 = .ok (.getfield 11, 3) := by decide +kernel
theorem dX8_feed_51 : decode cX8_feed 51 = .ok (.ireturn, 1) := by decide +kernel
theorem dX8_end_0 : decode cX8_end 0 = .ok (.aload_n 0, 1) := by decide +kernel
theorem dX8_end_1 : decode cX8_end 1 = .ok (.iconst 0, 1) := by decide +kernel
theorem dX8_end_2 : decode cX8_end 2 = .ok (.putfield 1, 3) := by decide +kernel
theorem dX8_end_5 : decode cX8_end 5 = .ok (.iload_n 1, 1) := by decide +kernel
theorem dX8_end_6 : decode cX8_end 6 = .ok (.ifCond .lt 11, 3) := by decide +kernel
theorem dX8_end_9 : decode cX8_end 9 = .ok (.iload_n 1, 1) := by decide +kernel
theorem dX8_end_10 : decode cX8_end 10 = .ok (.aload_n 0, 1) := by decide +kernel
theorem dX8_end_11 : decode cX8_end 11 = .ok (.getfield 11, 3) := by decide +kernel
theorem dX8_end_14 : decode cX8_end 14 = .ok (.if_icmp .le 5, 3) := by decide +kernel
theorem dX8_end_17 : decode cX8_end 17 = .ok (.iconst 0, 1) := by decide +kernel
theorem dX8_end_18 : decode cX8_end 18 = .ok (.ireturn, 1) := by decide +kernel
theorem dX8_end_19 : decode cX8_end 19 = .ok (.aload_n 0, 1) := by decide +kernel
theorem dX8_end_20 : decode cX8_end 20 = .ok (.iload_n 1, 1) := by decide +kernel
theorem dX8_end_21 : decode cX8_end 21 = .ok (.putfield 11, 3) := by decide +kernel
theorem dX8_end_24 : decode cX8_end 24 = .ok (.iconst 1, 1) := by decide +kernel
theorem dX8_end_25 : decode cX8_end 25 = .ok (.ireturn, 1) := by decide +kernel
theorem dX8_tapeAt_0 : decode cX8_tapeAt 0 = .ok (.iload_n 1, 1) := by decide +kernel
theorem dX8_tapeAt_1 : decode cX8_tapeAt 1 = .ok (.aload_n 0, 1) := by decide +kernel
theorem dX8_tapeAt_2 : decode cX8_tapeAt 2 = .ok (.getfield 18, 3) := by decide +kernel
theorem dX8_tapeAt_5 : decode cX8_tapeAt 5 = .ok (.if_icmp .ge 12, 3) := by decide +kernel
theorem dX8_tapeAt_8 : decode cX8_tapeAt 8 = .ok (.aload_n 0, 1) := by decide +kernel
theorem dX8_tapeAt_9 : decode cX8_tapeAt 9 = .ok (.getfield 7, 3) := by decide +kernel
theorem dX8_tapeAt_12 : decode cX8_tapeAt 12 = .ok (.iload_n 1, 1) := by decide +kernel
theorem dX8_tapeAt_13 : decode cX8_tapeAt 13 = .ok (.iaload, 1) := by decide +kernel
theorem dX8_tapeAt_14 : decode cX8_tapeAt 14 = .ok (.goto 4, 3) := by decide +kernel
theorem dX8_tapeAt_17 : decode cX8_tapeAt 17 = .ok (.iconst 0, 1) := by decide +kernel
theorem dX8_tapeAt_18 : decode cX8_tapeAt 18 = .ok (.ireturn, 1) := by decide +kernel
theorem dX8_isDigit_0 : decode cX8_isDigit 0 = .ok (.iload_n 0, 1) := by decide +kernel
theorem dX8_isDigit_1 : decode cX8_isDigit 1 = .ok (.bipush 48, 2) := by decide +kernel
theorem dX8_isDigit_3 : decode cX8_isDigit 3 = .ok (.if_icmp .lt 13, 3) := by decide +kernel
theorem dX8_isDigit_6 : decode cX8_isDigit 6 = .ok (.iload_n 0, 1) := by decide +kernel
theorem dX8_isDigit_7 : decode cX8_isDigit 7 = .ok (.bipush 57, 2) := by decide +kernel
theorem dX8_isDigit_9 : decode cX8_isDigit 9 = .ok (.if_icmp .gt 7, 3) := by decide +kernel
theorem dX8_isDigit_12 : decode cX8_isDigit 12 = .ok (.iconst 1, 1) := by decide +kernel
theorem dX8_isDigit_13 : decode cX8_isDigit 13 = .ok (.goto 4, 3) := by decide +kernel
theorem dX8_isDigit_16 : decode cX8_isDigit 16 = .ok (.iconst 0, 1) := by decide +kernel
theorem dX8_isDigit_17 : decode cX8_isDigit 17 = .ok (.ireturn, 1) := by decide +kernel
theorem dX8_isLetter_0 : decode cX8_isLetter 0 = .ok (.iload_n 0, 1) := by decide +kernel
theorem dX8_isLetter_1 : decode cX8_isLetter 1 = .ok (.bipush 97, 2) := by decide +kernel
theorem dX8_isLetter_3 : decode cX8_isLetter 3 = .ok (.if_icmp .lt 13, 3) := by decide +kernel
theorem dX8_isLetter_6 : decode cX8_isLetter 6 = .ok (.iload_n 0, 1) := by decide +kernel
theorem dX8_isLetter_7 : decode cX8_isLetter 7 = .ok (.bipush 122, 2) := by decide +kernel
theorem dX8_isLetter_9 : decode cX8_isLetter 9 = .ok (.if_icmp .gt 7, 3) := by decide +kernel
theorem dX8_isLetter_12 : decode cX8_isLetter 12 = .ok (.iconst 1, 1) := by decide +kernel
theorem dX8_isLetter_13 : decode cX8_isLetter 13 = .ok (.goto 4, 3) := by decide +kernel
theorem dX8_isLetter_16 : decode cX8_isLetter 16 = .ok (.iconst 0, 1) := by decide +kernel
theorem dX8_isLetter_17 : decode cX8_isLetter 17 = .ok (.ireturn, 1) := by decide +kernel
set_option maxRecDepth 20000 in
theorem ggX8_go_X8_isLetter : GoodIn wsX8_go wsX8_isLetter := goodIn_r _ [13] (by decide +kernel) (by decide +kernel)
set_option maxRecDepth 20000 in
theorem gX8_go_X8_isLetter : GoodIn wsX8_go (va_wsS RX8 30 yX8_isLetter wsX8_isLetter) := goodIn_app (goodIn_of _ (by decide +kernel)) ggX8_go_X8_isLetter
set_option maxRecDepth 20000 in
theorem ggX8_go_X8_isDigit : GoodIn wsX8_go wsX8_isDigit := goodIn_r _ [16] (by decide +kernel) (by decide +kernel)
set_option maxRecDepth 20000 in
theorem gX8_go_X8_isDigit : GoodIn wsX8_go (va_wsS RX8 34 yX8_isDigit wsX8_isDigit) := goodIn_app (goodIn_of _ (by decide +kernel)) ggX8_go_X8_isDigit
set_option maxRecDepth 20000 in
theorem ggX8_go_X8_tapeAt : GoodIn wsX8_go wsX8_tapeAt := goodIn_r _ [20, 2, 3, 21, 22, 23, 24, 25, 26, 27, 28, 29, 30, 31, 32, 33, 34, 35, 36, 37, 38, 39, 40, 41, 42, 43, 44, 45, 46, 47, 48] (by decide +kernel) (by decide +kernel)
set_option maxRecDepth 20000 in
theorem gX8_go_X8_tapeAt : GoodIn wsX8_go (wsV RX8 44 RX8 yX8_tapeAt wsX8_tapeAt) := goodIn_app (goodIn_of _ (by decide +kernel)) ggX8_go_X8_tapeAt
theorem dX8_go_0 : decode cX8_go 0 = .ok (.aload_n 0, 1) := by decide +kernel
theorem dX8_go_1 : decode cX8_go 1 = .ok (.getfield 21, 3) := by decide +kernel
theorem dX8_go_4 : decode cX8_go 4 = .ok (.aload_n 0, 1) := by decide +kernel
theorem dX8_go_5 : decode cX8_go 5 = .ok (.getfield 18, 3) := by decide +kernel
theorem dX8_go_8 : decode cX8_go 8 = .ok (.if_icmp .ge 44, 3) := by decide +kernel
theorem dX8_go_11 : decode cX8_go 11 = .ok (.aload_n 0, 1) := by decide +kernel
theorem dX8_go_12 : decode cX8_go 12 = .ok (.getfield 7, 3) := by decide +kernel
theorem dX8_go_15 : decode cX8_go 15 = .ok (.aload_n 0, 1) := by decide +kernel
theorem dX8_go_16 : decode cX8_go 16 = .ok (.getfield 21, 3) := by decide +kernel
theorem dX8_go_19 : decode cX8_go 19 = .ok (.iaload, 1) := by decide +kernel
theorem dX8_go_20 : decode cX8_go 20 = .ok (.bipush 32, 2) := by decide +kernel
theorem dX8_go_22 : decode cX8_go 22 = .ok (.if_icmp .eq 17, 3) := by decide +kernel
theorem dX8_go_25 : decode cX8_go 25 = .ok (.aload_n 0, 1) := by decide +kernel
theorem dX8_go_26 : decode cX8_go 26 = .ok (.getfield 7, 3) := by decide +kernel
theorem dX8_go_29 : decode cX8_go 29 = .ok (.aload_n 0, 1) := by decide +kernel
theorem dX8_go_30 : decode cX8_go 30 = .ok (.getfield 21, 3) := by decide +kernel
theorem dX8_go_33 : decode cX8_go 33 = .ok (.iaload, 1) := by decide +kernel
theorem dX8_go_34 : decode cX8_go 34 = .ok (.bipush 10, 2) := by decide +kernel
theorem dX8_go_36 : decode cX8_go 36 = .ok (.if_icmp .ne 16, 3) := by decide +kernel
theorem dX8_go_39 : decode cX8_go 39 = .ok (.aload_n 0, 1) := by decide +kernel
theorem dX8_go_40 : decode cX8_go 40 = .ok (.dup, 1) := by decide +kernel
theorem dX8_go_41 : decode cX8_go 41 = .ok (.getfield 21, 3) := by decide +kernel
theorem dX8_go_44 : decode cX8_go 44 = .ok (.iconst 1, 1) := by decide +kernel
theorem dX8_go_45 : decode cX8_go 45 = .ok (.iadd, 1) := by decide +kernel
theorem dX8_go_46 : decode cX8_go 46 = .ok (.putfield 21, 3) := by decide +kernel
theorem dX8_go_49 : decode cX8_go 49 = .ok (.goto (-49), 3) := by decide +kernel
theorem dX8_go_52 : decode cX8_go 52 = .ok (.aload_n 0, 1) := by decide +kernel
theorem dX8_go_53 : decode cX8_go 53 = .ok (.aload_n 0, 1) := by decide +kernel
theorem dX8_go_54 : decode cX8_go 54 = .ok (.getfield 21, 3) := by decide +kernel
theorem dX8_go_57 : decode cX8_go 57 = .ok (.putfield 24, 3) := by decide +kernel
theorem dX8_go_60 : decode cX8_go 60 = .ok (.aload_n 0, 1) := by decide +kernel
theorem dX8_go_61 : decode cX8_go 61 = .ok (.getfield 18, 3) := by decide +kernel
theorem dX8_go_64 : decode cX8_go 64 = .ok (.sipush 700, 3) := by decide +kernel
theorem dX8_go_67 : decode cX8_go 67 = .ok (.if_icmp .le 26, 3) := by decide +kernel
theorem dX8_go_70 : decode cX8_go 70 = .ok (.aload_n 0, 1) := by decide +kernel
theorem dX8_go_71 : decode cX8_go 71 = .ok (.getfield 24, 3) := by decide +kernel
theorem dX8_go_74 : decode cX8_go 74 = .ok (.sipush 700, 3) := by decide +kernel
theorem dX8_go_77 : decode cX8_go 77 = .ok (.if_icmp .lt 16, 3) := by decide +kernel
theorem dX8_go_80 : decode cX8_go 80 = .ok (.aload_n 0, 1) := by decide +kernel
theorem dX8_go_81 : decode cX8_go 81 = .ok (.sipush 700, 3) := by decide +kernel
theorem dX8_go_84 : decode cX8_go 84 = .ok (.putfield 24, 3) := by decide +kernel
theorem dX8_go_87 : decode cX8_go 87 = .ok (.aload_n 0, 1) := by decide +kernel
theorem dX8_go_88 : decode cX8_go 88 = .ok (.iconst 1, 1) := by decide +kernel
theorem dX8_go_89 : decode cX8_go 89 = .ok (.putfield 27, 3) := by decide +kernel
theorem dX8_go_92 : decode cX8_go 92 = .ok (.return_, 1) := by decide +kernel
theorem dX8_go_93 : decode cX8_go 93 = .ok (.aload_n 0, 1) := by decide +kernel
theorem dX8_go_94 : decode cX8_go 94 = .ok (.getfield 21, 3) := by decide +kernel
theorem dX8_go_97 : decode cX8_go 97 = .ok (.aload_n 0, 1) := by decide +kernel
theorem dX8_go_98 : decode cX8_go 98 = .ok (.getfield 18, 3) := by decide +kernel
theorem dX8_go_101 : decode cX8_go 101 = .ok (.if_icmp .lt 9, 3) := by decide +kernel
theorem dX8_go_104 : decode cX8_go 104 = .ok (.aload_n 0, 1) := by decide +kernel
theorem dX8_go_105 : decode cX8_go 105 = .ok (.iconst 0, 1) := by decide +kernel
theorem dX8_go_106 : decode cX8_go 106 = .ok (.putfield 27, 3) := by decide +kernel
theorem dX8_go_109 : decode cX8_go 109 = .ok (.return_, 1) := by decide +kernel
theorem dX8_go_110 : decode cX8_go 110 = .ok (.aload_n 0, 1) := by decide +kernel
theorem dX8_go_111 : decode cX8_go 111 = .ok (.getfield 7, 3) := by decide +kernel
theorem dX8_go_114 : decode cX8_go 114 = .ok (.aload_n 0, 1) := by decide +kernel
theorem dX8_go_115 : decode cX8_go 115 = .ok (.getfield 21, 3) := by decide +kernel
theorem dX8_go_118 : decode cX8_go 118 = .ok (.iaload, 1) := by decide +kernel
theorem dX8_go_119 : decode cX8_go 119 = .ok (.istore_n 1, 1) := by decide +kernel
theorem dX8_go_120 : decode cX8_go 120 = .ok (.iload_n 1, 1) := by decide +kernel
theorem dX8_go_121 : decode cX8_go 121 = .ok (.invokestatic 30, 3) := by decide +kernel
theorem dX8_go_124 : decode cX8_go 124 = .ok (.ifCond .ne 36, 3) := by decide +kernel
theorem dX8_go_127 : decode cX8_go 127 = .ok (.iload_n 1, 1) := by decide +kernel
theorem dX8_go_128 : decode cX8_go 128 = .ok (.invokestatic 34, 3) := by decide +kernel
theorem dX8_go_131 : decode cX8_go 131 = .ok (.ifCond .ne 29, 3) := by decide +kernel
theorem dX8_go_134 : decode cX8_go 134 = .ok (.aload_n 0, 1) := by decide +kernel
theorem dX8_go_135 : decode cX8_go 135 = .ok (.iload_n 1, 1) := by decide +kernel
theorem dX8_go_136 : decode cX8_go 136 = .ok (.bipush 59, 2) := by decide +kernel
theorem dX8_go_138 : decode cX8_go 138 = .ok (.if_icmp .ne 7, 3) := by decide +kernel
theorem dX8_go_141 : decode cX8_go 141 = .ok (.iconst 4, 1) := by decide +kernel
theorem dX8_go_142 : decode cX8_go 142 = .ok (.goto 4, 3) := by decide +kernel
theorem dX8_go_145 : decode cX8_go 145 = .ok (.iconst 1, 1) := by decide +kernel
theorem dX8_go_146 : decode cX8_go 146 = .ok (.putfield 27, 3) := by decide +kernel
theorem dX8_go_149 : decode cX8_go 149 = .ok (.aload_n 0, 1) := by decide +kernel
theorem dX8_go_150 : decode cX8_go 150 = .ok (.dup, 1) := by decide +kernel
theorem dX8_go_151 : decode cX8_go 151 = .ok (.getfield 21, 3) := by decide +kernel
theorem dX8_go_154 : decode cX8_go 154 = .ok (.iconst 1, 1) := by decide +kernel
theorem dX8_go_155 : decode cX8_go 155 = .ok (.iadd, 1) := by decide +kernel
theorem dX8_go_156 : decode cX8_go 156 = .ok (.putfield 21, 3) := by decide +kernel
theorem dX8_go_159 : decode cX8_go 159 = .ok (.return_, 1) := by decide +kernel
theorem dX8_go_160 : decode cX8_go 160 = .ok (.iload_n 1, 1) := by decide +kernel
theorem dX8_go_161 : decode cX8_go 161 = .ok (.invokestatic 30, 3) := by decide +kernel
theorem dX8_go_164 : decode cX8_go 164 = .ok (.istore_n 2, 1) := by decide +kernel
theorem dX8_go_165 : decode cX8_go 165 = .ok (.iconst 1, 1) := by decide +kernel
theorem dX8_go_166 : decode cX8_go 166 = .ok (.istore_n 3, 1) := by decide +kernel
theorem dX8_go_167 : decode cX8_go 167 = .ok (.aload_n 0, 1) := by decide +kernel
theorem dX8_go_168 : decode cX8_go 168 = .ok (.lconst 0, 1) := by decide +kernel
theorem dX8_go_169 : decode cX8_go 169 = .ok (.putfield 37, 3) := by decide +kernel
theorem dX8_go_172 : decode cX8_go 172 = .ok (.aload_n 0, 1) := by decide +kernel
theorem dX8_go_173 : decode cX8_go 173 = .ok (.iconst 0, 1) := by decide +kernel
theorem dX8_go_174 : decode cX8_go 174 = .ok (.putfield 41, 3) := by decide +kernel
theorem dX8_go_177 : decode cX8_go 177 = .ok (.aload_n 0, 1) := by decide +kernel
theorem dX8_go_178 : decode cX8_go 178 = .ok (.aload_n 0, 1) := by decide +kernel
theorem dX8_go_179 : decode cX8_go 179 = .ok (.getfield 21, 3) := by decide +kernel
theorem dX8_go_182 : decode cX8_go 182 = .ok (.invokevirtual 44, 3) := by decide +kernel
theorem dX8_go_185 : decode cX8_go 185 = .ok (.invokestatic 30, 3) := by decide +kernel
theorem dX8_go_188 : decode cX8_go 188 = .ok (.ifCond .ne 17, 3) := by decide +kernel
theorem dX8_go_191 : decode cX8_go 191 = .ok (.aload_n 0, 1) := by decide +kernel
theorem dX8_go_192 : decode cX8_go 192 = .ok (.aload_n 0, 1) := by decide +kernel
theorem dX8_go_193 : decode cX8_go 193 = .ok (.getfield 21, 3) := by decide +kernel
theorem dX8_go_196 : decode cX8_go 196 = .ok (.invokevirtual 44, 3) := by decide +kernel
theorem dX8_go_199 : decode cX8_go 199 = .ok (.invokestatic 34, 3) := by decide +kernel
theorem dX8_go_202 : decode cX8_go 202 = .ok (.ifCond .eq 110, 3) := by decide +kernel
theorem dX8_go_205 : decode cX8_go 205 = .ok (.aload_n 0, 1) := by decide +kernel
theorem dX8_go_206 : decode cX8_go 206 = .ok (.getfield 7, 3) := by decide +kernel
theorem dX8_go_209 : decode cX8_go 209 = .ok (.aload_n 0, 1) := by decide +kernel
theorem dX8_go_210 : decode cX8_go 210 = .ok (.getfield 21, 3) := by decide +kernel
theorem dX8_go_213 : decode cX8_go 213 = .ok (.iaload, 1) := by decide +kernel
theorem dX8_go_214 : decode cX8_go 214 = .ok (.istore 4, 2) := by decide +kernel
theorem dX8_go_216 : decode cX8_go 216 = .ok (.iload_n 3, 1) := by decide +kernel
theorem dX8_go_217 : decode cX8_go 217 = .ok (.ifCond .eq 16, 3) := by decide +kernel
theorem dX8_go_220 : decode cX8_go 220 = .ok (.iload 4, 2) := by decide +kernel
theorem dX8_go_222 : decode cX8_go 222 = .ok (.invokestatic 30, 3) := by decide +kernel
theorem dX8_go_225 : decode cX8_go 225 = .ok (.iload_n 2, 1) := by decide +kernel
theorem dX8_go_226 : decode cX8_go 226 = .ok (.if_icmp .ne 7, 3) := by decide +kernel
theorem dX8_go_229 : decode cX8_go 229 = .ok (.iconst 1, 1) := by decide +kernel
theorem dX8_go_230 : decode cX8_go 230 = .ok (.goto 4, 3) := by decide +kernel
theorem dX8_go_233 : decode cX8_go 233 = .ok (.iconst 0, 1) := by decide +kernel
theorem dX8_go_234 : decode cX8_go 234 = .ok (.istore_n 3, 1) := by decide +kernel
theorem dX8_go_235 : decode cX8_go 235 = .ok (.aload_n 0, 1) := by decide +kernel
theorem dX8_go_236 : decode cX8_go 236 = .ok (.getfield 21, 3) := by decide +kernel
theorem dX8_go_239 : decode cX8_go 239 = .ok (.aload_n 0, 1) := by decide +kernel
theorem dX8_go_240 : decode cX8_go 240 = .ok (.getfield 24, 3) := by decide +kernel
theorem dX8_go_243 : decode cX8_go 243 = .ok (.isub, 1) := by decide +kernel
theorem dX8_go_244 : decode cX8_go 244 = .ok (.bipush 12, 2) := by decide +kernel
theorem dX8_go_246 : decode cX8_go 246 = .ok (.if_icmp .ge 23, 3) := by decide +kernel
theorem dX8_go_249 : decode cX8_go 249 = .ok (.aload_n 0, 1) := by decide +kernel
theorem dX8_go_250 : decode cX8_go 250 = .ok (.ldc2_w 48, 3) := by decide +kernel
theorem dX8_go_253 : decode cX8_go 253 = .ok (.aload_n 0, 1) := by decide +kernel
theorem dX8_go_254 : decode cX8_go 254 = .ok (.getfield 37, 3) := by decide +kernel
theorem dX8_go_257 : decode cX8_go 257 = .ok (.lmul, 1) := by decide +kernel
theorem dX8_go_258 : decode cX8_go 258 = .ok (.iload 4, 2) := by decide +kernel
theorem dX8_go_260 : decode cX8_go 260 = .ok (.i2l, 1) := by decide +kernel
theorem dX8_go_261 : decode cX8_go 261 = .ok (.ladd, 1) := by decide +kernel
theorem dX8_go_262 : decode cX8_go 262 = .ok (.ldc2_w 50, 3) := by decide +kernel
theorem dX8_go_265 : decode cX8_go 265 = .ok (.lsub, 1) := by decide +kernel
theorem dX8_go_266 : decode cX8_go 266 = .ok (.putfield 37, 3) := by decide +kernel
theorem dX8_go_269 : decode cX8_go 269 = .ok (.aload_n 0, 1) := by decide +kernel
theorem dX8_go_270 : decode cX8_go 270 = .ok (.getfield 21, 3) := by decide +kernel
theorem dX8_go_273 : decode cX8_go 273 = .ok (.aload_n 0, 1) := by decide +kernel
theorem dX8_go_274 : decode cX8_go 274 = .ok (.getfield 24, 3) := by decide +kernel
theorem dX8_go_277 : decode cX8_go 277 = .ok (.isub, 1) := by decide +kernel
theorem dX8_go_278 : decode cX8_go 278 = .ok (.iconst 4, 1) := by decide +kernel
theorem dX8_go_279 : decode cX8_go 279 = .ok (.if_icmp .ge 20, 3) := by decide +kernel
theorem dX8_go_282 : decode cX8_go 282 = .ok (.aload_n 0, 1) := by decide +kernel
theorem dX8_go_283 : decode cX8_go 283 = .ok (.bipush 10, 2) := by decide +kernel
theorem dX8_go_285 : decode cX8_go 285 = .ok (.aload_n 0, 1) := by decide +kernel
theorem dX8_go_286 : decode cX8_go 286 = .ok (.getfield 41, 3) := by decide +kernel
theorem dX8_go_289 : decode cX8_go 289 = .ok (.imul, 1) := by decide +kernel
theorem dX8_go_290 : decode cX8_go 290 = .ok (.iload 4, 2) := by decide +kernel
theorem dX8_go_292 : decode cX8_go 292 = .ok (.iadd, 1) := by decide +kernel
theorem dX8_go_293 : decode cX8_go 293 = .ok (.bipush 48, 2) := by decide +kernel
theorem dX8_go_295 : decode cX8_go 295 = .ok (.isub, 1) := by decide +kernel
theorem dX8_go_296 : decode cX8_go 296 = .ok (.putfield 41, 3) := by decide +kernel
theorem dX8_go_299 : decode cX8_go 299 = .ok (.aload_n 0, 1) := by decide +kernel
theorem dX8_go_300 : decode cX8_go 300 = .ok (.dup, 1) := by decide +kernel
theorem dX8_go_301 : decode cX8_go 301 = .ok (.getfield 21, 3) := by decide +kernel
theorem dX8_go_304 : decode cX8_go 304 = .ok (.iconst 1, 1) := by decide +kernel
theorem dX8_go_305 : decode cX8_go 305 = .ok (.iadd, 1) := by decide +kernel
theorem dX8_go_306 : decode cX8_go 306 = .ok (.putfield 21, 3) := by decide +kernel
theorem dX8_go_309 : decode cX8_go 309 = .ok (.goto (-132), 3) := by decide +kernel
theorem dX8_go_312 : decode cX8_go 312 = .ok (.aload_n 0, 1) := by decide +kernel
theorem dX8_go_313 : decode cX8_go 313 = .ok (.iload_n 3, 1) := by decide +kernel
theorem dX8_go_314 : decode cX8_go 314 = .ok (.ifCond .eq 20, 3) := by decide +kernel
theorem dX8_go_317 : decode cX8_go 317 = .ok (.iload_n 2, 1) := by decide +kernel
theorem dX8_go_318 : decode cX8_go 318 = .ok (.ifCond .ne 20, 3) := by decide +kernel
theorem dX8_go_321 : decode cX8_go 321 = .ok (.aload_n 0, 1) := by decide +kernel
theorem dX8_go_322 : decode cX8_go 322 = .ok (.getfield 21, 3) := by decide +kernel
theorem dX8_go_325 : decode cX8_go 325 = .ok (.aload_n 0, 1) := by decide +kernel
theorem dX8_go_326 : decode cX8_go 326 = .ok (.getfield 24, 3) := by decide +kernel
theorem dX8_go_329 : decode cX8_go 329 = .ok (.isub, 1) := by decide +kernel
theorem dX8_go_330 : decode cX8_go 330 = .ok (.iconst 4, 1) := by decide +kernel
theorem dX8_go_331 : decode cX8_go 331 = .ok (.if_icmp .le 7, 3) := by decide +kernel
theorem dX8_go_334 : decode cX8_go 334 = .ok (.iconst 1, 1) := by decide +kernel
theorem dX8_go_335 : decode cX8_go 335 = .ok (.goto 12, 3) := by decide +kernel
theorem dX8_go_338 : decode cX8_go 338 = .ok (.iload_n 2, 1) := by decide +kernel
theorem dX8_go_339 : decode cX8_go 339 = .ok (.ifCond .eq 7, 3) := by decide +kernel
theorem dX8_go_342 : decode cX8_go 342 = .ok (.iconst 2, 1) := by decide +kernel
theorem dX8_go_343 : decode cX8_go 343 = .ok (.goto 4, 3) := by decide +kernel
theorem dX8_go_346 : decode cX8_go 346 = .ok (.iconst 3, 1) := by decide +kernel
theorem dX8_go_347 : decode cX8_go 347 = .ok (.putfield 27, 3) := by decide +kernel
theorem dX8_go_350 : decode cX8_go 350 = .ok (.return_, 1) := by decide +kernel
theorem dX8_three_0 : decode cX8_three 0 = .ok (.ldc2_w 48, 3) := by decide +kernel
theorem dX8_three_3 : decode cX8_three 3 = .ok (.ldc2_w 48, 3) := by decide +kernel
theorem dX8_three_6 : decode cX8_three 6 = .ok (.iload_n 0, 1) := by decide +kernel
theorem dX8_three_7 : decode cX8_three 7 = .ok (.i2l, 1) := by decide +kernel
theorem dX8_three_8 : decode cX8_three 8 = .ok (.ldc2_w 50, 3) := by decide +kernel
theorem dX8_three_11 : decode cX8_three 11 = .ok (.lsub, 1) := by decide +kernel
theorem dX8_three_12 : decode cX8_three 12 = .ok (.lmul, 1) := by decide +kernel
theorem dX8_three_13 : decode cX8_three 13 = .ok (.iload_n 1, 1) := by decide +kernel
theorem dX8_three_14 : decode cX8_three 14 = .ok (.i2l, 1) := by decide +kernel
theorem dX8_three_15 : decode cX8_three 15 = .ok (.ladd, 1) := by decide +kernel
theorem dX8_three_16 : decode cX8_three 16 = .ok (.ldc2_w 50, 3) := by decide +kernel
theorem dX8_three_19 : decode cX8_three 19 = .ok (.lsub, 1) := by decide +kernel
theorem dX8_three_20 : decode cX8_three 20 = .ok (.lmul, 1) := by decide +kernel
theorem dX8_three_21 : decode cX8_three 21 = .ok (.iload_n 2, 1) := by decide +kernel
theorem dX8_three_22 : decode cX8_three 22 = .ok (.i2l, 1) := by decide +kernel
theorem dX8_three_23 : decode cX8_three 23 = .ok (.ladd, 1) := by decide +kernel
theorem dX8_three_24 : decode cX8_three 24 = .ok (.ldc2_w 50, 3) := by decide +kernel
theorem dX8_three_27 : decode cX8_three 27 = .ok (.lsub, 1) := by decide +kernel
theorem dX8_three_28 : decode cX8_three 28 = .ok (.lreturn, 1) := by decide +kernel
set_option maxRecDepth 20000 in
theorem ggX8_six_X8_three : GoodIn wsX8_six wsX8_three := goodIn_r _ [5, 6, 7] (by decide +kernel) (by decide +kernel)
set_option maxRecDepth 20000 in
theorem gX8_six_X8_three : GoodIn wsX8_six (va_wsS RX8 54 yX8_three wsX8_three) := goodIn_app (goodIn_of _ (by decide +kernel)) ggX8_six_X8_three
theorem dX8_six_0 : decode cX8_six 0 = .ok (.ldc2_w 52, 3) := by decide +kernel
theorem dX8_six_3 : decode cX8_six 3 = .ok (.iload_n 0, 1) := by decide +kernel
theorem dX8_six_4 : decode cX8_six 4 = .ok (.iload_n 1, 1) := by decide +kernel
theorem dX8_six_5 : decode cX8_six 5 = .ok (.iload_n 2, 1) := by decide +kernel
theorem dX8_six_6 : decode cX8_six 6 = .ok (.invokestatic 54, 3) := by decide +kernel
theorem dX8_six_9 : decode cX8_six 9 = .ok (.lmul, 1) := by decide +kernel
theorem dX8_six_10 : decode cX8_six 10 = .ok (.iload_n 3, 1) := by decide +kernel
theorem dX8_six_11 : decode cX8_six 11 = .ok (.iload 4, 2) := by decide +kernel
theorem dX8_six_13 : decode cX8_six 13 = .ok (.iload 5, 2) := by decide +kernel
theorem dX8_six_15 : decode cX8_six 15 = .ok (.invokestatic 54, 3) := by decide +kernel
theorem dX8_six_18 : decode cX8_six 18 = .ok (.ladd, 1) := by decide +kernel
theorem dX8_six_19 : decode cX8_six 19 = .ok (.lreturn, 1) := by decide +kernel
set_option maxRecDepth 20000 in
theorem ggX8_four_X8_three : GoodIn wsX8_four wsX8_three := goodIn_r _ [6, 1, 2] (by decide +kernel) (by decide +kernel)
set_option maxRecDepth 20000 in
theorem gX8_four_X8_three : GoodIn wsX8_four (va_wsS RX8 54 yX8_three wsX8_three) := goodIn_app (goodIn_of _ (by decide +kernel)) ggX8_four_X8_three
theorem dX8_four_0 : decode cX8_four 0 = .ok (.ldc2_w 48, 3) := by decide +kernel
theorem dX8_four_3 : decode cX8_four 3 = .ok (.iload_n 0, 1) := by decide +kernel
theorem dX8_four_4 : decode cX8_four 4 = .ok (.iload_n 1, 1) := by decide +kernel
theorem dX8_four_5 : decode cX8_four 5 = .ok (.iload_n 2, 1) := by decide +kernel
theorem dX8_four_6 : decode cX8_four 6 = .ok (.invokestatic 54, 3) := by decide +kernel
theorem dX8_four_9 : decode cX8_four 9 = .ok (.lmul, 1) := by decide +kernel
theorem dX8_four_10 : decode cX8_four 10 = .ok (.iload_n 3, 1) := by decide +kernel
theorem dX8_four_11 : decode cX8_four 11 = .ok (.i2l, 1) := by decide +kernel
theorem dX8_four_12 : decode cX8_four 12 = .ok (.ladd, 1) := by decide +kernel
theorem dX8_four_13 : decode cX8_four 13 = .ok (.ldc2_w 50, 3) := by decide +kernel
theorem dX8_four_16 : decode cX8_four 16 = .ok (.lsub, 1) := by decide +kernel
theorem dX8_four_17 : decode cX8_four 17 = .ok (.lreturn, 1) := by decide +kernel
theorem dX8_isWord_0 : decode cX8_isWord 0 = .ok (.aload_n 0, 1) := by decide +kernel
theorem dX8_isWord_1 : decode cX8_isWord 1 = .ok (.getfield 27, 3) := by decide +kernel
theorem dX8_isWord_4 : decode cX8_isWord 4 = .ok (.iconst 2, 1) := by decide +kernel
theorem dX8_isWord_5 : decode cX8_isWord 5 = .ok (.if_icmp .ne 16, 3) := by decide +kernel
theorem dX8_isWord_8 : decode cX8_isWord 8 = .ok (.aload_n 0, 1) := by decide +kernel
theorem dX8_isWord_9 : decode cX8_isWord 9 = .ok (.getfield 37, 3) := by decide +kernel
theorem dX8_isWord_12 : decode cX8_isWord 12 = .ok (.lload_n 1, 1) := by decide +kernel
theorem dX8_isWord_13 : decode cX8_isWord 13 = .ok (.lcmp, 1) := by decide +kernel
theorem dX8_isWord_14 : decode cX8_isWord 14 = .ok (.ifCond .ne 7, 3) := by decide +kernel
theorem dX8_isWord_17 : decode cX8_isWord 17 = .ok (.iconst 1, 1) := by decide +kernel
theorem dX8_isWord_18 : decode cX8_isWord 18 = .ok (.goto 4, 3) := by decide +kernel
theorem dX8_isWord_21 : decode cX8_isWord 21 = .ok (.iconst 0, 1) := by decide +kernel
theorem dX8_isWord_22 : decode cX8_isWord 22 = .ok (.ireturn, 1) := by decide +kernel
theorem dX8_bad_0 : decode cX8_bad 0 = .ok (.aload_n 0, 1) := by decide +kernel
theorem dX8_bad_1 : decode cX8_bad 1 = .ok (.aload_n 0, 1) := by decide +kernel
theorem dX8_bad_2 : decode cX8_bad 2 = .ok (.getfield 27, 3) := by decide +kernel
theorem dX8_bad_5 : decode cX8_bad 5 = .ok (.iconst 1, 1) := by decide +kernel
theorem dX8_bad_6 : decode cX8_bad 6 = .ok (.if_icmp .ne 7, 3) := by decide +kernel
theorem dX8_bad_9 : decode cX8_bad 9 = .ok (.iconst 1, 1) := by decide +kernel
theorem dX8_bad_10 : decode cX8_bad 10 = .ok (.goto 4, 3) := by decide +kernel
theorem dX8_bad_13 : decode cX8_bad 13 = .ok (.iload_n 1, 1) := by decide +kernel
theorem dX8_bad_14 : decode cX8_bad 14 = .ok (.putfield 58, 3) := by decide +kernel
theorem dX8_bad_17 : decode cX8_bad 17 = .ok (.aload_n 0, 1) := by decide +kernel
theorem dX8_bad_18 : decode cX8_bad 18 = .ok (.aload_n 0, 1) := by decide +kernel
theorem dX8_bad_19 : decode cX8_bad 19 = .ok (.getfield 24, 3) := by decide +kernel
theorem dX8_bad_22 : decode cX8_bad 22 = .ok (.putfield 61, 3) := by decide +kernel
theorem dX8_bad_25 : decode cX8_bad 25 = .ok (.iconst 0, 1) := by decide +kernel
theorem dX8_bad_26 : decode cX8_bad 26 = .ok (.ireturn, 1) := by decide +kernel
theorem dX8_init_0 : decode cX8_init 0 = .ok (.aload_n 0, 1) := by decide +kernel
theorem dX8_init_1 : decode cX8_init 1 = .ok (.invokespecial 64, 3) := by decide +kernel
theorem dX8_init_4 : decode cX8_init 4 = .ok (.aload_n 0, 1) := by decide +kernel
theorem dX8_init_5 : decode cX8_init 5 = .ok (.sipush 740, 3) := by decide +kernel
theorem dX8_init_8 : decode cX8_init 8 = .ok (.newarray .int, 2) := by decide +kernel
theorem dX8_init_10 : decode cX8_init 10 = .ok (.putfield 7, 3) := by decide +kernel
theorem dX8_init_13 : decode cX8_init 13 = .ok (.aload_n 0, 1) := by decide +kernel
theorem dX8_init_14 : decode cX8_init 14 = .ok (.sipush 157, 3) := by decide +kernel
theorem dX8_init_17 : decode cX8_init 17 = .ok (.newarray .int, 2) := by decide +kernel
theorem dX8_init_19 : decode cX8_init 19 = .ok (.putfield 70, 3) := by decide +kernel
theorem dX8_init_22 : decode cX8_init 22 = .ok (.aload_n 0, 1) := by decide +kernel
theorem dX8_init_23 : decode cX8_init 23 = .ok (.sipush 157, 3) := by decide +kernel
theorem dX8_init_26 : decode cX8_init 26 = .ok (.newarray .int, 2) := by decide +kernel
theorem dX8_init_28 : decode cX8_init 28 = .ok (.putfield 73, 3) := by decide +kernel
theorem dX8_init_31 : decode cX8_init 31 = .ok (.aload_n 0, 1) := by decide +kernel
theorem dX8_init_32 : decode cX8_init 32 = .ok (.sipush 1570, 3) := by decide +kernel
theorem dX8_init_35 : decode cX8_init 35 = .ok (.newarray .int, 2) := by decide +kernel
theorem dX8_init_37 : decode cX8_init 37 = .ok (.putfield 76, 3) := by decide +kernel
theorem dX8_init_40 : decode cX8_init 40 = .ok (.aload_n 0, 1) := by decide +kernel
theorem dX8_init_41 : decode cX8_init 41 = .ok (.iconst 5, 1) := by decide +kernel
theorem dX8_init_42 : decode cX8_init 42 = .ok (.newarray .int, 2) := by decide +kernel
theorem dX8_init_44 : decode cX8_init 44 = .ok (.putfield 79, 3) := by decide +kernel
theorem dX8_init_47 : decode cX8_init 47 = .ok (.aload_n 0, 1) := by decide +kernel
theorem dX8_init_48 : decode cX8_init 48 = .ok (.iconst 5, 1) := by decide +kernel
theorem dX8_init_49 : decode cX8_init 49 = .ok (.newarray .int, 2) := by decide +kernel
theorem dX8_init_51 : decode cX8_init 51 = .ok (.putfield 82, 3) := by decide +kernel
theorem dX8_init_54 : decode cX8_init 54 = .ok (.aload_n 0, 1) := by decide +kernel
theorem dX8_init_55 : decode cX8_init 55 = .ok (.iconst 5, 1) := by decide +kernel
theorem dX8_init_56 : decode cX8_init 56 = .ok (.newarray .int, 2) := by decide +kernel
theorem dX8_init_58 : decode cX8_init 58 = .ok (.putfield 85, 3) := by decide +kernel
theorem dX8_init_61 : decode cX8_init 61 = .ok (.aload_n 0, 1) := by decide +kernel
theorem dX8_init_62 : decode cX8_init 62 = .ok (.iconst 5, 1) := by decide +kernel
theorem dX8_init_63 : decode cX8_init 63 = .ok (.newarray .int, 2) := by decide +kernel
theorem dX8_init_65 : decode cX8_init 65 = .ok (.putfield 88, 3) := by decide +kernel
theorem dX8_init_68 : decode cX8_init 68 = .ok (.aload_n 0, 1) := by decide +kernel
theorem dX8_init_69 : decode cX8_init 69 = .ok (.iconst 5, 1) := by decide +kernel
theorem dX8_init_70 : decode cX8_init 70 = .ok (.newarray .int, 2) := by decide +kernel
theorem dX8_init_72 : decode cX8_init 72 = .ok (.putfield 91, 3) := by decide +kernel
theorem dX8_init_75 : decode cX8_init 75 = .ok (.aload_n 0, 1) := by decide +kernel
theorem dX8_init_76 : decode cX8_init 76 = .ok (.iconst 5, 1) := by decide +kernel
theorem dX8_init_77 : decode cX8_init 77 = .ok (.newarray .int, 2) := by decide +kernel
theorem dX8_init_79 : decode cX8_init 79 = .ok (.putfield 94, 3) := by decide +kernel
theorem dX8_init_82 : decode cX8_init 82 = .ok (.aload_n 0, 1) := by decide +kernel
theorem dX8_init_83 : decode cX8_init 83 = .ok (.iconst 5, 1) := by decide +kernel
theorem dX8_init_84 : decode cX8_init 84 = .ok (.newarray .int, 2) := by decide +kernel
theorem dX8_init_86 : decode cX8_init 86 = .ok (.putfield 97, 3) := by decide +kernel
theorem dX8_init_89 : decode cX8_init 89 = .ok (.aload_n 0, 1) := by decide +kernel
theorem dX8_init_90 : decode cX8_init 90 = .ok (.iconst 5, 1) := by decide +kernel
theorem dX8_init_91 : decode cX8_init 91 = .ok (.newarray .int, 2) := by decide +kernel
theorem dX8_init_93 : decode cX8_init 93 = .ok (.putfield 100, 3) := by decide +kernel
theorem dX8_init_96 : decode cX8_init 96 = .ok (.aload_n 0, 1) := by decide +kernel
theorem dX8_init_97 : decode cX8_init 97 = .ok (.iconst 5, 1) := by decide +kernel
theorem dX8_init_98 : decode cX8_init 98 = .ok (.newarray .int, 2) := by decide +kernel
theorem dX8_init_100 : decode cX8_init 100 = .ok (.putfield 103, 3) := by decide +kernel
theorem dX8_init_103 : decode cX8_init 103 = .ok (.aload_n 0, 1) := by decide +kernel
theorem dX8_init_104 : decode cX8_init 104 = .ok (.getfield 70, 3) := by decide +kernel
theorem dX8_init_107 : decode cX8_init 107 = .ok (.iconst 0, 1) := by decide +kernel
theorem dX8_init_108 : decode cX8_init 108 = .ok (.iconst 1, 1) := by decide +kernel
theorem dX8_init_109 : decode cX8_init 109 = .ok (.iastore, 1) := by decide +kernel
theorem dX8_init_110 : decode cX8_init 110 = .ok (.return_, 1) := by decide +kernel
set_option maxRecDepth 20000 in
theorem ggX8_told_X8_bad : GoodIn wsX8_told wsX8_bad := goodIn_r _ [8, 1, 9, 10, 11, 35, 36, 37, 38, 39, 40, 41, 42, 43, 44, 45, 46, 47, 48, 49, 50, 51, 52, 53, 54, 55, 56, 57, 58, 59, 60, 61, 62] (by decide +kernel) (by decide +kernel)
set_option maxRecDepth 20000 in
theorem gX8_told_X8_bad : GoodIn wsX8_told (wsV RX8 106 RX8 yX8_bad wsX8_bad) := goodIn_app (goodIn_of _ (by decide +kernel)) ggX8_told_X8_bad
set_option maxRecDepth 20000 in
theorem ggX8_told_X8_isIn : GoodIn wsX8_told wsX8_isIn := goodIn_r _ [14] (by decide +kernel) (by decide +kernel)
set_option maxRecDepth 20000 in
theorem gX8_told_X8_isIn : GoodIn wsX8_told (va_wsS RX8 109 yX8_isIn wsX8_isIn) := goodIn_app (goodIn_of _ (by decide +kernel)) ggX8_told_X8_isIn
set_option maxRecDepth 20000 in
theorem ggX8_told_X8_go : GoodIn wsX8_told wsX8_go := goodIn_r _ [18, 19, 20, 21, 10, 1, 22, 2, 23, 24, 25, 26, 7, 27, 28, 29, 30, 31, 32, 33, 34, 35, 36, 37, 38, 39, 40, 41, 42, 43, 44, 45, 46, 47, 48, 49, 50, 51, 52, 53, 54, 55, 56, 57, 58, 59, 60, 61, 62] (by decide +kernel) (by decide +kernel)
set_option maxRecDepth 20000 in
theorem gX8_told_X8_go : GoodIn wsX8_told (wsV RX8 113 RX8 yX8_go wsX8_go) := goodIn_app (goodIn_of _ (by decide +kernel)) ggX8_told_X8_go
theorem dX8_told_0 : decode cX8_told 0 = .ok (.aload_n 0, 1) := by decide +kernel
theorem dX8_told_1 : decode cX8_told 1 = .ok (.getfield 27, 3) := by decide +kernel
theorem dX8_told_4 : decode cX8_told 4 = .ok (.iconst 3, 1) := by decide +kernel
theorem dX8_told_5 : decode cX8_told 5 = .ok (.if_icmp .eq 9, 3) := by decide +kernel
theorem dX8_told_8 : decode cX8_told 8 = .ok (.aload_n 0, 1) := by decide +kernel
theorem dX8_told_9 : decode cX8_told 9 = .ok (.iconst 1, 1) := by decide +kernel
theorem dX8_told_10 : decode cX8_told 10 = .ok (.invokevirtual 106, 3) := by decide +kernel
theorem dX8_told_13 : decode cX8_told 13 = .ok (.ireturn, 1) := by decide +kernel
theorem dX8_told_14 : decode cX8_told 14 = .ok (.aload_n 0, 1) := by decide +kernel
theorem dX8_told_15 : decode cX8_told 15 = .ok (.getfield 41, 3) := by decide +kernel
theorem dX8_told_18 : decode cX8_told 18 = .ok (.iload_n 2, 1) := by decide +kernel
theorem dX8_told_19 : decode cX8_told 19 = .ok (.iload_n 3, 1) := by decide +kernel
theorem dX8_told_20 : decode cX8_told 20 = .ok (.invokestatic 109, 3) := by decide +kernel
theorem dX8_told_23 : decode cX8_told 23 = .ok (.ifCond .ne 9, 3) := by decide +kernel
theorem dX8_told_26 : decode cX8_told 26 = .ok (.aload_n 0, 1) := by decide +kernel
theorem dX8_told_27 : decode cX8_told 27 = .ok (.iconst 2, 1) := by decide +kernel
theorem dX8_told_28 : decode cX8_told 28 = .ok (.invokevirtual 106, 3) := by decide +kernel
theorem dX8_told_31 : decode cX8_told 31 = .ok (.ireturn, 1) := by decide +kernel
theorem dX8_told_32 : decode cX8_told 32 = .ok (.aload_n 0, 1) := by decide +kernel
theorem dX8_told_33 : decode cX8_told 33 = .ok (.getfield 73, 3) := by decide +kernel
theorem dX8_told_36 : decode cX8_told 36 = .ok (.iload_n 1, 1) := by decide +kernel
theorem dX8_told_37 : decode cX8_told 37 = .ok (.aload_n 0, 1) := by decide +kernel
theorem dX8_told_38 : decode cX8_told 38 = .ok (.getfield 41, 3) := by decide +kernel
theorem dX8_told_41 : decode cX8_told 41 = .ok (.iastore, 1) := by decide +kernel
theorem dX8_told_42 : decode cX8_told 42 = .ok (.aload_n 0, 1) := by decide +kernel
theorem dX8_told_43 : decode cX8_told 43 = .ok (.invokevirtual 113, 3) := by decide +kernel
theorem dX8_told_46 : decode cX8_told 46 = .ok (.iconst 1, 1) := by decide +kernel
theorem dX8_told_47 : decode cX8_told 47 = .ok (.ireturn, 1) := by decide +kernel
set_option maxRecDepth 20000 in
theorem ggX8_oneOf_X8_bad : GoodIn wsX8_oneOf wsX8_bad := goodIn_r _ [8, 1, 9, 10, 11, 32, 33, 34, 35, 36, 37, 38, 39, 40, 41, 42, 43, 44, 45, 46, 47, 48, 49, 50, 51, 52, 53, 54, 55, 56, 57, 58, 59] (by decide +kernel) (by decide +kernel)
set_option maxRecDepth 20000 in
theorem gX8_oneOf_X8_bad : GoodIn wsX8_oneOf (wsV RX8 106 RX8 yX8_bad wsX8_bad) := goodIn_app (goodIn_of _ (by decide +kernel)) ggX8_oneOf_X8_bad
set_option maxRecDepth 20000 in
theorem ggX8_oneOf_X8_go : GoodIn wsX8_oneOf wsX8_go := goodIn_r _ [15, 16, 17, 18, 10, 1, 19, 2, 20, 21, 22, 23, 7, 24, 25, 26, 27, 28, 29, 30, 31, 32, 33, 34, 35, 36, 37, 38, 39, 40, 41, 42, 43, 44, 45, 46, 47, 48, 49, 50, 51, 52, 53, 54, 55, 56, 57, 58, 59] (by decide +kernel) (by decide +kernel)
set_option maxRecDepth 20000 in
theorem gX8_oneOf_X8_go : GoodIn wsX8_oneOf (wsV RX8 113 RX8 yX8_go wsX8_go) := goodIn_app (goodIn_of _ (by decide +kernel)) ggX8_oneOf_X8_go
theorem dX8_oneOf_0 : decode cX8_oneOf 0 = .ok (.aload_n 0, 1) := by decide +kernel
theorem dX8_oneOf_1 : decode cX8_oneOf 1 = .ok (.getfield 27, 3) := by decide +kernel
theorem dX8_oneOf_4 : decode cX8_oneOf 4 = .ok (.iconst 3, 1) := by decide +kernel
theorem dX8_oneOf_5 : decode cX8_oneOf 5 = .ok (.if_icmp .eq 9, 3) := by decide +kernel
theorem dX8_oneOf_8 : decode cX8_oneOf 8 = .ok (.aload_n 0, 1) := by decide +kernel
theorem dX8_oneOf_9 : decode cX8_oneOf 9 = .ok (.iconst 1, 1) := by decide +kernel
theorem dX8_oneOf_10 : decode cX8_oneOf 10 = .ok (.invokevirtual 106, 3) := by decide +kernel
theorem dX8_oneOf_13 : decode cX8_oneOf 13 = .ok (.ireturn, 1) := by decide +kernel
theorem dX8_oneOf_14 : decode cX8_oneOf 14 = .ok (.aload_n 0, 1) := by decide +kernel
theorem dX8_oneOf_15 : decode cX8_oneOf 15 = .ok (.getfield 41, 3) := by decide +kernel
theorem dX8_oneOf_18 : decode cX8_oneOf 18 = .ok (.iload_n 1, 1) := by decide +kernel
theorem dX8_oneOf_19 : decode cX8_oneOf 19 = .ok (.if_icmp .lt 9, 3) := by decide +kernel
theorem dX8_oneOf_22 : decode cX8_oneOf 22 = .ok (.aload_n 0, 1) := by decide +kernel
theorem dX8_oneOf_23 : decode cX8_oneOf 23 = .ok (.iconst 2, 1) := by decide +kernel
theorem dX8_oneOf_24 : decode cX8_oneOf 24 = .ok (.invokevirtual 106, 3) := by decide +kernel
theorem dX8_oneOf_27 : decode cX8_oneOf 27 = .ok (.ireturn, 1) := by decide +kernel
theorem dX8_oneOf_28 : decode cX8_oneOf 28 = .ok (.aload_n 0, 1) := by decide +kernel
theorem dX8_oneOf_29 : decode cX8_oneOf 29 = .ok (.aload_n 0, 1) := by decide +kernel
theorem dX8_oneOf_30 : decode cX8_oneOf 30 = .ok (.getfield 41, 3) := by decide +kernel
theorem dX8_oneOf_33 : decode cX8_oneOf 33 = .ok (.putfield 116, 3) := by decide +kernel
theorem dX8_oneOf_36 : decode cX8_oneOf 36 = .ok (.aload_n 0, 1) := by decide +kernel
theorem dX8_oneOf_37 : decode cX8_oneOf 37 = .ok (.invokevirtual 113, 3) := by decide +kernel
theorem dX8_oneOf_40 : decode cX8_oneOf 40 = .ok (.iconst 1, 1) := by decide +kernel
theorem dX8_oneOf_41 : decode cX8_oneOf 41 = .ok (.ireturn, 1) := by decide +kernel
set_option maxRecDepth 20000 in
theorem ggX8_readTanker_X8_six : GoodIn wsX8_readTanker wsX8_six := goodIn_r _ [5, 6, 7, 8, 4, 9, 10, 11] (by decide +kernel) (by decide +kernel)
set_option maxRecDepth 20000 in
theorem gX8_readTanker_X8_six : GoodIn wsX8_readTanker (va_wsS RX8 119 yX8_six wsX8_six) := goodIn_app (goodIn_of _ (by decide +kernel)) ggX8_readTanker_X8_six
set_option maxRecDepth 20000 in
theorem ggX8_readTanker_X8_isWord : GoodIn wsX8_readTanker wsX8_isWord := goodIn_r _ [15, 16, 17, 50, 51, 52, 53, 54, 55, 56, 57, 58, 59, 60, 61, 62, 63, 64, 65, 66, 67, 68, 69, 70, 71, 72, 73, 74, 75, 76, 77] (by decide +kernel) (by decide +kernel)
set_option maxRecDepth 20000 in
theorem gX8_readTanker_X8_isWord : GoodIn wsX8_readTanker (wsV RX8 123 RX8 yX8_isWord wsX8_isWord) := goodIn_app (goodIn_of _ (by decide +kernel)) ggX8_readTanker_X8_isWord
set_option maxRecDepth 20000 in
theorem ggX8_readTanker_X8_bad : GoodIn wsX8_readTanker wsX8_bad := goodIn_r _ [21, 16, 22, 23, 24, 50, 51, 52, 53, 54, 55, 56, 57, 58, 59, 60, 61, 62, 63, 64, 65, 66, 67, 68, 69, 70, 71, 72, 73, 74, 75, 76, 77] (by decide +kernel) (by decide +kernel)
set_option maxRecDepth 20000 in
theorem gX8_readTanker_X8_bad : GoodIn wsX8_readTanker (wsV RX8 106 RX8 yX8_bad wsX8_bad) := goodIn_app (goodIn_of _ (by decide +kernel)) ggX8_readTanker_X8_bad
set_option maxRecDepth 20000 in
theorem ggX8_readTanker_X8_go : GoodIn wsX8_readTanker wsX8_go := goodIn_r _ [28, 29, 30, 31, 23, 16, 17, 32, 10, 11, 33, 34, 4, 35, 36, 37, 38, 39, 40, 41, 42, 50, 51, 52, 53, 54, 55, 56, 57, 58, 59, 60, 61, 62, 63, 64, 65, 66, 67, 68, 69, 70, 71, 72, 73, 74, 75, 76, 77] (by decide +kernel) (by decide +kernel)
set_option maxRecDepth 20000 in
theorem gX8_readTanker_X8_go : GoodIn wsX8_readTanker (wsV RX8 113 RX8 yX8_go wsX8_go) := goodIn_app (goodIn_of _ (by decide +kernel)) ggX8_readTanker_X8_go
set_option maxRecDepth 20000 in
theorem ggX8_readTanker_X8_told : GoodIn wsX8_readTanker wsX8_told := goodIn_r _ [46, 16, 32, 1, 18, 19, 20, 4, 21, 22, 23, 24, 47, 48, 49, 25, 26, 27, 28, 29, 30, 31, 17, 10, 11, 33, 34, 35, 36, 37, 38, 39, 40, 41, 42, 50, 51, 52, 53, 54, 55, 56, 57, 58, 59, 60, 61, 62, 63, 64, 65, 66, 67, 68, 69, 70, 71, 72, 73, 74, 75, 76, 77] (by decide +kernel) (by decide +kernel)
set_option maxRecDepth 20000 in
theorem gX8_readTanker_X8_told : GoodIn wsX8_readTanker (wsV RX8 127 RX8 yX8_told wsX8_told) := goodIn_app (goodIn_of _ (by decide +kernel)) ggX8_readTanker_X8_told
theorem dX8_readTanker_0 : decode cX8_readTanker 0 = .ok (.aload_n 0, 1) := by decide +kernel
theorem dX8_readTanker_1 : decode cX8_readTanker 1 = .ok (.bipush 116, 2) := by decide +kernel
theorem dX8_readTanker_3 : decode cX8_readTanker 3 = .ok (.bipush 97, 2) := by decide +kernel
theorem dX8_readTanker_5 : decode cX8_readTanker 5 = .ok (.bipush 110, 2) := by decide +kernel
theorem dX8_readTanker_7 : decode cX8_readTanker 7 = .ok (.bipush 107, 2) := by decide +kernel
theorem dX8_readTanker_9 : decode cX8_readTanker 9 = .ok (.bipush 101, 2) := by decide +kernel
theorem dX8_readTanker_11 : decode cX8_readTanker 11 = .ok (.bipush 114, 2) := by decide +kernel
theorem dX8_readTanker_13 : decode cX8_readTanker 13 = .ok (.invokestatic 119, 3) := by decide +kernel
theorem dX8_readTanker_16 : decode cX8_readTanker 16 = .ok (.invokevirtual 123, 3) := by decide +kernel
theorem dX8_readTanker_19 : decode cX8_readTanker 19 = .ok (.ifCond .ne 9, 3) := by decide +kernel
theorem dX8_readTanker_22 : decode cX8_readTanker 22 = .ok (.aload_n 0, 1) := by decide +kernel
theorem dX8_readTanker_23 : decode cX8_readTanker 23 = .ok (.iconst 1, 1) := by decide +kernel
theorem dX8_readTanker_24 : decode cX8_readTanker 24 = .ok (.invokevirtual 106, 3) := by decide +kernel
theorem dX8_readTanker_27 : decode cX8_readTanker 27 = .ok (.ireturn, 1) := by decide +kernel
theorem dX8_readTanker_28 : decode cX8_readTanker 28 = .ok (.aload_n 0, 1) := by decide +kernel
theorem dX8_readTanker_29 : decode cX8_readTanker 29 = .ok (.invokevirtual 113, 3) := by decide +kernel
theorem dX8_readTanker_32 : decode cX8_readTanker 32 = .ok (.aload_n 0, 1) := by decide +kernel
theorem dX8_readTanker_33 : decode cX8_readTanker 33 = .ok (.iconst 0, 1) := by decide +kernel
theorem dX8_readTanker_34 : decode cX8_readTanker 34 = .ok (.iconst 1, 1) := by decide +kernel
theorem dX8_readTanker_35 : decode cX8_readTanker 35 = .ok (.bipush 99, 2) := by decide +kernel
theorem dX8_readTanker_37 : decode cX8_readTanker 37 = .ok (.invokevirtual 127, 3) := by decide +kernel
theorem dX8_readTanker_40 : decode cX8_readTanker 40 = .ok (.ifCond .ne 5, 3) := by decide +kernel
theorem dX8_readTanker_43 : decode cX8_readTanker 43 = .ok (.iconst 0, 1) := by decide +kernel
theorem dX8_readTanker_44 : decode cX8_readTanker 44 = .ok (.ireturn, 1) := by decide +kernel
theorem dX8_readTanker_45 : decode cX8_readTanker 45 = .ok (.iconst 1, 1) := by decide +kernel
theorem dX8_readTanker_46 : decode cX8_readTanker 46 = .ok (.istore_n 1, 1) := by decide +kernel
theorem dX8_readTanker_47 : decode cX8_readTanker 47 = .ok (.iload_n 1, 1) := by decide +kernel
theorem dX8_readTanker_48 : decode cX8_readTanker 48 = .ok (.iconst 5, 1) := by decide +kernel
theorem dX8_readTanker_49 : decode cX8_readTanker 49 = .ok (.if_icmp .gt 23, 3) := by decide +kernel
theorem dX8_readTanker_52 : decode cX8_readTanker 52 = .ok (.aload_n 0, 1) := by decide +kernel
theorem dX8_readTanker_53 : decode cX8_readTanker 53 = .ok (.iload_n 1, 1) := by decide +kernel
theorem dX8_readTanker_54 : decode cX8_readTanker 54 = .ok (.iconst 0, 1) := by decide +kernel
theorem dX8_readTanker_55 : decode cX8_readTanker 55 = .ok (.sipush 9999, 3) := by decide +kernel
theorem dX8_readTanker_58 : decode cX8_readTanker 58 = .ok (.invokevirtual 127, 3) := by decide +kernel
theorem dX8_readTanker_61 : decode cX8_readTanker 61 = .ok (.ifCond .ne 5, 3) := by decide +kernel
theorem dX8_readTanker_64 : decode cX8_readTanker 64 = .ok (.iconst 0, 1) := by decide +kernel
theorem dX8_readTanker_65 : decode cX8_readTanker 65 = .ok (.ireturn, 1) := by decide +kernel
theorem dX8_readTanker_66 : decode cX8_readTanker 66 = .ok (.iinc 1 1, 3) := by decide +kernel
theorem dX8_readTanker_69 : decode cX8_readTanker 69 = .ok (.goto (-22), 3) := by decide +kernel
theorem dX8_readTanker_72 : decode cX8_readTanker 72 = .ok (.aload_n 0, 1) := by decide +kernel
theorem dX8_readTanker_73 : decode cX8_readTanker 73 = .ok (.bipush 6, 2) := by decide +kernel
theorem dX8_readTanker_75 : decode cX8_readTanker 75 = .ok (.iconst 1, 1) := by decide +kernel
theorem dX8_readTanker_76 : decode cX8_readTanker 76 = .ok (.bipush 100, 2) := by decide +kernel
theorem dX8_readTanker_78 : decode cX8_readTanker 78 = .ok (.invokevirtual 127, 3) := by decide +kernel
theorem dX8_readTanker_81 : decode cX8_readTanker 81 = .ok (.ifCond .eq 37, 3) := by decide +kernel
theorem dX8_readTanker_84 : decode cX8_readTanker 84 = .ok (.aload_n 0, 1) := by decide +kernel
theorem dX8_readTanker_85 : decode cX8_readTanker 85 = .ok (.bipush 7, 2) := by decide +kernel
theorem dX8_readTanker_87 : decode cX8_readTanker 87 = .ok (.iconst 0, 1) := by decide +kernel
theorem dX8_readTanker_88 : decode cX8_readTanker 88 = .ok (.bipush 100, 2) := by decide +kernel
theorem dX8_readTanker_90 : decode cX8_readTanker 90 = .ok (.invokevirtual 127, 3) := by decide +kernel
theorem dX8_readTanker_93 : decode cX8_readTanker 93 = .ok (.ifCond .eq 25, 3) := by decide +kernel
theorem dX8_readTanker_96 : decode cX8_readTanker 96 = .ok (.aload_n 0, 1) := by decide +kernel
theorem dX8_readTanker_97 : decode cX8_readTanker 97 = .ok (.bipush 8, 2) := by decide +kernel
theorem dX8_readTanker_99 : decode cX8_readTanker 99 = .ok (.aload_n 0, 1) := by decide +kernel
theorem dX8_readTanker_100 : decode cX8_readTanker 100 = .ok (.getfield 73, 3) := by decide +kernel
theorem dX8_readTanker_103 : decode cX8_readTanker 103 = .ok (.bipush 7, 2) := by decide +kernel
theorem dX8_readTanker_105 : decode cX8_readTanker 105 = .ok (.iaload, 1) := by decide +kernel
theorem dX8_readTanker_106 : decode cX8_readTanker 106 = .ok (.bipush 100, 2) := by decide +kernel
theorem dX8_readTanker_108 : decode cX8_readTanker 108 = .ok (.invokevirtual 127, 3) := by decide +kernel
theorem dX8_readTanker_111 : decode cX8_readTanker 111 = .ok (.ifCond .eq 7, 3) := by decide +kernel
theorem dX8_readTanker_114 : decode cX8_readTanker 114 = .ok (.iconst 1, 1) := by decide +kernel
theorem dX8_readTanker_115 : decode cX8_readTanker 115 = .ok (.goto 4, 3) := by decide +kernel
theorem dX8_readTanker_118 : decode cX8_readTanker 118 = .ok (.iconst 0, 1) := by decide +kernel
theorem dX8_readTanker_119 : decode cX8_readTanker 119 = .ok (.ireturn, 1) := by decide +kernel
set_option maxRecDepth 20000 in
theorem ggX8_readHold_X8_bad : GoodIn wsX8_readHold wsX8_bad := goodIn_r _ [8, 9, 10, 11, 12, 54, 55, 56, 57, 58, 59, 60, 61, 62, 63, 64, 65, 66, 67, 68, 69, 70, 71, 72, 73, 74, 75, 76, 77, 78, 79, 80, 81] (by decide +kernel) (by decide +kernel)
set_option maxRecDepth 20000 in
theorem gX8_readHold_X8_bad : GoodIn wsX8_readHold (wsV RX8 106 RX8 yX8_bad wsX8_bad) := goodIn_app (goodIn_of _ (by decide +kernel)) ggX8_readHold_X8_bad
set_option maxRecDepth 20000 in
theorem ggX8_readHold_X8_go : GoodIn wsX8_readHold wsX8_go := goodIn_r _ [16, 17, 18, 19, 11, 9, 20, 21, 2, 22, 23, 24, 7, 25, 26, 27, 28, 29, 30, 31, 32, 54, 55, 56, 57, 58, 59, 60, 61, 62, 63, 64, 65, 66, 67, 68, 69, 70, 71, 72, 73, 74, 75, 76, 77, 78, 79, 80, 81] (by decide +kernel) (by decide +kernel)
set_option maxRecDepth 20000 in
theorem gX8_readHold_X8_go : GoodIn wsX8_readHold (wsV RX8 113 RX8 yX8_go wsX8_go) := goodIn_app (goodIn_of _ (by decide +kernel)) ggX8_readHold_X8_go
set_option maxRecDepth 20000 in
theorem ggX8_readHold_X8_told : GoodIn wsX8_readHold wsX8_told := goodIn_r _ [36, 9, 21, 1, 4, 5, 6, 7, 8, 10, 11, 12, 37, 38, 39, 13, 14, 15, 16, 17, 18, 19, 20, 2, 22, 23, 24, 25, 26, 27, 28, 29, 30, 31, 32, 54, 55, 56, 57, 58, 59, 60, 61, 62, 63, 64, 65, 66, 67, 68, 69, 70, 71, 72, 73, 74, 75, 76, 77, 78, 79, 80, 81] (by decide +kernel) (by decide +kernel)
set_option maxRecDepth 20000 in
theorem gX8_readHold_X8_told : GoodIn wsX8_readHold (wsV RX8 127 RX8 yX8_told wsX8_told) := goodIn_app (goodIn_of _ (by decide +kernel)) ggX8_readHold_X8_told
set_option maxRecDepth 20000 in
theorem ggX8_readHold_X8_four : GoodIn wsX8_readHold wsX8_four := goodIn_r _ [42, 2, 22, 43, 44, 7, 45] (by decide +kernel) (by decide +kernel)
set_option maxRecDepth 20000 in
theorem gX8_readHold_X8_four : GoodIn wsX8_readHold (va_wsS RX8 130 yX8_four wsX8_four) := goodIn_app (goodIn_of _ (by decide +kernel)) ggX8_readHold_X8_four
set_option maxRecDepth 20000 in
theorem ggX8_readHold_X8_isWord : GoodIn wsX8_readHold wsX8_isWord := goodIn_r _ [49, 9, 20, 54, 55, 56, 57, 58, 59, 60, 61, 62, 63, 64, 65, 66, 67, 68, 69, 70, 71, 72, 73, 74, 75, 76, 77, 78, 79, 80, 81] (by decide +kernel) (by decide +kernel)
set_option maxRecDepth 20000 in
theorem gX8_readHold_X8_isWord : GoodIn wsX8_readHold (wsV RX8 123 RX8 yX8_isWord wsX8_isWord) := goodIn_app (goodIn_of _ (by decide +kernel)) ggX8_readHold_X8_isWord
set_option maxRecDepth 20000 in
theorem ggX8_readHold_X8_six : GoodIn wsX8_readHold wsX8_six := goodIn_r _ [52, 53, 43, 44, 7, 45, 2, 22] (by decide +kernel) (by decide +kernel)
set_option maxRecDepth 20000 in
theorem gX8_readHold_X8_six : GoodIn wsX8_readHold (va_wsS RX8 119 yX8_six wsX8_six) := goodIn_app (goodIn_of _ (by decide +kernel)) ggX8_readHold_X8_six
theorem dX8_readHold_0 : decode cX8_readHold 0 = .ok (.aload_n 0, 1) := by decide +kernel
theorem dX8_readHold_1 : decode cX8_readHold 1 = .ok (.getfield 73, 3) := by decide +kernel
theorem dX8_readHold_4 : decode cX8_readHold 4 = .ok (.bipush 9, 2) := by decide +kernel
theorem dX8_readHold_6 : decode cX8_readHold 6 = .ok (.iaload, 1) := by decide +kernel
theorem dX8_readHold_7 : decode cX8_readHold 7 = .ok (.iconst 5, 1) := by decide +kernel
theorem dX8_readHold_8 : decode cX8_readHold 8 = .ok (.if_icmp .ne 9, 3) := by decide +kernel
theorem dX8_readHold_11 : decode cX8_readHold 11 = .ok (.aload_n 0, 1) := by decide +kernel
theorem dX8_readHold_12 : decode cX8_readHold 12 = .ok (.iconst 3, 1) := by decide +kernel
theorem dX8_readHold_13 : decode cX8_readHold 13 = .ok (.invokevirtual 106, 3) := by decide +kernel
theorem dX8_readHold_16 : decode cX8_readHold 16 = .ok (.ireturn, 1) := by decide +kernel
theorem dX8_readHold_17 : decode cX8_readHold 17 = .ok (.aload_n 0, 1) := by decide +kernel
theorem dX8_readHold_18 : decode cX8_readHold 18 = .ok (.invokevirtual 113, 3) := by decide +kernel
theorem dX8_readHold_21 : decode cX8_readHold 21 = .ok (.bipush 27, 2) := by decide +kernel
theorem dX8_readHold_23 : decode cX8_readHold 23 = .ok (.bipush 6, 2) := by decide +kernel
theorem dX8_readHold_25 : decode cX8_readHold 25 = .ok (.aload_n 0, 1) := by decide +kernel
theorem dX8_readHold_26 : decode cX8_readHold 26 = .ok (.getfield 73, 3) := by decide +kernel
theorem dX8_readHold_29 : decode cX8_readHold 29 = .ok (.bipush 9, 2) := by decide +kernel
theorem dX8_readHold_31 : decode cX8_readHold 31 = .ok (.iaload, 1) := by decide +kernel
theorem dX8_readHold_32 : decode cX8_readHold 32 = .ok (.imul, 1) := by decide +kernel
theorem dX8_readHold_33 : decode cX8_readHold 33 = .ok (.iadd, 1) := by decide +kernel
theorem dX8_readHold_34 : decode cX8_readHold 34 = .ok (.istore_n 1, 1) := by decide +kernel
theorem dX8_readHold_35 : decode cX8_readHold 35 = .ok (.aload_n 0, 1) := by decide +kernel
theorem dX8_readHold_36 : decode cX8_readHold 36 = .ok (.iload_n 1, 1) := by decide +kernel
theorem dX8_readHold_37 : decode cX8_readHold 37 = .ok (.iconst 0, 1) := by decide +kernel
theorem dX8_readHold_38 : decode cX8_readHold 38 = .ok (.iadd, 1) := by decide +kernel
theorem dX8_readHold_39 : decode cX8_readHold 39 = .ok (.iconst 1, 1) := by decide +kernel
theorem dX8_readHold_40 : decode cX8_readHold 40 = .ok (.sipush 999, 3) := by decide +kernel
theorem dX8_readHold_43 : decode cX8_readHold 43 = .ok (.invokevirtual 127, 3) := by decide +kernel
theorem dX8_readHold_46 : decode cX8_readHold 46 = .ok (.ifCond .eq 16, 3) := by decide +kernel
theorem dX8_readHold_49 : decode cX8_readHold 49 = .ok (.aload_n 0, 1) := by decide +kernel
theorem dX8_readHold_50 : decode cX8_readHold 50 = .ok (.iload_n 1, 1) := by decide +kernel
theorem dX8_readHold_51 : decode cX8_readHold 51 = .ok (.iconst 1, 1) := by decide +kernel
theorem dX8_readHold_52 : decode cX8_readHold 52 = .ok (.iadd, 1) := by decide +kernel
theorem dX8_readHold_53 : decode cX8_readHold 53 = .ok (.iconst 0, 1) := by decide +kernel
theorem dX8_readHold_54 : decode cX8_readHold 54 = .ok (.bipush 99, 2) := by decide +kernel
theorem dX8_readHold_56 : decode cX8_readHold 56 = .ok (.invokevirtual 127, 3) := by decide +kernel
theorem dX8_readHold_59 : decode cX8_readHold 59 = .ok (.ifCond .ne 5, 3) := by decide +kernel
theorem dX8_readHold_62 : decode cX8_readHold 62 = .ok (.iconst 0, 1) := by decide +kernel
theorem dX8_readHold_63 : decode cX8_readHold 63 = .ok (.ireturn, 1) := by decide +kernel
theorem dX8_readHold_64 : decode cX8_readHold 64 = .ok (.aload_n 0, 1) := by decide +kernel
theorem dX8_readHold_65 : decode cX8_readHold 65 = .ok (.bipush 111, 2) := by decide +kernel
theorem dX8_readHold_67 : decode cX8_readHold 67 = .ok (.bipush 112, 2) := by decide +kernel
theorem dX8_readHold_69 : decode cX8_readHold 69 = .ok (.bipush 101, 2) := by decide +kernel
theorem dX8_readHold_71 : decode cX8_readHold 71 = .ok (.bipush 110, 2) := by decide +kernel
theorem dX8_readHold_73 : decode cX8_readHold 73 = .ok (.invokestatic 130, 3) := by decide +kernel
theorem dX8_readHold_76 : decode cX8_readHold 76 = .ok (.invokevirtual 123, 3) := by decide +kernel
theorem dX8_readHold_79 : decode cX8_readHold 79 = .ok (.istore_n 2, 1) := by decide +kernel
theorem dX8_readHold_80 : decode cX8_readHold 80 = .ok (.iload_n 2, 1) := by decide +kernel
