theorem dX4_reads_63 : decode cX4_reads 63 = .ok (.iconst 1, 1) := by decide +kernel
theorem dX4_reads_64 : decode cX4_reads 64 = .ok (.ireturn, 1) := by decide +kernel
theorem dX4_reads_65 : decode cX4_reads 65 = .ok (.aload_n 0, 1) := by decide +kernel
theorem dX4_reads_66 : decode cX4_reads 66 = .ok (.getfield 26, 3) := by decide +kernel
theorem dX4_reads_69 : decode cX4_reads 69 = .ok (.ifCond .ne 10, 3) := by decide +kernel
theorem dX4_reads_72 : decode cX4_reads 72 = .ok (.aload_n 0, 1) := by decide +kernel
theorem dX4_reads_73 : decode cX4_reads 73 = .ok (.invokevirtual 50, 3) := by decide +kernel
theorem dX4_reads_76 : decode cX4_reads 76 = .ok (.goto 7, 3) := by decide +kernel
theorem dX4_reads_79 : decode cX4_reads 79 = .ok (.aload_n 0, 1) := by decide +kernel
theorem dX4_reads_80 : decode cX4_reads 80 = .ok (.invokevirtual 54, 3) := by decide +kernel
theorem dX4_reads_83 : decode cX4_reads 83 = .ok (.istore 5, 2) := by decide +kernel
theorem dX4_reads_85 : decode cX4_reads 85 = .ok (.iload 5, 2) := by decide +kernel
theorem dX4_reads_87 : decode cX4_reads 87 = .ok (.ifCond .eq 10, 3) := by decide +kernel
theorem dX4_reads_90 : decode cX4_reads 90 = .ok (.aload_n 0, 1) := by decide +kernel
theorem dX4_reads_91 : decode cX4_reads 91 = .ok (.invokevirtual 57, 3) := by decide +kernel
theorem dX4_reads_94 : decode cX4_reads 94 = .ok (.ifCond .ne 5, 3) := by decide +kernel
theorem dX4_reads_97 : decode cX4_reads 97 = .ok (.iconst 0, 1) := by decide +kernel
theorem dX4_reads_98 : decode cX4_reads 98 = .ok (.ireturn, 1) := by decide +kernel
theorem dX4_reads_99 : decode cX4_reads 99 = .ok (.aload_n 0, 1) := by decide +kernel
theorem dX4_reads_100 : decode cX4_reads 100 = .ok (.dup, 1) := by decide +kernel
theorem dX4_reads_101 : decode cX4_reads 101 = .ok (.getfield 26, 3) := by decide +kernel
theorem dX4_reads_104 : decode cX4_reads 104 = .ok (.iconst 1, 1) := by decide +kernel
theorem dX4_reads_105 : decode cX4_reads 105 = .ok (.iadd, 1) := by decide +kernel
theorem dX4_reads_106 : decode cX4_reads 106 = .ok (.putfield 26, 3) := by decide +kernel
theorem dX4_reads_109 : decode cX4_reads 109 = .ok (.iinc 4 1, 3) := by decide +kernel
theorem dX4_reads_112 : decode cX4_reads 112 = .ok (.goto (-69), 3) := by decide +kernel
theorem dX4_reads_115 : decode cX4_reads 115 = .ok (.aload_n 0, 1) := by decide +kernel
theorem dX4_reads_116 : decode cX4_reads 116 = .ok (.iconst 1, 1) := by decide +kernel
theorem dX4_reads_117 : decode cX4_reads 117 = .ok (.invokevirtual 60, 3) := by decide +kernel
theorem dX4_reads_120 : decode cX4_reads 120 = .ok (.ireturn, 1) := by decide +kernel
theorem dX4_refuse_0 : decode cX4_refuse 0 = .ok (.aload_n 0, 1) := by decide +kernel
theorem dX4_refuse_1 : decode cX4_refuse 1 = .ok (.iload_n 1, 1) := by decide +kernel
theorem dX4_refuse_2 : decode cX4_refuse 2 = .ok (.putfield 64, 3) := by decide +kernel
theorem dX4_refuse_5 : decode cX4_refuse 5 = .ok (.aload_n 0, 1) := by decide +kernel
theorem dX4_refuse_6 : decode cX4_refuse 6 = .ok (.aload_n 0, 1) := by decide +kernel
theorem dX4_refuse_7 : decode cX4_refuse 7 = .ok (.getfield 67, 3) := by decide +kernel
theorem dX4_refuse_10 : decode cX4_refuse 10 = .ok (.putfield 70, 3) := by decide +kernel
theorem dX4_refuse_13 : decode cX4_refuse 13 = .ok (.iconst 0, 1) := by decide +kernel
theorem dX4_refuse_14 : decode cX4_refuse 14 = .ok (.ireturn, 1) := by decide +kernel
set_option maxRecDepth 20000 in
theorem ggX4_readSign_X4_advance : GoodIn wsX4_readSign wsX4_advance := goodIn_r _ [6, 7, 8, 9, 10, 1, 11, 12, 13, 5, 14, 15, 16, 17, 18, 19, 20, 21, 28, 29, 30, 31, 32, 33, 34, 35, 36, 37, 38] (by decide +kernel) (by decide +kernel)
set_option maxRecDepth 20000 in
theorem gX4_readSign_X4_advance : GoodIn wsX4_readSign (wsV RX4 44 RX4 yX4_advance wsX4_advance) := goodIn_app (goodIn_of _ (by decide +kernel)) ggX4_readSign_X4_advance
set_option maxRecDepth 20000 in
theorem ggX4_readSign_X4_refuse : GoodIn wsX4_readSign wsX4_refuse := goodIn_r _ [25, 26, 10, 27, 28, 29, 30, 31, 32, 33, 34, 35, 36, 37, 38] (by decide +kernel) (by decide +kernel)
set_option maxRecDepth 20000 in
theorem gX4_readSign_X4_refuse : GoodIn wsX4_readSign (wsV RX4 60 RX4 yX4_refuse wsX4_refuse) := goodIn_app (goodIn_of _ (by decide +kernel)) ggX4_readSign_X4_refuse
theorem dX4_readSign_0 : decode cX4_readSign 0 = .ok (.aload_n 0, 1) := by decide +kernel
theorem dX4_readSign_1 : decode cX4_readSign 1 = .ok (.invokevirtual 44, 3) := by decide +kernel
theorem dX4_readSign_4 : decode cX4_readSign 4 = .ok (.aload_n 0, 1) := by decide +kernel
theorem dX4_readSign_5 : decode cX4_readSign 5 = .ok (.getfield 47, 3) := by decide +kernel
theorem dX4_readSign_8 : decode cX4_readSign 8 = .ok (.iconst 3, 1) := by decide +kernel
theorem dX4_readSign_9 : decode cX4_readSign 9 = .ok (.if_icmp .eq 11, 3) := by decide +kernel
theorem dX4_readSign_12 : decode cX4_readSign 12 = .ok (.aload_n 0, 1) := by decide +kernel
theorem dX4_readSign_13 : decode cX4_readSign 13 = .ok (.iconst 1, 1) := by decide +kernel
theorem dX4_readSign_14 : decode cX4_readSign 14 = .ok (.invokevirtual 60, 3) := by decide +kernel
theorem dX4_readSign_17 : decode cX4_readSign 17 = .ok (.ifCond .eq 7, 3) := by decide +kernel
theorem dX4_readSign_20 : decode cX4_readSign 20 = .ok (.iconst 1, 1) := by decide +kernel
theorem dX4_readSign_21 : decode cX4_readSign 21 = .ok (.goto 4, 3) := by decide +kernel
theorem dX4_readSign_24 : decode cX4_readSign 24 = .ok (.iconst 0, 1) := by decide +kernel
theorem dX4_readSign_25 : decode cX4_readSign 25 = .ok (.ireturn, 1) := by decide +kernel
set_option maxRecDepth 20000 in
theorem ggX4_readTanker_X4_isWord : GoodIn wsX4_readTanker wsX4_isWord := goodIn_r _ [8, 9, 10, 11, 12, 13, 14, 15, 16, 17, 18, 19, 20, 21, 22, 23, 24, 25, 26, 27, 28, 29, 30, 31, 32, 33, 34, 35, 36, 37, 38, 39, 40, 41, 42, 43, 44, 45, 46, 47, 48, 49, 50, 51, 52, 53, 54, 55, 56, 57, 58, 59, 60, 61, 87, 88, 89, 90, 91, 92, 93, 94, 95, 96, 97] (by decide +kernel) (by decide +kernel)
set_option maxRecDepth 20000 in
theorem gX4_readTanker_X4_isWord : GoodIn wsX4_readTanker (wsV RX4 75 RX4 yX4_isWord wsX4_isWord) := goodIn_app (goodIn_of _ (by decide +kernel)) ggX4_readTanker_X4_isWord
set_option maxRecDepth 20000 in
theorem ggX4_readTanker_X4_refuse : GoodIn wsX4_readTanker wsX4_refuse := goodIn_r _ [65, 66, 11, 67, 87, 88, 89, 90, 91, 92, 93, 94, 95, 96, 97] (by decide +kernel) (by decide +kernel)
set_option maxRecDepth 20000 in
theorem gX4_readTanker_X4_refuse : GoodIn wsX4_readTanker (wsV RX4 60 RX4 yX4_refuse wsX4_refuse) := goodIn_app (goodIn_of _ (by decide +kernel)) ggX4_readTanker_X4_refuse
set_option maxRecDepth 20000 in
theorem ggX4_readTanker_X4_readNumber : GoodIn wsX4_readTanker wsX4_readNumber := goodIn_r _ [71, 9, 3, 72, 73, 74, 7, 75, 10, 76, 12, 11, 77, 78, 79, 80, 81, 82, 83, 84, 85, 86, 62, 63, 64, 65, 66, 67, 87, 88, 89, 90, 91, 92, 93, 94, 95, 96, 97] (by decide +kernel) (by decide +kernel)
set_option maxRecDepth 20000 in
theorem gX4_readTanker_X4_readNumber : GoodIn wsX4_readTanker (wsV RX4 88 RX4 yX4_readNumber wsX4_readNumber) := goodIn_app (goodIn_of _ (by decide +kernel)) ggX4_readTanker_X4_readNumber
theorem dX4_readTanker_0 : decode cX4_readTanker 0 = .ok (.aload_n 0, 1) := by decide +kernel
theorem dX4_readTanker_1 : decode cX4_readTanker 1 = .ok (.ldc 73, 2) := by decide +kernel
theorem dX4_readTanker_3 : decode cX4_readTanker 3 = .ok (.invokevirtual 75, 3) := by decide +kernel
theorem dX4_readTanker_6 : decode cX4_readTanker 6 = .ok (.ifCond .ne 9, 3) := by decide +kernel
theorem dX4_readTanker_9 : decode cX4_readTanker 9 = .ok (.aload_n 0, 1) := by decide +kernel
theorem dX4_readTanker_10 : decode cX4_readTanker 10 = .ok (.iconst 1, 1) := by decide +kernel
theorem dX4_readTanker_11 : decode cX4_readTanker 11 = .ok (.invokevirtual 60, 3) := by decide +kernel
theorem dX4_readTanker_14 : decode cX4_readTanker 14 = .ok (.ireturn, 1) := by decide +kernel
theorem dX4_readTanker_15 : decode cX4_readTanker 15 = .ok (.iconst 0, 1) := by decide +kernel
theorem dX4_readTanker_16 : decode cX4_readTanker 16 = .ok (.istore_n 1, 1) := by decide +kernel
theorem dX4_readTanker_17 : decode cX4_readTanker 17 = .ok (.iload_n 1, 1) := by decide +kernel
theorem dX4_readTanker_18 : decode cX4_readTanker 18 = .ok (.bipush 9, 2) := by decide +kernel
theorem dX4_readTanker_20 : decode cX4_readTanker 20 = .ok (.if_icmp .ge 62, 3) := by decide +kernel
theorem dX4_readTanker_23 : decode cX4_readTanker 23 = .ok (.iload_n 1, 1) := by decide +kernel
theorem dX4_readTanker_24 : decode cX4_readTanker 24 = .ok (.bipush 8, 2) := by decide +kernel
theorem dX4_readTanker_26 : decode cX4_readTanker 26 = .ok (.if_icmp .ne 16, 3) := by decide +kernel
theorem dX4_readTanker_29 : decode cX4_readTanker 29 = .ok (.aload_n 0, 1) := by decide +kernel
theorem dX4_readTanker_30 : decode cX4_readTanker 30 = .ok (.getfield 29, 3) := by decide +kernel
theorem dX4_readTanker_33 : decode cX4_readTanker 33 = .ok (.getfield 79, 3) := by decide +kernel
theorem dX4_readTanker_36 : decode cX4_readTanker 36 = .ok (.bipush 7, 2) := by decide +kernel
theorem dX4_readTanker_38 : decode cX4_readTanker 38 = .ok (.iaload, 1) := by decide +kernel
theorem dX4_readTanker_39 : decode cX4_readTanker 39 = .ok (.goto 8, 3) := by decide +kernel
theorem dX4_readTanker_42 : decode cX4_readTanker 42 = .ok (.getstatic 82, 3) := by decide +kernel
theorem dX4_readTanker_45 : decode cX4_readTanker 45 = .ok (.iload_n 1, 1) := by decide +kernel
theorem dX4_readTanker_46 : decode cX4_readTanker 46 = .ok (.iaload, 1) := by decide +kernel
theorem dX4_readTanker_47 : decode cX4_readTanker 47 = .ok (.istore_n 2, 1) := by decide +kernel
theorem dX4_readTanker_48 : decode cX4_readTanker 48 = .ok (.aload_n 0, 1) := by decide +kernel
theorem dX4_readTanker_49 : decode cX4_readTanker 49 = .ok (.iload_n 2, 1) := by decide +kernel
theorem dX4_readTanker_50 : decode cX4_readTanker 50 = .ok (.getstatic 85, 3) := by decide +kernel
theorem dX4_readTanker_53 : decode cX4_readTanker 53 = .ok (.iload_n 1, 1) := by decide +kernel
theorem dX4_readTanker_54 : decode cX4_readTanker 54 = .ok (.iaload, 1) := by decide +kernel
theorem dX4_readTanker_55 : decode cX4_readTanker 55 = .ok (.invokevirtual 88, 3) := by decide +kernel
theorem dX4_readTanker_58 : decode cX4_readTanker 58 = .ok (.ifCond .ne 5, 3) := by decide +kernel
theorem dX4_readTanker_61 : decode cX4_readTanker 61 = .ok (.iconst 0, 1) := by decide +kernel
theorem dX4_readTanker_62 : decode cX4_readTanker 62 = .ok (.ireturn, 1) := by decide +kernel
theorem dX4_readTanker_63 : decode cX4_readTanker 63 = .ok (.aload_n 0, 1) := by decide +kernel
theorem dX4_readTanker_64 : decode cX4_readTanker 64 = .ok (.getfield 29, 3) := by decide +kernel
theorem dX4_readTanker_67 : decode cX4_readTanker 67 = .ok (.getfield 79, 3) := by decide +kernel
theorem dX4_readTanker_70 : decode cX4_readTanker 70 = .ok (.iload_n 1, 1) := by decide +kernel
theorem dX4_readTanker_71 : decode cX4_readTanker 71 = .ok (.aload_n 0, 1) := by decide +kernel
theorem dX4_readTanker_72 : decode cX4_readTanker 72 = .ok (.getfield 92, 3) := by decide +kernel
theorem dX4_readTanker_75 : decode cX4_readTanker 75 = .ok (.iastore, 1) := by decide +kernel
theorem dX4_readTanker_76 : decode cX4_readTanker 76 = .ok (.iinc 1 1, 3) := by decide +kernel
theorem dX4_readTanker_79 : decode cX4_readTanker 79 = .ok (.goto (-62), 3) := by decide +kernel
theorem dX4_readTanker_82 : decode cX4_readTanker 82 = .ok (.iconst 1, 1) := by decide +kernel
theorem dX4_readTanker_83 : decode cX4_readTanker 83 = .ok (.ireturn, 1) := by decide +kernel
set_option maxRecDepth 20000 in
theorem ggX4_readOther_X4_sortOfWord : GoodIn wsX4_readOther wsX4_sortOfWord := goodIn_r _ [6, 7, 8, 9, 5, 10, 11, 12, 13, 14, 15, 16, 17, 18, 19, 20, 21, 22, 23, 24, 25, 26, 27, 28, 29, 30, 31, 32, 33, 34, 35, 36, 37, 38, 39, 40, 41, 42, 43, 44, 45, 46, 47, 48, 49, 50, 51, 52, 53, 54, 55, 56, 57, 58, 59, 60, 61, 62, 63, 127, 128, 129, 130, 131, 132, 133, 134, 135, 136, 137] (by decide +kernel) (by decide +kernel)
set_option maxRecDepth 20000 in
theorem gX4_readOther_X4_sortOfWord : GoodIn wsX4_readOther (wsV RX4 95 RX4 yX4_sortOfWord wsX4_sortOfWord) := goodIn_app (goodIn_of _ (by decide +kernel)) ggX4_readOther_X4_sortOfWord
set_option maxRecDepth 20000 in
theorem ggX4_readOther_X4_refuse : GoodIn wsX4_readOther wsX4_refuse := goodIn_r _ [67, 68, 13, 69, 127, 128, 129, 130, 131, 132, 133, 134, 135, 136, 137] (by decide +kernel) (by decide +kernel)
set_option maxRecDepth 20000 in
theorem gX4_readOther_X4_refuse : GoodIn wsX4_readOther (wsV RX4 60 RX4 yX4_refuse wsX4_refuse) := goodIn_app (goodIn_of _ (by decide +kernel)) ggX4_readOther_X4_refuse
set_option maxRecDepth 20000 in
theorem ggX4_readOther_X4_readCompartment : GoodIn wsX4_readOther wsX4_readCompartment := goodIn_r _ [73, 74, 75, 76, 77, 78, 79, 80, 81, 82, 5, 83, 11, 84, 85, 86, 87, 12, 88, 14, 13, 89, 90, 91, 92, 93, 94, 95, 96, 97, 98, 64, 65, 66, 67, 68, 69, 7, 8, 9, 10, 15, 16, 17, 18, 19, 20, 21, 22, 23, 24, 25, 26, 27, 28, 29, 30, 31, 32, 33, 34, 35, 36, 37, 38, 39, 40, 41, 42, 43, 44, 45, 46, 47, 48, 49, 50, 51, 52, 53, 54, 55, 56, 57, 58, 59, 60, 61, 62, 63, 127, 128, 129, 130, 131, 132, 133, 134, 135, 136, 137, 138, 139, 140, 141, 142, 143, 144, 145, 146, 147, 148, 149] (by decide +kernel) (by decide +kernel)
set_option maxRecDepth 20000 in
theorem gX4_readOther_X4_readCompartment : GoodIn wsX4_readOther (wsV RX4 102 RX4 yX4_readCompartment wsX4_readCompartment) := goodIn_app (goodIn_of _ (by decide +kernel)) ggX4_readOther_X4_readCompartment
set_option maxRecDepth 20000 in
theorem ggX4_readOther_X4_readLiquid : GoodIn wsX4_readOther wsX4_readLiquid := goodIn_r _ [102, 74, 103, 104, 77, 80, 81, 82, 5, 83, 11, 84, 85, 86, 87, 12, 88, 14, 13, 89, 90, 91, 92, 93, 94, 95, 96, 97, 98, 64, 65, 66, 67, 68, 69, 127, 128, 129, 130, 131, 132, 133, 134, 135, 136, 137, 138, 139, 140, 141, 142, 143, 144, 145, 146, 147, 148, 149] (by decide +kernel) (by decide +kernel)
set_option maxRecDepth 20000 in
theorem gX4_readOther_X4_readLiquid : GoodIn wsX4_readOther (wsV RX4 105 RX4 yX4_readLiquid wsX4_readLiquid) := goodIn_app (goodIn_of _ (by decide +kernel)) ggX4_readOther_X4_readLiquid
set_option maxRecDepth 20000 in
theorem ggX4_readOther_X4_readBar : GoodIn wsX4_readOther wsX4_readBar := goodIn_r _ [108, 74, 104, 77, 80, 81, 82, 5, 83, 11, 84, 85, 86, 87, 12, 88, 14, 13, 89, 90, 91, 92, 93, 94, 95, 96, 97, 98, 64, 65, 66, 67, 68, 69, 109, 110, 111, 112, 113, 114, 127, 128, 129, 130, 131, 132, 133, 134, 135, 136, 137, 138, 139, 140, 141, 142, 143, 144, 145, 146, 147, 148, 149] (by decide +kernel) (by decide +kernel)
set_option maxRecDepth 20000 in
theorem gX4_readOther_X4_readBar : GoodIn wsX4_readOther (wsV RX4 108 RX4 yX4_readBar wsX4_readBar) := goodIn_app (goodIn_of _ (by decide +kernel)) ggX4_readOther_X4_readBar
set_option maxRecDepth 20000 in
theorem ggX4_readOther_X4_readLast : GoodIn wsX4_readOther wsX4_readLast := goodIn_r _ [118, 74, 76, 77, 104, 119, 80, 81, 82, 5, 83, 11, 84, 85, 86, 87, 12, 88, 14, 13, 89, 90, 91, 92, 93, 94, 95, 96, 97, 98, 64, 65, 66, 67, 68, 69, 127, 128, 129, 130, 131, 132, 133, 134, 135, 136, 137, 138, 139, 140, 141, 142, 143, 144, 145, 146, 147, 148, 149] (by decide +kernel) (by decide +kernel)
set_option maxRecDepth 20000 in
theorem gX4_readOther_X4_readLast : GoodIn wsX4_readOther (wsV RX4 111 RX4 yX4_readLast wsX4_readLast) := goodIn_app (goodIn_of _ (by decide +kernel)) ggX4_readOther_X4_readLast
set_option maxRecDepth 20000 in
theorem ggX4_readOther_X4_readDrop : GoodIn wsX4_readOther wsX4_readDrop := goodIn_r _ [123, 74, 104, 124, 125, 77, 126, 80, 81, 82, 5, 83, 11, 84, 85, 86, 87, 12, 88, 14, 13, 89, 90, 91, 92, 93, 94, 95, 96, 97, 98, 64, 65, 66, 67, 68, 69, 127, 128, 129, 130, 131, 132, 133, 134, 135, 136, 137, 138, 139, 140, 141, 142, 143, 144, 145, 146, 147, 148, 149] (by decide +kernel) (by decide +kernel)
set_option maxRecDepth 20000 in
theorem gX4_readOther_X4_readDrop : GoodIn wsX4_readOther (wsV RX4 114 RX4 yX4_readDrop wsX4_readDrop) := goodIn_app (goodIn_of _ (by decide +kernel)) ggX4_readOther_X4_readDrop
theorem dX4_readOther_0 : decode cX4_readOther 0 = .ok (.aload_n 0, 1) := by decide +kernel
theorem dX4_readOther_1 : decode cX4_readOther 1 = .ok (.invokevirtual 95, 3) := by decide +kernel
theorem dX4_readOther_4 : decode cX4_readOther 4 = .ok (.istore_n 1, 1) := by decide +kernel
theorem dX4_readOther_5 : decode cX4_readOther 5 = .ok (.iload_n 1, 1) := by decide +kernel
theorem dX4_readOther_6 : decode cX4_readOther 6 = .ok (.iconst (-1), 1) := by decide +kernel
theorem dX4_readOther_7 : decode cX4_readOther 7 = .ok (.if_icmp .ne 9, 3) := by decide +kernel
theorem dX4_readOther_10 : decode cX4_readOther 10 = .ok (.aload_n 0, 1) := by decide +kernel
theorem dX4_readOther_11 : decode cX4_readOther 11 = .ok (.iconst 1, 1) := by decide +kernel
theorem dX4_readOther_12 : decode cX4_readOther 12 = .ok (.invokevirtual 60, 3) := by decide +kernel
theorem dX4_readOther_15 : decode cX4_readOther 15 = .ok (.ireturn, 1) := by decide +kernel
theorem dX4_readOther_16 : decode cX4_readOther 16 = .ok (.aload_n 0, 1) := by decide +kernel
theorem dX4_readOther_17 : decode cX4_readOther 17 = .ok (.getfield 9, 3) := by decide +kernel
theorem dX4_readOther_20 : decode cX4_readOther 20 = .ok (.iload_n 1, 1) := by decide +kernel
theorem dX4_readOther_21 : decode cX4_readOther 21 = .ok (.iaload, 1) := by decide +kernel
theorem dX4_readOther_22 : decode cX4_readOther 22 = .ok (.getstatic 99, 3) := by decide +kernel
theorem dX4_readOther_25 : decode cX4_readOther 25 = .ok (.iload_n 1, 1) := by decide +kernel
theorem dX4_readOther_26 : decode cX4_readOther 26 = .ok (.iaload, 1) := by decide +kernel
theorem dX4_readOther_27 : decode cX4_readOther 27 = .ok (.if_icmp .lt 9, 3) := by decide +kernel
theorem dX4_readOther_30 : decode cX4_readOther 30 = .ok (.aload_n 0, 1) := by decide +kernel
theorem dX4_readOther_31 : decode cX4_readOther 31 = .ok (.iconst 3, 1) := by decide +kernel
theorem dX4_readOther_32 : decode cX4_readOther 32 = .ok (.invokevirtual 60, 3) := by decide +kernel
theorem dX4_readOther_35 : decode cX4_readOther 35 = .ok (.ireturn, 1) := by decide +kernel
theorem dX4_readOther_36 : decode cX4_readOther 36 = .ok (.aload_n 0, 1) := by decide +kernel
theorem dX4_readOther_37 : decode cX4_readOther 37 = .ok (.getfield 9, 3) := by decide +kernel
theorem dX4_readOther_40 : decode cX4_readOther 40 = .ok (.iload_n 1, 1) := by decide +kernel
theorem dX4_readOther_41 : decode cX4_readOther 41 = .ok (.dup2, 1) := by decide +kernel
theorem dX4_readOther_42 : decode cX4_readOther 42 = .ok (.iaload, 1) := by decide +kernel
theorem dX4_readOther_43 : decode cX4_readOther 43 = .ok (.iconst 1, 1) := by decide +kernel
theorem dX4_readOther_44 : decode cX4_readOther 44 = .ok (.iadd, 1) := by decide +kernel
theorem dX4_readOther_45 : decode cX4_readOther 45 = .ok (.iastore, 1) := by decide +kernel
theorem dX4_readOther_46 : decode cX4_readOther 46 = .ok (.iload_n 1, 1) := by decide +kernel
theorem dX4_readOther_47 : decode cX4_readOther 47 = .ok (.tableswitch 49 0 3 #[29, 34, 39, 44], 29) := by decide +kernel
theorem dX4_readOther_76 : decode cX4_readOther 76 = .ok (.aload_n 0, 1) := by decide +kernel
theorem dX4_readOther_77 : decode cX4_readOther 77 = .ok (.invokevirtual 102, 3) := by decide +kernel
theorem dX4_readOther_80 : decode cX4_readOther 80 = .ok (.ireturn, 1) := by decide +kernel
theorem dX4_readOther_81 : decode cX4_readOther 81 = .ok (.aload_n 0, 1) := by decide +kernel
theorem dX4_readOther_82 : decode cX4_readOther 82 = .ok (.invokevirtual 105, 3) := by decide +kernel
theorem dX4_readOther_85 : decode cX4_readOther 85 = .ok (.ireturn, 1) := by decide +kernel
theorem dX4_readOther_86 : decode cX4_readOther 86 = .ok (.aload_n 0, 1) := by decide +kernel
theorem dX4_readOther_87 : decode cX4_readOther 87 = .ok (.invokevirtual 108, 3) := by decide +kernel
theorem dX4_readOther_90 : decode cX4_readOther 90 = .ok (.ireturn, 1) := by decide +kernel
theorem dX4_readOther_91 : decode cX4_readOther 91 = .ok (.aload_n 0, 1) := by decide +kernel
theorem dX4_readOther_92 : decode cX4_readOther 92 = .ok (.invokevirtual 111, 3) := by decide +kernel
theorem dX4_readOther_95 : decode cX4_readOther 95 = .ok (.ireturn, 1) := by decide +kernel
theorem dX4_readOther_96 : decode cX4_readOther 96 = .ok (.aload_n 0, 1) := by decide +kernel
theorem dX4_readOther_97 : decode cX4_readOther 97 = .ok (.invokevirtual 114, 3) := by decide +kernel
theorem dX4_readOther_100 : decode cX4_readOther 100 = .ok (.ireturn, 1) := by decide +kernel
set_option maxRecDepth 20000 in
theorem ggX4_sortOfWord_X4_isWord : GoodIn wsX4_sortOfWord wsX4_isWord := goodIn_r _ [5, 6, 7, 8, 9, 10, 11, 12, 13, 14, 15, 16, 17, 18, 19, 20, 21, 22, 23, 24, 25, 26, 27, 28, 29, 30, 31, 32, 33, 34, 35, 36, 37, 38, 39, 40, 41, 42, 43, 44, 45, 46, 47, 48, 49, 50, 51, 52, 53, 54, 55, 56, 57, 58, 59, 60, 61, 62, 63, 64, 65, 66, 67, 68, 69] (by decide +kernel) (by decide +kernel)
set_option maxRecDepth 20000 in
theorem gX4_sortOfWord_X4_isWord : GoodIn wsX4_sortOfWord (wsV RX4 75 RX4 yX4_isWord wsX4_isWord) := goodIn_app (goodIn_of _ (by decide +kernel)) ggX4_sortOfWord_X4_isWord
theorem dX4_sortOfWord_0 : decode cX4_sortOfWord 0 = .ok (.aload_n 0, 1) := by decide +kernel
theorem dX4_sortOfWord_1 : decode cX4_sortOfWord 1 = .ok (.ldc 117, 2) := by decide +kernel
theorem dX4_sortOfWord_3 : decode cX4_sortOfWord 3 = .ok (.invokevirtual 75, 3) := by decide +kernel
theorem dX4_sortOfWord_6 : decode cX4_sortOfWord 6 = .ok (.ifCond .eq 5, 3) := by decide +kernel
theorem dX4_sortOfWord_9 : decode cX4_sortOfWord 9 = .ok (.iconst 0, 1) := by decide +kernel
theorem dX4_sortOfWord_10 : decode cX4_sortOfWord 10 = .ok (.ireturn, 1) := by decide +kernel
theorem dX4_sortOfWord_11 : decode cX4_sortOfWord 11 = .ok (.aload_n 0, 1) := by decide +kernel
theorem dX4_sortOfWord_12 : decode cX4_sortOfWord 12 = .ok (.ldc 119, 2) := by decide +kernel
theorem dX4_sortOfWord_14 : decode cX4_sortOfWord 14 = .ok (.invokevirtual 75, 3) := by decide +kernel
theorem dX4_sortOfWord_17 : decode cX4_sortOfWord 17 = .ok (.ifCond .eq 5, 3) := by decide +kernel
theorem dX4_sortOfWord_20 : decode cX4_sortOfWord 20 = .ok (.iconst 1, 1) := by decide +kernel
theorem dX4_sortOfWord_21 : decode cX4_sortOfWord 21 = .ok (.ireturn, 1) := by decide +kernel
theorem dX4_sortOfWord_22 : decode cX4_sortOfWord 22 = .ok (.aload_n 0, 1) := by decide +kernel
theorem dX4_sortOfWord_23 : decode cX4_sortOfWord 23 = .ok (.ldc 121, 2) := by decide +kernel
theorem dX4_sortOfWord_25 : decode cX4_sortOfWord 25 = .ok (.invokevirtual 75, 3) := by decide +kernel
theorem dX4_sortOfWord_28 : decode cX4_sortOfWord 28 = .ok (.ifCond .eq 5, 3) := by decide +kernel
theorem dX4_sortOfWord_31 : decode cX4_sortOfWord 31 = .ok (.iconst 2, 1) := by decide +kernel
theorem dX4_sortOfWord_32 : decode cX4_sortOfWord 32 = .ok (.ireturn, 1) := by decide +kernel
theorem dX4_sortOfWord_33 : decode cX4_sortOfWord 33 = .ok (.aload_n 0, 1) := by decide +kernel
theorem dX4_sortOfWord_34 : decode cX4_sortOfWord 34 = .ok (.ldc 123, 2) := by decide +kernel
theorem dX4_sortOfWord_36 : decode cX4_sortOfWord 36 = .ok (.invokevirtual 75, 3) := by decide +kernel
theorem dX4_sortOfWord_39 : decode cX4_sortOfWord 39 = .ok (.ifCond .eq 5, 3) := by decide +kernel
theorem dX4_sortOfWord_42 : decode cX4_sortOfWord 42 = .ok (.iconst 3, 1) := by decide +kernel
theorem dX4_sortOfWord_43 : decode cX4_sortOfWord 43 = .ok (.ireturn, 1) := by decide +kernel
theorem dX4_sortOfWord_44 : decode cX4_sortOfWord 44 = .ok (.aload_n 0, 1) := by decide +kernel
theorem dX4_sortOfWord_45 : decode cX4_sortOfWord 45 = .ok (.ldc 125, 2) := by decide +kernel
theorem dX4_sortOfWord_47 : decode cX4_sortOfWord 47 = .ok (.invokevirtual 75, 3) := by decide +kernel
theorem dX4_sortOfWord_50 : decode cX4_sortOfWord 50 = .ok (.ifCond .eq 7, 3) := by decide +kernel
theorem dX4_sortOfWord_53 : decode cX4_sortOfWord 53 = .ok (.iconst 4, 1) := by decide +kernel
theorem dX4_sortOfWord_54 : decode cX4_sortOfWord 54 = .ok (.goto 4, 3) := by decide +kernel
theorem dX4_sortOfWord_57 : decode cX4_sortOfWord 57 = .ok (.iconst (-1), 1) := by decide +kernel
theorem dX4_sortOfWord_58 : decode cX4_sortOfWord 58 = .ok (.ireturn, 1) := by decide +kernel
set_option maxRecDepth 20000 in
theorem ggX4_readCompartment_X4_readNumber : GoodIn wsX4_readCompartment wsX4_readNumber := goodIn_r _ [11, 12, 4, 13, 14, 15, 10, 16, 17, 18, 19, 20, 21, 22, 23, 24, 25, 26, 27, 28, 29, 30, 31, 32, 33, 34, 35, 36, 90, 91, 92, 93, 94, 95, 96, 97, 98, 99, 100] (by decide +kernel) (by decide +kernel)
set_option maxRecDepth 20000 in
theorem gX4_readCompartment_X4_readNumber : GoodIn wsX4_readCompartment (wsV RX4 88 RX4 yX4_readNumber wsX4_readNumber) := goodIn_app (goodIn_of _ (by decide +kernel)) ggX4_readCompartment_X4_readNumber
set_option maxRecDepth 20000 in
theorem ggX4_readCompartment_X4_advance : GoodIn wsX4_readCompartment wsX4_advance := goodIn_r _ [16, 17, 18, 19, 20, 12, 21, 22, 23, 10, 24, 4, 25, 26, 27, 28, 29, 30, 90, 91, 92, 93, 94, 95, 96, 97, 98, 99, 100] (by decide +kernel) (by decide +kernel)
set_option maxRecDepth 20000 in
theorem gX4_readCompartment_X4_advance : GoodIn wsX4_readCompartment (wsV RX4 44 RX4 yX4_advance wsX4_advance) := goodIn_app (goodIn_of _ (by decide +kernel)) ggX4_readCompartment_X4_advance
set_option maxRecDepth 20000 in
theorem ggX4_readCompartment_X4_isWord : GoodIn wsX4_readCompartment wsX4_isWord := goodIn_r _ [40, 12, 17, 20, 19, 41, 42, 43, 44, 45, 46, 47, 48, 49, 50, 51, 52, 53, 54, 55, 56, 57, 58, 59, 60, 61, 62, 63, 64, 65, 66, 67, 68, 69, 70, 71, 72, 73, 74, 75, 76, 77, 78, 79, 80, 81, 82, 83, 84, 85, 86, 87, 88, 89, 90, 91, 92, 93, 94, 95, 96, 97, 98, 99, 100] (by decide +kernel) (by decide +kernel)
set_option maxRecDepth 20000 in
theorem gX4_readCompartment_X4_isWord : GoodIn wsX4_readCompartment (wsV RX4 75 RX4 yX4_isWord wsX4_isWord) := goodIn_app (goodIn_of _ (by decide +kernel)) ggX4_readCompartment_X4_isWord
set_option maxRecDepth 20000 in
theorem ggX4_readCompartment_X4_refuse : GoodIn wsX4_readCompartment wsX4_refuse := goodIn_r _ [34, 35, 20, 36, 90, 91, 92, 93, 94, 95, 96, 97, 98, 99, 100] (by decide +kernel) (by decide +kernel)
set_option maxRecDepth 20000 in
theorem gX4_readCompartment_X4_refuse : GoodIn wsX4_readCompartment (wsV RX4 60 RX4 yX4_refuse wsX4_refuse) := goodIn_app (goodIn_of _ (by decide +kernel)) ggX4_readCompartment_X4_refuse
theorem dX4_readCompartment_0 : decode cX4_readCompartment 0 = .ok (.aload_n 0, 1) := by decide +kernel
theorem dX4_readCompartment_1 : decode cX4_readCompartment 1 = .ok (.iconst 1, 1) := by decide +kernel
theorem dX4_readCompartment_2 : decode cX4_readCompartment 2 = .ok (.sipush 999, 3) := by decide +kernel
theorem dX4_readCompartment_5 : decode cX4_readCompartment 5 = .ok (.invokevirtual 88, 3) := by decide +kernel
theorem dX4_readCompartment_8 : decode cX4_readCompartment 8 = .ok (.ifCond .ne 5, 3) := by decide +kernel
theorem dX4_readCompartment_11 : decode cX4_readCompartment 11 = .ok (.iconst 0, 1) := by decide +kernel
theorem dX4_readCompartment_12 : decode cX4_readCompartment 12 = .ok (.ireturn, 1) := by decide +kernel
theorem dX4_readCompartment_13 : decode cX4_readCompartment 13 = .ok (.aload_n 0, 1) := by decide +kernel
theorem dX4_readCompartment_14 : decode cX4_readCompartment 14 = .ok (.getfield 29, 3) := by decide +kernel
theorem dX4_readCompartment_17 : decode cX4_readCompartment 17 = .ok (.getfield 127, 3) := by decide +kernel
theorem dX4_readCompartment_20 : decode cX4_readCompartment 20 = .ok (.aload_n 0, 1) := by decide +kernel
theorem dX4_readCompartment_21 : decode cX4_readCompartment 21 = .ok (.getfield 29, 3) := by decide +kernel
theorem dX4_readCompartment_24 : decode cX4_readCompartment 24 = .ok (.getfield 130, 3) := by decide +kernel
theorem dX4_readCompartment_27 : decode cX4_readCompartment 27 = .ok (.aload_n 0, 1) := by decide +kernel
theorem dX4_readCompartment_28 : decode cX4_readCompartment 28 = .ok (.getfield 92, 3) := by decide +kernel
theorem dX4_readCompartment_31 : decode cX4_readCompartment 31 = .ok (.iastore, 1) := by decide +kernel
theorem dX4_readCompartment_32 : decode cX4_readCompartment 32 = .ok (.aload_n 0, 1) := by decide +kernel
theorem dX4_readCompartment_33 : decode cX4_readCompartment 33 = .ok (.iconst 0, 1) := by decide +kernel
theorem dX4_readCompartment_34 : decode cX4_readCompartment 34 = .ok (.bipush 99, 2) := by decide +kernel
theorem dX4_readCompartment_36 : decode cX4_readCompartment 36 = .ok (.invokevirtual 88, 3) := by decide +kernel
theorem dX4_readCompartment_39 : decode cX4_readCompartment 39 = .ok (.ifCond .ne 5, 3) := by decide +kernel
theorem dX4_readCompartment_42 : decode cX4_readCompartment 42 = .ok (.iconst 0, 1) := by decide +kernel
theorem dX4_readCompartment_43 : decode cX4_readCompartment 43 = .ok (.ireturn, 1) := by decide +kernel
theorem dX4_readCompartment_44 : decode cX4_readCompartment 44 = .ok (.aload_n 0, 1) := by decide +kernel
theorem dX4_readCompartment_45 : decode cX4_readCompartment 45 = .ok (.getfield 29, 3) := by decide +kernel
theorem dX4_readCompartment_48 : decode cX4_readCompartment 48 = .ok (.getfield 133, 3) := by decide +kernel
theorem dX4_readCompartment_51 : decode cX4_readCompartment 51 = .ok (.aload_n 0, 1) := by decide +kernel
theorem dX4_readCompartment_52 : decode cX4_readCompartment 52 = .ok (.getfield 29, 3) := by decide +kernel
theorem dX4_readCompartment_55 : decode cX4_readCompartment 55 = .ok (.getfield 130, 3) := by decide +kernel
theorem dX4_readCompartment_58 : decode cX4_readCompartment 58 = .ok (.aload_n 0, 1) := by decide +kernel
theorem dX4_readCompartment_59 : decode cX4_readCompartment 59 = .ok (.getfield 92, 3) := by decide +kernel
theorem dX4_readCompartment_62 : decode cX4_readCompartment 62 = .ok (.iastore, 1) := by decide +kernel
theorem dX4_readCompartment_63 : decode cX4_readCompartment 63 = .ok (.aload_n 0, 1) := by decide +kernel
theorem dX4_readCompartment_64 : decode cX4_readCompartment 64 = .ok (.invokevirtual 44, 3) := by decide +kernel
theorem dX4_readCompartment_67 : decode cX4_readCompartment 67 = .ok (.aload_n 0, 1) := by decide +kernel
theorem dX4_readCompartment_68 : decode cX4_readCompartment 68 = .ok (.ldc 136, 2) := by decide +kernel
theorem dX4_readCompartment_70 : decode cX4_readCompartment 70 = .ok (.invokevirtual 75, 3) := by decide +kernel
theorem dX4_readCompartment_73 : decode cX4_readCompartment 73 = .ok (.istore_n 1, 1) := by decide +kernel
theorem dX4_readCompartment_74 : decode cX4_readCompartment 74 = .ok (.iload_n 1, 1) := by decide +kernel
theorem dX4_readCompartment_75 : decode cX4_readCompartment 75 = .ok (.ifCond .ne 18, 3) := by decide +kernel
theorem dX4_readCompartment_78 : decode cX4_readCompartment 78 = .ok (.aload_n 0, 1) := by decide +kernel
theorem dX4_readCompartment_79 : decode cX4_readCompartment 79 = .ok (.ldc 138, 2) := by decide +kernel
theorem dX4_readCompartment_81 : decode cX4_readCompartment 81 = .ok (.invokevirtual 75, 3) := by decide +kernel
theorem dX4_readCompartment_84 : decode cX4_readCompartment 84 = .ok (.ifCond .ne 9, 3) := by decide +kernel
theorem dX4_readCompartment_87 : decode cX4_readCompartment 87 = .ok (.aload_n 0, 1) := by decide +kernel
theorem dX4_readCompartment_88 : decode cX4_readCompartment 88 = .ok (.iconst 1, 1) := by decide +kernel
theorem dX4_readCompartment_89 : decode cX4_readCompartment 89 = .ok (.invokevirtual 60, 3) := by decide +kernel
theorem dX4_readCompartment_92 : decode cX4_readCompartment 92 = .ok (.ireturn, 1) := by decide +kernel
theorem dX4_readCompartment_93 : decode cX4_readCompartment 93 = .ok (.aload_n 0, 1) := by decide +kernel
theorem dX4_readCompartment_94 : decode cX4_readCompartment 94 = .ok (.getfield 29, 3) := by decide +kernel
theorem dX4_readCompartment_97 : decode cX4_readCompartment 97 = .ok (.getfield 140, 3) := by decide +kernel
theorem dX4_readCompartment_100 : decode cX4_readCompartment 100 = .ok (.aload_n 0, 1) := by decide +kernel
theorem dX4_readCompartment_101 : decode cX4_readCompartment 101 = .ok (.getfield 29, 3) := by decide +kernel
theorem dX4_readCompartment_104 : decode cX4_readCompartment 104 = .ok (.getfield 130, 3) := by decide +kernel
theorem dX4_readCompartment_107 : decode cX4_readCompartment 107 = .ok (.iload_n 1, 1) := by decide +kernel
theorem dX4_readCompartment_108 : decode cX4_readCompartment 108 = .ok (.ifCond .eq 7, 3) := by decide +kernel
theorem dX4_readCompartment_111 : decode cX4_readCompartment 111 = .ok (.iconst 1, 1) := by decide +kernel
theorem dX4_readCompartment_112 : decode cX4_readCompartment 112 = .ok (.goto 4, 3) := by decide +kernel
theorem dX4_readCompartment_115 : decode cX4_readCompartment 115 = .ok (.iconst 0, 1) := by decide +kernel
theorem dX4_readCompartment_116 : decode cX4_readCompartment 116 = .ok (.iastore, 1) := by decide +kernel
theorem dX4_readCompartment_117 : decode cX4_readCompartment 117 = .ok (.aload_n 0, 1) := by decide +kernel
theorem dX4_readCompartment_118 : decode cX4_readCompartment 118 = .ok (.getfield 29, 3) := by decide +kernel
theorem dX4_readCompartment_121 : decode cX4_readCompartment 121 = .ok (.dup, 1) := by decide +kernel
theorem dX4_readCompartment_122 : decode cX4_readCompartment 122 = .ok (.getfield 130, 3) := by decide +kernel
theorem dX4_readCompartment_125 : decode cX4_readCompartment 125 = .ok (.iconst 1, 1) := by decide +kernel
theorem dX4_readCompartment_126 : decode cX4_readCompartment 126 = .ok (.iadd, 1) := by decide +kernel
theorem dX4_readCompartment_127 : decode cX4_readCompartment 127 = .ok (.putfield 130, 3) := by decide +kernel
theorem dX4_readCompartment_130 : decode cX4_readCompartment 130 = .ok (.iconst 1, 1) := by decide +kernel
theorem dX4_readCompartment_131 : decode cX4_readCompartment 131 = .ok (.ireturn, 1) := by decide +kernel
set_option maxRecDepth 20000 in
theorem ggX4_readLiquid_X4_readNumber : GoodIn wsX4_readLiquid wsX4_readNumber := goodIn_r _ [9, 10, 4, 11, 12, 13, 8, 14, 15, 16, 17, 18, 19, 20, 21, 22, 23, 24, 25, 26, 27, 28, 29, 30, 31, 32, 33, 34, 35, 36, 37, 38, 39, 40, 41, 42, 43, 44, 45] (by decide +kernel) (by decide +kernel)
set_option maxRecDepth 20000 in
theorem gX4_readLiquid_X4_readNumber : GoodIn wsX4_readLiquid (wsV RX4 88 RX4 yX4_readNumber wsX4_readNumber) := goodIn_app (goodIn_of _ (by decide +kernel)) ggX4_readLiquid_X4_readNumber
theorem dX4_readLiquid_0 : decode cX4_readLiquid 0 = .ok (.aload_n 0, 1) := by decide +kernel
theorem dX4_readLiquid_1 : decode cX4_readLiquid 1 = .ok (.iconst 1, 1) := by decide +kernel
theorem dX4_readLiquid_2 : decode cX4_readLiquid 2 = .ok (.bipush 20, 2) := by decide +kernel
theorem dX4_readLiquid_4 : decode cX4_readLiquid 4 = .ok (.invokevirtual 88, 3) := by decide +kernel
theorem dX4_readLiquid_7 : decode cX4_readLiquid 7 = .ok (.ifCond .ne 5, 3) := by decide +kernel
theorem dX4_readLiquid_10 : decode cX4_readLiquid 10 = .ok (.iconst 0, 1) := by decide +kernel
theorem dX4_readLiquid_11 : decode cX4_readLiquid 11 = .ok (.ireturn, 1) := by decide +kernel
theorem dX4_readLiquid_12 : decode cX4_readLiquid 12 = .ok (.aload_n 0, 1) := by decide +kernel
theorem dX4_readLiquid_13 : decode cX4_readLiquid 13 = .ok (.getfield 29, 3) := by decide +kernel
theorem dX4_readLiquid_16 : decode cX4_readLiquid 16 = .ok (.getfield 142, 3) := by decide +kernel
theorem dX4_readLiquid_19 : decode cX4_readLiquid 19 = .ok (.aload_n 0, 1) := by decide +kernel
theorem dX4_readLiquid_20 : decode cX4_readLiquid 20 = .ok (.getfield 29, 3) := by decide +kernel
theorem dX4_readLiquid_23 : decode cX4_readLiquid 23 = .ok (.getfield 145, 3) := by decide +kernel
theorem dX4_readLiquid_26 : decode cX4_readLiquid 26 = .ok (.aload_n 0, 1) := by decide +kernel
theorem dX4_readLiquid_27 : decode cX4_readLiquid 27 = .ok (.getfield 92, 3) := by decide +kernel
theorem dX4_readLiquid_30 : decode cX4_readLiquid 30 = .ok (.iastore, 1) := by decide +kernel
theorem dX4_readLiquid_31 : decode cX4_readLiquid 31 = .ok (.aload_n 0, 1) := by decide +kernel
theorem dX4_readLiquid_32 : decode cX4_readLiquid 32 = .ok (.getfield 29, 3) := by decide +kernel
theorem dX4_readLiquid_35 : decode cX4_readLiquid 35 = .ok (.dup, 1) := by decide +kernel
theorem dX4_readLiquid_36 : decode cX4_readLiquid 36 = .ok (.getfield 145, 3) := by decide +kernel
theorem dX4_readLiquid_39 : decode cX4_readLiquid 39 = .ok (.iconst 1, 1) := by decide +kernel
theorem dX4_readLiquid_40 : decode cX4_readLiquid 40 = .ok (.iadd, 1) := by decide +kernel
theorem dX4_readLiquid_41 : decode cX4_readLiquid 41 = .ok (.putfield 145, 3) := by decide +kernel
theorem dX4_readLiquid_44 : decode cX4_readLiquid 44 = .ok (.iconst 1, 1) := by decide +kernel
theorem dX4_readLiquid_45 : decode cX4_readLiquid 45 = .ok (.ireturn, 1) := by decide +kernel
set_option maxRecDepth 20000 in
theorem ggX4_readBar_X4_readNumber : GoodIn wsX4_readBar wsX4_readNumber := goodIn_r _ [8, 9, 3, 10, 11, 12, 7, 13, 14, 15, 16, 17, 18, 19, 20, 21, 22, 23, 24, 25, 26, 27, 28, 29, 30, 31, 32, 33, 40, 41, 42, 43, 44, 45, 46, 47, 48, 49, 50] (by decide +kernel) (by decide +kernel)
set_option maxRecDepth 20000 in
theorem gX4_readBar_X4_readNumber : GoodIn wsX4_readBar (wsV RX4 88 RX4 yX4_readNumber wsX4_readNumber) := goodIn_app (goodIn_of _ (by decide +kernel)) ggX4_readBar_X4_readNumber
set_option maxRecDepth 20000 in
theorem ggX4_readBar_X6_bar : GoodIn wsX4_readBar wsX6_bar := goodIn_r _ [38, 39, 51, 52, 53, 54, 55, 56, 57, 58, 59, 60, 61, 62] (by decide +kernel) (by decide +kernel)
set_option maxRecDepth 20000 in
theorem gX4_readBar_X6_bar : GoodIn wsX4_readBar (wsV RX4 148 RX6 yX6_bar wsX6_bar) := goodIn_app (goodIn_of _ (by decide +kernel)) ggX4_readBar_X6_bar
theorem dX4_readBar_0 : decode cX4_readBar 0 = .ok (.aload_n 0, 1) := by decide +kernel
theorem dX4_readBar_1 : decode cX4_readBar 1 = .ok (.iconst 0, 1) := by decide +kernel
theorem dX4_readBar_2 : decode cX4_readBar 2 = .ok (.aload_n 0, 1) := by decide +kernel
theorem dX4_readBar_3 : decode cX4_readBar 3 = .ok (.getfield 29, 3) := by decide +kernel
theorem dX4_readBar_6 : decode cX4_readBar 6 = .ok (.getfield 145, 3) := by decide +kernel
theorem dX4_readBar_9 : decode cX4_readBar 9 = .ok (.iconst 1, 1) := by decide +kernel
theorem dX4_readBar_10 : decode cX4_readBar 10 = .ok (.isub, 1) := by decide +kernel
theorem dX4_readBar_11 : decode cX4_readBar 11 = .ok (.invokevirtual 88, 3) := by decide +kernel
theorem dX4_readBar_14 : decode cX4_readBar 14 = .ok (.ifCond .ne 5, 3) := by decide +kernel
theorem dX4_readBar_17 : decode cX4_readBar 17 = .ok (.iconst 0, 1) := by decide +kernel
theorem dX4_readBar_18 : decode cX4_readBar 18 = .ok (.ireturn, 1) := by decide +kernel
theorem dX4_readBar_19 : decode cX4_readBar 19 = .ok (.aload_n 0, 1) := by decide +kernel
theorem dX4_readBar_20 : decode cX4_readBar 20 = .ok (.getfield 92, 3) := by decide +kernel
theorem dX4_readBar_23 : decode cX4_readBar 23 = .ok (.istore_n 1, 1) := by decide +kernel
theorem dX4_readBar_24 : decode cX4_readBar 24 = .ok (.aload_n 0, 1) := by decide +kernel
theorem dX4_readBar_25 : decode cX4_readBar 25 = .ok (.iconst 0, 1) := by decide +kernel
theorem dX4_readBar_26 : decode cX4_readBar 26 = .ok (.aload_n 0, 1) := by decide +kernel
theorem dX4_readBar_27 : decode cX4_readBar 27 = .ok (.getfield 29, 3) := by decide +kernel
theorem dX4_readBar_30 : decode cX4_readBar 30 = .ok (.getfield 145, 3) := by decide +kernel
theorem dX4_readBar_33 : decode cX4_readBar 33 = .ok (.iconst 1, 1) := by decide +kernel
theorem dX4_readBar_34 : decode cX4_readBar 34 = .ok (.isub, 1) := by decide +kernel
theorem dX4_readBar_35 : decode cX4_readBar 35 = .ok (.invokevirtual 88, 3) := by decide +kernel
theorem dX4_readBar_38 : decode cX4_readBar 38 = .ok (.ifCond .ne 5, 3) := by decide +kernel
theorem dX4_readBar_41 : decode cX4_readBar 41 = .ok (.iconst 0, 1) := by decide +kernel
theorem dX4_readBar_42 : decode cX4_readBar 42 = .ok (.ireturn, 1) := by decide +kernel
theorem dX4_readBar_43 : decode cX4_readBar 43 = .ok (.aload_n 0, 1) := by decide +kernel
theorem dX4_readBar_44 : decode cX4_readBar 44 = .ok (.getfield 29, 3) := by decide +kernel
theorem dX4_readBar_47 : decode cX4_readBar 47 = .ok (.iload_n 1, 1) := by decide +kernel
theorem dX4_readBar_48 : decode cX4_readBar 48 = .ok (.aload_n 0, 1) := by decide +kernel
theorem dX4_readBar_49 : decode cX4_readBar 49 = .ok (.getfield 92, 3) := by decide +kernel
theorem dX4_readBar_52 : decode cX4_readBar 52 = .ok (.invokevirtual 148, 3) := by decide +kernel
theorem dX4_readBar_55 : decode cX4_readBar 55 = .ok (.iconst 1, 1) := by decide +kernel
theorem dX4_readBar_56 : decode cX4_readBar 56 = .ok (.ireturn, 1) := by decide +kernel
set_option maxRecDepth 20000 in
theorem ggX4_readLast_X4_readNumber : GoodIn wsX4_readLast wsX4_readNumber := goodIn_r _ [10, 11, 3, 12, 13, 14, 9, 15, 16, 17, 18, 19, 20, 21, 22, 23, 24, 25, 26, 27, 28, 29, 30, 31, 32, 33, 34, 35, 36, 37, 38, 39, 40, 41, 42, 43, 44, 45, 46] (by decide +kernel) (by decide +kernel)
set_option maxRecDepth 20000 in
theorem gX4_readLast_X4_readNumber : GoodIn wsX4_readLast (wsV RX4 88 RX4 yX4_readNumber wsX4_readNumber) := goodIn_app (goodIn_of _ (by decide +kernel)) ggX4_readLast_X4_readNumber
theorem dX4_readLast_0 : decode cX4_readLast 0 = .ok (.aload_n 0, 1) := by decide +kernel
theorem dX4_readLast_1 : decode cX4_readLast 1 = .ok (.iconst 0, 1) := by decide +kernel
theorem dX4_readLast_2 : decode cX4_readLast 2 = .ok (.aload_n 0, 1) := by decide +kernel
theorem dX4_readLast_3 : decode cX4_readLast 3 = .ok (.getfield 29, 3) := by decide +kernel
theorem dX4_readLast_6 : decode cX4_readLast 6 = .ok (.getfield 130, 3) := by decide +kernel
theorem dX4_readLast_9 : decode cX4_readLast 9 = .ok (.iconst 1, 1) := by decide +kernel
theorem dX4_readLast_10 : decode cX4_readLast 10 = .ok (.isub, 1) := by decide +kernel
theorem dX4_readLast_11 : decode cX4_readLast 11 = .ok (.invokevirtual 88, 3) := by decide +kernel
theorem dX4_readLast_14 : decode cX4_readLast 14 = .ok (.ifCond .ne 5, 3) := by decide +kernel
theorem dX4_readLast_17 : decode cX4_readLast 17 = .ok (.iconst 0, 1) := by decide +kernel
theorem dX4_readLast_18 : decode cX4_readLast 18 = .ok (.ireturn, 1) := by decide +kernel
theorem dX4_readLast_19 : decode cX4_readLast 19 = .ok (.aload_n 0, 1) := by decide +kernel
theorem dX4_readLast_20 : decode cX4_readLast 20 = .ok (.getfield 92, 3) := by decide +kernel
theorem dX4_readLast_23 : decode cX4_readLast 23 = .ok (.istore_n 1, 1) := by decide +kernel
theorem dX4_readLast_24 : decode cX4_readLast 24 = .ok (.aload_n 0, 1) := by decide +kernel
theorem dX4_readLast_25 : decode cX4_readLast 25 = .ok (.iconst 0, 1) := by decide +kernel
theorem dX4_readLast_26 : decode cX4_readLast 26 = .ok (.aload_n 0, 1) := by decide +kernel
theorem dX4_readLast_27 : decode cX4_readLast 27 = .ok (.getfield 29, 3) := by decide +kernel
theorem dX4_readLast_30 : decode cX4_readLast 30 = .ok (.getfield 145, 3) := by decide +kernel
theorem dX4_readLast_33 : decode cX4_readLast 33 = .ok (.iconst 1, 1) := by decide +kernel
theorem dX4_readLast_34 : decode cX4_readLast 34 = .ok (.isub, 1) := by decide +kernel
theorem dX4_readLast_35 : decode cX4_readLast 35 = .ok (.invokevirtual 88, 3) := by decide +kernel
theorem dX4_readLast_38 : decode cX4_readLast 38 = .ok (.ifCond .ne 5, 3) := by decide +kernel
theorem dX4_readLast_41 : decode cX4_readLast 41 = .ok (.iconst 0, 1) := by decide +kernel
theorem dX4_readLast_42 : decode cX4_readLast 42 = .ok (.ireturn, 1) := by decide +kernel
theorem dX4_readLast_43 : decode cX4_readLast 43 = .ok (.aload_n 0, 1) := by decide +kernel
theorem dX4_readLast_44 : decode cX4_readLast 44 = .ok (.getfield 29, 3) := by decide +kernel
theorem dX4_readLast_47 : decode cX4_readLast 47 = .ok (.getfield 151, 3) := by decide +kernel
theorem dX4_readLast_50 : decode cX4_readLast 50 = .ok (.iload_n 1, 1) := by decide +kernel
theorem dX4_readLast_51 : decode cX4_readLast 51 = .ok (.aload_n 0, 1) := by decide +kernel
theorem dX4_readLast_52 : decode cX4_readLast 52 = .ok (.getfield 92, 3) := by decide +kernel
theorem dX4_readLast_55 : decode cX4_readLast 55 = .ok (.iastore, 1) := by decide +kernel
theorem dX4_readLast_56 : decode cX4_readLast 56 = .ok (.iconst 1, 1) := by decide +kernel
theorem dX4_readLast_57 : decode cX4_readLast 57 = .ok (.ireturn, 1) := by decide +kernel
set_option maxRecDepth 20000 in
theorem ggX4_readDrop_X4_readNumber : GoodIn wsX4_readDrop wsX4_readNumber := goodIn_r _ [11, 12, 5, 13, 14, 15, 10, 16, 17, 18, 19, 20, 21, 22, 23, 24, 25, 26, 27, 28, 29, 30, 31, 32, 33, 34, 35, 36, 37, 38, 39, 40, 41, 42, 43, 44, 45, 46, 47] (by decide +kernel) (by decide +kernel)
set_option maxRecDepth 20000 in
theorem gX4_readDrop_X4_readNumber : GoodIn wsX4_readDrop (wsV RX4 88 RX4 yX4_readNumber wsX4_readNumber) := goodIn_app (goodIn_of _ (by decide +kernel)) ggX4_readDrop_X4_readNumber
theorem dX4_readDrop_0 : decode cX4_readDrop 0 = .ok (.aload_n 0, 1) := by decide +kernel
theorem dX4_readDrop_1 : decode cX4_readDrop 1 = .ok (.iconst 0, 1) := by decide +kernel
theorem dX4_readDrop_2 : decode cX4_readDrop 2 = .ok (.aload_n 0, 1) := by decide +kernel
theorem dX4_readDrop_3 : decode cX4_readDrop 3 = .ok (.getfield 29, 3) := by decide +kernel
theorem dX4_readDrop_6 : decode cX4_readDrop 6 = .ok (.getfield 145, 3) := by decide +kernel
theorem dX4_readDrop_9 : decode cX4_readDrop 9 = .ok (.iconst 1, 1) := by decide +kernel
theorem dX4_readDrop_10 : decode cX4_readDrop 10 = .ok (.isub, 1) := by decide +kernel
theorem dX4_readDrop_11 : decode cX4_readDrop 11 = .ok (.invokevirtual 88, 3) := by decide +kernel
theorem dX4_readDrop_14 : decode cX4_readDrop 14 = .ok (.ifCond .ne 5, 3) := by decide +kernel
theorem dX4_readDrop_17 : decode cX4_readDrop 17 = .ok (.iconst 0, 1) := by decide +kernel
theorem dX4_readDrop_18 : decode cX4_readDrop 18 = .ok (.ireturn, 1) := by decide +kernel
theorem dX4_readDrop_19 : decode cX4_readDrop 19 = .ok (.aload_n 0, 1) := by decide +kernel
theorem dX4_readDrop_20 : decode cX4_readDrop 20 = .ok (.getfield 29, 3) := by decide +kernel
theorem dX4_readDrop_23 : decode cX4_readDrop 23 = .ok (.getfield 153, 3) := by decide +kernel
theorem dX4_readDrop_26 : decode cX4_readDrop 26 = .ok (.aload_n 0, 1) := by decide +kernel
theorem dX4_readDrop_27 : decode cX4_readDrop 27 = .ok (.getfield 29, 3) := by decide +kernel
theorem dX4_readDrop_30 : decode cX4_readDrop 30 = .ok (.getfield 156, 3) := by decide +kernel
theorem dX4_readDrop_33 : decode cX4_readDrop 33 = .ok (.aload_n 0, 1) := by decide +kernel
theorem dX4_readDrop_34 : decode cX4_readDrop 34 = .ok (.getfield 92, 3) := by decide +kernel
theorem dX4_readDrop_37 : decode cX4_readDrop 37 = .ok (.iastore, 1) := by decide +kernel
theorem dX4_readDrop_38 : decode cX4_readDrop 38 = .ok (.aload_n 0, 1) := by decide +kernel
theorem dX4_readDrop_39 : decode cX4_readDrop 39 = .ok (.iconst 1, 1) := by decide +kernel
theorem dX4_readDrop_40 : decode cX4_readDrop 40 = .ok (.sipush 4995, 3) := by decide +kernel
theorem dX4_readDrop_43 : decode cX4_readDrop 43 = .ok (.invokevirtual 88, 3) := by decide +kernel
theorem dX4_readDrop_46 : decode cX4_readDrop 46 = .ok (.ifCond .ne 5, 3) := by decide +kernel
theorem dX4_readDrop_49 : decode cX4_readDrop 49 = .ok (.iconst 0, 1) := by decide +kernel
theorem dX4_readDrop_50 : decode cX4_readDrop 50 = .ok (.ireturn, 1) := by decide +kernel
theorem dX4_readDrop_51 : decode cX4_readDrop 51 = .ok (.aload_n 0, 1) := by decide +kernel
theorem dX4_readDrop_52 : decode cX4_readDrop 52 = .ok (.getfield 29, 3) := by decide +kernel
theorem dX4_readDrop_55 : decode cX4_readDrop 55 = .ok (.getfield 159, 3) := by decide +kernel
theorem dX4_readDrop_58 : decode cX4_readDrop 58 = .ok (.aload_n 0, 1) := by decide +kernel
theorem dX4_readDrop_59 : decode cX4_readDrop 59 = .ok (.getfield 29, 3) := by decide +kernel
theorem dX4_readDrop_62 : decode cX4_readDrop 62 = .ok (.getfield 156, 3) := by decide +kernel
theorem dX4_readDrop_65 : decode cX4_readDrop 65 = .ok (.aload_n 0, 1) := by decide +kernel
theorem dX4_readDrop_66 : decode cX4_readDrop 66 = .ok (.getfield 92, 3) := by decide +kernel
theorem dX4_readDrop_69 : decode cX4_readDrop 69 = .ok (.iastore, 1) := by decide +kernel
theorem dX4_readDrop_70 : decode cX4_readDrop 70 = .ok (.aload_n 0, 1) := by decide +kernel
theorem dX4_readDrop_71 : decode cX4_readDrop 71 = .ok (.getfield 29, 3) := by decide +kernel
theorem dX4_readDrop_74 : decode cX4_readDrop 74 = .ok (.dup, 1) := by decide +kernel
theorem dX4_readDrop_75 : decode cX4_readDrop 75 = .ok (.getfield 156, 3) := by decide +kernel
theorem dX4_readDrop_78 : decode cX4_readDrop 78 = .ok (.iconst 1, 1) := by decide +kernel
theorem dX4_readDrop_79 : decode cX4_readDrop 79 = .ok (.iadd, 1) := by decide +kernel
theorem dX4_readDrop_80 : decode cX4_readDrop 80 = .ok (.putfield 156, 3) := by decide +kernel
theorem dX4_readDrop_83 : decode cX4_readDrop 83 = .ok (.iconst 1, 1) := by decide +kernel
theorem dX4_readDrop_84 : decode cX4_readDrop 84 = .ok (.ireturn, 1) := by decide +kernel
set_option maxRecDepth 20000 in
theorem ggX4_readNumber_X4_advance : GoodIn wsX4_readNumber wsX4_advance := goodIn_r _ [7, 8, 9, 10, 11, 1, 12, 13, 14, 6, 15, 2, 16, 17, 18, 19, 20, 21, 28, 29, 30, 31, 32, 33, 34, 35, 36, 37, 38] (by decide +kernel) (by decide +kernel)
set_option maxRecDepth 20000 in
theorem gX4_readNumber_X4_advance : GoodIn wsX4_readNumber (wsV RX4 44 RX4 yX4_advance wsX4_advance) := goodIn_app (goodIn_of _ (by decide +kernel)) ggX4_readNumber_X4_advance
set_option maxRecDepth 20000 in
theorem ggX4_readNumber_X4_refuse : GoodIn wsX4_readNumber wsX4_refuse := goodIn_r _ [25, 26, 11, 27, 28, 29, 30, 31, 32, 33, 34, 35, 36, 37, 38] (by decide +kernel) (by decide +kernel)
set_option maxRecDepth 20000 in
theorem gX4_readNumber_X4_refuse : GoodIn wsX4_readNumber (wsV RX4 60 RX4 yX4_refuse wsX4_refuse) := goodIn_app (goodIn_of _ (by decide +kernel)) ggX4_readNumber_X4_refuse
theorem dX4_readNumber_0 : decode cX4_readNumber 0 = .ok (.aload_n 0, 1) := by decide +kernel
theorem dX4_readNumber_1 : decode cX4_readNumber 1 = .ok (.invokevirtual 44, 3) := by decide +kernel
theorem dX4_readNumber_4 : decode cX4_readNumber 4 = .ok (.aload_n 0, 1) := by decide +kernel
theorem dX4_readNumber_5 : decode cX4_readNumber 5 = .ok (.getfield 47, 3) := by decide +kernel
theorem dX4_readNumber_8 : decode cX4_readNumber 8 = .ok (.iconst 2, 1) := by decide +kernel
theorem dX4_readNumber_9 : decode cX4_readNumber 9 = .ok (.if_icmp .eq 9, 3) := by decide +kernel
theorem dX4_readNumber_12 : decode cX4_readNumber 12 = .ok (.aload_n 0, 1) := by decide +kernel
theorem dX4_readNumber_13 : decode cX4_readNumber 13 = .ok (.iconst 1, 1) := by decide +kernel
theorem dX4_readNumber_14 : decode cX4_readNumber 14 = .ok (.invokevirtual 60, 3) := by decide +kernel
theorem dX4_readNumber_17 : decode cX4_readNumber 17 = .ok (.ireturn, 1) := by decide +kernel
theorem dX4_readNumber_18 : decode cX4_readNumber 18 = .ok (.aload_n 0, 1) := by decide +kernel
theorem dX4_readNumber_19 : decode cX4_readNumber 19 = .ok (.getfield 92, 3) := by decide +kernel
theorem dX4_readNumber_22 : decode cX4_readNumber 22 = .ok (.iload_n 1, 1) := by decide +kernel
theorem dX4_readNumber_23 : decode cX4_readNumber 23 = .ok (.if_icmp .lt 11, 3) := by decide +kernel
theorem dX4_readNumber_26 : decode cX4_readNumber 26 = .ok (.aload_n 0, 1) := by decide +kernel
theorem dX4_readNumber_27 : decode cX4_readNumber 27 = .ok (.getfield 92, 3) := by decide +kernel
theorem dX4_readNumber_30 : decode cX4_readNumber 30 = .ok (.iload_n 2, 1) := by decide +kernel
theorem dX4_readNumber_31 : decode cX4_readNumber 31 = .ok (.if_icmp .le 11, 3) := by decide +kernel
theorem dX4_readNumber_34 : decode cX4_readNumber 34 = .ok (.aload_n 0, 1) := by decide +kernel
theorem dX4_readNumber_35 : decode cX4_readNumber 35 = .ok (.iconst 2, 1) := by decide +kernel
theorem dX4_readNumber_36 : decode cX4_readNumber 36 = .ok (.invokevirtual 60, 3) := by decide +kernel
theorem dX4_readNumber_39 : decode cX4_readNumber 39 = .ok (.ifCond .eq 7, 3) := by decide +kernel
theorem dX4_readNumber_42 : decode cX4_readNumber 42 = .ok (.iconst 1, 1) := by decide +kernel
theorem dX4_readNumber_43 : decode cX4_readNumber 43 = .ok (.goto 4, 3) := by decide +kernel
theorem dX4_readNumber_46 : decode cX4_readNumber 46 = .ok (.iconst 0, 1) := by decide +kernel
theorem dX4_readNumber_47 : decode cX4_readNumber 47 = .ok (.ireturn, 1) := by decide +kernel
set_option maxRecDepth 20000 in
theorem ggX4_isWord_J0_length_8abf5 : GoodIn wsX4_isWord wsJ0_length_8abf5 := goodIn_r _ [9, 10, 11, 12, 13, 8, 14, 15, 16] (by decide +kernel) (by decide +kernel)
set_option maxRecDepth 20000 in
theorem gX4_isWord_J0_length_8abf5 : GoodIn wsX4_isWord (wsV RX4 162 RJ0 yJ0_length_8abf5 wsJ0_length_8abf5) := goodIn_app (goodIn_of _ (by decide +kernel)) ggX4_isWord_J0_length_8abf5
set_option maxRecDepth 20000 in
theorem ggX4_isWord_J0_charAt_5068e : GoodIn wsX4_isWord wsJ0_charAt_5068e := goodIn_r _ [20, 10, 21, 22, 23, 8, 24, 15, 16, 25, 26, 27, 28, 29, 30, 31, 32, 33, 34, 35, 36, 37, 38, 39, 40, 41, 42, 43, 44, 45, 46, 47, 48, 49, 50, 51, 52, 53] (by decide +kernel) (by decide +kernel)
set_option maxRecDepth 20000 in
theorem gX4_isWord_J0_charAt_5068e : GoodIn wsX4_isWord (wsV RX4 167 RJ0 yJ0_charAt_5068e wsJ0_charAt_5068e) := goodIn_app (goodIn_of _ (by decide +kernel)) ggX4_isWord_J0_charAt_5068e
theorem dX4_isWord_0 : decode cX4_isWord 0 = .ok (.aload_n 0, 1) := by decide +kernel
theorem dX4_isWord_1 : decode cX4_isWord 1 = .ok (.getfield 47, 3) := by decide +kernel
theorem dX4_isWord_4 : decode cX4_isWord 4 = .ok (.iconst 1, 1) := by decide +kernel
theorem dX4_isWord_5 : decode cX4_isWord 5 = .ok (.if_icmp .ne 19, 3) := by decide +kernel
theorem dX4_isWord_8 : decode cX4_isWord 8 = .ok (.aload_n 0, 1) := by decide +kernel
theorem dX4_isWord_9 : decode cX4_isWord 9 = .ok (.getfield 23, 3) := by decide +kernel
theorem dX4_isWord_12 : decode cX4_isWord 12 = .ok (.aload_n 0, 1) := by decide +kernel
theorem dX4_isWord_13 : decode cX4_isWord 13 = .ok (.getfield 67, 3) := by decide +kernel
theorem dX4_isWord_16 : decode cX4_isWord 16 = .ok (.isub, 1) := by decide +kernel
theorem dX4_isWord_17 : decode cX4_isWord 17 = .ok (.aload_n 1, 1) := by decide +kernel
theorem dX4_isWord_18 : decode cX4_isWord 18 = .ok (.invokevirtual 162, 3) := by decide +kernel
theorem dX4_isWord_21 : decode cX4_isWord 21 = .ok (.if_icmp .eq 5, 3) := by decide +kernel
theorem dX4_isWord_24 : decode cX4_isWord 24 = .ok (.iconst 0, 1) := by decide +kernel
theorem dX4_isWord_25 : decode cX4_isWord 25 = .ok (.ireturn, 1) := by decide +kernel
theorem dX4_isWord_26 : decode cX4_isWord 26 = .ok (.iconst 0, 1) := by decide +kernel
theorem dX4_isWord_27 : decode cX4_isWord 27 = .ok (.istore_n 2, 1) := by decide +kernel
theorem dX4_isWord_28 : decode cX4_isWord 28 = .ok (.iload_n 2, 1) := by decide +kernel
theorem dX4_isWord_29 : decode cX4_isWord 29 = .ok (.aload_n 1, 1) := by decide +kernel
theorem dX4_isWord_30 : decode cX4_isWord 30 = .ok (.invokevirtual 162, 3) := by decide +kernel
theorem dX4_isWord_33 : decode cX4_isWord 33 = .ok (.if_icmp .ge 30, 3) := by decide +kernel
theorem dX4_isWord_36 : decode cX4_isWord 36 = .ok (.aload_n 0, 1) := by decide +kernel
theorem dX4_isWord_37 : decode cX4_isWord 37 = .ok (.getfield 15, 3) := by decide +kernel
theorem dX4_isWord_40 : decode cX4_isWord 40 = .ok (.aload_n 0, 1) := by decide +kernel
theorem dX4_isWord_41 : decode cX4_isWord 41 = .ok (.getfield 67, 3) := by decide +kernel
theorem dX4_isWord_44 : decode cX4_isWord 44 = .ok (.iload_n 2, 1) := by decide +kernel
theorem dX4_isWord_45 : decode cX4_isWord 45 = .ok (.iadd, 1) := by decide +kernel
theorem dX4_isWord_46 : decode cX4_isWord 46 = .ok (.baload, 1) := by decide +kernel
theorem dX4_isWord_47 : decode cX4_isWord 47 = .ok (.aload_n 1, 1) := by decide +kernel
theorem dX4_isWord_48 : decode cX4_isWord 48 = .ok (.iload_n 2, 1) := by decide +kernel
theorem dX4_isWord_49 : decode cX4_isWord 49 = .ok (.invokevirtual 167, 3) := by decide +kernel
theorem dX4_isWord_52 : decode cX4_isWord 52 = .ok (.if_icmp .eq 5, 3) := by decide +kernel
theorem dX4_isWord_55 : decode cX4_isWord 55 = .ok (.iconst 0, 1) := by decide +kernel
theorem dX4_isWord_56 : decode cX4_isWord 56 = .ok (.ireturn, 1) := by decide +kernel
theorem dX4_isWord_57 : decode cX4_isWord 57 = .ok (.iinc 2 1, 3) := by decide +kernel
theorem dX4_isWord_60 : decode cX4_isWord 60 = .ok (.goto (-32), 3) := by decide +kernel
theorem dX4_isWord_63 : decode cX4_isWord 63 = .ok (.iconst 1, 1) := by decide +kernel
theorem dX4_isWord_64 : decode cX4_isWord 64 = .ok (.ireturn, 1) := by decide +kernel
set_option maxRecDepth 20000 in
theorem ggX4_advance_X4_advanceRun : GoodIn wsX4_advance wsX4_advanceRun := goodIn_r _ [10, 11, 1, 2, 3, 4, 5, 12, 13, 9, 14, 15, 16, 17, 18, 19, 20, 21, 22, 23, 24, 25, 26, 27, 28] (by decide +kernel) (by decide +kernel)
set_option maxRecDepth 20000 in
theorem gX4_advance_X4_advanceRun : GoodIn wsX4_advance (wsV RX4 171 RX4 yX4_advanceRun wsX4_advanceRun) := goodIn_app (goodIn_of _ (by decide +kernel)) ggX4_advance_X4_advanceRun
theorem dX4_advance_0 : decode cX4_advance 0 = .ok (.aload_n 0, 1) := by decide +kernel
theorem dX4_advance_1 : decode cX4_advance 1 = .ok (.getfield 23, 3) := by decide +kernel
theorem dX4_advance_4 : decode cX4_advance 4 = .ok (.aload_n 0, 1) := by decide +kernel
theorem dX4_advance_5 : decode cX4_advance 5 = .ok (.getfield 19, 3) := by decide +kernel
theorem dX4_advance_8 : decode cX4_advance 8 = .ok (.if_icmp .ge 44, 3) := by decide +kernel
theorem dX4_advance_11 : decode cX4_advance 11 = .ok (.aload_n 0, 1) := by decide +kernel
theorem dX4_advance_12 : decode cX4_advance 12 = .ok (.getfield 15, 3) := by decide +kernel
theorem dX4_advance_15 : decode cX4_advance 15 = .ok (.aload_n 0, 1) := by decide +kernel
theorem dX4_advance_16 : decode cX4_advance 16 = .ok (.getfield 23, 3) := by decide +kernel
theorem dX4_advance_19 : decode cX4_advance 19 = .ok (.baload, 1) := by decide +kernel
theorem dX4_advance_20 : decode cX4_advance 20 = .ok (.bipush 32, 2) := by decide +kernel
theorem dX4_advance_22 : decode cX4_advance 22 = .ok (.if_icmp .eq 17, 3) := by decide +kernel
theorem dX4_advance_25 : decode cX4_advance 25 = .ok (.aload_n 0, 1) := by decide +kernel
theorem dX4_advance_26 : decode cX4_advance 26 = .ok (.getfield 15, 3) := by decide +kernel
theorem dX4_advance_29 : decode cX4_advance 29 = .ok (.aload_n 0, 1) := by decide +kernel
theorem dX4_advance_30 : decode cX4_advance 30 = .ok (.getfield 23, 3) := by decide +kernel
theorem dX4_advance_33 : decode cX4_advance 33 = .ok (.baload, 1) := by decide +kernel
theorem dX4_advance_34 : decode cX4_advance 34 = .ok (.bipush 10, 2) := by decide +kernel
theorem dX4_advance_36 : decode cX4_advance 36 = .ok (.if_icmp .ne 16, 3) := by decide +kernel
theorem dX4_advance_39 : decode cX4_advance 39 = .ok (.aload_n 0, 1) := by decide +kernel
theorem dX4_advance_40 : decode cX4_advance 40 = .ok (.dup, 1) := by decide +kernel
theorem dX4_advance_41 : decode cX4_advance 41 = .ok (.getfield 23, 3) := by decide +kernel
theorem dX4_advance_44 : decode cX4_advance 44 = .ok (.iconst 1, 1) := by decide +kernel
theorem dX4_advance_45 : decode cX4_advance 45 = .ok (.iadd, 1) := by decide +kernel
theorem dX4_advance_46 : decode cX4_advance 46 = .ok (.putfield 23, 3) := by decide +kernel
theorem dX4_advance_49 : decode cX4_advance 49 = .ok (.goto (-49), 3) := by decide +kernel
theorem dX4_advance_52 : decode cX4_advance 52 = .ok (.aload_n 0, 1) := by decide +kernel
theorem dX4_advance_53 : decode cX4_advance 53 = .ok (.aload_n 0, 1) := by decide +kernel
theorem dX4_advance_54 : decode cX4_advance 54 = .ok (.getfield 23, 3) := by decide +kernel
theorem dX4_advance_57 : decode cX4_advance 57 = .ok (.putfield 67, 3) := by decide +kernel
theorem dX4_advance_60 : decode cX4_advance 60 = .ok (.aload_n 0, 1) := by decide +kernel
theorem dX4_advance_61 : decode cX4_advance 61 = .ok (.getfield 19, 3) := by decide +kernel
theorem dX4_advance_64 : decode cX4_advance 64 = .ok (.sipush 700, 3) := by decide +kernel
theorem dX4_advance_67 : decode cX4_advance 67 = .ok (.if_icmp .le 28, 3) := by decide +kernel
theorem dX4_advance_70 : decode cX4_advance 70 = .ok (.aload_n 0, 1) := by decide +kernel
theorem dX4_advance_71 : decode cX4_advance 71 = .ok (.getfield 23, 3) := by decide +kernel
theorem dX4_advance_74 : decode cX4_advance 74 = .ok (.sipush 700, 3) := by decide +kernel
theorem dX4_advance_77 : decode cX4_advance 77 = .ok (.if_icmp .lt 18, 3) := by decide +kernel
theorem dX4_advance_80 : decode cX4_advance 80 = .ok (.aload_n 0, 1) := by decide +kernel
theorem dX4_advance_81 : decode cX4_advance 81 = .ok (.sipush 700, 3) := by decide +kernel
theorem dX4_advance_84 : decode cX4_advance 84 = .ok (.putfield 67, 3) := by decide +kernel
theorem dX4_advance_87 : decode cX4_advance 87 = .ok (.aload_n 0, 1) := by decide +kernel
theorem dX4_advance_88 : decode cX4_advance 88 = .ok (.iconst 0, 1) := by decide +kernel
theorem dX4_advance_89 : decode cX4_advance 89 = .ok (.putfield 47, 3) := by decide +kernel
theorem dX4_advance_92 : decode cX4_advance 92 = .ok (.goto 58, 3) := by decide +kernel
theorem dX4_advance_95 : decode cX4_advance 95 = .ok (.aload_n 0, 1) := by decide +kernel
theorem dX4_advance_96 : decode cX4_advance 96 = .ok (.getfield 23, 3) := by decide +kernel
theorem dX4_advance_99 : decode cX4_advance 99 = .ok (.aload_n 0, 1) := by decide +kernel
theorem dX4_advance_100 : decode cX4_advance 100 = .ok (.getfield 19, 3) := by decide +kernel
theorem dX4_advance_103 : decode cX4_advance 103 = .ok (.if_icmp .lt 11, 3) := by decide +kernel
theorem dX4_advance_106 : decode cX4_advance 106 = .ok (.aload_n 0, 1) := by decide +kernel
theorem dX4_advance_107 : decode cX4_advance 107 = .ok (.iconst 4, 1) := by decide +kernel
theorem dX4_advance_108 : decode cX4_advance 108 = .ok (.putfield 47, 3) := by decide +kernel
theorem dX4_advance_111 : decode cX4_advance 111 = .ok (.goto 39, 3) := by decide +kernel
theorem dX4_advance_114 : decode cX4_advance 114 = .ok (.aload_n 0, 1) := by decide +kernel
theorem dX4_advance_115 : decode cX4_advance 115 = .ok (.getfield 15, 3) := by decide +kernel
theorem dX4_advance_118 : decode cX4_advance 118 = .ok (.aload_n 0, 1) := by decide +kernel
theorem dX4_advance_119 : decode cX4_advance 119 = .ok (.getfield 23, 3) := by decide +kernel
theorem dX4_advance_122 : decode cX4_advance 122 = .ok (.baload, 1) := by decide +kernel
theorem dX4_advance_123 : decode cX4_advance 123 = .ok (.bipush 59, 2) := by decide +kernel
theorem dX4_advance_125 : decode cX4_advance 125 = .ok (.if_icmp .ne 21, 3) := by decide +kernel
theorem dX4_advance_128 : decode cX4_advance 128 = .ok (.aload_n 0, 1) := by decide +kernel
theorem dX4_advance_129 : decode cX4_advance 129 = .ok (.dup, 1) := by decide +kernel
theorem dX4_advance_130 : decode cX4_advance 130 = .ok (.getfield 23, 3) := by decide +kernel
theorem dX4_advance_133 : decode cX4_advance 133 = .ok (.iconst 1, 1) := by decide +kernel
theorem dX4_advance_134 : decode cX4_advance 134 = .ok (.iadd, 1) := by decide +kernel
theorem dX4_advance_135 : decode cX4_advance 135 = .ok (.putfield 23, 3) := by decide +kernel
theorem dX4_advance_138 : decode cX4_advance 138 = .ok (.aload_n 0, 1) := by decide +kernel
theorem dX4_advance_139 : decode cX4_advance 139 = .ok (.iconst 3, 1) := by decide +kernel
theorem dX4_advance_140 : decode cX4_advance 140 = .ok (.putfield 47, 3) := by decide +kernel
theorem dX4_advance_143 : decode cX4_advance 143 = .ok (.goto 7, 3) := by decide +kernel
theorem dX4_advance_146 : decode cX4_advance 146 = .ok (.aload_n 0, 1) := by decide +kernel
theorem dX4_advance_147 : decode cX4_advance 147 = .ok (.invokevirtual 171, 3) := by decide +kernel
theorem dX4_advance_150 : decode cX4_advance 150 = .ok (.return_, 1) := by decide +kernel
set_option maxRecDepth 20000 in
theorem ggX4_advanceRun_X4_isLetter : GoodIn wsX4_advanceRun wsX4_isLetter := goodIn_r _ [10] (by decide +kernel) (by decide +kernel)
set_option maxRecDepth 20000 in
theorem gX4_advanceRun_X4_isLetter : GoodIn wsX4_advanceRun (va_wsS RX4 174 yX4_isLetter wsX4_isLetter) := goodIn_app (goodIn_of _ (by decide +kernel)) ggX4_advanceRun_X4_isLetter
set_option maxRecDepth 20000 in
theorem ggX4_advanceRun_X4_isDigit : GoodIn wsX4_advanceRun wsX4_isDigit := goodIn_r _ [13] (by decide +kernel) (by decide +kernel)
set_option maxRecDepth 20000 in
theorem gX4_advanceRun_X4_isDigit : GoodIn wsX4_advanceRun (va_wsS RX4 177 yX4_isDigit wsX4_isDigit) := goodIn_app (goodIn_of _ (by decide +kernel)) ggX4_advanceRun_X4_isDigit
theorem dX4_advanceRun_0 : decode cX4_advanceRun 0 = .ok (.iconst 0, 1) := by decide +kernel
theorem dX4_advanceRun_1 : decode cX4_advanceRun 1 = .ok (.istore_n 1, 1) := by decide +kernel
theorem dX4_advanceRun_2 : decode cX4_advanceRun 2 = .ok (.aload_n 0, 1) := by decide +kernel
theorem dX4_advanceRun_3 : decode cX4_advanceRun 3 = .ok (.iconst 0, 1) := by decide +kernel
theorem dX4_advanceRun_4 : decode cX4_advanceRun 4 = .ok (.putfield 92, 3) := by decide +kernel
theorem dX4_advanceRun_7 : decode cX4_advanceRun 7 = .ok (.aload_n 0, 1) := by decide +kernel
theorem dX4_advanceRun_8 : decode cX4_advanceRun 8 = .ok (.getfield 23, 3) := by decide +kernel
theorem dX4_advanceRun_11 : decode cX4_advanceRun 11 = .ok (.aload_n 0, 1) := by decide +kernel
theorem dX4_advanceRun_12 : decode cX4_advanceRun 12 = .ok (.getfield 19, 3) := by decide +kernel
theorem dX4_advanceRun_15 : decode cX4_advanceRun 15 = .ok (.if_icmp .ge 100, 3) := by decide +kernel
theorem dX4_advanceRun_18 : decode cX4_advanceRun 18 = .ok (.aload_n 0, 1) := by decide +kernel
theorem dX4_advanceRun_19 : decode cX4_advanceRun 19 = .ok (.getfield 15, 3) := by decide +kernel
theorem dX4_advanceRun_22 : decode cX4_advanceRun 22 = .ok (.aload_n 0, 1) := by decide +kernel
theorem dX4_advanceRun_23 : decode cX4_advanceRun 23 = .ok (.getfield 23, 3) := by decide +kernel
theorem dX4_advanceRun_26 : decode cX4_advanceRun 26 = .ok (.baload, 1) := by decide +kernel
theorem dX4_advanceRun_27 : decode cX4_advanceRun 27 = .ok (.invokestatic 174, 3) := by decide +kernel
theorem dX4_advanceRun_30 : decode cX4_advanceRun 30 = .ok (.ifCond .ne 18, 3) := by decide +kernel
theorem dX4_advanceRun_33 : decode cX4_advanceRun 33 = .ok (.aload_n 0, 1) := by decide +kernel
theorem dX4_advanceRun_34 : decode cX4_advanceRun 34 = .ok (.getfield 15, 3) := by decide +kernel
theorem dX4_advanceRun_37 : decode cX4_advanceRun 37 = .ok (.aload_n 0, 1) := by decide +kernel
theorem dX4_advanceRun_38 : decode cX4_advanceRun 38 = .ok (.getfield 23, 3) := by decide +kernel
theorem dX4_advanceRun_41 : decode cX4_advanceRun 41 = .ok (.baload, 1) := by decide +kernel
theorem dX4_advanceRun_42 : decode cX4_advanceRun 42 = .ok (.invokestatic 177, 3) := by decide +kernel
theorem dX4_advanceRun_45 : decode cX4_advanceRun 45 = .ok (.ifCond .eq 70, 3) := by decide +kernel
theorem dX4_advanceRun_48 : decode cX4_advanceRun 48 = .ok (.aload_n 0, 1) := by decide +kernel
theorem dX4_advanceRun_49 : decode cX4_advanceRun 49 = .ok (.getfield 15, 3) := by decide +kernel
theorem dX4_advanceRun_52 : decode cX4_advanceRun 52 = .ok (.aload_n 0, 1) := by decide +kernel
theorem dX4_advanceRun_53 : decode cX4_advanceRun 53 = .ok (.getfield 23, 3) := by decide +kernel
theorem dX4_advanceRun_56 : decode cX4_advanceRun 56 = .ok (.baload, 1) := by decide +kernel
theorem dX4_advanceRun_57 : decode cX4_advanceRun 57 = .ok (.invokestatic 177, 3) := by decide +kernel
theorem dX4_advanceRun_60 : decode cX4_advanceRun 60 = .ok (.ifCond .eq 42, 3) := by decide +kernel
theorem dX4_advanceRun_63 : decode cX4_advanceRun 63 = .ok (.iinc 1 1, 3) := by decide +kernel
theorem dX4_advanceRun_66 : decode cX4_advanceRun 66 = .ok (.aload_n 0, 1) := by decide +kernel
theorem dX4_advanceRun_67 : decode cX4_advanceRun 67 = .ok (.iload_n 1, 1) := by decide +kernel
theorem dX4_advanceRun_68 : decode cX4_advanceRun 68 = .ok (.iconst 4, 1) := by decide +kernel
theorem dX4_advanceRun_69 : decode cX4_advanceRun 69 = .ok (.if_icmp .gt 26, 3) := by decide +kernel
theorem dX4_advanceRun_72 : decode cX4_advanceRun 72 = .ok (.aload_n 0, 1) := by decide +kernel
theorem dX4_advanceRun_73 : decode cX4_advanceRun 73 = .ok (.getfield 92, 3) := by decide +kernel
theorem dX4_advanceRun_76 : decode cX4_advanceRun 76 = .ok (.bipush 10, 2) := by decide +kernel
theorem dX4_advanceRun_78 : decode cX4_advanceRun 78 = .ok (.imul, 1) := by decide +kernel
theorem dX4_advanceRun_79 : decode cX4_advanceRun 79 = .ok (.aload_n 0, 1) := by decide +kernel
theorem dX4_advanceRun_80 : decode cX4_advanceRun 80 = .ok (.getfield 15, 3) := by decide +kernel
theorem dX4_advanceRun_83 : decode cX4_advanceRun 83 = .ok (.aload_n 0, 1) := by decide +kernel
theorem dX4_advanceRun_84 : decode cX4_advanceRun 84 = .ok (.getfield 23, 3) := by decide +kernel
theorem dX4_advanceRun_87 : decode cX4_advanceRun 87 = .ok (.baload, 1) := by decide +kernel
theorem dX4_advanceRun_88 : decode cX4_advanceRun 88 = .ok (.iadd, 1) := by decide +kernel
theorem dX4_advanceRun_89 : decode cX4_advanceRun 89 = .ok (.bipush 48, 2) := by decide +kernel
theorem dX4_advanceRun_91 : decode cX4_advanceRun 91 = .ok (.isub, 1) := by decide +kernel
theorem dX4_advanceRun_92 : decode cX4_advanceRun 92 = .ok (.goto 7, 3) := by decide +kernel
theorem dX4_advanceRun_95 : decode cX4_advanceRun 95 = .ok (.aload_n 0, 1) := by decide +kernel
theorem dX4_advanceRun_96 : decode cX4_advanceRun 96 = .ok (.getfield 92, 3) := by decide +kernel
theorem dX4_advanceRun_99 : decode cX4_advanceRun 99 = .ok (.putfield 92, 3) := by decide +kernel
theorem dX4_advanceRun_102 : decode cX4_advanceRun 102 = .ok (.aload_n 0, 1) := by decide +kernel
theorem dX4_advanceRun_103 : decode cX4_advanceRun 103 = .ok (.dup, 1) := by decide +kernel
theorem dX4_advanceRun_104 : decode cX4_advanceRun 104 = .ok (.getfield 23, 3) := by decide +kernel
theorem dX4_advanceRun_107 : decode cX4_advanceRun 107 = .ok (.iconst 1, 1) := by decide +kernel
theorem dX4_advanceRun_108 : decode cX4_advanceRun 108 = .ok (.iadd, 1) := by decide +kernel
theorem dX4_advanceRun_109 : decode cX4_advanceRun 109 = .ok (.putfield 23, 3) := by decide +kernel
theorem dX4_advanceRun_112 : decode cX4_advanceRun 112 = .ok (.goto (-105), 3) := by decide +kernel
theorem dX4_advanceRun_115 : decode cX4_advanceRun 115 = .ok (.aload_n 0, 1) := by decide +kernel
theorem dX4_advanceRun_116 : decode cX4_advanceRun 116 = .ok (.getfield 23, 3) := by decide +kernel
theorem dX4_advanceRun_119 : decode cX4_advanceRun 119 = .ok (.aload_n 0, 1) := by decide +kernel
theorem dX4_advanceRun_120 : decode cX4_advanceRun 120 = .ok (.getfield 67, 3) := by decide +kernel
theorem dX4_advanceRun_123 : decode cX4_advanceRun 123 = .ok (.isub, 1) := by decide +kernel
theorem dX4_advanceRun_124 : decode cX4_advanceRun 124 = .ok (.istore_n 2, 1) := by decide +kernel
theorem dX4_advanceRun_125 : decode cX4_advanceRun 125 = .ok (.iload_n 2, 1) := by decide +kernel
theorem dX4_advanceRun_126 : decode cX4_advanceRun 126 = .ok (.ifCond .le 15, 3) := by decide +kernel
theorem dX4_advanceRun_129 : decode cX4_advanceRun 129 = .ok (.iload_n 1, 1) := by decide +kernel
theorem dX4_advanceRun_130 : decode cX4_advanceRun 130 = .ok (.ifCond .ne 11, 3) := by decide +kernel
theorem dX4_advanceRun_133 : decode cX4_advanceRun 133 = .ok (.aload_n 0, 1) := by decide +kernel
theorem dX4_advanceRun_134 : decode cX4_advanceRun 134 = .ok (.iconst 1, 1) := by decide +kernel
theorem dX4_advanceRun_135 : decode cX4_advanceRun 135 = .ok (.putfield 47, 3) := by decide +kernel
theorem dX4_advanceRun_138 : decode cX4_advanceRun 138 = .ok (.goto 30, 3) := by decide +kernel
theorem dX4_advanceRun_141 : decode cX4_advanceRun 141 = .ok (.iload_n 2, 1) := by decide +kernel
theorem dX4_advanceRun_142 : decode cX4_advanceRun 142 = .ok (.ifCond .le 21, 3) := by decide +kernel
theorem dX4_advanceRun_145 : decode cX4_advanceRun 145 = .ok (.iload_n 2, 1) := by decide +kernel
theorem dX4_advanceRun_146 : decode cX4_advanceRun 146 = .ok (.iconst 4, 1) := by decide +kernel
theorem dX4_advanceRun_147 : decode cX4_advanceRun 147 = .ok (.if_icmp .gt 16, 3) := by decide +kernel
theorem dX4_advanceRun_150 : decode cX4_advanceRun 150 = .ok (.iload_n 1, 1) := by decide +kernel
theorem dX4_advanceRun_151 : decode cX4_advanceRun 151 = .ok (.iload_n 2, 1) := by decide +kernel
theorem dX4_advanceRun_152 : decode cX4_advanceRun 152 = .ok (.if_icmp .ne 11, 3) := by decide +kernel
theorem dX4_advanceRun_155 : decode cX4_advanceRun 155 = .ok (.aload_n 0, 1) := by decide +kernel
theorem dX4_advanceRun_156 : decode cX4_advanceRun 156 = .ok (.iconst 2, 1) := by decide +kernel
theorem dX4_advanceRun_157 : decode cX4_advanceRun 157 = .ok (.putfield 47, 3) := by decide +kernel
theorem dX4_advanceRun_160 : decode cX4_advanceRun 160 = .ok (.goto 8, 3) := by decide +kernel
theorem dX4_advanceRun_163 : decode cX4_advanceRun 163 = .ok (.aload_n 0, 1) := by decide +kernel
theorem dX4_advanceRun_164 : decode cX4_advanceRun 164 = .ok (.iconst 0, 1) := by decide +kernel
theorem dX4_advanceRun_165 : decode cX4_advanceRun 165 = .ok (.putfield 47, 3) := by decide +kernel
theorem dX4_advanceRun_168 : decode cX4_advanceRun 168 = .ok (.return_, 1) := by decide +kernel
theorem dX4_isLetter_0 : decode cX4_isLetter 0 = .ok (.iload_n 0, 1) := by decide +kernel
theorem dX4_isLetter_1 : decode cX4_isLetter 1 = .ok (.bipush 97, 2) := by decide +kernel
theorem dX4_isLetter_3 : decode cX4_isLetter 3 = .ok (.if_icmp .lt 13, 3) := by decide +kernel
theorem dX4_isLetter_6 : decode cX4_isLetter 6 = .ok (.iload_n 0, 1) := by decide +kernel
theorem dX4_isLetter_7 : decode cX4_isLetter 7 = .ok (.bipush 122, 2) := by decide +kernel
theorem dX4_isLetter_9 : decode cX4_isLetter 9 = .ok (.if_icmp .gt 7, 3) := by decide +kernel
theorem dX4_isLetter_12 : decode cX4_isLetter 12 = .ok (.iconst 1, 1) := by decide +kernel
theorem dX4_isLetter_13 : decode cX4_isLetter 13 = .ok (.goto 4, 3) := by decide +kernel
theorem dX4_isLetter_16 : decode cX4_isLetter 16 = .ok (.iconst 0, 1) := by decide +kernel
theorem dX4_isLetter_17 : decode cX4_isLetter 17 = .ok (.ireturn, 1) := by decide +kernel
theorem dX4_isDigit_0 : decode cX4_isDigit 0 = .ok (.iload_n 0, 1) := by decide +kernel
theorem dX4_isDigit_1 : decode cX4_isDigit 1 = .ok (.bipush 48, 2) := by decide +kernel
theorem dX4_isDigit_3 : decode cX4_isDigit 3 = .ok (.if_icmp .lt 13, 3) := by decide +kernel
theorem dX4_isDigit_6 : decode cX4_isDigit 6 = .ok (.iload_n 0, 1) := by decide +kernel
theorem dX4_isDigit_7 : decode cX4_isDigit 7 = .ok (.bipush 57, 2) := by decide +kernel
theorem dX4_isDigit_9 : decode cX4_isDigit 9 = .ok (.if_icmp .gt 7, 3) := by decide +kernel
theorem dX4_isDigit_12 : decode cX4_isDigit 12 = .ok (.iconst 1, 1) := by decide +kernel
theorem dX4_isDigit_13 : decode cX4_isDigit 13 = .ok (.goto 4, 3) := by decide +kernel
theorem dX4_isDigit_16 : decode cX4_isDigit 16 = .ok (.iconst 0, 1) := by decide +kernel
theorem dX4_isDigit_17 : decode cX4_isDigit 17 = .ok (.ireturn, 1) := by decide +kernel
set_option maxRecDepth 20000 in
theorem ggX5_init_X0_init : GoodIn wsX5_init wsX0_init := goodIn_r _ [12, 13, 2, 3, 8, 14, 15, 16, 17, 18, 19, 20, 21] (by decide +kernel) (by decide +kernel)
set_option maxRecDepth 20000 in
theorem gX5_init_X0_init_n11 : GoodIn wsX5_init (wsX0_init) := ggX5_init_X0_init
theorem dX5_init_0 : decode cX5_init 0 = .ok (.aload_n 0, 1) := by decide +kernel
theorem dX5_init_1 : decode cX5_init 1 = .ok (.invokespecial 3, 3) := by decide +kernel
theorem dX5_init_4 : decode cX5_init 4 = .ok (.aload_n 0, 1) := by decide +kernel
theorem dX5_init_5 : decode cX5_init 5 = .ok (.new 9, 3) := by decide +kernel
theorem dX5_init_8 : decode cX5_init 8 = .ok (.dup, 1) := by decide +kernel
theorem dX5_init_9 : decode cX5_init 9 = .ok (.invokespecial 11, 3) := by decide +kernel
theorem dX5_init_12 : decode cX5_init 12 = .ok (.putfield 12, 3) := by decide +kernel
theorem dX5_init_15 : decode cX5_init 15 = .ok (.aload_n 0, 1) := by decide +kernel
theorem dX5_init_16 : decode cX5_init 16 = .ok (.bipush 20, 2) := by decide +kernel
theorem dX5_init_18 : decode cX5_init 18 = .ok (.newarray .int, 2) := by decide +kernel
theorem dX5_init_20 : decode cX5_init 20 = .ok (.putfield 18, 3) := by decide +kernel
theorem dX5_init_23 : decode cX5_init 23 = .ok (.aload_n 0, 1) := by decide +kernel
theorem dX5_init_24 : decode cX5_init 24 = .ok (.bipush 20, 2) := by decide +kernel
theorem dX5_init_26 : decode cX5_init 26 = .ok (.newarray .int, 2) := by decide +kernel
theorem dX5_init_28 : decode cX5_init 28 = .ok (.putfield 22, 3) := by decide +kernel
theorem dX5_init_31 : decode cX5_init 31 = .ok (.return_, 1) := by decide +kernel
set_option maxRecDepth 20000 in
theorem ggX5_begin_X0_begin : GoodIn wsX5_begin wsX0_begin := goodIn_r _ [9, 10, 11, 12, 13, 14, 15, 16, 17, 18, 19, 20, 21, 22, 47, 48, 49, 50, 35, 36, 37, 38, 39, 40, 41, 42, 43, 44, 45, 46] (by decide +kernel) (by decide +kernel)
set_option maxRecDepth 20000 in
theorem gX5_begin_X0_begin : GoodIn wsX5_begin (wsV RX5 25 RX0 yX0_begin wsX0_begin) := goodIn_app (goodIn_of _ (by decide +kernel)) ggX5_begin_X0_begin
set_option maxRecDepth 20000 in
theorem ggX5_begin_X5_addDrop : GoodIn wsX5_begin wsX5_addDrop := goodIn_r _ [27, 2, 28, 29, 30, 31, 32, 33, 34] (by decide +kernel) (by decide +kernel)
set_option maxRecDepth 20000 in
theorem gX5_begin_X5_addDrop : GoodIn wsX5_begin (wsV RX5 38 RX5 yX5_addDrop wsX5_addDrop) := goodIn_app (goodIn_of _ (by decide +kernel)) ggX5_begin_X5_addDrop
theorem dX5_begin_0 : decode cX5_begin 0 = .ok (.aload_n 0, 1) := by decide +kernel
theorem dX5_begin_1 : decode cX5_begin 1 = .ok (.getfield 12, 3) := by decide +kernel
theorem dX5_begin_4 : decode cX5_begin 4 = .ok (.aload_n 1, 1) := by decide +kernel
theorem dX5_begin_5 : decode cX5_begin 5 = .ok (.invokevirtual 25, 3) := by decide +kernel
theorem dX5_begin_8 : decode cX5_begin 8 = .ok (.aload_n 0, 1) := by decide +kernel
theorem dX5_begin_9 : decode cX5_begin 9 = .ok (.iconst 0, 1) := by decide +kernel
theorem dX5_begin_10 : decode cX5_begin 10 = .ok (.putfield 29, 3) := by decide +kernel
theorem dX5_begin_13 : decode cX5_begin 13 = .ok (.iconst 0, 1) := by decide +kernel
theorem dX5_begin_14 : decode cX5_begin 14 = .ok (.istore_n 2, 1) := by decide +kernel
theorem dX5_begin_15 : decode cX5_begin 15 = .ok (.iload_n 2, 1) := by decide +kernel
theorem dX5_begin_16 : decode cX5_begin 16 = .ok (.aload_n 1, 1) := by decide +kernel
theorem dX5_begin_17 : decode cX5_begin 17 = .ok (.getfield 33, 3) := by decide +kernel
theorem dX5_begin_20 : decode cX5_begin 20 = .ok (.if_icmp .ge 13, 3) := by decide +kernel
theorem dX5_begin_23 : decode cX5_begin 23 = .ok (.aload_n 0, 1) := by decide +kernel
theorem dX5_begin_24 : decode cX5_begin 24 = .ok (.invokevirtual 38, 3) := by decide +kernel
theorem dX5_begin_27 : decode cX5_begin 27 = .ok (.iinc 2 1, 3) := by decide +kernel
theorem dX5_begin_30 : decode cX5_begin 30 = .ok (.goto (-15), 3) := by decide +kernel
theorem dX5_begin_33 : decode cX5_begin 33 = .ok (.aload_n 0, 1) := by decide +kernel
theorem dX5_begin_34 : decode cX5_begin 34 = .ok (.iconst 0, 1) := by decide +kernel
theorem dX5_begin_35 : decode cX5_begin 35 = .ok (.putfield 41, 3) := by decide +kernel
theorem dX5_begin_38 : decode cX5_begin 38 = .ok (.return_, 1) := by decide +kernel
theorem dX5_addDrop_0 : decode cX5_addDrop 0 = .ok (.aload_n 0, 1) := by decide +kernel
theorem dX5_addDrop_1 : decode cX5_addDrop 1 = .ok (.getfield 29, 3) := by decide +kernel
theorem dX5_addDrop_4 : decode cX5_addDrop 4 = .ok (.bipush 20, 2) := by decide +kernel
theorem dX5_addDrop_6 : decode cX5_addDrop 6 = .ok (.if_icmp .ge 33, 3) := by decide +kernel
theorem dX5_addDrop_9 : decode cX5_addDrop 9 = .ok (.aload_n 0, 1) := by decide +kernel
theorem dX5_addDrop_10 : decode cX5_addDrop 10 = .ok (.getfield 18, 3) := by decide +kernel
theorem dX5_addDrop_13 : decode cX5_addDrop 13 = .ok (.aload_n 0, 1) := by decide +kernel
theorem dX5_addDrop_14 : decode cX5_addDrop 14 = .ok (.getfield 29, 3) := by decide +kernel
theorem dX5_addDrop_17 : decode cX5_addDrop 17 = .ok (.iconst 0, 1) := by decide +kernel
theorem dX5_addDrop_18 : decode cX5_addDrop 18 = .ok (.iastore, 1) := by decide +kernel
theorem dX5_addDrop_19 : decode cX5_addDrop 19 = .ok (.aload_n 0, 1) := by decide +kernel
theorem dX5_addDrop_20 : decode cX5_addDrop 20 = .ok (.getfield 22, 3) := by decide +kernel
theorem dX5_addDrop_23 : decode cX5_addDrop 23 = .ok (.aload_n 0, 1) := by decide +kernel
theorem dX5_addDrop_24 : decode cX5_addDrop 24 = .ok (.getfield 29, 3) := by decide +kernel
theorem dX5_addDrop_27 : decode cX5_addDrop 27 = .ok (.iconst 0, 1) := by decide +kernel
theorem dX5_addDrop_28 : decode cX5_addDrop 28 = .ok (.iastore, 1) := by decide +kernel
theorem dX5_addDrop_29 : decode cX5_addDrop 29 = .ok (.aload_n 0, 1) := by decide +kernel
theorem dX5_addDrop_30 : decode cX5_addDrop 30 = .ok (.dup, 1) := by decide +kernel
theorem dX5_addDrop_31 : decode cX5_addDrop 31 = .ok (.getfield 29, 3) := by decide +kernel
theorem dX5_addDrop_34 : decode cX5_addDrop 34 = .ok (.iconst 1, 1) := by decide +kernel
theorem dX5_addDrop_35 : decode cX5_addDrop 35 = .ok (.iadd, 1) := by decide +kernel
theorem dX5_addDrop_36 : decode cX5_addDrop 36 = .ok (.putfield 29, 3) := by decide +kernel
theorem dX5_addDrop_39 : decode cX5_addDrop 39 = .ok (.return_, 1) := by decide +kernel
set_option maxRecDepth 20000 in
theorem ggX5_copyFrom_X0_copyFrom : GoodIn wsX5_copyFrom wsX0_copyFrom := goodIn_r _ [14, 15, 16, 5, 6, 7, 17, 18, 19, 25, 26, 27, 28] (by decide +kernel) (by decide +kernel)
set_option maxRecDepth 20000 in
theorem gX5_copyFrom_X0_copyFrom : GoodIn wsX5_copyFrom (wsV RX5 44 RX0 yX0_copyFrom wsX0_copyFrom) := goodIn_app (goodIn_of _ (by decide +kernel)) ggX5_copyFrom_X0_copyFrom
theorem dX5_copyFrom_0 : decode cX5_copyFrom 0 = .ok (.aload_n 0, 1) := by decide +kernel
theorem dX5_copyFrom_1 : decode cX5_copyFrom 1 = .ok (.getfield 12, 3) := by decide +kernel
theorem dX5_copyFrom_4 : decode cX5_copyFrom 4 = .ok (.aload_n 1, 1) := by decide +kernel
theorem dX5_copyFrom_5 : decode cX5_copyFrom 5 = .ok (.getfield 12, 3) := by decide +kernel
theorem dX5_copyFrom_8 : decode cX5_copyFrom 8 = .ok (.invokevirtual 44, 3) := by decide +kernel
theorem dX5_copyFrom_11 : decode cX5_copyFrom 11 = .ok (.aload_n 0, 1) := by decide +kernel
theorem dX5_copyFrom_12 : decode cX5_copyFrom 12 = .ok (.aload_n 1, 1) := by decide +kernel
theorem dX5_copyFrom_13 : decode cX5_copyFrom 13 = .ok (.getfield 29, 3) := by decide +kernel
theorem dX5_copyFrom_16 : decode cX5_copyFrom 16 = .ok (.putfield 29, 3) := by decide +kernel
theorem dX5_copyFrom_19 : decode cX5_copyFrom 19 = .ok (.aload_n 1, 1) := by decide +kernel
theorem dX5_copyFrom_20 : decode cX5_copyFrom 20 = .ok (.getfield 18, 3) := by decide +kernel
theorem dX5_copyFrom_23 : decode cX5_copyFrom 23 = .ok (.iconst 0, 1) := by decide +kernel
theorem dX5_copyFrom_24 : decode cX5_copyFrom 24 = .ok (.aload_n 0, 1) := by decide +kernel
theorem dX5_copyFrom_25 : decode cX5_copyFrom 25 = .ok (.getfield 18, 3) := by decide +kernel
theorem dX5_copyFrom_28 : decode cX5_copyFrom 28 = .ok (.iconst 0, 1) := by decide +kernel
theorem dX5_copyFrom_29 : decode cX5_copyFrom 29 = .ok (.bipush 20, 2) := by decide +kernel
theorem dX5_copyFrom_31 : decode cX5_copyFrom 31 = .ok (.invokestatic 48, 3) := by decide +kernel
theorem dX5_copyFrom_34 : decode cX5_copyFrom 34 = .ok (.aload_n 1, 1) := by decide +kernel
theorem dX5_copyFrom_35 : decode cX5_copyFrom 35 = .ok (.getfield 22, 3) := by decide +kernel
theorem dX5_copyFrom_38 : decode cX5_copyFrom 38 = .ok (.iconst 0, 1) := by decide +kernel
theorem dX5_copyFrom_39 : decode cX5_copyFrom 39 = .ok (.aload_n 0, 1) := by decide +kernel
theorem dX5_copyFrom_40 : decode cX5_copyFrom 40 = .ok (.getfield 22, 3) := by decide +kernel
theorem dX5_copyFrom_43 : decode cX5_copyFrom 43 = .ok (.iconst 0, 1) := by decide +kernel
theorem dX5_copyFrom_44 : decode cX5_copyFrom 44 = .ok (.bipush 20, 2) := by decide +kernel
theorem dX5_copyFrom_46 : decode cX5_copyFrom 46 = .ok (.invokestatic 48, 3) := by decide +kernel
theorem dX5_copyFrom_49 : decode cX5_copyFrom 49 = .ok (.aload_n 0, 1) := by decide +kernel
theorem dX5_copyFrom_50 : decode cX5_copyFrom 50 = .ok (.aload_n 1, 1) := by decide +kernel
theorem dX5_copyFrom_51 : decode cX5_copyFrom 51 = .ok (.getfield 41, 3) := by decide +kernel
theorem dX5_copyFrom_54 : decode cX5_copyFrom 54 = .ok (.putfield 41, 3) := by decide +kernel
theorem dX5_copyFrom_57 : decode cX5_copyFrom 57 = .ok (.return_, 1) := by decide +kernel
theorem dX5_hasDrop_0 : decode cX5_hasDrop 0 = .ok (.iload_n 1, 1) := by decide +kernel
theorem dX5_hasDrop_1 : decode cX5_hasDrop 1 = .ok (.ifCond .lt 15, 3) := by decide +kernel
theorem dX5_hasDrop_4 : decode cX5_hasDrop 4 = .ok (.iload_n 1, 1) := by decide +kernel
theorem dX5_hasDrop_5 : decode cX5_hasDrop 5 = .ok (.aload_n 0, 1) := by decide +kernel
theorem dX5_hasDrop_6 : decode cX5_hasDrop 6 = .ok (.getfield 29, 3) := by decide +kernel
theorem dX5_hasDrop_9 : decode cX5_hasDrop 9 = .ok (.if_icmp .ge 7, 3) := by decide +kernel
theorem dX5_hasDrop_12 : decode cX5_hasDrop 12 = .ok (.iconst 1, 1) := by decide +kernel
theorem dX5_hasDrop_13 : decode cX5_hasDrop 13 = .ok (.goto 4, 3) := by decide +kernel
theorem dX5_hasDrop_16 : decode cX5_hasDrop 16 = .ok (.iconst 0, 1) := by decide +kernel
theorem dX5_hasDrop_17 : decode cX5_hasDrop 17 = .ok (.ireturn, 1) := by decide +kernel
set_option maxRecDepth 20000 in
theorem ggX5_how_X0_loaded : GoodIn wsX5_how wsX0_loaded := goodIn_r _ [8, 9, 10, 28, 29, 30, 31] (by decide +kernel) (by decide +kernel)
set_option maxRecDepth 20000 in
theorem gX5_how_X0_loaded : GoodIn wsX5_how (wsV RX5 54 RX0 yX0_loaded wsX0_loaded) := goodIn_app (goodIn_of _ (by decide +kernel)) ggX5_how_X0_loaded
theorem dX5_how_0 : decode cX5_how 0 = .ok (.aload_n 0, 1) := by decide +kernel
theorem dX5_how_1 : decode cX5_how 1 = .ok (.getfield 18, 3) := by decide +kernel
theorem dX5_how_4 : decode cX5_how 4 = .ok (.iload_n 2, 1) := by decide +kernel
theorem dX5_how_5 : decode cX5_how 5 = .ok (.iaload, 1) := by decide +kernel
theorem dX5_how_6 : decode cX5_how 6 = .ok (.ifCond .eq 10, 3) := by decide +kernel
theorem dX5_how_9 : decode cX5_how 9 = .ok (.aload_n 0, 1) := by decide +kernel
theorem dX5_how_10 : decode cX5_how 10 = .ok (.getfield 18, 3) := by decide +kernel
theorem dX5_how_13 : decode cX5_how 13 = .ok (.iload_n 2, 1) := by decide +kernel
theorem dX5_how_14 : decode cX5_how 14 = .ok (.iaload, 1) := by decide +kernel
theorem dX5_how_15 : decode cX5_how 15 = .ok (.ireturn, 1) := by decide +kernel
theorem dX5_how_16 : decode cX5_how 16 = .ok (.aload_n 0, 1) := by decide +kernel
theorem dX5_how_17 : decode cX5_how 17 = .ok (.getfield 12, 3) := by decide +kernel
theorem dX5_how_20 : decode cX5_how 20 = .ok (.iload_n 2, 1) := by decide +kernel
theorem dX5_how_21 : decode cX5_how 21 = .ok (.invokevirtual 54, 3) := by decide +kernel
theorem dX5_how_24 : decode cX5_how 24 = .ok (.aload_n 1, 1) := by decide +kernel
theorem dX5_how_25 : decode cX5_how 25 = .ok (.getfield 58, 3) := by decide +kernel
theorem dX5_how_28 : decode cX5_how 28 = .ok (.iload_n 2, 1) := by decide +kernel
theorem dX5_how_29 : decode cX5_how 29 = .ok (.iaload, 1) := by decide +kernel
theorem dX5_how_30 : decode cX5_how 30 = .ok (.if_icmp .ge 7, 3) := by decide +kernel
theorem dX5_how_33 : decode cX5_how 33 = .ok (.iconst 0, 1) := by decide +kernel
theorem dX5_how_34 : decode cX5_how 34 = .ok (.goto 4, 3) := by decide +kernel
theorem dX5_how_37 : decode cX5_how 37 = .ok (.iconst 1, 1) := by decide +kernel
theorem dX5_how_38 : decode cX5_how 38 = .ok (.ireturn, 1) := by decide +kernel
theorem dX5_shortOf_0 : decode cX5_shortOf 0 = .ok (.aload_n 0, 1) := by decide +kernel
theorem dX5_shortOf_1 : decode cX5_shortOf 1 = .ok (.getfield 18, 3) := by decide +kernel
theorem dX5_shortOf_4 : decode cX5_shortOf 4 = .ok (.iload_n 2, 1) := by decide +kernel
theorem dX5_shortOf_5 : decode cX5_shortOf 5 = .ok (.iaload, 1) := by decide +kernel
theorem dX5_shortOf_6 : decode cX5_shortOf 6 = .ok (.iconst 2, 1) := by decide +kernel
theorem dX5_shortOf_7 : decode cX5_shortOf 7 = .ok (.if_icmp .ne 19, 3) := by decide +kernel
theorem dX5_shortOf_10 : decode cX5_shortOf 10 = .ok (.aload_n 1, 1) := by decide +kernel
theorem dX5_shortOf_11 : decode cX5_shortOf 11 = .ok (.getfield 58, 3) := by decide +kernel
theorem dX5_shortOf_14 : decode cX5_shortOf 14 = .ok (.iload_n 2, 1) := by decide +kernel
theorem dX5_shortOf_15 : decode cX5_shortOf 15 = .ok (.iaload, 1) := by decide +kernel
theorem dX5_shortOf_16 : decode cX5_shortOf 16 = .ok (.aload_n 0, 1) := by decide +kernel
theorem dX5_shortOf_17 : decode cX5_shortOf 17 = .ok (.getfield 22, 3) := by decide +kernel
theorem dX5_shortOf_20 : decode cX5_shortOf 20 = .ok (.iload_n 2, 1) := by decide +kernel
theorem dX5_shortOf_21 : decode cX5_shortOf 21 = .ok (.iaload, 1) := by decide +kernel
theorem dX5_shortOf_22 : decode cX5_shortOf 22 = .ok (.isub, 1) := by decide +kernel
theorem dX5_shortOf_23 : decode cX5_shortOf 23 = .ok (.goto 4, 3) := by decide +kernel
theorem dX5_shortOf_26 : decode cX5_shortOf 26 = .ok (.iconst 0, 1) := by decide +kernel
theorem dX5_shortOf_27 : decode cX5_shortOf 27 = .ok (.ireturn, 1) := by decide +kernel
set_option maxRecDepth 20000 in
theorem ggX5_waiting_X5_how : GoodIn wsX5_waiting wsX5_how := goodIn_r _ [6, 7, 8, 9, 10, 11, 12, 13, 14, 15, 16, 17, 18, 19, 20, 21, 22, 23, 24, 25, 26, 27, 28, 29, 30, 31, 32, 33, 34, 35, 36, 37] (by decide +kernel) (by decide +kernel)
set_option maxRecDepth 20000 in
theorem gX5_waiting_X5_how : GoodIn wsX5_waiting (wsV RX5 61 RX5 yX5_how wsX5_how) := goodIn_app (goodIn_of _ (by decide +kernel)) ggX5_waiting_X5_how
theorem dX5_waiting_0 : decode cX5_waiting 0 = .ok (.iconst 0, 1) := by decide +kernel
theorem dX5_waiting_1 : decode cX5_waiting 1 = .ok (.istore_n 2, 1) := by decide +kernel
theorem dX5_waiting_2 : decode cX5_waiting 2 = .ok (.iconst 0, 1) := by decide +kernel
theorem dX5_waiting_3 : decode cX5_waiting 3 = .ok (.istore_n 3, 1) := by decide +kernel
theorem dX5_waiting_4 : decode cX5_waiting 4 = .ok (.iload_n 3, 1) := by decide +kernel
theorem dX5_waiting_5 : decode cX5_waiting 5 = .ok (.aload_n 0, 1) := by decide +kernel
theorem dX5_waiting_6 : decode cX5_waiting 6 = .ok (.getfield 29, 3) := by decide +kernel
theorem dX5_waiting_9 : decode cX5_waiting 9 = .ok (.if_icmp .ge 21, 3) := by decide +kernel
theorem dX5_waiting_12 : decode cX5_waiting 12 = .ok (.aload_n 0, 1) := by decide +kernel
theorem dX5_waiting_13 : decode cX5_waiting 13 = .ok (.aload_n 1, 1) := by decide +kernel
theorem dX5_waiting_14 : decode cX5_waiting 14 = .ok (.iload_n 3, 1) := by decide +kernel
theorem dX5_waiting_15 : decode cX5_waiting 15 = .ok (.invokevirtual 61, 3) := by decide +kernel
theorem dX5_waiting_18 : decode cX5_waiting 18 = .ok (.ifCond .ne 6, 3) := by decide +kernel
theorem dX5_waiting_21 : decode cX5_waiting 21 = .ok (.iinc 2 1, 3) := by decide +kernel
theorem dX5_waiting_24 : decode cX5_waiting 24 = .ok (.iinc 3 1, 3) := by decide +kernel
theorem dX5_waiting_27 : decode cX5_waiting 27 = .ok (.goto (-23), 3) := by decide +kernel
theorem dX5_waiting_30 : decode cX5_waiting 30 = .ok (.iload_n 2, 1) := by decide +kernel
theorem dX5_waiting_31 : decode cX5_waiting 31 = .ok (.ireturn, 1) := by decide +kernel
theorem dX6_init_0 : decode cX6_init 0 = .ok (.aload_n 0, 1) := by decide +kernel
theorem dX6_init_1 : decode cX6_init 1 = .ok (.invokespecial 3, 3) := by decide +kernel
theorem dX6_init_4 : decode cX6_init 4 = .ok (.aload_n 0, 1) := by decide +kernel
theorem dX6_init_5 : decode cX6_init 5 = .ok (.bipush 9, 2) := by decide +kernel
theorem dX6_init_7 : decode cX6_init 7 = .ok (.newarray .int, 2) := by decide +kernel
theorem dX6_init_9 : decode cX6_init 9 = .ok (.putfield 9, 3) := by decide +kernel
theorem dX6_init_12 : decode cX6_init 12 = .ok (.aload_n 0, 1) := by decide +kernel
theorem dX6_init_13 : decode cX6_init 13 = .ok (.iconst 5, 1) := by decide +kernel
theorem dX6_init_14 : decode cX6_init 14 = .ok (.newarray .int, 2) := by decide +kernel
theorem dX6_init_16 : decode cX6_init 16 = .ok (.putfield 15, 3) := by decide +kernel
theorem dX6_init_19 : decode cX6_init 19 = .ok (.aload_n 0, 1) := by decide +kernel
theorem dX6_init_20 : decode cX6_init 20 = .ok (.iconst 5, 1) := by decide +kernel
theorem dX6_init_21 : decode cX6_init 21 = .ok (.newarray .int, 2) := by decide +kernel
theorem dX6_init_23 : decode cX6_init 23 = .ok (.putfield 18, 3) := by decide +kernel
theorem dX6_init_26 : decode cX6_init 26 = .ok (.aload_n 0, 1) := by decide +kernel
theorem dX6_init_27 : decode cX6_init 27 = .ok (.iconst 5, 1) := by decide +kernel
theorem dX6_init_28 : decode cX6_init 28 = .ok (.newarray .int, 2) := by decide +kernel
theorem dX6_init_30 : decode cX6_init 30 = .ok (.putfield 21, 3) := by decide +kernel
theorem dX6_init_33 : decode cX6_init 33 = .ok (.aload_n 0, 1) := by decide +kernel
theorem dX6_init_34 : decode cX6_init 34 = .ok (.iconst 5, 1) := by decide +kernel
theorem dX6_init_35 : decode cX6_init 35 = .ok (.newarray .int, 2) := by decide +kernel
theorem dX6_init_37 : decode cX6_init 37 = .ok (.putfield 24, 3) := by decide +kernel
theorem dX6_init_40 : decode cX6_init 40 = .ok (.aload_n 0, 1) := by decide +kernel
theorem dX6_init_41 : decode cX6_init 41 = .ok (.bipush 6, 2) := by decide +kernel
theorem dX6_init_43 : decode cX6_init 43 = .ok (.newarray .int, 2) := by decide +kernel
theorem dX6_init_45 : decode cX6_init 45 = .ok (.putfield 27, 3) := by decide +kernel
theorem dX6_init_48 : decode cX6_init 48 = .ok (.aload_n 0, 1) := by decide +kernel
theorem dX6_init_49 : decode cX6_init 49 = .ok (.bipush 20, 2) := by decide +kernel
theorem dX6_init_51 : decode cX6_init 51 = .ok (.newarray .int, 2) := by decide +kernel
theorem dX6_init_53 : decode cX6_init 53 = .ok (.putfield 30, 3) := by decide +kernel
theorem dX6_init_56 : decode cX6_init 56 = .ok (.aload_n 0, 1) := by decide +kernel
theorem dX6_init_57 : decode cX6_init 57 = .ok (.bipush 20, 2) := by decide +kernel
theorem dX6_init_59 : decode cX6_init 59 = .ok (.newarray .int, 2) := by decide +kernel
theorem dX6_init_61 : decode cX6_init 61 = .ok (.putfield 33, 3) := by decide +kernel
theorem dX6_init_64 : decode cX6_init 64 = .ok (.return_, 1) := by decide +kernel
set_option maxRecDepth 20000 in
theorem ggX6_clear_J7_fill_53178 : GoodIn wsX6_clear wsJ7_fill_53178 := goodIn_r _ [10] (by decide +kernel) (by decide +kernel)
set_option maxRecDepth 20000 in
theorem gX6_clear_J7_fill_53178 : GoodIn wsX6_clear (va_wsS RX6 36 yJ7_fill_53178 wsJ7_fill_53178) := goodIn_app (goodIn_of _ (by decide +kernel)) ggX6_clear_J7_fill_53178
theorem dX6_clear_0 : decode cX6_clear 0 = .ok (.aload_n 0, 1) := by decide +kernel
theorem dX6_clear_1 : decode cX6_clear 1 = .ok (.getfield 9, 3) := by decide +kernel
theorem dX6_clear_4 : decode cX6_clear 4 = .ok (.iconst 0, 1) := by decide +kernel
theorem dX6_clear_5 : decode cX6_clear 5 = .ok (.invokestatic 36, 3) := by decide +kernel
theorem dX6_clear_8 : decode cX6_clear 8 = .ok (.aload_n 0, 1) := by decide +kernel
theorem dX6_clear_9 : decode cX6_clear 9 = .ok (.getfield 9, 3) := by decide +kernel
theorem dX6_clear_12 : decode cX6_clear 12 = .ok (.iconst 0, 1) := by decide +kernel
theorem dX6_clear_13 : decode cX6_clear 13 = .ok (.iconst 1, 1) := by decide +kernel
theorem dX6_clear_14 : decode cX6_clear 14 = .ok (.iastore, 1) := by decide +kernel
theorem dX6_clear_15 : decode cX6_clear 15 = .ok (.aload_n 0, 1) := by decide +kernel
theorem dX6_clear_16 : decode cX6_clear 16 = .ok (.iconst 0, 1) := by decide +kernel
theorem dX6_clear_17 : decode cX6_clear 17 = .ok (.putfield 42, 3) := by decide +kernel
theorem dX6_clear_20 : decode cX6_clear 20 = .ok (.aload_n 0, 1) := by decide +kernel
theorem dX6_clear_21 : decode cX6_clear 21 = .ok (.getfield 24, 3) := by decide +kernel
theorem dX6_clear_24 : decode cX6_clear 24 = .ok (.iconst (-1), 1) := by decide +kernel
theorem dX6_clear_25 : decode cX6_clear 25 = .ok (.invokestatic 36, 3) := by decide +kernel
theorem dX6_clear_28 : decode cX6_clear 28 = .ok (.aload_n 0, 1) := by decide +kernel
theorem dX6_clear_29 : decode cX6_clear 29 = .ok (.iconst 0, 1) := by decide +kernel
theorem dX6_clear_30 : decode cX6_clear 30 = .ok (.putfield 46, 3) := by decide +kernel
theorem dX6_clear_33 : decode cX6_clear 33 = .ok (.aload_n 0, 1) := by decide +kernel
theorem dX6_clear_34 : decode cX6_clear 34 = .ok (.lconst 0, 1) := by decide +kernel
theorem dX6_clear_35 : decode cX6_clear 35 = .ok (.putfield 49, 3) := by decide +kernel
theorem dX6_clear_38 : decode cX6_clear 38 = .ok (.aload_n 0, 1) := by decide +kernel
theorem dX6_clear_39 : decode cX6_clear 39 = .ok (.iconst 0, 1) := by decide +kernel
theorem dX6_clear_40 : decode cX6_clear 40 = .ok (.putfield 53, 3) := by decide +kernel
theorem dX6_clear_43 : decode cX6_clear 43 = .ok (.return_, 1) := by decide +kernel
theorem dX6_hasCompartment_0 : decode cX6_hasCompartment 0 = .ok (.iload_n 1, 1) := by decide +kernel
theorem dX6_hasCompartment_1 : decode cX6_hasCompartment 1 = .ok (.ifCond .lt 15, 3) := by decide +kernel
theorem dX6_hasCompartment_4 : decode cX6_hasCompartment 4 = .ok (.iload_n 1, 1) := by decide +kernel
theorem dX6_hasCompartment_5 : decode cX6_hasCompartment 5 = .ok (.aload_n 0, 1) := by decide +kernel
theorem dX6_hasCompartment_6 : decode cX6_hasCompartment 6 = .ok (.getfield 42, 3) := by decide +kernel
theorem dX6_hasCompartment_9 : decode cX6_hasCompartment 9 = .ok (.if_icmp .ge 7, 3) := by decide +kernel
theorem dX6_hasCompartment_12 : decode cX6_hasCompartment 12 = .ok (.iconst 1, 1) := by decide +kernel
theorem dX6_hasCompartment_13 : decode cX6_hasCompartment 13 = .ok (.goto 4, 3) := by decide +kernel
theorem dX6_hasCompartment_16 : decode cX6_hasCompartment 16 = .ok (.iconst 0, 1) := by decide +kernel
theorem dX6_hasCompartment_17 : decode cX6_hasCompartment 17 = .ok (.ireturn, 1) := by decide +kernel
theorem dX6_hasLiquid_0 : decode cX6_hasLiquid 0 = .ok (.iload_n 1, 1) := by decide +kernel
theorem dX6_hasLiquid_1 : decode cX6_hasLiquid 1 = .ok (.ifCond .lt 15, 3) := by decide +kernel
theorem dX6_hasLiquid_4 : decode cX6_hasLiquid 4 = .ok (.iload_n 1, 1) := by decide +kernel
theorem dX6_hasLiquid_5 : decode cX6_hasLiquid 5 = .ok (.aload_n 0, 1) := by decide +kernel
theorem dX6_hasLiquid_6 : decode cX6_hasLiquid 6 = .ok (.getfield 46, 3) := by decide +kernel
theorem dX6_hasLiquid_9 : decode cX6_hasLiquid 9 = .ok (.if_icmp .ge 7, 3) := by decide +kernel
theorem dX6_hasLiquid_12 : decode cX6_hasLiquid 12 = .ok (.iconst 1, 1) := by decide +kernel
theorem dX6_hasLiquid_13 : decode cX6_hasLiquid 13 = .ok (.goto 4, 3) := by decide +kernel
theorem dX6_hasLiquid_16 : decode cX6_hasLiquid 16 = .ok (.iconst 0, 1) := by decide +kernel
theorem dX6_hasLiquid_17 : decode cX6_hasLiquid 17 = .ok (.ireturn, 1) := by decide +kernel
theorem dX6_top_0 : decode cX6_top 0 = .ok (.aload_n 0, 1) := by decide +kernel
theorem dX6_top_1 : decode cX6_top 1 = .ok (.getfield 15, 3) := by decide +kernel
theorem dX6_top_4 : decode cX6_top 4 = .ok (.iload_n 1, 1) := by decide +kernel
theorem dX6_top_5 : decode cX6_top 5 = .ok (.iaload, 1) := by decide +kernel
theorem dX6_top_6 : decode cX6_top 6 = .ok (.aload_n 0, 1) := by decide +kernel
theorem dX6_top_7 : decode cX6_top 7 = .ok (.getfield 9, 3) := by decide +kernel
theorem dX6_top_10 : decode cX6_top 10 = .ok (.bipush 6, 2) := by decide +kernel
theorem dX6_top_12 : decode cX6_top 12 = .ok (.iaload, 1) := by decide +kernel
theorem dX6_top_13 : decode cX6_top 13 = .ok (.imul, 1) := by decide +kernel
theorem dX6_top_14 : decode cX6_top 14 = .ok (.bipush 100, 2) := by decide +kernel
theorem dX6_top_16 : decode cX6_top 16 = .ok (.idiv, 1) := by decide +kernel
theorem dX6_top_17 : decode cX6_top 17 = .ok (.ireturn, 1) := by decide +kernel
theorem dX6_bar_0 : decode cX6_bar 0 = .ok (.aload_n 0, 1) := by decide +kernel
theorem dX6_bar_1 : decode cX6_bar 1 = .ok (.dup, 1) := by decide +kernel
theorem dX6_bar_2 : decode cX6_bar 2 = .ok (.getfield 49, 3) := by decide +kernel
theorem dX6_bar_5 : decode cX6_bar 5 = .ok (.lconst 1, 1) := by decide +kernel
theorem dX6_bar_6 : decode cX6_bar 6 = .ok (.iload_n 1, 1) := by decide +kernel
theorem dX6_bar_7 : decode cX6_bar 7 = .ok (.bipush 6, 2) := by decide +kernel
theorem dX6_bar_9 : decode cX6_bar 9 = .ok (.imul, 1) := by decide +kernel
theorem dX6_bar_10 : decode cX6_bar 10 = .ok (.iload_n 2, 1) := by decide +kernel
theorem dX6_bar_11 : decode cX6_bar 11 = .ok (.iadd, 1) := by decide +kernel
theorem dX6_bar_12 : decode cX6_bar 12 = .ok (.lshl, 1) := by decide +kernel
theorem dX6_bar_13 : decode cX6_bar 13 = .ok (.lor, 1) := by decide +kernel
theorem dX6_bar_14 : decode cX6_bar 14 = .ok (.putfield 49, 3) := by decide +kernel
theorem dX6_bar_17 : decode cX6_bar 17 = .ok (.return_, 1) := by decide +kernel
theorem dX6_isBarred_0 : decode cX6_isBarred 0 = .ok (.iload_n 1, 1) := by decide +kernel
theorem dX6_isBarred_1 : decode cX6_isBarred 1 = .ok (.iconst (-1), 1) := by decide +kernel
theorem dX6_isBarred_2 : decode cX6_isBarred 2 = .ok (.if_icmp .eq 25, 3) := by decide +kernel
theorem dX6_isBarred_5 : decode cX6_isBarred 5 = .ok (.aload_n 0, 1) := by decide +kernel
theorem dX6_isBarred_6 : decode cX6_isBarred 6 = .ok (.getfield 49, 3) := by decide +kernel
theorem dX6_isBarred_9 : decode cX6_isBarred 9 = .ok (.iload_n 1, 1) := by decide +kernel
theorem dX6_isBarred_10 : decode cX6_isBarred 10 = .ok (.bipush 6, 2) := by decide +kernel
theorem dX6_isBarred_12 : decode cX6_isBarred 12 = .ok (.imul, 1) := by decide +kernel
theorem dX6_isBarred_13 : decode cX6_isBarred 13 = .ok (.iload_n 2, 1) := by decide +kernel
theorem dX6_isBarred_14 : decode cX6_isBarred 14 = .ok (.iadd, 1) := by decide +kernel
theorem dX6_isBarred_15 : decode cX6_isBarred 15 = .ok (.lshr, 1) := by decide +kernel
theorem dX6_isBarred_16 : decode cX6_isBarred 16 = .ok (.lconst 1, 1) := by decide +kernel
theorem dX6_isBarred_17 : decode cX6_isBarred 17 = .ok (.land, 1) := by decide +kernel
theorem dX6_isBarred_18 : decode cX6_isBarred 18 = .ok (.lconst 0, 1) := by decide +kernel
theorem dX6_isBarred_19 : decode cX6_isBarred 19 = .ok (.lcmp, 1) := by decide +kernel
theorem dX6_isBarred_20 : decode cX6_isBarred 20 = .ok (.ifCond .eq 7, 3) := by decide +kernel
theorem dX6_isBarred_23 : decode cX6_isBarred 23 = .ok (.iconst 1, 1) := by decide +kernel
theorem dX6_isBarred_24 : decode cX6_isBarred 24 = .ok (.goto 4, 3) := by decide +kernel
theorem dX6_isBarred_27 : decode cX6_isBarred 27 = .ok (.iconst 0, 1) := by decide +kernel
theorem dX6_isBarred_28 : decode cX6_isBarred 28 = .ok (.ireturn, 1) := by decide +kernel
set_option maxRecDepth 20000 in
theorem ggX7_init_X4_init : GoodIn wsX7_init wsX4_init := goodIn_r _ [38, 39, 2, 3, 40, 41, 136, 137, 138, 139, 140, 141, 142, 143, 144, 145, 146] (by decide +kernel) (by decide +kernel)
set_option maxRecDepth 20000 in
theorem gX7_init_X4_init_n22 : GoodIn wsX7_init (wsX4_init) := ggX7_init_X4_init
set_option maxRecDepth 20000 in
theorem ggX7_init_X6_init : GoodIn wsX7_init wsX6_init := goodIn_r _ [43, 44, 2, 3, 40, 45, 46, 47, 48, 49, 50, 51, 52, 147, 148, 149, 150, 151, 152, 153, 154, 155, 156, 157, 158] (by decide +kernel) (by decide +kernel)
set_option maxRecDepth 20000 in
theorem gX7_init_X6_init_n29 : GoodIn wsX7_init (wsX6_init) := ggX7_init_X6_init
set_option maxRecDepth 20000 in
theorem ggX7_init_X5_init : GoodIn wsX7_init wsX5_init := goodIn_r _ [54, 55, 2, 3, 56, 26, 27, 57, 40, 58, 59, 60, 61, 62, 63, 64, 65, 66, 167, 168, 169, 170, 159, 160, 161, 162, 163] (by decide +kernel) (by decide +kernel)
set_option maxRecDepth 20000 in
theorem gX7_init_X5_init_n39 : GoodIn wsX7_init (wsX5_init) := ggX7_init_X5_init
set_option maxRecDepth 20000 in
theorem ggX7_init_X1_init : GoodIn wsX7_init wsX1_init := goodIn_r _ [69, 70, 2, 3, 71, 72, 18, 19, 53, 54, 55, 56, 26, 27, 57, 40, 58, 59, 60, 61, 62, 63, 64, 65, 66, 164, 165, 166, 159, 160, 161, 162, 163, 167, 168, 169, 170] (by decide +kernel) (by decide +kernel)
set_option maxRecDepth 20000 in
theorem gX7_init_X1_init : GoodIn wsX7_init (wsX1_init) := ggX7_init_X1_init
set_option maxRecDepth 20000 in
theorem ggX7_init_X0_init : GoodIn wsX7_init wsX0_init := goodIn_r _ [61, 62, 2, 3, 40, 63, 64, 65, 66, 167, 168, 169, 170] (by decide +kernel) (by decide +kernel)
set_option maxRecDepth 20000 in
theorem gX7_init_X0_init_n53 : GoodIn wsX7_init (wsX0_init) := ggX7_init_X0_init
set_option maxRecDepth 20000 in
theorem ggX7_init_X2_init : GoodIn wsX7_init wsX2_init := goodIn_r _ [74, 75, 2, 3, 40, 76, 77, 78, 171, 172, 173, 174] (by decide +kernel) (by decide +kernel)
set_option maxRecDepth 20000 in
theorem gX7_init_X2_init_n60 : GoodIn wsX7_init (wsX2_init) := ggX7_init_X2_init
set_option maxRecDepth 20000 in
theorem ggX7_init_X3_init : GoodIn wsX7_init wsX3_init := goodIn_r _ [80, 81, 2, 3, 82, 30, 31, 83, 84, 26, 27, 85, 40, 86, 87, 88, 89, 90, 91, 73, 74, 75, 76, 77, 78, 60, 61, 62, 63, 64, 65, 66, 171, 172, 173, 174, 175, 176, 177, 178, 179, 180, 181, 182, 183, 184, 185, 186, 187, 188, 189, 190, 191, 192, 167, 168, 169, 170] (by decide +kernel) (by decide +kernel)
set_option maxRecDepth 20000 in
theorem gX7_init_X3_init_n67 : GoodIn wsX7_init (wsX3_init) := ggX7_init_X3_init
set_option maxRecDepth 20000 in
theorem ggX7_init_X6_clear : GoodIn wsX7_init wsX6_clear := goodIn_r _ [95, 45, 96, 49, 97, 98, 99, 100, 101, 102, 103, 147, 148, 149, 150, 151, 152, 153, 154, 155, 156, 157, 158] (by decide +kernel) (by decide +kernel)
set_option maxRecDepth 20000 in
theorem gX7_init_X6_clear : GoodIn wsX7_init (wsV RX7 72 RX6 yX6_clear wsX6_clear) := goodIn_app (goodIn_of _ (by decide +kernel)) ggX7_init_X6_clear
set_option maxRecDepth 20000 in
theorem ggX7_init_X5_begin : GoodIn wsX7_init wsX5_begin := goodIn_r _ [107, 57, 108, 109, 110, 111, 112, 113, 27, 114, 63, 66, 64, 115, 65, 116, 117, 118, 119, 120, 101, 102, 103, 121, 122, 123, 19, 124, 58, 59, 159, 160, 161, 162, 163, 147, 148, 149, 150, 151, 152, 153, 154, 155, 156, 157, 158, 167, 168, 169, 170] (by decide +kernel) (by decide +kernel)
set_option maxRecDepth 20000 in
theorem gX7_init_X5_begin : GoodIn wsX7_init (wsV RX7 75 RX5 yX5_begin wsX5_begin) := goodIn_app (goodIn_of _ (by decide +kernel)) ggX7_init_X5_begin
theorem dX7_init_0 : decode cX7_init 0 = .ok (.aload_n 0, 1) := by decide +kernel
theorem dX7_init_1 : decode cX7_init 1 = .ok (.invokespecial 3, 3) := by decide +kernel
theorem dX7_init_4 : decode cX7_init 4 = .ok (.aload_n 0, 1) := by decide +kernel
theorem dX7_init_5 : decode cX7_init 5 = .ok (.sipush 740, 3) := by decide +kernel
theorem dX7_init_8 : decode cX7_init 8 = .ok (.newarray .byte, 2) := by decide +kernel
theorem dX7_init_10 : decode cX7_init 10 = .ok (.putfield 9, 3) := by decide +kernel
theorem dX7_init_13 : decode cX7_init 13 = .ok (.aload_n 0, 1) := by decide +kernel
theorem dX7_init_14 : decode cX7_init 14 = .ok (.iconst 0, 1) := by decide +kernel
theorem dX7_init_15 : decode cX7_init 15 = .ok (.putfield 13, 3) := by decide +kernel
theorem dX7_init_18 : decode cX7_init 18 = .ok (.aload_n 0, 1) := by decide +kernel
theorem dX7_init_19 : decode cX7_init 19 = .ok (.iconst 0, 1) := by decide +kernel
theorem dX7_init_20 : decode cX7_init 20 = .ok (.putfield 17, 3) := by decide +kernel
theorem dX7_init_23 : decode cX7_init 23 = .ok (.aload_n 0, 1) := by decide +kernel
theorem dX7_init_24 : decode cX7_init 24 = .ok (.new 20, 3) := by decide +kernel
theorem dX7_init_27 : decode cX7_init 27 = .ok (.dup, 1) := by decide +kernel
theorem dX7_init_28 : decode cX7_init 28 = .ok (.invokespecial 22, 3) := by decide +kernel
theorem dX7_init_31 : decode cX7_init 31 = .ok (.putfield 23, 3) := by decide +kernel
theorem dX7_init_34 : decode cX7_init 34 = .ok (.aload_n 0, 1) := by decide +kernel
theorem dX7_init_35 : decode cX7_init 35 = .ok (.new 27, 3) := by decide +kernel
theorem dX7_init_38 : decode cX7_init 38 = .ok (.dup, 1) := by decide +kernel
theorem dX7_init_39 : decode cX7_init 39 = .ok (.invokespecial 29, 3) := by decide +kernel
theorem dX7_init_42 : decode cX7_init 42 = .ok (.putfield 30, 3) := by decide +kernel
theorem dX7_init_45 : decode cX7_init 45 = .ok (.aload_n 0, 1) := by decide +kernel
theorem dX7_init_46 : decode cX7_init 46 = .ok (.new 27, 3) := by decide +kernel
theorem dX7_init_49 : decode cX7_init 49 = .ok (.dup, 1) := by decide +kernel
theorem dX7_init_50 : decode cX7_init 50 = .ok (.invokespecial 29, 3) := by decide +kernel
theorem dX7_init_53 : decode cX7_init 53 = .ok (.putfield 34, 3) := by decide +kernel
theorem dX7_init_56 : decode cX7_init 56 = .ok (.aload_n 0, 1) := by decide +kernel
theorem dX7_init_57 : decode cX7_init 57 = .ok (.new 37, 3) := by decide +kernel
theorem dX7_init_60 : decode cX7_init 60 = .ok (.dup, 1) := by decide +kernel
theorem dX7_init_61 : decode cX7_init 61 = .ok (.invokespecial 39, 3) := by decide +kernel
theorem dX7_init_64 : decode cX7_init 64 = .ok (.putfield 40, 3) := by decide +kernel
theorem dX7_init_67 : decode cX7_init 67 = .ok (.aload_n 0, 1) := by decide +kernel
theorem dX7_init_68 : decode cX7_init 68 = .ok (.new 44, 3) := by decide +kernel
theorem dX7_init_71 : decode cX7_init 71 = .ok (.dup, 1) := by decide +kernel
theorem dX7_init_72 : decode cX7_init 72 = .ok (.invokespecial 46, 3) := by decide +kernel
theorem dX7_init_75 : decode cX7_init 75 = .ok (.putfield 47, 3) := by decide +kernel
theorem dX7_init_78 : decode cX7_init 78 = .ok (.aload_n 0, 1) := by decide +kernel
theorem dX7_init_79 : decode cX7_init 79 = .ok (.new 51, 3) := by decide +kernel
theorem dX7_init_82 : decode cX7_init 82 = .ok (.dup, 1) := by decide +kernel
theorem dX7_init_83 : decode cX7_init 83 = .ok (.invokespecial 53, 3) := by decide +kernel
theorem dX7_init_86 : decode cX7_init 86 = .ok (.putfield 54, 3) := by decide +kernel
theorem dX7_init_89 : decode cX7_init 89 = .ok (.aload_n 0, 1) := by decide +kernel
theorem dX7_init_90 : decode cX7_init 90 = .ok (.new 58, 3) := by decide +kernel
theorem dX7_init_93 : decode cX7_init 93 = .ok (.dup, 1) := by decide +kernel
theorem dX7_init_94 : decode cX7_init 94 = .ok (.invokespecial 60, 3) := by decide +kernel
theorem dX7_init_97 : decode cX7_init 97 = .ok (.putfield 61, 3) := by decide +kernel
theorem dX7_init_100 : decode cX7_init 100 = .ok (.aload_n 0, 1) := by decide +kernel
theorem dX7_init_101 : decode cX7_init 101 = .ok (.new 65, 3) := by decide +kernel
theorem dX7_init_104 : decode cX7_init 104 = .ok (.dup, 1) := by decide +kernel
theorem dX7_init_105 : decode cX7_init 105 = .ok (.invokespecial 67, 3) := by decide +kernel
theorem dX7_init_108 : decode cX7_init 108 = .ok (.putfield 68, 3) := by decide +kernel
theorem dX7_init_111 : decode cX7_init 111 = .ok (.aload_n 0, 1) := by decide +kernel
theorem dX7_init_112 : decode cX7_init 112 = .ok (.getfield 30, 3) := by decide +kernel
theorem dX7_init_115 : decode cX7_init 115 = .ok (.invokevirtual 72, 3) := by decide +kernel
theorem dX7_init_118 : decode cX7_init 118 = .ok (.aload_n 0, 1) := by decide +kernel
theorem dX7_init_119 : decode cX7_init 119 = .ok (.getfield 40, 3) := by decide +kernel
theorem dX7_init_122 : decode cX7_init 122 = .ok (.aload_n 0, 1) := by decide +kernel
theorem dX7_init_123 : decode cX7_init 123 = .ok (.getfield 30, 3) := by decide +kernel
theorem dX7_init_126 : decode cX7_init 126 = .ok (.invokevirtual 75, 3) := by decide +kernel
theorem dX7_init_129 : decode cX7_init 129 = .ok (.return_, 1) := by decide +kernel
set_option maxRecDepth 20000 in
theorem ggX7_feed_X7_tapeNumber : GoodIn wsX7_feed wsX7_tapeNumber := goodIn_r _ [6, 1, 7, 8, 9, 10, 11, 12, 13, 14, 15, 16, 17, 18] (by decide +kernel) (by decide +kernel)
set_option maxRecDepth 20000 in
theorem gX7_feed_X7_tapeNumber : GoodIn wsX7_feed (wsV RX7 79 RX7 yX7_tapeNumber wsX7_tapeNumber) := goodIn_app (goodIn_of _ (by decide +kernel)) ggX7_feed_X7_tapeNumber
theorem dX7_feed_0 : decode cX7_feed 0 = .ok (.aload_n 0, 1) := by decide +kernel
theorem dX7_feed_1 : decode cX7_feed 1 = .ok (.getfield 13, 3) := by decide +kernel
theorem dX7_feed_4 : decode cX7_feed 4 = .ok (.bipush 20, 2) := by decide +kernel
theorem dX7_feed_6 : decode cX7_feed 6 = .ok (.iadd, 1) := by decide +kernel
theorem dX7_feed_7 : decode cX7_feed 7 = .ok (.sipush 740, 3) := by decide +kernel
theorem dX7_feed_10 : decode cX7_feed 10 = .ok (.if_icmp .le 5, 3) := by decide +kernel
theorem dX7_feed_13 : decode cX7_feed 13 = .ok (.iconst (-1), 1) := by decide +kernel
theorem dX7_feed_14 : decode cX7_feed 14 = .ok (.ireturn, 1) := by decide +kernel
theorem dX7_feed_15 : decode cX7_feed 15 = .ok (.aload_n 0, 1) := by decide +kernel
theorem dX7_feed_16 : decode cX7_feed 16 = .ok (.iload_n 1, 1) := by decide +kernel
theorem dX7_feed_17 : decode cX7_feed 17 = .ok (.invokevirtual 79, 3) := by decide +kernel
theorem dX7_feed_20 : decode cX7_feed 20 = .ok (.aload_n 0, 1) := by decide +kernel
theorem dX7_feed_21 : decode cX7_feed 21 = .ok (.iload_n 2, 1) := by decide +kernel
theorem dX7_feed_22 : decode cX7_feed 22 = .ok (.invokevirtual 79, 3) := by decide +kernel
theorem dX7_feed_25 : decode cX7_feed 25 = .ok (.aload_n 0, 1) := by decide +kernel
theorem dX7_feed_26 : decode cX7_feed 26 = .ok (.iload_n 3, 1) := by decide +kernel
theorem dX7_feed_27 : decode cX7_feed 27 = .ok (.invokevirtual 79, 3) := by decide +kernel
theorem dX7_feed_30 : decode cX7_feed 30 = .ok (.aload_n 0, 1) := by decide +kernel
theorem dX7_feed_31 : decode cX7_feed 31 = .ok (.iload 4, 2) := by decide +kernel
theorem dX7_feed_33 : decode cX7_feed 33 = .ok (.invokevirtual 79, 3) := by decide +kernel
theorem dX7_feed_36 : decode cX7_feed 36 = .ok (.aload_n 0, 1) := by decide +kernel
theorem dX7_feed_37 : decode cX7_feed 37 = .ok (.iload 5, 2) := by decide +kernel
theorem dX7_feed_39 : decode cX7_feed 39 = .ok (.invokevirtual 79, 3) := by decide +kernel
theorem dX7_feed_42 : decode cX7_feed 42 = .ok (.aload_n 0, 1) := by decide +kernel
theorem dX7_feed_43 : decode cX7_feed 43 = .ok (.getfield 13, 3) := by decide +kernel
theorem dX7_feed_46 : decode cX7_feed 46 = .ok (.ireturn, 1) := by decide +kernel
theorem dX7_end_0 : decode cX7_end 0 = .ok (.iload_n 1, 1) := by decide +kernel
theorem dX7_end_1 : decode cX7_end 1 = .ok (.ifCond .lt 11, 3) := by decide +kernel
theorem dX7_end_4 : decode cX7_end 4 = .ok (.iload_n 1, 1) := by decide +kernel
theorem dX7_end_5 : decode cX7_end 5 = .ok (.aload_n 0, 1) := by decide +kernel
theorem dX7_end_6 : decode cX7_end 6 = .ok (.getfield 13, 3) := by decide +kernel
theorem dX7_end_9 : decode cX7_end 9 = .ok (.if_icmp .le 5, 3) := by decide +kernel
theorem dX7_end_12 : decode cX7_end 12 = .ok (.iconst 0, 1) := by decide +kernel
theorem dX7_end_13 : decode cX7_end 13 = .ok (.ireturn, 1) := by decide +kernel
theorem dX7_end_14 : decode cX7_end 14 = .ok (.aload_n 0, 1) := by decide +kernel
theorem dX7_end_15 : decode cX7_end 15 = .ok (.iload_n 1, 1) := by decide +kernel
theorem dX7_end_16 : decode cX7_end 16 = .ok (.putfield 13, 3) := by decide +kernel
theorem dX7_end_19 : decode cX7_end 19 = .ok (.iconst 1, 1) := by decide +kernel
theorem dX7_end_20 : decode cX7_end 20 = .ok (.ireturn, 1) := by decide +kernel
set_option maxRecDepth 20000 in
theorem ggX7_text_X4_reads : GoodIn wsX7_text wsX4_reads := goodIn_r _ [16, 17, 18, 19, 20, 21, 22, 23, 24, 25, 26, 27, 28, 29, 30, 31, 32, 33, 34, 35, 36, 37, 38, 39, 40, 41, 42, 15, 43, 44, 45, 46, 47, 48, 49, 50, 51, 52, 53, 54, 55, 56, 57, 58, 59, 60, 61, 62, 63, 64, 65, 66, 67, 68, 69, 70, 71, 72, 73, 74, 75, 76, 77, 78, 79, 80, 81, 82, 83, 84, 85, 86, 87, 88, 89, 90, 91, 92, 93, 94, 95, 96, 97, 98, 99, 100, 101, 102, 103, 104, 105, 106, 107, 108, 109, 110, 111, 112, 113, 114, 115, 116, 117, 118, 119, 120, 121, 122, 123, 124, 125, 126, 127, 128, 129, 130, 131, 132, 133, 134, 135, 136, 137, 138, 139, 140, 141, 142, 143, 144, 145, 146, 147, 148, 149, 150, 151, 152, 153, 154, 155, 156, 157, 158, 159, 160, 161, 162, 163, 164, 165, 166, 167, 168, 169, 217, 218, 219, 220, 221, 222, 223, 224, 225, 226, 227, 228, 229, 230, 231, 232, 233, 234, 235, 236, 237, 238, 239] (by decide +kernel) (by decide +kernel)
set_option maxRecDepth 20000 in
theorem gX7_text_X4_reads : GoodIn wsX7_text (wsV RX7 83 RX4 yX4_reads wsX4_reads) := goodIn_app (goodIn_of _ (by decide +kernel)) ggX7_text_X4_reads
set_option maxRecDepth 20000 in
theorem ggX7_text_X5_begin : GoodIn wsX7_text wsX5_begin := goodIn_r _ [174, 175, 176, 177, 178, 179, 180, 181, 182, 183, 184, 185, 186, 187, 188, 189, 190, 191, 192, 193, 36, 37, 38, 194, 195, 196, 173, 197, 198, 199, 240, 241, 242, 243, 244, 228, 229, 230, 231, 232, 233, 234, 235, 236, 237, 238, 239, 245, 246, 247, 248] (by decide +kernel) (by decide +kernel)
set_option maxRecDepth 20000 in
theorem gX7_text_X5_begin : GoodIn wsX7_text (wsV RX7 75 RX5 yX5_begin wsX5_begin) := goodIn_app (goodIn_of _ (by decide +kernel)) ggX7_text_X5_begin
set_option maxRecDepth 20000 in
theorem ggX7_text_X1_forget : GoodIn wsX7_text wsX1_forget := goodIn_r _ [204, 205, 249, 250, 251] (by decide +kernel) (by decide +kernel)
set_option maxRecDepth 20000 in
theorem gX7_text_X1_forget : GoodIn wsX7_text (wsV RX7 93 RX1 yX1_forget wsX1_forget) := goodIn_app (goodIn_of _ (by decide +kernel)) ggX7_text_X1_forget
theorem dX7_text_0 : decode cX7_text 0 = .ok (.aload_n 0, 1) := by decide +kernel
theorem dX7_text_1 : decode cX7_text 1 = .ok (.getfield 23, 3) := by decide +kernel
theorem dX7_text_4 : decode cX7_text 4 = .ok (.aload_n 0, 1) := by decide +kernel
theorem dX7_text_5 : decode cX7_text 5 = .ok (.getfield 9, 3) := by decide +kernel
theorem dX7_text_8 : decode cX7_text 8 = .ok (.aload_n 0, 1) := by decide +kernel
theorem dX7_text_9 : decode cX7_text 9 = .ok (.getfield 13, 3) := by decide +kernel
theorem dX7_text_12 : decode cX7_text 12 = .ok (.aload_n 0, 1) := by decide +kernel
theorem dX7_text_13 : decode cX7_text 13 = .ok (.getfield 34, 3) := by decide +kernel
theorem dX7_text_16 : decode cX7_text 16 = .ok (.invokevirtual 83, 3) := by decide +kernel
theorem dX7_text_19 : decode cX7_text 19 = .ok (.istore_n 1, 1) := by decide +kernel
theorem dX7_text_20 : decode cX7_text 20 = .ok (.aload_n 0, 1) := by decide +kernel
theorem dX7_text_21 : decode cX7_text 21 = .ok (.iconst 0, 1) := by decide +kernel
theorem dX7_text_22 : decode cX7_text 22 = .ok (.putfield 13, 3) := by decide +kernel
theorem dX7_text_25 : decode cX7_text 25 = .ok (.aload_n 0, 1) := by decide +kernel
theorem dX7_text_26 : decode cX7_text 26 = .ok (.iload_n 1, 1) := by decide +kernel
theorem dX7_text_27 : decode cX7_text 27 = .ok (.ifCond .eq 7, 3) := by decide +kernel
theorem dX7_text_30 : decode cX7_text 30 = .ok (.iconst 0, 1) := by decide +kernel
theorem dX7_text_31 : decode cX7_text 31 = .ok (.goto 10, 3) := by decide +kernel
theorem dX7_text_34 : decode cX7_text 34 = .ok (.aload_n 0, 1) := by decide +kernel
theorem dX7_text_35 : decode cX7_text 35 = .ok (.getfield 23, 3) := by decide +kernel
theorem dX7_text_38 : decode cX7_text 38 = .ok (.getfield 87, 3) := by decide +kernel
theorem dX7_text_41 : decode cX7_text 41 = .ok (.putfield 17, 3) := by decide +kernel
theorem dX7_text_44 : decode cX7_text 44 = .ok (.iload_n 1, 1) := by decide +kernel
theorem dX7_text_45 : decode cX7_text 45 = .ok (.ifCond .ne 13, 3) := by decide +kernel
theorem dX7_text_48 : decode cX7_text 48 = .ok (.iconst (-1), 1) := by decide +kernel
theorem dX7_text_49 : decode cX7_text 49 = .ok (.aload_n 0, 1) := by decide +kernel
theorem dX7_text_50 : decode cX7_text 50 = .ok (.getfield 23, 3) := by decide +kernel
theorem dX7_text_53 : decode cX7_text 53 = .ok (.getfield 90, 3) := by decide +kernel
theorem dX7_text_56 : decode cX7_text 56 = .ok (.isub, 1) := by decide +kernel
theorem dX7_text_57 : decode cX7_text 57 = .ok (.ireturn, 1) := by decide +kernel
theorem dX7_text_58 : decode cX7_text 58 = .ok (.aload_n 0, 1) := by decide +kernel
theorem dX7_text_59 : decode cX7_text 59 = .ok (.getfield 30, 3) := by decide +kernel
theorem dX7_text_62 : decode cX7_text 62 = .ok (.astore_n 2, 1) := by decide +kernel
theorem dX7_text_63 : decode cX7_text 63 = .ok (.aload_n 0, 1) := by decide +kernel
theorem dX7_text_64 : decode cX7_text 64 = .ok (.aload_n 0, 1) := by decide +kernel
theorem dX7_text_65 : decode cX7_text 65 = .ok (.getfield 34, 3) := by decide +kernel
theorem dX7_text_68 : decode cX7_text 68 = .ok (.putfield 30, 3) := by decide +kernel
theorem dX7_text_71 : decode cX7_text 71 = .ok (.aload_n 0, 1) := by decide +kernel
theorem dX7_text_72 : decode cX7_text 72 = .ok (.aload_n 2, 1) := by decide +kernel
theorem dX7_text_73 : decode cX7_text 73 = .ok (.putfield 34, 3) := by decide +kernel
theorem dX7_text_76 : decode cX7_text 76 = .ok (.aload_n 0, 1) := by decide +kernel
theorem dX7_text_77 : decode cX7_text 77 = .ok (.getfield 40, 3) := by decide +kernel
theorem dX7_text_80 : decode cX7_text 80 = .ok (.aload_n 0, 1) := by decide +kernel
theorem dX7_text_81 : decode cX7_text 81 = .ok (.getfield 30, 3) := by decide +kernel
theorem dX7_text_84 : decode cX7_text 84 = .ok (.invokevirtual 75, 3) := by decide +kernel
theorem dX7_text_87 : decode cX7_text 87 = .ok (.aload_n 0, 1) := by decide +kernel
theorem dX7_text_88 : decode cX7_text 88 = .ok (.getfield 47, 3) := by decide +kernel
theorem dX7_text_91 : decode cX7_text 91 = .ok (.invokevirtual 93, 3) := by decide +kernel
theorem dX7_text_94 : decode cX7_text 94 = .ok (.aload_n 0, 1) := by decide +kernel
theorem dX7_text_95 : decode cX7_text 95 = .ok (.getfield 23, 3) := by decide +kernel
theorem dX7_text_98 : decode cX7_text 98 = .ok (.getfield 96, 3) := by decide +kernel
theorem dX7_text_101 : decode cX7_text 101 = .ok (.ireturn, 1) := by decide +kernel
theorem dX7_fault_0 : decode cX7_fault 0 = .ok (.aload_n 0, 1) := by decide +kernel
theorem dX7_fault_1 : decode cX7_fault 1 = .ok (.getfield 17, 3) := by decide +kernel
theorem dX7_fault_4 : decode cX7_fault 4 = .ok (.ireturn, 1) := by decide +kernel
set_option maxRecDepth 20000 in
theorem ggX7_now_J13_bitCount_95d88 : GoodIn wsX7_now wsJ13_bitCount_95d88 := goodIn_r _ [16, 17, 18, 19] (by decide +kernel) (by decide +kernel)
set_option maxRecDepth 20000 in
theorem gX7_now_J13_bitCount_95d88 : GoodIn wsX7_now (va_wsS RX7 112 yJ13_bitCount_95d88 wsJ13_bitCount_95d88) := goodIn_app (goodIn_of _ (by decide +kernel)) ggX7_now_J13_bitCount_95d88
set_option maxRecDepth 20000 in
theorem ggX7_now_X0_frontLoad : GoodIn wsX7_now wsX0_frontLoad := goodIn_r _ [24, 25, 26, 27, 28, 29, 30, 23, 31, 60, 61, 62, 63, 64, 65, 66, 67, 68, 69, 70, 71, 80, 81, 82, 83] (by decide +kernel) (by decide +kernel)
set_option maxRecDepth 20000 in
theorem gX7_now_X0_frontLoad : GoodIn wsX7_now (wsV RX7 121 RX0 yX0_frontLoad wsX0_frontLoad) := goodIn_app (goodIn_of _ (by decide +kernel)) ggX7_now_X0_frontLoad
set_option maxRecDepth 20000 in
theorem ggX7_now_X0_rearLoad : GoodIn wsX7_now wsX0_rearLoad := goodIn_r _ [35, 25, 26, 27, 28, 29, 30, 23, 31, 60, 61, 62, 63, 64, 65, 66, 67, 68, 69, 70, 71, 80, 81, 82, 83] (by decide +kernel) (by decide +kernel)
set_option maxRecDepth 20000 in
theorem gX7_now_X0_rearLoad : GoodIn wsX7_now (wsV RX7 125 RX0 yX0_rearLoad wsX0_rearLoad) := goodIn_app (goodIn_of _ (by decide +kernel)) ggX7_now_X0_rearLoad
set_option maxRecDepth 20000 in
theorem ggX7_now_X0_standing : GoodIn wsX7_now wsX0_standing := goodIn_r _ [39, 25, 40, 41, 42, 23, 43, 26, 44, 45, 46, 29, 30, 31, 47, 21, 22, 24, 27, 28, 48, 33, 34, 35, 60, 61, 62, 63, 64, 65, 66, 67, 68, 69, 70, 71, 80, 81, 82, 83] (by decide +kernel) (by decide +kernel)
set_option maxRecDepth 20000 in
theorem gX7_now_X0_standing : GoodIn wsX7_now (wsV RX7 128 RX0 yX0_standing wsX0_standing) := goodIn_app (goodIn_of _ (by decide +kernel)) ggX7_now_X0_standing
theorem dX7_now_0 : decode cX7_now 0 = .ok (.iload_n 1, 1) := by decide +kernel
theorem dX7_now_1 : decode cX7_now 1 = .ok (.tableswitch 159 0 9 #[55, 63, 71, 79, 90, 106, 122, 138, 146, 154], 55) := by decide +kernel
theorem dX7_now_56 : decode cX7_now 56 = .ok (.aload_n 0, 1) := by decide +kernel
theorem dX7_now_57 : decode cX7_now 57 = .ok (.getfield 30, 3) := by decide +kernel
theorem dX7_now_60 : decode cX7_now 60 = .ok (.getfield 99, 3) := by decide +kernel
theorem dX7_now_63 : decode cX7_now 63 = .ok (.ireturn, 1) := by decide +kernel
theorem dX7_now_64 : decode cX7_now 64 = .ok (.aload_n 0, 1) := by decide +kernel
theorem dX7_now_65 : decode cX7_now 65 = .ok (.getfield 30, 3) := by decide +kernel
theorem dX7_now_68 : decode cX7_now 68 = .ok (.getfield 102, 3) := by decide +kernel
theorem dX7_now_71 : decode cX7_now 71 = .ok (.ireturn, 1) := by decide +kernel
theorem dX7_now_72 : decode cX7_now 72 = .ok (.aload_n 0, 1) := by decide +kernel
theorem dX7_now_73 : decode cX7_now 73 = .ok (.getfield 40, 3) := by decide +kernel
theorem dX7_now_76 : decode cX7_now 76 = .ok (.getfield 105, 3) := by decide +kernel
theorem dX7_now_79 : decode cX7_now 79 = .ok (.ireturn, 1) := by decide +kernel
theorem dX7_now_80 : decode cX7_now 80 = .ok (.aload_n 0, 1) := by decide +kernel
theorem dX7_now_81 : decode cX7_now 81 = .ok (.getfield 30, 3) := by decide +kernel
theorem dX7_now_84 : decode cX7_now 84 = .ok (.getfield 108, 3) := by decide +kernel
theorem dX7_now_87 : decode cX7_now 87 = .ok (.invokestatic 112, 3) := by decide +kernel
theorem dX7_now_90 : decode cX7_now 90 = .ok (.ireturn, 1) := by decide +kernel
theorem dX7_now_91 : decode cX7_now 91 = .ok (.aload_n 0, 1) := by decide +kernel
theorem dX7_now_92 : decode cX7_now 92 = .ok (.getfield 40, 3) := by decide +kernel
theorem dX7_now_95 : decode cX7_now 95 = .ok (.getfield 118, 3) := by decide +kernel
theorem dX7_now_98 : decode cX7_now 98 = .ok (.aload_n 0, 1) := by decide +kernel
theorem dX7_now_99 : decode cX7_now 99 = .ok (.getfield 30, 3) := by decide +kernel
theorem dX7_now_102 : decode cX7_now 102 = .ok (.iconst 0, 1) := by decide +kernel
theorem dX7_now_103 : decode cX7_now 103 = .ok (.invokevirtual 121, 3) := by decide +kernel
theorem dX7_now_106 : decode cX7_now 106 = .ok (.ireturn, 1) := by decide +kernel
theorem dX7_now_107 : decode cX7_now 107 = .ok (.aload_n 0, 1) := by decide +kernel
theorem dX7_now_108 : decode cX7_now 108 = .ok (.getfield 40, 3) := by decide +kernel
theorem dX7_now_111 : decode cX7_now 111 = .ok (.getfield 118, 3) := by decide +kernel
theorem dX7_now_114 : decode cX7_now 114 = .ok (.aload_n 0, 1) := by decide +kernel
theorem dX7_now_115 : decode cX7_now 115 = .ok (.getfield 30, 3) := by decide +kernel
theorem dX7_now_118 : decode cX7_now 118 = .ok (.iconst 0, 1) := by decide +kernel
theorem dX7_now_119 : decode cX7_now 119 = .ok (.invokevirtual 125, 3) := by decide +kernel
theorem dX7_now_122 : decode cX7_now 122 = .ok (.ireturn, 1) := by decide +kernel
theorem dX7_now_123 : decode cX7_now 123 = .ok (.aload_n 0, 1) := by decide +kernel
theorem dX7_now_124 : decode cX7_now 124 = .ok (.getfield 40, 3) := by decide +kernel
theorem dX7_now_127 : decode cX7_now 127 = .ok (.getfield 118, 3) := by decide +kernel
theorem dX7_now_130 : decode cX7_now 130 = .ok (.aload_n 0, 1) := by decide +kernel
theorem dX7_now_131 : decode cX7_now 131 = .ok (.getfield 30, 3) := by decide +kernel
theorem dX7_now_134 : decode cX7_now 134 = .ok (.iconst 0, 1) := by decide +kernel
theorem dX7_now_135 : decode cX7_now 135 = .ok (.invokevirtual 128, 3) := by decide +kernel
theorem dX7_now_138 : decode cX7_now 138 = .ok (.ireturn, 1) := by decide +kernel
theorem dX7_now_139 : decode cX7_now 139 = .ok (.aload_n 0, 1) := by decide +kernel
theorem dX7_now_140 : decode cX7_now 140 = .ok (.getfield 40, 3) := by decide +kernel
theorem dX7_now_143 : decode cX7_now 143 = .ok (.getfield 131, 3) := by decide +kernel
theorem dX7_now_146 : decode cX7_now 146 = .ok (.ireturn, 1) := by decide +kernel
theorem dX7_now_147 : decode cX7_now 147 = .ok (.aload_n 0, 1) := by decide +kernel
theorem dX7_now_148 : decode cX7_now 148 = .ok (.getfield 47, 3) := by decide +kernel
theorem dX7_now_151 : decode cX7_now 151 = .ok (.getfield 134, 3) := by decide +kernel
theorem dX7_now_154 : decode cX7_now 154 = .ok (.ireturn, 1) := by decide +kernel
theorem dX7_now_155 : decode cX7_now 155 = .ok (.aload_n 0, 1) := by decide +kernel
theorem dX7_now_156 : decode cX7_now 156 = .ok (.getfield 13, 3) := by decide +kernel
theorem dX7_now_159 : decode cX7_now 159 = .ok (.ireturn, 1) := by decide +kernel
theorem dX7_now_160 : decode cX7_now 160 = .ok (.ldc 137, 2) := by decide +kernel
theorem dX7_now_162 : decode cX7_now 162 = .ok (.ireturn, 1) := by decide +kernel
set_option maxRecDepth 20000 in
theorem ggX7_compartment_X6_hasCompartment : GoodIn wsX7_compartment wsX6_hasCompartment := goodIn_r _ [14, 15, 33, 34, 35, 36, 37, 38, 39, 40, 41, 42, 43, 44] (by decide +kernel) (by decide +kernel)
set_option maxRecDepth 20000 in
theorem gX7_compartment_X6_hasCompartment : GoodIn wsX7_compartment (wsV RX7 138 RX6 yX6_hasCompartment wsX6_hasCompartment) := goodIn_app (goodIn_of _ (by decide +kernel)) ggX7_compartment_X6_hasCompartment
set_option maxRecDepth 20000 in
theorem ggX7_compartment_X6_top : GoodIn wsX7_compartment wsX6_top := goodIn_r _ [19, 20, 21, 33, 34, 35, 36, 37, 38, 39, 40, 41, 42, 43, 44] (by decide +kernel) (by decide +kernel)
set_option maxRecDepth 20000 in
theorem gX7_compartment_X6_top : GoodIn wsX7_compartment (wsV RX7 152 RX6 yX6_top wsX6_top) := goodIn_app (goodIn_of _ (by decide +kernel)) ggX7_compartment_X6_top
theorem dX7_compartment_0 : decode cX7_compartment 0 = .ok (.aload_n 0, 1) := by decide +kernel
theorem dX7_compartment_1 : decode cX7_compartment 1 = .ok (.getfield 30, 3) := by decide +kernel
theorem dX7_compartment_4 : decode cX7_compartment 4 = .ok (.iload_n 1, 1) := by decide +kernel
theorem dX7_compartment_5 : decode cX7_compartment 5 = .ok (.invokevirtual 138, 3) := by decide +kernel
theorem dX7_compartment_8 : decode cX7_compartment 8 = .ok (.ifCond .ne 5, 3) := by decide +kernel
theorem dX7_compartment_11 : decode cX7_compartment 11 = .ok (.iconst (-1), 1) := by decide +kernel
theorem dX7_compartment_12 : decode cX7_compartment 12 = .ok (.ireturn, 1) := by decide +kernel
theorem dX7_compartment_13 : decode cX7_compartment 13 = .ok (.iload_n 2, 1) := by decide +kernel
theorem dX7_compartment_14 : decode cX7_compartment 14 = .ok (.tableswitch 120 0 6 #[42, 52, 62, 72, 81, 94, 107], 42) := by decide +kernel
theorem dX7_compartment_56 : decode cX7_compartment 56 = .ok (.aload_n 0, 1) := by decide +kernel
theorem dX7_compartment_57 : decode cX7_compartment 57 = .ok (.getfield 30, 3) := by decide +kernel
theorem dX7_compartment_60 : decode cX7_compartment 60 = .ok (.getfield 142, 3) := by decide +kernel
theorem dX7_compartment_63 : decode cX7_compartment 63 = .ok (.iload_n 1, 1) := by decide +kernel
theorem dX7_compartment_64 : decode cX7_compartment 64 = .ok (.iaload, 1) := by decide +kernel
theorem dX7_compartment_65 : decode cX7_compartment 65 = .ok (.ireturn, 1) := by decide +kernel
theorem dX7_compartment_66 : decode cX7_compartment 66 = .ok (.aload_n 0, 1) := by decide +kernel
theorem dX7_compartment_67 : decode cX7_compartment 67 = .ok (.getfield 30, 3) := by decide +kernel
theorem dX7_compartment_70 : decode cX7_compartment 70 = .ok (.getfield 146, 3) := by decide +kernel
theorem dX7_compartment_73 : decode cX7_compartment 73 = .ok (.iload_n 1, 1) := by decide +kernel
theorem dX7_compartment_74 : decode cX7_compartment 74 = .ok (.iaload, 1) := by decide +kernel
theorem dX7_compartment_75 : decode cX7_compartment 75 = .ok (.ireturn, 1) := by decide +kernel
theorem dX7_compartment_76 : decode cX7_compartment 76 = .ok (.aload_n 0, 1) := by decide +kernel
theorem dX7_compartment_77 : decode cX7_compartment 77 = .ok (.getfield 30, 3) := by decide +kernel
theorem dX7_compartment_80 : decode cX7_compartment 80 = .ok (.getfield 149, 3) := by decide +kernel
theorem dX7_compartment_83 : decode cX7_compartment 83 = .ok (.iload_n 1, 1) := by decide +kernel
theorem dX7_compartment_84 : decode cX7_compartment 84 = .ok (.iaload, 1) := by decide +kernel
theorem dX7_compartment_85 : decode cX7_compartment 85 = .ok (.ireturn, 1) := by decide +kernel
theorem dX7_compartment_86 : decode cX7_compartment 86 = .ok (.aload_n 0, 1) := by decide +kernel
theorem dX7_compartment_87 : decode cX7_compartment 87 = .ok (.getfield 30, 3) := by decide +kernel
theorem dX7_compartment_90 : decode cX7_compartment 90 = .ok (.iload_n 1, 1) := by decide +kernel
theorem dX7_compartment_91 : decode cX7_compartment 91 = .ok (.invokevirtual 152, 3) := by decide +kernel
theorem dX7_compartment_94 : decode cX7_compartment 94 = .ok (.ireturn, 1) := by decide +kernel
theorem dX7_compartment_95 : decode cX7_compartment 95 = .ok (.aload_n 0, 1) := by decide +kernel
theorem dX7_compartment_96 : decode cX7_compartment 96 = .ok (.getfield 40, 3) := by decide +kernel
theorem dX7_compartment_99 : decode cX7_compartment 99 = .ok (.getfield 118, 3) := by decide +kernel
theorem dX7_compartment_102 : decode cX7_compartment 102 = .ok (.getfield 156, 3) := by decide +kernel
theorem dX7_compartment_105 : decode cX7_compartment 105 = .ok (.iload_n 1, 1) := by decide +kernel
theorem dX7_compartment_106 : decode cX7_compartment 106 = .ok (.iaload, 1) := by decide +kernel
theorem dX7_compartment_107 : decode cX7_compartment 107 = .ok (.ireturn, 1) := by decide +kernel
theorem dX7_compartment_108 : decode cX7_compartment 108 = .ok (.aload_n 0, 1) := by decide +kernel
theorem dX7_compartment_109 : decode cX7_compartment 109 = .ok (.getfield 40, 3) := by decide +kernel
theorem dX7_compartment_112 : decode cX7_compartment 112 = .ok (.getfield 118, 3) := by decide +kernel
theorem dX7_compartment_115 : decode cX7_compartment 115 = .ok (.getfield 159, 3) := by decide +kernel
theorem dX7_compartment_118 : decode cX7_compartment 118 = .ok (.iload_n 1, 1) := by decide +kernel
theorem dX7_compartment_119 : decode cX7_compartment 119 = .ok (.iaload, 1) := by decide +kernel
theorem dX7_compartment_120 : decode cX7_compartment 120 = .ok (.ireturn, 1) := by decide +kernel
theorem dX7_compartment_121 : decode cX7_compartment 121 = .ok (.aload_n 0, 1) := by decide +kernel
theorem dX7_compartment_122 : decode cX7_compartment 122 = .ok (.getfield 40, 3) := by decide +kernel
theorem dX7_compartment_125 : decode cX7_compartment 125 = .ok (.getfield 118, 3) := by decide +kernel
theorem dX7_compartment_128 : decode cX7_compartment 128 = .ok (.getfield 162, 3) := by decide +kernel
theorem dX7_compartment_131 : decode cX7_compartment 131 = .ok (.iload_n 1, 1) := by decide +kernel
theorem dX7_compartment_132 : decode cX7_compartment 132 = .ok (.iaload, 1) := by decide +kernel
theorem dX7_compartment_133 : decode cX7_compartment 133 = .ok (.ireturn, 1) := by decide +kernel
theorem dX7_compartment_134 : decode cX7_compartment 134 = .ok (.iconst (-1), 1) := by decide +kernel
theorem dX7_compartment_135 : decode cX7_compartment 135 = .ok (.ireturn, 1) := by decide +kernel
set_option maxRecDepth 20000 in
theorem ggX7_drop_X5_hasDrop : GoodIn wsX7_drop wsX5_hasDrop := goodIn_r _ [13, 14, 58, 59, 60, 61, 62] (by decide +kernel) (by decide +kernel)
set_option maxRecDepth 20000 in
theorem gX7_drop_X5_hasDrop : GoodIn wsX7_drop (wsV RX7 165 RX5 yX5_hasDrop wsX5_hasDrop) := goodIn_app (goodIn_of _ (by decide +kernel)) ggX7_drop_X5_hasDrop
set_option maxRecDepth 20000 in
theorem ggX7_drop_X0_loaded : GoodIn wsX7_drop wsX0_loaded := goodIn_r _ [19, 20, 21, 63, 64, 65, 66] (by decide +kernel) (by decide +kernel)
set_option maxRecDepth 20000 in
theorem gX7_drop_X0_loaded : GoodIn wsX7_drop (wsV RX7 177 RX0 yX0_loaded wsX0_loaded) := goodIn_app (goodIn_of _ (by decide +kernel)) ggX7_drop_X0_loaded
set_option maxRecDepth 20000 in
theorem ggX7_drop_X5_how : GoodIn wsX7_drop wsX5_how := goodIn_r _ [25, 26, 27, 28, 29, 16, 17, 18, 19, 20, 21, 58, 59, 60, 61, 62, 46, 47, 48, 49, 50, 51, 52, 53, 54, 55, 56, 57, 63, 64, 65, 66] (by decide +kernel) (by decide +kernel)
set_option maxRecDepth 20000 in
theorem gX7_drop_X5_how : GoodIn wsX7_drop (wsV RX7 180 RX5 yX5_how wsX5_how) := goodIn_app (goodIn_of _ (by decide +kernel)) ggX7_drop_X5_how
set_option maxRecDepth 20000 in
theorem ggX7_drop_X5_shortOf : GoodIn wsX7_drop wsX5_shortOf := goodIn_r _ [33, 26, 28, 34, 58, 59, 60, 61, 62, 46, 47, 48, 49, 50, 51, 52, 53, 54, 55, 56, 57] (by decide +kernel) (by decide +kernel)
set_option maxRecDepth 20000 in
theorem gX7_drop_X5_shortOf : GoodIn wsX7_drop (wsV RX7 186 RX5 yX5_shortOf wsX5_shortOf) := goodIn_app (goodIn_of _ (by decide +kernel)) ggX7_drop_X5_shortOf
theorem dX7_drop_0 : decode cX7_drop 0 = .ok (.aload_n 0, 1) := by decide +kernel
theorem dX7_drop_1 : decode cX7_drop 1 = .ok (.getfield 40, 3) := by decide +kernel
theorem dX7_drop_4 : decode cX7_drop 4 = .ok (.iload_n 1, 1) := by decide +kernel
theorem dX7_drop_5 : decode cX7_drop 5 = .ok (.invokevirtual 165, 3) := by decide +kernel
theorem dX7_drop_8 : decode cX7_drop 8 = .ok (.ifCond .eq 12, 3) := by decide +kernel
theorem dX7_drop_11 : decode cX7_drop 11 = .ok (.iload_n 2, 1) := by decide +kernel
theorem dX7_drop_12 : decode cX7_drop 12 = .ok (.ifCond .lt 8, 3) := by decide +kernel
theorem dX7_drop_15 : decode cX7_drop 15 = .ok (.iload_n 2, 1) := by decide +kernel
theorem dX7_drop_16 : decode cX7_drop 16 = .ok (.iconst 5, 1) := by decide +kernel
theorem dX7_drop_17 : decode cX7_drop 17 = .ok (.if_icmp .le 11, 3) := by decide +kernel
theorem dX7_drop_20 : decode cX7_drop 20 = .ok (.new 168, 3) := by decide +kernel
theorem dX7_drop_23 : decode cX7_drop 23 = .ok (.dup, 1) := by decide +kernel
theorem dX7_drop_24 : decode cX7_drop 24 = .ok (.invokespecial 170, 3) := by decide +kernel
theorem dX7_drop_27 : decode cX7_drop 27 = .ok (.athrow, 1) := by decide +kernel
theorem dX7_drop_28 : decode cX7_drop 28 = .ok (.iload_n 2, 1) := by decide +kernel
theorem dX7_drop_29 : decode cX7_drop 29 = .ok (.tableswitch 90 0 4 #[35, 45, 55, 67, 80], 35) := by decide +kernel
theorem dX7_drop_64 : decode cX7_drop 64 = .ok (.aload_n 0, 1) := by decide +kernel
theorem dX7_drop_65 : decode cX7_drop 65 = .ok (.getfield 30, 3) := by decide +kernel
theorem dX7_drop_68 : decode cX7_drop 68 = .ok (.getfield 171, 3) := by decide +kernel
theorem dX7_drop_71 : decode cX7_drop 71 = .ok (.iload_n 1, 1) := by decide +kernel
theorem dX7_drop_72 : decode cX7_drop 72 = .ok (.iaload, 1) := by decide +kernel
theorem dX7_drop_73 : decode cX7_drop 73 = .ok (.ireturn, 1) := by decide +kernel
theorem dX7_drop_74 : decode cX7_drop 74 = .ok (.aload_n 0, 1) := by decide +kernel
theorem dX7_drop_75 : decode cX7_drop 75 = .ok (.getfield 30, 3) := by decide +kernel
theorem dX7_drop_78 : decode cX7_drop 78 = .ok (.getfield 174, 3) := by decide +kernel
theorem dX7_drop_81 : decode cX7_drop 81 = .ok (.iload_n 1, 1) := by decide +kernel
theorem dX7_drop_82 : decode cX7_drop 82 = .ok (.iaload, 1) := by decide +kernel
theorem dX7_drop_83 : decode cX7_drop 83 = .ok (.ireturn, 1) := by decide +kernel
theorem dX7_drop_84 : decode cX7_drop 84 = .ok (.aload_n 0, 1) := by decide +kernel
theorem dX7_drop_85 : decode cX7_drop 85 = .ok (.getfield 40, 3) := by decide +kernel
theorem dX7_drop_88 : decode cX7_drop 88 = .ok (.getfield 118, 3) := by decide +kernel
theorem dX7_drop_91 : decode cX7_drop 91 = .ok (.iload_n 1, 1) := by decide +kernel
theorem dX7_drop_92 : decode cX7_drop 92 = .ok (.invokevirtual 177, 3) := by decide +kernel
theorem dX7_drop_95 : decode cX7_drop 95 = .ok (.ireturn, 1) := by decide +kernel
theorem dX7_drop_96 : decode cX7_drop 96 = .ok (.aload_n 0, 1) := by decide +kernel
theorem dX7_drop_97 : decode cX7_drop 97 = .ok (.getfield 40, 3) := by decide +kernel
theorem dX7_drop_100 : decode cX7_drop 100 = .ok (.aload_n 0, 1) := by decide +kernel
theorem dX7_drop_101 : decode cX7_drop 101 = .ok (.getfield 30, 3) := by decide +kernel
theorem dX7_drop_104 : decode cX7_drop 104 = .ok (.iload_n 1, 1) := by decide +kernel
theorem dX7_drop_105 : decode cX7_drop 105 = .ok (.invokevirtual 180, 3) := by decide +kernel
theorem dX7_drop_108 : decode cX7_drop 108 = .ok (.ireturn, 1) := by decide +kernel
theorem dX7_drop_109 : decode cX7_drop 109 = .ok (.aload_n 0, 1) := by decide +kernel
theorem dX7_drop_110 : decode cX7_drop 110 = .ok (.getfield 40, 3) := by decide +kernel
theorem dX7_drop_113 : decode cX7_drop 113 = .ok (.getfield 183, 3) := by decide +kernel
theorem dX7_drop_116 : decode cX7_drop 116 = .ok (.iload_n 1, 1) := by decide +kernel
theorem dX7_drop_117 : decode cX7_drop 117 = .ok (.iaload, 1) := by decide +kernel
theorem dX7_drop_118 : decode cX7_drop 118 = .ok (.ireturn, 1) := by decide +kernel
theorem dX7_drop_119 : decode cX7_drop 119 = .ok (.aload_n 0, 1) := by decide +kernel
theorem dX7_drop_120 : decode cX7_drop 120 = .ok (.getfield 40, 3) := by decide +kernel
theorem dX7_drop_123 : decode cX7_drop 123 = .ok (.aload_n 0, 1) := by decide +kernel
theorem dX7_drop_124 : decode cX7_drop 124 = .ok (.getfield 30, 3) := by decide +kernel
theorem dX7_drop_127 : decode cX7_drop 127 = .ok (.iload_n 1, 1) := by decide +kernel
theorem dX7_drop_128 : decode cX7_drop 128 = .ok (.invokevirtual 186, 3) := by decide +kernel
theorem dX7_drop_131 : decode cX7_drop 131 = .ok (.ireturn, 1) := by decide +kernel
set_option maxRecDepth 20000 in
theorem ggX7_may_X6_hasCompartment : GoodIn wsX7_may wsX6_hasCompartment := goodIn_r _ [9, 10, 41, 42, 43, 44, 45, 46, 47, 48, 49, 50, 51, 52] (by decide +kernel) (by decide +kernel)
set_option maxRecDepth 20000 in
theorem gX7_may_X6_hasCompartment : GoodIn wsX7_may (wsV RX7 138 RX6 yX6_hasCompartment wsX6_hasCompartment) := goodIn_app (goodIn_of _ (by decide +kernel)) ggX7_may_X6_hasCompartment
set_option maxRecDepth 20000 in
theorem ggX7_may_X6_hasLiquid : GoodIn wsX7_may wsX6_hasLiquid := goodIn_r _ [14, 15, 41, 42, 43, 44, 45, 46, 47, 48, 49, 50, 51, 52] (by decide +kernel) (by decide +kernel)
set_option maxRecDepth 20000 in
theorem gX7_may_X6_hasLiquid : GoodIn wsX7_may (wsV RX7 189 RX6 yX6_hasLiquid wsX6_hasLiquid) := goodIn_app (goodIn_of _ (by decide +kernel)) ggX7_may_X6_hasLiquid
set_option maxRecDepth 20000 in
theorem ggX7_may_X6_isBarred : GoodIn wsX7_may wsX6_isBarred := goodIn_r _ [19, 20, 41, 42, 43, 44, 45, 46, 47, 48, 49, 50, 51, 52] (by decide +kernel) (by decide +kernel)
set_option maxRecDepth 20000 in
theorem gX7_may_X6_isBarred : GoodIn wsX7_may (wsV RX7 192 RX6 yX6_isBarred wsX6_isBarred) := goodIn_app (goodIn_of _ (by decide +kernel)) ggX7_may_X6_isBarred
theorem dX7_may_0 : decode cX7_may 0 = .ok (.aload_n 0, 1) := by decide +kernel
theorem dX7_may_1 : decode cX7_may 1 = .ok (.getfield 30, 3) := by decide +kernel
theorem dX7_may_4 : decode cX7_may 4 = .ok (.iload_n 1, 1) := by decide +kernel
theorem dX7_may_5 : decode cX7_may 5 = .ok (.invokevirtual 138, 3) := by decide +kernel
theorem dX7_may_8 : decode cX7_may 8 = .ok (.ifCond .eq 41, 3) := by decide +kernel
theorem dX7_may_11 : decode cX7_may 11 = .ok (.aload_n 0, 1) := by decide +kernel
theorem dX7_may_12 : decode cX7_may 12 = .ok (.getfield 30, 3) := by decide +kernel
theorem dX7_may_15 : decode cX7_may 15 = .ok (.iload_n 2, 1) := by decide +kernel
theorem dX7_may_16 : decode cX7_may 16 = .ok (.invokevirtual 189, 3) := by decide +kernel
theorem dX7_may_19 : decode cX7_may 19 = .ok (.ifCond .eq 30, 3) := by decide +kernel
theorem dX7_may_22 : decode cX7_may 22 = .ok (.aload_n 0, 1) := by decide +kernel
theorem dX7_may_23 : decode cX7_may 23 = .ok (.getfield 30, 3) := by decide +kernel
theorem dX7_may_26 : decode cX7_may 26 = .ok (.aload_n 0, 1) := by decide +kernel
theorem dX7_may_27 : decode cX7_may 27 = .ok (.getfield 40, 3) := by decide +kernel
theorem dX7_may_30 : decode cX7_may 30 = .ok (.getfield 118, 3) := by decide +kernel
theorem dX7_may_33 : decode cX7_may 33 = .ok (.getfield 162, 3) := by decide +kernel
theorem dX7_may_36 : decode cX7_may 36 = .ok (.iload_n 1, 1) := by decide +kernel
