theorem dX4_readNumber_30 : decode cX4_readNumber 30 = .ok (.iload_n 2, 1) := by decide +kernel
theorem dX4_readNumber_31 : decode cX4_readNumber 31 = .ok (.if_icmp .le 11, 3) := by decide +kernel
theorem dX4_readNumber_34 : decode cX4_readNumber 34 = .ok (.aload_n 0, 1) := by decide +kernel
theorem dX4_readNumber_35 : decode cX4_readNumber 35 = .ok (.iconst 2, 1) := by decide +kernel
theorem dX4_readNumber_36 : decode cX4_readNumber 36 = .ok (.invokevirtual 60, 3) := by decide +kernel
theorem dX4_readNumber_39 : decode cX4_readNumber 39 = .ok (.ifCond .eq 7, 3) := by decide +kernel
theorem dX4_readNumber_42 : decode cX4_readNumber 42 = .ok (.iconst 1, 1) := by decide +kernel
theorem dX4_readNumber_43 : decode cX4_readNumber 43 = .ok (.goto 4, 3) := by decide +kernel
theorem dX4_readNumber_46 : decode cX4_readNumber 46 = .ok (.iconst 0, 1) := by decide +kernel
theorem dX4_readNumber_47 : decode cX4_readNumber 47 = .ok (.ireturn, 1) := by decide +kernel
theorem dX4_isWord_0 : decode cX4_isWord 0 = .ok (.aload_n 0, 1) := by decide +kernel
theorem dX4_isWord_1 : decode cX4_isWord 1 = .ok (.getfield 47, 3) := by decide +kernel
theorem dX4_isWord_4 : decode cX4_isWord 4 = .ok (.iconst 1, 1) := by decide +kernel
theorem dX4_isWord_5 : decode cX4_isWord 5 = .ok (.if_icmp .ne 19, 3) := by decide +kernel
theorem dX4_isWord_8 : decode cX4_isWord 8 = .ok (.aload_n 0, 1) := by decide +kernel
theorem dX4_isWord_9 : decode cX4_isWord 9 = .ok (.getfield 23, 3) := by decide +kernel
theorem dX4_isWord_12 : decode cX4_isWord 12 = .ok (.aload_n 0, 1) := by decide +kernel
theorem dX4_isWord_13 : decode cX4_isWord 13 = .ok (.getfield 67, 3) := by decide +kernel
theorem dX4_isWord_16 : decode cX4_isWord 16 = .ok (.isub, 1) := by decide +kernel
theorem dX4_isWord_17 : decode cX4_isWord 17 = .ok (.aload_n 1, 1) := by decide +kernel
theorem dX4_isWord_18 : decode cX4_isWord 18 = .ok (.invokevirtual 162, 3) := by decide +kernel
theorem dX4_isWord_21 : decode cX4_isWord 21 = .ok (.if_icmp .eq 5, 3) := by decide +kernel
theorem dX4_isWord_24 : decode cX4_isWord 24 = .ok (.iconst 0, 1) := by decide +kernel
theorem dX4_isWord_25 : decode cX4_isWord 25 = .ok (.ireturn, 1) := by decide +kernel
theorem dX4_isWord_26 : decode cX4_isWord 26 = .ok (.iconst 0, 1) := by decide +kernel
theorem dX4_isWord_27 : decode cX4_isWord 27 = .ok (.istore_n 2, 1) := by decide +kernel
theorem dX4_isWord_28 : decode cX4_isWord 28 = .ok (.iload_n 2, 1) := by decide +kernel
theorem dX4_isWord_29 : decode cX4_isWord 29 = .ok (.aload_n 1, 1) := by decide +kernel
theorem dX4_isWord_30 : decode cX4_isWord 30 = .ok (.invokevirtual 162, 3) := by decide +kernel
theorem dX4_isWord_33 : decode cX4_isWord 33 = .ok (.if_icmp .ge 30, 3) := by decide +kernel
theorem dX4_isWord_36 : decode cX4_isWord 36 = .ok (.aload_n 0, 1) := by decide +kernel
theorem dX4_isWord_37 : decode cX4_isWord 37 = .ok (.getfield 15, 3) := by decide +kernel
theorem dX4_isWord_40 : decode cX4_isWord 40 = .ok (.aload_n 0, 1) := by decide +kernel
theorem dX4_isWord_41 : decode cX4_isWord 41 = .ok (.getfield 67, 3) := by decide +kernel
theorem dX4_isWord_44 : decode cX4_isWord 44 = .ok (.iload_n 2, 1) := by decide +kernel
theorem dX4_isWord_45 : decode cX4_isWord 45 = .ok (.iadd, 1) := by decide +kernel
theorem dX4_isWord_46 : decode cX4_isWord 46 = .ok (.baload, 1) := by decide +kernel
theorem dX4_isWord_47 : decode cX4_isWord 47 = .ok (.aload_n 1, 1) := by decide +kernel
theorem dX4_isWord_48 : decode cX4_isWord 48 = .ok (.iload_n 2, 1) := by decide +kernel
theorem dX4_isWord_49 : decode cX4_isWord 49 = .ok (.invokevirtual 167, 3) := by decide +kernel
theorem dX4_isWord_52 : decode cX4_isWord 52 = .ok (.if_icmp .eq 5, 3) := by decide +kernel
theorem dX4_isWord_55 : decode cX4_isWord 55 = .ok (.iconst 0, 1) := by decide +kernel
theorem dX4_isWord_56 : decode cX4_isWord 56 = .ok (.ireturn, 1) := by decide +kernel
theorem dX4_isWord_57 : decode cX4_isWord 57 = .ok (.iinc 2 1, 3) := by decide +kernel
theorem dX4_isWord_60 : decode cX4_isWord 60 = .ok (.goto (-32), 3) := by decide +kernel
theorem dX4_isWord_63 : decode cX4_isWord 63 = .ok (.iconst 1, 1) := by decide +kernel
theorem dX4_isWord_64 : decode cX4_isWord 64 = .ok (.ireturn, 1) := by decide +kernel
theorem dX4_advance_0 : decode cX4_advance 0 = .ok (.aload_n 0, 1) := by decide +kernel
theorem dX4_advance_1 : decode cX4_advance 1 = .ok (.getfield 23, 3) := by decide +kernel
theorem dX4_advance_4 : decode cX4_advance 4 = .ok (.aload_n 0, 1) := by decide +kernel
theorem dX4_advance_5 : decode cX4_advance 5 = .ok (.getfield 19, 3) := by decide +kernel
theorem dX4_advance_8 : decode cX4_advance 8 = .ok (.if_icmp .ge 44, 3) := by decide +kernel
theorem dX4_advance_11 : decode cX4_advance 11 = .ok (.aload_n 0, 1) := by decide +kernel
theorem dX4_advance_12 : decode cX4_advance 12 = .ok (.getfield 15, 3) := by decide +kernel
theorem dX4_advance_15 : decode cX4_advance 15 = .ok (.aload_n 0, 1) := by decide +kernel
theorem dX4_advance_16 : decode cX4_advance 16 = .ok (.getfield 23, 3) := by decide +kernel
theorem dX4_advance_19 : decode cX4_advance 19 = .ok (.baload, 1) := by decide +kernel
theorem dX4_advance_20 : decode cX4_advance 20 = .ok (.bipush 32, 2) := by decide +kernel
theorem dX4_advance_22 : decode cX4_advance 22 = .ok (.if_icmp .eq 17, 3) := by decide +kernel
theorem dX4_advance_25 : decode cX4_advance 25 = .ok (.aload_n 0, 1) := by decide +kernel
theorem dX4_advance_26 : decode cX4_advance 26 = .ok (.getfield 15, 3) := by decide +kernel
theorem dX4_advance_29 : decode cX4_advance 29 = .ok (.aload_n 0, 1) := by decide +kernel
theorem dX4_advance_30 : decode cX4_advance 30 = .ok (.getfield 23, 3) := by decide +kernel
theorem dX4_advance_33 : decode cX4_advance 33 = .ok (.baload, 1) := by decide +kernel
theorem dX4_advance_34 : decode cX4_advance 34 = .ok (.bipush 10, 2) := by decide +kernel
theorem dX4_advance_36 : decode cX4_advance 36 = .ok (.if_icmp .ne 16, 3) := by decide +kernel
theorem dX4_advance_39 : decode cX4_advance 39 = .ok (.aload_n 0, 1) := by decide +kernel
theorem dX4_advance_40 : decode cX4_advance 40 = .ok (.dup, 1) := by decide +kernel
theorem dX4_advance_41 : decode cX4_advance 41 = .ok (.getfield 23, 3) := by decide +kernel
theorem dX4_advance_44 : decode cX4_advance 44 = .ok (.iconst 1, 1) := by decide +kernel
theorem dX4_advance_45 : decode cX4_advance 45 = .ok (.iadd, 1) := by decide +kernel
theorem dX4_advance_46 : decode cX4_advance 46 = .ok (.putfield 23, 3) := by decide +kernel
theorem dX4_advance_49 : decode cX4_advance 49 = .ok (.goto (-49), 3) := by decide +kernel
theorem dX4_advance_52 : decode cX4_advance 52 = .ok (.aload_n 0, 1) := by decide +kernel
theorem dX4_advance_53 : decode cX4_advance 53 = .ok (.aload_n 0, 1) := by decide +kernel
theorem dX4_advance_54 : decode cX4_advance 54 = .ok (.getfield 23, 3) := by decide +kernel
theorem dX4_advance_57 : decode cX4_advance 57 = .ok (.putfield 67, 3) := by decide +kernel
theorem dX4_advance_60 : decode cX4_advance 60 = .ok (.aload_n 0, 1) := by decide +kernel
theorem dX4_advance_61 : decode cX4_advance 61 = .ok (.getfield 19, 3) := by decide +kernel
theorem dX4_advance_64 : decode cX4_advance 64 = .ok (.sipush 700, 3) := by decide +kernel
theorem dX4_advance_67 : decode cX4_advance 67 = .ok (.if_icmp .le 28, 3) := by decide +kernel
theorem dX4_advance_70 : decode cX4_advance 70 = .ok (.aload_n 0, 1) := by decide +kernel
theorem dX4_advance_71 : decode cX4_advance 71 = .ok (.getfield 23, 3) := by decide +kernel
theorem dX4_advance_74 : decode cX4_advance 74 = .ok (.sipush 700, 3) := by decide +kernel
theorem dX4_advance_77 : decode cX4_advance 77 = .ok (.if_icmp .lt 18, 3) := by decide +kernel
theorem dX4_advance_80 : decode cX4_advance 80 = .ok (.aload_n 0, 1) := by decide +kernel
theorem dX4_advance_81 : decode cX4_advance 81 = .ok (.sipush 700, 3) := by decide +kernel
theorem dX4_advance_84 : decode cX4_advance 84 = .ok (.putfield 67, 3) := by decide +kernel
theorem dX4_advance_87 : decode cX4_advance 87 = .ok (.aload_n 0, 1) := by decide +kernel
theorem dX4_advance_88 : decode cX4_advance 88 = .ok (.iconst 0, 1) := by decide +kernel
theorem dX4_advance_89 : decode cX4_advance 89 = .ok (.putfield 47, 3) := by decide +kernel
theorem dX4_advance_92 : decode cX4_advance 92 = .ok (.goto 58, 3) := by decide +kernel
theorem dX4_advance_95 : decode cX4_advance 95 = .ok (.aload_n 0, 1) := by decide +kernel
theorem dX4_advance_96 : decode cX4_advance 96 = .ok (.getfield 23, 3) := by decide +kernel
theorem dX4_advance_99 : decode cX4_advance 99 = .ok (.aload_n 0, 1) := by decide +kernel
theorem dX4_advance_100 : decode cX4_advance 100 = .ok (.getfield 19, 3) := by decide +kernel
theorem dX4_advance_103 : decode cX4_advance 103 = .ok (.if_icmp .lt 11, 3) := by decide +kernel
theorem dX4_advance_106 : decode cX4_advance 106 = .ok (.aload_n 0, 1) := by decide +kernel
theorem dX4_advance_107 : decode cX4_advance 107 = .ok (.iconst 4, 1) := by decide +kernel
theorem dX4_advance_108 : decode cX4_advance 108 = .ok (.putfield 47, 3) := by decide +kernel
theorem dX4_advance_111 : decode cX4_advance 111 = .ok (.goto 39, 3) := by decide +kernel
theorem dX4_advance_114 : decode cX4_advance 114 = .ok (.aload_n 0, 1) := by decide +kernel
theorem dX4_advance_115 : decode cX4_advance 115 = .ok (.getfield 15, 3) := by decide +kernel
theorem dX4_advance_118 : decode cX4_advance 118 = .ok (.aload_n 0, 1) := by decide +kernel
theorem dX4_advance_119 : decode cX4_advance 119 = .ok (.getfield 23, 3) := by decide +kernel
theorem dX4_advance_122 : decode cX4_advance 122 = .ok (.baload, 1) := by decide +kernel
theorem dX4_advance_123 : decode cX4_advance 123 = .ok (.bipush 59, 2) := by decide +kernel
theorem dX4_advance_125 : decode cX4_advance 125 = .ok (.if_icmp .ne 21, 3) := by decide +kernel
theorem dX4_advance_128 : decode cX4_advance 128 = .ok (.aload_n 0, 1) := by decide +kernel
theorem dX4_advance_129 : decode cX4_advance 129 = .ok (.dup, 1) := by decide +kernel
theorem dX4_advance_130 : decode cX4_advance 130 = .ok (.getfield 23, 3) := by decide +kernel
theorem dX4_advance_133 : decode cX4_advance 133 = .ok (.iconst 1, 1) := by decide +kernel
theorem dX4_advance_134 : decode cX4_advance 134 = .ok (.iadd, 1) := by decide +kernel
theorem dX4_advance_135 : decode cX4_advance 135 = .ok (.putfield 23, 3) := by decide +kernel
theorem dX4_advance_138 : decode cX4_advance 138 = .ok (.aload_n 0, 1) := by decide +kernel
theorem dX4_advance_139 : decode cX4_advance 139 = .ok (.iconst 3, 1) := by decide +kernel
theorem dX4_advance_140 : decode cX4_advance 140 = .ok (.putfield 47, 3) := by decide +kernel
theorem dX4_advance_143 : decode cX4_advance 143 = .ok (.goto 7, 3) := by decide +kernel
theorem dX4_advance_146 : decode cX4_advance 146 = .ok (.aload_n 0, 1) := by decide +kernel
theorem dX4_advance_147 : decode cX4_advance 147 = .ok (.invokevirtual 171, 3) := by decide +kernel
theorem dX4_advance_150 : decode cX4_advance 150 = .ok (.return_, 1) := by decide +kernel
theorem dX4_advanceRun_0 : decode cX4_advanceRun 0 = .ok (.iconst 0, 1) := by decide +kernel
theorem dX4_advanceRun_1 : decode cX4_advanceRun 1 = .ok (.istore_n 1, 1) := by decide +kernel
theorem dX4_advanceRun_2 : decode cX4_advanceRun 2 = .ok (.aload_n 0, 1) := by decide +kernel
theorem dX4_advanceRun_3 : decode cX4_advanceRun 3 = .ok (.iconst 0, 1) := by decide +kernel
theorem dX4_advanceRun_4 : decode cX4_advanceRun 4 = .ok (.putfield 92, 3) := by decide +kernel
theorem dX4_advanceRun_7 : decode cX4_advanceRun 7 = .ok (.aload_n 0, 1) := by decide +kernel
theorem dX4_advanceRun_8 : decode cX4_advanceRun 8 = .ok (.getfield 23, 3) := by decide +kernel
theorem dX4_advanceRun_11 : decode cX4_advanceRun 11 = .ok (.aload_n 0, 1) := by decide +kernel
theorem dX4_advanceRun_12 : decode cX4_advanceRun 12 = .ok (.getfield 19, 3) := by decide +kernel
theorem dX4_advanceRun_15 : decode cX4_advanceRun 15 = .ok (.if_icmp .ge 100, 3) := by decide +kernel
theorem dX4_advanceRun_18 : decode cX4_advanceRun 18 = .ok (.aload_n 0, 1) := by decide +kernel
theorem dX4_advanceRun_19 : decode cX4_advanceRun 19 = .ok (.getfield 15, 3) := by decide +kernel
theorem dX4_advanceRun_22 : decode cX4_advanceRun 22 = .ok (.aload_n 0, 1) := by decide +kernel
theorem dX4_advanceRun_23 : decode cX4_advanceRun 23 = .ok (.getfield 23, 3) := by decide +kernel
theorem dX4_advanceRun_26 : decode cX4_advanceRun 26 = .ok (.baload, 1) := by decide +kernel
theorem dX4_advanceRun_27 : decode cX4_advanceRun 27 = .ok (.invokestatic 174, 3) := by decide +kernel
theorem dX4_advanceRun_30 : decode cX4_advanceRun 30 = .ok (.ifCond .ne 18, 3) := by decide +kernel
theorem dX4_advanceRun_33 : decode cX4_advanceRun 33 = .ok (.aload_n 0, 1) := by decide +kernel
theorem dX4_advanceRun_34 : decode cX4_advanceRun 34 = .ok (.getfield 15, 3) := by decide +kernel
theorem dX4_advanceRun_37 : decode cX4_advanceRun 37 = .ok (.aload_n 0, 1) := by decide +kernel
theorem dX4_advanceRun_38 : decode cX4_advanceRun 38 = .ok (.getfield 23, 3) := by decide +kernel
theorem dX4_advanceRun_41 : decode cX4_advanceRun 41 = .ok (.baload, 1) := by decide +kernel
theorem dX4_advanceRun_42 : decode cX4_advanceRun 42 = .ok (.invokestatic 177, 3) := by decide +kernel
theorem dX4_advanceRun_45 : decode cX4_advanceRun 45 = .ok (.ifCond .eq 70, 3) := by decide +kernel
theorem dX4_advanceRun_48 : decode cX4_advanceRun 48 = .ok (.aload_n 0, 1) := by decide +kernel
theorem dX4_advanceRun_49 : decode cX4_advanceRun 49 = .ok (.getfield 15, 3) := by decide +kernel
theorem dX4_advanceRun_52 : decode cX4_advanceRun 52 = .ok (.aload_n 0, 1) := by decide +kernel
theorem dX4_advanceRun_53 : decode cX4_advanceRun 53 = .ok (.getfield 23, 3) := by decide +kernel
theorem dX4_advanceRun_56 : decode cX4_advanceRun 56 = .ok (.baload, 1) := by decide +kernel
theorem dX4_advanceRun_57 : decode cX4_advanceRun 57 = .ok (.invokestatic 177, 3) := by decide +kernel
theorem dX4_advanceRun_60 : decode cX4_advanceRun 60 = .ok (.ifCond .eq 42, 3) := by decide +kernel
theorem dX4_advanceRun_63 : decode cX4_advanceRun 63 = .ok (.iinc 1 1, 3) := by decide +kernel
theorem dX4_advanceRun_66 : decode cX4_advanceRun 66 = .ok (.aload_n 0, 1) := by decide +kernel
theorem dX4_advanceRun_67 : decode cX4_advanceRun 67 = .ok (.iload_n 1, 1) := by decide +kernel
theorem dX4_advanceRun_68 : decode cX4_advanceRun 68 = .ok (.iconst 4, 1) := by decide +kernel
theorem dX4_advanceRun_69 : decode cX4_advanceRun 69 = .ok (.if_icmp .gt 26, 3) := by decide +kernel
theorem dX4_advanceRun_72 : decode cX4_advanceRun 72 = .ok (.aload_n 0, 1) := by decide +kernel
theorem dX4_advanceRun_73 : decode cX4_advanceRun 73 = .ok (.getfield 92, 3) := by decide +kernel
theorem dX4_advanceRun_76 : decode cX4_advanceRun 76 = .ok (.bipush 10, 2) := by decide +kernel
theorem dX4_advanceRun_78 : decode cX4_advanceRun 78 = .ok (.imul, 1) := by decide +kernel
theorem dX4_advanceRun_79 : decode cX4_advanceRun 79 = .ok (.aload_n 0, 1) := by decide +kernel
theorem dX4_advanceRun_80 : decode cX4_advanceRun 80 = .ok (.getfield 15, 3) := by decide +kernel
theorem dX4_advanceRun_83 : decode cX4_advanceRun 83 = .ok (.aload_n 0, 1) := by decide +kernel
theorem dX4_advanceRun_84 : decode cX4_advanceRun 84 = .ok (.getfield 23, 3) := by decide +kernel
theorem dX4_advanceRun_87 : decode cX4_advanceRun 87 = .ok (.baload, 1) := by decide +kernel
theorem dX4_advanceRun_88 : decode cX4_advanceRun 88 = .ok (.iadd, 1) := by decide +kernel
theorem dX4_advanceRun_89 : decode cX4_advanceRun 89 = .ok (.bipush 48, 2) := by decide +kernel
theorem dX4_advanceRun_91 : decode cX4_advanceRun 91 = .ok (.isub, 1) := by decide +kernel
theorem dX4_advanceRun_92 : decode cX4_advanceRun 92 = .ok (.goto 7, 3) := by decide +kernel
theorem dX4_advanceRun_95 : decode cX4_advanceRun 95 = .ok (.aload_n 0, 1) := by decide +kernel
theorem dX4_advanceRun_96 : decode cX4_advanceRun 96 = .ok (.getfield 92, 3) := by decide +kernel
theorem dX4_advanceRun_99 : decode cX4_advanceRun 99 = .ok (.putfield 92, 3) := by decide +kernel
theorem dX4_advanceRun_102 : decode cX4_advanceRun 102 = .ok (.aload_n 0, 1) := by decide +kernel
theorem dX4_advanceRun_103 : decode cX4_advanceRun 103 = .ok (.dup, 1) := by decide +kernel
theorem dX4_advanceRun_104 : decode cX4_advanceRun 104 = .ok (.getfield 23, 3) := by decide +kernel
theorem dX4_advanceRun_107 : decode cX4_advanceRun 107 = .ok (.iconst 1, 1) := by decide +kernel
theorem dX4_advanceRun_108 : decode cX4_advanceRun 108 = .ok (.iadd, 1) := by decide +kernel
theorem dX4_advanceRun_109 : decode cX4_advanceRun 109 = .ok (.putfield 23, 3) := by decide +kernel
theorem dX4_advanceRun_112 : decode cX4_advanceRun 112 = .ok (.goto (-105), 3) := by decide +kernel
theorem dX4_advanceRun_115 : decode cX4_advanceRun 115 = .ok (.aload_n 0, 1) := by decide +kernel
theorem dX4_advanceRun_116 : decode cX4_advanceRun 116 = .ok (.getfield 23, 3) := by decide +kernel
theorem dX4_advanceRun_119 : decode cX4_advanceRun 119 = .ok (.aload_n 0, 1) := by decide +kernel
theorem dX4_advanceRun_120 : decode cX4_advanceRun 120 = .ok (.getfield 67, 3) := by decide +kernel
theorem dX4_advanceRun_123 : decode cX4_advanceRun 123 = .ok (.isub, 1) := by decide +kernel
theorem dX4_advanceRun_124 : decode cX4_advanceRun 124 = .ok (.istore_n 2, 1) := by decide +kernel
theorem dX4_advanceRun_125 : decode cX4_advanceRun 125 = .ok (.iload_n 2, 1) := by decide +kernel
theorem dX4_advanceRun_126 : decode cX4_advanceRun 126 = .ok (.ifCond .le 15, 3) := by decide +kernel
theorem dX4_advanceRun_129 : decode cX4_advanceRun 129 = .ok (.iload_n 1, 1) := by decide +kernel
theorem dX4_advanceRun_130 : decode cX4_advanceRun 130 = .ok (.ifCond .ne 11, 3) := by decide +kernel
theorem dX4_advanceRun_133 : decode cX4_advanceRun 133 = .ok (.aload_n 0, 1) := by decide +kernel
theorem dX4_advanceRun_134 : decode cX4_advanceRun 134 = .ok (.iconst 1, 1) := by decide +kernel
theorem dX4_advanceRun_135 : decode cX4_advanceRun 135 = .ok (.putfield 47, 3) := by decide +kernel
theorem dX4_advanceRun_138 : decode cX4_advanceRun 138 = .ok (.goto 30, 3) := by decide +kernel
theorem dX4_advanceRun_141 : decode cX4_advanceRun 141 = .ok (.iload_n 2, 1) := by decide +kernel
theorem dX4_advanceRun_142 : decode cX4_advanceRun 142 = .ok (.ifCond .le 21, 3) := by decide +kernel
theorem dX4_advanceRun_145 : decode cX4_advanceRun 145 = .ok (.iload_n 2, 1) := by decide +kernel
theorem dX4_advanceRun_146 : decode cX4_advanceRun 146 = .ok (.iconst 4, 1) := by decide +kernel
theorem dX4_advanceRun_147 : decode cX4_advanceRun 147 = .ok (.if_icmp .gt 16, 3) := by decide +kernel
theorem dX4_advanceRun_150 : decode cX4_advanceRun 150 = .ok (.iload_n 1, 1) := by decide +kernel
theorem dX4_advanceRun_151 : decode cX4_advanceRun 151 = .ok (.iload_n 2, 1) := by decide +kernel
theorem dX4_advanceRun_152 : decode cX4_advanceRun 152 = .ok (.if_icmp .ne 11, 3) := by decide +kernel
theorem dX4_advanceRun_155 : decode cX4_advanceRun 155 = .ok (.aload_n 0, 1) := by decide +kernel
theorem dX4_advanceRun_156 : decode cX4_advanceRun 156 = .ok (.iconst 2, 1) := by decide +kernel
theorem dX4_advanceRun_157 : decode cX4_advanceRun 157 = .ok (.putfield 47, 3) := by decide +kernel
theorem dX4_advanceRun_160 : decode cX4_advanceRun 160 = .ok (.goto 8, 3) := by decide +kernel
theorem dX4_advanceRun_163 : decode cX4_advanceRun 163 = .ok (.aload_n 0, 1) := by decide +kernel
theorem dX4_advanceRun_164 : decode cX4_advanceRun 164 = .ok (.iconst 0, 1) := by decide +kernel
theorem dX4_advanceRun_165 : decode cX4_advanceRun 165 = .ok (.putfield 47, 3) := by decide +kernel
theorem dX4_advanceRun_168 : decode cX4_advanceRun 168 = .ok (.return_, 1) := by decide +kernel
theorem dX4_isLetter_0 : decode cX4_isLetter 0 = .ok (.iload_n 0, 1) := by decide +kernel
theorem dX4_isLetter_1 : decode cX4_isLetter 1 = .ok (.bipush 97, 2) := by decide +kernel
theorem dX4_isLetter_3 : decode cX4_isLetter 3 = .ok (.if_icmp .lt 13, 3) := by decide +kernel
theorem dX4_isLetter_6 : decode cX4_isLetter 6 = .ok (.iload_n 0, 1) := by decide +kernel
theorem dX4_isLetter_7 : decode cX4_isLetter 7 = .ok (.bipush 122, 2) := by decide +kernel
theorem dX4_isLetter_9 : decode cX4_isLetter 9 = .ok (.if_icmp .gt 7, 3) := by decide +kernel
theorem dX4_isLetter_12 : decode cX4_isLetter 12 = .ok (.iconst 1, 1) := by decide +kernel
theorem dX4_isLetter_13 : decode cX4_isLetter 13 = .ok (.goto 4, 3) := by decide +kernel
theorem dX4_isLetter_16 : decode cX4_isLetter 16 = .ok (.iconst 0, 1) := by decide +kernel
theorem dX4_isLetter_17 : decode cX4_isLetter 17 = .ok (.ireturn, 1) := by decide +kernel
theorem dX4_isDigit_0 : decode cX4_isDigit 0 = .ok (.iload_n 0, 1) := by decide +kernel
theorem dX4_isDigit_1 : decode cX4_isDigit 1 = .ok (.bipush 48, 2) := by decide +kernel
theorem dX4_isDigit_3 : decode cX4_isDigit 3 = .ok (.if_icmp .lt 13, 3) := by decide +kernel
theorem dX4_isDigit_6 : decode cX4_isDigit 6 = .ok (.iload_n 0, 1) := by decide +kernel
theorem dX4_isDigit_7 : decode cX4_isDigit 7 = .ok (.bipush 57, 2) := by decide +kernel
theorem dX4_isDigit_9 : decode cX4_isDigit 9 = .ok (.if_icmp .gt 7, 3) := by decide +kernel
theorem dX4_isDigit_12 : decode cX4_isDigit 12 = .ok (.iconst 1, 1) := by decide +kernel
theorem dX4_isDigit_13 : decode cX4_isDigit 13 = .ok (.goto 4, 3) := by decide +kernel
theorem dX4_isDigit_16 : decode cX4_isDigit 16 = .ok (.iconst 0, 1) := by decide +kernel
theorem dX4_isDigit_17 : decode cX4_isDigit 17 = .ok (.ireturn, 1) := by decide +kernel
theorem dX5_init_0 : decode cX5_init 0 = .ok (.aload_n 0, 1) := by decide +kernel
theorem dX5_init_1 : decode cX5_init 1 = .ok (.invokespecial 3, 3) := by decide +kernel
theorem dX5_init_4 : decode cX5_init 4 = .ok (.aload_n 0, 1) := by decide +kernel
theorem dX5_init_5 : decode cX5_init 5 = .ok (.new 9, 3) := by decide +kernel
theorem dX5_init_8 : decode cX5_init 8 = .ok (.dup, 1) := by decide +kernel
theorem dX5_init_9 : decode cX5_init 9 = .ok (.invokespecial 11, 3) := by decide +kernel
theorem dX5_init_12 : decode cX5_init 12 = .ok (.putfield 12, 3) := by decide +kernel
theorem dX5_init_15 : decode cX5_init 15 = .ok (.aload_n 0, 1) := by decide +kernel
theorem dX5_init_16 : decode cX5_init 16 = .ok (.bipush 20, 2) := by decide +kernel
theorem dX5_init_18 : decode cX5_init 18 = .ok (.newarray .int, 2) := by decide +kernel
theorem dX5_init_20 : decode cX5_init 20 = .ok (.putfield 18, 3) := by decide +kernel
theorem dX5_init_23 : decode cX5_init 23 = .ok (.aload_n 0, 1) := by decide +kernel
theorem dX5_init_24 : decode cX5_init 24 = .ok (.bipush 20, 2) := by decide +kernel
theorem dX5_init_26 : decode cX5_init 26 = .ok (.newarray .int, 2) := by decide +kernel
theorem dX5_init_28 : decode cX5_init 28 = .ok (.putfield 22, 3) := by decide +kernel
theorem dX5_init_31 : decode cX5_init 31 = .ok (.return_, 1) := by decide +kernel
theorem dX5_begin_0 : decode cX5_begin 0 = .ok (.aload_n 0, 1) := by decide +kernel
theorem dX5_begin_1 : decode cX5_begin 1 = .ok (.getfield 12, 3) := by decide +kernel
theorem dX5_begin_4 : decode cX5_begin 4 = .ok (.aload_n 1, 1) := by decide +kernel
theorem dX5_begin_5 : decode cX5_begin 5 = .ok (.invokevirtual 25, 3) := by decide +kernel
theorem dX5_begin_8 : decode cX5_begin 8 = .ok (.aload_n 0, 1) := by decide +kernel
theorem dX5_begin_9 : decode cX5_begin 9 = .ok (.iconst 0, 1) := by decide +kernel
theorem dX5_begin_10 : decode cX5_begin 10 = .ok (.putfield 29, 3) := by decide +kernel
theorem dX5_begin_13 : decode cX5_begin 13 = .ok (.iconst 0, 1) := by decide +kernel
theorem dX5_begin_14 : decode cX5_begin 14 = .ok (.istore_n 2, 1) := by decide +kernel
theorem dX5_begin_15 : decode cX5_begin 15 = .ok (.iload_n 2, 1) := by decide +kernel
theorem dX5_begin_16 : decode cX5_begin 16 = .ok (.aload_n 1, 1) := by decide +kernel
theorem dX5_begin_17 : decode cX5_begin 17 = .ok (.getfield 33, 3) := by decide +kernel
theorem dX5_begin_20 : decode cX5_begin 20 = .ok (.if_icmp .ge 13, 3) := by decide +kernel
theorem dX5_begin_23 : decode cX5_begin 23 = .ok (.aload_n 0, 1) := by decide +kernel
theorem dX5_begin_24 : decode cX5_begin 24 = .ok (.invokevirtual 38, 3) := by decide +kernel
theorem dX5_begin_27 : decode cX5_begin 27 = .ok (.iinc 2 1, 3) := by decide +kernel
theorem dX5_begin_30 : decode cX5_begin 30 = .ok (.goto (-15), 3) := by decide +kernel
theorem dX5_begin_33 : decode cX5_begin 33 = .ok (.aload_n 0, 1) := by decide +kernel
theorem dX5_begin_34 : decode cX5_begin 34 = .ok (.iconst 0, 1) := by decide +kernel
theorem dX5_begin_35 : decode cX5_begin 35 = .ok (.putfield 41, 3) := by decide +kernel
theorem dX5_begin_38 : decode cX5_begin 38 = .ok (.return_, 1) := by decide +kernel
theorem dX5_addDrop_0 : decode cX5_addDrop 0 = .ok (.aload_n 0, 1) := by decide +kernel
theorem dX5_addDrop_1 : decode cX5_addDrop 1 = .ok (.getfield 29, 3) := by decide +kernel
theorem dX5_addDrop_4 : decode cX5_addDrop 4 = .ok (.bipush 20, 2) := by decide +kernel
theorem dX5_addDrop_6 : decode cX5_addDrop 6 = .ok (.if_icmp .ge 33, 3) := by decide +kernel
theorem dX5_addDrop_9 : decode cX5_addDrop 9 = .ok (.aload_n 0, 1) := by decide +kernel
theorem dX5_addDrop_10 : decode cX5_addDrop 10 = .ok (.getfield 18, 3) := by decide +kernel
theorem dX5_addDrop_13 : decode cX5_addDrop 13 = .ok (.aload_n 0, 1) := by decide +kernel
theorem dX5_addDrop_14 : decode cX5_addDrop 14 = .ok (.getfield 29, 3) := by decide +kernel
theorem dX5_addDrop_17 : decode cX5_addDrop 17 = .ok (.iconst 0, 1) := by decide +kernel
theorem dX5_addDrop_18 : decode cX5_addDrop 18 = .ok (.iastore, 1) := by decide +kernel
theorem dX5_addDrop_19 : decode cX5_addDrop 19 = .ok (.aload_n 0, 1) := by decide +kernel
theorem dX5_addDrop_20 : decode cX5_addDrop 20 = .ok (.getfield 22, 3) := by decide +kernel
theorem dX5_addDrop_23 : decode cX5_addDrop 23 = .ok (.aload_n 0, 1) := by decide +kernel
theorem dX5_addDrop_24 : decode cX5_addDrop 24 = .ok (.getfield 29, 3) := by decide +kernel
theorem dX5_addDrop_27 : decode cX5_addDrop 27 = .ok (.iconst 0, 1) := by decide +kernel
theorem dX5_addDrop_28 : decode cX5_addDrop 28 = .ok (.iastore, 1) := by decide +kernel
theorem dX5_addDrop_29 : decode cX5_addDrop 29 = .ok (.aload_n 0, 1) := by decide +kernel
theorem dX5_addDrop_30 : decode cX5_addDrop 30 = .ok (.dup, 1) := by decide +kernel
theorem dX5_addDrop_31 : decode cX5_addDrop 31 = .ok (.getfield 29, 3) := by decide +kernel
theorem dX5_addDrop_34 : decode cX5_addDrop 34 = .ok (.iconst 1, 1) := by decide +kernel
theorem dX5_addDrop_35 : decode cX5_addDrop 35 = .ok (.iadd, 1) := by decide +kernel
theorem dX5_addDrop_36 : decode cX5_addDrop 36 = .ok (.putfield 29, 3) := by decide +kernel
theorem dX5_addDrop_39 : decode cX5_addDrop 39 = .ok (.return_, 1) := by decide +kernel
theorem dX5_copyFrom_0 : decode cX5_copyFrom 0 = .ok (.aload_n 0, 1) := by decide +kernel
theorem dX5_copyFrom_1 : decode cX5_copyFrom 1 = .ok (.getfield 12, 3) := by decide +kernel
theorem dX5_copyFrom_4 : decode cX5_copyFrom 4 = .ok (.aload_n 1, 1) := by decide +kernel
theorem dX5_copyFrom_5 : decode cX5_copyFrom 5 = .ok (.getfield 12, 3) := by decide +kernel
theorem dX5_copyFrom_8 : decode cX5_copyFrom 8 = .ok (.invokevirtual 44, 3) := by decide +kernel
theorem dX5_copyFrom_11 : decode cX5_copyFrom 11 = .ok (.aload_n 0, 1) := by decide +kernel
theorem dX5_copyFrom_12 : decode cX5_copyFrom 12 = .ok (.aload_n 1, 1) := by decide +kernel
theorem dX5_copyFrom_13 : decode cX5_copyFrom 13 = .ok (.getfield 29, 3) := by decide +kernel
theorem dX5_copyFrom_16 : decode cX5_copyFrom 16 = .ok (.putfield 29, 3) := by decide +kernel
theorem dX5_copyFrom_19 : decode cX5_copyFrom 19 = .ok (.aload_n 1, 1) := by decide +kernel
theorem dX5_copyFrom_20 : decode cX5_copyFrom 20 = .ok (.getfield 18, 3) := by decide +kernel
theorem dX5_copyFrom_23 : decode cX5_copyFrom 23 = .ok (.iconst 0, 1) := by decide +kernel
theorem dX5_copyFrom_24 : decode cX5_copyFrom 24 = .ok (.aload_n 0, 1) := by decide +kernel
theorem dX5_copyFrom_25 : decode cX5_copyFrom 25 = .ok (.getfield 18, 3) := by decide +kernel
theorem dX5_copyFrom_28 : decode cX5_copyFrom 28 = .ok (.iconst 0, 1) := by decide +kernel
theorem dX5_copyFrom_29 : decode cX5_copyFrom 29 = .ok (.bipush 20, 2) := by decide +kernel
theorem dX5_copyFrom_31 : decode cX5_copyFrom 31 = .ok (.invokestatic 48, 3) := by decide +kernel
theorem dX5_copyFrom_34 : decode cX5_copyFrom 34 = .ok (.aload_n 1, 1) := by decide +kernel
theorem dX5_copyFrom_35 : decode cX5_copyFrom 35 = .ok (.getfield 22, 3) := by decide +kernel
theorem dX5_copyFrom_38 : decode cX5_copyFrom 38 = .ok (.iconst 0, 1) := by decide +kernel
theorem dX5_copyFrom_39 : decode cX5_copyFrom 39 = .ok (.aload_n 0, 1) := by decide +kernel
theorem dX5_copyFrom_40 : decode cX5_copyFrom 40 = .ok (.getfield 22, 3) := by decide +kernel
theorem dX5_copyFrom_43 : decode cX5_copyFrom 43 = .ok (.iconst 0, 1) := by decide +kernel
theorem dX5_copyFrom_44 : decode cX5_copyFrom 44 = .ok (.bipush 20, 2) := by decide +kernel
theorem dX5_copyFrom_46 : decode cX5_copyFrom 46 = .ok (.invokestatic 48, 3) := by decide +kernel
theorem dX5_copyFrom_49 : decode cX5_copyFrom 49 = .ok (.aload_n 0, 1) := by decide +kernel
theorem dX5_copyFrom_50 : decode cX5_copyFrom 50 = .ok (.aload_n 1, 1) := by decide +kernel
theorem dX5_copyFrom_51 : decode cX5_copyFrom 51 = .ok (.getfield 41, 3) := by decide +kernel
theorem dX5_copyFrom_54 : decode cX5_copyFrom 54 = .ok (.putfield 41, 3) := by decide +kernel
theorem dX5_copyFrom_57 : decode cX5_copyFrom 57 = .ok (.return_, 1) := by decide +kernel
theorem dX5_hasDrop_0 : decode cX5_hasDrop 0 = .ok (.iload_n 1, 1) := by decide +kernel
theorem dX5_hasDrop_1 : decode cX5_hasDrop 1 = .ok (.ifCond .lt 15, 3) := by decide +kernel
theorem dX5_hasDrop_4 : decode cX5_hasDrop 4 = .ok (.iload_n 1, 1) := by decide +kernel
theorem dX5_hasDrop_5 : decode cX5_hasDrop 5 = .ok (.aload_n 0, 1) := by decide +kernel
theorem dX5_hasDrop_6 : decode cX5_hasDrop 6 = .ok (.getfield 29, 3) := by decide +kernel
theorem dX5_hasDrop_9 : decode cX5_hasDrop 9 = .ok (.if_icmp .ge 7, 3) := by decide +kernel
theorem dX5_hasDrop_12 : decode cX5_hasDrop 12 = .ok (.iconst 1, 1) := by decide +kernel
theorem dX5_hasDrop_13 : decode cX5_hasDrop 13 = .ok (.goto 4, 3) := by decide +kernel
theorem dX5_hasDrop_16 : decode cX5_hasDrop 16 = .ok (.iconst 0, 1) := by decide +kernel
theorem dX5_hasDrop_17 : decode cX5_hasDrop 17 = .ok (.ireturn, 1) := by decide +kernel
theorem dX5_how_0 : decode cX5_how 0 = .ok (.aload_n 0, 1) := by decide +kernel
theorem dX5_how_1 : decode cX5_how 1 = .ok (.getfield 18, 3) := by decide +kernel
theorem dX5_how_4 : decode cX5_how 4 = .ok (.iload_n 2, 1) := by decide +kernel
theorem dX5_how_5 : decode cX5_how 5 = .ok (.iaload, 1) := by decide +kernel
theorem dX5_how_6 : decode cX5_how 6 = .ok (.ifCond .eq 10, 3) := by decide +kernel
theorem dX5_how_9 : decode cX5_how 9 = .ok (.aload_n 0, 1) := by decide +kernel
theorem dX5_how_10 : decode cX5_how 10 = .ok (.getfield 18, 3) := by decide +kernel
theorem dX5_how_13 : decode cX5_how 13 = .ok (.iload_n 2, 1) := by decide +kernel
theorem dX5_how_14 : decode cX5_how 14 = .ok (.iaload, 1) := by decide +kernel
theorem dX5_how_15 : decode cX5_how 15 = .ok (.ireturn, 1) := by decide +kernel
theorem dX5_how_16 : decode cX5_how 16 = .ok (.aload_n 0, 1) := by decide +kernel
theorem dX5_how_17 : decode cX5_how 17 = .ok (.getfield 12, 3) := by decide +kernel
theorem dX5_how_20 : decode cX5_how 20 = .ok (.iload_n 2, 1) := by decide +kernel
theorem dX5_how_21 : decode cX5_how 21 = .ok (.invokevirtual 54, 3) := by decide +kernel
theorem dX5_how_24 : decode cX5_how 24 = .ok (.aload_n 1, 1) := by decide +kernel
theorem dX5_how_25 : decode cX5_how 25 = .ok (.getfield 58, 3) := by decide +kernel
theorem dX5_how_28 : decode cX5_how 28 = .ok (.iload_n 2, 1) := by decide +kernel
theorem dX5_how_29 : decode cX5_how 29 = .ok (.iaload, 1) := by decide +kernel
theorem dX5_how_30 : decode cX5_how 30 = .ok (.if_icmp .ge 7, 3) := by decide +kernel
theorem dX5_how_33 : decode cX5_how 33 = .ok (.iconst 0, 1) := by decide +kernel
theorem dX5_how_34 : decode cX5_how 34 = .ok (.goto 4, 3) := by decide +kernel
theorem dX5_how_37 : decode cX5_how 37 = .ok (.iconst 1, 1) := by decide +kernel
theorem dX5_how_38 : decode cX5_how 38 = .ok (.ireturn, 1) := by decide +kernel
theorem dX5_shortOf_0 : decode cX5_shortOf 0 = .ok (.aload_n 0, 1) := by decide +kernel
theorem dX5_shortOf_1 : decode cX5_shortOf 1 = .ok (.getfield 18, 3) := by decide +kernel
theorem dX5_shortOf_4 : decode cX5_shortOf 4 = .ok (.iload_n 2, 1) := by decide +kernel
theorem dX5_shortOf_5 : decode cX5_shortOf 5 = .ok (.iaload, 1) := by decide +kernel
theorem dX5_shortOf_6 : decode cX5_shortOf 6 = .ok (.iconst 2, 1) := by decide +kernel
theorem dX5_shortOf_7 : decode cX5_shortOf 7 = .ok (.if_icmp .ne 19, 3) := by decide +kernel
theorem dX5_shortOf_10 : decode cX5_shortOf 10 = .ok (.aload_n 1, 1) := by decide +kernel
theorem dX5_shortOf_11 : decode cX5_shortOf 11 = .ok (.getfield 58, 3) := by decide +kernel
theorem dX5_shortOf_14 : decode cX5_shortOf 14 = .ok (.iload_n 2, 1) := by decide +kernel
theorem dX5_shortOf_15 : decode cX5_shortOf 15 = .ok (.iaload, 1) := by decide +kernel
theorem dX5_shortOf_16 : decode cX5_shortOf 16 = .ok (.aload_n 0, 1) := by decide +kernel
theorem dX5_shortOf_17 : decode cX5_shortOf 17 = .ok (.getfield 22, 3) := by decide +kernel
theorem dX5_shortOf_20 : decode cX5_shortOf 20 = .ok (.iload_n 2, 1) := by decide +kernel
theorem dX5_shortOf_21 : decode cX5_shortOf 21 = .ok (.iaload, 1) := by decide +kernel
theorem dX5_shortOf_22 : decode cX5_shortOf 22 = .ok (.isub, 1) := by decide +kernel
theorem dX5_shortOf_23 : decode cX5_shortOf 23 = .ok (.goto 4, 3) := by decide +kernel
theorem dX5_shortOf_26 : decode cX5_shortOf 26 = .ok (.iconst 0, 1) := by decide +kernel
theorem dX5_shortOf_27 : decode cX5_shortOf 27 = .ok (.ireturn, 1) := by decide +kernel
theorem dX5_waiting_0 : decode cX5_waiting 0 = .ok (.iconst 0, 1) := by decide +kernel
theorem dX5_waiting_1 : decode cX5_waiting 1 = .ok (.istore_n 2, 1) := by decide +kernel
theorem dX5_waiting_2 : decode cX5_waiting 2 = .ok (.iconst 0, 1) := by decide +kernel
theorem dX5_waiting_3 : decode cX5_waiting 3 = .ok (.istore_n 3, 1) := by decide +kernel
theorem dX5_waiting_4 : decode cX5_waiting 4 = .ok (.iload_n 3, 1) := by decide +kernel
theorem dX5_waiting_5 : decode cX5_waiting 5 = .ok (.aload_n 0, 1) := by decide +kernel
theorem dX5_waiting_6 : decode cX5_waiting 6 = .ok (.getfield 29, 3) := by decide +kernel
theorem dX5_waiting_9 : decode cX5_waiting 9 = .ok (.if_icmp .ge 21, 3) := by decide +kernel
theorem dX5_waiting_12 : decode cX5_waiting 12 = .ok (.aload_n 0, 1) := by decide +kernel
theorem dX5_waiting_13 : decode cX5_waiting 13 = .ok (.aload_n 1, 1) := by decide +kernel
theorem dX5_waiting_14 : decode cX5_waiting 14 = .ok (.iload_n 3, 1) := by decide +kernel
theorem dX5_waiting_15 : decode cX5_waiting 15 = .ok (.invokevirtual 61, 3) := by decide +kernel
theorem dX5_waiting_18 : decode cX5_waiting 18 = .ok (.ifCond .ne 6, 3) := by decide +kernel
theorem dX5_waiting_21 : decode cX5_waiting 21 = .ok (.iinc 2 1, 3) := by decide +kernel
theorem dX5_waiting_24 : decode cX5_waiting 24 = .ok (.iinc 3 1, 3) := by decide +kernel
theorem dX5_waiting_27 : decode cX5_waiting 27 = .ok (.goto (-23), 3) := by decide +kernel
theorem dX5_waiting_30 : decode cX5_waiting 30 = .ok (.iload_n 2, 1) := by decide +kernel
theorem dX5_waiting_31 : decode cX5_waiting 31 = .ok (.ireturn, 1) := by decide +kernel
theorem dX6_init_0 : decode cX6_init 0 = .ok (.aload_n 0, 1) := by decide +kernel
theorem dX6_init_1 : decode cX6_init 1 = .ok (.invokespecial 3, 3) := by decide +kernel
theorem dX6_init_4 : decode cX6_init 4 = .ok (.aload_n 0, 1) := by decide +kernel
theorem dX6_init_5 : decode cX6_init 5 = .ok (.bipush 9, 2) := by decide +kernel
theorem dX6_init_7 : decode cX6_init 7 = .ok (.newarray .int, 2) := by decide +kernel
theorem dX6_init_9 : decode cX6_init 9 = .ok (.putfield 9, 3) := by decide +kernel
theorem dX6_init_12 : decode cX6_init 12 = .ok (.aload_n 0, 1) := by decide +kernel
theorem dX6_init_13 : decode cX6_init 13 = .ok (.iconst 5, 1) := by decide +kernel
theorem dX6_init_14 : decode cX6_init 14 = .ok (.newarray .int, 2) := by decide +kernel
theorem dX6_init_16 : decode cX6_init 16 = .ok (.putfield 15, 3) := by decide +kernel
theorem dX6_init_19 : decode cX6_init 19 = .ok (.aload_n 0, 1) := by decide +kernel
theorem dX6_init_20 : decode cX6_init 20 = .ok (.iconst 5, 1) := by decide +kernel
theorem dX6_init_21 : decode cX6_init 21 = .ok (.newarray .int, 2) := by decide +kernel
theorem dX6_init_23 : decode cX6_init 23 = .ok (.putfield 18, 3) := by decide +kernel
theorem dX6_init_26 : decode cX6_init 26 = .ok (.aload_n 0, 1) := by decide +kernel
theorem dX6_init_27 : decode cX6_init 27 = .ok (.iconst 5, 1) := by decide +kernel
theorem dX6_init_28 : decode cX6_init 28 = .ok (.newarray .int, 2) := by decide +kernel
theorem dX6_init_30 : decode cX6_init 30 = .ok (.putfield 21, 3) := by decide +kernel
theorem dX6_init_33 : decode cX6_init 33 = .ok (.aload_n 0, 1) := by decide +kernel
theorem dX6_init_34 : decode cX6_init 34 = .ok (.iconst 5, 1) := by decide +kernel
theorem dX6_init_35 : decode cX6_init 35 = .ok (.newarray .int, 2) := by decide +kernel
theorem dX6_init_37 : decode cX6_init 37 = .ok (.putfield 24, 3) := by decide +kernel
theorem dX6_init_40 : decode cX6_init 40 = .ok (.aload_n 0, 1) := by decide +kernel
theorem dX6_init_41 : decode cX6_init 41 = .ok (.bipush 6, 2) := by decide +kernel
theorem dX6_init_43 : decode cX6_init 43 = .ok (.newarray .int, 2) := by decide +kernel
theorem dX6_init_45 : decode cX6_init 45 = .ok (.putfield 27, 3) := by decide +kernel
theorem dX6_init_48 : decode cX6_init 48 = .ok (.aload_n 0, 1) := by decide +kernel
theorem dX6_init_49 : decode cX6_init 49 = .ok (.bipush 20, 2) := by decide +kernel
theorem dX6_init_51 : decode cX6_init 51 = .ok (.newarray .int, 2) := by decide +kernel
theorem dX6_init_53 : decode cX6_init 53 = .ok (.putfield 30, 3) := by decide +kernel
theorem dX6_init_56 : decode cX6_init 56 = .ok (.aload_n 0, 1) := by decide +kernel
theorem dX6_init_57 : decode cX6_init 57 = .ok (.bipush 20, 2) := by decide +kernel
theorem dX6_init_59 : decode cX6_init 59 = .ok (.newarray .int, 2) := by decide +kernel
theorem dX6_init_61 : decode cX6_init 61 = .ok (.putfield 33, 3) := by decide +kernel
theorem dX6_init_64 : decode cX6_init 64 = .ok (.return_, 1) := by decide +kernel
theorem dX6_clear_0 : decode cX6_clear 0 = .ok (.aload_n 0, 1) := by decide +kernel
theorem dX6_clear_1 : decode cX6_clear 1 = .ok (.getfield 9, 3) := by decide +kernel
theorem dX6_clear_4 : decode cX6_clear 4 = .ok (.iconst 0, 1) := by decide +kernel
theorem dX6_clear_5 : decode cX6_clear 5 = .ok (.invokestatic 36, 3) := by decide +kernel
theorem dX6_clear_8 : decode cX6_clear 8 = .ok (.aload_n 0, 1) := by decide +kernel
theorem dX6_clear_9 : decode cX6_clear 9 = .ok (.getfield 9, 3) := by decide +kernel
theorem dX6_clear_12 : decode cX6_clear 12 = .ok (.iconst 0, 1) := by decide +kernel
theorem dX6_clear_13 : decode cX6_clear 13 = .ok (.iconst 1, 1) := by decide +kernel
theorem dX6_clear_14 : decode cX6_clear 14 = .ok (.iastore, 1) := by decide +kernel
theorem dX6_clear_15 : decode cX6_clear 15 = .ok (.aload_n 0, 1) := by decide +kernel
theorem dX6_clear_16 : decode cX6_clear 16 = .ok (.iconst 0, 1) := by decide +kernel
theorem dX6_clear_17 : decode cX6_clear 17 = .ok (.putfield 42, 3) := by decide +kernel
theorem dX6_clear_20 : decode cX6_clear 20 = .ok (.aload_n 0, 1) := by decide +kernel
theorem dX6_clear_21 : decode cX6_clear 21 = .ok (.getfield 24, 3) := by decide +kernel
theorem dX6_clear_24 : decode cX6_clear 24 = .ok (.iconst (-1), 1) := by decide +kernel
theorem dX6_clear_25 : decode cX6_clear 25 = .ok (.invokestatic 36, 3) := by decide +kernel
theorem dX6_clear_28 : decode cX6_clear 28 = .ok (.aload_n 0, 1) := by decide +kernel
theorem dX6_clear_29 : decode cX6_clear 29 = .ok (.iconst 0, 1) := by decide +kernel
theorem dX6_clear_30 : decode cX6_clear 30 = .ok (.putfield 46, 3) := by decide +kernel
theorem dX6_clear_33 : decode cX6_clear 33 = .ok (.aload_n 0, 1) := by decide +kernel
theorem dX6_clear_34 : decode cX6_clear 34 = .ok (.lconst 0, 1) := by decide +kernel
theorem dX6_clear_35 : decode cX6_clear 35 = .ok (.putfield 49, 3) := by decide +kernel
theorem dX6_clear_38 : decode cX6_clear 38 = .ok (.aload_n 0, 1) := by decide +kernel
theorem dX6_clear_39 : decode cX6_clear 39 = .ok (.iconst 0, 1) := by decide +kernel
theorem dX6_clear_40 : decode cX6_clear 40 = .ok (.putfield 53, 3) := by decide +kernel
theorem dX6_clear_43 : decode cX6_clear 43 = .ok (.return_, 1) := by decide +kernel
theorem dX6_hasCompartment_0 : decode cX6_hasCompartment 0 = .ok (.iload_n 1, 1) := by decide +kernel
theorem dX6_hasCompartment_1 : decode cX6_hasCompartment 1 = .ok (.ifCond .lt 15, 3) := by decide +kernel
theorem dX6_hasCompartment_4 : decode cX6_hasCompartment 4 = .ok (.iload_n 1, 1) := by decide +kernel
theorem dX6_hasCompartment_5 : decode cX6_hasCompartment 5 = .ok (.aload_n 0, 1) := by decide +kernel
theorem dX6_hasCompartment_6 : decode cX6_hasCompartment 6 = .ok (.getfield 42, 3) := by decide +kernel
theorem dX6_hasCompartment_9 : decode cX6_hasCompartment 9 = .ok (.if_icmp .ge 7, 3) := by decide +kernel
theorem dX6_hasCompartment_12 : decode cX6_hasCompartment 12 = .ok (.iconst 1, 1) := by decide +kernel
theorem dX6_hasCompartment_13 : decode cX6_hasCompartment 13 = .ok (.goto 4, 3) := by decide +kernel
theorem dX6_hasCompartment_16 : decode cX6_hasCompartment 16 = .ok (.iconst 0, 1) := by decide +kernel
theorem dX6_hasCompartment_17 : decode cX6_hasCompartment 17 = .ok (.ireturn, 1) := by decide +kernel
theorem dX6_hasLiquid_0 : decode cX6_hasLiquid 0 = .ok (.iload_n 1, 1) := by decide +kernel
theorem dX6_hasLiquid_1 : decode cX6_hasLiquid 1 = .ok (.ifCond .lt 15, 3) := by decide +kernel
theorem dX6_hasLiquid_4 : decode cX6_hasLiquid 4 = .ok (.iload_n 1, 1) := by decide +kernel
theorem dX6_hasLiquid_5 : decode cX6_hasLiquid 5 = .ok (.aload_n 0, 1) := by decide +kernel
theorem dX6_hasLiquid_6 : decode cX6_hasLiquid 6 = .ok (.getfield 46, 3) := by decide +kernel
theorem dX6_hasLiquid_9 : decode cX6_hasLiquid 9 = .ok (.if_icmp .ge 7, 3) := by decide +kernel
theorem dX6_hasLiquid_12 : decode cX6_hasLiquid 12 = .ok (.iconst 1, 1) := by decide +kernel
theorem dX6_hasLiquid_13 : decode cX6_hasLiquid 13 = .ok (.goto 4, 3) := by decide +kernel
theorem dX6_hasLiquid_16 : decode cX6_hasLiquid 16 = .ok (.iconst 0, 1) := by decide +kernel
theorem dX6_hasLiquid_17 : decode cX6_hasLiquid 17 = .ok (.ireturn, 1) := by decide +kernel
theorem dX6_top_0 : decode cX6_top 0 = .ok (.aload_n 0, 1) := by decide +kernel
theorem dX6_top_1 : decode cX6_top 1 = .ok (.getfield 15, 3) := by decide +kernel
theorem dX6_top_4 : decode cX6_top 4 = .ok (.iload_n 1, 1) := by decide +kernel
theorem dX6_top_5 : decode cX6_top 5 = .ok (.iaload, 1) := by decide +kernel
theorem dX6_top_6 : decode cX6_top 6 = .ok (.aload_n 0, 1) := by decide +kernel
theorem dX6_top_7 : decode cX6_top 7 = .ok (.getfield 9, 3) := by decide +kernel
theorem dX6_top_10 : decode cX6_top 10 = .ok (.bipush 6, 2) := by decide +kernel
theorem dX6_top_12 : decode cX6_top 12 = .ok (.iaload, 1) := by decide +kernel
theorem dX6_top_13 : decode cX6_top 13 = .ok (.imul, 1) := by decide +kernel
theorem dX6_top_14 : decode cX6_top 14 = .ok (.bipush 100, 2) := by decide +kernel
theorem dX6_top_16 : decode cX6_top 16 = .ok (.idiv, 1) := by decide +kernel
theorem dX6_top_17 : decode cX6_top 17 = .ok (.ireturn, 1) := by decide +kernel
theorem dX6_bar_0 : decode cX6_bar 0 = .ok (.aload_n 0, 1) := by decide +kernel
theorem dX6_bar_1 : decode cX6_bar 1 = .ok (.dup, 1) := by decide +kernel
theorem dX6_bar_2 : decode cX6_bar 2 = .ok (.getfield 49, 3) := by decide +kernel
theorem dX6_bar_5 : decode cX6_bar 5 = .ok (.lconst 1, 1) := by decide +kernel
theorem dX6_bar_6 : decode cX6_bar 6 = .ok (.iload_n 1, 1) := by decide +kernel
theorem dX6_bar_7 : decode cX6_bar 7 = .ok (.bipush 6, 2) := by decide +kernel
theorem dX6_bar_9 : decode cX6_bar 9 = .ok (.imul, 1) := by decide +kernel
theorem dX6_bar_10 : decode cX6_bar 10 = .ok (.iload_n 2, 1) := by decide +kernel
theorem dX6_bar_11 : decode cX6_bar 11 = .ok (.iadd, 1) := by decide +kernel
theorem dX6_bar_12 : decode cX6_bar 12 = .ok (.lshl, 1) := by decide +kernel
theorem dX6_bar_13 : decode cX6_bar 13 = .ok (.lor, 1) := by decide +kernel
theorem dX6_bar_14 : decode cX6_bar 14 = .ok (.putfield 49, 3) := by decide +kernel
theorem dX6_bar_17 : decode cX6_bar 17 = .ok (.return_, 1) := by decide +kernel
theorem dX6_isBarred_0 : decode cX6_isBarred 0 = .ok (.iload_n 1, 1) := by decide +kernel
theorem dX6_isBarred_1 : decode cX6_isBarred 1 = .ok (.iconst (-1), 1) := by decide +kernel
theorem dX6_isBarred_2 : decode cX6_isBarred 2 = .ok (.if_icmp .eq 25, 3) := by decide +kernel
theorem dX6_isBarred_5 : decode cX6_isBarred 5 = .ok (.aload_n 0, 1) := by decide +kernel
theorem dX6_isBarred_6 : decode cX6_isBarred 6 = .ok (.getfield 49, 3) := by decide +kernel
theorem dX6_isBarred_9 : decode cX6_isBarred 9 = .ok (.iload_n 1, 1) := by decide +kernel
theorem dX6_isBarred_10 : decode cX6_isBarred 10 = .ok (.bipush 6, 2) := by decide +kernel
theorem dX6_isBarred_12 : decode cX6_isBarred 12 = .ok (.imul, 1) := by decide +kernel
theorem dX6_isBarred_13 : decode cX6_isBarred 13 = .ok (.iload_n 2, 1) := by decide +kernel
theorem dX6_isBarred_14 : decode cX6_isBarred 14 = .ok (.iadd, 1) := by decide +kernel
theorem dX6_isBarred_15 : decode cX6_isBarred 15 = .ok (.lshr, 1) := by decide +kernel
theorem dX6_isBarred_16 : decode cX6_isBarred 16 = .ok (.lconst 1, 1) := by decide +kernel
theorem dX6_isBarred_17 : decode cX6_isBarred 17 = .ok (.land, 1) := by decide +kernel
theorem dX6_isBarred_18 : decode cX6_isBarred 18 = .ok (.lconst 0, 1) := by decide +kernel
theorem dX6_isBarred_19 : decode cX6_isBarred 19 = .ok (.lcmp, 1) := by decide +kernel
theorem dX6_isBarred_20 : decode cX6_isBarred 20 = .ok (.ifCond .eq 7, 3) := by decide +kernel
theorem dX6_isBarred_23 : decode cX6_isBarred 23 = .ok (.iconst 1, 1) := by decide +kernel
theorem dX6_isBarred_24 : decode cX6_isBarred 24 = .ok (.goto 4, 3) := by decide +kernel
theorem dX6_isBarred_27 : decode cX6_isBarred 27 = .ok (.iconst 0, 1) := by decide +kernel
theorem dX6_isBarred_28 : decode cX6_isBarred 28 = .ok (.ireturn, 1) := by decide +kernel
theorem dX7_init_0 : decode cX7_init 0 = .ok (.aload_n 0, 1) := by decide +kernel
theorem dX7_init_1 : decode cX7_init 1 = .ok (.invokespecial 3, 3) := by decide +kernel
theorem dX7_init_4 : decode cX7_init 4 = .ok (.aload_n 0, 1) := by decide +kernel
theorem dX7_init_5 : decode cX7_init 5 = .ok (.sipush 740, 3) := by decide +kernel
theorem dX7_init_8 : decode cX7_init 8 = .ok (.newarray .byte, 2) := by decide +kernel
theorem dX7_init_10 : decode cX7_init 10 = .ok (.putfield 9, 3) := by decide +kernel
theorem dX7_init_13 : decode cX7_init 13 = .ok (.aload_n 0, 1) := by decide +kernel
theorem dX7_init_14 : decode cX7_init 14 = .ok (.iconst 0, 1) := by decide +kernel
theorem dX7_init_15 : decode cX7_init 15 = .ok (.putfield 13, 3) := by decide +kernel
theorem dX7_init_18 : decode cX7_init 18 = .ok (.aload_n 0, 1) := by decide +kernel
theorem dX7_init_19 : decode cX7_init 19 = .ok (.iconst 0, 1) := by decide +kernel
theorem dX7_init_20 : decode cX7_init 20 = .ok (.putfield 17, 3) := by decide +kernel
theorem dX7_init_23 : decode cX7_init 23 = .ok (.aload_n 0, 1) := by decide +kernel
theorem dX7_init_24 : decode cX7_init 24 = .ok (.new 20, 3) := by decide +kernel
theorem dX7_init_27 : decode cX7_init 27 = .ok (.dup, 1) := by decide +kernel
theorem dX7_init_28 : decode cX7_init 28 = .ok (.invokespecial 22, 3) := by decide +kernel
theorem dX7_init_31 : decode cX7_init 31 = .ok (.putfield 23, 3) := by decide +kernel
theorem dX7_init_34 : decode cX7_init 34 = .ok (.aload_n 0, 1) := by decide +kernel
theorem dX7_init_35 : decode cX7_init 35 = .ok (.new 27, 3) := by decide +kernel
theorem dX7_init_38 : decode cX7_init 38 = .ok (.dup, 1) := by decide +kernel
theorem dX7_init_39 : decode cX7_init 39 = .ok (.invokespecial 29, 3) := by decide +kernel
theorem dX7_init_42 : decode cX7_init 42 = .ok (.putfield 30, 3) := by decide +kernel
theorem dX7_init_45 : decode cX7_init 45 = .ok (.aload_n 0, 1) := by decide +kernel
theorem dX7_init_46 : decode cX7_init 46 = .ok (.new 27, 3) := by decide +kernel
theorem dX7_init_49 : decode cX7_init 49 = .ok (.dup, 1) := by decide +kernel
theorem dX7_init_50 : decode cX7_init 50 = .ok (.invokespecial 29, 3) := by decide +kernel
theorem dX7_init_53 : decode cX7_init 53 = .ok (.putfield 34, 3) := by decide +kernel
theorem dX7_init_56 : decode cX7_init 56 = .ok (.aload_n 0, 1) := by decide +kernel
theorem dX7_init_57 : decode cX7_init 57 = .ok (.new 37, 3) := by decide +kernel
theorem dX7_init_60 : decode cX7_init 60 = .ok (.dup, 1) := by decide +kernel
theorem dX7_init_61 : decode cX7_init 61 = .ok (.invokespecial 39, 3) := by decide +kernel
theorem dX7_init_64 : decode cX7_init 64 = .ok (.putfield 40, 3) := by decide +kernel
theorem dX7_init_67 : decode cX7_init 67 = .ok (.aload_n 0, 1) := by decide +kernel
theorem dX7_init_68 : decode cX7_init 68 = .ok (.new 44, 3) := by decide +kernel
theorem dX7_init_71 : decode cX7_init 71 = .ok (.dup, 1) := by decide +kernel
theorem dX7_init_72 : decode cX7_init 72 = .ok (.invokespecial 46, 3) := by decide +kernel
theorem dX7_init_75 : decode cX7_init 75 = .ok (.putfield 47, 3) := by decide +kernel
theorem dX7_init_78 : decode cX7_init 78 = .ok (.aload_n 0, 1) := by decide +kernel
theorem dX7_init_79 : decode cX7_init 79 = .ok (.new 51, 3) := by decide +kernel
theorem dX7_init_82 : decode cX7_init 82 = .ok (.dup, 1) := by decide +kernel
theorem dX7_init_83 : decode cX7_init 83 = .ok (.invokespecial 53, 3) := by decide +kernel
theorem dX7_init_86 : decode cX7_init 86 = .ok (.putfield 54, 3) := by decide +kernel
theorem dX7_init_89 : decode cX7_init 89 = .ok (.aload_n 0, 1) := by decide +kernel
theorem dX7_init_90 : decode cX7_init 90 = .ok (.new 58, 3) := by decide +kernel
theorem dX7_init_93 : decode cX7_init 93 = .ok (.dup, 1) := by decide +kernel
theorem dX7_init_94 : decode cX7_init 94 = .ok (.invokespecial 60, 3) := by decide +kernel
theorem dX7_init_97 : decode cX7_init 97 = .ok (.putfield 61, 3) := by decide +kernel
theorem dX7_init_100 : decode cX7_init 100 = .ok (.aload_n 0, 1) := by decide +kernel
theorem dX7_init_101 : decode cX7_init 101 = .ok (.new 65, 3) := by decide +kernel
theorem dX7_init_104 : decode cX7_init 104 = .ok (.dup, 1) := by decide +kernel
theorem dX7_init_105 : decode cX7_init 105 = .ok (.invokespecial 67, 3) := by decide +kernel
theorem dX7_init_108 : decode cX7_init 108 = .ok (.putfield 68, 3) := by decide +kernel
theorem dX7_init_111 : decode cX7_init 111 = .ok (.aload_n 0, 1) := by decide +kernel
theorem dX7_init_112 : decode cX7_init 112 = .ok (.getfield 30, 3) := by decide +kernel
theorem dX7_init_115 : decode cX7_init 115 = .ok (.invokevirtual 72, 3) := by decide +kernel
theorem dX7_init_118 : decode cX7_init 118 = .ok (.aload_n 0, 1) := by decide +kernel
theorem dX7_init_119 : decode cX7_init 119 = .ok (.getfield 40, 3) := by decide +kernel
theorem dX7_init_122 : decode cX7_init 122 = .ok (.aload_n 0, 1) := by decide +kernel
theorem dX7_init_123 : decode cX7_init 123 = .ok (.getfield 30, 3) := by decide +kernel
theorem dX7_init_126 : decode cX7_init 126 = .ok (.invokevirtual 75, 3) := by decide +kernel
theorem dX7_init_129 : decode cX7_init 129 = .ok (.return_, 1) := by decide +kernel
theorem dX7_feed_0 : decode cX7_feed 0 = .ok (.aload_n 0, 1) := by decide +kernel
theorem dX7_feed_1 : decode cX7_feed 1 = .ok (.getfield 13, 3) := by decide +kernel
theorem dX7_feed_4 : decode cX7_feed 4 = .ok (.bipush 20, 2) := by decide +kernel
theorem dX7_feed_6 : decode cX7_feed 6 = .ok (.iadd, 1) := by decide +kernel
theorem dX7_feed_7 : decode cX7_feed 7 = .ok (.sipush 740, 3) := by decide +kernel
theorem dX7_feed_10 : decode cX7_feed 10 = .ok (.if_icmp .le 5, 3) := by decide +kernel
theorem dX7_feed_13 : decode cX7_feed 13 = .ok (.iconst (-1), 1) := by decide +kernel
theorem dX7_feed_14 : decode cX7_feed 14 = .ok (.ireturn, 1) := by decide +kernel
theorem dX7_feed_15 : decode cX7_feed 15 = .ok (.aload_n 0, 1) := by decide +kernel
theorem dX7_feed_16 : decode cX7_feed 16 = .ok (.iload_n 1, 1) := by decide +kernel
theorem dX7_feed_17 : decode cX7_feed 17 = .ok (.invokevirtual 79, 3) := by decide +kernel
theorem dX7_feed_20 : decode cX7_feed 20 = .ok (.aload_n 0, 1) := by decide +kernel
theorem dX7_feed_21 : decode cX7_feed 21 = .ok (.iload_n 2, 1) := by decide +kernel
theorem dX7_feed_22 : decode cX7_feed 22 = .ok (.invokevirtual 79, 3) := by decide +kernel
theorem dX7_feed_25 : decode cX7_feed 25 = .ok (.aload_n 0, 1) := by decide +kernel
theorem dX7_feed_26 : decode cX7_feed 26 = .ok (.iload_n 3, 1) := by decide +kernel
theorem dX7_feed_27 : decode cX7_feed 27 = .ok (.invokevirtual 79, 3) := by decide +kernel
theorem dX7_feed_30 : decode cX7_feed 30 = .ok (.aload_n 0, 1) := by decide +kernel
theorem dX7_feed_31 : decode cX7_feed 31 = .ok (.iload 4, 2) := by decide +kernel
theorem dX7_feed_33 : decode cX7_feed 33 = .ok (.invokevirtual 79, 3) := by decide +kernel
theorem dX7_feed_36 : decode cX7_feed 36 = .ok (.aload_n 0, 1) := by decide +kernel
theorem dX7_feed_37 : decode cX7_feed 37 = .ok (.iload 5, 2) := by decide +kernel
theorem dX7_feed_39 : decode cX7_feed 39 = .ok (.invokevirtual 79, 3) := by decide +kernel
theorem dX7_feed_42 : decode cX7_feed 42 = .ok (.aload_n 0, 1) := by decide +kernel
theorem dX7_feed_43 : decode cX7_feed 43 = .ok (.getfield 13, 3) := by decide +kernel
theorem dX7_feed_46 : decode cX7_feed 46 = .ok (.ireturn, 1) := by decide +kernel
theorem dX7_end_0 : decode cX7_end 0 = .ok (.iload_n 1, 1) := by decide +kernel
theorem dX7_end_1 : decode cX7_end 1 = .ok (.ifCond .lt 11, 3) := by decide +kernel
theorem dX7_end_4 : decode cX7_end 4 = .ok (.iload_n 1, 1) := by decide +kernel
theorem dX7_end_5 : decode cX7_end 5 = .ok (.aload_n 0, 1) := by decide +kernel
theorem dX7_end_6 : decode cX7_end 6 = .ok (.getfield 13, 3) := by decide +kernel
theorem dX7_end_9 : decode cX7_end 9 = .ok (.if_icmp .le 5, 3) := by decide +kernel
theorem dX7_end_12 : decode cX7_end 12 = .ok (.iconst 0, 1) := by decide +kernel
theorem dX7_end_13 : decode cX7_end 13 = .ok (.ireturn, 1) := by decide +kernel
theorem dX7_end_14 : decode cX7_end 14 = .ok (.aload_n 0, 1) := by decide +kernel
theorem dX7_end_15 : decode cX7_end 15 = .ok (.iload_n 1, 1) := by decide +kernel
theorem dX7_end_16 : decode cX7_end 16 = .ok (.putfield 13, 3) := by decide +kernel
theorem dX7_end_19 : decode cX7_end 19 = .ok (.iconst 1, 1) := by decide +kernel
theorem dX7_end_20 : decode cX7_end 20 = .ok (.ireturn, 1) := by decide +kernel
theorem dX7_text_0 : decode cX7_text 0 = .ok (.aload_n 0, 1) := by decide +kernel
theorem dX7_text_1 : decode cX7_text 1 = .ok (.getfield 23, 3) := by decide +kernel
theorem dX7_text_4 : decode cX7_text 4 = .ok (.aload_n 0, 1) := by decide +kernel
theorem dX7_text_5 : decode cX7_text 5 = .ok (.getfield 9, 3) := by decide +kernel
theorem dX7_text_8 : decode cX7_text 8 = .ok (.aload_n 0, 1) := by decide +kernel
theorem dX7_text_9 : decode cX7_text 9 = .ok (.getfield 13, 3) := by decide +kernel
theorem dX7_text_12 : decode cX7_text 12 = .ok (.aload_n 0, 1) := by decide +kernel
theorem dX7_text_13 : decode cX7_text 13 = .ok (.getfield 34, 3) := by decide +kernel
theorem dX7_text_16 : decode cX7_text 16 = .ok (.invokevirtual 83, 3) := by decide +kernel
theorem dX7_text_19 : decode cX7_text 19 = .ok (.istore_n 1, 1) := by decide +kernel
theorem dX7_text_20 : decode cX7_text 20 = .ok (.aload_n 0, 1) := by decide +kernel
theorem dX7_text_21 : decode cX7_text 21 = .ok (.iconst 0, 1) := by decide +kernel
theorem dX7_text_22 : decode cX7_text 22 = .ok (.putfield 13, 3) := by decide +kernel
theorem dX7_text_25 : decode cX7_text 25 = .ok (.aload_n 0, 1) := by decide +kernel
theorem dX7_text_26 : decode cX7_text 26 = .ok (.iload_n 1, 1) := by decide +kernel
theorem dX7_text_27 : decode cX7_text 27 = .ok (.ifCond .eq 7, 3) := by decide +kernel
theorem dX7_text_30 : decode cX7_text 30 = .ok (.iconst 0, 1) := by decide +kernel
theorem dX7_text_31 : decode cX7_text 31 = .ok (.goto 10, 3) := by decide +kernel
theorem dX7_text_34 : decode cX7_text 34 = .ok (.aload_n 0, 1) := by decide +kernel
theorem dX7_text_35 : decode cX7_text 35 = .ok (.getfield 23, 3) := by decide +kernel
theorem dX7_text_38 : decode cX7_text 38 = .ok (.getfield 87, 3) := by decide +kernel
theorem dX7_text_41 : decode cX7_text 41 = .ok (.putfield 17, 3) := by decide +kernel
theorem dX7_text_44 : decode cX7_text 44 = .ok (.iload_n 1, 1) := by decide +kernel
theorem dX7_text_45 : decode cX7_text 45 = .ok (.ifCond .ne 13, 3) := by decide +kernel
theorem dX7_text_48 : decode cX7_text 48 = .ok (.iconst (-1), 1) := by decide +kernel
theorem dX7_text_49 : decode cX7_text 49 = .ok (.aload_n 0, 1) := by decide +kernel
theorem dX7_text_50 : decode cX7_text 50 = .ok (.getfield 23, 3) := by decide +kernel
theorem dX7_text_53 : decode cX7_text 53 = .ok (.getfield 90, 3) := by decide +kernel
theorem dX7_text_56 : decode cX7_text 56 = .ok (.isub, 1) := by decide +kernel
theorem dX7_text_57 : decode cX7_text 57 = .ok (.ireturn, 1) := by decide +kernel
theorem dX7_text_58 : decode cX7_text 58 = .ok (.aload_n 0, 1) := by decide +kernel
theorem dX7_text_59 : decode cX7_text 59 = .ok (.getfield 30, 3) := by decide +kernel
theorem dX7_text_62 : decode cX7_text 62 = .ok (.astore_n 2, 1) := by decide +kernel
theorem dX7_text_63 : decode cX7_text 63 = .ok (.aload_n 0, 1) := by decide +kernel
theorem dX7_text_64 : decode cX7_text 64 = .ok (.aload_n 0, 1) := by decide +kernel
theorem dX7_text_65 : decode cX7_text 65 = .ok (.getfield 34, 3) := by decide +kernel
theorem dX7_text_68 : decode cX7_text 68 = .ok (.putfield 30, 3) := by decide +kernel
theorem dX7_text_71 : decode cX7_text 71 = .ok (.aload_n 0, 1) := by decide +kernel
theorem dX7_text_72 : decode cX7_text 72 = .ok (.aload_n 2, 1) := by decide +kernel
theorem dX7_text_73 : decode cX7_text 73 = .ok (.putfield 34, 3) := by decide +kernel
theorem dX7_text_76 : decode cX7_text 76 = .ok (.aload_n 0, 1) := by decide +kernel
theorem dX7_text_77 : decode cX7_text 77 = .ok (.getfield 40, 3) := by decide +kernel
theorem dX7_text_80 : decode cX7_text 80 = .ok (.aload_n 0, 1) := by decide +kernel
theorem dX7_text_81 : decode cX7_text 81 = .ok (.getfield 30, 3) := by decide +kernel
theorem dX7_text_84 : decode cX7_text 84 = .ok (.invokevirtual 75, 3) := by decide +kernel
theorem dX7_text_87 : decode cX7_text 87 = .ok (.aload_n 0, 1) := by decide +kernel
theorem dX7_text_88 : decode cX7_text 88 = .ok (.getfield 47, 3) := by decide +kernel
theorem dX7_text_91 : decode cX7_text 91 = .ok (.invokevirtual 93, 3) := by decide +kernel
theorem dX7_text_94 : decode cX7_text 94 = .ok (.aload_n 0, 1) := by decide +kernel
theorem dX7_text_95 : decode cX7_text 95 = .ok (.getfield 23, 3) := by decide +kernel
theorem dX7_text_98 : decode cX7_text 98 = .ok (.getfield 96, 3) := by decide +kernel
theorem dX7_text_101 : decode cX7_text 101 = .ok (.ireturn, 1) := by decide +kernel
theorem dX7_fault_0 : decode cX7_fault 0 = .ok (.aload_n 0, 1) := by decide +kernel
theorem dX7_fault_1 : decode cX7_fault 1 = .ok (.getfield 17, 3) := by decide +kernel
theorem dX7_fault_4 : decode cX7_fault 4 = .ok (.ireturn, 1) := by decide +kernel
theorem dX7_now_0 : decode cX7_now 0 = .ok (.iload_n 1, 1) := by decide +kernel
theorem dX7_now_1 : decode cX7_now 1 = .ok (.tableswitch 159 0 9 #[55, 63, 71, 79, 90, 106, 122, 138, 146, 154], 55) := by decide +kernel
theorem dX7_now_56 : decode cX7_now 56 = .ok (.aload_n 0, 1) := by decide +kernel
theorem dX7_now_57 : decode cX7_now 57 = .ok (.getfield 30, 3) := by decide +kernel
theorem dX7_now_60 : decode cX7_now 60 = .ok (.getfield 99, 3) := by decide +kernel
theorem dX7_now_63 : decode cX7_now 63 = .ok (.ireturn, 1) := by decide +kernel
theorem dX7_now_64 : decode cX7_now 64 = .ok (.aload_n 0, 1) := by decide +kernel
theorem dX7_now_65 : decode cX7_now 65 = .ok (.getfield 30, 3) := by decide +kernel
theorem dX7_now_68 : decode cX7_now 68 = .ok (.getfield 102, 3) := by decide +kernel
theorem dX7_now_71 : decode cX7_now 71 = .ok (.ireturn, 1) := by decide +kernel
theorem dX7_now_72 : decode cX7_now 72 = .ok (.aload_n 0, 1) := by decide +kernel
theorem dX7_now_73 : decode cX7_now 73 = .ok (.getfield 40, 3) := by decide +kernel
theorem dX7_now_76 : decode cX7_now 76 = .ok (.getfield 105, 3) := by decide +kernel
theorem dX7_now_79 : decode cX7_now 79 = .ok (.ireturn, 1) := by decide +kernel
theorem dX7_now_80 : decode cX7_now 80 = .ok (.aload_n 0, 1) := by decide +kernel
theorem dX7_now_81 : decode cX7_now 81 = .ok (.getfield 30, 3) := by decide +kernel
theorem dX7_now_84 : decode cX7_now 84 = .ok (.getfield 108, 3) := by decide +kernel
theorem dX7_now_87 : decode cX7_now 87 = .ok (.invokestatic 112, 3) := by decide +kernel
theorem dX7_now_90 : decode cX7_now 90 = .ok (.ireturn, 1) := by decide +kernel
theorem dX7_now_91 : decode cX7_now 91 = .ok (.aload_n 0, 1) := by decide +kernel
theorem dX7_now_92 : decode cX7_now 92 = .ok (.getfield 40, 3) := by decide +kernel
theorem dX7_now_95 : decode cX7_now 95 = .ok (.getfield 118, 3) := by decide +kernel
theorem dX7_now_98 : decode cX7_now 98 = .ok (.aload_n 0, 1) := by decide +kernel
theorem dX7_now_99 : decode cX7_now 99 = .ok (.getfield 30, 3) := by decide +kernel
theorem dX7_now_102 : decode cX7_now 102 = .ok (.iconst 0, 1) := by decide +kernel
theorem dX7_now_103 : decode cX7_now 103 = .ok (.invokevirtual 121, 3) := by decide +kernel
theorem dX7_now_106 : decode cX7_now 106 = .ok (.ireturn, 1) := by decide +kernel
theorem dX7_now_107 : decode cX7_now 107 = .ok (.aload_n 0, 1) := by decide +kernel
theorem dX7_now_108 : decode cX7_now 108 = .ok (.getfield 40, 3) := by decide +kernel
theorem dX7_now_111 : decode cX7_now 111 = .ok (.getfield 118, 3) := by decide +kernel
theorem dX7_now_114 : decode cX7_now 114 = .ok (.aload_n 0, 1) := by decide +kernel
theorem dX7_now_115 : decode cX7_now 115 = .ok (.getfield 30, 3) := by decide +kernel
theorem dX7_now_118 : decode cX7_now 118 = .ok (.iconst 0, 1) := by decide +kernel
theorem dX7_now_119 : decode cX7_now 119 = .ok (.invokevirtual 125, 3) := by decide +kernel
theorem dX7_now_122 : decode cX7_now 122 = .ok (.ireturn, 1) := by decide +kernel
theorem dX7_now_123 : decode cX7_now 123 = .ok (.aload_n 0, 1) := by decide +kernel
theorem dX7_now_124 : decode cX7_now 124 = .ok (.getfield 40, 3) := by decide +kernel
theorem dX7_now_127 : decode cX7_now 127 = .ok (.getfield 118, 3) := by decide +kernel
theorem dX7_now_130 : decode cX7_now 130 = .ok (.aload_n 0, 1) := by decide +kernel
theorem dX7_now_131 : decode cX7_now 131 = .ok (.getfield 30, 3) := by decide +kernel
theorem dX7_now_134 : decode cX7_now 134 = .ok (.iconst 0, 1) := by decide +kernel
theorem dX7_now_135 : decode cX7_now 135 = .ok (.invokevirtual 128, 3) := by decide +kernel
theorem dX7_now_138 : decode cX7_now 138 = .ok (.ireturn, 1) := by decide +kernel
theorem dX7_now_139 : decode cX7_now 139 = .ok (.aload_n 0, 1) := by decide +kernel
theorem dX7_now_140 : decode cX7_now 140 = .ok (.getfield 40, 3) := by decide +kernel
theorem dX7_now_143 : decode cX7_now 143 = .ok (.getfield 131, 3) := by decide +kernel
theorem dX7_now_146 : decode cX7_now 146 = .ok (.ireturn, 1) := by decide +kernel
theorem dX7_now_147 : decode cX7_now 147 = .ok (.aload_n 0, 1) := by decide +kernel
theorem dX7_now_148 : decode cX7_now 148 = .ok (.getfield 47, 3) := by decide +kernel
theorem dX7_now_151 : decode cX7_now 151 = .ok (.getfield 134, 3) := by decide +kernel
theorem dX7_now_154 : decode cX7_now 154 = .ok (.ireturn, 1) := by decide +kernel
theorem dX7_now_155 : decode cX7_now 155 = .ok (.aload_n 0, 1) := by decide +kernel
theorem dX7_now_156 : decode cX7_now 156 = .ok (.getfield 13, 3) := by decide +kernel
theorem dX7_now_159 : decode cX7_now 159 = .ok (.ireturn, 1) := by decide +kernel
theorem dX7_now_160 : decode cX7_now 160 = .ok (.ldc 137, 2) := by decide +kernel
theorem dX7_now_162 : decode cX7_now 162 = .ok (.ireturn, 1) := by decide +kernel
theorem dX7_compartment_0 : decode cX7_compartment 0 = .ok (.aload_n 0, 1) := by decide +kernel
theorem dX7_compartment_1 : decode cX7_compartment 1 = .ok (.getfield 30, 3) := by decide +kernel
theorem dX7_compartment_4 : decode cX7_compartment 4 = .ok (.iload_n 1, 1) := by decide +kernel
theorem dX7_compartment_5 : decode cX7_compartment 5 = .ok (.invokevirtual 138, 3) := by decide +kernel
theorem dX7_compartment_8 : decode cX7_compartment 8 = .ok (.ifCond .ne 5, 3) := by decide +kernel
theorem dX7_compartment_11 : decode cX7_compartment 11 = .ok (.iconst (-1), 1) := by decide +kernel
theorem dX7_compartment_12 : decode cX7_compartment 12 = .ok (.ireturn, 1) := by decide +kernel
theorem dX7_compartment_13 : decode cX7_compartment 13 = .ok (.iload_n 2, 1) := by decide +kernel
theorem dX7_compartment_14 : decode cX7_compartment 14 = .ok (.tableswitch 120 0 6 #[42, 52, 62, 72, 81, 94, 107], 42) := by decide +kernel
theorem dX7_compartment_56 : decode cX7_compartment 56 = .ok (.aload_n 0, 1) := by decide +kernel
theorem dX7_compartment_57 : decode cX7_compartment 57 = .ok (.getfield 30, 3) := by decide +kernel
theorem dX7_compartment_60 : decode cX7_compartment 60 = .ok (.getfield 142, 3) := by decide +kernel
theorem dX7_compartment_63 : decode cX7_compartment 63 = .ok (.iload_n 1, 1) := by decide +kernel
theorem dX7_compartment_64 : decode cX7_compartment 64 = .ok (.iaload, 1) := by decide +kernel
theorem dX7_compartment_65 : decode cX7_compartment 65 = .ok (.ireturn, 1) := by decide +kernel
theorem dX7_compartment_66 : decode cX7_compartment 66 = .ok (.aload_n 0, 1) := by decide +kernel
theorem dX7_compartment_67 : decode cX7_compartment 67 = .ok (.getfield 30, 3) := by decide +kernel
theorem dX7_compartment_70 : decode cX7_compartment 70 = .ok (.getfield 146, 3) := by decide +kernel
theorem dX7_compartment_73 : decode cX7_compartment 73 = .ok (.iload_n 1, 1) := by decide +kernel
theorem dX7_compartment_74 : decode cX7_compartment 74 = .ok (.iaload, 1) := by decide +kernel
theorem dX7_compartment_75 : decode cX7_compartment 75 = .ok (.ireturn, 1) := by decide +kernel
theorem dX7_compartment_76 : decode cX7_compartment 76 = .ok (.aload_n 0, 1) := by decide +kernel
theorem dX7_compartment_77 : decode cX7_compartment 77 = .ok (.getfield 30, 3) := by decide +kernel
theorem dX7_compartment_80 : decode cX7_compartment 80 = .ok (.getfield 149, 3) := by decide +kernel
theorem dX7_compartment_83 : decode cX7_compartment 83 = .ok (.iload_n 1, 1) := by decide +kernel
theorem dX7_compartment_84 : decode cX7_compartment 84 = .ok (.iaload, 1) := by decide +kernel
theorem dX7_compartment_85 : decode cX7_compartment 85 = .ok (.ireturn, 1) := by decide +kernel
theorem dX7_compartment_86 : decode cX7_compartment 86 = .ok (.aload_n 0, 1) := by decide +kernel
theorem dX7_compartment_87 : decode cX7_compartment 87 = .ok (.getfield 30, 3) := by decide +kernel
theorem dX7_compartment_90 : decode cX7_compartment 90 = .ok (.iload_n 1, 1) := by decide +kernel
theorem dX7_compartment_91 : decode cX7_compartment 91 = .ok (.invokevirtual 152, 3) := by decide +kernel
theorem dX7_compartment_94 : decode cX7_compartment 94 = .ok (.ireturn, 1) := by decide +kernel
theorem dX7_compartment_95 : decode cX7_compartment 95 = .ok (.aload_n 0, 1) := by decide +kernel
theorem dX7_compartment_96 : decode cX7_compartment 96 = .ok (.getfield 40, 3) := by decide +kernel
theorem dX7_compartment_99 : decode cX7_compartment 99 = .ok (.getfield 118, 3) := by decide +kernel
theorem dX7_compartment_102 : decode cX7_compartment 102 = .ok (.getfield 156, 3) := by decide +kernel
theorem dX7_compartment_105 : decode cX7_compartment 105 = .ok (.iload_n 1, 1) := by decide +kernel
theorem dX7_compartment_106 : decode cX7_compartment 106 = .ok (.iaload, 1) := by decide +kernel
theorem dX7_compartment_107 : decode cX7_compartment 107 = .ok (.ireturn, 1) := by decide +kernel
theorem dX7_compartment_108 : decode cX7_compartment 108 = .ok (.aload_n 0, 1) := by decide +kernel
theorem dX7_compartment_109 : decode cX7_compartment 109 = .ok (.getfield 40, 3) := by decide +kernel
theorem dX7_compartment_112 : decode cX7_compartment 112 = .ok (.getfield 118, 3) := by decide +kernel
theorem dX7_compartment_115 : decode cX7_compartment 115 = .ok (.getfield 159, 3) := by decide +kernel
theorem dX7_compartment_118 : decode cX7_compartment 118 = .ok (.iload_n 1, 1) := by decide +kernel
theorem dX7_compartment_119 : decode cX7_compartment 119 = .ok (.iaload, 1) := by decide +kernel
theorem dX7_compartment_120 : decode cX7_compartment 120 = .ok (.ireturn, 1) := by decide +kernel
theorem dX7_compartment_121 : decode cX7_compartment 121 = .ok (.aload_n 0, 1) := by decide +kernel
theorem dX7_compartment_122 : decode cX7_compartment 122 = .ok (.getfield 40, 3) := by decide +kernel
theorem dX7_compartment_125 : decode cX7_compartment 125 = .ok (.getfield 118, 3) := by decide +kernel
theorem dX7_compartment_128 : decode cX7_compartment 128 = .ok (.getfield 162, 3) := by decide +kernel
theorem dX7_compartment_131 : decode cX7_compartment 131 = .ok (.iload_n 1, 1) := by decide +kernel
theorem dX7_compartment_132 : decode cX7_compartment 132 = .ok (.iaload, 1) := by decide +kernel
theorem dX7_compartment_133 : decode cX7_compartment 133 = .ok (.ireturn, 1) := by decide +kernel
theorem dX7_compartment_134 : decode cX7_compartment 134 = .ok (.iconst (-1), 1) := by decide +kernel
theorem dX7_compartment_135 : decode cX7_compartment 135 = .ok (.ireturn, 1) := by decide +kernel
theorem dX7_drop_0 : decode cX7_drop 0 = .ok (.aload_n 0, 1) := by decide +kernel
theorem dX7_drop_1 : decode cX7_drop 1 = .ok (.getfield 40, 3) := by decide +kernel
theorem dX7_drop_4 : decode cX7_drop 4 = .ok (.iload_n 1, 1) := by decide +kernel
theorem dX7_drop_5 : decode cX7_drop 5 = .ok (.invokevirtual 165, 3) := by decide +kernel
theorem dX7_drop_8 : decode cX7_drop 8 = .ok (.ifCond .eq 12, 3) := by decide +kernel
theorem dX7_drop_11 : decode cX7_drop 11 = .ok (.iload_n 2, 1) := by decide +kernel
theorem dX7_drop_12 : decode cX7_drop 12 = .ok (.ifCond .lt 8, 3) := by decide +kernel
theorem dX7_drop_15 : decode cX7_drop 15 = .ok (.iload_n 2, 1) := by decide +kernel
theorem dX7_drop_16 : decode cX7_drop 16 = .ok (.iconst 5, 1) := by decide +kernel
theorem dX7_drop_17 : decode cX7_drop 17 = .ok (.if_icmp .le 11, 3) := by decide +kernel
theorem dX7_drop_20 : decode cX7_drop 20 = .ok (.new 168, 3) := by decide +kernel
theorem dX7_drop_23 : decode cX7_drop 23 = .ok (.dup, 1) := by decide +kernel
theorem dX7_drop_24 : decode cX7_drop 24 = .ok (.invokespecial 170, 3) := by decide +kernel
theorem dX7_drop_27 : decode cX7_drop 27 = .ok (.athrow, 1) := by decide +kernel
theorem dX7_drop_28 : decode cX7_drop 28 = .ok (.iload_n 2, 1) := by decide +kernel
theorem dX7_drop_29 : decode cX7_drop 29 = .ok (.tableswitch 90 0 4 #[35, 45, 55, 67, 80], 35) := by decide +kernel
theorem dX7_drop_64 : decode cX7_drop 64 = .ok (.aload_n 0, 1) := by decide +kernel
theorem dX7_drop_65 : decode cX7_drop 65 = .ok (.getfield 30, 3) := by decide +kernel
theorem dX7_drop_68 : decode cX7_drop 68 = .ok (.getfield 171, 3) := by decide +kernel
theorem dX7_drop_71 : decode cX7_drop 71 = .ok (.iload_n 1, 1) := by decide +kernel
theorem dX7_drop_72 : decode cX7_drop 72 = .ok (.iaload, 1) := by decide +kernel
theorem dX7_drop_73 : decode cX7_drop 73 = .ok (.ireturn, 1) := by decide +kernel
theorem dX7_drop_74 : decode cX7_drop 74 = .ok (.aload_n 0, 1) := by decide +kernel
theorem dX7_drop_75 : decode cX7_drop 75 = .ok (.getfield 30, 3) := by decide +kernel
theorem dX7_drop_78 : decode cX7_drop 78 = .ok (.getfield 174, 3) := by decide +kernel
theorem dX7_drop_81 : decode cX7_drop 81 = .ok (.iload_n 1, 1) := by decide +kernel
theorem dX7_drop_82 : decode cX7_drop 82 = .ok (.iaload, 1) := by decide +kernel
theorem dX7_drop_83 : decode cX7_drop 83 = .ok (.ireturn, 1) := by decide +kernel
theorem dX7_drop_84 : decode cX7_drop 84 = .ok (.aload_n 0, 1) := by decide +kernel
theorem dX7_drop_85 : decode cX7_drop 85 = .ok (.getfield 40, 3) := by decide +kernel
theorem dX7_drop_88 : decode cX7_drop 88 = .ok (.getfield 118, 3) := by decide +kernel
theorem dX7_drop_91 : decode cX7_drop 91 = .ok (.iload_n 1, 1) := by decide +kernel
theorem dX7_drop_92 : decode cX7_drop 92 = .ok (.invokevirtual 177, 3) := by decide +kernel
theorem dX7_drop_95 : decode cX7_drop 95 = .ok (.ireturn, 1) := by decide +kernel
theorem dX7_drop_96 : decode cX7_drop 96 = .ok (.aload_n 0, 1) := by decide +kernel
theorem dX7_drop_97 : decode cX7_drop 97 = .ok (.getfield 40, 3) := by decide +kernel
theorem dX7_drop_100 : decode cX7_drop 100 = .ok (.aload_n 0, 1) := by decide +kernel
theorem dX7_drop_101 : decode cX7_drop 101 = .ok (.getfield 30, 3) := by decide +kernel
theorem dX7_drop_104 : decode cX7_drop 104 = .ok (.iload_n 1, 1) := by decide +kernel
theorem dX7_drop_105 : decode cX7_drop 105 = .ok (.invokevirtual 180, 3) := by decide +kernel
theorem dX7_drop_108 : decode cX7_drop 108 = .ok (.ireturn, 1) := by decide +kernel
theorem dX7_drop_109 : decode cX7_drop 109 = .ok (.aload_n 0, 1) := by decide +kernel
theorem dX7_drop_110 : decode cX7_drop 110 = .ok (.getfield 40, 3) := by decide +kernel
theorem dX7_drop_113 : decode cX7_drop 113 = .ok (.getfield 183, 3) := by decide +kernel
theorem dX7_drop_116 : decode cX7_drop 116 = .ok (.iload_n 1, 1) := by decide +kernel
theorem dX7_drop_117 : decode cX7_drop 117 = .ok (.iaload, 1) := by decide +kernel
theorem dX7_drop_118 : decode cX7_drop 118 = .ok (.ireturn, 1) := by decide +kernel
theorem dX7_drop_119 : decode cX7_drop 119 = .ok (.aload_n 0, 1) := by decide +kernel
theorem dX7_drop_120 : decode cX7_drop 120 = .ok (.getfield 40, 3) := by decide +kernel
theorem dX7_drop_123 : decode cX7_drop 123 = .ok (.aload_n 0, 1) := by decide +kernel
theorem dX7_drop_124 : decode cX7_drop 124 = .ok (.getfield 30, 3) := by decide +kernel
theorem dX7_drop_127 : decode cX7_drop 127 = .ok (.iload_n 1, 1) := by decide +kernel
theorem dX7_drop_128 : decode cX7_drop 128 = .ok (.invokevirtual 186, 3) := by decide +kernel
theorem dX7_drop_131 : decode cX7_drop 131 = .ok (.ireturn, 1) := by decide +kernel
theorem dX7_may_0 : decode cX7_may 0 = .ok (.aload_n 0, 1) := by decide +kernel
theorem dX7_may_1 : decode cX7_may 1 = .ok (.getfield 30, 3) := by decide +kernel
theorem dX7_may_4 : decode cX7_may 4 = .ok (.iload_n 1, 1) := by decide +kernel
theorem dX7_may_5 : decode cX7_may 5 = .ok (.invokevirtual 138, 3) := by decide +kernel
theorem dX7_may_8 : decode cX7_may 8 = .ok (.ifCond .eq 41, 3) := by decide +kernel
theorem dX7_may_11 : decode cX7_may 11 = .ok (.aload_n 0, 1) := by decide +kernel
theorem dX7_may_12 : decode cX7_may 12 = .ok (.getfield 30, 3) := by decide +kernel
theorem dX7_may_15 : decode cX7_may 15 = .ok (.iload_n 2, 1) := by decide +kernel
theorem dX7_may_16 : decode cX7_may 16 = .ok (.invokevirtual 189, 3) := by decide +kernel
theorem dX7_may_19 : decode cX7_may 19 = .ok (.ifCond .eq 30, 3) := by decide +kernel
theorem dX7_may_22 : decode cX7_may 22 = .ok (.aload_n 0, 1) := by decide +kernel
theorem dX7_may_23 : decode cX7_may 23 = .ok (.getfield 30, 3) := by decide +kernel
theorem dX7_may_26 : decode cX7_may 26 = .ok (.aload_n 0, 1) := by decide +kernel
theorem dX7_may_27 : decode cX7_may 27 = .ok (.getfield 40, 3) := by decide +kernel
theorem dX7_may_30 : decode cX7_may 30 = .ok (.getfield 118, 3) := by decide +kernel
theorem dX7_may_33 : decode cX7_may 33 = .ok (.getfield 162, 3) := by decide +kernel
theorem dX7_may_36 : decode cX7_may 36 = .ok (.iload_n 1, 1) := by decide +kernel
theorem dX7_may_37 : decode cX7_may 37 = .ok (.iaload, 1) := by decide +kernel
theorem dX7_may_38 : decode cX7_may 38 = .ok (.iload_n 2, 1) := by decide +kernel
theorem dX7_may_39 : decode cX7_may 39 = .ok (.invokevirtual 192, 3) := by decide +kernel
theorem dX7_may_42 : decode cX7_may 42 = .ok (.ifCond .ne 7, 3) := by decide +kernel
theorem dX7_may_45 : decode cX7_may 45 = .ok (.iconst 1, 1) := by decide +kernel
theorem dX7_may_46 : decode cX7_may 46 = .ok (.goto 4, 3) := by decide +kernel
theorem dX7_may_49 : decode cX7_may 49 = .ok (.iconst 0, 1) := by decide +kernel
theorem dX7_may_50 : decode cX7_may 50 = .ok (.ireturn, 1) := by decide +kernel
theorem dX7_would_0 : decode cX7_would 0 = .ok (.aload_n 0, 1) := by decide +kernel
theorem dX7_would_1 : decode cX7_would 1 = .ok (.getfield 30, 3) := by decide +kernel
theorem dX7_would_4 : decode cX7_would 4 = .ok (.iload_n 1, 1) := by decide +kernel
theorem dX7_would_5 : decode cX7_would 5 = .ok (.invokevirtual 138, 3) := by decide +kernel
theorem dX7_would_8 : decode cX7_would 8 = .ok (.ifCond .eq 31, 3) := by decide +kernel
theorem dX7_would_11 : decode cX7_would 11 = .ok (.aload_n 0, 1) := by decide +kernel
theorem dX7_would_12 : decode cX7_would 12 = .ok (.getfield 30, 3) := by decide +kernel
theorem dX7_would_15 : decode cX7_would 15 = .ok (.iload_n 2, 1) := by decide +kernel
theorem dX7_would_16 : decode cX7_would 16 = .ok (.invokevirtual 189, 3) := by decide +kernel
theorem dX7_would_19 : decode cX7_would 19 = .ok (.ifCond .eq 20, 3) := by decide +kernel
theorem dX7_would_22 : decode cX7_would 22 = .ok (.iload_n 3, 1) := by decide +kernel
theorem dX7_would_23 : decode cX7_would 23 = .ok (.ifCond .lt 16, 3) := by decide +kernel
theorem dX7_would_26 : decode cX7_would 26 = .ok (.iload_n 3, 1) := by decide +kernel
theorem dX7_would_27 : decode cX7_would 27 = .ok (.aload_n 0, 1) := by decide +kernel
theorem dX7_would_28 : decode cX7_would 28 = .ok (.getfield 30, 3) := by decide +kernel
theorem dX7_would_31 : decode cX7_would 31 = .ok (.getfield 142, 3) := by decide +kernel
theorem dX7_would_34 : decode cX7_would 34 = .ok (.iload_n 1, 1) := by decide +kernel
theorem dX7_would_35 : decode cX7_would 35 = .ok (.iaload, 1) := by decide +kernel
theorem dX7_would_36 : decode cX7_would 36 = .ok (.if_icmp .le 5, 3) := by decide +kernel
theorem dX7_would_39 : decode cX7_would 39 = .ok (.iconst (-1), 1) := by decide +kernel
theorem dX7_would_40 : decode cX7_would 40 = .ok (.ireturn, 1) := by decide +kernel
theorem dX7_would_41 : decode cX7_would 41 = .ok (.aload_n 0, 1) := by decide +kernel
theorem dX7_would_42 : decode cX7_would 42 = .ok (.getfield 54, 3) := by decide +kernel
theorem dX7_would_45 : decode cX7_would 45 = .ok (.aload_n 0, 1) := by decide +kernel
theorem dX7_would_46 : decode cX7_would 46 = .ok (.getfield 40, 3) := by decide +kernel
theorem dX7_would_49 : decode cX7_would 49 = .ok (.getfield 118, 3) := by decide +kernel
theorem dX7_would_52 : decode cX7_would 52 = .ok (.invokevirtual 196, 3) := by decide +kernel
theorem dX7_would_55 : decode cX7_would 55 = .ok (.aload_n 0, 1) := by decide +kernel
theorem dX7_would_56 : decode cX7_would 56 = .ok (.getfield 54, 3) := by decide +kernel
theorem dX7_would_59 : decode cX7_would 59 = .ok (.aload_n 0, 1) := by decide +kernel
theorem dX7_would_60 : decode cX7_would 60 = .ok (.getfield 30, 3) := by decide +kernel
theorem dX7_would_63 : decode cX7_would 63 = .ok (.iload_n 1, 1) := by decide +kernel
theorem dX7_would_64 : decode cX7_would 64 = .ok (.iconst (-1), 1) := by decide +kernel
theorem dX7_would_65 : decode cX7_would 65 = .ok (.iload_n 2, 1) := by decide +kernel
theorem dX7_would_66 : decode cX7_would 66 = .ok (.iload_n 3, 1) := by decide +kernel
theorem dX7_would_67 : decode cX7_would 67 = .ok (.invokevirtual 200, 3) := by decide +kernel
theorem dX7_would_70 : decode cX7_would 70 = .ok (.aload_n 0, 1) := by decide +kernel
theorem dX7_would_71 : decode cX7_would 71 = .ok (.getfield 54, 3) := by decide +kernel
theorem dX7_would_74 : decode cX7_would 74 = .ok (.aload_n 0, 1) := by decide +kernel
theorem dX7_would_75 : decode cX7_would 75 = .ok (.getfield 30, 3) := by decide +kernel
theorem dX7_would_78 : decode cX7_would 78 = .ok (.iconst 0, 1) := by decide +kernel
theorem dX7_would_79 : decode cX7_would 79 = .ok (.invokevirtual 128, 3) := by decide +kernel
theorem dX7_would_82 : decode cX7_would 82 = .ok (.ireturn, 1) := by decide +kernel
theorem dX7_orders_0 : decode cX7_orders 0 = .ok (.aload_n 0, 1) := by decide +kernel
theorem dX7_orders_1 : decode cX7_orders 1 = .ok (.getfield 61, 3) := by decide +kernel
theorem dX7_orders_4 : decode cX7_orders 4 = .ok (.aload_n 0, 1) := by decide +kernel
theorem dX7_orders_5 : decode cX7_orders 5 = .ok (.getfield 30, 3) := by decide +kernel
theorem dX7_orders_8 : decode cX7_orders 8 = .ok (.aload_n 0, 1) := by decide +kernel
theorem dX7_orders_9 : decode cX7_orders 9 = .ok (.getfield 40, 3) := by decide +kernel
theorem dX7_orders_12 : decode cX7_orders 12 = .ok (.getfield 118, 3) := by decide +kernel
theorem dX7_orders_15 : decode cX7_orders 15 = .ok (.aload_n 0, 1) := by decide +kernel
theorem dX7_orders_16 : decode cX7_orders 16 = .ok (.getfield 40, 3) := by decide +kernel
theorem dX7_orders_19 : decode cX7_orders 19 = .ok (.getfield 105, 3) := by decide +kernel
theorem dX7_orders_22 : decode cX7_orders 22 = .ok (.invokevirtual 204, 3) := by decide +kernel
theorem dX7_orders_25 : decode cX7_orders 25 = .ok (.ireturn, 1) := by decide +kernel
theorem dX7_ordered_0 : decode cX7_ordered 0 = .ok (.aload_n 0, 1) := by decide +kernel
theorem dX7_ordered_1 : decode cX7_ordered 1 = .ok (.getfield 61, 3) := by decide +kernel
theorem dX7_ordered_4 : decode cX7_ordered 4 = .ok (.aload_n 0, 1) := by decide +kernel
theorem dX7_ordered_5 : decode cX7_ordered 5 = .ok (.getfield 30, 3) := by decide +kernel
theorem dX7_ordered_8 : decode cX7_ordered 8 = .ok (.aload_n 0, 1) := by decide +kernel
theorem dX7_ordered_9 : decode cX7_ordered 9 = .ok (.getfield 40, 3) := by decide +kernel
theorem dX7_ordered_12 : decode cX7_ordered 12 = .ok (.getfield 118, 3) := by decide +kernel
theorem dX7_ordered_15 : decode cX7_ordered 15 = .ok (.aload_n 0, 1) := by decide +kernel
theorem dX7_ordered_16 : decode cX7_ordered 16 = .ok (.getfield 40, 3) := by decide +kernel
theorem dX7_ordered_19 : decode cX7_ordered 19 = .ok (.getfield 105, 3) := by decide +kernel
theorem dX7_ordered_22 : decode cX7_ordered 22 = .ok (.invokevirtual 204, 3) := by decide +kernel
theorem dX7_ordered_25 : decode cX7_ordered 25 = .ok (.pop, 1) := by decide +kernel
theorem dX7_ordered_26 : decode cX7_ordered 26 = .ok (.aload_n 0, 1) := by decide +kernel
theorem dX7_ordered_27 : decode cX7_ordered 27 = .ok (.getfield 61, 3) := by decide +kernel
theorem dX7_ordered_30 : decode cX7_ordered 30 = .ok (.iload_n 1, 1) := by decide +kernel
theorem dX7_ordered_31 : decode cX7_ordered 31 = .ok (.invokevirtual 208, 3) := by decide +kernel
theorem dX7_ordered_34 : decode cX7_ordered 34 = .ok (.ireturn, 1) := by decide +kernel
theorem dX7_without_0 : decode cX7_without 0 = .ok (.aload_n 0, 1) := by decide +kernel
theorem dX7_without_1 : decode cX7_without 1 = .ok (.iload_n 1, 1) := by decide +kernel
theorem dX7_without_2 : decode cX7_without 2 = .ok (.iconst 1, 1) := by decide +kernel
theorem dX7_without_3 : decode cX7_without 3 = .ok (.invokevirtual 211, 3) := by decide +kernel
theorem dX7_without_6 : decode cX7_without 6 = .ok (.ifCond .ne 5, 3) := by decide +kernel
theorem dX7_without_9 : decode cX7_without 9 = .ok (.iconst (-1), 1) := by decide +kernel
theorem dX7_without_10 : decode cX7_without 10 = .ok (.ireturn, 1) := by decide +kernel
theorem dX7_without_11 : decode cX7_without 11 = .ok (.aload_n 0, 1) := by decide +kernel
theorem dX7_without_12 : decode cX7_without 12 = .ok (.getfield 40, 3) := by decide +kernel
theorem dX7_without_15 : decode cX7_without 15 = .ok (.getfield 118, 3) := by decide +kernel
theorem dX7_without_18 : decode cX7_without 18 = .ok (.aload_n 0, 1) := by decide +kernel
theorem dX7_without_19 : decode cX7_without 19 = .ok (.getfield 30, 3) := by decide +kernel
theorem dX7_without_22 : decode cX7_without 22 = .ok (.aload_n 0, 1) := by decide +kernel
theorem dX7_without_23 : decode cX7_without 23 = .ok (.getfield 40, 3) := by decide +kernel
theorem dX7_without_26 : decode cX7_without 26 = .ok (.getfield 118, 3) := by decide +kernel
theorem dX7_without_29 : decode cX7_without 29 = .ok (.iload_n 1, 1) := by decide +kernel
theorem dX7_without_30 : decode cX7_without 30 = .ok (.invokevirtual 214, 3) := by decide +kernel
theorem dX7_without_33 : decode cX7_without 33 = .ok (.invokevirtual 128, 3) := by decide +kernel
theorem dX7_without_36 : decode cX7_without 36 = .ok (.ireturn, 1) := by decide +kernel
theorem dX7_plan_0 : decode cX7_plan 0 = .ok (.aload_n 0, 1) := by decide +kernel
theorem dX7_plan_1 : decode cX7_plan 1 = .ok (.getfield 68, 3) := by decide +kernel
theorem dX7_plan_4 : decode cX7_plan 4 = .ok (.aload_n 0, 1) := by decide +kernel
theorem dX7_plan_5 : decode cX7_plan 5 = .ok (.getfield 30, 3) := by decide +kernel
theorem dX7_plan_8 : decode cX7_plan 8 = .ok (.aload_n 0, 1) := by decide +kernel
theorem dX7_plan_9 : decode cX7_plan 9 = .ok (.getfield 40, 3) := by decide +kernel
theorem dX7_plan_12 : decode cX7_plan 12 = .ok (.invokevirtual 217, 3) := by decide +kernel
theorem dX7_plan_15 : decode cX7_plan 15 = .ok (.ifCond .ne 6, 3) := by decide +kernel
theorem dX7_plan_18 : decode cX7_plan 18 = .ok (.bipush (-2), 2) := by decide +kernel
theorem dX7_plan_20 : decode cX7_plan 20 = .ok (.ireturn, 1) := by decide +kernel
theorem dX7_plan_21 : decode cX7_plan 21 = .ok (.iload_n 1, 1) := by decide +kernel
theorem dX7_plan_22 : decode cX7_plan 22 = .ok (.ifCond .ne 11, 3) := by decide +kernel
theorem dX7_plan_25 : decode cX7_plan 25 = .ok (.aload_n 0, 1) := by decide +kernel
theorem dX7_plan_26 : decode cX7_plan 26 = .ok (.getfield 68, 3) := by decide +kernel
theorem dX7_plan_29 : decode cX7_plan 29 = .ok (.getfield 221, 3) := by decide +kernel
theorem dX7_plan_32 : decode cX7_plan 32 = .ok (.ireturn, 1) := by decide +kernel
theorem dX7_plan_33 : decode cX7_plan 33 = .ok (.iload_n 1, 1) := by decide +kernel
theorem dX7_plan_34 : decode cX7_plan 34 = .ok (.iconst 1, 1) := by decide +kernel
theorem dX7_plan_35 : decode cX7_plan 35 = .ok (.if_icmp .ne 11, 3) := by decide +kernel
theorem dX7_plan_38 : decode cX7_plan 38 = .ok (.aload_n 0, 1) := by decide +kernel
theorem dX7_plan_39 : decode cX7_plan 39 = .ok (.getfield 68, 3) := by decide +kernel
theorem dX7_plan_42 : decode cX7_plan 42 = .ok (.getfield 224, 3) := by decide +kernel
theorem dX7_plan_45 : decode cX7_plan 45 = .ok (.ireturn, 1) := by decide +kernel
theorem dX7_plan_46 : decode cX7_plan 46 = .ok (.iload_n 1, 1) := by decide +kernel
theorem dX7_plan_47 : decode cX7_plan 47 = .ok (.bipush 10, 2) := by decide +kernel
theorem dX7_plan_49 : decode cX7_plan 49 = .ok (.if_icmp .lt 30, 3) := by decide +kernel
theorem dX7_plan_52 : decode cX7_plan 52 = .ok (.aload_n 0, 1) := by decide +kernel
theorem dX7_plan_53 : decode cX7_plan 53 = .ok (.getfield 30, 3) := by decide +kernel
theorem dX7_plan_56 : decode cX7_plan 56 = .ok (.iload_n 1, 1) := by decide +kernel
theorem dX7_plan_57 : decode cX7_plan 57 = .ok (.bipush 10, 2) := by decide +kernel
theorem dX7_plan_59 : decode cX7_plan 59 = .ok (.isub, 1) := by decide +kernel
theorem dX7_plan_60 : decode cX7_plan 60 = .ok (.invokevirtual 138, 3) := by decide +kernel
theorem dX7_plan_63 : decode cX7_plan 63 = .ok (.ifCond .eq 16, 3) := by decide +kernel
theorem dX7_plan_66 : decode cX7_plan 66 = .ok (.aload_n 0, 1) := by decide +kernel
theorem dX7_plan_67 : decode cX7_plan 67 = .ok (.getfield 68, 3) := by decide +kernel
theorem dX7_plan_70 : decode cX7_plan 70 = .ok (.getfield 227, 3) := by decide +kernel
theorem dX7_plan_73 : decode cX7_plan 73 = .ok (.iload_n 1, 1) := by decide +kernel
theorem dX7_plan_74 : decode cX7_plan 74 = .ok (.bipush 10, 2) := by decide +kernel
theorem dX7_plan_76 : decode cX7_plan 76 = .ok (.isub, 1) := by decide +kernel
theorem dX7_plan_77 : decode cX7_plan 77 = .ok (.iaload, 1) := by decide +kernel
theorem dX7_plan_78 : decode cX7_plan 78 = .ok (.ireturn, 1) := by decide +kernel
theorem dX7_plan_79 : decode cX7_plan 79 = .ok (.iload_n 1, 1) := by decide +kernel
theorem dX7_plan_80 : decode cX7_plan 80 = .ok (.bipush 20, 2) := by decide +kernel
theorem dX7_plan_82 : decode cX7_plan 82 = .ok (.if_icmp .lt 30, 3) := by decide +kernel
theorem dX7_plan_85 : decode cX7_plan 85 = .ok (.aload_n 0, 1) := by decide +kernel
theorem dX7_plan_86 : decode cX7_plan 86 = .ok (.getfield 30, 3) := by decide +kernel
theorem dX7_plan_89 : decode cX7_plan 89 = .ok (.iload_n 1, 1) := by decide +kernel
theorem dX7_plan_90 : decode cX7_plan 90 = .ok (.bipush 20, 2) := by decide +kernel
theorem dX7_plan_92 : decode cX7_plan 92 = .ok (.isub, 1) := by decide +kernel
theorem dX7_plan_93 : decode cX7_plan 93 = .ok (.invokevirtual 138, 3) := by decide +kernel
theorem dX7_plan_96 : decode cX7_plan 96 = .ok (.ifCond .eq 16, 3) := by decide +kernel
theorem dX7_plan_99 : decode cX7_plan 99 = .ok (.aload_n 0, 1) := by decide +kernel
theorem dX7_plan_100 : decode cX7_plan 100 = .ok (.getfield 68, 3) := by decide +kernel
theorem dX7_plan_103 : decode cX7_plan 103 = .ok (.getfield 230, 3) := by decide +kernel
theorem dX7_plan_106 : decode cX7_plan 106 = .ok (.iload_n 1, 1) := by decide +kernel
theorem dX7_plan_107 : decode cX7_plan 107 = .ok (.bipush 20, 2) := by decide +kernel
theorem dX7_plan_109 : decode cX7_plan 109 = .ok (.isub, 1) := by decide +kernel
theorem dX7_plan_110 : decode cX7_plan 110 = .ok (.iaload, 1) := by decide +kernel
theorem dX7_plan_111 : decode cX7_plan 111 = .ok (.ireturn, 1) := by decide +kernel
theorem dX7_plan_112 : decode cX7_plan 112 = .ok (.iconst (-1), 1) := by decide +kernel
theorem dX7_plan_113 : decode cX7_plan 113 = .ok (.ireturn, 1) := by decide +kernel
theorem dX7_washes_0 : decode cX7_washes 0 = .ok (.aload_n 0, 1) := by decide +kernel
theorem dX7_washes_1 : decode cX7_washes 1 = .ok (.getfield 68, 3) := by decide +kernel
theorem dX7_washes_4 : decode cX7_washes 4 = .ok (.aload_n 0, 1) := by decide +kernel
theorem dX7_washes_5 : decode cX7_washes 5 = .ok (.getfield 30, 3) := by decide +kernel
theorem dX7_washes_8 : decode cX7_washes 8 = .ok (.aload_n 0, 1) := by decide +kernel
theorem dX7_washes_9 : decode cX7_washes 9 = .ok (.getfield 40, 3) := by decide +kernel
theorem dX7_washes_12 : decode cX7_washes 12 = .ok (.invokevirtual 233, 3) := by decide +kernel
theorem dX7_washes_15 : decode cX7_washes 15 = .ok (.istore_n 1, 1) := by decide +kernel
theorem dX7_washes_16 : decode cX7_washes 16 = .ok (.iload_n 1, 1) := by decide +kernel
theorem dX7_washes_17 : decode cX7_washes 17 = .ok (.iconst (-1), 1) := by decide +kernel
theorem dX7_washes_18 : decode cX7_washes 18 = .ok (.if_icmp .ne 8, 3) := by decide +kernel
theorem dX7_washes_21 : decode cX7_washes 21 = .ok (.bipush (-2), 2) := by decide +kernel
theorem dX7_washes_23 : decode cX7_washes 23 = .ok (.goto 4, 3) := by decide +kernel
theorem dX7_washes_26 : decode cX7_washes 26 = .ok (.iload_n 1, 1) := by decide +kernel
theorem dX7_washes_27 : decode cX7_washes 27 = .ok (.ireturn, 1) := by decide +kernel
theorem dX7_asks_0 : decode cX7_asks 0 = .ok (.aload_n 0, 1) := by decide +kernel
theorem dX7_asks_1 : decode cX7_asks 1 = .ok (.getfield 30, 3) := by decide +kernel
theorem dX7_asks_4 : decode cX7_asks 4 = .ok (.iload_n 1, 1) := by decide +kernel
theorem dX7_asks_5 : decode cX7_asks 5 = .ok (.invokevirtual 189, 3) := by decide +kernel
theorem dX7_asks_8 : decode cX7_asks 8 = .ok (.ifCond .eq 15, 3) := by decide +kernel
theorem dX7_asks_11 : decode cX7_asks 11 = .ok (.iload_n 2, 1) := by decide +kernel
theorem dX7_asks_12 : decode cX7_asks 12 = .ok (.iconst 1, 1) := by decide +kernel
theorem dX7_asks_13 : decode cX7_asks 13 = .ok (.if_icmp .lt 10, 3) := by decide +kernel
theorem dX7_asks_16 : decode cX7_asks 16 = .ok (.iload_n 2, 1) := by decide +kernel
theorem dX7_asks_17 : decode cX7_asks 17 = .ok (.sipush 4995, 3) := by decide +kernel
theorem dX7_asks_20 : decode cX7_asks 20 = .ok (.if_icmp .le 5, 3) := by decide +kernel
theorem dX7_asks_23 : decode cX7_asks 23 = .ok (.iconst (-1), 1) := by decide +kernel
theorem dX7_asks_24 : decode cX7_asks 24 = .ok (.ireturn, 1) := by decide +kernel
theorem dX7_asks_25 : decode cX7_asks 25 = .ok (.aload_n 0, 1) := by decide +kernel
theorem dX7_asks_26 : decode cX7_asks 26 = .ok (.getfield 40, 3) := by decide +kernel
theorem dX7_asks_29 : decode cX7_asks 29 = .ok (.aload_n 0, 1) := by decide +kernel
theorem dX7_asks_30 : decode cX7_asks 30 = .ok (.getfield 30, 3) := by decide +kernel
theorem dX7_asks_33 : decode cX7_asks 33 = .ok (.invokevirtual 237, 3) := by decide +kernel
theorem dX7_asks_36 : decode cX7_asks 36 = .ok (.iconst 4, 1) := by decide +kernel
theorem dX7_asks_37 : decode cX7_asks 37 = .ok (.if_icmp .lt 6, 3) := by decide +kernel
theorem dX7_asks_40 : decode cX7_asks 40 = .ok (.bipush (-2), 2) := by decide +kernel
theorem dX7_asks_42 : decode cX7_asks 42 = .ok (.ireturn, 1) := by decide +kernel
theorem dX7_asks_43 : decode cX7_asks 43 = .ok (.aload_n 0, 1) := by decide +kernel
theorem dX7_asks_44 : decode cX7_asks 44 = .ok (.getfield 40, 3) := by decide +kernel
theorem dX7_asks_47 : decode cX7_asks 47 = .ok (.getfield 105, 3) := by decide +kernel
theorem dX7_asks_50 : decode cX7_asks 50 = .ok (.bipush 20, 2) := by decide +kernel
theorem dX7_asks_52 : decode cX7_asks 52 = .ok (.if_icmp .lt 6, 3) := by decide +kernel
theorem dX7_asks_55 : decode cX7_asks 55 = .ok (.bipush (-3), 2) := by decide +kernel
theorem dX7_asks_57 : decode cX7_asks 57 = .ok (.ireturn, 1) := by decide +kernel
theorem dX7_asks_58 : decode cX7_asks 58 = .ok (.aload_n 0, 1) := by decide +kernel
theorem dX7_asks_59 : decode cX7_asks 59 = .ok (.getfield 47, 3) := by decide +kernel
theorem dX7_asks_62 : decode cX7_asks 62 = .ok (.aload_n 0, 1) := by decide +kernel
theorem dX7_asks_63 : decode cX7_asks 63 = .ok (.getfield 40, 3) := by decide +kernel
theorem dX7_asks_66 : decode cX7_asks 66 = .ok (.invokevirtual 241, 3) := by decide +kernel
theorem dX7_asks_69 : decode cX7_asks 69 = .ok (.aload_n 0, 1) := by decide +kernel
theorem dX7_asks_70 : decode cX7_asks 70 = .ok (.getfield 40, 3) := by decide +kernel
theorem dX7_asks_73 : decode cX7_asks 73 = .ok (.getfield 105, 3) := by decide +kernel
theorem dX7_asks_76 : decode cX7_asks 76 = .ok (.istore_n 3, 1) := by decide +kernel
theorem dX7_asks_77 : decode cX7_asks 77 = .ok (.aload_n 0, 1) := by decide +kernel
theorem dX7_asks_78 : decode cX7_asks 78 = .ok (.getfield 30, 3) := by decide +kernel
theorem dX7_asks_81 : decode cX7_asks 81 = .ok (.getfield 171, 3) := by decide +kernel
theorem dX7_asks_84 : decode cX7_asks 84 = .ok (.iload_n 3, 1) := by decide +kernel
theorem dX7_asks_85 : decode cX7_asks 85 = .ok (.iload_n 1, 1) := by decide +kernel
theorem dX7_asks_86 : decode cX7_asks 86 = .ok (.iastore, 1) := by decide +kernel
theorem dX7_asks_87 : decode cX7_asks 87 = .ok (.aload_n 0, 1) := by decide +kernel
theorem dX7_asks_88 : decode cX7_asks 88 = .ok (.getfield 30, 3) := by decide +kernel
theorem dX7_asks_91 : decode cX7_asks 91 = .ok (.getfield 174, 3) := by decide +kernel
theorem dX7_asks_94 : decode cX7_asks 94 = .ok (.iload_n 3, 1) := by decide +kernel
theorem dX7_asks_95 : decode cX7_asks 95 = .ok (.iload_n 2, 1) := by decide +kernel
theorem dX7_asks_96 : decode cX7_asks 96 = .ok (.iastore, 1) := by decide +kernel
theorem dX7_asks_97 : decode cX7_asks 97 = .ok (.aload_n 0, 1) := by decide +kernel
theorem dX7_asks_98 : decode cX7_asks 98 = .ok (.getfield 40, 3) := by decide +kernel
theorem dX7_asks_101 : decode cX7_asks 101 = .ok (.invokevirtual 245, 3) := by decide +kernel
theorem dX7_asks_104 : decode cX7_asks 104 = .ok (.iload_n 3, 1) := by decide +kernel
theorem dX7_asks_105 : decode cX7_asks 105 = .ok (.ireturn, 1) := by decide +kernel
theorem dX7_cancel_0 : decode cX7_cancel 0 = .ok (.aload_n 0, 1) := by decide +kernel
theorem dX7_cancel_1 : decode cX7_cancel 1 = .ok (.iload_n 1, 1) := by decide +kernel
theorem dX7_cancel_2 : decode cX7_cancel 2 = .ok (.iconst 0, 1) := by decide +kernel
theorem dX7_cancel_3 : decode cX7_cancel 3 = .ok (.invokevirtual 211, 3) := by decide +kernel
theorem dX7_cancel_6 : decode cX7_cancel 6 = .ok (.ifCond .eq 17, 3) := by decide +kernel
theorem dX7_cancel_9 : decode cX7_cancel 9 = .ok (.aload_n 0, 1) := by decide +kernel
theorem dX7_cancel_10 : decode cX7_cancel 10 = .ok (.getfield 40, 3) := by decide +kernel
theorem dX7_cancel_13 : decode cX7_cancel 13 = .ok (.getfield 118, 3) := by decide +kernel
theorem dX7_cancel_16 : decode cX7_cancel 16 = .ok (.iload_n 1, 1) := by decide +kernel
theorem dX7_cancel_17 : decode cX7_cancel 17 = .ok (.invokevirtual 177, 3) := by decide +kernel
theorem dX7_cancel_20 : decode cX7_cancel 20 = .ok (.ifCond .le 5, 3) := by decide +kernel
theorem dX7_cancel_23 : decode cX7_cancel 23 = .ok (.iconst 0, 1) := by decide +kernel
theorem dX7_cancel_24 : decode cX7_cancel 24 = .ok (.ireturn, 1) := by decide +kernel
theorem dX7_cancel_25 : decode cX7_cancel 25 = .ok (.aload_n 0, 1) := by decide +kernel
theorem dX7_cancel_26 : decode cX7_cancel 26 = .ok (.getfield 47, 3) := by decide +kernel
theorem dX7_cancel_29 : decode cX7_cancel 29 = .ok (.aload_n 0, 1) := by decide +kernel
theorem dX7_cancel_30 : decode cX7_cancel 30 = .ok (.getfield 40, 3) := by decide +kernel
theorem dX7_cancel_33 : decode cX7_cancel 33 = .ok (.invokevirtual 241, 3) := by decide +kernel
theorem dX7_cancel_36 : decode cX7_cancel 36 = .ok (.aload_n 0, 1) := by decide +kernel
theorem dX7_cancel_37 : decode cX7_cancel 37 = .ok (.getfield 40, 3) := by decide +kernel
theorem dX7_cancel_40 : decode cX7_cancel 40 = .ok (.getfield 248, 3) := by decide +kernel
theorem dX7_cancel_43 : decode cX7_cancel 43 = .ok (.iload_n 1, 1) := by decide +kernel
theorem dX7_cancel_44 : decode cX7_cancel 44 = .ok (.iconst 3, 1) := by decide +kernel
theorem dX7_cancel_45 : decode cX7_cancel 45 = .ok (.iastore, 1) := by decide +kernel
theorem dX7_cancel_46 : decode cX7_cancel 46 = .ok (.iconst 1, 1) := by decide +kernel
theorem dX7_cancel_47 : decode cX7_cancel 47 = .ok (.ireturn, 1) := by decide +kernel
theorem dX7_put_0 : decode cX7_put 0 = .ok (.aload_n 0, 1) := by decide +kernel
theorem dX7_put_1 : decode cX7_put 1 = .ok (.getfield 30, 3) := by decide +kernel
theorem dX7_put_4 : decode cX7_put 4 = .ok (.iload_n 1, 1) := by decide +kernel
theorem dX7_put_5 : decode cX7_put 5 = .ok (.invokevirtual 138, 3) := by decide +kernel
theorem dX7_put_8 : decode cX7_put 8 = .ok (.ifCond .eq 12, 3) := by decide +kernel
theorem dX7_put_11 : decode cX7_put 11 = .ok (.aload_n 0, 1) := by decide +kernel
theorem dX7_put_12 : decode cX7_put 12 = .ok (.iload_n 2, 1) := by decide +kernel
theorem dX7_put_13 : decode cX7_put 13 = .ok (.iconst 0, 1) := by decide +kernel
theorem dX7_put_14 : decode cX7_put 14 = .ok (.invokevirtual 211, 3) := by decide +kernel
theorem dX7_put_17 : decode cX7_put 17 = .ok (.ifCond .ne 5, 3) := by decide +kernel
theorem dX7_put_20 : decode cX7_put 20 = .ok (.iconst (-1), 1) := by decide +kernel
theorem dX7_put_21 : decode cX7_put 21 = .ok (.ireturn, 1) := by decide +kernel
theorem dX7_put_22 : decode cX7_put 22 = .ok (.aload_n 0, 1) := by decide +kernel
theorem dX7_put_23 : decode cX7_put 23 = .ok (.getfield 40, 3) := by decide +kernel
theorem dX7_put_26 : decode cX7_put 26 = .ok (.getfield 118, 3) := by decide +kernel
theorem dX7_put_29 : decode cX7_put 29 = .ok (.getfield 156, 3) := by decide +kernel
theorem dX7_put_32 : decode cX7_put 32 = .ok (.iload_n 1, 1) := by decide +kernel
theorem dX7_put_33 : decode cX7_put 33 = .ok (.iaload, 1) := by decide +kernel
theorem dX7_put_34 : decode cX7_put 34 = .ok (.ifCond .le 6, 3) := by decide +kernel
theorem dX7_put_37 : decode cX7_put 37 = .ok (.bipush (-2), 2) := by decide +kernel
theorem dX7_put_39 : decode cX7_put 39 = .ok (.ireturn, 1) := by decide +kernel
theorem dX7_put_40 : decode cX7_put 40 = .ok (.aload_n 0, 1) := by decide +kernel
theorem dX7_put_41 : decode cX7_put 41 = .ok (.getfield 30, 3) := by decide +kernel
theorem dX7_put_44 : decode cX7_put 44 = .ok (.getfield 171, 3) := by decide +kernel
theorem dX7_put_47 : decode cX7_put 47 = .ok (.iload_n 2, 1) := by decide +kernel
theorem dX7_put_48 : decode cX7_put 48 = .ok (.iaload, 1) := by decide +kernel
theorem dX7_put_49 : decode cX7_put 49 = .ok (.istore_n 3, 1) := by decide +kernel
theorem dX7_put_50 : decode cX7_put 50 = .ok (.aload_n 0, 1) := by decide +kernel
theorem dX7_put_51 : decode cX7_put 51 = .ok (.getfield 30, 3) := by decide +kernel
theorem dX7_put_54 : decode cX7_put 54 = .ok (.aload_n 0, 1) := by decide +kernel
theorem dX7_put_55 : decode cX7_put 55 = .ok (.getfield 40, 3) := by decide +kernel
theorem dX7_put_58 : decode cX7_put 58 = .ok (.getfield 118, 3) := by decide +kernel
theorem dX7_put_61 : decode cX7_put 61 = .ok (.getfield 162, 3) := by decide +kernel
theorem dX7_put_64 : decode cX7_put 64 = .ok (.iload_n 1, 1) := by decide +kernel
theorem dX7_put_65 : decode cX7_put 65 = .ok (.iaload, 1) := by decide +kernel
theorem dX7_put_66 : decode cX7_put 66 = .ok (.iload_n 3, 1) := by decide +kernel
theorem dX7_put_67 : decode cX7_put 67 = .ok (.invokevirtual 192, 3) := by decide +kernel
theorem dX7_put_70 : decode cX7_put 70 = .ok (.ifCond .eq 6, 3) := by decide +kernel
theorem dX7_put_73 : decode cX7_put 73 = .ok (.bipush (-3), 2) := by decide +kernel
theorem dX7_put_75 : decode cX7_put 75 = .ok (.ireturn, 1) := by decide +kernel
theorem dX7_put_76 : decode cX7_put 76 = .ok (.aload_n 0, 1) := by decide +kernel
theorem dX7_put_77 : decode cX7_put 77 = .ok (.getfield 30, 3) := by decide +kernel
theorem dX7_put_80 : decode cX7_put 80 = .ok (.iload_n 1, 1) := by decide +kernel
theorem dX7_put_81 : decode cX7_put 81 = .ok (.invokevirtual 152, 3) := by decide +kernel
theorem dX7_put_84 : decode cX7_put 84 = .ok (.istore 4, 2) := by decide +kernel
theorem dX7_put_86 : decode cX7_put 86 = .ok (.iload 4, 2) := by decide +kernel
theorem dX7_put_88 : decode cX7_put 88 = .ok (.ifCond .ne 6, 3) := by decide +kernel
theorem dX7_put_91 : decode cX7_put 91 = .ok (.bipush (-4), 2) := by decide +kernel
theorem dX7_put_93 : decode cX7_put 93 = .ok (.ireturn, 1) := by decide +kernel
theorem dX7_put_94 : decode cX7_put 94 = .ok (.aload_n 0, 1) := by decide +kernel
theorem dX7_put_95 : decode cX7_put 95 = .ok (.getfield 47, 3) := by decide +kernel
theorem dX7_put_98 : decode cX7_put 98 = .ok (.aload_n 0, 1) := by decide +kernel
theorem dX7_put_99 : decode cX7_put 99 = .ok (.getfield 40, 3) := by decide +kernel
theorem dX7_put_102 : decode cX7_put 102 = .ok (.invokevirtual 241, 3) := by decide +kernel
theorem dX7_put_105 : decode cX7_put 105 = .ok (.iload 4, 2) := by decide +kernel
theorem dX7_put_107 : decode cX7_put 107 = .ok (.aload_n 0, 1) := by decide +kernel
theorem dX7_put_108 : decode cX7_put 108 = .ok (.getfield 30, 3) := by decide +kernel
theorem dX7_put_111 : decode cX7_put 111 = .ok (.getfield 174, 3) := by decide +kernel
theorem dX7_put_114 : decode cX7_put 114 = .ok (.iload_n 2, 1) := by decide +kernel
theorem dX7_put_115 : decode cX7_put 115 = .ok (.iaload, 1) := by decide +kernel
theorem dX7_put_116 : decode cX7_put 116 = .ok (.aload_n 0, 1) := by decide +kernel
theorem dX7_put_117 : decode cX7_put 117 = .ok (.getfield 40, 3) := by decide +kernel
theorem dX7_put_120 : decode cX7_put 120 = .ok (.getfield 118, 3) := by decide +kernel
theorem dX7_put_123 : decode cX7_put 123 = .ok (.iload_n 2, 1) := by decide +kernel
theorem dX7_put_124 : decode cX7_put 124 = .ok (.invokevirtual 177, 3) := by decide +kernel
theorem dX7_put_127 : decode cX7_put 127 = .ok (.isub, 1) := by decide +kernel
theorem dX7_put_128 : decode cX7_put 128 = .ok (.invokestatic 251, 3) := by decide +kernel
theorem dX7_put_131 : decode cX7_put 131 = .ok (.istore 5, 2) := by decide +kernel
theorem dX7_put_133 : decode cX7_put 133 = .ok (.aload_n 0, 1) := by decide +kernel
theorem dX7_put_134 : decode cX7_put 134 = .ok (.getfield 40, 3) := by decide +kernel
theorem dX7_put_137 : decode cX7_put 137 = .ok (.getfield 118, 3) := by decide +kernel
theorem dX7_put_140 : decode cX7_put 140 = .ok (.aload_n 0, 1) := by decide +kernel
theorem dX7_put_141 : decode cX7_put 141 = .ok (.getfield 30, 3) := by decide +kernel
theorem dX7_put_144 : decode cX7_put 144 = .ok (.iload_n 1, 1) := by decide +kernel
theorem dX7_put_145 : decode cX7_put 145 = .ok (.iload_n 2, 1) := by decide +kernel
theorem dX7_put_146 : decode cX7_put 146 = .ok (.iload_n 3, 1) := by decide +kernel
theorem dX7_put_147 : decode cX7_put 147 = .ok (.iload 5, 2) := by decide +kernel
theorem dX7_put_149 : decode cX7_put 149 = .ok (.invokevirtual 200, 3) := by decide +kernel
theorem dX7_put_152 : decode cX7_put 152 = .ok (.iload 5, 2) := by decide +kernel
theorem dX7_put_154 : decode cX7_put 154 = .ok (.ireturn, 1) := by decide +kernel
theorem dX7_load_0 : decode cX7_load 0 = .ok (.aload_n 0, 1) := by decide +kernel
theorem dX7_load_1 : decode cX7_load 1 = .ok (.getfield 68, 3) := by decide +kernel
theorem dX7_load_4 : decode cX7_load 4 = .ok (.aload_n 0, 1) := by decide +kernel
theorem dX7_load_5 : decode cX7_load 5 = .ok (.getfield 30, 3) := by decide +kernel
theorem dX7_load_8 : decode cX7_load 8 = .ok (.aload_n 0, 1) := by decide +kernel
theorem dX7_load_9 : decode cX7_load 9 = .ok (.getfield 40, 3) := by decide +kernel
theorem dX7_load_12 : decode cX7_load 12 = .ok (.invokevirtual 217, 3) := by decide +kernel
theorem dX7_load_15 : decode cX7_load 15 = .ok (.ifCond .ne 6, 3) := by decide +kernel
theorem dX7_load_18 : decode cX7_load 18 = .ok (.bipush (-2), 2) := by decide +kernel
theorem dX7_load_20 : decode cX7_load 20 = .ok (.ireturn, 1) := by decide +kernel
theorem dX7_load_21 : decode cX7_load 21 = .ok (.aload_n 0, 1) := by decide +kernel
theorem dX7_load_22 : decode cX7_load 22 = .ok (.getfield 68, 3) := by decide +kernel
theorem dX7_load_25 : decode cX7_load 25 = .ok (.getfield 221, 3) := by decide +kernel
theorem dX7_load_28 : decode cX7_load 28 = .ok (.ifCond .ne 5, 3) := by decide +kernel
theorem dX7_load_31 : decode cX7_load 31 = .ok (.iconst (-1), 1) := by decide +kernel
theorem dX7_load_32 : decode cX7_load 32 = .ok (.ireturn, 1) := by decide +kernel
theorem dX7_load_33 : decode cX7_load 33 = .ok (.aload_n 0, 1) := by decide +kernel
theorem dX7_load_34 : decode cX7_load 34 = .ok (.getfield 47, 3) := by decide +kernel
theorem dX7_load_37 : decode cX7_load 37 = .ok (.aload_n 0, 1) := by decide +kernel
theorem dX7_load_38 : decode cX7_load 38 = .ok (.getfield 40, 3) := by decide +kernel
theorem dX7_load_41 : decode cX7_load 41 = .ok (.invokevirtual 241, 3) := by decide +kernel
theorem dX7_load_44 : decode cX7_load 44 = .ok (.iconst 0, 1) := by decide +kernel
theorem dX7_load_45 : decode cX7_load 45 = .ok (.istore_n 1, 1) := by decide +kernel
theorem dX7_load_46 : decode cX7_load 46 = .ok (.iload_n 1, 1) := by decide +kernel
theorem dX7_load_47 : decode cX7_load 47 = .ok (.aload_n 0, 1) := by decide +kernel
theorem dX7_load_48 : decode cX7_load 48 = .ok (.getfield 30, 3) := by decide +kernel
theorem dX7_load_51 : decode cX7_load 51 = .ok (.getfield 99, 3) := by decide +kernel
theorem dX7_load_54 : decode cX7_load 54 = .ok (.if_icmp .ge 64, 3) := by decide +kernel
theorem dX7_load_57 : decode cX7_load 57 = .ok (.aload_n 0, 1) := by decide +kernel
theorem dX7_load_58 : decode cX7_load 58 = .ok (.getfield 68, 3) := by decide +kernel
theorem dX7_load_61 : decode cX7_load 61 = .ok (.getfield 227, 3) := by decide +kernel
theorem dX7_load_64 : decode cX7_load 64 = .ok (.iload_n 1, 1) := by decide +kernel
theorem dX7_load_65 : decode cX7_load 65 = .ok (.iaload, 1) := by decide +kernel
theorem dX7_load_66 : decode cX7_load 66 = .ok (.istore_n 2, 1) := by decide +kernel
theorem dX7_load_67 : decode cX7_load 67 = .ok (.aload_n 0, 1) := by decide +kernel
theorem dX7_load_68 : decode cX7_load 68 = .ok (.getfield 40, 3) := by decide +kernel
theorem dX7_load_71 : decode cX7_load 71 = .ok (.iload_n 2, 1) := by decide +kernel
theorem dX7_load_72 : decode cX7_load 72 = .ok (.invokevirtual 165, 3) := by decide +kernel
theorem dX7_load_75 : decode cX7_load 75 = .ok (.ifCond .eq 37, 3) := by decide +kernel
theorem dX7_load_78 : decode cX7_load 78 = .ok (.aload_n 0, 1) := by decide +kernel
theorem dX7_load_79 : decode cX7_load 79 = .ok (.getfield 40, 3) := by decide +kernel
theorem dX7_load_82 : decode cX7_load 82 = .ok (.getfield 118, 3) := by decide +kernel
theorem dX7_load_85 : decode cX7_load 85 = .ok (.aload_n 0, 1) := by decide +kernel
theorem dX7_load_86 : decode cX7_load 86 = .ok (.getfield 30, 3) := by decide +kernel
theorem dX7_load_89 : decode cX7_load 89 = .ok (.iload_n 1, 1) := by decide +kernel
theorem dX7_load_90 : decode cX7_load 90 = .ok (.iload_n 2, 1) := by decide +kernel
theorem dX7_load_91 : decode cX7_load 91 = .ok (.aload_n 0, 1) := by decide +kernel
theorem dX7_load_92 : decode cX7_load 92 = .ok (.getfield 30, 3) := by decide +kernel
theorem dX7_load_95 : decode cX7_load 95 = .ok (.getfield 171, 3) := by decide +kernel
theorem dX7_load_98 : decode cX7_load 98 = .ok (.iload_n 2, 1) := by decide +kernel
theorem dX7_load_99 : decode cX7_load 99 = .ok (.iaload, 1) := by decide +kernel
theorem dX7_load_100 : decode cX7_load 100 = .ok (.aload_n 0, 1) := by decide +kernel
theorem dX7_load_101 : decode cX7_load 101 = .ok (.getfield 68, 3) := by decide +kernel
theorem dX7_load_104 : decode cX7_load 104 = .ok (.getfield 230, 3) := by decide +kernel
theorem dX7_load_107 : decode cX7_load 107 = .ok (.iload_n 1, 1) := by decide +kernel
theorem dX7_load_108 : decode cX7_load 108 = .ok (.iaload, 1) := by decide +kernel
theorem dX7_load_109 : decode cX7_load 109 = .ok (.invokevirtual 200, 3) := by decide +kernel
theorem dX7_load_112 : decode cX7_load 112 = .ok (.iinc 1 1, 3) := by decide +kernel
theorem dX7_load_115 : decode cX7_load 115 = .ok (.goto (-69), 3) := by decide +kernel
theorem dX7_load_118 : decode cX7_load 118 = .ok (.aload_n 0, 1) := by decide +kernel
theorem dX7_load_119 : decode cX7_load 119 = .ok (.getfield 68, 3) := by decide +kernel
theorem dX7_load_122 : decode cX7_load 122 = .ok (.getfield 221, 3) := by decide +kernel
theorem dX7_load_125 : decode cX7_load 125 = .ok (.ireturn, 1) := by decide +kernel
theorem dX7_unload_0 : decode cX7_unload 0 = .ok (.aload_n 0, 1) := by decide +kernel
theorem dX7_unload_1 : decode cX7_unload 1 = .ok (.iload_n 1, 1) := by decide +kernel
theorem dX7_unload_2 : decode cX7_unload 2 = .ok (.iconst 1, 1) := by decide +kernel
theorem dX7_unload_3 : decode cX7_unload 3 = .ok (.invokevirtual 211, 3) := by decide +kernel
theorem dX7_unload_6 : decode cX7_unload 6 = .ok (.ifCond .eq 22, 3) := by decide +kernel
theorem dX7_unload_9 : decode cX7_unload 9 = .ok (.iload_n 2, 1) := by decide +kernel
theorem dX7_unload_10 : decode cX7_unload 10 = .ok (.ifCond .lt 18, 3) := by decide +kernel
theorem dX7_unload_13 : decode cX7_unload 13 = .ok (.iload_n 2, 1) := by decide +kernel
theorem dX7_unload_14 : decode cX7_unload 14 = .ok (.aload_n 0, 1) := by decide +kernel
theorem dX7_unload_15 : decode cX7_unload 15 = .ok (.getfield 40, 3) := by decide +kernel
theorem dX7_unload_18 : decode cX7_unload 18 = .ok (.getfield 118, 3) := by decide +kernel
theorem dX7_unload_21 : decode cX7_unload 21 = .ok (.iload_n 1, 1) := by decide +kernel
theorem dX7_unload_22 : decode cX7_unload 22 = .ok (.invokevirtual 177, 3) := by decide +kernel
theorem dX7_unload_25 : decode cX7_unload 25 = .ok (.if_icmp .le 5, 3) := by decide +kernel
theorem dX7_unload_28 : decode cX7_unload 28 = .ok (.iconst (-1), 1) := by decide +kernel
theorem dX7_unload_29 : decode cX7_unload 29 = .ok (.ireturn, 1) := by decide +kernel
theorem dX7_unload_30 : decode cX7_unload 30 = .ok (.aload_n 0, 1) := by decide +kernel
theorem dX7_unload_31 : decode cX7_unload 31 = .ok (.getfield 40, 3) := by decide +kernel
theorem dX7_unload_34 : decode cX7_unload 34 = .ok (.getfield 118, 3) := by decide +kernel
theorem dX7_unload_37 : decode cX7_unload 37 = .ok (.iload_n 1, 1) := by decide +kernel
theorem dX7_unload_38 : decode cX7_unload 38 = .ok (.invokevirtual 214, 3) := by decide +kernel
theorem dX7_unload_41 : decode cX7_unload 41 = .ok (.istore_n 3, 1) := by decide +kernel
theorem dX7_unload_42 : decode cX7_unload 42 = .ok (.aload_n 0, 1) := by decide +kernel
theorem dX7_unload_43 : decode cX7_unload 43 = .ok (.getfield 40, 3) := by decide +kernel
theorem dX7_unload_46 : decode cX7_unload 46 = .ok (.getfield 118, 3) := by decide +kernel
theorem dX7_unload_49 : decode cX7_unload 49 = .ok (.aload_n 0, 1) := by decide +kernel
theorem dX7_unload_50 : decode cX7_unload 50 = .ok (.getfield 30, 3) := by decide +kernel
theorem dX7_unload_53 : decode cX7_unload 53 = .ok (.iload_n 3, 1) := by decide +kernel
theorem dX7_unload_54 : decode cX7_unload 54 = .ok (.invokevirtual 128, 3) := by decide +kernel
theorem dX7_unload_57 : decode cX7_unload 57 = .ok (.ifCond .eq 6, 3) := by decide +kernel
theorem dX7_unload_60 : decode cX7_unload 60 = .ok (.bipush (-2), 2) := by decide +kernel
theorem dX7_unload_62 : decode cX7_unload 62 = .ok (.ireturn, 1) := by decide +kernel
theorem dX7_unload_63 : decode cX7_unload 63 = .ok (.aload_n 0, 1) := by decide +kernel
theorem dX7_unload_64 : decode cX7_unload 64 = .ok (.getfield 47, 3) := by decide +kernel
theorem dX7_unload_67 : decode cX7_unload 67 = .ok (.aload_n 0, 1) := by decide +kernel
theorem dX7_unload_68 : decode cX7_unload 68 = .ok (.getfield 40, 3) := by decide +kernel
theorem dX7_unload_71 : decode cX7_unload 71 = .ok (.invokevirtual 241, 3) := by decide +kernel
theorem dX7_unload_74 : decode cX7_unload 74 = .ok (.aload_n 0, 1) := by decide +kernel
theorem dX7_unload_75 : decode cX7_unload 75 = .ok (.getfield 40, 3) := by decide +kernel
theorem dX7_unload_78 : decode cX7_unload 78 = .ok (.getfield 118, 3) := by decide +kernel
theorem dX7_unload_81 : decode cX7_unload 81 = .ok (.iload_n 3, 1) := by decide +kernel
theorem dX7_unload_82 : decode cX7_unload 82 = .ok (.invokevirtual 257, 3) := by decide +kernel
theorem dX7_unload_85 : decode cX7_unload 85 = .ok (.aload_n 0, 1) := by decide +kernel
theorem dX7_unload_86 : decode cX7_unload 86 = .ok (.getfield 40, 3) := by decide +kernel
theorem dX7_unload_89 : decode cX7_unload 89 = .ok (.getfield 248, 3) := by decide +kernel
theorem dX7_unload_92 : decode cX7_unload 92 = .ok (.iload_n 1, 1) := by decide +kernel
theorem dX7_unload_93 : decode cX7_unload 93 = .ok (.iconst 2, 1) := by decide +kernel
theorem dX7_unload_94 : decode cX7_unload 94 = .ok (.iastore, 1) := by decide +kernel
theorem dX7_unload_95 : decode cX7_unload 95 = .ok (.aload_n 0, 1) := by decide +kernel
theorem dX7_unload_96 : decode cX7_unload 96 = .ok (.getfield 40, 3) := by decide +kernel
theorem dX7_unload_99 : decode cX7_unload 99 = .ok (.getfield 183, 3) := by decide +kernel
theorem dX7_unload_102 : decode cX7_unload 102 = .ok (.iload_n 1, 1) := by decide +kernel
theorem dX7_unload_103 : decode cX7_unload 103 = .ok (.iload_n 2, 1) := by decide +kernel
theorem dX7_unload_104 : decode cX7_unload 104 = .ok (.iastore, 1) := by decide +kernel
theorem dX7_unload_105 : decode cX7_unload 105 = .ok (.aload_n 0, 1) := by decide +kernel
theorem dX7_unload_106 : decode cX7_unload 106 = .ok (.getfield 40, 3) := by decide +kernel
theorem dX7_unload_109 : decode cX7_unload 109 = .ok (.aload_n 0, 1) := by decide +kernel
theorem dX7_unload_110 : decode cX7_unload 110 = .ok (.getfield 30, 3) := by decide +kernel
theorem dX7_unload_113 : decode cX7_unload 113 = .ok (.iload_n 1, 1) := by decide +kernel
theorem dX7_unload_114 : decode cX7_unload 114 = .ok (.invokevirtual 186, 3) := by decide +kernel
theorem dX7_unload_117 : decode cX7_unload 117 = .ok (.ireturn, 1) := by decide +kernel
theorem dX7_empty_0 : decode cX7_empty 0 = .ok (.aload_n 0, 1) := by decide +kernel
theorem dX7_empty_1 : decode cX7_empty 1 = .ok (.getfield 30, 3) := by decide +kernel
theorem dX7_empty_4 : decode cX7_empty 4 = .ok (.iload_n 1, 1) := by decide +kernel
theorem dX7_empty_5 : decode cX7_empty 5 = .ok (.invokevirtual 138, 3) := by decide +kernel
theorem dX7_empty_8 : decode cX7_empty 8 = .ok (.ifCond .eq 18, 3) := by decide +kernel
theorem dX7_empty_11 : decode cX7_empty 11 = .ok (.aload_n 0, 1) := by decide +kernel
theorem dX7_empty_12 : decode cX7_empty 12 = .ok (.getfield 40, 3) := by decide +kernel
theorem dX7_empty_15 : decode cX7_empty 15 = .ok (.getfield 118, 3) := by decide +kernel
theorem dX7_empty_18 : decode cX7_empty 18 = .ok (.getfield 156, 3) := by decide +kernel
theorem dX7_empty_21 : decode cX7_empty 21 = .ok (.iload_n 1, 1) := by decide +kernel
theorem dX7_empty_22 : decode cX7_empty 22 = .ok (.iaload, 1) := by decide +kernel
theorem dX7_empty_23 : decode cX7_empty 23 = .ok (.ifCond .ne 5, 3) := by decide +kernel
theorem dX7_empty_26 : decode cX7_empty 26 = .ok (.iconst (-1), 1) := by decide +kernel
theorem dX7_empty_27 : decode cX7_empty 27 = .ok (.ireturn, 1) := by decide +kernel
theorem dX7_empty_28 : decode cX7_empty 28 = .ok (.aload_n 0, 1) := by decide +kernel
theorem dX7_empty_29 : decode cX7_empty 29 = .ok (.aload_n 0, 1) := by decide +kernel
theorem dX7_empty_30 : decode cX7_empty 30 = .ok (.getfield 40, 3) := by decide +kernel
theorem dX7_empty_33 : decode cX7_empty 33 = .ok (.getfield 118, 3) := by decide +kernel
theorem dX7_empty_36 : decode cX7_empty 36 = .ok (.getfield 159, 3) := by decide +kernel
theorem dX7_empty_39 : decode cX7_empty 39 = .ok (.iload_n 1, 1) := by decide +kernel
theorem dX7_empty_40 : decode cX7_empty 40 = .ok (.iaload, 1) := by decide +kernel
theorem dX7_empty_41 : decode cX7_empty 41 = .ok (.iconst 1, 1) := by decide +kernel
theorem dX7_empty_42 : decode cX7_empty 42 = .ok (.invokevirtual 211, 3) := by decide +kernel
theorem dX7_empty_45 : decode cX7_empty 45 = .ok (.ifCond .eq 21, 3) := by decide +kernel
theorem dX7_empty_48 : decode cX7_empty 48 = .ok (.aload_n 0, 1) := by decide +kernel
theorem dX7_empty_49 : decode cX7_empty 49 = .ok (.getfield 40, 3) := by decide +kernel
theorem dX7_empty_52 : decode cX7_empty 52 = .ok (.aload_n 0, 1) := by decide +kernel
theorem dX7_empty_53 : decode cX7_empty 53 = .ok (.getfield 30, 3) := by decide +kernel
theorem dX7_empty_56 : decode cX7_empty 56 = .ok (.invokevirtual 237, 3) := by decide +kernel
theorem dX7_empty_59 : decode cX7_empty 59 = .ok (.iconst 4, 1) := by decide +kernel
theorem dX7_empty_60 : decode cX7_empty 60 = .ok (.if_icmp .lt 6, 3) := by decide +kernel
theorem dX7_empty_63 : decode cX7_empty 63 = .ok (.bipush (-2), 2) := by decide +kernel
theorem dX7_empty_65 : decode cX7_empty 65 = .ok (.ireturn, 1) := by decide +kernel
theorem dX7_empty_66 : decode cX7_empty 66 = .ok (.aload_n 0, 1) := by decide +kernel
theorem dX7_empty_67 : decode cX7_empty 67 = .ok (.getfield 47, 3) := by decide +kernel
theorem dX7_empty_70 : decode cX7_empty 70 = .ok (.aload_n 0, 1) := by decide +kernel
theorem dX7_empty_71 : decode cX7_empty 71 = .ok (.getfield 40, 3) := by decide +kernel
theorem dX7_empty_74 : decode cX7_empty 74 = .ok (.invokevirtual 241, 3) := by decide +kernel
theorem dX7_empty_77 : decode cX7_empty 77 = .ok (.aload_n 0, 1) := by decide +kernel
theorem dX7_empty_78 : decode cX7_empty 78 = .ok (.getfield 40, 3) := by decide +kernel
theorem dX7_empty_81 : decode cX7_empty 81 = .ok (.getfield 118, 3) := by decide +kernel
theorem dX7_empty_84 : decode cX7_empty 84 = .ok (.getfield 156, 3) := by decide +kernel
theorem dX7_empty_87 : decode cX7_empty 87 = .ok (.iload_n 1, 1) := by decide +kernel
theorem dX7_empty_88 : decode cX7_empty 88 = .ok (.iaload, 1) := by decide +kernel
theorem dX7_empty_89 : decode cX7_empty 89 = .ok (.istore_n 2, 1) := by decide +kernel
theorem dX7_empty_90 : decode cX7_empty 90 = .ok (.aload_n 0, 1) := by decide +kernel
theorem dX7_empty_91 : decode cX7_empty 91 = .ok (.getfield 40, 3) := by decide +kernel
theorem dX7_empty_94 : decode cX7_empty 94 = .ok (.getfield 118, 3) := by decide +kernel
theorem dX7_empty_97 : decode cX7_empty 97 = .ok (.iload_n 1, 1) := by decide +kernel
theorem dX7_empty_98 : decode cX7_empty 98 = .ok (.invokevirtual 260, 3) := by decide +kernel
theorem dX7_empty_101 : decode cX7_empty 101 = .ok (.iload_n 2, 1) := by decide +kernel
theorem dX7_empty_102 : decode cX7_empty 102 = .ok (.ireturn, 1) := by decide +kernel
theorem dX7_wash_0 : decode cX7_wash 0 = .ok (.aload_n 0, 1) := by decide +kernel
theorem dX7_wash_1 : decode cX7_wash 1 = .ok (.getfield 30, 3) := by decide +kernel
theorem dX7_wash_4 : decode cX7_wash 4 = .ok (.iload_n 1, 1) := by decide +kernel
theorem dX7_wash_5 : decode cX7_wash 5 = .ok (.invokevirtual 138, 3) := by decide +kernel
theorem dX7_wash_8 : decode cX7_wash 8 = .ok (.ifCond .eq 34, 3) := by decide +kernel
theorem dX7_wash_11 : decode cX7_wash 11 = .ok (.aload_n 0, 1) := by decide +kernel
theorem dX7_wash_12 : decode cX7_wash 12 = .ok (.getfield 40, 3) := by decide +kernel
theorem dX7_wash_15 : decode cX7_wash 15 = .ok (.getfield 118, 3) := by decide +kernel
theorem dX7_wash_18 : decode cX7_wash 18 = .ok (.getfield 156, 3) := by decide +kernel
theorem dX7_wash_21 : decode cX7_wash 21 = .ok (.iload_n 1, 1) := by decide +kernel
theorem dX7_wash_22 : decode cX7_wash 22 = .ok (.iaload, 1) := by decide +kernel
theorem dX7_wash_23 : decode cX7_wash 23 = .ok (.ifCond .gt 19, 3) := by decide +kernel
theorem dX7_wash_26 : decode cX7_wash 26 = .ok (.aload_n 0, 1) := by decide +kernel
theorem dX7_wash_27 : decode cX7_wash 27 = .ok (.getfield 40, 3) := by decide +kernel
theorem dX7_wash_30 : decode cX7_wash 30 = .ok (.getfield 118, 3) := by decide +kernel
theorem dX7_wash_33 : decode cX7_wash 33 = .ok (.getfield 162, 3) := by decide +kernel
theorem dX7_wash_36 : decode cX7_wash 36 = .ok (.iload_n 1, 1) := by decide +kernel
theorem dX7_wash_37 : decode cX7_wash 37 = .ok (.iaload, 1) := by decide +kernel
theorem dX7_wash_38 : decode cX7_wash 38 = .ok (.iconst (-1), 1) := by decide +kernel
theorem dX7_wash_39 : decode cX7_wash 39 = .ok (.if_icmp .ne 5, 3) := by decide +kernel
theorem dX7_wash_42 : decode cX7_wash 42 = .ok (.iconst 0, 1) := by decide +kernel
theorem dX7_wash_43 : decode cX7_wash 43 = .ok (.ireturn, 1) := by decide +kernel
theorem dX7_wash_44 : decode cX7_wash 44 = .ok (.aload_n 0, 1) := by decide +kernel
theorem dX7_wash_45 : decode cX7_wash 45 = .ok (.getfield 47, 3) := by decide +kernel
theorem dX7_wash_48 : decode cX7_wash 48 = .ok (.aload_n 0, 1) := by decide +kernel
theorem dX7_wash_49 : decode cX7_wash 49 = .ok (.getfield 40, 3) := by decide +kernel
theorem dX7_wash_52 : decode cX7_wash 52 = .ok (.invokevirtual 241, 3) := by decide +kernel
theorem dX7_wash_55 : decode cX7_wash 55 = .ok (.aload_n 0, 1) := by decide +kernel
theorem dX7_wash_56 : decode cX7_wash 56 = .ok (.getfield 40, 3) := by decide +kernel
theorem dX7_wash_59 : decode cX7_wash 59 = .ok (.getfield 118, 3) := by decide +kernel
theorem dX7_wash_62 : decode cX7_wash 62 = .ok (.getfield 162, 3) := by decide +kernel
theorem dX7_wash_65 : decode cX7_wash 65 = .ok (.iload_n 1, 1) := by decide +kernel
theorem dX7_wash_66 : decode cX7_wash 66 = .ok (.iconst (-1), 1) := by decide +kernel
theorem dX7_wash_67 : decode cX7_wash 67 = .ok (.iastore, 1) := by decide +kernel
theorem dX7_wash_68 : decode cX7_wash 68 = .ok (.aload_n 0, 1) := by decide +kernel
theorem dX7_wash_69 : decode cX7_wash 69 = .ok (.getfield 40, 3) := by decide +kernel
theorem dX7_wash_72 : decode cX7_wash 72 = .ok (.dup, 1) := by decide +kernel
theorem dX7_wash_73 : decode cX7_wash 73 = .ok (.getfield 131, 3) := by decide +kernel
theorem dX7_wash_76 : decode cX7_wash 76 = .ok (.iconst 1, 1) := by decide +kernel
theorem dX7_wash_77 : decode cX7_wash 77 = .ok (.iadd, 1) := by decide +kernel
theorem dX7_wash_78 : decode cX7_wash 78 = .ok (.putfield 131, 3) := by decide +kernel
theorem dX7_wash_81 : decode cX7_wash 81 = .ok (.iconst 1, 1) := by decide +kernel
theorem dX7_wash_82 : decode cX7_wash 82 = .ok (.ireturn, 1) := by decide +kernel
theorem dX7_undo_0 : decode cX7_undo 0 = .ok (.aload_n 0, 1) := by decide +kernel
theorem dX7_undo_1 : decode cX7_undo 1 = .ok (.getfield 47, 3) := by decide +kernel
theorem dX7_undo_4 : decode cX7_undo 4 = .ok (.aload_n 0, 1) := by decide +kernel
theorem dX7_undo_5 : decode cX7_undo 5 = .ok (.getfield 40, 3) := by decide +kernel
theorem dX7_undo_8 : decode cX7_undo 8 = .ok (.invokevirtual 263, 3) := by decide +kernel
theorem dX7_undo_11 : decode cX7_undo 11 = .ok (.ifCond .eq 13, 3) := by decide +kernel
theorem dX7_undo_14 : decode cX7_undo 14 = .ok (.aload_n 0, 1) := by decide +kernel
theorem dX7_undo_15 : decode cX7_undo 15 = .ok (.getfield 47, 3) := by decide +kernel
theorem dX7_undo_18 : decode cX7_undo 18 = .ok (.getfield 134, 3) := by decide +kernel
theorem dX7_undo_21 : decode cX7_undo 21 = .ok (.goto 4, 3) := by decide +kernel
theorem dX7_undo_24 : decode cX7_undo 24 = .ok (.iconst (-1), 1) := by decide +kernel
theorem dX7_undo_25 : decode cX7_undo 25 = .ok (.ireturn, 1) := by decide +kernel
theorem dX7_tapeNumber_0 : decode cX7_tapeNumber 0 = .ok (.bipush 24, 2) := by decide +kernel
theorem dX7_tapeNumber_2 : decode cX7_tapeNumber 2 = .ok (.istore_n 2, 1) := by decide +kernel
theorem dX7_tapeNumber_3 : decode cX7_tapeNumber 3 = .ok (.iload_n 2, 1) := by decide +kernel
theorem dX7_tapeNumber_4 : decode cX7_tapeNumber 4 = .ok (.ifCond .lt 42, 3) := by decide +kernel
theorem dX7_tapeNumber_7 : decode cX7_tapeNumber 7 = .ok (.aload_n 0, 1) := by decide +kernel
theorem dX7_tapeNumber_8 : decode cX7_tapeNumber 8 = .ok (.getfield 13, 3) := by decide +kernel
theorem dX7_tapeNumber_11 : decode cX7_tapeNumber 11 = .ok (.sipush 740, 3) := by decide +kernel
theorem dX7_tapeNumber_14 : decode cX7_tapeNumber 14 = .ok (.if_icmp .ge 26, 3) := by decide +kernel
theorem dX7_tapeNumber_17 : decode cX7_tapeNumber 17 = .ok (.aload_n 0, 1) := by decide +kernel
theorem dX7_tapeNumber_18 : decode cX7_tapeNumber 18 = .ok (.getfield 9, 3) := by decide +kernel
theorem dX7_tapeNumber_21 : decode cX7_tapeNumber 21 = .ok (.aload_n 0, 1) := by decide +kernel
theorem dX7_tapeNumber_22 : decode cX7_tapeNumber 22 = .ok (.getfield 13, 3) := by decide +kernel
theorem dX7_tapeNumber_25 : decode cX7_tapeNumber 25 = .ok (.iload_n 1, 1) := by decide +kernel
theorem dX7_tapeNumber_26 : decode cX7_tapeNumber 26 = .ok (.iload_n 2, 1) := by decide +kernel
theorem dX7_tapeNumber_27 : decode cX7_tapeNumber 27 = .ok (.ishr, 1) := by decide +kernel
theorem dX7_tapeNumber_28 : decode cX7_tapeNumber 28 = .ok (.i2b, 1) := by decide +kernel
theorem dX7_tapeNumber_29 : decode cX7_tapeNumber 29 = .ok (.bastore, 1) := by decide +kernel
theorem dX7_tapeNumber_30 : decode cX7_tapeNumber 30 = .ok (.aload_n 0, 1) := by decide +kernel
theorem dX7_tapeNumber_31 : decode cX7_tapeNumber 31 = .ok (.dup, 1) := by decide +kernel
theorem dX7_tapeNumber_32 : decode cX7_tapeNumber 32 = .ok (.getfield 13, 3) := by decide +kernel
theorem dX7_tapeNumber_35 : decode cX7_tapeNumber 35 = .ok (.iconst 1, 1) := by decide +kernel
theorem dX7_tapeNumber_36 : decode cX7_tapeNumber 36 = .ok (.iadd, 1) := by decide +kernel
theorem dX7_tapeNumber_37 : decode cX7_tapeNumber 37 = .ok (.putfield 13, 3) := by decide +kernel
theorem dX7_tapeNumber_40 : decode cX7_tapeNumber 40 = .ok (.iinc 2 (-8), 3) := by decide +kernel
theorem dX7_tapeNumber_43 : decode cX7_tapeNumber 43 = .ok (.goto (-40), 3) := by decide +kernel
theorem dX7_tapeNumber_46 : decode cX7_tapeNumber 46 = .ok (.return_, 1) := by decide +kernel
theorem dX7_isSo_0 : decode cX7_isSo 0 = .ok (.aload_n 0, 1) := by decide +kernel
theorem dX7_isSo_1 : decode cX7_isSo 1 = .ok (.getfield 40, 3) := by decide +kernel
theorem dX7_isSo_4 : decode cX7_isSo 4 = .ok (.iload_n 1, 1) := by decide +kernel
theorem dX7_isSo_5 : decode cX7_isSo 5 = .ok (.invokevirtual 165, 3) := by decide +kernel
theorem dX7_isSo_8 : decode cX7_isSo 8 = .ok (.ifCond .eq 23, 3) := by decide +kernel
theorem dX7_isSo_11 : decode cX7_isSo 11 = .ok (.aload_n 0, 1) := by decide +kernel
theorem dX7_isSo_12 : decode cX7_isSo 12 = .ok (.getfield 40, 3) := by decide +kernel
theorem dX7_isSo_15 : decode cX7_isSo 15 = .ok (.aload_n 0, 1) := by decide +kernel
theorem dX7_isSo_16 : decode cX7_isSo 16 = .ok (.getfield 30, 3) := by decide +kernel
theorem dX7_isSo_19 : decode cX7_isSo 19 = .ok (.iload_n 1, 1) := by decide +kernel
theorem dX7_isSo_20 : decode cX7_isSo 20 = .ok (.invokevirtual 180, 3) := by decide +kernel
theorem dX7_isSo_23 : decode cX7_isSo 23 = .ok (.iload_n 2, 1) := by decide +kernel
theorem dX7_isSo_24 : decode cX7_isSo 24 = .ok (.if_icmp .ne 7, 3) := by decide +kernel
theorem dX7_isSo_27 : decode cX7_isSo 27 = .ok (.iconst 1, 1) := by decide +kernel
theorem dX7_isSo_28 : decode cX7_isSo 28 = .ok (.goto 4, 3) := by decide +kernel
theorem dX7_isSo_31 : decode cX7_isSo 31 = .ok (.iconst 0, 1) := by decide +kernel
theorem dX7_isSo_32 : decode cX7_isSo 32 = .ok (.ireturn, 1) := by decide +kernel
theorem dX8_refuse_0 : decode cX8_refuse 0 = .ok (.aload_n 0, 1) := by decide +kernel
theorem dX8_refuse_1 : decode cX8_refuse 1 = .ok (.iconst 1, 1) := by decide +kernel
theorem dX8_refuse_2 : decode cX8_refuse 2 = .ok (.putfield 1, 3) := by decide +kernel
theorem dX8_refuse_5 : decode cX8_refuse 5 = .ok (.iconst 0, 1) := by decide +kernel
theorem dX8_refuse_6 : decode cX8_refuse 6 = .ok (.ireturn, 1) := by decide +kernel
theorem dX8_isIn_0 : decode cX8_isIn 0 = .ok (.iload_n 0, 1) := by decide +kernel
theorem dX8_isIn_1 : decode cX8_isIn 1 = .ok (.iload_n 1, 1) := by decide +kernel
theorem dX8_isIn_2 : decode cX8_isIn 2 = .ok (.if_icmp .lt 12, 3) := by decide +kernel
theorem dX8_isIn_5 : decode cX8_isIn 5 = .ok (.iload_n 0, 1) := by decide +kernel
theorem dX8_isIn_6 : decode cX8_isIn 6 = .ok (.iload_n 2, 1) := by decide +kernel
theorem dX8_isIn_7 : decode cX8_isIn 7 = .ok (.if_icmp .gt 7, 3) := by decide +kernel
theorem dX8_isIn_10 : decode cX8_isIn 10 = .ok (.iconst 1, 1) := by decide +kernel
theorem dX8_isIn_11 : decode cX8_isIn 11 = .ok (.goto 4, 3) := by decide +kernel
theorem dX8_isIn_14 : decode cX8_isIn 14 = .ok (.iconst 0, 1) := by decide +kernel
theorem dX8_isIn_15 : decode cX8_isIn 15 = .ok (.ireturn, 1) := by decide +kernel
theorem dX8_has_0 : decode cX8_has 0 = .ok (.iload_n 0, 1) := by decide +kernel
theorem dX8_has_1 : decode cX8_has 1 = .ok (.iload_n 1, 1) := by decide +kernel
theorem dX8_has_2 : decode cX8_has 2 = .ok (.ishr, 1) := by decide +kernel
theorem dX8_has_3 : decode cX8_has 3 = .ok (.iconst 1, 1) := by decide +kernel
theorem dX8_has_4 : decode cX8_has 4 = .ok (.iand, 1) := by decide +kernel
theorem dX8_has_5 : decode cX8_has 5 = .ok (.iconst 1, 1) := by decide +kernel
theorem dX8_has_6 : decode cX8_has 6 = .ok (.if_icmp .ne 7, 3) := by decide +kernel
theorem dX8_has_9 : decode cX8_has 9 = .ok (.iconst 1, 1) := by decide +kernel
theorem dX8_has_10 : decode cX8_has 10 = .ok (.goto 4, 3) := by decide +kernel
theorem dX8_has_13 : decode cX8_has 13 = .ok (.iconst 0, 1) := by decide +kernel
theorem dX8_has_14 : decode cX8_has 14 = .ok (.ireturn, 1) := by decide +kernel
theorem dX8_lays_0 : decode cX8_lays 0 = .ok (.bipush 24, 2) := by decide +kernel
theorem dX8_lays_2 : decode cX8_lays 2 = .ok (.istore_n 2, 1) := by decide +kernel
theorem dX8_lays_3 : decode cX8_lays 3 = .ok (.iload_n 2, 1) := by decide +kernel
theorem dX8_lays_4 : decode cX8_lays 4 = .ok (.ifCond .lt 35, 3) := by decide +kernel
theorem dX8_lays_7 : decode cX8_lays 7 = .ok (.aload_n 0, 1) := by decide +kernel
theorem dX8_lays_8 : decode cX8_lays 8 = .ok (.getfield 7, 3) := by decide +kernel
theorem dX8_lays_11 : decode cX8_lays 11 = .ok (.aload_n 0, 1) := by decide +kernel
theorem dX8_lays_12 : decode cX8_lays 12 = .ok (.getfield 11, 3) := by decide +kernel
theorem dX8_lays_15 : decode cX8_lays 15 = .ok (.iload_n 1, 1) := by decide +kernel
theorem dX8_lays_16 : decode cX8_lays 16 = .ok (.iload_n 2, 1) := by decide +kernel
theorem dX8_lays_17 : decode cX8_lays 17 = .ok (.iushr, 1) := by decide +kernel
theorem dX8_lays_18 : decode cX8_lays 18 = .ok (.sipush 255, 3) := by decide +kernel
theorem dX8_lays_21 : decode cX8_lays 21 = .ok (.iand, 1) := by decide +kernel
theorem dX8_lays_22 : decode cX8_lays 22 = .ok (.iastore, 1) := by decide +kernel
theorem dX8_lays_23 : decode cX8_lays 23 = .ok (.aload_n 0, 1) := by decide +kernel
theorem dX8_lays_24 : decode cX8_lays 24 = .ok (.dup, 1) := by decide +kernel
theorem dX8_lays_25 : decode cX8_lays 25 = .ok (.getfield 11, 3) := by decide +kernel
theorem dX8_lays_28 : decode cX8_lays 28 = .ok (.iconst 1, 1) := by decide +kernel
theorem dX8_lays_29 : decode cX8_lays 29 = .ok (.iadd, 1) := by decide +kernel
theorem dX8_lays_30 : decode cX8_lays 30 = .ok (.putfield 11, 3) := by decide +kernel
theorem dX8_lays_33 : decode cX8_lays 33 = .ok (.iinc 2 (-8), 3) := by decide +kernel
theorem dX8_lays_36 : decode cX8_lays 36 = .ok (.goto (-33), 3) := by decide +kernel
theorem dX8_lays_39 : decode cX8_lays 39 = .ok (.return_, 1) := by decide +kernel
theorem dX8_feed_0 : decode cX8_feed 0 = .ok (.aload_n 0, 1) := by decide +kernel
theorem dX8_feed_1 : decode cX8_feed 1 = .ok (.iconst 0, 1) := by decide +kernel
theorem dX8_feed_2 : decode cX8_feed 2 = .ok (.putfield 1, 3) := by decide +kernel
theorem dX8_feed_5 : decode cX8_feed 5 = .ok (.aload_n 0, 1) := by decide +kernel
theorem dX8_feed_6 : decode cX8_feed 6 = .ok (.getfield 11, 3) := by decide +kernel
theorem dX8_feed_9 : decode cX8_feed 9 = .ok (.bipush 20, 2) := by decide +kernel
theorem dX8_feed_11 : decode cX8_feed 11 = .ok (.iadd, 1) := by decide +kernel
theorem dX8_feed_12 : decode cX8_feed 12 = .ok (.sipush 740, 3) := by decide +kernel
theorem dX8_feed_15 : decode cX8_feed 15 = .ok (.if_icmp .le 5, 3) := by decide +kernel
theorem dX8_feed_18 : decode cX8_feed 18 = .ok (.iconst (-1), 1) := by decide +kernel
theorem dX8_feed_19 : decode cX8_feed 19 = .ok (.ireturn, 1) := by decide +kernel
theorem dX8_feed_20 : decode cX8_feed 20 = .ok (.aload_n 0, 1) := by decide +kernel
theorem dX8_feed_21 : decode cX8_feed 21 = .ok (.iload_n 1, 1) := by decide +kernel
theorem dX8_feed_22 : decode cX8_feed 22 = .ok (.invokevirtual 14, 3) := by decide +kernel
theorem dX8_feed_25 : decode cX8_feed 25 = .ok (.aload_n 0, 1) := by decide +kernel
theorem dX8_feed_26 : decode cX8_feed 26 = .ok (.iload_n 2, 1) := by decide +kernel
theorem dX8_feed_27 : decode cX8_feed 27 = .ok (.invokevirtual 14, 3) := by decide +kernel
theorem dX8_feed_30 : decode cX8_feed 30 = .ok (.aload_n 0, 1) := by decide +kernel
theorem dX8_feed_31 : decode cX8_feed 31 = .ok (.iload_n 3, 1) := by decide +kernel
theorem dX8_feed_32 : decode cX8_feed 32 = .ok (.invokevirtual 14, 3) := by decide +kernel
theorem dX8_feed_35 : decode cX8_feed 35 = .ok (.aload_n 0, 1) := by decide +kernel
theorem dX8_feed_36 : decode cX8_feed 36 = .ok (.iload 4, 2) := by decide +kernel
theorem dX8_feed_38 : decode cX8_feed 38 = .ok (.invokevirtual 14, 3) := by decide +kernel
theorem dX8_feed_41 : decode cX8_feed 41 = .ok (.aload_n 0, 1) := by decide +kernel
theorem dX8_feed_42 : decode cX8_feed 42 = .ok (.iload 5, 2) := by decide +kernel
theorem dX8_feed_44 : decode cX8_feed 44 = .ok (.invokevirtual 14, 3) := by decide +kernel
theorem dX8_feed_47 : decode cX8_feed 47 = .ok (.aload_n 0, 1) := by decide +kernel
theorem dX8_feed_48 : decode cX8_feed 48 = .ok (.getfield 11, 3) := by decide +kernel
theorem dX8_feed_51 : decode cX8_feed 51 = .ok (.ireturn, 1) := by decide +kernel
theorem dX8_end_0 : decode cX8_end 0 = .ok (.aload_n 0, 1) := by decide +kernel
theorem dX8_end_1 : decode cX8_end 1 = .ok (.iconst 0, 1) := by decide +kernel
theorem dX8_end_2 : decode cX8_end 2 = .ok (.putfield 1, 3) := by decide +kernel
theorem dX8_end_5 : decode cX8_end 5 = .ok (.iload_n 1, 1) := by decide +kernel
theorem dX8_end_6 : decode cX8_end 6 = .ok (.ifCond .lt 11, 3) := by decide +kernel
theorem dX8_end_9 : decode cX8_end 9 = .ok (.iload_n 1, 1) := by decide +kernel
theorem dX8_end_10 : decode cX8_end 10 = .ok (.aload_n 0, 1) := by decide +kernel
theorem dX8_end_11 : decode cX8_end 11 = .ok (.getfield 11, 3) := by decide +kernel
theorem dX8_end_14 : decode cX8_end 14 = .ok (.if_icmp .le 5, 3) := by decide +kernel
theorem dX8_end_17 : decode cX8_end 17 = .ok (.iconst 0, 1) := by decide +kernel
theorem dX8_end_18 : decode cX8_end 18 = .ok (.ireturn, 1) := by decide +kernel
theorem dX8_end_19 : decode cX8_end 19 = .ok (.aload_n 0, 1) := by decide +kernel
theorem dX8_end_20 : decode cX8_end 20 = .ok (.iload_n 1, 1) := by decide +kernel
theorem dX8_end_21 : decode cX8_end 21 = .ok (.putfield 11, 3) := by decide +kernel
theorem dX8_end_24 : decode cX8_end 24 = .ok (.iconst 1, 1) := by decide +kernel
theorem dX8_end_25 : decode cX8_end 25 = .ok (.ireturn, 1) := by decide +kernel
theorem dX8_tapeAt_0 : decode cX8_tapeAt 0 = .ok (.iload_n 1, 1) := by decide +kernel
theorem dX8_tapeAt_1 : decode cX8_tapeAt 1 = .ok (.aload_n 0, 1) := by decide +kernel
theorem dX8_tapeAt_2 : decode cX8_tapeAt 2 = .ok (.getfield 18, 3) := by decide +kernel
theorem dX8_tapeAt_5 : decode cX8_tapeAt 5 = .ok (.if_icmp .ge 12, 3) := by decide +kernel
theorem dX8_tapeAt_8 : decode cX8_tapeAt 8 = .ok (.aload_n 0, 1) := by decide +kernel
theorem dX8_tapeAt_9 : decode cX8_tapeAt 9 = .ok (.getfield 7, 3) := by decide +kernel
theorem dX8_tapeAt_12 : decode cX8_tapeAt 12 = .ok (.iload_n 1, 1) := by decide +kernel
theorem dX8_tapeAt_13 : decode cX8_tapeAt 13 = .ok (.iaload, 1) := by decide +kernel
theorem dX8_tapeAt_14 : decode cX8_tapeAt 14 = .ok (.goto 4, 3) := by decide +kernel
theorem dX8_tapeAt_17 : decode cX8_tapeAt 17 = .ok (.iconst 0, 1) := by decide +kernel
theorem dX8_tapeAt_18 : decode cX8_tapeAt 18 = .ok (.ireturn, 1) := by decide +kernel
theorem dX8_isDigit_0 : decode cX8_isDigit 0 = .ok (.iload_n 0, 1) := by decide +kernel
theorem dX8_isDigit_1 : decode cX8_isDigit 1 = .ok (.bipush 48, 2) := by decide +kernel
theorem dX8_isDigit_3 : decode cX8_isDigit 3 = .ok (.if_icmp .lt 13, 3) := by decide +kernel
theorem dX8_isDigit_6 : decode cX8_isDigit 6 = .ok (.iload_n 0, 1) := by decide +kernel
theorem dX8_isDigit_7 : decode cX8_isDigit 7 = .ok (.bipush 57, 2) := by decide +kernel
theorem dX8_isDigit_9 : decode cX8_isDigit 9 = .ok (.if_icmp .gt 7, 3) := by decide +kernel
theorem dX8_isDigit_12 : decode cX8_isDigit 12 = .ok (.iconst 1, 1) := by decide +kernel
theorem dX8_isDigit_13 : decode cX8_isDigit 13 = .ok (.goto 4, 3) := by decide +kernel
theorem dX8_isDigit_16 : decode cX8_isDigit 16 = .ok (.iconst 0, 1) := by decide +kernel
theorem dX8_isDigit_17 : decode cX8_isDigit 17 = .ok (.ireturn, 1) := by decide +kernel
theorem dX8_isLetter_0 : decode cX8_isLetter 0 = .ok (.iload_n 0, 1) := by decide +kernel
theorem dX8_isLetter_1 : decode cX8_isLetter 1 = .ok (.bipush 97, 2) := by decide +kernel
theorem dX8_isLetter_3 : decode cX8_isLetter 3 = .ok (.if_icmp .lt 13, 3) := by decide +kernel
theorem dX8_isLetter_6 : decode cX8_isLetter 6 = .ok (.iload_n 0, 1) := by decide +kernel
theorem dX8_isLetter_7 : decode cX8_isLetter 7 = .ok (.bipush 122, 2) := by decide +kernel
theorem dX8_isLetter_9 : decode cX8_isLetter 9 = .ok (.if_icmp .gt 7, 3) := by decide +kernel
theorem dX8_isLetter_12 : decode cX8_isLetter 12 = .ok (.iconst 1, 1) := by decide +kernel
theorem dX8_isLetter_13 : decode cX8_isLetter 13 = .ok (.goto 4, 3) := by decide +kernel
theorem dX8_isLetter_16 : decode cX8_isLetter 16 = .ok (.iconst 0, 1) := by decide +kernel
theorem dX8_isLetter_17 : decode cX8_isLetter 17 = .ok (.ireturn, 1) := by decide +kernel
theorem dX8_go_0 : decode cX8_go 0 = .ok (.aload_n 0, 1) := by decide +kernel
theorem dX8_go_1 : decode cX8_go 1 = .ok (.getfield 21, 3) := by decide +kernel
theorem dX8_go_4 : decode cX8_go 4 = .ok (.aload_n 0, 1) := by decide +kernel
theorem dX8_go_5 : decode cX8_go 5 = .ok (.getfield 18, 3) := by decide +kernel
theorem dX8_go_8 : decode cX8_go 8 = .ok (.if_icmp .ge 44, 3) := by decide +kernel
theorem dX8_go_11 : decode cX8_go 11 = .ok (.aload_n 0, 1) := by decide +kernel
theorem dX8_go_12 : decode cX8_go 12 = .ok (.getfield 7, 3) := by decide +kernel
theorem dX8_go_15 : decode cX8_go 15 = .ok (.aload_n 0, 1) := by decide +kernel
theorem dX8_go_16 : decode cX8_go 16 = .ok (.getfield 21, 3) := by decide +kernel
theorem dX8_go_19 : decode cX8_go 19 = .ok (.iaload, 1) := by decide +kernel
theorem dX8_go_20 : decode cX8_go 20 = .ok (.bipush 32, 2) := by decide +kernel
theorem dX8_go_22 : decode cX8_go 22 = .ok (.if_icmp .eq 17, 3) := by decide +kernel
theorem dX8_go_25 : decode cX8_go 25 = .ok (.aload_n 0, 1) := by decide +kernel
theorem dX8_go_26 : decode cX8_go 26 = .ok (.getfield 7, 3) := by decide +kernel
theorem dX8_go_29 : decode cX8_go 29 = .ok (.aload_n 0, 1) := by decide +kernel
theorem dX8_go_30 : decode cX8_go 30 = .ok (.getfield 21, 3) := by decide +kernel
theorem dX8_go_33 : decode cX8_go 33 = .ok (.iaload, 1) := by decide +kernel
theorem dX8_go_34 : decode cX8_go 34 = .ok (.bipush 10, 2) := by decide +kernel
theorem dX8_go_36 : decode cX8_go 36 = .ok (.if_icmp .ne 16, 3) := by decide +kernel
theorem dX8_go_39 : decode cX8_go 39 = .ok (.aload_n 0, 1) := by decide +kernel
theorem dX8_go_40 : decode cX8_go 40 = .ok (.dup, 1) := by decide +kernel
theorem dX8_go_41 : decode cX8_go 41 = .ok (.getfield 21, 3) := by decide +kernel
theorem dX8_go_44 : decode cX8_go 44 = .ok (.iconst 1, 1) := by decide +kernel
theorem dX8_go_45 : decode cX8_go 45 = .ok (.iadd, 1) := by decide +kernel
theorem dX8_go_46 : decode cX8_go 46 = .ok (.putfield 21, 3) := by decide +kernel
theorem dX8_go_49 : decode cX8_go 49 = .ok (.goto (-49), 3) := by decide +kernel
theorem dX8_go_52 : decode cX8_go 52 = .ok (.aload_n 0, 1) := by decide +kernel
theorem dX8_go_53 : decode cX8_go 53 = .ok (.aload_n 0, 1) := by decide +kernel
theorem dX8_go_54 : decode cX8_go 54 = .ok (.getfield 21, 3) := by decide +kernel
theorem dX8_go_57 : decode cX8_go 57 = .ok (.putfield 24, 3) := by decide +kernel
theorem dX8_go_60 : decode cX8_go 60 = .ok (.aload_n 0, 1) := by decide +kernel
theorem dX8_go_61 : decode cX8_go 61 = .ok (.getfield 18, 3) := by decide +kernel
theorem dX8_go_64 : decode cX8_go 64 = .ok (.sipush 700, 3) := by decide +kernel
theorem dX8_go_67 : decode cX8_go 67 = .ok (.if_icmp .le 26, 3) := by decide +kernel
theorem dX8_go_70 : decode cX8_go 70 = .ok (.aload_n 0, 1) := by decide +kernel
theorem dX8_go_71 : decode cX8_go 71 = .ok (.getfield 24, 3) := by decide +kernel
theorem dX8_go_74 : decode cX8_go 74 = .ok (.sipush 700, 3) := by decide +kernel
theorem dX8_go_77 : decode cX8_go 77 = .ok (.if_icmp .lt 16, 3) := by decide +kernel
theorem dX8_go_80 : decode cX8_go 80 = .ok (.aload_n 0, 1) := by decide +kernel
theorem dX8_go_81 : decode cX8_go 81 = .ok (.sipush 700, 3) := by decide +kernel
theorem dX8_go_84 : decode cX8_go 84 = .ok (.putfield 24, 3) := by decide +kernel
theorem dX8_go_87 : decode cX8_go 87 = .ok (.aload_n 0, 1) := by decide +kernel
theorem dX8_go_88 : decode cX8_go 88 = .ok (.iconst 1, 1) := by decide +kernel
theorem dX8_go_89 : decode cX8_go 89 = .ok (.putfield 27, 3) := by decide +kernel
theorem dX8_go_92 : decode cX8_go 92 = .ok (.return_, 1) := by decide +kernel
theorem dX8_go_93 : decode cX8_go 93 = .ok (.aload_n 0, 1) := by decide +kernel
theorem dX8_go_94 : decode cX8_go 94 = .ok (.getfield 21, 3) := by decide +kernel
theorem dX8_go_97 : decode cX8_go 97 = .ok (.aload_n 0, 1) := by decide +kernel
theorem dX8_go_98 : decode cX8_go 98 = .ok (.getfield 18, 3) := by decide +kernel
theorem dX8_go_101 : decode cX8_go 101 = .ok (.if_icmp .lt 9, 3) := by decide +kernel
theorem dX8_go_104 : decode cX8_go 104 = .ok (.aload_n 0, 1) := by decide +kernel
theorem dX8_go_105 : decode cX8_go 105 = .ok (.iconst 0, 1) := by decide +kernel
theorem dX8_go_106 : decode cX8_go 106 = .ok (.putfield 27, 3) := by decide +kernel
theorem dX8_go_109 : decode cX8_go 109 = .ok (.return_, 1) := by decide +kernel
theorem dX8_go_110 : decode cX8_go 110 = .ok (.aload_n 0, 1) := by decide +kernel
theorem dX8_go_111 : decode cX8_go 111 = .ok (.getfield 7, 3) := by decide +kernel
theorem dX8_go_114 : decode cX8_go 114 = .ok (.aload_n 0, 1) := by decide +kernel
theorem dX8_go_115 : decode cX8_go 115 = .ok (.getfield 21, 3) := by decide +kernel
theorem dX8_go_118 : decode cX8_go 118 = .ok (.iaload, 1) := by decide +kernel
theorem dX8_go_119 : decode cX8_go 119 = .ok (.istore_n 1, 1) := by decide +kernel
theorem dX8_go_120 : decode cX8_go 120 = .ok (.iload_n 1, 1) := by decide +kernel
theorem dX8_go_121 : decode cX8_go 121 = .ok (.invokestatic 30, 3) := by decide +kernel
theorem dX8_go_124 : decode cX8_go 124 = .ok (.ifCond .ne 36, 3) := by decide +kernel
theorem dX8_go_127 : decode cX8_go 127 = .ok (.iload_n 1, 1) := by decide +kernel
theorem dX8_go_128 : decode cX8_go 128 = .ok (.invokestatic 34, 3) := by decide +kernel
theorem dX8_go_131 : decode cX8_go 131 = .ok (.ifCond .ne 29, 3) := by decide +kernel
theorem dX8_go_134 : decode cX8_go 134 = .ok (.aload_n 0, 1) := by decide +kernel
theorem dX8_go_135 : decode cX8_go 135 = .ok (.iload_n 1, 1) := by decide +kernel
theorem dX8_go_136 : decode cX8_go 136 = .ok (.bipush 59, 2) := by decide +kernel
theorem dX8_go_138 : decode cX8_go 138 = .ok (.if_icmp .ne 7, 3) := by decide +kernel
theorem dX8_go_141 : decode cX8_go 141 = .ok (.iconst 4, 1) := by decide +kernel
theorem dX8_go_142 : decode cX8_go 142 = .ok (.goto 4, 3) := by decide +kernel
theorem dX8_go_145 : decode cX8_go 145 = .ok (.iconst 1, 1) := by decide +kernel
theorem dX8_go_146 : decode cX8_go 146 = .ok (.putfield 27, 3) := by decide +kernel
theorem dX8_go_149 : decode cX8_go 149 = .ok (.aload_n 0, 1) := by decide +kernel
theorem dX8_go_150 : decode cX8_go 150 = .ok (.dup, 1) := by decide +kernel
theorem dX8_go_151 : decode cX8_go 151 = .ok (.getfield 21, 3) := by decide +kernel
theorem dX8_go_154 : decode cX8_go 154 = .ok (.iconst 1, 1) := by decide +kernel
theorem dX8_go_155 : decode cX8_go 155 = .ok (.iadd, 1) := by decide +kernel
theorem dX8_go_156 : decode cX8_go 156 = .ok (.putfield 21, 3) := by decide +kernel
theorem dX8_go_159 : decode cX8_go 159 = .ok (.return_, 1) := by decide +kernel
theorem dX8_go_160 : decode cX8_go 160 = .ok (.iload_n 1, 1) := by decide +kernel
theorem dX8_go_161 : decode cX8_go 161 = .ok (.invokestatic 30, 3) := by decide +kernel
theorem dX8_go_164 : decode cX8_go 164 = .ok (.istore_n 2, 1) := by decide +kernel
theorem dX8_go_165 : decode cX8_go 165 = .ok (.iconst 1, 1) := by decide +kernel
theorem dX8_go_166 : decode cX8_go 166 = .ok (.istore_n 3, 1) := by decide +kernel
theorem dX8_go_167 : decode cX8_go 167 = .ok (.aload_n 0, 1) := by decide +kernel
theorem dX8_go_168 : decode cX8_go 168 = .ok (.lconst 0, 1) := by decide +kernel
theorem dX8_go_169 : decode cX8_go 169 = .ok (.putfield 37, 3) := by decide +kernel
theorem dX8_go_172 : decode cX8_go 172 = .ok (.aload_n 0, 1) := by decide +kernel
theorem dX8_go_173 : decode cX8_go 173 = .ok (.iconst 0, 1) := by decide +kernel
theorem dX8_go_174 : decode cX8_go 174 = .ok (.putfield 41, 3) := by decide +kernel
theorem dX8_go_177 : decode cX8_go 177 = .ok (.aload_n 0, 1) := by decide +kernel
theorem dX8_go_178 : decode cX8_go 178 = .ok (.aload_n 0, 1) := by decide +kernel
theorem dX8_go_179 : decode cX8_go 179 = .ok (.getfield 21, 3) := by decide +kernel
theorem dX8_go_182 : decode cX8_go 182 = .ok (.invokevirtual 44, 3) := by decide +kernel
theorem dX8_go_185 : decode cX8_go 185 = .ok (.invokestatic 30, 3) := by decide +kernel
theorem dX8_go_188 : decode cX8_go 188 = .ok (.ifCond .ne 17, 3) := by decide +kernel
theorem dX8_go_191 : decode cX8_go 191 = .ok (.aload_n 0, 1) := by decide +kernel
theorem dX8_go_192 : decode cX8_go 192 = .ok (.aload_n 0, 1) := by decide +kernel
theorem dX8_go_193 : decode cX8_go 193 = .ok (.getfield 21, 3) := by decide +kernel
theorem dX8_go_196 : decode cX8_go 196 = .ok (.invokevirtual 44, 3) := by decide +kernel
theorem dX8_go_199 : decode cX8_go 199 = .ok (.invokestatic 34, 3) := by decide +kernel
theorem dX8_go_202 : decode cX8_go 202 = .ok (.ifCond .eq 110, 3) := by decide +kernel
theorem dX8_go_205 : decode cX8_go 205 = .ok (.aload_n 0, 1) := by decide +kernel
theorem dX8_go_206 : decode cX8_go 206 = .ok (.getfield 7, 3) := by decide +kernel
theorem dX8_go_209 : decode cX8_go 209 = .ok (.aload_n 0, 1) := by decide +kernel
theorem dX8_go_210 : decode cX8_go 210 = .ok (.getfield 21, 3) := by decide +kernel
theorem dX8_go_213 : decode cX8_go 213 = .ok (.iaload, 1) := by decide +kernel
theorem dX8_go_214 : decode cX8_go 214 = .ok (.istore 4, 2) := by decide +kernel
theorem dX8_go_216 : decode cX8_go 216 = .ok (.iload_n 3, 1) := by decide +kernel
theorem dX8_go_217 : decode cX8_go 217 = .ok (.ifCond .eq 16, 3) := by decide +kernel
theorem dX8_go_220 : decode cX8_go 220 = .ok (.iload 4, 2) := by decide +kernel
