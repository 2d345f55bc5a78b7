theorem dX8_pours_194 : decode cX8_pours 194 = .ok (.istore_n 2, 1) := by decide +kernel
theorem dX8_pours_195 : decode cX8_pours 195 = .ok (.iinc 3 1, 3) := by decide +kernel
theorem dX8_pours_198 : decode cX8_pours 198 = .ok (.goto (-168), 3) := by decide +kernel
theorem dX8_pours_201 : decode cX8_pours 201 = .ok (.iload_n 2, 1) := by decide +kernel
theorem dX8_pours_202 : decode cX8_pours 202 = .ok (.ireturn, 1) := by decide +kernel
theorem dX8_looks_0 : decode cX8_looks 0 = .ok (.aload_n 0, 1) := by decide +kernel
theorem dX8_looks_1 : decode cX8_looks 1 = .ok (.iload_n 1, 1) := by decide +kernel
theorem dX8_looks_2 : decode cX8_looks 2 = .ok (.invokevirtual 244, 3) := by decide +kernel
theorem dX8_looks_5 : decode cX8_looks 5 = .ok (.istore_n 2, 1) := by decide +kernel
theorem dX8_looks_6 : decode cX8_looks 6 = .ok (.iload_n 2, 1) := by decide +kernel
theorem dX8_looks_7 : decode cX8_looks 7 = .ok (.iconst (-1), 1) := by decide +kernel
theorem dX8_looks_8 : decode cX8_looks 8 = .ok (.if_icmp .ne 4, 3) := by decide +kernel
theorem dX8_looks_11 : decode cX8_looks 11 = .ok (.return_, 1) := by decide +kernel
theorem dX8_looks_12 : decode cX8_looks 12 = .ok (.iconst 0, 1) := by decide +kernel
theorem dX8_looks_13 : decode cX8_looks 13 = .ok (.istore_n 3, 1) := by decide +kernel
theorem dX8_looks_14 : decode cX8_looks 14 = .ok (.iconst 0, 1) := by decide +kernel
theorem dX8_looks_15 : decode cX8_looks 15 = .ok (.istore 4, 2) := by decide +kernel
theorem dX8_looks_17 : decode cX8_looks 17 = .ok (.iload 4, 2) := by decide +kernel
theorem dX8_looks_19 : decode cX8_looks 19 = .ok (.bipush 20, 2) := by decide +kernel
theorem dX8_looks_21 : decode cX8_looks 21 = .ok (.if_icmp .ge 21, 3) := by decide +kernel
theorem dX8_looks_24 : decode cX8_looks 24 = .ok (.iload_n 2, 1) := by decide +kernel
theorem dX8_looks_25 : decode cX8_looks 25 = .ok (.iload 4, 2) := by decide +kernel
theorem dX8_looks_27 : decode cX8_looks 27 = .ok (.invokestatic 183, 3) := by decide +kernel
theorem dX8_looks_30 : decode cX8_looks 30 = .ok (.ifCond .eq 6, 3) := by decide +kernel
theorem dX8_looks_33 : decode cX8_looks 33 = .ok (.iinc 3 1, 3) := by decide +kernel
theorem dX8_looks_36 : decode cX8_looks 36 = .ok (.iinc 4 1, 3) := by decide +kernel
theorem dX8_looks_39 : decode cX8_looks 39 = .ok (.goto (-22), 3) := by decide +kernel
theorem dX8_looks_42 : decode cX8_looks 42 = .ok (.iconst 0, 1) := by decide +kernel
theorem dX8_looks_43 : decode cX8_looks 43 = .ok (.istore 4, 2) := by decide +kernel
theorem dX8_looks_45 : decode cX8_looks 45 = .ok (.aload_n 0, 1) := by decide +kernel
theorem dX8_looks_46 : decode cX8_looks 46 = .ok (.invokevirtual 209, 3) := by decide +kernel
theorem dX8_looks_49 : decode cX8_looks 49 = .ok (.iconst 0, 1) := by decide +kernel
theorem dX8_looks_50 : decode cX8_looks 50 = .ok (.istore 5, 2) := by decide +kernel
theorem dX8_looks_52 : decode cX8_looks 52 = .ok (.iload 5, 2) := by decide +kernel
theorem dX8_looks_54 : decode cX8_looks 54 = .ok (.aload_n 0, 1) := by decide +kernel
theorem dX8_looks_55 : decode cX8_looks 55 = .ok (.getfield 70, 3) := by decide +kernel
theorem dX8_looks_58 : decode cX8_looks 58 = .ok (.bipush 9, 2) := by decide +kernel
theorem dX8_looks_60 : decode cX8_looks 60 = .ok (.iaload, 1) := by decide +kernel
theorem dX8_looks_61 : decode cX8_looks 61 = .ok (.if_icmp .ge 73, 3) := by decide +kernel
theorem dX8_looks_64 : decode cX8_looks 64 = .ok (.aload_n 0, 1) := by decide +kernel
theorem dX8_looks_65 : decode cX8_looks 65 = .ok (.getfield 94, 3) := by decide +kernel
theorem dX8_looks_68 : decode cX8_looks 68 = .ok (.iload 5, 2) := by decide +kernel
theorem dX8_looks_70 : decode cX8_looks 70 = .ok (.iaload, 1) := by decide +kernel
theorem dX8_looks_71 : decode cX8_looks 71 = .ok (.iconst (-1), 1) := by decide +kernel
theorem dX8_looks_72 : decode cX8_looks 72 = .ok (.if_icmp .ne 6, 3) := by decide +kernel
theorem dX8_looks_75 : decode cX8_looks 75 = .ok (.goto 53, 3) := by decide +kernel
theorem dX8_looks_78 : decode cX8_looks 78 = .ok (.iinc 4 1, 3) := by decide +kernel
theorem dX8_looks_81 : decode cX8_looks 81 = .ok (.aload_n 0, 1) := by decide +kernel
theorem dX8_looks_82 : decode cX8_looks 82 = .ok (.getfield 79, 3) := by decide +kernel
theorem dX8_looks_85 : decode cX8_looks 85 = .ok (.iload 5, 2) := by decide +kernel
theorem dX8_looks_87 : decode cX8_looks 87 = .ok (.aload_n 0, 1) := by decide +kernel
theorem dX8_looks_88 : decode cX8_looks 88 = .ok (.getfield 97, 3) := by decide +kernel
theorem dX8_looks_91 : decode cX8_looks 91 = .ok (.iload 5, 2) := by decide +kernel
theorem dX8_looks_93 : decode cX8_looks 93 = .ok (.iaload, 1) := by decide +kernel
theorem dX8_looks_94 : decode cX8_looks 94 = .ok (.iastore, 1) := by decide +kernel
theorem dX8_looks_95 : decode cX8_looks 95 = .ok (.aload_n 0, 1) := by decide +kernel
theorem dX8_looks_96 : decode cX8_looks 96 = .ok (.getfield 85, 3) := by decide +kernel
theorem dX8_looks_99 : decode cX8_looks 99 = .ok (.iload 5, 2) := by decide +kernel
theorem dX8_looks_101 : decode cX8_looks 101 = .ok (.aload_n 0, 1) := by decide +kernel
theorem dX8_looks_102 : decode cX8_looks 102 = .ok (.getfield 94, 3) := by decide +kernel
theorem dX8_looks_105 : decode cX8_looks 105 = .ok (.iload 5, 2) := by decide +kernel
theorem dX8_looks_107 : decode cX8_looks 107 = .ok (.iaload, 1) := by decide +kernel
theorem dX8_looks_108 : decode cX8_looks 108 = .ok (.iastore, 1) := by decide +kernel
theorem dX8_looks_109 : decode cX8_looks 109 = .ok (.aload_n 0, 1) := by decide +kernel
theorem dX8_looks_110 : decode cX8_looks 110 = .ok (.getfield 82, 3) := by decide +kernel
theorem dX8_looks_113 : decode cX8_looks 113 = .ok (.iload 5, 2) := by decide +kernel
theorem dX8_looks_115 : decode cX8_looks 115 = .ok (.aload_n 0, 1) := by decide +kernel
theorem dX8_looks_116 : decode cX8_looks 116 = .ok (.aload_n 0, 1) := by decide +kernel
theorem dX8_looks_117 : decode cX8_looks 117 = .ok (.getfield 94, 3) := by decide +kernel
theorem dX8_looks_120 : decode cX8_looks 120 = .ok (.iload 5, 2) := by decide +kernel
theorem dX8_looks_122 : decode cX8_looks 122 = .ok (.iaload, 1) := by decide +kernel
theorem dX8_looks_123 : decode cX8_looks 123 = .ok (.iconst 0, 1) := by decide +kernel
theorem dX8_looks_124 : decode cX8_looks 124 = .ok (.invokevirtual 180, 3) := by decide +kernel
theorem dX8_looks_127 : decode cX8_looks 127 = .ok (.iastore, 1) := by decide +kernel
theorem dX8_looks_128 : decode cX8_looks 128 = .ok (.iinc 5 1, 3) := by decide +kernel
theorem dX8_looks_131 : decode cX8_looks 131 = .ok (.goto (-79), 3) := by decide +kernel
theorem dX8_looks_134 : decode cX8_looks 134 = .ok (.iload_n 3, 1) := by decide +kernel
theorem dX8_looks_135 : decode cX8_looks 135 = .ok (.aload_n 0, 1) := by decide +kernel
theorem dX8_looks_136 : decode cX8_looks 136 = .ok (.getfield 247, 3) := by decide +kernel
theorem dX8_looks_139 : decode cX8_looks 139 = .ok (.if_icmp .lt 20, 3) := by decide +kernel
theorem dX8_looks_142 : decode cX8_looks 142 = .ok (.iload_n 3, 1) := by decide +kernel
theorem dX8_looks_143 : decode cX8_looks 143 = .ok (.aload_n 0, 1) := by decide +kernel
theorem dX8_looks_144 : decode cX8_looks 144 = .ok (.getfield 247, 3) := by decide +kernel
theorem dX8_looks_147 : decode cX8_looks 147 = .ok (.if_icmp .ne 13, 3) := by decide +kernel
theorem dX8_looks_150 : decode cX8_looks 150 = .ok (.iload 4, 2) := by decide +kernel
theorem dX8_looks_152 : decode cX8_looks 152 = .ok (.aload_n 0, 1) := by decide +kernel
theorem dX8_looks_153 : decode cX8_looks 153 = .ok (.getfield 250, 3) := by decide +kernel
theorem dX8_looks_156 : decode cX8_looks 156 = .ok (.if_icmp .lt 4, 3) := by decide +kernel
theorem dX8_looks_159 : decode cX8_looks 159 = .ok (.return_, 1) := by decide +kernel
theorem dX8_looks_160 : decode cX8_looks 160 = .ok (.aload_n 0, 1) := by decide +kernel
theorem dX8_looks_161 : decode cX8_looks 161 = .ok (.iconst 0, 1) := by decide +kernel
theorem dX8_looks_162 : decode cX8_looks 162 = .ok (.invokevirtual 202, 3) := by decide +kernel
theorem dX8_looks_165 : decode cX8_looks 165 = .ok (.ifCond .ne 16, 3) := by decide +kernel
theorem dX8_looks_168 : decode cX8_looks 168 = .ok (.aload_n 0, 1) := by decide +kernel
theorem dX8_looks_169 : decode cX8_looks 169 = .ok (.aload_n 0, 1) := by decide +kernel
theorem dX8_looks_170 : decode cX8_looks 170 = .ok (.invokevirtual 238, 3) := by decide +kernel
theorem dX8_looks_173 : decode cX8_looks 173 = .ok (.iload_n 2, 1) := by decide +kernel
theorem dX8_looks_174 : decode cX8_looks 174 = .ok (.ior, 1) := by decide +kernel
theorem dX8_looks_175 : decode cX8_looks 175 = .ok (.invokevirtual 241, 3) := by decide +kernel
theorem dX8_looks_178 : decode cX8_looks 178 = .ok (.ifCond .ne 4, 3) := by decide +kernel
theorem dX8_looks_181 : decode cX8_looks 181 = .ok (.return_, 1) := by decide +kernel
theorem dX8_looks_182 : decode cX8_looks 182 = .ok (.aload_n 0, 1) := by decide +kernel
theorem dX8_looks_183 : decode cX8_looks 183 = .ok (.iload_n 3, 1) := by decide +kernel
theorem dX8_looks_184 : decode cX8_looks 184 = .ok (.putfield 247, 3) := by decide +kernel
theorem dX8_looks_187 : decode cX8_looks 187 = .ok (.aload_n 0, 1) := by decide +kernel
theorem dX8_looks_188 : decode cX8_looks 188 = .ok (.iload 4, 2) := by decide +kernel
theorem dX8_looks_190 : decode cX8_looks 190 = .ok (.putfield 250, 3) := by decide +kernel
theorem dX8_looks_193 : decode cX8_looks 193 = .ok (.iconst 0, 1) := by decide +kernel
theorem dX8_looks_194 : decode cX8_looks 194 = .ok (.istore 5, 2) := by decide +kernel
theorem dX8_looks_196 : decode cX8_looks 196 = .ok (.iload 5, 2) := by decide +kernel
theorem dX8_looks_198 : decode cX8_looks 198 = .ok (.iconst 5, 1) := by decide +kernel
theorem dX8_looks_199 : decode cX8_looks 199 = .ok (.if_icmp .ge 37, 3) := by decide +kernel
theorem dX8_looks_202 : decode cX8_looks 202 = .ok (.aload_n 0, 1) := by decide +kernel
theorem dX8_looks_203 : decode cX8_looks 203 = .ok (.getfield 100, 3) := by decide +kernel
theorem dX8_looks_206 : decode cX8_looks 206 = .ok (.iload 5, 2) := by decide +kernel
theorem dX8_looks_208 : decode cX8_looks 208 = .ok (.aload_n 0, 1) := by decide +kernel
theorem dX8_looks_209 : decode cX8_looks 209 = .ok (.getfield 94, 3) := by decide +kernel
theorem dX8_looks_212 : decode cX8_looks 212 = .ok (.iload 5, 2) := by decide +kernel
theorem dX8_looks_214 : decode cX8_looks 214 = .ok (.iaload, 1) := by decide +kernel
theorem dX8_looks_215 : decode cX8_looks 215 = .ok (.iastore, 1) := by decide +kernel
theorem dX8_looks_216 : decode cX8_looks 216 = .ok (.aload_n 0, 1) := by decide +kernel
theorem dX8_looks_217 : decode cX8_looks 217 = .ok (.getfield 103, 3) := by decide +kernel
theorem dX8_looks_220 : decode cX8_looks 220 = .ok (.iload 5, 2) := by decide +kernel
theorem dX8_looks_222 : decode cX8_looks 222 = .ok (.aload_n 0, 1) := by decide +kernel
theorem dX8_looks_223 : decode cX8_looks 223 = .ok (.getfield 97, 3) := by decide +kernel
theorem dX8_looks_226 : decode cX8_looks 226 = .ok (.iload 5, 2) := by decide +kernel
theorem dX8_looks_228 : decode cX8_looks 228 = .ok (.iaload, 1) := by decide +kernel
theorem dX8_looks_229 : decode cX8_looks 229 = .ok (.iastore, 1) := by decide +kernel
theorem dX8_looks_230 : decode cX8_looks 230 = .ok (.iinc 5 1, 3) := by decide +kernel
theorem dX8_looks_233 : decode cX8_looks 233 = .ok (.goto (-37), 3) := by decide +kernel
theorem dX8_looks_236 : decode cX8_looks 236 = .ok (.return_, 1) := by decide +kernel
theorem dX8_tries_0 : decode cX8_tries 0 = .ok (.iload_n 1, 1) := by decide +kernel
theorem dX8_tries_1 : decode cX8_tries 1 = .ok (.aload_n 0, 1) := by decide +kernel
theorem dX8_tries_2 : decode cX8_tries 2 = .ok (.getfield 70, 3) := by decide +kernel
theorem dX8_tries_5 : decode cX8_tries 5 = .ok (.bipush 9, 2) := by decide +kernel
theorem dX8_tries_7 : decode cX8_tries 7 = .ok (.iaload, 1) := by decide +kernel
theorem dX8_tries_8 : decode cX8_tries 8 = .ok (.if_icmp .ne 9, 3) := by decide +kernel
theorem dX8_tries_11 : decode cX8_tries 11 = .ok (.aload_n 0, 1) := by decide +kernel
theorem dX8_tries_12 : decode cX8_tries 12 = .ok (.iload_n 2, 1) := by decide +kernel
theorem dX8_tries_13 : decode cX8_tries 13 = .ok (.invokevirtual 253, 3) := by decide +kernel
theorem dX8_tries_16 : decode cX8_tries 16 = .ok (.return_, 1) := by decide +kernel
theorem dX8_tries_17 : decode cX8_tries 17 = .ok (.iconst 0, 1) := by decide +kernel
theorem dX8_tries_18 : decode cX8_tries 18 = .ok (.istore_n 3, 1) := by decide +kernel
theorem dX8_tries_19 : decode cX8_tries 19 = .ok (.iload_n 3, 1) := by decide +kernel
theorem dX8_tries_20 : decode cX8_tries 20 = .ok (.aload_n 0, 1) := by decide +kernel
theorem dX8_tries_21 : decode cX8_tries 21 = .ok (.getfield 70, 3) := by decide +kernel
theorem dX8_tries_24 : decode cX8_tries 24 = .ok (.bipush 13, 2) := by decide +kernel
theorem dX8_tries_26 : decode cX8_tries 26 = .ok (.iaload, 1) := by decide +kernel
theorem dX8_tries_27 : decode cX8_tries 27 = .ok (.if_icmp .ge 45, 3) := by decide +kernel
theorem dX8_tries_30 : decode cX8_tries 30 = .ok (.aload_n 0, 1) := by decide +kernel
theorem dX8_tries_31 : decode cX8_tries 31 = .ok (.iload_n 1, 1) := by decide +kernel
theorem dX8_tries_32 : decode cX8_tries 32 = .ok (.iconst 4, 1) := by decide +kernel
theorem dX8_tries_33 : decode cX8_tries 33 = .ok (.invokevirtual 176, 3) := by decide +kernel
theorem dX8_tries_36 : decode cX8_tries 36 = .ok (.ifCond .ne 36, 3) := by decide +kernel
theorem dX8_tries_39 : decode cX8_tries 39 = .ok (.aload_n 0, 1) := by decide +kernel
theorem dX8_tries_40 : decode cX8_tries 40 = .ok (.iload_n 3, 1) := by decide +kernel
theorem dX8_tries_41 : decode cX8_tries 41 = .ok (.iconst 2, 1) := by decide +kernel
theorem dX8_tries_42 : decode cX8_tries 42 = .ok (.invokevirtual 180, 3) := by decide +kernel
theorem dX8_tries_45 : decode cX8_tries 45 = .ok (.ifCond .eq 6, 3) := by decide +kernel
theorem dX8_tries_48 : decode cX8_tries 48 = .ok (.goto 18, 3) := by decide +kernel
theorem dX8_tries_51 : decode cX8_tries 51 = .ok (.aload_n 0, 1) := by decide +kernel
theorem dX8_tries_52 : decode cX8_tries 52 = .ok (.getfield 94, 3) := by decide +kernel
theorem dX8_tries_55 : decode cX8_tries 55 = .ok (.iload_n 1, 1) := by decide +kernel
theorem dX8_tries_56 : decode cX8_tries 56 = .ok (.iload_n 3, 1) := by decide +kernel
theorem dX8_tries_57 : decode cX8_tries 57 = .ok (.iastore, 1) := by decide +kernel
theorem dX8_tries_58 : decode cX8_tries 58 = .ok (.aload_n 0, 1) := by decide +kernel
theorem dX8_tries_59 : decode cX8_tries 59 = .ok (.iload_n 1, 1) := by decide +kernel
theorem dX8_tries_60 : decode cX8_tries 60 = .ok (.iconst 1, 1) := by decide +kernel
theorem dX8_tries_61 : decode cX8_tries 61 = .ok (.iadd, 1) := by decide +kernel
theorem dX8_tries_62 : decode cX8_tries 62 = .ok (.iload_n 2, 1) := by decide +kernel
theorem dX8_tries_63 : decode cX8_tries 63 = .ok (.invokevirtual 256, 3) := by decide +kernel
theorem dX8_tries_66 : decode cX8_tries 66 = .ok (.iinc 3 1, 3) := by decide +kernel
theorem dX8_tries_69 : decode cX8_tries 69 = .ok (.goto (-50), 3) := by decide +kernel
theorem dX8_tries_72 : decode cX8_tries 72 = .ok (.aload_n 0, 1) := by decide +kernel
theorem dX8_tries_73 : decode cX8_tries 73 = .ok (.getfield 94, 3) := by decide +kernel
theorem dX8_tries_76 : decode cX8_tries 76 = .ok (.iload_n 1, 1) := by decide +kernel
theorem dX8_tries_77 : decode cX8_tries 77 = .ok (.iconst (-1), 1) := by decide +kernel
theorem dX8_tries_78 : decode cX8_tries 78 = .ok (.iastore, 1) := by decide +kernel
theorem dX8_tries_79 : decode cX8_tries 79 = .ok (.aload_n 0, 1) := by decide +kernel
theorem dX8_tries_80 : decode cX8_tries 80 = .ok (.iload_n 1, 1) := by decide +kernel
theorem dX8_tries_81 : decode cX8_tries 81 = .ok (.iconst 1, 1) := by decide +kernel
theorem dX8_tries_82 : decode cX8_tries 82 = .ok (.iadd, 1) := by decide +kernel
theorem dX8_tries_83 : decode cX8_tries 83 = .ok (.iload_n 2, 1) := by decide +kernel
theorem dX8_tries_84 : decode cX8_tries 84 = .ok (.invokevirtual 256, 3) := by decide +kernel
theorem dX8_tries_87 : decode cX8_tries 87 = .ok (.return_, 1) := by decide +kernel
theorem dX8_laysPlan_0 : decode cX8_laysPlan 0 = .ok (.aload_n 0, 1) := by decide +kernel
theorem dX8_laysPlan_1 : decode cX8_laysPlan 1 = .ok (.iconst (-1), 1) := by decide +kernel
theorem dX8_laysPlan_2 : decode cX8_laysPlan 2 = .ok (.putfield 247, 3) := by decide +kernel
theorem dX8_laysPlan_5 : decode cX8_laysPlan 5 = .ok (.aload_n 0, 1) := by decide +kernel
theorem dX8_laysPlan_6 : decode cX8_laysPlan 6 = .ok (.iconst 0, 1) := by decide +kernel
theorem dX8_laysPlan_7 : decode cX8_laysPlan 7 = .ok (.putfield 250, 3) := by decide +kernel
theorem dX8_laysPlan_10 : decode cX8_laysPlan 10 = .ok (.iconst 0, 1) := by decide +kernel
theorem dX8_laysPlan_11 : decode cX8_laysPlan 11 = .ok (.istore_n 2, 1) := by decide +kernel
theorem dX8_laysPlan_12 : decode cX8_laysPlan 12 = .ok (.iload_n 2, 1) := by decide +kernel
theorem dX8_laysPlan_13 : decode cX8_laysPlan 13 = .ok (.iconst 5, 1) := by decide +kernel
theorem dX8_laysPlan_14 : decode cX8_laysPlan 14 = .ok (.if_icmp .ge 30, 3) := by decide +kernel
theorem dX8_laysPlan_17 : decode cX8_laysPlan 17 = .ok (.aload_n 0, 1) := by decide +kernel
theorem dX8_laysPlan_18 : decode cX8_laysPlan 18 = .ok (.getfield 94, 3) := by decide +kernel
theorem dX8_laysPlan_21 : decode cX8_laysPlan 21 = .ok (.iload_n 2, 1) := by decide +kernel
theorem dX8_laysPlan_22 : decode cX8_laysPlan 22 = .ok (.iconst (-1), 1) := by decide +kernel
theorem dX8_laysPlan_23 : decode cX8_laysPlan 23 = .ok (.iastore, 1) := by decide +kernel
theorem dX8_laysPlan_24 : decode cX8_laysPlan 24 = .ok (.aload_n 0, 1) := by decide +kernel
theorem dX8_laysPlan_25 : decode cX8_laysPlan 25 = .ok (.getfield 100, 3) := by decide +kernel
theorem dX8_laysPlan_28 : decode cX8_laysPlan 28 = .ok (.iload_n 2, 1) := by decide +kernel
theorem dX8_laysPlan_29 : decode cX8_laysPlan 29 = .ok (.iconst (-1), 1) := by decide +kernel
theorem dX8_laysPlan_30 : decode cX8_laysPlan 30 = .ok (.iastore, 1) := by decide +kernel
theorem dX8_laysPlan_31 : decode cX8_laysPlan 31 = .ok (.aload_n 0, 1) := by decide +kernel
theorem dX8_laysPlan_32 : decode cX8_laysPlan 32 = .ok (.getfield 103, 3) := by decide +kernel
theorem dX8_laysPlan_35 : decode cX8_laysPlan 35 = .ok (.iload_n 2, 1) := by decide +kernel
theorem dX8_laysPlan_36 : decode cX8_laysPlan 36 = .ok (.iconst 0, 1) := by decide +kernel
theorem dX8_laysPlan_37 : decode cX8_laysPlan 37 = .ok (.iastore, 1) := by decide +kernel
theorem dX8_laysPlan_38 : decode cX8_laysPlan 38 = .ok (.iinc 2 1, 3) := by decide +kernel
theorem dX8_laysPlan_41 : decode cX8_laysPlan 41 = .ok (.goto (-29), 3) := by decide +kernel
theorem dX8_laysPlan_44 : decode cX8_laysPlan 44 = .ok (.aload_n 0, 1) := by decide +kernel
theorem dX8_laysPlan_45 : decode cX8_laysPlan 45 = .ok (.iconst 0, 1) := by decide +kernel
theorem dX8_laysPlan_46 : decode cX8_laysPlan 46 = .ok (.iload_n 1, 1) := by decide +kernel
theorem dX8_laysPlan_47 : decode cX8_laysPlan 47 = .ok (.invokevirtual 256, 3) := by decide +kernel
theorem dX8_laysPlan_50 : decode cX8_laysPlan 50 = .ok (.return_, 1) := by decide +kernel
theorem dX8_plan_0 : decode cX8_plan 0 = .ok (.aload_n 0, 1) := by decide +kernel
theorem dX8_plan_1 : decode cX8_plan 1 = .ok (.iconst 0, 1) := by decide +kernel
theorem dX8_plan_2 : decode cX8_plan 2 = .ok (.putfield 1, 3) := by decide +kernel
theorem dX8_plan_5 : decode cX8_plan 5 = .ok (.iload_n 1, 1) := by decide +kernel
theorem dX8_plan_6 : decode cX8_plan 6 = .ok (.bipush 20, 2) := by decide +kernel
theorem dX8_plan_8 : decode cX8_plan 8 = .ok (.if_icmp .lt 10, 3) := by decide +kernel
theorem dX8_plan_11 : decode cX8_plan 11 = .ok (.iload_n 1, 1) := by decide +kernel
theorem dX8_plan_12 : decode cX8_plan 12 = .ok (.bipush 20, 2) := by decide +kernel
theorem dX8_plan_14 : decode cX8_plan 14 = .ok (.isub, 1) := by decide +kernel
theorem dX8_plan_15 : decode cX8_plan 15 = .ok (.goto 7, 3) := by decide +kernel
theorem dX8_plan_18 : decode cX8_plan 18 = .ok (.iload_n 1, 1) := by decide +kernel
theorem dX8_plan_19 : decode cX8_plan 19 = .ok (.bipush 10, 2) := by decide +kernel
theorem dX8_plan_21 : decode cX8_plan 21 = .ok (.isub, 1) := by decide +kernel
theorem dX8_plan_22 : decode cX8_plan 22 = .ok (.istore_n 2, 1) := by decide +kernel
theorem dX8_plan_23 : decode cX8_plan 23 = .ok (.iload_n 1, 1) := by decide +kernel
theorem dX8_plan_24 : decode cX8_plan 24 = .ok (.iconst 0, 1) := by decide +kernel
theorem dX8_plan_25 : decode cX8_plan 25 = .ok (.iconst 1, 1) := by decide +kernel
theorem dX8_plan_26 : decode cX8_plan 26 = .ok (.invokestatic 109, 3) := by decide +kernel
theorem dX8_plan_29 : decode cX8_plan 29 = .ok (.ifCond .ne 23, 3) := by decide +kernel
theorem dX8_plan_32 : decode cX8_plan 32 = .ok (.iload_n 2, 1) := by decide +kernel
theorem dX8_plan_33 : decode cX8_plan 33 = .ok (.iconst 0, 1) := by decide +kernel
theorem dX8_plan_34 : decode cX8_plan 34 = .ok (.bipush 9, 2) := by decide +kernel
theorem dX8_plan_36 : decode cX8_plan 36 = .ok (.invokestatic 109, 3) := by decide +kernel
theorem dX8_plan_39 : decode cX8_plan 39 = .ok (.ifCond .eq 11, 3) := by decide +kernel
theorem dX8_plan_42 : decode cX8_plan 42 = .ok (.aload_n 0, 1) := by decide +kernel
theorem dX8_plan_43 : decode cX8_plan 43 = .ok (.iload_n 2, 1) := by decide +kernel
theorem dX8_plan_44 : decode cX8_plan 44 = .ok (.invokevirtual 217, 3) := by decide +kernel
theorem dX8_plan_47 : decode cX8_plan 47 = .ok (.ifCond .ne 5, 3) := by decide +kernel
theorem dX8_plan_50 : decode cX8_plan 50 = .ok (.iconst (-1), 1) := by decide +kernel
theorem dX8_plan_51 : decode cX8_plan 51 = .ok (.ireturn, 1) := by decide +kernel
theorem dX8_plan_52 : decode cX8_plan 52 = .ok (.aload_n 0, 1) := by decide +kernel
theorem dX8_plan_53 : decode cX8_plan 53 = .ok (.iconst 0, 1) := by decide +kernel
theorem dX8_plan_54 : decode cX8_plan 54 = .ok (.invokevirtual 260, 3) := by decide +kernel
theorem dX8_plan_57 : decode cX8_plan 57 = .ok (.aload_n 0, 1) := by decide +kernel
theorem dX8_plan_58 : decode cX8_plan 58 = .ok (.getfield 247, 3) := by decide +kernel
theorem dX8_plan_61 : decode cX8_plan 61 = .ok (.iconst (-1), 1) := by decide +kernel
theorem dX8_plan_62 : decode cX8_plan 62 = .ok (.if_icmp .ne 6, 3) := by decide +kernel
theorem dX8_plan_65 : decode cX8_plan 65 = .ok (.bipush (-2), 2) := by decide +kernel
theorem dX8_plan_67 : decode cX8_plan 67 = .ok (.ireturn, 1) := by decide +kernel
theorem dX8_plan_68 : decode cX8_plan 68 = .ok (.iload_n 1, 1) := by decide +kernel
theorem dX8_plan_69 : decode cX8_plan 69 = .ok (.ifCond .ne 10, 3) := by decide +kernel
theorem dX8_plan_72 : decode cX8_plan 72 = .ok (.aload_n 0, 1) := by decide +kernel
theorem dX8_plan_73 : decode cX8_plan 73 = .ok (.getfield 247, 3) := by decide +kernel
theorem dX8_plan_76 : decode cX8_plan 76 = .ok (.goto 36, 3) := by decide +kernel
theorem dX8_plan_79 : decode cX8_plan 79 = .ok (.iload_n 1, 1) := by decide +kernel
theorem dX8_plan_80 : decode cX8_plan 80 = .ok (.iconst 1, 1) := by decide +kernel
theorem dX8_plan_81 : decode cX8_plan 81 = .ok (.if_icmp .ne 10, 3) := by decide +kernel
theorem dX8_plan_84 : decode cX8_plan 84 = .ok (.aload_n 0, 1) := by decide +kernel
theorem dX8_plan_85 : decode cX8_plan 85 = .ok (.getfield 250, 3) := by decide +kernel
theorem dX8_plan_88 : decode cX8_plan 88 = .ok (.goto 24, 3) := by decide +kernel
theorem dX8_plan_91 : decode cX8_plan 91 = .ok (.iload_n 1, 1) := by decide +kernel
theorem dX8_plan_92 : decode cX8_plan 92 = .ok (.bipush 20, 2) := by decide +kernel
theorem dX8_plan_94 : decode cX8_plan 94 = .ok (.if_icmp .ge 12, 3) := by decide +kernel
theorem dX8_plan_97 : decode cX8_plan 97 = .ok (.aload_n 0, 1) := by decide +kernel
theorem dX8_plan_98 : decode cX8_plan 98 = .ok (.getfield 100, 3) := by decide +kernel
theorem dX8_plan_101 : decode cX8_plan 101 = .ok (.iload_n 2, 1) := by decide +kernel
theorem dX8_plan_102 : decode cX8_plan 102 = .ok (.iaload, 1) := by decide +kernel
theorem dX8_plan_103 : decode cX8_plan 103 = .ok (.goto 9, 3) := by decide +kernel
theorem dX8_plan_106 : decode cX8_plan 106 = .ok (.aload_n 0, 1) := by decide +kernel
theorem dX8_plan_107 : decode cX8_plan 107 = .ok (.getfield 103, 3) := by decide +kernel
theorem dX8_plan_110 : decode cX8_plan 110 = .ok (.iload_n 2, 1) := by decide +kernel
theorem dX8_plan_111 : decode cX8_plan 111 = .ok (.iaload, 1) := by decide +kernel
theorem dX8_plan_112 : decode cX8_plan 112 = .ok (.ireturn, 1) := by decide +kernel
theorem dX8_washes_0 : decode cX8_washes 0 = .ok (.aload_n 0, 1) := by decide +kernel
theorem dX8_washes_1 : decode cX8_washes 1 = .ok (.iconst 0, 1) := by decide +kernel
theorem dX8_washes_2 : decode cX8_washes 2 = .ok (.putfield 1, 3) := by decide +kernel
theorem dX8_washes_5 : decode cX8_washes 5 = .ok (.iconst 0, 1) := by decide +kernel
theorem dX8_washes_6 : decode cX8_washes 6 = .ok (.istore_n 1, 1) := by decide +kernel
theorem dX8_washes_7 : decode cX8_washes 7 = .ok (.iconst 0, 1) := by decide +kernel
theorem dX8_washes_8 : decode cX8_washes 8 = .ok (.istore_n 2, 1) := by decide +kernel
theorem dX8_washes_9 : decode cX8_washes 9 = .ok (.iload_n 2, 1) := by decide +kernel
theorem dX8_washes_10 : decode cX8_washes 10 = .ok (.aload_n 0, 1) := by decide +kernel
theorem dX8_washes_11 : decode cX8_washes 11 = .ok (.getfield 70, 3) := by decide +kernel
theorem dX8_washes_14 : decode cX8_washes 14 = .ok (.bipush 9, 2) := by decide +kernel
theorem dX8_washes_16 : decode cX8_washes 16 = .ok (.iaload, 1) := by decide +kernel
theorem dX8_washes_17 : decode cX8_washes 17 = .ok (.if_icmp .ge 24, 3) := by decide +kernel
theorem dX8_washes_20 : decode cX8_washes 20 = .ok (.aload_n 0, 1) := by decide +kernel
theorem dX8_washes_21 : decode cX8_washes 21 = .ok (.iload_n 2, 1) := by decide +kernel
theorem dX8_washes_22 : decode cX8_washes 22 = .ok (.iconst 4, 1) := by decide +kernel
theorem dX8_washes_23 : decode cX8_washes 23 = .ok (.invokevirtual 176, 3) := by decide +kernel
theorem dX8_washes_26 : decode cX8_washes 26 = .ok (.ifCond .ne 9, 3) := by decide +kernel
theorem dX8_washes_29 : decode cX8_washes 29 = .ok (.iload_n 1, 1) := by decide +kernel
theorem dX8_washes_30 : decode cX8_washes 30 = .ok (.iconst 1, 1) := by decide +kernel
theorem dX8_washes_31 : decode cX8_washes 31 = .ok (.iload_n 2, 1) := by decide +kernel
theorem dX8_washes_32 : decode cX8_washes 32 = .ok (.ishl, 1) := by decide +kernel
theorem dX8_washes_33 : decode cX8_washes 33 = .ok (.ior, 1) := by decide +kernel
theorem dX8_washes_34 : decode cX8_washes 34 = .ok (.istore_n 1, 1) := by decide +kernel
theorem dX8_washes_35 : decode cX8_washes 35 = .ok (.iinc 2 1, 3) := by decide +kernel
theorem dX8_washes_38 : decode cX8_washes 38 = .ok (.goto (-29), 3) := by decide +kernel
theorem dX8_washes_41 : decode cX8_washes 41 = .ok (.bipush (-2), 2) := by decide +kernel
theorem dX8_washes_43 : decode cX8_washes 43 = .ok (.istore_n 2, 1) := by decide +kernel
theorem dX8_washes_44 : decode cX8_washes 44 = .ok (.iconst 0, 1) := by decide +kernel
theorem dX8_washes_45 : decode cX8_washes 45 = .ok (.istore_n 3, 1) := by decide +kernel
theorem dX8_washes_46 : decode cX8_washes 46 = .ok (.iload_n 3, 1) := by decide +kernel
theorem dX8_washes_47 : decode cX8_washes 47 = .ok (.bipush 32, 2) := by decide +kernel
theorem dX8_washes_49 : decode cX8_washes 49 = .ok (.if_icmp .ge 82, 3) := by decide +kernel
theorem dX8_washes_52 : decode cX8_washes 52 = .ok (.iconst 0, 1) := by decide +kernel
theorem dX8_washes_53 : decode cX8_washes 53 = .ok (.istore 4, 2) := by decide +kernel
theorem dX8_washes_55 : decode cX8_washes 55 = .ok (.iconst 0, 1) := by decide +kernel
theorem dX8_washes_56 : decode cX8_washes 56 = .ok (.istore 5, 2) := by decide +kernel
theorem dX8_washes_58 : decode cX8_washes 58 = .ok (.iload 5, 2) := by decide +kernel
theorem dX8_washes_60 : decode cX8_washes 60 = .ok (.iconst 5, 1) := by decide +kernel
theorem dX8_washes_61 : decode cX8_washes 61 = .ok (.if_icmp .ge 21, 3) := by decide +kernel
theorem dX8_washes_64 : decode cX8_washes 64 = .ok (.iload_n 3, 1) := by decide +kernel
theorem dX8_washes_65 : decode cX8_washes 65 = .ok (.iload 5, 2) := by decide +kernel
theorem dX8_washes_67 : decode cX8_washes 67 = .ok (.invokestatic 183, 3) := by decide +kernel
theorem dX8_washes_70 : decode cX8_washes 70 = .ok (.ifCond .eq 6, 3) := by decide +kernel
theorem dX8_washes_73 : decode cX8_washes 73 = .ok (.iinc 4 1, 3) := by decide +kernel
theorem dX8_washes_76 : decode cX8_washes 76 = .ok (.iinc 5 1, 3) := by decide +kernel
theorem dX8_washes_79 : decode cX8_washes 79 = .ok (.goto (-21), 3) := by decide +kernel
theorem dX8_washes_82 : decode cX8_washes 82 = .ok (.iload_n 3, 1) := by decide +kernel
theorem dX8_washes_83 : decode cX8_washes 83 = .ok (.iload_n 1, 1) := by decide +kernel
theorem dX8_washes_84 : decode cX8_washes 84 = .ok (.iconst (-1), 1) := by decide +kernel
theorem dX8_washes_85 : decode cX8_washes 85 = .ok (.ixor, 1) := by decide +kernel
theorem dX8_washes_86 : decode cX8_washes 86 = .ok (.iand, 1) := by decide +kernel
theorem dX8_washes_87 : decode cX8_washes 87 = .ok (.ifCond .ne 38, 3) := by decide +kernel
theorem dX8_washes_90 : decode cX8_washes 90 = .ok (.iload_n 2, 1) := by decide +kernel
theorem dX8_washes_91 : decode cX8_washes 91 = .ok (.bipush (-2), 2) := by decide +kernel
theorem dX8_washes_93 : decode cX8_washes 93 = .ok (.if_icmp .eq 12, 3) := by decide +kernel
theorem dX8_washes_96 : decode cX8_washes 96 = .ok (.iload 4, 2) := by decide +kernel
theorem dX8_washes_98 : decode cX8_washes 98 = .ok (.iload_n 2, 1) := by decide +kernel
theorem dX8_washes_99 : decode cX8_washes 99 = .ok (.if_icmp .lt 6, 3) := by decide +kernel
theorem dX8_washes_102 : decode cX8_washes 102 = .ok (.goto 23, 3) := by decide +kernel
theorem dX8_washes_105 : decode cX8_washes 105 = .ok (.aload_n 0, 1) := by decide +kernel
theorem dX8_washes_106 : decode cX8_washes 106 = .ok (.iload_n 3, 1) := by decide +kernel
theorem dX8_washes_107 : decode cX8_washes 107 = .ok (.invokevirtual 260, 3) := by decide +kernel
theorem dX8_washes_110 : decode cX8_washes 110 = .ok (.aload_n 0, 1) := by decide +kernel
theorem dX8_washes_111 : decode cX8_washes 111 = .ok (.getfield 247, 3) := by decide +kernel
theorem dX8_washes_114 : decode cX8_washes 114 = .ok (.aload_n 0, 1) := by decide +kernel
theorem dX8_washes_115 : decode cX8_washes 115 = .ok (.iconst 0, 1) := by decide +kernel
theorem dX8_washes_116 : decode cX8_washes 116 = .ok (.invokevirtual 263, 3) := by decide +kernel
theorem dX8_washes_119 : decode cX8_washes 119 = .ok (.if_icmp .ne 6, 3) := by decide +kernel
theorem dX8_washes_122 : decode cX8_washes 122 = .ok (.iload 4, 2) := by decide +kernel
theorem dX8_washes_124 : decode cX8_washes 124 = .ok (.istore_n 2, 1) := by decide +kernel
theorem dX8_washes_125 : decode cX8_washes 125 = .ok (.iinc 3 1, 3) := by decide +kernel
theorem dX8_washes_128 : decode cX8_washes 128 = .ok (.goto (-82), 3) := by decide +kernel
theorem dX8_washes_131 : decode cX8_washes 131 = .ok (.iload_n 2, 1) := by decide +kernel
theorem dX8_washes_132 : decode cX8_washes 132 = .ok (.ireturn, 1) := by decide +kernel
theorem dX8_snap_0 : decode cX8_snap 0 = .ok (.aload_n 0, 1) := by decide +kernel
theorem dX8_snap_1 : decode cX8_snap 1 = .ok (.getfield 173, 3) := by decide +kernel
theorem dX8_snap_4 : decode cX8_snap 4 = .ok (.bipush 10, 2) := by decide +kernel
theorem dX8_snap_6 : decode cX8_snap 6 = .ok (.if_icmp .ne 44, 3) := by decide +kernel
theorem dX8_snap_9 : decode cX8_snap 9 = .ok (.iconst 0, 1) := by decide +kernel
theorem dX8_snap_10 : decode cX8_snap 10 = .ok (.istore_n 1, 1) := by decide +kernel
theorem dX8_snap_11 : decode cX8_snap 11 = .ok (.iload_n 1, 1) := by decide +kernel
theorem dX8_snap_12 : decode cX8_snap 12 = .ok (.sipush 1413, 3) := by decide +kernel
theorem dX8_snap_15 : decode cX8_snap 15 = .ok (.if_icmp .ge 25, 3) := by decide +kernel
theorem dX8_snap_18 : decode cX8_snap 18 = .ok (.aload_n 0, 1) := by decide +kernel
theorem dX8_snap_19 : decode cX8_snap 19 = .ok (.getfield 76, 3) := by decide +kernel
theorem dX8_snap_22 : decode cX8_snap 22 = .ok (.iload_n 1, 1) := by decide +kernel
theorem dX8_snap_23 : decode cX8_snap 23 = .ok (.aload_n 0, 1) := by decide +kernel
theorem dX8_snap_24 : decode cX8_snap 24 = .ok (.getfield 76, 3) := by decide +kernel
theorem dX8_snap_27 : decode cX8_snap 27 = .ok (.iload_n 1, 1) := by decide +kernel
theorem dX8_snap_28 : decode cX8_snap 28 = .ok (.sipush 157, 3) := by decide +kernel
theorem dX8_snap_31 : decode cX8_snap 31 = .ok (.iadd, 1) := by decide +kernel
theorem dX8_snap_32 : decode cX8_snap 32 = .ok (.iaload, 1) := by decide +kernel
theorem dX8_snap_33 : decode cX8_snap 33 = .ok (.iastore, 1) := by decide +kernel
theorem dX8_snap_34 : decode cX8_snap 34 = .ok (.iinc 1 1, 3) := by decide +kernel
theorem dX8_snap_37 : decode cX8_snap 37 = .ok (.goto (-26), 3) := by decide +kernel
theorem dX8_snap_40 : decode cX8_snap 40 = .ok (.aload_n 0, 1) := by decide +kernel
theorem dX8_snap_41 : decode cX8_snap 41 = .ok (.dup, 1) := by decide +kernel
theorem dX8_snap_42 : decode cX8_snap 42 = .ok (.getfield 173, 3) := by decide +kernel
theorem dX8_snap_45 : decode cX8_snap 45 = .ok (.iconst 1, 1) := by decide +kernel
theorem dX8_snap_46 : decode cX8_snap 46 = .ok (.isub, 1) := by decide +kernel
theorem dX8_snap_47 : decode cX8_snap 47 = .ok (.putfield 173, 3) := by decide +kernel
theorem dX8_snap_50 : decode cX8_snap 50 = .ok (.iconst 0, 1) := by decide +kernel
theorem dX8_snap_51 : decode cX8_snap 51 = .ok (.istore_n 1, 1) := by decide +kernel
theorem dX8_snap_52 : decode cX8_snap 52 = .ok (.iload_n 1, 1) := by decide +kernel
theorem dX8_snap_53 : decode cX8_snap 53 = .ok (.sipush 157, 3) := by decide +kernel
theorem dX8_snap_56 : decode cX8_snap 56 = .ok (.if_icmp .ge 30, 3) := by decide +kernel
theorem dX8_snap_59 : decode cX8_snap 59 = .ok (.aload_n 0, 1) := by decide +kernel
theorem dX8_snap_60 : decode cX8_snap 60 = .ok (.getfield 76, 3) := by decide +kernel
theorem dX8_snap_63 : decode cX8_snap 63 = .ok (.sipush 157, 3) := by decide +kernel
theorem dX8_snap_66 : decode cX8_snap 66 = .ok (.aload_n 0, 1) := by decide +kernel
theorem dX8_snap_67 : decode cX8_snap 67 = .ok (.getfield 173, 3) := by decide +kernel
theorem dX8_snap_70 : decode cX8_snap 70 = .ok (.imul, 1) := by decide +kernel
theorem dX8_snap_71 : decode cX8_snap 71 = .ok (.iload_n 1, 1) := by decide +kernel
theorem dX8_snap_72 : decode cX8_snap 72 = .ok (.iadd, 1) := by decide +kernel
theorem dX8_snap_73 : decode cX8_snap 73 = .ok (.aload_n 0, 1) := by decide +kernel
theorem dX8_snap_74 : decode cX8_snap 74 = .ok (.getfield 70, 3) := by decide +kernel
theorem dX8_snap_77 : decode cX8_snap 77 = .ok (.iload_n 1, 1) := by decide +kernel
theorem dX8_snap_78 : decode cX8_snap 78 = .ok (.iaload, 1) := by decide +kernel
theorem dX8_snap_79 : decode cX8_snap 79 = .ok (.iastore, 1) := by decide +kernel
theorem dX8_snap_80 : decode cX8_snap 80 = .ok (.iinc 1 1, 3) := by decide +kernel
theorem dX8_snap_83 : decode cX8_snap 83 = .ok (.goto (-31), 3) := by decide +kernel
theorem dX8_snap_86 : decode cX8_snap 86 = .ok (.aload_n 0, 1) := by decide +kernel
theorem dX8_snap_87 : decode cX8_snap 87 = .ok (.dup, 1) := by decide +kernel
theorem dX8_snap_88 : decode cX8_snap 88 = .ok (.getfield 173, 3) := by decide +kernel
theorem dX8_snap_91 : decode cX8_snap 91 = .ok (.iconst 1, 1) := by decide +kernel
theorem dX8_snap_92 : decode cX8_snap 92 = .ok (.iadd, 1) := by decide +kernel
theorem dX8_snap_93 : decode cX8_snap 93 = .ok (.putfield 173, 3) := by decide +kernel
theorem dX8_snap_96 : decode cX8_snap 96 = .ok (.return_, 1) := by decide +kernel
theorem dX8_asks_0 : decode cX8_asks 0 = .ok (.aload_n 0, 1) := by decide +kernel
theorem dX8_asks_1 : decode cX8_asks 1 = .ok (.iconst 0, 1) := by decide +kernel
theorem dX8_asks_2 : decode cX8_asks 2 = .ok (.putfield 1, 3) := by decide +kernel
theorem dX8_asks_5 : decode cX8_asks 5 = .ok (.aload_n 0, 1) := by decide +kernel
theorem dX8_asks_6 : decode cX8_asks 6 = .ok (.iload_n 1, 1) := by decide +kernel
theorem dX8_asks_7 : decode cX8_asks 7 = .ok (.invokevirtual 232, 3) := by decide +kernel
theorem dX8_asks_10 : decode cX8_asks 10 = .ok (.ifCond .eq 14, 3) := by decide +kernel
theorem dX8_asks_13 : decode cX8_asks 13 = .ok (.iload_n 2, 1) := by decide +kernel
theorem dX8_asks_14 : decode cX8_asks 14 = .ok (.iconst 1, 1) := by decide +kernel
theorem dX8_asks_15 : decode cX8_asks 15 = .ok (.sipush 4995, 3) := by decide +kernel
theorem dX8_asks_18 : decode cX8_asks 18 = .ok (.invokestatic 109, 3) := by decide +kernel
theorem dX8_asks_21 : decode cX8_asks 21 = .ok (.ifCond .ne 5, 3) := by decide +kernel
theorem dX8_asks_24 : decode cX8_asks 24 = .ok (.iconst (-1), 1) := by decide +kernel
theorem dX8_asks_25 : decode cX8_asks 25 = .ok (.ireturn, 1) := by decide +kernel
theorem dX8_asks_26 : decode cX8_asks 26 = .ok (.aload_n 0, 1) := by decide +kernel
theorem dX8_asks_27 : decode cX8_asks 27 = .ok (.iconst 0, 1) := by decide +kernel
theorem dX8_asks_28 : decode cX8_asks 28 = .ok (.invokevirtual 263, 3) := by decide +kernel
theorem dX8_asks_31 : decode cX8_asks 31 = .ok (.iconst 4, 1) := by decide +kernel
theorem dX8_asks_32 : decode cX8_asks 32 = .ok (.if_icmp .ne 6, 3) := by decide +kernel
theorem dX8_asks_35 : decode cX8_asks 35 = .ok (.bipush (-2), 2) := by decide +kernel
theorem dX8_asks_37 : decode cX8_asks 37 = .ok (.ireturn, 1) := by decide +kernel
theorem dX8_asks_38 : decode cX8_asks 38 = .ok (.aload_n 0, 1) := by decide +kernel
theorem dX8_asks_39 : decode cX8_asks 39 = .ok (.getfield 70, 3) := by decide +kernel
theorem dX8_asks_42 : decode cX8_asks 42 = .ok (.bipush 13, 2) := by decide +kernel
theorem dX8_asks_44 : decode cX8_asks 44 = .ok (.iaload, 1) := by decide +kernel
theorem dX8_asks_45 : decode cX8_asks 45 = .ok (.bipush 20, 2) := by decide +kernel
theorem dX8_asks_47 : decode cX8_asks 47 = .ok (.if_icmp .ne 6, 3) := by decide +kernel
theorem dX8_asks_50 : decode cX8_asks 50 = .ok (.bipush (-3), 2) := by decide +kernel
theorem dX8_asks_52 : decode cX8_asks 52 = .ok (.ireturn, 1) := by decide +kernel
theorem dX8_asks_53 : decode cX8_asks 53 = .ok (.aload_n 0, 1) := by decide +kernel
theorem dX8_asks_54 : decode cX8_asks 54 = .ok (.invokevirtual 266, 3) := by decide +kernel
theorem dX8_asks_57 : decode cX8_asks 57 = .ok (.aload_n 0, 1) := by decide +kernel
theorem dX8_asks_58 : decode cX8_asks 58 = .ok (.getfield 70, 3) := by decide +kernel
theorem dX8_asks_61 : decode cX8_asks 61 = .ok (.bipush 13, 2) := by decide +kernel
theorem dX8_asks_63 : decode cX8_asks 63 = .ok (.iaload, 1) := by decide +kernel
theorem dX8_asks_64 : decode cX8_asks 64 = .ok (.istore_n 3, 1) := by decide +kernel
theorem dX8_asks_65 : decode cX8_asks 65 = .ok (.bipush 57, 2) := by decide +kernel
theorem dX8_asks_67 : decode cX8_asks 67 = .ok (.iconst 5, 1) := by decide +kernel
theorem dX8_asks_68 : decode cX8_asks 68 = .ok (.iload_n 3, 1) := by decide +kernel
theorem dX8_asks_69 : decode cX8_asks 69 = .ok (.imul, 1) := by decide +kernel
theorem dX8_asks_70 : decode cX8_asks 70 = .ok (.iadd, 1) := by decide +kernel
theorem dX8_asks_71 : decode cX8_asks 71 = .ok (.istore 4, 2) := by decide +kernel
theorem dX8_asks_73 : decode cX8_asks 73 = .ok (.aload_n 0, 1) := by decide +kernel
theorem dX8_asks_74 : decode cX8_asks 74 = .ok (.getfield 70, 3) := by decide +kernel
theorem dX8_asks_77 : decode cX8_asks 77 = .ok (.iload 4, 2) := by decide +kernel
theorem dX8_asks_79 : decode cX8_asks 79 = .ok (.iconst 0, 1) := by decide +kernel
theorem dX8_asks_80 : decode cX8_asks 80 = .ok (.iadd, 1) := by decide +kernel
theorem dX8_asks_81 : decode cX8_asks 81 = .ok (.iload_n 1, 1) := by decide +kernel
theorem dX8_asks_82 : decode cX8_asks 82 = .ok (.iastore, 1) := by decide +kernel
theorem dX8_asks_83 : decode cX8_asks 83 = .ok (.aload_n 0, 1) := by decide +kernel
theorem dX8_asks_84 : decode cX8_asks 84 = .ok (.getfield 70, 3) := by decide +kernel
theorem dX8_asks_87 : decode cX8_asks 87 = .ok (.iload 4, 2) := by decide +kernel
theorem dX8_asks_89 : decode cX8_asks 89 = .ok (.iconst 1, 1) := by decide +kernel
theorem dX8_asks_90 : decode cX8_asks 90 = .ok (.iadd, 1) := by decide +kernel
theorem dX8_asks_91 : decode cX8_asks 91 = .ok (.iload_n 2, 1) := by decide +kernel
theorem dX8_asks_92 : decode cX8_asks 92 = .ok (.iastore, 1) := by decide +kernel
theorem dX8_asks_93 : decode cX8_asks 93 = .ok (.aload_n 0, 1) := by decide +kernel
theorem dX8_asks_94 : decode cX8_asks 94 = .ok (.getfield 70, 3) := by decide +kernel
theorem dX8_asks_97 : decode cX8_asks 97 = .ok (.iload 4, 2) := by decide +kernel
theorem dX8_asks_99 : decode cX8_asks 99 = .ok (.iconst 2, 1) := by decide +kernel
theorem dX8_asks_100 : decode cX8_asks 100 = .ok (.iadd, 1) := by decide +kernel
theorem dX8_asks_101 : decode cX8_asks 101 = .ok (.iconst 0, 1) := by decide +kernel
theorem dX8_asks_102 : decode cX8_asks 102 = .ok (.iastore, 1) := by decide +kernel
theorem dX8_asks_103 : decode cX8_asks 103 = .ok (.aload_n 0, 1) := by decide +kernel
theorem dX8_asks_104 : decode cX8_asks 104 = .ok (.getfield 70, 3) := by decide +kernel
theorem dX8_asks_107 : decode cX8_asks 107 = .ok (.iload 4, 2) := by decide +kernel
theorem dX8_asks_109 : decode cX8_asks 109 = .ok (.iconst 3, 1) := by decide +kernel
theorem dX8_asks_110 : decode cX8_asks 110 = .ok (.iadd, 1) := by decide +kernel
theorem dX8_asks_111 : decode cX8_asks 111 = .ok (.iconst 0, 1) := by decide +kernel
theorem dX8_asks_112 : decode cX8_asks 112 = .ok (.iastore, 1) := by decide +kernel
theorem dX8_asks_113 : decode cX8_asks 113 = .ok (.aload_n 0, 1) := by decide +kernel
theorem dX8_asks_114 : decode cX8_asks 114 = .ok (.getfield 70, 3) := by decide +kernel
theorem dX8_asks_117 : decode cX8_asks 117 = .ok (.iload 4, 2) := by decide +kernel
theorem dX8_asks_119 : decode cX8_asks 119 = .ok (.iconst 4, 1) := by decide +kernel
theorem dX8_asks_120 : decode cX8_asks 120 = .ok (.iadd, 1) := by decide +kernel
theorem dX8_asks_121 : decode cX8_asks 121 = .ok (.iconst 0, 1) := by decide +kernel
theorem dX8_asks_122 : decode cX8_asks 122 = .ok (.iastore, 1) := by decide +kernel
theorem dX8_asks_123 : decode cX8_asks 123 = .ok (.aload_n 0, 1) := by decide +kernel
theorem dX8_asks_124 : decode cX8_asks 124 = .ok (.getfield 70, 3) := by decide +kernel
theorem dX8_asks_127 : decode cX8_asks 127 = .ok (.bipush 13, 2) := by decide +kernel
theorem dX8_asks_129 : decode cX8_asks 129 = .ok (.dup2, 1) := by decide +kernel
theorem dX8_asks_130 : decode cX8_asks 130 = .ok (.iaload, 1) := by decide +kernel
theorem dX8_asks_131 : decode cX8_asks 131 = .ok (.iconst 1, 1) := by decide +kernel
theorem dX8_asks_132 : decode cX8_asks 132 = .ok (.iadd, 1) := by decide +kernel
theorem dX8_asks_133 : decode cX8_asks 133 = .ok (.iastore, 1) := by decide +kernel
theorem dX8_asks_134 : decode cX8_asks 134 = .ok (.iload_n 3, 1) := by decide +kernel
theorem dX8_asks_135 : decode cX8_asks 135 = .ok (.ireturn, 1) := by decide +kernel
theorem dX8_cancel_0 : decode cX8_cancel 0 = .ok (.aload_n 0, 1) := by decide +kernel
theorem dX8_cancel_1 : decode cX8_cancel 1 = .ok (.iconst 0, 1) := by decide +kernel
theorem dX8_cancel_2 : decode cX8_cancel 2 = .ok (.putfield 1, 3) := by decide +kernel
theorem dX8_cancel_5 : decode cX8_cancel 5 = .ok (.aload_n 0, 1) := by decide +kernel
theorem dX8_cancel_6 : decode cX8_cancel 6 = .ok (.iload_n 1, 1) := by decide +kernel
theorem dX8_cancel_7 : decode cX8_cancel 7 = .ok (.invokevirtual 223, 3) := by decide +kernel
theorem dX8_cancel_10 : decode cX8_cancel 10 = .ok (.ifCond .eq 20, 3) := by decide +kernel
theorem dX8_cancel_13 : decode cX8_cancel 13 = .ok (.aload_n 0, 1) := by decide +kernel
theorem dX8_cancel_14 : decode cX8_cancel 14 = .ok (.iload_n 1, 1) := by decide +kernel
theorem dX8_cancel_15 : decode cX8_cancel 15 = .ok (.iconst 2, 1) := by decide +kernel
theorem dX8_cancel_16 : decode cX8_cancel 16 = .ok (.invokevirtual 180, 3) := by decide +kernel
theorem dX8_cancel_19 : decode cX8_cancel 19 = .ok (.ifCond .ne 11, 3) := by decide +kernel
theorem dX8_cancel_22 : decode cX8_cancel 22 = .ok (.aload_n 0, 1) := by decide +kernel
theorem dX8_cancel_23 : decode cX8_cancel 23 = .ok (.iload_n 1, 1) := by decide +kernel
theorem dX8_cancel_24 : decode cX8_cancel 24 = .ok (.invokevirtual 229, 3) := by decide +kernel
theorem dX8_cancel_27 : decode cX8_cancel 27 = .ok (.ifCond .le 5, 3) := by decide +kernel
theorem dX8_cancel_30 : decode cX8_cancel 30 = .ok (.iconst 0, 1) := by decide +kernel
theorem dX8_cancel_31 : decode cX8_cancel 31 = .ok (.ireturn, 1) := by decide +kernel
theorem dX8_cancel_32 : decode cX8_cancel 32 = .ok (.aload_n 0, 1) := by decide +kernel
theorem dX8_cancel_33 : decode cX8_cancel 33 = .ok (.invokevirtual 266, 3) := by decide +kernel
theorem dX8_cancel_36 : decode cX8_cancel 36 = .ok (.aload_n 0, 1) := by decide +kernel
theorem dX8_cancel_37 : decode cX8_cancel 37 = .ok (.getfield 70, 3) := by decide +kernel
theorem dX8_cancel_40 : decode cX8_cancel 40 = .ok (.bipush 57, 2) := by decide +kernel
theorem dX8_cancel_42 : decode cX8_cancel 42 = .ok (.iconst 5, 1) := by decide +kernel
theorem dX8_cancel_43 : decode cX8_cancel 43 = .ok (.iload_n 1, 1) := by decide +kernel
theorem dX8_cancel_44 : decode cX8_cancel 44 = .ok (.imul, 1) := by decide +kernel
theorem dX8_cancel_45 : decode cX8_cancel 45 = .ok (.iadd, 1) := by decide +kernel
theorem dX8_cancel_46 : decode cX8_cancel 46 = .ok (.iconst 2, 1) := by decide +kernel
theorem dX8_cancel_47 : decode cX8_cancel 47 = .ok (.iadd, 1) := by decide +kernel
theorem dX8_cancel_48 : decode cX8_cancel 48 = .ok (.iconst 3, 1) := by decide +kernel
theorem dX8_cancel_49 : decode cX8_cancel 49 = .ok (.iastore, 1) := by decide +kernel
theorem dX8_cancel_50 : decode cX8_cancel 50 = .ok (.iconst 1, 1) := by decide +kernel
theorem dX8_cancel_51 : decode cX8_cancel 51 = .ok (.ireturn, 1) := by decide +kernel
theorem dX8_puts_0 : decode cX8_puts 0 = .ok (.aload_n 0, 1) := by decide +kernel
theorem dX8_puts_1 : decode cX8_puts 1 = .ok (.getfield 70, 3) := by decide +kernel
theorem dX8_puts_4 : decode cX8_puts 4 = .ok (.bipush 27, 2) := by decide +kernel
theorem dX8_puts_6 : decode cX8_puts 6 = .ok (.bipush 6, 2) := by decide +kernel
theorem dX8_puts_8 : decode cX8_puts 8 = .ok (.iload_n 1, 1) := by decide +kernel
theorem dX8_puts_9 : decode cX8_puts 9 = .ok (.imul, 1) := by decide +kernel
theorem dX8_puts_10 : decode cX8_puts 10 = .ok (.iadd, 1) := by decide +kernel
theorem dX8_puts_11 : decode cX8_puts 11 = .ok (.iconst 3, 1) := by decide +kernel
theorem dX8_puts_12 : decode cX8_puts 12 = .ok (.iadd, 1) := by decide +kernel
theorem dX8_puts_13 : decode cX8_puts 13 = .ok (.iload_n 3, 1) := by decide +kernel
theorem dX8_puts_14 : decode cX8_puts 14 = .ok (.iastore, 1) := by decide +kernel
theorem dX8_puts_15 : decode cX8_puts 15 = .ok (.aload_n 0, 1) := by decide +kernel
theorem dX8_puts_16 : decode cX8_puts 16 = .ok (.getfield 70, 3) := by decide +kernel
theorem dX8_puts_19 : decode cX8_puts 19 = .ok (.bipush 27, 2) := by decide +kernel
theorem dX8_puts_21 : decode cX8_puts 21 = .ok (.bipush 6, 2) := by decide +kernel
theorem dX8_puts_23 : decode cX8_puts 23 = .ok (.iload_n 1, 1) := by decide +kernel
theorem dX8_puts_24 : decode cX8_puts 24 = .ok (.imul, 1) := by decide +kernel
theorem dX8_puts_25 : decode cX8_puts 25 = .ok (.iadd, 1) := by decide +kernel
theorem dX8_puts_26 : decode cX8_puts 26 = .ok (.iconst 4, 1) := by decide +kernel
theorem dX8_puts_27 : decode cX8_puts 27 = .ok (.iadd, 1) := by decide +kernel
theorem dX8_puts_28 : decode cX8_puts 28 = .ok (.iload_n 2, 1) := by decide +kernel
theorem dX8_puts_29 : decode cX8_puts 29 = .ok (.iconst 1, 1) := by decide +kernel
theorem dX8_puts_30 : decode cX8_puts 30 = .ok (.iadd, 1) := by decide +kernel
theorem dX8_puts_31 : decode cX8_puts 31 = .ok (.iastore, 1) := by decide +kernel
theorem dX8_puts_32 : decode cX8_puts 32 = .ok (.aload_n 0, 1) := by decide +kernel
theorem dX8_puts_33 : decode cX8_puts 33 = .ok (.getfield 70, 3) := by decide +kernel
theorem dX8_puts_36 : decode cX8_puts 36 = .ok (.bipush 27, 2) := by decide +kernel
theorem dX8_puts_38 : decode cX8_puts 38 = .ok (.bipush 6, 2) := by decide +kernel
theorem dX8_puts_40 : decode cX8_puts 40 = .ok (.iload_n 1, 1) := by decide +kernel
theorem dX8_puts_41 : decode cX8_puts 41 = .ok (.imul, 1) := by decide +kernel
theorem dX8_puts_42 : decode cX8_puts 42 = .ok (.iadd, 1) := by decide +kernel
theorem dX8_puts_43 : decode cX8_puts 43 = .ok (.iconst 5, 1) := by decide +kernel
theorem dX8_puts_44 : decode cX8_puts 44 = .ok (.iadd, 1) := by decide +kernel
theorem dX8_puts_45 : decode cX8_puts 45 = .ok (.aload_n 0, 1) := by decide +kernel
theorem dX8_puts_46 : decode cX8_puts 46 = .ok (.iload_n 2, 1) := by decide +kernel
theorem dX8_puts_47 : decode cX8_puts 47 = .ok (.iconst 0, 1) := by decide +kernel
theorem dX8_puts_48 : decode cX8_puts 48 = .ok (.invokevirtual 180, 3) := by decide +kernel
theorem dX8_puts_51 : decode cX8_puts 51 = .ok (.iconst 1, 1) := by decide +kernel
theorem dX8_puts_52 : decode cX8_puts 52 = .ok (.iadd, 1) := by decide +kernel
theorem dX8_puts_53 : decode cX8_puts 53 = .ok (.iastore, 1) := by decide +kernel
theorem dX8_puts_54 : decode cX8_puts 54 = .ok (.aload_n 0, 1) := by decide +kernel
theorem dX8_puts_55 : decode cX8_puts 55 = .ok (.iload_n 2, 1) := by decide +kernel
theorem dX8_puts_56 : decode cX8_puts 56 = .ok (.invokevirtual 229, 3) := by decide +kernel
theorem dX8_puts_59 : decode cX8_puts 59 = .ok (.aload_n 0, 1) := by decide +kernel
theorem dX8_puts_60 : decode cX8_puts 60 = .ok (.iload_n 2, 1) := by decide +kernel
theorem dX8_puts_61 : decode cX8_puts 61 = .ok (.iconst 1, 1) := by decide +kernel
theorem dX8_puts_62 : decode cX8_puts 62 = .ok (.invokevirtual 180, 3) := by decide +kernel
theorem dX8_puts_65 : decode cX8_puts 65 = .ok (.if_icmp .ne 17, 3) := by decide +kernel
theorem dX8_puts_68 : decode cX8_puts 68 = .ok (.aload_n 0, 1) := by decide +kernel
theorem dX8_puts_69 : decode cX8_puts 69 = .ok (.getfield 70, 3) := by decide +kernel
theorem dX8_puts_72 : decode cX8_puts 72 = .ok (.bipush 57, 2) := by decide +kernel
theorem dX8_puts_74 : decode cX8_puts 74 = .ok (.iconst 5, 1) := by decide +kernel
theorem dX8_puts_75 : decode cX8_puts 75 = .ok (.iload_n 2, 1) := by decide +kernel
theorem dX8_puts_76 : decode cX8_puts 76 = .ok (.imul, 1) := by decide +kernel
theorem dX8_puts_77 : decode cX8_puts 77 = .ok (.iadd, 1) := by decide +kernel
theorem dX8_puts_78 : decode cX8_puts 78 = .ok (.iconst 2, 1) := by decide +kernel
theorem dX8_puts_79 : decode cX8_puts 79 = .ok (.iadd, 1) := by decide +kernel
theorem dX8_puts_80 : decode cX8_puts 80 = .ok (.iconst 1, 1) := by decide +kernel
theorem dX8_puts_81 : decode cX8_puts 81 = .ok (.iastore, 1) := by decide +kernel
theorem dX8_puts_82 : decode cX8_puts 82 = .ok (.return_, 1) := by decide +kernel
theorem dX8_put_0 : decode cX8_put 0 = .ok (.aload_n 0, 1) := by decide +kernel
theorem dX8_put_1 : decode cX8_put 1 = .ok (.iconst 0, 1) := by decide +kernel
theorem dX8_put_2 : decode cX8_put 2 = .ok (.putfield 1, 3) := by decide +kernel
theorem dX8_put_5 : decode cX8_put 5 = .ok (.aload_n 0, 1) := by decide +kernel
theorem dX8_put_6 : decode cX8_put 6 = .ok (.iload_n 1, 1) := by decide +kernel
theorem dX8_put_7 : decode cX8_put 7 = .ok (.invokevirtual 217, 3) := by decide +kernel
theorem dX8_put_10 : decode cX8_put 10 = .ok (.ifCond .eq 20, 3) := by decide +kernel
theorem dX8_put_13 : decode cX8_put 13 = .ok (.aload_n 0, 1) := by decide +kernel
theorem dX8_put_14 : decode cX8_put 14 = .ok (.iload_n 2, 1) := by decide +kernel
theorem dX8_put_15 : decode cX8_put 15 = .ok (.invokevirtual 223, 3) := by decide +kernel
theorem dX8_put_18 : decode cX8_put 18 = .ok (.ifCond .eq 12, 3) := by decide +kernel
theorem dX8_put_21 : decode cX8_put 21 = .ok (.aload_n 0, 1) := by decide +kernel
theorem dX8_put_22 : decode cX8_put 22 = .ok (.iload_n 2, 1) := by decide +kernel
theorem dX8_put_23 : decode cX8_put 23 = .ok (.iconst 2, 1) := by decide +kernel
theorem dX8_put_24 : decode cX8_put 24 = .ok (.invokevirtual 180, 3) := by decide +kernel
theorem dX8_put_27 : decode cX8_put 27 = .ok (.ifCond .eq 5, 3) := by decide +kernel
theorem dX8_put_30 : decode cX8_put 30 = .ok (.iconst (-1), 1) := by decide +kernel
theorem dX8_put_31 : decode cX8_put 31 = .ok (.ireturn, 1) := by decide +kernel
theorem dX8_put_32 : decode cX8_put 32 = .ok (.aload_n 0, 1) := by decide +kernel
theorem dX8_put_33 : decode cX8_put 33 = .ok (.iload_n 1, 1) := by decide +kernel
theorem dX8_put_34 : decode cX8_put 34 = .ok (.iconst 4, 1) := by decide +kernel
theorem dX8_put_35 : decode cX8_put 35 = .ok (.invokevirtual 176, 3) := by decide +kernel
theorem dX8_put_38 : decode cX8_put 38 = .ok (.ifCond .le 6, 3) := by decide +kernel
theorem dX8_put_41 : decode cX8_put 41 = .ok (.bipush (-2), 2) := by decide +kernel
theorem dX8_put_43 : decode cX8_put 43 = .ok (.ireturn, 1) := by decide +kernel
theorem dX8_put_44 : decode cX8_put 44 = .ok (.aload_n 0, 1) := by decide +kernel
theorem dX8_put_45 : decode cX8_put 45 = .ok (.iload_n 1, 1) := by decide +kernel
theorem dX8_put_46 : decode cX8_put 46 = .ok (.aload_n 0, 1) := by decide +kernel
theorem dX8_put_47 : decode cX8_put 47 = .ok (.iload_n 2, 1) := by decide +kernel
theorem dX8_put_48 : decode cX8_put 48 = .ok (.iconst 0, 1) := by decide +kernel
theorem dX8_put_49 : decode cX8_put 49 = .ok (.invokevirtual 180, 3) := by decide +kernel
theorem dX8_put_52 : decode cX8_put 52 = .ok (.iconst 0, 1) := by decide +kernel
theorem dX8_put_53 : decode cX8_put 53 = .ok (.invokevirtual 235, 3) := by decide +kernel
theorem dX8_put_56 : decode cX8_put 56 = .ok (.ifCond .ne 6, 3) := by decide +kernel
theorem dX8_put_59 : decode cX8_put 59 = .ok (.bipush (-3), 2) := by decide +kernel
theorem dX8_put_61 : decode cX8_put 61 = .ok (.ireturn, 1) := by decide +kernel
theorem dX8_put_62 : decode cX8_put 62 = .ok (.aload_n 0, 1) := by decide +kernel
theorem dX8_put_63 : decode cX8_put 63 = .ok (.iload_n 1, 1) := by decide +kernel
theorem dX8_put_64 : decode cX8_put 64 = .ok (.invokevirtual 220, 3) := by decide +kernel
theorem dX8_put_67 : decode cX8_put 67 = .ok (.ifCond .ne 6, 3) := by decide +kernel
theorem dX8_put_70 : decode cX8_put 70 = .ok (.bipush (-4), 2) := by decide +kernel
theorem dX8_put_72 : decode cX8_put 72 = .ok (.ireturn, 1) := by decide +kernel
theorem dX8_put_73 : decode cX8_put 73 = .ok (.aload_n 0, 1) := by decide +kernel
theorem dX8_put_74 : decode cX8_put 74 = .ok (.invokevirtual 266, 3) := by decide +kernel
theorem dX8_put_77 : decode cX8_put 77 = .ok (.aload_n 0, 1) := by decide +kernel
theorem dX8_put_78 : decode cX8_put 78 = .ok (.iload_n 2, 1) := by decide +kernel
theorem dX8_put_79 : decode cX8_put 79 = .ok (.iconst 1, 1) := by decide +kernel
theorem dX8_put_80 : decode cX8_put 80 = .ok (.invokevirtual 180, 3) := by decide +kernel
theorem dX8_put_83 : decode cX8_put 83 = .ok (.aload_n 0, 1) := by decide +kernel
theorem dX8_put_84 : decode cX8_put 84 = .ok (.iload_n 2, 1) := by decide +kernel
theorem dX8_put_85 : decode cX8_put 85 = .ok (.invokevirtual 229, 3) := by decide +kernel
theorem dX8_put_88 : decode cX8_put 88 = .ok (.isub, 1) := by decide +kernel
theorem dX8_put_89 : decode cX8_put 89 = .ok (.istore_n 3, 1) := by decide +kernel
theorem dX8_put_90 : decode cX8_put 90 = .ok (.iload_n 3, 1) := by decide +kernel
theorem dX8_put_91 : decode cX8_put 91 = .ok (.aload_n 0, 1) := by decide +kernel
theorem dX8_put_92 : decode cX8_put 92 = .ok (.iload_n 1, 1) := by decide +kernel
theorem dX8_put_93 : decode cX8_put 93 = .ok (.invokevirtual 220, 3) := by decide +kernel
theorem dX8_put_96 : decode cX8_put 96 = .ok (.if_icmp .ge 7, 3) := by decide +kernel
theorem dX8_put_99 : decode cX8_put 99 = .ok (.iload_n 3, 1) := by decide +kernel
theorem dX8_put_100 : decode cX8_put 100 = .ok (.goto 8, 3) := by decide +kernel
theorem dX8_put_103 : decode cX8_put 103 = .ok (.aload_n 0, 1) := by decide +kernel
theorem dX8_put_104 : decode cX8_put 104 = .ok (.iload_n 1, 1) := by decide +kernel
theorem dX8_put_105 : decode cX8_put 105 = .ok (.invokevirtual 220, 3) := by decide +kernel
theorem dX8_put_108 : decode cX8_put 108 = .ok (.istore 4, 2) := by decide +kernel
theorem dX8_put_110 : decode cX8_put 110 = .ok (.aload_n 0, 1) := by decide +kernel
theorem dX8_put_111 : decode cX8_put 111 = .ok (.iload_n 1, 1) := by decide +kernel
theorem dX8_put_112 : decode cX8_put 112 = .ok (.iload_n 2, 1) := by decide +kernel
theorem dX8_put_113 : decode cX8_put 113 = .ok (.iload 4, 2) := by decide +kernel
theorem dX8_put_115 : decode cX8_put 115 = .ok (.invokevirtual 269, 3) := by decide +kernel
theorem dX8_put_118 : decode cX8_put 118 = .ok (.iload 4, 2) := by decide +kernel
theorem dX8_put_120 : decode cX8_put 120 = .ok (.ireturn, 1) := by decide +kernel
theorem dX8_load_0 : decode cX8_load 0 = .ok (.aload_n 0, 1) := by decide +kernel
theorem dX8_load_1 : decode cX8_load 1 = .ok (.iconst 0, 1) := by decide +kernel
theorem dX8_load_2 : decode cX8_load 2 = .ok (.putfield 1, 3) := by decide +kernel
theorem dX8_load_5 : decode cX8_load 5 = .ok (.aload_n 0, 1) := by decide +kernel
theorem dX8_load_6 : decode cX8_load 6 = .ok (.iconst 0, 1) := by decide +kernel
theorem dX8_load_7 : decode cX8_load 7 = .ok (.invokevirtual 260, 3) := by decide +kernel
theorem dX8_load_10 : decode cX8_load 10 = .ok (.aload_n 0, 1) := by decide +kernel
theorem dX8_load_11 : decode cX8_load 11 = .ok (.getfield 247, 3) := by decide +kernel
theorem dX8_load_14 : decode cX8_load 14 = .ok (.iconst (-1), 1) := by decide +kernel
theorem dX8_load_15 : decode cX8_load 15 = .ok (.if_icmp .ne 6, 3) := by decide +kernel
theorem dX8_load_18 : decode cX8_load 18 = .ok (.bipush (-2), 2) := by decide +kernel
theorem dX8_load_20 : decode cX8_load 20 = .ok (.ireturn, 1) := by decide +kernel
theorem dX8_load_21 : decode cX8_load 21 = .ok (.aload_n 0, 1) := by decide +kernel
theorem dX8_load_22 : decode cX8_load 22 = .ok (.getfield 247, 3) := by decide +kernel
theorem dX8_load_25 : decode cX8_load 25 = .ok (.ifCond .ne 5, 3) := by decide +kernel
theorem dX8_load_28 : decode cX8_load 28 = .ok (.iconst (-1), 1) := by decide +kernel
theorem dX8_load_29 : decode cX8_load 29 = .ok (.ireturn, 1) := by decide +kernel
theorem dX8_load_30 : decode cX8_load 30 = .ok (.aload_n 0, 1) := by decide +kernel
theorem dX8_load_31 : decode cX8_load 31 = .ok (.invokevirtual 266, 3) := by decide +kernel
theorem dX8_load_34 : decode cX8_load 34 = .ok (.iconst 0, 1) := by decide +kernel
theorem dX8_load_35 : decode cX8_load 35 = .ok (.istore_n 1, 1) := by decide +kernel
theorem dX8_load_36 : decode cX8_load 36 = .ok (.iload_n 1, 1) := by decide +kernel
theorem dX8_load_37 : decode cX8_load 37 = .ok (.aload_n 0, 1) := by decide +kernel
theorem dX8_load_38 : decode cX8_load 38 = .ok (.getfield 70, 3) := by decide +kernel
theorem dX8_load_41 : decode cX8_load 41 = .ok (.bipush 9, 2) := by decide +kernel
theorem dX8_load_43 : decode cX8_load 43 = .ok (.iaload, 1) := by decide +kernel
theorem dX8_load_44 : decode cX8_load 44 = .ok (.if_icmp .ge 36, 3) := by decide +kernel
theorem dX8_load_47 : decode cX8_load 47 = .ok (.aload_n 0, 1) := by decide +kernel
theorem dX8_load_48 : decode cX8_load 48 = .ok (.getfield 100, 3) := by decide +kernel
theorem dX8_load_51 : decode cX8_load 51 = .ok (.iload_n 1, 1) := by decide +kernel
theorem dX8_load_52 : decode cX8_load 52 = .ok (.iaload, 1) := by decide +kernel
theorem dX8_load_53 : decode cX8_load 53 = .ok (.iconst (-1), 1) := by decide +kernel
theorem dX8_load_54 : decode cX8_load 54 = .ok (.if_icmp .eq 20, 3) := by decide +kernel
theorem dX8_load_57 : decode cX8_load 57 = .ok (.aload_n 0, 1) := by decide +kernel
theorem dX8_load_58 : decode cX8_load 58 = .ok (.iload_n 1, 1) := by decide +kernel
theorem dX8_load_59 : decode cX8_load 59 = .ok (.aload_n 0, 1) := by decide +kernel
theorem dX8_load_60 : decode cX8_load 60 = .ok (.getfield 100, 3) := by decide +kernel
theorem dX8_load_63 : decode cX8_load 63 = .ok (.iload_n 1, 1) := by decide +kernel
theorem dX8_load_64 : decode cX8_load 64 = .ok (.iaload, 1) := by decide +kernel
theorem dX8_load_65 : decode cX8_load 65 = .ok (.aload_n 0, 1) := by decide +kernel
theorem dX8_load_66 : decode cX8_load 66 = .ok (.getfield 103, 3) := by decide +kernel
theorem dX8_load_69 : decode cX8_load 69 = .ok (.iload_n 1, 1) := by decide +kernel
theorem dX8_load_70 : decode cX8_load 70 = .ok (.iaload, 1) := by decide +kernel
theorem dX8_load_71 : decode cX8_load 71 = .ok (.invokevirtual 269, 3) := by decide +kernel
theorem dX8_load_74 : decode cX8_load 74 = .ok (.iinc 1 1, 3) := by decide +kernel
theorem dX8_load_77 : decode cX8_load 77 = .ok (.goto (-41), 3) := by decide +kernel
theorem dX8_load_80 : decode cX8_load 80 = .ok (.aload_n 0, 1) := by decide +kernel
theorem dX8_load_81 : decode cX8_load 81 = .ok (.getfield 247, 3) := by decide +kernel
theorem dX8_load_84 : decode cX8_load 84 = .ok (.ireturn, 1) := by decide +kernel
theorem dX8_goes_0 : decode cX8_goes 0 = .ok (.aload_n 0, 1) := by decide +kernel
theorem dX8_goes_1 : decode cX8_goes 1 = .ok (.getfield 70, 3) := by decide +kernel
theorem dX8_goes_4 : decode cX8_goes 4 = .ok (.bipush 27, 2) := by decide +kernel
theorem dX8_goes_6 : decode cX8_goes 6 = .ok (.bipush 6, 2) := by decide +kernel
theorem dX8_goes_8 : decode cX8_goes 8 = .ok (.iload_n 1, 1) := by decide +kernel
theorem dX8_goes_9 : decode cX8_goes 9 = .ok (.imul, 1) := by decide +kernel
theorem dX8_goes_10 : decode cX8_goes 10 = .ok (.iadd, 1) := by decide +kernel
theorem dX8_goes_11 : decode cX8_goes 11 = .ok (.iconst 3, 1) := by decide +kernel
theorem dX8_goes_12 : decode cX8_goes 12 = .ok (.iadd, 1) := by decide +kernel
theorem dX8_goes_13 : decode cX8_goes 13 = .ok (.iconst 0, 1) := by decide +kernel
theorem dX8_goes_14 : decode cX8_goes 14 = .ok (.iastore, 1) := by decide +kernel
theorem dX8_goes_15 : decode cX8_goes 15 = .ok (.aload_n 0, 1) := by decide +kernel
theorem dX8_goes_16 : decode cX8_goes 16 = .ok (.getfield 70, 3) := by decide +kernel
theorem dX8_goes_19 : decode cX8_goes 19 = .ok (.bipush 27, 2) := by decide +kernel
theorem dX8_goes_21 : decode cX8_goes 21 = .ok (.bipush 6, 2) := by decide +kernel
theorem dX8_goes_23 : decode cX8_goes 23 = .ok (.iload_n 1, 1) := by decide +kernel
theorem dX8_goes_24 : decode cX8_goes 24 = .ok (.imul, 1) := by decide +kernel
theorem dX8_goes_25 : decode cX8_goes 25 = .ok (.iadd, 1) := by decide +kernel
theorem dX8_goes_26 : decode cX8_goes 26 = .ok (.iconst 4, 1) := by decide +kernel
theorem dX8_goes_27 : decode cX8_goes 27 = .ok (.iadd, 1) := by decide +kernel
theorem dX8_goes_28 : decode cX8_goes 28 = .ok (.iconst 0, 1) := by decide +kernel
theorem dX8_goes_29 : decode cX8_goes 29 = .ok (.iastore, 1) := by decide +kernel
theorem dX8_goes_30 : decode cX8_goes 30 = .ok (.return_, 1) := by decide +kernel
theorem dX8_unload_0 : decode cX8_unload 0 = .ok (.aload_n 0, 1) := by decide +kernel
theorem dX8_unload_1 : decode cX8_unload 1 = .ok (.iconst 0, 1) := by decide +kernel
theorem dX8_unload_2 : decode cX8_unload 2 = .ok (.putfield 1, 3) := by decide +kernel
theorem dX8_unload_5 : decode cX8_unload 5 = .ok (.aload_n 0, 1) := by decide +kernel
theorem dX8_unload_6 : decode cX8_unload 6 = .ok (.iload_n 1, 1) := by decide +kernel
theorem dX8_unload_7 : decode cX8_unload 7 = .ok (.invokevirtual 223, 3) := by decide +kernel
theorem dX8_unload_10 : decode cX8_unload 10 = .ok (.ifCond .eq 26, 3) := by decide +kernel
theorem dX8_unload_13 : decode cX8_unload 13 = .ok (.aload_n 0, 1) := by decide +kernel
theorem dX8_unload_14 : decode cX8_unload 14 = .ok (.iload_n 1, 1) := by decide +kernel
theorem dX8_unload_15 : decode cX8_unload 15 = .ok (.iconst 2, 1) := by decide +kernel
theorem dX8_unload_16 : decode cX8_unload 16 = .ok (.invokevirtual 180, 3) := by decide +kernel
theorem dX8_unload_19 : decode cX8_unload 19 = .ok (.iconst 1, 1) := by decide +kernel
theorem dX8_unload_20 : decode cX8_unload 20 = .ok (.if_icmp .ne 16, 3) := by decide +kernel
theorem dX8_unload_23 : decode cX8_unload 23 = .ok (.iload_n 2, 1) := by decide +kernel
theorem dX8_unload_24 : decode cX8_unload 24 = .ok (.iconst 0, 1) := by decide +kernel
theorem dX8_unload_25 : decode cX8_unload 25 = .ok (.aload_n 0, 1) := by decide +kernel
theorem dX8_unload_26 : decode cX8_unload 26 = .ok (.iload_n 1, 1) := by decide +kernel
theorem dX8_unload_27 : decode cX8_unload 27 = .ok (.invokevirtual 229, 3) := by decide +kernel
theorem dX8_unload_30 : decode cX8_unload 30 = .ok (.invokestatic 109, 3) := by decide +kernel
theorem dX8_unload_33 : decode cX8_unload 33 = .ok (.ifCond .ne 5, 3) := by decide +kernel
theorem dX8_unload_36 : decode cX8_unload 36 = .ok (.iconst (-1), 1) := by decide +kernel
theorem dX8_unload_37 : decode cX8_unload 37 = .ok (.ireturn, 1) := by decide +kernel
theorem dX8_unload_38 : decode cX8_unload 38 = .ok (.aload_n 0, 1) := by decide +kernel
theorem dX8_unload_39 : decode cX8_unload 39 = .ok (.invokevirtual 209, 3) := by decide +kernel
theorem dX8_unload_42 : decode cX8_unload 42 = .ok (.aload_n 0, 1) := by decide +kernel
theorem dX8_unload_43 : decode cX8_unload 43 = .ok (.iconst 1, 1) := by decide +kernel
theorem dX8_unload_44 : decode cX8_unload 44 = .ok (.iload_n 1, 1) := by decide +kernel
theorem dX8_unload_45 : decode cX8_unload 45 = .ok (.ishl, 1) := by decide +kernel
theorem dX8_unload_46 : decode cX8_unload 46 = .ok (.invokevirtual 202, 3) := by decide +kernel
theorem dX8_unload_49 : decode cX8_unload 49 = .ok (.ifCond .eq 6, 3) := by decide +kernel
theorem dX8_unload_52 : decode cX8_unload 52 = .ok (.bipush (-2), 2) := by decide +kernel
theorem dX8_unload_54 : decode cX8_unload 54 = .ok (.ireturn, 1) := by decide +kernel
theorem dX8_unload_55 : decode cX8_unload 55 = .ok (.aload_n 0, 1) := by decide +kernel
theorem dX8_unload_56 : decode cX8_unload 56 = .ok (.invokevirtual 266, 3) := by decide +kernel
theorem dX8_unload_59 : decode cX8_unload 59 = .ok (.aload_n 0, 1) := by decide +kernel
theorem dX8_unload_60 : decode cX8_unload 60 = .ok (.iload_n 1, 1) := by decide +kernel
theorem dX8_unload_61 : decode cX8_unload 61 = .ok (.invokevirtual 229, 3) := by decide +kernel
theorem dX8_unload_64 : decode cX8_unload 64 = .ok (.iload_n 2, 1) := by decide +kernel
theorem dX8_unload_65 : decode cX8_unload 65 = .ok (.isub, 1) := by decide +kernel
theorem dX8_unload_66 : decode cX8_unload 66 = .ok (.istore_n 3, 1) := by decide +kernel
theorem dX8_unload_67 : decode cX8_unload 67 = .ok (.iconst 0, 1) := by decide +kernel
theorem dX8_unload_68 : decode cX8_unload 68 = .ok (.istore 4, 2) := by decide +kernel
theorem dX8_unload_70 : decode cX8_unload 70 = .ok (.iload 4, 2) := by decide +kernel
theorem dX8_unload_72 : decode cX8_unload 72 = .ok (.aload_n 0, 1) := by decide +kernel
theorem dX8_unload_73 : decode cX8_unload 73 = .ok (.getfield 70, 3) := by decide +kernel
theorem dX8_unload_76 : decode cX8_unload 76 = .ok (.bipush 9, 2) := by decide +kernel
theorem dX8_unload_78 : decode cX8_unload 78 = .ok (.iaload, 1) := by decide +kernel
theorem dX8_unload_79 : decode cX8_unload 79 = .ok (.if_icmp .ge 28, 3) := by decide +kernel
theorem dX8_unload_82 : decode cX8_unload 82 = .ok (.aload_n 0, 1) := by decide +kernel
theorem dX8_unload_83 : decode cX8_unload 83 = .ok (.iload 4, 2) := by decide +kernel
theorem dX8_unload_85 : decode cX8_unload 85 = .ok (.iconst 4, 1) := by decide +kernel
theorem dX8_unload_86 : decode cX8_unload 86 = .ok (.invokevirtual 176, 3) := by decide +kernel
theorem dX8_unload_89 : decode cX8_unload 89 = .ok (.iload_n 1, 1) := by decide +kernel
theorem dX8_unload_90 : decode cX8_unload 90 = .ok (.iconst 1, 1) := by decide +kernel
theorem dX8_unload_91 : decode cX8_unload 91 = .ok (.iadd, 1) := by decide +kernel
theorem dX8_unload_92 : decode cX8_unload 92 = .ok (.if_icmp .ne 9, 3) := by decide +kernel
theorem dX8_unload_95 : decode cX8_unload 95 = .ok (.aload_n 0, 1) := by decide +kernel
theorem dX8_unload_96 : decode cX8_unload 96 = .ok (.iload 4, 2) := by decide +kernel
theorem dX8_unload_98 : decode cX8_unload 98 = .ok (.invokevirtual 273, 3) := by decide +kernel
theorem dX8_unload_101 : decode cX8_unload 101 = .ok (.iinc 4 1, 3) := by decide +kernel
theorem dX8_unload_104 : decode cX8_unload 104 = .ok (.goto (-34), 3) := by decide +kernel
theorem dX8_unload_107 : decode cX8_unload 107 = .ok (.aload_n 0, 1) := by decide +kernel
theorem dX8_unload_108 : decode cX8_unload 108 = .ok (.getfield 70, 3) := by decide +kernel
theorem dX8_unload_111 : decode cX8_unload 111 = .ok (.bipush 57, 2) := by decide +kernel
theorem dX8_unload_113 : decode cX8_unload 113 = .ok (.iconst 5, 1) := by decide +kernel
theorem dX8_unload_114 : decode cX8_unload 114 = .ok (.iload_n 1, 1) := by decide +kernel
theorem dX8_unload_115 : decode cX8_unload 115 = .ok (.imul, 1) := by decide +kernel
theorem dX8_unload_116 : decode cX8_unload 116 = .ok (.iadd, 1) := by decide +kernel
theorem dX8_unload_117 : decode cX8_unload 117 = .ok (.iconst 2, 1) := by decide +kernel
theorem dX8_unload_118 : decode cX8_unload 118 = .ok (.iadd, 1) := by decide +kernel
theorem dX8_unload_119 : decode cX8_unload 119 = .ok (.iconst 2, 1) := by decide +kernel
theorem dX8_unload_120 : decode cX8_unload 120 = .ok (.iastore, 1) := by decide +kernel
theorem dX8_unload_121 : decode cX8_unload 121 = .ok (.aload_n 0, 1) := by decide +kernel
theorem dX8_unload_122 : decode cX8_unload 122 = .ok (.getfield 70, 3) := by decide +kernel
theorem dX8_unload_125 : decode cX8_unload 125 = .ok (.bipush 57, 2) := by decide +kernel
theorem dX8_unload_127 : decode cX8_unload 127 = .ok (.iconst 5, 1) := by decide +kernel
theorem dX8_unload_128 : decode cX8_unload 128 = .ok (.iload_n 1, 1) := by decide +kernel
theorem dX8_unload_129 : decode cX8_unload 129 = .ok (.imul, 1) := by decide +kernel
theorem dX8_unload_130 : decode cX8_unload 130 = .ok (.iadd, 1) := by decide +kernel
theorem dX8_unload_131 : decode cX8_unload 131 = .ok (.iconst 3, 1) := by decide +kernel
theorem dX8_unload_132 : decode cX8_unload 132 = .ok (.iadd, 1) := by decide +kernel
theorem dX8_unload_133 : decode cX8_unload 133 = .ok (.iload_n 2, 1) := by decide +kernel
theorem dX8_unload_134 : decode cX8_unload 134 = .ok (.iastore, 1) := by decide +kernel
theorem dX8_unload_135 : decode cX8_unload 135 = .ok (.aload_n 0, 1) := by decide +kernel
theorem dX8_unload_136 : decode cX8_unload 136 = .ok (.getfield 70, 3) := by decide +kernel
theorem dX8_unload_139 : decode cX8_unload 139 = .ok (.bipush 57, 2) := by decide +kernel
theorem dX8_unload_141 : decode cX8_unload 141 = .ok (.iconst 5, 1) := by decide +kernel
theorem dX8_unload_142 : decode cX8_unload 142 = .ok (.iload_n 1, 1) := by decide +kernel
theorem dX8_unload_143 : decode cX8_unload 143 = .ok (.imul, 1) := by decide +kernel
theorem dX8_unload_144 : decode cX8_unload 144 = .ok (.iadd, 1) := by decide +kernel
theorem dX8_unload_145 : decode cX8_unload 145 = .ok (.iconst 4, 1) := by decide +kernel
theorem dX8_unload_146 : decode cX8_unload 146 = .ok (.iadd, 1) := by decide +kernel
theorem dX8_unload_147 : decode cX8_unload 147 = .ok (.iload_n 3, 1) := by decide +kernel
theorem dX8_unload_148 : decode cX8_unload 148 = .ok (.iastore, 1) := by decide +kernel
theorem dX8_unload_149 : decode cX8_unload 149 = .ok (.iload_n 3, 1) := by decide +kernel
theorem dX8_unload_150 : decode cX8_unload 150 = .ok (.ireturn, 1) := by decide +kernel
theorem dX8_empty_0 : decode cX8_empty 0 = .ok (.aload_n 0, 1) := by decide +kernel
theorem dX8_empty_1 : decode cX8_empty 1 = .ok (.iconst 0, 1) := by decide +kernel
theorem dX8_empty_2 : decode cX8_empty 2 = .ok (.putfield 1, 3) := by decide +kernel
theorem dX8_empty_5 : decode cX8_empty 5 = .ok (.aload_n 0, 1) := by decide +kernel
theorem dX8_empty_6 : decode cX8_empty 6 = .ok (.iload_n 1, 1) := by decide +kernel
theorem dX8_empty_7 : decode cX8_empty 7 = .ok (.invokevirtual 217, 3) := by decide +kernel
theorem dX8_empty_10 : decode cX8_empty 10 = .ok (.ifCond .eq 12, 3) := by decide +kernel
theorem dX8_empty_13 : decode cX8_empty 13 = .ok (.aload_n 0, 1) := by decide +kernel
theorem dX8_empty_14 : decode cX8_empty 14 = .ok (.iload_n 1, 1) := by decide +kernel
theorem dX8_empty_15 : decode cX8_empty 15 = .ok (.iconst 4, 1) := by decide +kernel
theorem dX8_empty_16 : decode cX8_empty 16 = .ok (.invokevirtual 176, 3) := by decide +kernel
theorem dX8_empty_19 : decode cX8_empty 19 = .ok (.ifCond .ne 5, 3) := by decide +kernel
theorem dX8_empty_22 : decode cX8_empty 22 = .ok (.iconst (-1), 1) := by decide +kernel
theorem dX8_empty_23 : decode cX8_empty 23 = .ok (.ireturn, 1) := by decide +kernel
theorem dX8_empty_24 : decode cX8_empty 24 = .ok (.aload_n 0, 1) := by decide +kernel
theorem dX8_empty_25 : decode cX8_empty 25 = .ok (.iload_n 1, 1) := by decide +kernel
theorem dX8_empty_26 : decode cX8_empty 26 = .ok (.iconst 4, 1) := by decide +kernel
theorem dX8_empty_27 : decode cX8_empty 27 = .ok (.invokevirtual 176, 3) := by decide +kernel
theorem dX8_empty_30 : decode cX8_empty 30 = .ok (.iconst 1, 1) := by decide +kernel
theorem dX8_empty_31 : decode cX8_empty 31 = .ok (.isub, 1) := by decide +kernel
theorem dX8_empty_32 : decode cX8_empty 32 = .ok (.istore_n 2, 1) := by decide +kernel
theorem dX8_empty_33 : decode cX8_empty 33 = .ok (.aload_n 0, 1) := by decide +kernel
theorem dX8_empty_34 : decode cX8_empty 34 = .ok (.iload_n 2, 1) := by decide +kernel
theorem dX8_empty_35 : decode cX8_empty 35 = .ok (.iconst 2, 1) := by decide +kernel
theorem dX8_empty_36 : decode cX8_empty 36 = .ok (.invokevirtual 180, 3) := by decide +kernel
theorem dX8_empty_39 : decode cX8_empty 39 = .ok (.iconst 1, 1) := by decide +kernel
theorem dX8_empty_40 : decode cX8_empty 40 = .ok (.if_icmp .ne 15, 3) := by decide +kernel
theorem dX8_empty_43 : decode cX8_empty 43 = .ok (.aload_n 0, 1) := by decide +kernel
theorem dX8_empty_44 : decode cX8_empty 44 = .ok (.iconst 0, 1) := by decide +kernel
theorem dX8_empty_45 : decode cX8_empty 45 = .ok (.invokevirtual 263, 3) := by decide +kernel
theorem dX8_empty_48 : decode cX8_empty 48 = .ok (.iconst 4, 1) := by decide +kernel
theorem dX8_empty_49 : decode cX8_empty 49 = .ok (.if_icmp .ne 6, 3) := by decide +kernel
theorem dX8_empty_52 : decode cX8_empty 52 = .ok (.bipush (-2), 2) := by decide +kernel
theorem dX8_empty_54 : decode cX8_empty 54 = .ok (.ireturn, 1) := by decide +kernel
theorem dX8_empty_55 : decode cX8_empty 55 = .ok (.aload_n 0, 1) := by decide +kernel
theorem dX8_empty_56 : decode cX8_empty 56 = .ok (.invokevirtual 266, 3) := by decide +kernel
theorem dX8_empty_59 : decode cX8_empty 59 = .ok (.aload_n 0, 1) := by decide +kernel
theorem dX8_empty_60 : decode cX8_empty 60 = .ok (.iload_n 1, 1) := by decide +kernel
theorem dX8_empty_61 : decode cX8_empty 61 = .ok (.iconst 3, 1) := by decide +kernel
theorem dX8_empty_62 : decode cX8_empty 62 = .ok (.invokevirtual 176, 3) := by decide +kernel
theorem dX8_empty_65 : decode cX8_empty 65 = .ok (.istore_n 3, 1) := by decide +kernel
theorem dX8_empty_66 : decode cX8_empty 66 = .ok (.aload_n 0, 1) := by decide +kernel
theorem dX8_empty_67 : decode cX8_empty 67 = .ok (.iload_n 1, 1) := by decide +kernel
theorem dX8_empty_68 : decode cX8_empty 68 = .ok (.invokevirtual 273, 3) := by decide +kernel
theorem dX8_empty_71 : decode cX8_empty 71 = .ok (.aload_n 0, 1) := by decide +kernel
theorem dX8_empty_72 : decode cX8_empty 72 = .ok (.getfield 70, 3) := by decide +kernel
theorem dX8_empty_75 : decode cX8_empty 75 = .ok (.bipush 57, 2) := by decide +kernel
theorem dX8_empty_77 : decode cX8_empty 77 = .ok (.iconst 5, 1) := by decide +kernel
theorem dX8_empty_78 : decode cX8_empty 78 = .ok (.iload_n 2, 1) := by decide +kernel
theorem dX8_empty_79 : decode cX8_empty 79 = .ok (.imul, 1) := by decide +kernel
theorem dX8_empty_80 : decode cX8_empty 80 = .ok (.iadd, 1) := by decide +kernel
theorem dX8_empty_81 : decode cX8_empty 81 = .ok (.iconst 2, 1) := by decide +kernel
theorem dX8_empty_82 : decode cX8_empty 82 = .ok (.iadd, 1) := by decide +kernel
theorem dX8_empty_83 : decode cX8_empty 83 = .ok (.iconst 0, 1) := by decide +kernel
theorem dX8_empty_84 : decode cX8_empty 84 = .ok (.iastore, 1) := by decide +kernel
theorem dX8_empty_85 : decode cX8_empty 85 = .ok (.iload_n 3, 1) := by decide +kernel
theorem dX8_empty_86 : decode cX8_empty 86 = .ok (.ireturn, 1) := by decide +kernel
theorem dX8_wash_0 : decode cX8_wash 0 = .ok (.aload_n 0, 1) := by decide +kernel
theorem dX8_wash_1 : decode cX8_wash 1 = .ok (.iconst 0, 1) := by decide +kernel
theorem dX8_wash_2 : decode cX8_wash 2 = .ok (.putfield 1, 3) := by decide +kernel
theorem dX8_wash_5 : decode cX8_wash 5 = .ok (.aload_n 0, 1) := by decide +kernel
theorem dX8_wash_6 : decode cX8_wash 6 = .ok (.iload_n 1, 1) := by decide +kernel
theorem dX8_wash_7 : decode cX8_wash 7 = .ok (.invokevirtual 217, 3) := by decide +kernel
theorem dX8_wash_10 : decode cX8_wash 10 = .ok (.ifCond .eq 21, 3) := by decide +kernel
theorem dX8_wash_13 : decode cX8_wash 13 = .ok (.aload_n 0, 1) := by decide +kernel
theorem dX8_wash_14 : decode cX8_wash 14 = .ok (.iload_n 1, 1) := by decide +kernel
theorem dX8_wash_15 : decode cX8_wash 15 = .ok (.iconst 4, 1) := by decide +kernel
theorem dX8_wash_16 : decode cX8_wash 16 = .ok (.invokevirtual 176, 3) := by decide +kernel
theorem dX8_wash_19 : decode cX8_wash 19 = .ok (.ifCond .gt 12, 3) := by decide +kernel
theorem dX8_wash_22 : decode cX8_wash 22 = .ok (.aload_n 0, 1) := by decide +kernel
theorem dX8_wash_23 : decode cX8_wash 23 = .ok (.iload_n 1, 1) := by decide +kernel
theorem dX8_wash_24 : decode cX8_wash 24 = .ok (.iconst 5, 1) := by decide +kernel
theorem dX8_wash_25 : decode cX8_wash 25 = .ok (.invokevirtual 176, 3) := by decide +kernel
theorem dX8_wash_28 : decode cX8_wash 28 = .ok (.ifCond .ne 5, 3) := by decide +kernel
theorem dX8_wash_31 : decode cX8_wash 31 = .ok (.iconst 0, 1) := by decide +kernel
theorem dX8_wash_32 : decode cX8_wash 32 = .ok (.ireturn, 1) := by decide +kernel
theorem dX8_wash_33 : decode cX8_wash 33 = .ok (.aload_n 0, 1) := by decide +kernel
theorem dX8_wash_34 : decode cX8_wash 34 = .ok (.invokevirtual 266, 3) := by decide +kernel
theorem dX8_wash_37 : decode cX8_wash 37 = .ok (.aload_n 0, 1) := by decide +kernel
theorem dX8_wash_38 : decode cX8_wash 38 = .ok (.getfield 70, 3) := by decide +kernel
theorem dX8_wash_41 : decode cX8_wash 41 = .ok (.bipush 27, 2) := by decide +kernel
theorem dX8_wash_43 : decode cX8_wash 43 = .ok (.bipush 6, 2) := by decide +kernel
theorem dX8_wash_45 : decode cX8_wash 45 = .ok (.iload_n 1, 1) := by decide +kernel
theorem dX8_wash_46 : decode cX8_wash 46 = .ok (.imul, 1) := by decide +kernel
theorem dX8_wash_47 : decode cX8_wash 47 = .ok (.iadd, 1) := by decide +kernel
theorem dX8_wash_48 : decode cX8_wash 48 = .ok (.iconst 5, 1) := by decide +kernel
theorem dX8_wash_49 : decode cX8_wash 49 = .ok (.iadd, 1) := by decide +kernel
theorem dX8_wash_50 : decode cX8_wash 50 = .ok (.iconst 0, 1) := by decide +kernel
theorem dX8_wash_51 : decode cX8_wash 51 = .ok (.iastore, 1) := by decide +kernel
theorem dX8_wash_52 : decode cX8_wash 52 = .ok (.aload_n 0, 1) := by decide +kernel
theorem dX8_wash_53 : decode cX8_wash 53 = .ok (.getfield 70, 3) := by decide +kernel
theorem dX8_wash_56 : decode cX8_wash 56 = .ok (.bipush 14, 2) := by decide +kernel
theorem dX8_wash_58 : decode cX8_wash 58 = .ok (.dup2, 1) := by decide +kernel
theorem dX8_wash_59 : decode cX8_wash 59 = .ok (.iaload, 1) := by decide +kernel
theorem dX8_wash_60 : decode cX8_wash 60 = .ok (.iconst 1, 1) := by decide +kernel
theorem dX8_wash_61 : decode cX8_wash 61 = .ok (.iadd, 1) := by decide +kernel
theorem dX8_wash_62 : decode cX8_wash 62 = .ok (.iastore, 1) := by decide +kernel
theorem dX8_wash_63 : decode cX8_wash 63 = .ok (.iconst 1, 1) := by decide +kernel
theorem dX8_wash_64 : decode cX8_wash 64 = .ok (.ireturn, 1) := by decide +kernel
theorem dX8_undo_0 : decode cX8_undo 0 = .ok (.aload_n 0, 1) := by decide +kernel
theorem dX8_undo_1 : decode cX8_undo 1 = .ok (.iconst 0, 1) := by decide +kernel
theorem dX8_undo_2 : decode cX8_undo 2 = .ok (.putfield 1, 3) := by decide +kernel
theorem dX8_undo_5 : decode cX8_undo 5 = .ok (.aload_n 0, 1) := by decide +kernel
theorem dX8_undo_6 : decode cX8_undo 6 = .ok (.getfield 173, 3) := by decide +kernel
theorem dX8_undo_9 : decode cX8_undo 9 = .ok (.ifCond .ne 5, 3) := by decide +kernel
theorem dX8_undo_12 : decode cX8_undo 12 = .ok (.iconst (-1), 1) := by decide +kernel
theorem dX8_undo_13 : decode cX8_undo 13 = .ok (.ireturn, 1) := by decide +kernel
theorem dX8_undo_14 : decode cX8_undo 14 = .ok (.aload_n 0, 1) := by decide +kernel
theorem dX8_undo_15 : decode cX8_undo 15 = .ok (.dup, 1) := by decide +kernel
theorem dX8_undo_16 : decode cX8_undo 16 = .ok (.getfield 173, 3) := by decide +kernel
theorem dX8_undo_19 : decode cX8_undo 19 = .ok (.iconst 1, 1) := by decide +kernel
theorem dX8_undo_20 : decode cX8_undo 20 = .ok (.isub, 1) := by decide +kernel
theorem dX8_undo_21 : decode cX8_undo 21 = .ok (.putfield 173, 3) := by decide +kernel
theorem dX8_undo_24 : decode cX8_undo 24 = .ok (.iconst 0, 1) := by decide +kernel
theorem dX8_undo_25 : decode cX8_undo 25 = .ok (.istore_n 1, 1) := by decide +kernel
theorem dX8_undo_26 : decode cX8_undo 26 = .ok (.iload_n 1, 1) := by decide +kernel
theorem dX8_undo_27 : decode cX8_undo 27 = .ok (.sipush 157, 3) := by decide +kernel
theorem dX8_undo_30 : decode cX8_undo 30 = .ok (.if_icmp .ge 30, 3) := by decide +kernel
theorem dX8_undo_33 : decode cX8_undo 33 = .ok (.aload_n 0, 1) := by decide +kernel
theorem dX8_undo_34 : decode cX8_undo 34 = .ok (.getfield 70, 3) := by decide +kernel
theorem dX8_undo_37 : decode cX8_undo 37 = .ok (.iload_n 1, 1) := by decide +kernel
theorem dX8_undo_38 : decode cX8_undo 38 = .ok (.aload_n 0, 1) := by decide +kernel
theorem dX8_undo_39 : decode cX8_undo 39 = .ok (.getfield 76, 3) := by decide +kernel
theorem dX8_undo_42 : decode cX8_undo 42 = .ok (.sipush 157, 3) := by decide +kernel
theorem dX8_undo_45 : decode cX8_undo 45 = .ok (.aload_n 0, 1) := by decide +kernel
theorem dX8_undo_46 : decode cX8_undo 46 = .ok (.getfield 173, 3) := by decide +kernel
theorem dX8_undo_49 : decode cX8_undo 49 = .ok (.imul, 1) := by decide +kernel
theorem dX8_undo_50 : decode cX8_undo 50 = .ok (.iload_n 1, 1) := by decide +kernel
theorem dX8_undo_51 : decode cX8_undo 51 = .ok (.iadd, 1) := by decide +kernel
theorem dX8_undo_52 : decode cX8_undo 52 = .ok (.iaload, 1) := by decide +kernel
theorem dX8_undo_53 : decode cX8_undo 53 = .ok (.iastore, 1) := by decide +kernel
theorem dX8_undo_54 : decode cX8_undo 54 = .ok (.iinc 1 1, 3) := by decide +kernel
theorem dX8_undo_57 : decode cX8_undo 57 = .ok (.goto (-31), 3) := by decide +kernel
theorem dX8_undo_60 : decode cX8_undo 60 = .ok (.aload_n 0, 1) := by decide +kernel
theorem dX8_undo_61 : decode cX8_undo 61 = .ok (.getfield 173, 3) := by decide +kernel
theorem dX8_undo_64 : decode cX8_undo 64 = .ok (.ireturn, 1) := by decide +kernel
theorem dJ13_bitCount_95d88_0 : decode cJ13_bitCount_95d88 0 = .ok (.lload_n 0, 1) := by decide +kernel
theorem dJ13_bitCount_95d88_1 : decode cJ13_bitCount_95d88 1 = .ok (.lload_n 0, 1) := by decide +kernel
theorem dJ13_bitCount_95d88_2 : decode cJ13_bitCount_95d88 2 = .ok (.iconst 1, 1) := by decide +kernel
theorem dJ13_bitCount_95d88_3 : decode cJ13_bitCount_95d88 3 = .ok (.lushr, 1) := by decide +kernel
theorem dJ13_bitCount_95d88_4 : decode cJ13_bitCount_95d88 4 = .ok (.ldc2_w 314, 3) := by decide +kernel
theorem dJ13_bitCount_95d88_7 : decode cJ13_bitCount_95d88 7 = .ok (.land, 1) := by decide +kernel
theorem dJ13_bitCount_95d88_8 : decode cJ13_bitCount_95d88 8 = .ok (.lsub, 1) := by decide +kernel
theorem dJ13_bitCount_95d88_9 : decode cJ13_bitCount_95d88 9 = .ok (.lstore_n 0, 1) := by decide +kernel
theorem dJ13_bitCount_95d88_10 : decode cJ13_bitCount_95d88 10 = .ok (.lload_n 0, 1) := by decide +kernel
theorem dJ13_bitCount_95d88_11 : decode cJ13_bitCount_95d88 11 = .ok (.ldc2_w 316, 3) := by decide +kernel
theorem dJ13_bitCount_95d88_14 : decode cJ13_bitCount_95d88 14 = .ok (.land, 1) := by decide +kernel
theorem dJ13_bitCount_95d88_15 : decode cJ13_bitCount_95d88 15 = .ok (.lload_n 0, 1) := by decide +kernel
theorem dJ13_bitCount_95d88_16 : decode cJ13_bitCount_95d88 16 = .ok (.iconst 2, 1) := by decide +kernel
theorem dJ13_bitCount_95d88_17 : decode cJ13_bitCount_95d88 17 = .ok (.lushr, 1) := by decide +kernel
theorem dJ13_bitCount_95d88_18 : decode cJ13_bitCount_95d88 18 = .ok (.ldc2_w 316, 3) := by decide +kernel
theorem dJ13_bitCount_95d88_21 : decode cJ13_bitCount_95d88 21 = .ok (.land, 1) := by decide +kernel
theorem dJ13_bitCount_95d88_22 : decode cJ13_bitCount_95d88 22 = .ok (.ladd, 1) := by decide +kernel
theorem dJ13_bitCount_95d88_23 : decode cJ13_bitCount_95d88 23 = .ok (.lstore_n 0, 1) := by decide +kernel
theorem dJ13_bitCount_95d88_24 : decode cJ13_bitCount_95d88 24 = .ok (.lload_n 0, 1) := by decide +kernel
theorem dJ13_bitCount_95d88_25 : decode cJ13_bitCount_95d88 25 = .ok (.lload_n 0, 1) := by decide +kernel
theorem dJ13_bitCount_95d88_26 : decode cJ13_bitCount_95d88 26 = .ok (.iconst 4, 1) := by decide +kernel
theorem dJ13_bitCount_95d88_27 : decode cJ13_bitCount_95d88 27 = .ok (.lushr, 1) := by decide +kernel
theorem dJ13_bitCount_95d88_28 : decode cJ13_bitCount_95d88 28 = .ok (.ladd, 1) := by decide +kernel
theorem dJ13_bitCount_95d88_29 : decode cJ13_bitCount_95d88 29 = .ok (.ldc2_w 318, 3) := by decide +kernel
theorem dJ13_bitCount_95d88_32 : decode cJ13_bitCount_95d88 32 = .ok (.land, 1) := by decide +kernel
theorem dJ13_bitCount_95d88_33 : decode cJ13_bitCount_95d88 33 = .ok (.lstore_n 0, 1) := by decide +kernel
theorem dJ13_bitCount_95d88_34 : decode cJ13_bitCount_95d88 34 = .ok (.lload_n 0, 1) := by decide +kernel
theorem dJ13_bitCount_95d88_35 : decode cJ13_bitCount_95d88 35 = .ok (.lload_n 0, 1) := by decide +kernel
theorem dJ13_bitCount_95d88_36 : decode cJ13_bitCount_95d88 36 = .ok (.bipush 8, 2) := by decide +kernel
theorem dJ13_bitCount_95d88_38 : decode cJ13_bitCount_95d88 38 = .ok (.lushr, 1) := by decide +kernel
theorem dJ13_bitCount_95d88_39 : decode cJ13_bitCount_95d88 39 = .ok (.ladd, 1) := by decide +kernel
theorem dJ13_bitCount_95d88_40 : decode cJ13_bitCount_95d88 40 = .ok (.lstore_n 0, 1) := by decide +kernel
theorem dJ13_bitCount_95d88_41 : decode cJ13_bitCount_95d88 41 = .ok (.lload_n 0, 1) := by decide +kernel
theorem dJ13_bitCount_95d88_42 : decode cJ13_bitCount_95d88 42 = .ok (.lload_n 0, 1) := by decide +kernel
theorem dJ13_bitCount_95d88_43 : decode cJ13_bitCount_95d88 43 = .ok (.bipush 16, 2) := by decide +kernel
theorem dJ13_bitCount_95d88_45 : decode cJ13_bitCount_95d88 45 = .ok (.lushr, 1) := by decide +kernel
theorem dJ13_bitCount_95d88_46 : decode cJ13_bitCount_95d88 46 = .ok (.ladd, 1) := by decide +kernel
theorem dJ13_bitCount_95d88_47 : decode cJ13_bitCount_95d88 47 = .ok (.lstore_n 0, 1) := by decide +kernel
theorem dJ13_bitCount_95d88_48 : decode cJ13_bitCount_95d88 48 = .ok (.lload_n 0, 1) := by decide +kernel
theorem dJ13_bitCount_95d88_49 : decode cJ13_bitCount_95d88 49 = .ok (.lload_n 0, 1) := by decide +kernel
theorem dJ13_bitCount_95d88_50 : decode cJ13_bitCount_95d88 50 = .ok (.bipush 32, 2) := by decide +kernel
theorem dJ13_bitCount_95d88_52 : decode cJ13_bitCount_95d88 52 = .ok (.lushr, 1) := by decide +kernel
theorem dJ13_bitCount_95d88_53 : decode cJ13_bitCount_95d88 53 = .ok (.ladd, 1) := by decide +kernel
theorem dJ13_bitCount_95d88_54 : decode cJ13_bitCount_95d88 54 = .ok (.lstore_n 0, 1) := by decide +kernel
theorem dJ13_bitCount_95d88_55 : decode cJ13_bitCount_95d88 55 = .ok (.lload_n 0, 1) := by decide +kernel
theorem dJ13_bitCount_95d88_56 : decode cJ13_bitCount_95d88 56 = .ok (.l2i, 1) := by decide +kernel
theorem dJ13_bitCount_95d88_57 : decode cJ13_bitCount_95d88 57 = .ok (.bipush 127, 2) := by decide +kernel
theorem dJ13_bitCount_95d88_59 : decode cJ13_bitCount_95d88 59 = .ok (.iand, 1) := by decide +kernel
theorem dJ13_bitCount_95d88_60 : decode cJ13_bitCount_95d88 60 = .ok (.ireturn, 1) := by decide +kernel
theorem dJ9_min_7cf53_0 : decode cJ9_min_7cf53 0 = .ok (.iload_n 0, 1) := by decide +kernel
theorem dJ9_min_7cf53_1 : decode cJ9_min_7cf53 1 = .ok (.iload_n 1, 1) := by decide +kernel
theorem dJ9_min_7cf53_2 : decode cJ9_min_7cf53 2 = .ok (.if_icmp .gt 7, 3) := by decide +kernel
theorem dJ9_min_7cf53_5 : decode cJ9_min_7cf53 5 = .ok (.iload_n 0, 1) := by decide +kernel
theorem dJ9_min_7cf53_6 : decode cJ9_min_7cf53 6 = .ok (.goto 4, 3) := by decide +kernel
theorem dJ9_min_7cf53_9 : decode cJ9_min_7cf53 9 = .ok (.iload_n 1, 1) := by decide +kernel
theorem dJ9_min_7cf53_10 : decode cJ9_min_7cf53 10 = .ok (.ireturn, 1) := by decide +kernel
theorem dJ0_length_8abf5_0 : decode cJ0_length_8abf5 0 = .ok (.aload_n 0, 1) := by decide +kernel
theorem dJ0_length_8abf5_1 : decode cJ0_length_8abf5 1 = .ok (.getfield 9, 3) := by decide +kernel
theorem dJ0_length_8abf5_4 : decode cJ0_length_8abf5 4 = .ok (.arraylength, 1) := by decide +kernel
theorem dJ0_length_8abf5_5 : decode cJ0_length_8abf5 5 = .ok (.aload_n 0, 1) := by decide +kernel
theorem dJ0_length_8abf5_6 : decode cJ0_length_8abf5 6 = .ok (.invokevirtual 335, 3) := by decide +kernel
theorem dJ0_length_8abf5_9 : decode cJ0_length_8abf5 9 = .ok (.ishr, 1) := by decide +kernel
theorem dJ0_length_8abf5_10 : decode cJ0_length_8abf5 10 = .ok (.ireturn, 1) := by decide +kernel
theorem dJ0_charAt_5068e_0 : decode cJ0_charAt_5068e 0 = .ok (.aload_n 0, 1) := by decide +kernel
theorem dJ0_charAt_5068e_1 : decode cJ0_charAt_5068e 1 = .ok (.invokevirtual 492, 3) := by decide +kernel
theorem dJ0_charAt_5068e_4 : decode cJ0_charAt_5068e 4 = .ok (.ifCond .eq 12, 3) := by decide +kernel
theorem dJ0_charAt_5068e_7 : decode cJ0_charAt_5068e 7 = .ok (.aload_n 0, 1) := by decide +kernel
theorem dJ0_charAt_5068e_8 : decode cJ0_charAt_5068e 8 = .ok (.getfield 9, 3) := by decide +kernel
theorem dJ0_charAt_5068e_11 : decode cJ0_charAt_5068e 11 = .ok (.iload_n 1, 1) := by decide +kernel
theorem dJ0_charAt_5068e_12 : decode cJ0_charAt_5068e 12 = .ok (.invokestatic 495, 3) := by decide +kernel
theorem dJ0_charAt_5068e_15 : decode cJ0_charAt_5068e 15 = .ok (.ireturn, 1) := by decide +kernel
theorem dJ0_charAt_5068e_16 : decode cJ0_charAt_5068e 16 = .ok (.aload_n 0, 1) := by decide +kernel
theorem dJ0_charAt_5068e_17 : decode cJ0_charAt_5068e 17 = .ok (.getfield 9, 3) := by decide +kernel
theorem dJ0_charAt_5068e_20 : decode cJ0_charAt_5068e 20 = .ok (.iload_n 1, 1) := by decide +kernel
theorem dJ0_charAt_5068e_21 : decode cJ0_charAt_5068e 21 = .ok (.invokestatic 498, 3) := by decide +kernel
theorem dJ0_charAt_5068e_24 : decode cJ0_charAt_5068e 24 = .ok (.ireturn, 1) := by decide +kernel
theorem dJ0_coder_7d493_0 : decode cJ0_coder_7d493 0 = .ok (.getstatic 38, 3) := by decide +kernel
theorem dJ0_coder_7d493_3 : decode cJ0_coder_7d493 3 = .ok (.ifCond .eq 10, 3) := by decide +kernel
theorem dJ0_coder_7d493_6 : decode cJ0_coder_7d493 6 = .ok (.aload_n 0, 1) := by decide +kernel
theorem dJ0_coder_7d493_7 : decode cJ0_coder_7d493 7 = .ok (.getfield 15, 3) := by decide +kernel
theorem dJ0_coder_7d493_10 : decode cJ0_coder_7d493 10 = .ok (.goto 4, 3) := by decide +kernel
theorem dJ0_coder_7d493_13 : decode cJ0_coder_7d493 13 = .ok (.iconst 1, 1) := by decide +kernel
theorem dJ0_coder_7d493_14 : decode cJ0_coder_7d493 14 = .ok (.ireturn, 1) := by decide +kernel
theorem dJ0_isLatin1_aae02_0 : decode cJ0_isLatin1_aae02 0 = .ok (.getstatic 38, 3) := by decide +kernel
theorem dJ0_isLatin1_aae02_3 : decode cJ0_isLatin1_aae02 3 = .ok (.ifCond .eq 14, 3) := by decide +kernel
theorem dJ0_isLatin1_aae02_6 : decode cJ0_isLatin1_aae02 6 = .ok (.aload_n 0, 1) := by decide +kernel
theorem dJ0_isLatin1_aae02_7 : decode cJ0_isLatin1_aae02 7 = .ok (.getfield 15, 3) := by decide +kernel
theorem dJ0_isLatin1_aae02_10 : decode cJ0_isLatin1_aae02 10 = .ok (.ifCond .ne 7, 3) := by decide +kernel
theorem dJ0_isLatin1_aae02_13 : decode cJ0_isLatin1_aae02 13 = .ok (.iconst 1, 1) := by decide +kernel
theorem dJ0_isLatin1_aae02_14 : decode cJ0_isLatin1_aae02 14 = .ok (.goto 4, 3) := by decide +kernel
theorem dJ0_isLatin1_aae02_17 : decode cJ0_isLatin1_aae02 17 = .ok (.iconst 0, 1) := by decide +kernel
theorem dJ0_isLatin1_aae02_18 : decode cJ0_isLatin1_aae02 18 = .ok (.ireturn, 1) := by decide +kernel
theorem dJ0_checkIndex_df160_0 : decode cJ0_checkIndex_df160 0 = .ok (.iload_n 0, 1) := by decide +kernel
theorem dJ0_checkIndex_df160_1 : decode cJ0_checkIndex_df160 1 = .ok (.iload_n 1, 1) := by decide +kernel
theorem dJ0_checkIndex_df160_2 : decode cJ0_checkIndex_df160 2 = .ok (.getstatic 1053, 3) := by decide +kernel
theorem dJ0_checkIndex_df160_5 : decode cJ0_checkIndex_df160 5 = .ok (.invokestatic 1059, 3) := by decide +kernel
theorem dJ0_checkIndex_df160_8 : decode cJ0_checkIndex_df160 8 = .ok (.pop, 1) := by decide +kernel
theorem dJ0_checkIndex_df160_9 : decode cJ0_checkIndex_df160 9 = .ok (.return_, 1) := by decide +kernel
theorem dJ1_charAt_3b067_0 : decode cJ1_charAt_3b067 0 = .ok (.iload_n 1, 1) := by decide +kernel
theorem dJ1_charAt_3b067_1 : decode cJ1_charAt_3b067 1 = .ok (.aload_n 0, 1) := by decide +kernel
theorem dJ1_charAt_3b067_2 : decode cJ1_charAt_3b067 2 = .ok (.arraylength, 1) := by decide +kernel
theorem dJ1_charAt_3b067_3 : decode cJ1_charAt_3b067 3 = .ok (.invokestatic 9, 3) := by decide +kernel
theorem dJ1_charAt_3b067_6 : decode cJ1_charAt_3b067 6 = .ok (.aload_n 0, 1) := by decide +kernel
theorem dJ1_charAt_3b067_7 : decode cJ1_charAt_3b067 7 = .ok (.iload_n 1, 1) := by decide +kernel
theorem dJ1_charAt_3b067_8 : decode cJ1_charAt_3b067 8 = .ok (.baload, 1) := by decide +kernel
theorem dJ1_charAt_3b067_9 : decode cJ1_charAt_3b067 9 = .ok (.sipush 255, 3) := by decide +kernel
theorem dJ1_charAt_3b067_12 : decode cJ1_charAt_3b067 12 = .ok (.iand, 1) := by decide +kernel
theorem dJ1_charAt_3b067_13 : decode cJ1_charAt_3b067 13 = .ok (.i2c, 1) := by decide +kernel
theorem dJ1_charAt_3b067_14 : decode cJ1_charAt_3b067 14 = .ok (.ireturn, 1) := by decide +kernel
theorem dJ2_getChar_3b067_0 : decode cJ2_getChar_3b067 0 = .ok (.getstatic 44, 3) := by decide +kernel
theorem dJ2_getChar_3b067_3 : decode cJ2_getChar_3b067 3 = .ok (.ifCond .ne 25, 3) := by decide +kernel
theorem dJ2_getChar_3b067_6 : decode cJ2_getChar_3b067 6 = .ok (.iload_n 1, 1) := by decide +kernel
theorem dJ2_getChar_3b067_7 : decode cJ2_getChar_3b067 7 = .ok (.ifCond .lt 11, 3) := by decide +kernel
theorem dJ2_getChar_3b067_10 : decode cJ2_getChar_3b067 10 = .ok (.iload_n 1, 1) := by decide +kernel
theorem dJ2_getChar_3b067_11 : decode cJ2_getChar_3b067 11 = .ok (.aload_n 0, 1) := by decide +kernel
theorem dJ2_getChar_3b067_12 : decode cJ2_getChar_3b067 12 = .ok (.invokestatic 48, 3) := by decide +kernel
theorem dJ2_getChar_3b067_15 : decode cJ2_getChar_3b067 15 = .ok (.if_icmp .lt 13, 3) := by decide +kernel
theorem dJ2_getChar_3b067_18 : decode cJ2_getChar_3b067 18 = .ok (.new 52, 3) := by decide +kernel
theorem dJ2_getChar_3b067_21 : decode cJ2_getChar_3b067 21 = .ok (.dup, 1) := by decide +kernel
theorem dJ2_getChar_3b067_22 : decode cJ2_getChar_3b067 22 = .ok (.ldc 54, 2) := by decide +kernel
theorem dJ2_getChar_3b067_24 : decode cJ2_getChar_3b067 24 = .ok (.invokespecial 56, 3) := by decide +kernel
theorem dJ2_getChar_3b067_27 : decode cJ2_getChar_3b067 27 = .ok (.athrow, 1) := by decide +kernel
theorem dJ2_getChar_3b067_28 : decode cJ2_getChar_3b067 28 = .ok (.iload_n 1, 1) := by decide +kernel
theorem dJ2_getChar_3b067_29 : decode cJ2_getChar_3b067 29 = .ok (.iconst 1, 1) := by decide +kernel
theorem dJ2_getChar_3b067_30 : decode cJ2_getChar_3b067 30 = .ok (.ishl, 1) := by decide +kernel
theorem dJ2_getChar_3b067_31 : decode cJ2_getChar_3b067 31 = .ok (.istore_n 1, 1) := by decide +kernel
theorem dJ2_getChar_3b067_32 : decode cJ2_getChar_3b067 32 = .ok (.aload_n 0, 1) := by decide +kernel
theorem dJ2_getChar_3b067_33 : decode cJ2_getChar_3b067 33 = .ok (.iload_n 1, 1) := by decide +kernel
theorem dJ2_getChar_3b067_34 : decode cJ2_getChar_3b067 34 = .ok (.iinc 1 1, 3) := by decide +kernel
theorem dJ2_getChar_3b067_37 : decode cJ2_getChar_3b067 37 = .ok (.baload, 1) := by decide +kernel
theorem dJ2_getChar_3b067_38 : decode cJ2_getChar_3b067 38 = .ok (.sipush 255, 3) := by decide +kernel
theorem dJ2_getChar_3b067_41 : decode cJ2_getChar_3b067 41 = .ok (.iand, 1) := by decide +kernel
theorem dJ2_getChar_3b067_42 : decode cJ2_getChar_3b067 42 = .ok (.getstatic 59, 3) := by decide +kernel
theorem dJ2_getChar_3b067_45 : decode cJ2_getChar_3b067 45 = .ok (.ishl, 1) := by decide +kernel
theorem dJ2_getChar_3b067_46 : decode cJ2_getChar_3b067 46 = .ok (.aload_n 0, 1) := by decide +kernel
theorem dJ2_getChar_3b067_47 : decode cJ2_getChar_3b067 47 = .ok (.iload_n 1, 1) := by decide +kernel
theorem dJ2_getChar_3b067_48 : decode cJ2_getChar_3b067 48 = .ok (.baload, 1) := by decide +kernel
theorem dJ2_getChar_3b067_49 : decode cJ2_getChar_3b067 49 = .ok (.sipush 255, 3) := by decide +kernel
theorem dJ2_getChar_3b067_52 : decode cJ2_getChar_3b067 52 = .ok (.iand, 1) := by decide +kernel
theorem dJ2_getChar_3b067_53 : decode cJ2_getChar_3b067 53 = .ok (.getstatic 63, 3) := by decide +kernel
theorem dJ2_getChar_3b067_56 : decode cJ2_getChar_3b067 56 = .ok (.ishl, 1) := by decide +kernel
theorem dJ2_getChar_3b067_57 : decode cJ2_getChar_3b067 57 = .ok (.ior, 1) := by decide +kernel
theorem dJ2_getChar_3b067_58 : decode cJ2_getChar_3b067 58 = .ok (.i2c, 1) := by decide +kernel
theorem dJ2_getChar_3b067_59 : decode cJ2_getChar_3b067 59 = .ok (.ireturn, 1) := by decide +kernel
theorem dJ2_length_9d52b_0 : decode cJ2_length_9d52b 0 = .ok (.aload_n 0, 1) := by decide +kernel
theorem dJ2_length_9d52b_1 : decode cJ2_length_9d52b 1 = .ok (.arraylength, 1) := by decide +kernel
theorem dJ2_length_9d52b_2 : decode cJ2_length_9d52b 2 = .ok (.iconst 1, 1) := by decide +kernel
theorem dJ2_length_9d52b_3 : decode cJ2_length_9d52b 3 = .ok (.ishr, 1) := by decide +kernel
theorem dJ2_length_9d52b_4 : decode cJ2_length_9d52b 4 = .ok (.ireturn, 1) := by decide +kernel
theorem dJ2_charAt_3b067_0 : decode cJ2_charAt_3b067 0 = .ok (.iload_n 1, 1) := by decide +kernel
theorem dJ2_charAt_3b067_1 : decode cJ2_charAt_3b067 1 = .ok (.aload_n 0, 1) := by decide +kernel
theorem dJ2_charAt_3b067_2 : decode cJ2_charAt_3b067 2 = .ok (.invokestatic 67, 3) := by decide +kernel
theorem dJ2_charAt_3b067_5 : decode cJ2_charAt_3b067 5 = .ok (.aload_n 0, 1) := by decide +kernel
theorem dJ2_charAt_3b067_6 : decode cJ2_charAt_3b067 6 = .ok (.iload_n 1, 1) := by decide +kernel
theorem dJ2_charAt_3b067_7 : decode cJ2_charAt_3b067 7 = .ok (.invokestatic 71, 3) := by decide +kernel
theorem dJ2_charAt_3b067_10 : decode cJ2_charAt_3b067 10 = .ok (.ireturn, 1) := by decide +kernel
theorem dJ2_checkIndex_2214a_0 : decode cJ2_checkIndex_2214a 0 = .ok (.iload_n 0, 1) := by decide +kernel
theorem dJ2_checkIndex_2214a_1 : decode cJ2_checkIndex_2214a 1 = .ok (.aload_n 1, 1) := by decide +kernel
theorem dJ2_checkIndex_2214a_2 : decode cJ2_checkIndex_2214a 2 = .ok (.invokestatic 48, 3) := by decide +kernel
theorem dJ2_checkIndex_2214a_5 : decode cJ2_checkIndex_2214a 5 = .ok (.invokestatic 414, 3) := by decide +kernel
theorem dJ2_checkIndex_2214a_8 : decode cJ2_checkIndex_2214a 8 = .ok (.return_, 1) := by decide +kernel
theorem dJ7_fill_53178_0 : decode cJ7_fill_53178 0 = .ok (.iconst 0, 1) := by decide +kernel
theorem dJ7_fill_53178_1 : decode cJ7_fill_53178 1 = .ok (.istore_n 2, 1) := by decide +kernel
theorem dJ7_fill_53178_2 : decode cJ7_fill_53178 2 = .ok (.aload_n 0, 1) := by decide +kernel
theorem dJ7_fill_53178_3 : decode cJ7_fill_53178 3 = .ok (.arraylength, 1) := by decide +kernel
theorem dJ7_fill_53178_4 : decode cJ7_fill_53178 4 = .ok (.istore_n 3, 1) := by decide +kernel
theorem dJ7_fill_53178_5 : decode cJ7_fill_53178 5 = .ok (.iload_n 2, 1) := by decide +kernel
theorem dJ7_fill_53178_6 : decode cJ7_fill_53178 6 = .ok (.iload_n 3, 1) := by decide +kernel
theorem dJ7_fill_53178_7 : decode cJ7_fill_53178 7 = .ok (.if_icmp .ge 13, 3) := by decide +kernel
theorem dJ7_fill_53178_10 : decode cJ7_fill_53178 10 = .ok (.aload_n 0, 1) := by decide +kernel
theorem dJ7_fill_53178_11 : decode cJ7_fill_53178 11 = .ok (.iload_n 2, 1) := by decide +kernel
theorem dJ7_fill_53178_12 : decode cJ7_fill_53178 12 = .ok (.iload_n 1, 1) := by decide +kernel
theorem dJ7_fill_53178_13 : decode cJ7_fill_53178 13 = .ok (.iastore, 1) := by decide +kernel
theorem dJ7_fill_53178_14 : decode cJ7_fill_53178 14 = .ok (.iinc 2 1, 3) := by decide +kernel
theorem dJ7_fill_53178_17 : decode cJ7_fill_53178 17 = .ok (.goto (-12), 3) := by decide +kernel
theorem dJ7_fill_53178_20 : decode cJ7_fill_53178 20 = .ok (.return_, 1) := by decide +kernel
theorem dJ3_checkIndex_8e157_0 : decode cJ3_checkIndex_8e157 0 = .ok (.iload_n 0, 1) := by decide +kernel
theorem dJ3_checkIndex_8e157_1 : decode cJ3_checkIndex_8e157 1 = .ok (.ifCond .lt 8, 3) := by decide +kernel
theorem dJ3_checkIndex_8e157_4 : decode cJ3_checkIndex_8e157 4 = .ok (.iload_n 0, 1) := by decide +kernel
theorem dJ3_checkIndex_8e157_5 : decode cJ3_checkIndex_8e157 5 = .ok (.iload_n 1, 1) := by decide +kernel
theorem dJ3_checkIndex_8e157_6 : decode cJ3_checkIndex_8e157 6 = .ok (.if_icmp .lt 10, 3) := by decide +kernel
theorem dJ3_checkIndex_8e157_9 : decode cJ3_checkIndex_8e157 9 = .ok (.aload_n 2, 1) := by decide +kernel
theorem dJ3_checkIndex_8e157_10 : decode cJ3_checkIndex_8e157 10 = .ok (.iload_n 0, 1) := by decide +kernel
theorem dJ3_checkIndex_8e157_11 : decode cJ3_checkIndex_8e157 11 = .ok (.iload_n 1, 1) := by decide +kernel
theorem dJ3_checkIndex_8e157_12 : decode cJ3_checkIndex_8e157 12 = .ok (.invokestatic 95, 3) := by decide +kernel
theorem dJ3_checkIndex_8e157_15 : decode cJ3_checkIndex_8e157 15 = .ok (.athrow, 1) := by decide +kernel
theorem dJ3_checkIndex_8e157_16 : decode cJ3_checkIndex_8e157 16 = .ok (.iload_n 0, 1) := by decide +kernel
theorem dJ3_checkIndex_8e157_17 : decode cJ3_checkIndex_8e157 17 = .ok (.ireturn, 1) := by decide +kernel
theorem dL_drop_0 : decode cL_drop 0 = .ok (.aload_n 3, 1) := by decide +kernel
theorem dL_drop_1 : decode cL_drop 1 = .ok (.iconst 0, 1) := by decide +kernel
theorem dL_drop_2 : decode cL_drop 2 = .ok (.aload_n 0, 1) := by decide +kernel
theorem dL_drop_3 : decode cL_drop 3 = .ok (.iload_n 1, 1) := by decide +kernel
theorem dL_drop_4 : decode cL_drop 4 = .ok (.iload_n 2, 1) := by decide +kernel
theorem dL_drop_5 : decode cL_drop 5 = .ok (.invokevirtual 7, 3) := by decide +kernel
theorem dL_drop_8 : decode cL_drop 8 = .ok (.i2l, 1) := by decide +kernel
theorem dL_drop_9 : decode cL_drop 9 = .ok (.lastore, 1) := by decide +kernel
theorem dL_drop_10 : decode cL_drop 10 = .ok (.goto 7, 3) := by decide +kernel
theorem dL_drop_13 : decode cL_drop 13 = .ok (.astore 4, 2) := by decide +kernel
theorem dL_drop_15 : decode cL_drop 15 = .ok (.iconst 1, 1) := by decide +kernel
theorem dL_drop_16 : decode cL_drop 16 = .ok (.ireturn, 1) := by decide +kernel
theorem dL_drop_17 : decode cL_drop 17 = .ok (.iconst 0, 1) := by decide +kernel
theorem dL_drop_18 : decode cL_drop 18 = .ok (.ireturn, 1) := by decide +kernel
theorem dL_law_0 : decode cL_law 0 = .ok (.new 8, 3) := by decide +kernel
theorem dL_law_3 : decode cL_law 3 = .ok (.dup, 1) := by decide +kernel
theorem dL_law_4 : decode cL_law 4 = .ok (.invokespecial 15, 3) := by decide +kernel
theorem dL_law_7 : decode cL_law 7 = .ok (.astore_n 1, 1) := by decide +kernel
theorem dL_law_8 : decode cL_law 8 = .ok (.new 16, 3) := by decide +kernel
theorem dL_law_11 : decode cL_law 11 = .ok (.dup, 1) := by decide +kernel
theorem dL_law_12 : decode cL_law 12 = .ok (.invokespecial 18, 3) := by decide +kernel
theorem dL_law_15 : decode cL_law 15 = .ok (.astore_n 2, 1) := by decide +kernel
theorem dL_law_16 : decode cL_law 16 = .ok (.iconst 1, 1) := by decide +kernel
theorem dL_law_17 : decode cL_law 17 = .ok (.newarray .long, 2) := by decide +kernel
theorem dL_law_19 : decode cL_law 19 = .ok (.astore_n 3, 1) := by decide +kernel
theorem dL_law_20 : decode cL_law 20 = .ok (.iconst 0, 1) := by decide +kernel
theorem dL_law_21 : decode cL_law 21 = .ok (.istore 4, 2) := by decide +kernel
theorem dL_law_23 : decode cL_law 23 = .ok (.iload 4, 2) := by decide +kernel
theorem dL_law_25 : decode cL_law 25 = .ok (.aload_n 0, 1) := by decide +kernel
theorem dL_law_26 : decode cL_law 26 = .ok (.arraylength, 1) := by decide +kernel
theorem dL_law_27 : decode cL_law 27 = .ok (.bipush 6, 2) := by decide +kernel
theorem dL_law_29 : decode cL_law 29 = .ok (.isub, 1) := by decide +kernel
theorem dL_law_30 : decode cL_law 30 = .ok (.if_icmp .gt 745, 3) := by decide +kernel
theorem dL_law_33 : decode cL_law 33 = .ok (.aload_n 0, 1) := by decide +kernel
theorem dL_law_34 : decode cL_law 34 = .ok (.iload 4, 2) := by decide +kernel
theorem dL_law_36 : decode cL_law 36 = .ok (.iaload, 1) := by decide +kernel
theorem dL_law_37 : decode cL_law 37 = .ok (.bipush 31, 2) := by decide +kernel
theorem dL_law_39 : decode cL_law 39 = .ok (.iand, 1) := by decide +kernel
theorem dL_law_40 : decode cL_law 40 = .ok (.tableswitch 729 0 21 #[104, 177, 202, 215, 228, 253, 290, 330, 367, 416, 429, 454, 479, 504, 517, 554, 579, 616, 629, 666, 691, 716], 104) := by decide +kernel
theorem dL_law_144 : decode cL_law 144 = .ok (.aload_n 1, 1) := by decide +kernel
theorem dL_law_145 : decode cL_law 145 = .ok (.aload_n 0, 1) := by decide +kernel
theorem dL_law_146 : decode cL_law 146 = .ok (.iload 4, 2) := by decide +kernel
theorem dL_law_148 : decode cL_law 148 = .ok (.iconst 1, 1) := by decide +kernel
theorem dL_law_149 : decode cL_law 149 = .ok (.iadd, 1) := by decide +kernel
theorem dL_law_150 : decode cL_law 150 = .ok (.iaload, 1) := by decide +kernel
theorem dL_law_151 : decode cL_law 151 = .ok (.aload_n 0, 1) := by decide +kernel
theorem dL_law_152 : decode cL_law 152 = .ok (.iload 4, 2) := by decide +kernel
theorem dL_law_154 : decode cL_law 154 = .ok (.iconst 2, 1) := by decide +kernel
theorem dL_law_155 : decode cL_law 155 = .ok (.iadd, 1) := by decide +kernel
theorem dL_law_156 : decode cL_law 156 = .ok (.iaload, 1) := by decide +kernel
theorem dL_law_157 : decode cL_law 157 = .ok (.aload_n 0, 1) := by decide +kernel
theorem dL_law_158 : decode cL_law 158 = .ok (.iload 4, 2) := by decide +kernel
theorem dL_law_160 : decode cL_law 160 = .ok (.iconst 3, 1) := by decide +kernel
theorem dL_law_161 : decode cL_law 161 = .ok (.iadd, 1) := by decide +kernel
theorem dL_law_162 : decode cL_law 162 = .ok (.iaload, 1) := by decide +kernel
theorem dL_law_163 : decode cL_law 163 = .ok (.aload_n 0, 1) := by decide +kernel
theorem dL_law_164 : decode cL_law 164 = .ok (.iload 4, 2) := by decide +kernel
theorem dL_law_166 : decode cL_law 166 = .ok (.iconst 4, 1) := by decide +kernel
theorem dL_law_167 : decode cL_law 167 = .ok (.iadd, 1) := by decide +kernel
theorem dL_law_168 : decode cL_law 168 = .ok (.iaload, 1) := by decide +kernel
theorem dL_law_169 : decode cL_law 169 = .ok (.aload_n 0, 1) := by decide +kernel
theorem dL_law_170 : decode cL_law 170 = .ok (.iload 4, 2) := by decide +kernel
theorem dL_law_172 : decode cL_law 172 = .ok (.iconst 5, 1) := by decide +kernel
theorem dL_law_173 : decode cL_law 173 = .ok (.iadd, 1) := by decide +kernel
theorem dL_law_174 : decode cL_law 174 = .ok (.iaload, 1) := by decide +kernel
theorem dL_law_175 : decode cL_law 175 = .ok (.invokevirtual 19, 3) := by decide +kernel
theorem dL_law_178 : decode cL_law 178 = .ok (.pop, 1) := by decide +kernel
theorem dL_law_179 : decode cL_law 179 = .ok (.aload_n 2, 1) := by decide +kernel
theorem dL_law_180 : decode cL_law 180 = .ok (.aload_n 0, 1) := by decide +kernel
theorem dL_law_181 : decode cL_law 181 = .ok (.iload 4, 2) := by decide +kernel
theorem dL_law_183 : decode cL_law 183 = .ok (.iconst 1, 1) := by decide +kernel
theorem dL_law_184 : decode cL_law 184 = .ok (.iadd, 1) := by decide +kernel
theorem dL_law_185 : decode cL_law 185 = .ok (.iaload, 1) := by decide +kernel
theorem dL_law_186 : decode cL_law 186 = .ok (.aload_n 0, 1) := by decide +kernel
theorem dL_law_187 : decode cL_law 187 = .ok (.iload 4, 2) := by decide +kernel
theorem dL_law_189 : decode cL_law 189 = .ok (.iconst 2, 1) := by decide +kernel
theorem dL_law_190 : decode cL_law 190 = .ok (.iadd, 1) := by decide +kernel
theorem dL_law_191 : decode cL_law 191 = .ok (.iaload, 1) := by decide +kernel
theorem dL_law_192 : decode cL_law 192 = .ok (.aload_n 0, 1) := by decide +kernel
theorem dL_law_193 : decode cL_law 193 = .ok (.iload 4, 2) := by decide +kernel
theorem dL_law_195 : decode cL_law 195 = .ok (.iconst 3, 1) := by decide +kernel
theorem dL_law_196 : decode cL_law 196 = .ok (.iadd, 1) := by decide +kernel
theorem dL_law_197 : decode cL_law 197 = .ok (.iaload, 1) := by decide +kernel
theorem dL_law_198 : decode cL_law 198 = .ok (.aload_n 0, 1) := by decide +kernel
theorem dL_law_199 : decode cL_law 199 = .ok (.iload 4, 2) := by decide +kernel
theorem dL_law_201 : decode cL_law 201 = .ok (.iconst 4, 1) := by decide +kernel
theorem dL_law_202 : decode cL_law 202 = .ok (.iadd, 1) := by decide +kernel
theorem dL_law_203 : decode cL_law 203 = .ok (.iaload, 1) := by decide +kernel
theorem dL_law_204 : decode cL_law 204 = .ok (.aload_n 0, 1) := by decide +kernel
theorem dL_law_205 : decode cL_law 205 = .ok (.iload 4, 2) := by decide +kernel
theorem dL_law_207 : decode cL_law 207 = .ok (.iconst 5, 1) := by decide +kernel
theorem dL_law_208 : decode cL_law 208 = .ok (.iadd, 1) := by decide +kernel
theorem dL_law_209 : decode cL_law 209 = .ok (.iaload, 1) := by decide +kernel
theorem dL_law_210 : decode cL_law 210 = .ok (.invokevirtual 23, 3) := by decide +kernel
theorem dL_law_213 : decode cL_law 213 = .ok (.pop, 1) := by decide +kernel
theorem dL_law_214 : decode cL_law 214 = .ok (.goto 555, 3) := by decide +kernel
theorem dL_law_217 : decode cL_law 217 = .ok (.aload_n 1, 1) := by decide +kernel
theorem dL_law_218 : decode cL_law 218 = .ok (.aload_n 0, 1) := by decide +kernel
theorem dL_law_219 : decode cL_law 219 = .ok (.iload 4, 2) := by decide +kernel
theorem dL_law_221 : decode cL_law 221 = .ok (.iconst 1, 1) := by decide +kernel
theorem dL_law_222 : decode cL_law 222 = .ok (.iadd, 1) := by decide +kernel
theorem dL_law_223 : decode cL_law 223 = .ok (.iaload, 1) := by decide +kernel
theorem dL_law_224 : decode cL_law 224 = .ok (.invokevirtual 24, 3) := by decide +kernel
theorem dL_law_227 : decode cL_law 227 = .ok (.pop, 1) := by decide +kernel
theorem dL_law_228 : decode cL_law 228 = .ok (.aload_n 2, 1) := by decide +kernel
theorem dL_law_229 : decode cL_law 229 = .ok (.aload_n 0, 1) := by decide +kernel
theorem dL_law_230 : decode cL_law 230 = .ok (.iload 4, 2) := by decide +kernel
theorem dL_law_232 : decode cL_law 232 = .ok (.iconst 1, 1) := by decide +kernel
theorem dL_law_233 : decode cL_law 233 = .ok (.iadd, 1) := by decide +kernel
theorem dL_law_234 : decode cL_law 234 = .ok (.iaload, 1) := by decide +kernel
theorem dL_law_235 : decode cL_law 235 = .ok (.invokevirtual 28, 3) := by decide +kernel
theorem dL_law_238 : decode cL_law 238 = .ok (.pop, 1) := by decide +kernel
theorem dL_law_239 : decode cL_law 239 = .ok (.goto 530, 3) := by decide +kernel
theorem dL_law_242 : decode cL_law 242 = .ok (.aload_n 1, 1) := by decide +kernel
theorem dL_law_243 : decode cL_law 243 = .ok (.invokevirtual 29, 3) := by decide +kernel
theorem dL_law_246 : decode cL_law 246 = .ok (.pop, 1) := by decide +kernel
theorem dL_law_247 : decode cL_law 247 = .ok (.aload_n 2, 1) := by decide +kernel
theorem dL_law_248 : decode cL_law 248 = .ok (.invokevirtual 33, 3) := by decide +kernel
theorem dL_law_251 : decode cL_law 251 = .ok (.pop, 1) := by decide +kernel
theorem dL_law_252 : decode cL_law 252 = .ok (.goto 517, 3) := by decide +kernel
theorem dL_law_255 : decode cL_law 255 = .ok (.aload_n 1, 1) := by decide +kernel
theorem dL_law_256 : decode cL_law 256 = .ok (.invokevirtual 34, 3) := by decide +kernel
theorem dL_law_259 : decode cL_law 259 = .ok (.pop, 1) := by decide +kernel
theorem dL_law_260 : decode cL_law 260 = .ok (.aload_n 2, 1) := by decide +kernel
theorem dL_law_261 : decode cL_law 261 = .ok (.invokevirtual 37, 3) := by decide +kernel
theorem dL_law_264 : decode cL_law 264 = .ok (.pop, 1) := by decide +kernel
theorem dL_law_265 : decode cL_law 265 = .ok (.goto 504, 3) := by decide +kernel
theorem dL_law_268 : decode cL_law 268 = .ok (.aload_n 1, 1) := by decide +kernel
theorem dL_law_269 : decode cL_law 269 = .ok (.aload_n 0, 1) := by decide +kernel
theorem dL_law_270 : decode cL_law 270 = .ok (.iload 4, 2) := by decide +kernel
theorem dL_law_272 : decode cL_law 272 = .ok (.iconst 1, 1) := by decide +kernel
theorem dL_law_273 : decode cL_law 273 = .ok (.iadd, 1) := by decide +kernel
theorem dL_law_274 : decode cL_law 274 = .ok (.iaload, 1) := by decide +kernel
theorem dL_law_275 : decode cL_law 275 = .ok (.invokevirtual 38, 3) := by decide +kernel
theorem dL_law_278 : decode cL_law 278 = .ok (.pop, 1) := by decide +kernel
theorem dL_law_279 : decode cL_law 279 = .ok (.aload_n 2, 1) := by decide +kernel
theorem dL_law_280 : decode cL_law 280 = .ok (.aload_n 0, 1) := by decide +kernel
theorem dL_law_281 : decode cL_law 281 = .ok (.iload 4, 2) := by decide +kernel
theorem dL_law_283 : decode cL_law 283 = .ok (.iconst 1, 1) := by decide +kernel
theorem dL_law_284 : decode cL_law 284 = .ok (.iadd, 1) := by decide +kernel
theorem dL_law_285 : decode cL_law 285 = .ok (.iaload, 1) := by decide +kernel
theorem dL_law_286 : decode cL_law 286 = .ok (.invokevirtual 42, 3) := by decide +kernel
theorem dL_law_289 : decode cL_law 289 = .ok (.pop, 1) := by decide +kernel
theorem dL_law_290 : decode cL_law 290 = .ok (.goto 479, 3) := by decide +kernel
theorem dL_law_293 : decode cL_law 293 = .ok (.aload_n 1, 1) := by decide +kernel
theorem dL_law_294 : decode cL_law 294 = .ok (.aload_n 0, 1) := by decide +kernel
theorem dL_law_295 : decode cL_law 295 = .ok (.iload 4, 2) := by decide +kernel
theorem dL_law_297 : decode cL_law 297 = .ok (.iconst 1, 1) := by decide +kernel
theorem dL_law_298 : decode cL_law 298 = .ok (.iadd, 1) := by decide +kernel
theorem dL_law_299 : decode cL_law 299 = .ok (.iaload, 1) := by decide +kernel
theorem dL_law_300 : decode cL_law 300 = .ok (.aload_n 0, 1) := by decide +kernel
theorem dL_law_301 : decode cL_law 301 = .ok (.iload 4, 2) := by decide +kernel
theorem dL_law_303 : decode cL_law 303 = .ok (.iconst 2, 1) := by decide +kernel
theorem dL_law_304 : decode cL_law 304 = .ok (.iadd, 1) := by decide +kernel
theorem dL_law_305 : decode cL_law 305 = .ok (.iaload, 1) := by decide +kernel
theorem dL_law_306 : decode cL_law 306 = .ok (.invokevirtual 43, 3) := by decide +kernel
theorem dL_law_309 : decode cL_law 309 = .ok (.pop, 1) := by decide +kernel
theorem dL_law_310 : decode cL_law 310 = .ok (.aload_n 2, 1) := by decide +kernel
theorem dL_law_311 : decode cL_law 311 = .ok (.aload_n 0, 1) := by decide +kernel
theorem dL_law_312 : decode cL_law 312 = .ok (.iload 4, 2) := by decide +kernel
theorem dL_law_314 : decode cL_law 314 = .ok (.iconst 1, 1) := by decide +kernel
theorem dL_law_315 : decode cL_law 315 = .ok (.iadd, 1) := by decide +kernel
theorem dL_law_316 : decode cL_law 316 = .ok (.iaload, 1) := by decide +kernel
theorem dL_law_317 : decode cL_law 317 = .ok (.aload_n 0, 1) := by decide +kernel
theorem dL_law_318 : decode cL_law 318 = .ok (.iload 4, 2) := by decide +kernel
theorem dL_law_320 : decode cL_law 320 = .ok (.iconst 2, 1) := by decide +kernel
theorem dL_law_321 : decode cL_law 321 = .ok (.iadd, 1) := by decide +kernel
theorem dL_law_322 : decode cL_law 322 = .ok (.iaload, 1) := by decide +kernel
theorem dL_law_323 : decode cL_law 323 = .ok (.invokevirtual 46, 3) := by decide +kernel
theorem dL_law_326 : decode cL_law 326 = .ok (.pop, 1) := by decide +kernel
theorem dL_law_327 : decode cL_law 327 = .ok (.goto 442, 3) := by decide +kernel
theorem dL_law_330 : decode cL_law 330 = .ok (.aload_n 1, 1) := by decide +kernel
theorem dL_law_331 : decode cL_law 331 = .ok (.aload_n 0, 1) := by decide +kernel
theorem dL_law_332 : decode cL_law 332 = .ok (.iload 4, 2) := by decide +kernel
theorem dL_law_334 : decode cL_law 334 = .ok (.iconst 1, 1) := by decide +kernel
theorem dL_law_335 : decode cL_law 335 = .ok (.iadd, 1) := by decide +kernel
theorem dL_law_336 : decode cL_law 336 = .ok (.iaload, 1) := by decide +kernel
theorem dL_law_337 : decode cL_law 337 = .ok (.aload_n 0, 1) := by decide +kernel
theorem dL_law_338 : decode cL_law 338 = .ok (.iload 4, 2) := by decide +kernel
theorem dL_law_340 : decode cL_law 340 = .ok (.iconst 2, 1) := by decide +kernel
theorem dL_law_341 : decode cL_law 341 = .ok (.iadd, 1) := by decide +kernel
theorem dL_law_342 : decode cL_law 342 = .ok (.iaload, 1) := by decide +kernel
theorem dL_law_343 : decode cL_law 343 = .ok (.aload_n 3, 1) := by decide +kernel
theorem dL_law_344 : decode cL_law 344 = .ok (.invokestatic 47, 3) := by decide +kernel
theorem dL_law_347 : decode cL_law 347 = .ok (.istore 5, 2) := by decide +kernel
theorem dL_law_349 : decode cL_law 349 = .ok (.aload_n 2, 1) := by decide +kernel
theorem dL_law_350 : decode cL_law 350 = .ok (.aload_n 0, 1) := by decide +kernel
theorem dL_law_351 : decode cL_law 351 = .ok (.iload 4, 2) := by decide +kernel
theorem dL_law_353 : decode cL_law 353 = .ok (.iconst 1, 1) := by decide +kernel
theorem dL_law_354 : decode cL_law 354 = .ok (.iadd, 1) := by decide +kernel
theorem dL_law_355 : decode cL_law 355 = .ok (.iaload, 1) := by decide +kernel
theorem dL_law_356 : decode cL_law 356 = .ok (.aload_n 0, 1) := by decide +kernel
theorem dL_law_357 : decode cL_law 357 = .ok (.iload 4, 2) := by decide +kernel
theorem dL_law_359 : decode cL_law 359 = .ok (.iconst 2, 1) := by decide +kernel
theorem dL_law_360 : decode cL_law 360 = .ok (.iadd, 1) := by decide +kernel
theorem dL_law_361 : decode cL_law 361 = .ok (.iaload, 1) := by decide +kernel
theorem dL_law_362 : decode cL_law 362 = .ok (.invokevirtual 52, 3) := by decide +kernel
theorem dL_law_365 : decode cL_law 365 = .ok (.istore 6, 2) := by decide +kernel
theorem dL_law_367 : decode cL_law 367 = .ok (.goto 402, 3) := by decide +kernel
theorem dL_law_370 : decode cL_law 370 = .ok (.aload_n 1, 1) := by decide +kernel
theorem dL_law_371 : decode cL_law 371 = .ok (.aload_n 0, 1) := by decide +kernel
theorem dL_law_372 : decode cL_law 372 = .ok (.iload 4, 2) := by decide +kernel
theorem dL_law_374 : decode cL_law 374 = .ok (.iconst 1, 1) := by decide +kernel
theorem dL_law_375 : decode cL_law 375 = .ok (.iadd, 1) := by decide +kernel
theorem dL_law_376 : decode cL_law 376 = .ok (.iaload, 1) := by decide +kernel
theorem dL_law_377 : decode cL_law 377 = .ok (.aload_n 0, 1) := by decide +kernel
theorem dL_law_378 : decode cL_law 378 = .ok (.iload 4, 2) := by decide +kernel
theorem dL_law_380 : decode cL_law 380 = .ok (.iconst 2, 1) := by decide +kernel
theorem dL_law_381 : decode cL_law 381 = .ok (.iadd, 1) := by decide +kernel
theorem dL_law_382 : decode cL_law 382 = .ok (.iaload, 1) := by decide +kernel
theorem dL_law_383 : decode cL_law 383 = .ok (.invokevirtual 53, 3) := by decide +kernel
theorem dL_law_386 : decode cL_law 386 = .ok (.pop, 1) := by decide +kernel
theorem dL_law_387 : decode cL_law 387 = .ok (.aload_n 2, 1) := by decide +kernel
theorem dL_law_388 : decode cL_law 388 = .ok (.aload_n 0, 1) := by decide +kernel
theorem dL_law_389 : decode cL_law 389 = .ok (.iload 4, 2) := by decide +kernel
theorem dL_law_391 : decode cL_law 391 = .ok (.iconst 1, 1) := by decide +kernel
theorem dL_law_392 : decode cL_law 392 = .ok (.iadd, 1) := by decide +kernel
theorem dL_law_393 : decode cL_law 393 = .ok (.iaload, 1) := by decide +kernel
theorem dL_law_394 : decode cL_law 394 = .ok (.aload_n 0, 1) := by decide +kernel
theorem dL_law_395 : decode cL_law 395 = .ok (.iload 4, 2) := by decide +kernel
theorem dL_law_397 : decode cL_law 397 = .ok (.iconst 2, 1) := by decide +kernel
theorem dL_law_398 : decode cL_law 398 = .ok (.iadd, 1) := by decide +kernel
theorem dL_law_399 : decode cL_law 399 = .ok (.iaload, 1) := by decide +kernel
theorem dL_law_400 : decode cL_law 400 = .ok (.invokevirtual 57, 3) := by decide +kernel
theorem dL_law_403 : decode cL_law 403 = .ok (.pop, 1) := by decide +kernel
theorem dL_law_404 : decode cL_law 404 = .ok (.goto 365, 3) := by decide +kernel
theorem dL_law_407 : decode cL_law 407 = .ok (.aload_n 1, 1) := by decide +kernel
theorem dL_law_408 : decode cL_law 408 = .ok (.aload_n 0, 1) := by decide +kernel
theorem dL_law_409 : decode cL_law 409 = .ok (.iload 4, 2) := by decide +kernel
theorem dL_law_411 : decode cL_law 411 = .ok (.iconst 1, 1) := by decide +kernel
theorem dL_law_412 : decode cL_law 412 = .ok (.iadd, 1) := by decide +kernel
theorem dL_law_413 : decode cL_law 413 = .ok (.iaload, 1) := by decide +kernel
theorem dL_law_414 : decode cL_law 414 = .ok (.aload_n 0, 1) := by decide +kernel
theorem dL_law_415 : decode cL_law 415 = .ok (.iload 4, 2) := by decide +kernel
theorem dL_law_417 : decode cL_law 417 = .ok (.iconst 2, 1) := by decide +kernel
theorem dL_law_418 : decode cL_law 418 = .ok (.iadd, 1) := by decide +kernel
theorem dL_law_419 : decode cL_law 419 = .ok (.iaload, 1) := by decide +kernel
theorem dL_law_420 : decode cL_law 420 = .ok (.aload_n 0, 1) := by decide +kernel
theorem dL_law_421 : decode cL_law 421 = .ok (.iload 4, 2) := by decide +kernel
theorem dL_law_423 : decode cL_law 423 = .ok (.iconst 3, 1) := by decide +kernel
theorem dL_law_424 : decode cL_law 424 = .ok (.iadd, 1) := by decide +kernel
theorem dL_law_425 : decode cL_law 425 = .ok (.iaload, 1) := by decide +kernel
theorem dL_law_426 : decode cL_law 426 = .ok (.invokevirtual 58, 3) := by decide +kernel
theorem dL_law_429 : decode cL_law 429 = .ok (.pop, 1) := by decide +kernel
theorem dL_law_430 : decode cL_law 430 = .ok (.aload_n 2, 1) := by decide +kernel
theorem dL_law_431 : decode cL_law 431 = .ok (.aload_n 0, 1) := by decide +kernel
theorem dL_law_432 : decode cL_law 432 = .ok (.iload 4, 2) := by decide +kernel
theorem dL_law_434 : decode cL_law 434 = .ok (.iconst 1, 1) := by decide +kernel
theorem dL_law_435 : decode cL_law 435 = .ok (.iadd, 1) := by decide +kernel
theorem dL_law_436 : decode cL_law 436 = .ok (.iaload, 1) := by decide +kernel
theorem dL_law_437 : decode cL_law 437 = .ok (.aload_n 0, 1) := by decide +kernel
theorem dL_law_438 : decode cL_law 438 = .ok (.iload 4, 2) := by decide +kernel
theorem dL_law_440 : decode cL_law 440 = .ok (.iconst 2, 1) := by decide +kernel
theorem dL_law_441 : decode cL_law 441 = .ok (.iadd, 1) := by decide +kernel
theorem dL_law_442 : decode cL_law 442 = .ok (.iaload, 1) := by decide +kernel
theorem dL_law_443 : decode cL_law 443 = .ok (.aload_n 0, 1) := by decide +kernel
theorem dL_law_444 : decode cL_law 444 = .ok (.iload 4, 2) := by decide +kernel
theorem dL_law_446 : decode cL_law 446 = .ok (.iconst 3, 1) := by decide +kernel
theorem dL_law_447 : decode cL_law 447 = .ok (.iadd, 1) := by decide +kernel
theorem dL_law_448 : decode cL_law 448 = .ok (.iaload, 1) := by decide +kernel
theorem dL_law_449 : decode cL_law 449 = .ok (.invokevirtual 62, 3) := by decide +kernel
theorem dL_law_452 : decode cL_law 452 = .ok (.pop, 1) := by decide +kernel
theorem dL_law_453 : decode cL_law 453 = .ok (.goto 316, 3) := by decide +kernel
theorem dL_law_456 : decode cL_law 456 = .ok (.aload_n 1, 1) := by decide +kernel
theorem dL_law_457 : decode cL_law 457 = .ok (.invokevirtual 63, 3) := by decide +kernel
theorem dL_law_460 : decode cL_law 460 = .ok (.pop, 1) := by decide +kernel
theorem dL_law_461 : decode cL_law 461 = .ok (.aload_n 2, 1) := by decide +kernel
theorem dL_law_462 : decode cL_law 462 = .ok (.invokevirtual 66, 3) := by decide +kernel
theorem dL_law_465 : decode cL_law 465 = .ok (.pop, 1) := by decide +kernel
theorem dL_law_466 : decode cL_law 466 = .ok (.goto 303, 3) := by decide +kernel
theorem dL_law_469 : decode cL_law 469 = .ok (.aload_n 1, 1) := by decide +kernel
theorem dL_law_470 : decode cL_law 470 = .ok (.aload_n 0, 1) := by decide +kernel
theorem dL_law_471 : decode cL_law 471 = .ok (.iload 4, 2) := by decide +kernel
theorem dL_law_473 : decode cL_law 473 = .ok (.iconst 1, 1) := by decide +kernel
theorem dL_law_474 : decode cL_law 474 = .ok (.iadd, 1) := by decide +kernel
theorem dL_law_475 : decode cL_law 475 = .ok (.iaload, 1) := by decide +kernel
theorem dL_law_476 : decode cL_law 476 = .ok (.invokevirtual 67, 3) := by decide +kernel
theorem dL_law_479 : decode cL_law 479 = .ok (.pop, 1) := by decide +kernel
theorem dL_law_480 : decode cL_law 480 = .ok (.aload_n 2, 1) := by decide +kernel
theorem dL_law_481 : decode cL_law 481 = .ok (.aload_n 0, 1) := by decide +kernel
theorem dL_law_482 : decode cL_law 482 = .ok (.iload 4, 2) := by decide +kernel
theorem dL_law_484 : decode cL_law 484 = .ok (.iconst 1, 1) := by decide +kernel
theorem dL_law_485 : decode cL_law 485 = .ok (.iadd, 1) := by decide +kernel
theorem dL_law_486 : decode cL_law 486 = .ok (.iaload, 1) := by decide +kernel
theorem dL_law_487 : decode cL_law 487 = .ok (.invokevirtual 70, 3) := by decide +kernel
theorem dL_law_490 : decode cL_law 490 = .ok (.pop, 1) := by decide +kernel
theorem dL_law_491 : decode cL_law 491 = .ok (.goto 278, 3) := by decide +kernel
theorem dL_law_494 : decode cL_law 494 = .ok (.aload_n 1, 1) := by decide +kernel
theorem dL_law_495 : decode cL_law 495 = .ok (.aload_n 0, 1) := by decide +kernel
theorem dL_law_496 : decode cL_law 496 = .ok (.iload 4, 2) := by decide +kernel
theorem dL_law_498 : decode cL_law 498 = .ok (.iconst 1, 1) := by decide +kernel
theorem dL_law_499 : decode cL_law 499 = .ok (.iadd, 1) := by decide +kernel
theorem dL_law_500 : decode cL_law 500 = .ok (.iaload, 1) := by decide +kernel
theorem dL_law_501 : decode cL_law 501 = .ok (.invokevirtual 71, 3) := by decide +kernel
theorem dL_law_504 : decode cL_law 504 = .ok (.pop, 1) := by decide +kernel
theorem dL_law_505 : decode cL_law 505 = .ok (.aload_n 2, 1) := by decide +kernel
theorem dL_law_506 : decode cL_law 506 = .ok (.aload_n 0, 1) := by decide +kernel
theorem dL_law_507 : decode cL_law 507 = .ok (.iload 4, 2) := by decide +kernel
theorem dL_law_509 : decode cL_law 509 = .ok (.iconst 1, 1) := by decide +kernel
theorem dL_law_510 : decode cL_law 510 = .ok (.iadd, 1) := by decide +kernel
theorem dL_law_511 : decode cL_law 511 = .ok (.iaload, 1) := by decide +kernel
theorem dL_law_512 : decode cL_law 512 = .ok (.invokevirtual 74, 3) := by decide +kernel
theorem dL_law_515 : decode cL_law 515 = .ok (.pop, 1) := by decide +kernel
theorem dL_law_516 : decode cL_law 516 = .ok (.goto 253, 3) := by decide +kernel
theorem dL_law_519 : decode cL_law 519 = .ok (.aload_n 1, 1) := by decide +kernel
theorem dL_law_520 : decode cL_law 520 = .ok (.aload_n 0, 1) := by decide +kernel
theorem dL_law_521 : decode cL_law 521 = .ok (.iload 4, 2) := by decide +kernel
theorem dL_law_523 : decode cL_law 523 = .ok (.iconst 1, 1) := by decide +kernel
theorem dL_law_524 : decode cL_law 524 = .ok (.iadd, 1) := by decide +kernel
theorem dL_law_525 : decode cL_law 525 = .ok (.iaload, 1) := by decide +kernel
theorem dL_law_526 : decode cL_law 526 = .ok (.invokevirtual 75, 3) := by decide +kernel
theorem dL_law_529 : decode cL_law 529 = .ok (.pop, 1) := by decide +kernel
theorem dL_law_530 : decode cL_law 530 = .ok (.aload_n 2, 1) := by decide +kernel
theorem dL_law_531 : decode cL_law 531 = .ok (.aload_n 0, 1) := by decide +kernel
theorem dL_law_532 : decode cL_law 532 = .ok (.iload 4, 2) := by decide +kernel
theorem dL_law_534 : decode cL_law 534 = .ok (.iconst 1, 1) := by decide +kernel
theorem dL_law_535 : decode cL_law 535 = .ok (.iadd, 1) := by decide +kernel
theorem dL_law_536 : decode cL_law 536 = .ok (.iaload, 1) := by decide +kernel
theorem dL_law_537 : decode cL_law 537 = .ok (.invokevirtual 78, 3) := by decide +kernel
theorem dL_law_540 : decode cL_law 540 = .ok (.pop, 1) := by decide +kernel
theorem dL_law_541 : decode cL_law 541 = .ok (.goto 228, 3) := by decide +kernel
theorem dL_law_544 : decode cL_law 544 = .ok (.aload_n 1, 1) := by decide +kernel
theorem dL_law_545 : decode cL_law 545 = .ok (.invokevirtual 79, 3) := by decide +kernel
theorem dL_law_548 : decode cL_law 548 = .ok (.pop, 1) := by decide +kernel
theorem dL_law_549 : decode cL_law 549 = .ok (.aload_n 2, 1) := by decide +kernel
theorem dL_law_550 : decode cL_law 550 = .ok (.invokevirtual 82, 3) := by decide +kernel
theorem dL_law_553 : decode cL_law 553 = .ok (.pop, 1) := by decide +kernel
theorem dL_law_554 : decode cL_law 554 = .ok (.goto 215, 3) := by decide +kernel
theorem dL_law_557 : decode cL_law 557 = .ok (.aload_n 1, 1) := by decide +kernel
theorem dL_law_558 : decode cL_law 558 = .ok (.aload_n 0, 1) := by decide +kernel
theorem dL_law_559 : decode cL_law 559 = .ok (.iload 4, 2) := by decide +kernel
theorem dL_law_561 : decode cL_law 561 = .ok (.iconst 1, 1) := by decide +kernel
theorem dL_law_562 : decode cL_law 562 = .ok (.iadd, 1) := by decide +kernel
theorem dL_law_563 : decode cL_law 563 = .ok (.iaload, 1) := by decide +kernel
theorem dL_law_564 : decode cL_law 564 = .ok (.aload_n 0, 1) := by decide +kernel
theorem dL_law_565 : decode cL_law 565 = .ok (.iload 4, 2) := by decide +kernel
theorem dL_law_567 : decode cL_law 567 = .ok (.iconst 2, 1) := by decide +kernel
theorem dL_law_568 : decode cL_law 568 = .ok (.iadd, 1) := by decide +kernel
theorem dL_law_569 : decode cL_law 569 = .ok (.iaload, 1) := by decide +kernel
theorem dL_law_570 : decode cL_law 570 = .ok (.invokevirtual 83, 3) := by decide +kernel
theorem dL_law_573 : decode cL_law 573 = .ok (.pop, 1) := by decide +kernel
theorem dL_law_574 : decode cL_law 574 = .ok (.aload_n 2, 1) := by decide +kernel
theorem dL_law_575 : decode cL_law 575 = .ok (.aload_n 0, 1) := by decide +kernel
theorem dL_law_576 : decode cL_law 576 = .ok (.iload 4, 2) := by decide +kernel
theorem dL_law_578 : decode cL_law 578 = .ok (.iconst 1, 1) := by decide +kernel
theorem dL_law_579 : decode cL_law 579 = .ok (.iadd, 1) := by decide +kernel
theorem dL_law_580 : decode cL_law 580 = .ok (.iaload, 1) := by decide +kernel
theorem dL_law_581 : decode cL_law 581 = .ok (.aload_n 0, 1) := by decide +kernel
theorem dL_law_582 : decode cL_law 582 = .ok (.iload 4, 2) := by decide +kernel
theorem dL_law_584 : decode cL_law 584 = .ok (.iconst 2, 1) := by decide +kernel
theorem dL_law_585 : decode cL_law 585 = .ok (.iadd, 1) := by decide +kernel
theorem dL_law_586 : decode cL_law 586 = .ok (.iaload, 1) := by decide +kernel
theorem dL_law_587 : decode cL_law 587 = .ok (.invokevirtual 86, 3) := by decide +kernel
theorem dL_law_590 : decode cL_law 590 = .ok (.pop, 1) := by decide +kernel
theorem dL_law_591 : decode cL_law 591 = .ok (.goto 178, 3) := by decide +kernel
theorem dL_law_594 : decode cL_law 594 = .ok (.aload_n 1, 1) := by decide +kernel
theorem dL_law_595 : decode cL_law 595 = .ok (.aload_n 0, 1) := by decide +kernel
theorem dL_law_596 : decode cL_law 596 = .ok (.iload 4, 2) := by decide +kernel
theorem dL_law_598 : decode cL_law 598 = .ok (.iconst 1, 1) := by decide +kernel
theorem dL_law_599 : decode cL_law 599 = .ok (.iadd, 1) := by decide +kernel
theorem dL_law_600 : decode cL_law 600 = .ok (.iaload, 1) := by decide +kernel
theorem dL_law_601 : decode cL_law 601 = .ok (.invokevirtual 87, 3) := by decide +kernel
theorem dL_law_604 : decode cL_law 604 = .ok (.pop, 1) := by decide +kernel
theorem dL_law_605 : decode cL_law 605 = .ok (.aload_n 2, 1) := by decide +kernel
theorem dL_law_606 : decode cL_law 606 = .ok (.aload_n 0, 1) := by decide +kernel
theorem dL_law_607 : decode cL_law 607 = .ok (.iload 4, 2) := by decide +kernel
theorem dL_law_609 : decode cL_law 609 = .ok (.iconst 1, 1) := by decide +kernel
theorem dL_law_610 : decode cL_law 610 = .ok (.iadd, 1) := by decide +kernel
theorem dL_law_611 : decode cL_law 611 = .ok (.iaload, 1) := by decide +kernel
theorem dL_law_612 : decode cL_law 612 = .ok (.invokevirtual 90, 3) := by decide +kernel
theorem dL_law_615 : decode cL_law 615 = .ok (.pop, 1) := by decide +kernel
theorem dL_law_616 : decode cL_law 616 = .ok (.goto 153, 3) := by decide +kernel
theorem dL_law_619 : decode cL_law 619 = .ok (.aload_n 1, 1) := by decide +kernel
theorem dL_law_620 : decode cL_law 620 = .ok (.aload_n 0, 1) := by decide +kernel
theorem dL_law_621 : decode cL_law 621 = .ok (.iload 4, 2) := by decide +kernel
theorem dL_law_623 : decode cL_law 623 = .ok (.iconst 1, 1) := by decide +kernel
theorem dL_law_624 : decode cL_law 624 = .ok (.iadd, 1) := by decide +kernel
theorem dL_law_625 : decode cL_law 625 = .ok (.iaload, 1) := by decide +kernel
theorem dL_law_626 : decode cL_law 626 = .ok (.aload_n 0, 1) := by decide +kernel
theorem dL_law_627 : decode cL_law 627 = .ok (.iload 4, 2) := by decide +kernel
theorem dL_law_629 : decode cL_law 629 = .ok (.iconst 2, 1) := by decide +kernel
theorem dL_law_630 : decode cL_law 630 = .ok (.iadd, 1) := by decide +kernel
theorem dL_law_631 : decode cL_law 631 = .ok (.iaload, 1) := by decide +kernel
theorem dL_law_632 : decode cL_law 632 = .ok (.invokevirtual 91, 3) := by decide +kernel
theorem dL_law_635 : decode cL_law 635 = .ok (.pop, 1) := by decide +kernel
theorem dL_law_636 : decode cL_law 636 = .ok (.aload_n 2, 1) := by decide +kernel
theorem dL_law_637 : decode cL_law 637 = .ok (.aload_n 0, 1) := by decide +kernel
theorem dL_law_638 : decode cL_law 638 = .ok (.iload 4, 2) := by decide +kernel
theorem dL_law_640 : decode cL_law 640 = .ok (.iconst 1, 1) := by decide +kernel
theorem dL_law_641 : decode cL_law 641 = .ok (.iadd, 1) := by decide +kernel
theorem dL_law_642 : decode cL_law 642 = .ok (.iaload, 1) := by decide +kernel
theorem dL_law_643 : decode cL_law 643 = .ok (.aload_n 0, 1) := by decide +kernel
theorem dL_law_644 : decode cL_law 644 = .ok (.iload 4, 2) := by decide +kernel
theorem dL_law_646 : decode cL_law 646 = .ok (.iconst 2, 1) := by decide +kernel
theorem dL_law_647 : decode cL_law 647 = .ok (.iadd, 1) := by decide +kernel
theorem dL_law_648 : decode cL_law 648 = .ok (.iaload, 1) := by decide +kernel
theorem dL_law_649 : decode cL_law 649 = .ok (.invokevirtual 94, 3) := by decide +kernel
theorem dL_law_652 : decode cL_law 652 = .ok (.pop, 1) := by decide +kernel
theorem dL_law_653 : decode cL_law 653 = .ok (.goto 116, 3) := by decide +kernel
theorem dL_law_656 : decode cL_law 656 = .ok (.aload_n 1, 1) := by decide +kernel
theorem dL_law_657 : decode cL_law 657 = .ok (.invokevirtual 95, 3) := by decide +kernel
theorem dL_law_660 : decode cL_law 660 = .ok (.pop, 1) := by decide +kernel
theorem dL_law_661 : decode cL_law 661 = .ok (.aload_n 2, 1) := by decide +kernel
theorem dL_law_662 : decode cL_law 662 = .ok (.invokevirtual 98, 3) := by decide +kernel
theorem dL_law_665 : decode cL_law 665 = .ok (.pop, 1) := by decide +kernel
theorem dL_law_666 : decode cL_law 666 = .ok (.goto 103, 3) := by decide +kernel
theorem dL_law_669 : decode cL_law 669 = .ok (.aload_n 1, 1) := by decide +kernel
theorem dL_law_670 : decode cL_law 670 = .ok (.aload_n 0, 1) := by decide +kernel
theorem dL_law_671 : decode cL_law 671 = .ok (.iload 4, 2) := by decide +kernel
theorem dL_law_673 : decode cL_law 673 = .ok (.iconst 1, 1) := by decide +kernel
theorem dL_law_674 : decode cL_law 674 = .ok (.iadd, 1) := by decide +kernel
theorem dL_law_675 : decode cL_law 675 = .ok (.iaload, 1) := by decide +kernel
theorem dL_law_676 : decode cL_law 676 = .ok (.aload_n 0, 1) := by decide +kernel
theorem dL_law_677 : decode cL_law 677 = .ok (.iload 4, 2) := by decide +kernel
theorem dL_law_679 : decode cL_law 679 = .ok (.iconst 2, 1) := by decide +kernel
theorem dL_law_680 : decode cL_law 680 = .ok (.iadd, 1) := by decide +kernel
theorem dL_law_681 : decode cL_law 681 = .ok (.iaload, 1) := by decide +kernel
theorem dL_law_682 : decode cL_law 682 = .ok (.invokevirtual 99, 3) := by decide +kernel
theorem dL_law_685 : decode cL_law 685 = .ok (.pop, 1) := by decide +kernel
theorem dL_law_686 : decode cL_law 686 = .ok (.aload_n 2, 1) := by decide +kernel
theorem dL_law_687 : decode cL_law 687 = .ok (.aload_n 0, 1) := by decide +kernel
theorem dL_law_688 : decode cL_law 688 = .ok (.iload 4, 2) := by decide +kernel
theorem dL_law_690 : decode cL_law 690 = .ok (.iconst 1, 1) := by decide +kernel
theorem dL_law_691 : decode cL_law 691 = .ok (.iadd, 1) := by decide +kernel
theorem dL_law_692 : decode cL_law 692 = .ok (.iaload, 1) := by decide +kernel
theorem dL_law_693 : decode cL_law 693 = .ok (.aload_n 0, 1) := by decide +kernel
theorem dL_law_694 : decode cL_law 694 = .ok (.iload 4, 2) := by decide +kernel
theorem dL_law_696 : decode cL_law 696 = .ok (.iconst 2, 1) := by decide +kernel
theorem dL_law_697 : decode cL_law 697 = .ok (.iadd, 1) := by decide +kernel
theorem dL_law_698 : decode cL_law 698 = .ok (.iaload, 1) := by decide +kernel
theorem dL_law_699 : decode cL_law 699 = .ok (.invokevirtual 102, 3) := by decide +kernel
theorem dL_law_702 : decode cL_law 702 = .ok (.pop, 1) := by decide +kernel
theorem dL_law_703 : decode cL_law 703 = .ok (.goto 66, 3) := by decide +kernel
theorem dL_law_706 : decode cL_law 706 = .ok (.aload_n 1, 1) := by decide +kernel
theorem dL_law_707 : decode cL_law 707 = .ok (.aload_n 0, 1) := by decide +kernel
theorem dL_law_708 : decode cL_law 708 = .ok (.iload 4, 2) := by decide +kernel
theorem dL_law_710 : decode cL_law 710 = .ok (.iconst 1, 1) := by decide +kernel
theorem dL_law_711 : decode cL_law 711 = .ok (.iadd, 1) := by decide +kernel
theorem dL_law_712 : decode cL_law 712 = .ok (.iaload, 1) := by decide +kernel
theorem dL_law_713 : decode cL_law 713 = .ok (.invokevirtual 103, 3) := by decide +kernel
theorem dL_law_716 : decode cL_law 716 = .ok (.pop, 1) := by decide +kernel
theorem dL_law_717 : decode cL_law 717 = .ok (.aload_n 2, 1) := by decide +kernel
theorem dL_law_718 : decode cL_law 718 = .ok (.aload_n 0, 1) := by decide +kernel
theorem dL_law_719 : decode cL_law 719 = .ok (.iload 4, 2) := by decide +kernel
theorem dL_law_721 : decode cL_law 721 = .ok (.iconst 1, 1) := by decide +kernel
theorem dL_law_722 : decode cL_law 722 = .ok (.iadd, 1) := by decide +kernel
theorem dL_law_723 : decode cL_law 723 = .ok (.iaload, 1) := by decide +kernel
theorem dL_law_724 : decode cL_law 724 = .ok (.invokevirtual 106, 3) := by decide +kernel
theorem dL_law_727 : decode cL_law 727 = .ok (.pop, 1) := by decide +kernel
theorem dL_law_728 : decode cL_law 728 = .ok (.goto 41, 3) := by decide +kernel
theorem dL_law_731 : decode cL_law 731 = .ok (.aload_n 1, 1) := by decide +kernel
theorem dL_law_732 : decode cL_law 732 = .ok (.aload_n 0, 1) := by decide +kernel
theorem dL_law_733 : decode cL_law 733 = .ok (.iload 4, 2) := by decide +kernel
theorem dL_law_735 : decode cL_law 735 = .ok (.iconst 1, 1) := by decide +kernel
theorem dL_law_736 : decode cL_law 736 = .ok (.iadd, 1) := by decide +kernel
theorem dL_law_737 : decode cL_law 737 = .ok (.iaload, 1) := by decide +kernel
theorem dL_law_738 : decode cL_law 738 = .ok (.invokevirtual 107, 3) := by decide +kernel
theorem dL_law_741 : decode cL_law 741 = .ok (.pop, 1) := by decide +kernel
theorem dL_law_742 : decode cL_law 742 = .ok (.aload_n 2, 1) := by decide +kernel
theorem dL_law_743 : decode cL_law 743 = .ok (.aload_n 0, 1) := by decide +kernel
theorem dL_law_744 : decode cL_law 744 = .ok (.iload 4, 2) := by decide +kernel
theorem dL_law_746 : decode cL_law 746 = .ok (.iconst 1, 1) := by decide +kernel
theorem dL_law_747 : decode cL_law 747 = .ok (.iadd, 1) := by decide +kernel
theorem dL_law_748 : decode cL_law 748 = .ok (.iaload, 1) := by decide +kernel
theorem dL_law_749 : decode cL_law 749 = .ok (.invokevirtual 110, 3) := by decide +kernel
theorem dL_law_752 : decode cL_law 752 = .ok (.pop, 1) := by decide +kernel
theorem dL_law_753 : decode cL_law 753 = .ok (.goto 16, 3) := by decide +kernel
theorem dL_law_756 : decode cL_law 756 = .ok (.aload_n 1, 1) := by decide +kernel
theorem dL_law_757 : decode cL_law 757 = .ok (.invokevirtual 111, 3) := by decide +kernel
theorem dL_law_760 : decode cL_law 760 = .ok (.aload_n 2, 1) := by decide +kernel
theorem dL_law_761 : decode cL_law 761 = .ok (.invokevirtual 114, 3) := by decide +kernel
theorem dL_law_764 : decode cL_law 764 = .ok (.if_icmp .eq 5, 3) := by decide +kernel
theorem dL_law_767 : decode cL_law 767 = .ok (.iconst 0, 1) := by decide +kernel
theorem dL_law_768 : decode cL_law 768 = .ok (.ireturn, 1) := by decide +kernel
theorem dL_law_769 : decode cL_law 769 = .ok (.iinc 4 6, 3) := by decide +kernel
theorem dL_law_772 : decode cL_law 772 = .ok (.goto (-749), 3) := by decide +kernel
theorem dL_law_775 : decode cL_law 775 = .ok (.iconst 1, 1) := by decide +kernel
theorem dL_law_776 : decode cL_law 776 = .ok (.ireturn, 1) := by decide +kernel
