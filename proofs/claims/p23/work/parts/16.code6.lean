def k_X8_puts (md : Bool) : List Ent := [ePure 0 (fLoadA 0 1 0),
  eGet 1 8 11,
  ePure 4 (fPush 4 2 (.int 27)),
  ePure 6 (fPush 6 2 (.int 6)),
  ePure 8 (fLoadI 8 1 1),
  ePure 9 (fBin 9 o_imul),
  ePure 10 (fBin 10 o_iadd),
  ePure 11 (fPush 11 1 (.int 3)),
  ePure 12 (fBin 12 o_iadd),
  ePure 13 (fLoadI 13 1 3),
  eIast 14 0 (fun x => x),
  ePure 15 (fLoadA 15 1 0),
  eGet 16 8 11,
  ePure 19 (fPush 19 2 (.int 27)),
  ePure 21 (fPush 21 2 (.int 6)),
  ePure 23 (fLoadI 23 1 1),
  ePure 24 (fBin 24 o_imul),
  ePure 25 (fBin 25 o_iadd),
  ePure 26 (fPush 26 1 (.int 4)),
  ePure 27 (fBin 27 o_iadd),
  ePure 28 (fLoadI 28 1 2),
  ePure 29 (fPush 29 1 (.int 1)),
  ePure 30 (fBin 30 o_iadd),
  eIast 31 0 (fun x => x),
  ePure 32 (fLoadA 32 1 0),
  eGet 33 8 11,
  ePure 36 (fPush 36 2 (.int 27)),
  ePure 38 (fPush 38 2 (.int 6)),
  ePure 40 (fLoadI 40 1 1),
  ePure 41 (fBin 41 o_imul),
  ePure 42 (fBin 42 o_iadd),
  ePure 43 (fPush 43 1 (.int 5)),
  ePure 44 (fBin 44 o_iadd),
  ePure 45 (fLoadA 45 1 0),
  ePure 46 (fLoadI 46 1 2),
  ePure 47 (fPush 47 1 (.int 0)),
  eCallV 48 2 125 8,
  ePure 51 (fPush 51 1 (.int 1)),
  ePure 52 (fBin 52 o_iadd),
  eIast 53 0 (fun x => x),
  ePure 54 (fLoadA 54 1 0),
  ePure 55 (fLoadI 55 1 2),
  eCallV 56 1 129 8,
  ePure 59 (fLoadA 59 1 0),
  ePure 60 (fLoadI 60 1 2),
  ePure 61 (fPush 61 1 (.int 1)),
  eCallV 62 2 125 8,
  ePure 65 (fIf2 65 82 b2_ne),
  ePure 68 (fLoadA 68 1 0),
  eGet 69 8 11,
  ePure 72 (fPush 72 2 (.int 57)),
  ePure 74 (fPush 74 1 (.int 5)),
  ePure 75 (fLoadI 75 1 2),
  ePure 76 (fBin 76 o_imul),
  ePure 77 (fBin 77 o_iadd),
  ePure 78 (fPush 78 1 (.int 2)),
  ePure 79 (fBin 79 o_iadd),
  ePure 80 (fPush 80 1 (.int 1)),
  eIast 81 0 (fun x => x),
  eRetV 82]
set_option maxRecDepth 100000 in
set_option maxHeartbeats 4000000 in
theorem ko_X8_puts {l : Launch} {D : va_G} {cA : Nat → ClassId} {B : BB} {G : State → Prop} {md : Bool} {d : Nat} {call : Call} (hG : ∀ s, G s → Gs B s) (hok : COk l D cA B G md d mI call) : ∀ e ∈ k_X8_puts md, EOk l RX8 cX8_puts 4 none false D cA B G md d call e := by
  unfold k_X8_puts
  refine al_cons (eok_pure (pr_aload_n dX8_puts_0 rfl)) ?_
  refine al_cons (ok_get cl_X8 gX8 (by decide) w_952 dX8_puts_1) ?_
  refine al_cons (eok_pure (pr_bipush dX8_puts_4 (by decide))) ?_
  refine al_cons (eok_pure (pr_bipush dX8_puts_6 (by decide))) ?_
  refine al_cons (eok_pure (pr_iload_n dX8_puts_8 rfl)) ?_
  refine al_cons (eok_pure (pr_imul dX8_puts_9)) ?_
  refine al_cons (eok_pure (pr_iadd dX8_puts_10)) ?_
  refine al_cons (eok_pure (pr_iconst dX8_puts_11 (by decide))) ?_
  refine al_cons (eok_pure (pr_iadd dX8_puts_12)) ?_
  refine al_cons (eok_pure (pr_iload_n dX8_puts_13 rfl)) ?_
  refine al_cons (ok_iast dX8_puts_14) ?_
  refine al_cons (eok_pure (pr_aload_n dX8_puts_15 rfl)) ?_
  refine al_cons (ok_get cl_X8 gX8 (by decide) w_952 dX8_puts_16) ?_
  refine al_cons (eok_pure (pr_bipush dX8_puts_19 (by decide))) ?_
  refine al_cons (eok_pure (pr_bipush dX8_puts_21 (by decide))) ?_
  refine al_cons (eok_pure (pr_iload_n dX8_puts_23 rfl)) ?_
  refine al_cons (eok_pure (pr_imul dX8_puts_24)) ?_
  refine al_cons (eok_pure (pr_iadd dX8_puts_25)) ?_
  refine al_cons (eok_pure (pr_iconst dX8_puts_26 (by decide))) ?_
  refine al_cons (eok_pure (pr_iadd dX8_puts_27)) ?_
  refine al_cons (eok_pure (pr_iload_n dX8_puts_28 rfl)) ?_
  refine al_cons (eok_pure (pr_iconst dX8_puts_29 (by decide))) ?_
  refine al_cons (eok_pure (pr_iadd dX8_puts_30)) ?_
  refine al_cons (ok_iast dX8_puts_31) ?_
  refine al_cons (eok_pure (pr_aload_n dX8_puts_32 rfl)) ?_
  refine al_cons (ok_get cl_X8 gX8 (by decide) w_952 dX8_puts_33) ?_
  refine al_cons (eok_pure (pr_bipush dX8_puts_36 (by decide))) ?_
  refine al_cons (eok_pure (pr_bipush dX8_puts_38 (by decide))) ?_
  refine al_cons (eok_pure (pr_iload_n dX8_puts_40 rfl)) ?_
  refine al_cons (eok_pure (pr_imul dX8_puts_41)) ?_
  refine al_cons (eok_pure (pr_iadd dX8_puts_42)) ?_
  refine al_cons (eok_pure (pr_iconst dX8_puts_43 (by decide))) ?_
  refine al_cons (eok_pure (pr_iadd dX8_puts_44)) ?_
  refine al_cons (eok_pure (pr_aload_n dX8_puts_45 rfl)) ?_
  refine al_cons (eok_pure (pr_iload_n dX8_puts_46 rfl)) ?_
  refine al_cons (eok_pure (pr_iconst dX8_puts_47 (by decide))) ?_
  refine al_cons (ok_callV hok mi_125 cl_X8 w_1128 w_1130 w_46 w_82 w_1131 na_125 (by decide) dX8_puts_48) ?_
  refine al_cons (eok_pure (pr_iconst dX8_puts_51 (by decide))) ?_
  refine al_cons (eok_pure (pr_iadd dX8_puts_52)) ?_
  refine al_cons (ok_iast dX8_puts_53) ?_
  refine al_cons (eok_pure (pr_aload_n dX8_puts_54 rfl)) ?_
  refine al_cons (eok_pure (pr_iload_n dX8_puts_55 rfl)) ?_
  refine al_cons (ok_callV hok mi_129 cl_X8 w_1184 w_1186 w_57 w_82 w_1187 na_129 (by decide) dX8_puts_56) ?_
  refine al_cons (eok_pure (pr_aload_n dX8_puts_59 rfl)) ?_
  refine al_cons (eok_pure (pr_iload_n dX8_puts_60 rfl)) ?_
  refine al_cons (eok_pure (pr_iconst dX8_puts_61 (by decide))) ?_
  refine al_cons (ok_callV hok mi_125 cl_X8 w_1128 w_1130 w_46 w_82 w_1131 na_125 (by decide) dX8_puts_62) ?_
  refine al_cons (eok_pure (pr_icmp_ne dX8_puts_65 (by decide))) ?_
  refine al_cons (eok_pure (pr_aload_n dX8_puts_68 rfl)) ?_
  refine al_cons (ok_get cl_X8 gX8 (by decide) w_952 dX8_puts_69) ?_
  refine al_cons (eok_pure (pr_bipush dX8_puts_72 (by decide))) ?_
  refine al_cons (eok_pure (pr_iconst dX8_puts_74 (by decide))) ?_
  refine al_cons (eok_pure (pr_iload_n dX8_puts_75 rfl)) ?_
  refine al_cons (eok_pure (pr_imul dX8_puts_76)) ?_
  refine al_cons (eok_pure (pr_iadd dX8_puts_77)) ?_
  refine al_cons (eok_pure (pr_iconst dX8_puts_78 (by decide))) ?_
  refine al_cons (eok_pure (pr_iadd dX8_puts_79)) ?_
  refine al_cons (eok_pure (pr_iconst dX8_puts_80 (by decide))) ?_
  refine al_cons (ok_iast dX8_puts_81) ?_
  refine al_cons (ok_retV rfl dX8_puts_82) ?_
  exact al_nil
def k_X8_put (md : Bool) : List Ent := [ePure 0 (fLoadA 0 1 0),
  ePure 1 (fPush 1 1 (.int 0)),
  ePut 2 8 0 kInt,
  ePure 5 (fLoadA 5 1 0),
  ePure 6 (fLoadI 6 1 1),
  eCallV 7 1 121 8,
  ePure 10 (fIf1 10 30 b1_eq),
  ePure 13 (fLoadA 13 1 0),
  ePure 14 (fLoadI 14 1 2),
  eCallV 15 1 123 8,
  ePure 18 (fIf1 18 30 b1_eq),
  ePure 21 (fLoadA 21 1 0),
  ePure 22 (fLoadI 22 1 2),
  ePure 23 (fPush 23 1 (.int 2)),
  eCallV 24 2 125 8,
  ePure 27 (fIf1 27 32 b1_eq),
  ePure 30 (fPush 30 1 (.int (-1))),
  eRetI 31,
  ePure 32 (fLoadA 32 1 0),
  ePure 33 (fLoadI 33 1 1),
  ePure 34 (fPush 34 1 (.int 4)),
  eCallV 35 2 124 8,
  ePure 38 (fIf1 38 44 b1_le),
  ePure 41 (fPush 41 2 (.int (-2))),
  eRetI 43,
  ePure 44 (fLoadA 44 1 0),
  ePure 45 (fLoadI 45 1 1),
  ePure 46 (fLoadA 46 1 0),
  ePure 47 (fLoadI 47 1 2),
  ePure 48 (fPush 48 1 (.int 0)),
  eCallV 49 2 125 8,
  ePure 52 (fPush 52 1 (.int 0)),
  eCallV 53 3 128 8,
  ePure 56 (fIf1 56 62 b1_ne),
  ePure 59 (fPush 59 2 (.int (-3))),
  eRetI 61,
  ePure 62 (fLoadA 62 1 0),
  ePure 63 (fLoadI 63 1 1),
  eCallV 64 1 126 8,
  ePure 67 (fIf1 67 73 b1_ne),
  ePure 70 (fPush 70 2 (.int (-4))),
  eRetI 72,
  ePure 73 (fLoadA 73 1 0),
  eCallV 74 0 154 8,
  ePure 77 (fLoadA 77 1 0),
  ePure 78 (fLoadI 78 1 2),
  ePure 79 (fPush 79 1 (.int 1)),
  eCallV 80 2 125 8,
  ePure 83 (fLoadA 83 1 0),
  ePure 84 (fLoadI 84 1 2),
  eCallV 85 1 129 8,
  ePure 88 (fBin 88 o_isub),
  ePure 89 (fStoI 89 1 3 5),
  ePure 90 (fLoadI 90 1 3),
  ePure 91 (fLoadA 91 1 0),
  ePure 92 (fLoadI 92 1 1),
  eCallV 93 1 126 8,
  ePure 96 (fIf2 96 103 b2_ge),
  ePure 99 (fLoadI 99 1 3),
  ePure 100 (fGoto 108),
  ePure 103 (fLoadA 103 1 0),
  ePure 104 (fLoadI 104 1 1),
  eCallV 105 1 126 8,
  ePure 108 (fStoI 108 2 4 5),
  ePure 110 (fLoadA 110 1 0),
  ePure 111 (fLoadI 111 1 1),
  ePure 112 (fLoadI 112 1 2),
  ePure 113 (fLoadI 113 2 4),
  eCallV 115 3 157 8,
  ePure 118 (fLoadI 118 2 4),
  eRetI 120]
set_option maxRecDepth 100000 in
set_option maxHeartbeats 4000000 in
theorem ko_X8_put {l : Launch} {D : va_G} {cA : Nat → ClassId} {B : BB} {G : State → Prop} {md : Bool} {d : Nat} {call : Call} (hG : ∀ s, G s → Gs B s) (hok : COk l D cA B G md d mI call) : ∀ e ∈ k_X8_put md, EOk l RX8 cX8_put 5 (some .int) false D cA B G md d call e := by
  unfold k_X8_put
  refine al_cons (eok_pure (pr_aload_n dX8_put_0 rfl)) ?_
  refine al_cons (eok_pure (pr_iconst dX8_put_1 (by decide))) ?_
  refine al_cons (ok_put cl_X8 gX8 tyX8_ok nmX8 (by decide) w_941 rfl (by decide +kernel) (kok_int B) dX8_put_2) ?_
  refine al_cons (eok_pure (pr_aload_n dX8_put_5 rfl)) ?_
  refine al_cons (eok_pure (pr_iload_n dX8_put_6 rfl)) ?_
  refine al_cons (ok_callV hok mi_121 cl_X8 w_1160 w_1162 w_52 w_82 w_1163 na_121 (by decide) dX8_put_7) ?_
  refine al_cons (eok_pure (pr_if_eq dX8_put_10 (by decide))) ?_
  refine al_cons (eok_pure (pr_aload_n dX8_put_13 rfl)) ?_
  refine al_cons (eok_pure (pr_iload_n dX8_put_14 rfl)) ?_
  refine al_cons (ok_callV hok mi_123 cl_X8 w_1176 w_1178 w_55 w_82 w_1179 na_123 (by decide) dX8_put_15) ?_
  refine al_cons (eok_pure (pr_if_eq dX8_put_18 (by decide))) ?_
  refine al_cons (eok_pure (pr_aload_n dX8_put_21 rfl)) ?_
  refine al_cons (eok_pure (pr_iload_n dX8_put_22 rfl)) ?_
  refine al_cons (eok_pure (pr_iconst dX8_put_23 (by decide))) ?_
  refine al_cons (ok_callV hok mi_125 cl_X8 w_1128 w_1130 w_46 w_82 w_1131 na_125 (by decide) dX8_put_24) ?_
  refine al_cons (eok_pure (pr_if_eq dX8_put_27 (by decide))) ?_
  refine al_cons (eok_pure (pr_iconst dX8_put_30 (by decide))) ?_
  refine al_cons (ok_retI rfl dX8_put_31) ?_
  refine al_cons (eok_pure (pr_aload_n dX8_put_32 rfl)) ?_
  refine al_cons (eok_pure (pr_iload_n dX8_put_33 rfl)) ?_
  refine al_cons (eok_pure (pr_iconst dX8_put_34 (by decide))) ?_
  refine al_cons (ok_callV hok mi_124 cl_X8 w_1124 w_1126 w_45 w_82 w_1127 na_124 (by decide) dX8_put_35) ?_
  refine al_cons (eok_pure (pr_if_le dX8_put_38 (by decide))) ?_
  refine al_cons (eok_pure (pr_bipush dX8_put_41 (by decide))) ?_
  refine al_cons (ok_retI rfl dX8_put_43) ?_
  refine al_cons (eok_pure (pr_aload_n dX8_put_44 rfl)) ?_
  refine al_cons (eok_pure (pr_iload_n dX8_put_45 rfl)) ?_
  refine al_cons (eok_pure (pr_aload_n dX8_put_46 rfl)) ?_
  refine al_cons (eok_pure (pr_iload_n dX8_put_47 rfl)) ?_
  refine al_cons (eok_pure (pr_iconst dX8_put_48 (by decide))) ?_
  refine al_cons (ok_callV hok mi_125 cl_X8 w_1128 w_1130 w_46 w_82 w_1131 na_125 (by decide) dX8_put_49) ?_
  refine al_cons (eok_pure (pr_iconst dX8_put_52 (by decide))) ?_
  refine al_cons (ok_callV hok mi_128 cl_X8 w_1196 w_1198 w_59 w_82 w_1199 na_128 (by decide) dX8_put_53) ?_
  refine al_cons (eok_pure (pr_if_ne dX8_put_56 (by decide))) ?_
  refine al_cons (eok_pure (pr_bipush dX8_put_59 (by decide))) ?_
  refine al_cons (ok_retI rfl dX8_put_61) ?_
  refine al_cons (eok_pure (pr_aload_n dX8_put_62 rfl)) ?_
  refine al_cons (eok_pure (pr_iload_n dX8_put_63 rfl)) ?_
  refine al_cons (ok_callV hok mi_126 cl_X8 w_1164 w_1166 w_53 w_82 w_1167 na_126 (by decide) dX8_put_64) ?_
  refine al_cons (eok_pure (pr_if_ne dX8_put_67 (by decide))) ?_
  refine al_cons (eok_pure (pr_bipush dX8_put_70 (by decide))) ?_
  refine al_cons (ok_retI rfl dX8_put_72) ?_
  refine al_cons (eok_pure (pr_aload_n dX8_put_73 rfl)) ?_
  refine al_cons (ok_callV hok mi_154 cl_X8 w_1260 w_1262 w_68 w_82 w_1263 na_154 (by decide) dX8_put_74) ?_
  refine al_cons (eok_pure (pr_aload_n dX8_put_77 rfl)) ?_
  refine al_cons (eok_pure (pr_iload_n dX8_put_78 rfl)) ?_
  refine al_cons (eok_pure (pr_iconst dX8_put_79 (by decide))) ?_
  refine al_cons (ok_callV hok mi_125 cl_X8 w_1128 w_1130 w_46 w_82 w_1131 na_125 (by decide) dX8_put_80) ?_
  refine al_cons (eok_pure (pr_aload_n dX8_put_83 rfl)) ?_
  refine al_cons (eok_pure (pr_iload_n dX8_put_84 rfl)) ?_
  refine al_cons (ok_callV hok mi_129 cl_X8 w_1184 w_1186 w_57 w_82 w_1187 na_129 (by decide) dX8_put_85) ?_
  refine al_cons (eok_pure (pr_isub dX8_put_88)) ?_
  refine al_cons (eok_pure (pr_istore_n dX8_put_89 rfl)) ?_
  refine al_cons (eok_pure (pr_iload_n dX8_put_90 rfl)) ?_
  refine al_cons (eok_pure (pr_aload_n dX8_put_91 rfl)) ?_
  refine al_cons (eok_pure (pr_iload_n dX8_put_92 rfl)) ?_
  refine al_cons (ok_callV hok mi_126 cl_X8 w_1164 w_1166 w_53 w_82 w_1167 na_126 (by decide) dX8_put_93) ?_
  refine al_cons (eok_pure (pr_icmp_ge dX8_put_96 (by decide))) ?_
  refine al_cons (eok_pure (pr_iload_n dX8_put_99 rfl)) ?_
  refine al_cons (eok_pure (pr_goto dX8_put_100 (by decide))) ?_
  refine al_cons (eok_pure (pr_aload_n dX8_put_103 rfl)) ?_
  refine al_cons (eok_pure (pr_iload_n dX8_put_104 rfl)) ?_
  refine al_cons (ok_callV hok mi_126 cl_X8 w_1164 w_1166 w_53 w_82 w_1167 na_126 (by decide) dX8_put_105) ?_
  refine al_cons (eok_pure (pr_istore dX8_put_108)) ?_
  refine al_cons (eok_pure (pr_aload_n dX8_put_110 rfl)) ?_
  refine al_cons (eok_pure (pr_iload_n dX8_put_111 rfl)) ?_
  refine al_cons (eok_pure (pr_iload_n dX8_put_112 rfl)) ?_
  refine al_cons (eok_pure (pr_iload dX8_put_113)) ?_
  refine al_cons (ok_callV hok mi_157 cl_X8 w_1272 w_1274 w_69 w_82 w_1275 na_157 (by decide) dX8_put_115) ?_
  refine al_cons (eok_pure (pr_iload dX8_put_118)) ?_
  refine al_cons (ok_retI rfl dX8_put_120) ?_
  exact al_nil
def k_X8_load (md : Bool) : List Ent := [ePure 0 (fLoadA 0 1 0),
  ePure 1 (fPush 1 1 (.int 0)),
  ePut 2 8 0 kInt,
  ePure 5 (fLoadA 5 1 0),
  ePure 6 (fPush 6 1 (.int 0)),
  eCallV 7 1 151 8,
  ePure 10 (fLoadA 10 1 0),
  eGet 11 8 26,
  ePure 14 (fPush 14 1 (.int (-1))),
  ePure 15 (fIf2 15 21 b2_ne),
  ePure 18 (fPush 18 2 (.int (-2))),
  eRetI 20,
  ePure 21 (fLoadA 21 1 0),
  eGet 22 8 26,
  ePure 25 (fIf1 25 30 b1_ne),
  ePure 28 (fPush 28 1 (.int (-1))),
  eRetI 29,
  ePure 30 (fLoadA 30 1 0),
  eCallV 31 0 154 8,
  ePure 34 (fPush 34 1 (.int 0)),
  ePure 35 (fStoI 35 1 1 2),
  ePure 36 (fLoadI 36 1 1),
  ePure 37 (fLoadA 37 1 0),
  eGet 38 8 11,
  ePure 41 (fPush 41 2 (.int 9)),
  eIald 43 0,
  ePure 44 (fIf2 44 80 b2_ge),
  ePure 47 (fLoadA 47 1 0),
  eGet 48 8 24,
  ePure 51 (fLoadI 51 1 1),
  eIald 52 0,
  ePure 53 (fPush 53 1 (.int (-1))),
  ePure 54 (fIf2 54 74 b2_eq),
  ePure 57 (fLoadA 57 1 0),
  ePure 58 (fLoadI 58 1 1),
  ePure 59 (fLoadA 59 1 0),
  eGet 60 8 24,
  ePure 63 (fLoadI 63 1 1),
  eIald 64 0,
  ePure 65 (fLoadA 65 1 0),
  eGet 66 8 25,
  ePure 69 (fLoadI 69 1 1),
  eIald 70 0,
  eCallV 71 3 157 8,
  ePure 74 (fInc 74 1 2 1),
  ePure 77 (fGoto 36),
  ePure 80 (fLoadA 80 1 0),
  eGet 81 8 26,
  eRetI 84]
set_option maxRecDepth 100000 in
set_option maxHeartbeats 4000000 in
theorem ko_X8_load {l : Launch} {D : va_G} {cA : Nat → ClassId} {B : BB} {G : State → Prop} {md : Bool} {d : Nat} {call : Call} (hG : ∀ s, G s → Gs B s) (hok : COk l D cA B G md d mI call) : ∀ e ∈ k_X8_load md, EOk l RX8 cX8_load 2 (some .int) false D cA B G md d call e := by
  unfold k_X8_load
  refine al_cons (eok_pure (pr_aload_n dX8_load_0 rfl)) ?_
  refine al_cons (eok_pure (pr_iconst dX8_load_1 (by decide))) ?_
  refine al_cons (ok_put cl_X8 gX8 tyX8_ok nmX8 (by decide) w_941 rfl (by decide +kernel) (kok_int B) dX8_load_2) ?_
  refine al_cons (eok_pure (pr_aload_n dX8_load_5 rfl)) ?_
  refine al_cons (eok_pure (pr_iconst dX8_load_6 (by decide))) ?_
  refine al_cons (ok_callV hok mi_151 cl_X8 w_1232 w_1234 w_63 w_82 w_1235 na_151 (by decide) dX8_load_7) ?_
  refine al_cons (eok_pure (pr_aload_n dX8_load_10 rfl)) ?_
  refine al_cons (ok_get cl_X8 gX8 (by decide) w_967 dX8_load_11) ?_
  refine al_cons (eok_pure (pr_iconst dX8_load_14 (by decide))) ?_
  refine al_cons (eok_pure (pr_icmp_ne dX8_load_15 (by decide))) ?_
  refine al_cons (eok_pure (pr_bipush dX8_load_18 (by decide))) ?_
  refine al_cons (ok_retI rfl dX8_load_20) ?_
  refine al_cons (eok_pure (pr_aload_n dX8_load_21 rfl)) ?_
  refine al_cons (ok_get cl_X8 gX8 (by decide) w_967 dX8_load_22) ?_
  refine al_cons (eok_pure (pr_if_ne dX8_load_25 (by decide))) ?_
  refine al_cons (eok_pure (pr_iconst dX8_load_28 (by decide))) ?_
  refine al_cons (ok_retI rfl dX8_load_29) ?_
  refine al_cons (eok_pure (pr_aload_n dX8_load_30 rfl)) ?_
  refine al_cons (ok_callV hok mi_154 cl_X8 w_1260 w_1262 w_68 w_82 w_1263 na_154 (by decide) dX8_load_31) ?_
  refine al_cons (eok_pure (pr_iconst dX8_load_34 (by decide))) ?_
  refine al_cons (eok_pure (pr_istore_n dX8_load_35 rfl)) ?_
  refine al_cons (eok_pure (pr_iload_n dX8_load_36 rfl)) ?_
  refine al_cons (eok_pure (pr_aload_n dX8_load_37 rfl)) ?_
  refine al_cons (ok_get cl_X8 gX8 (by decide) w_952 dX8_load_38) ?_
  refine al_cons (eok_pure (pr_bipush dX8_load_41 (by decide))) ?_
  refine al_cons (ok_iald dX8_load_43) ?_
  refine al_cons (eok_pure (pr_icmp_ge dX8_load_44 (by decide))) ?_
  refine al_cons (eok_pure (pr_aload_n dX8_load_47 rfl)) ?_
  refine al_cons (ok_get cl_X8 gX8 (by decide) w_965 dX8_load_48) ?_
  refine al_cons (eok_pure (pr_iload_n dX8_load_51 rfl)) ?_
  refine al_cons (ok_iald dX8_load_52) ?_
  refine al_cons (eok_pure (pr_iconst dX8_load_53 (by decide))) ?_
  refine al_cons (eok_pure (pr_icmp_eq dX8_load_54 (by decide))) ?_
  refine al_cons (eok_pure (pr_aload_n dX8_load_57 rfl)) ?_
  refine al_cons (eok_pure (pr_iload_n dX8_load_58 rfl)) ?_
  refine al_cons (eok_pure (pr_aload_n dX8_load_59 rfl)) ?_
  refine al_cons (ok_get cl_X8 gX8 (by decide) w_965 dX8_load_60) ?_
  refine al_cons (eok_pure (pr_iload_n dX8_load_63 rfl)) ?_
  refine al_cons (ok_iald dX8_load_64) ?_
  refine al_cons (eok_pure (pr_aload_n dX8_load_65 rfl)) ?_
  refine al_cons (ok_get cl_X8 gX8 (by decide) w_966 dX8_load_66) ?_
  refine al_cons (eok_pure (pr_iload_n dX8_load_69 rfl)) ?_
  refine al_cons (ok_iald dX8_load_70) ?_
  refine al_cons (ok_callV hok mi_157 cl_X8 w_1272 w_1274 w_69 w_82 w_1275 na_157 (by decide) dX8_load_71) ?_
  refine al_cons (eok_pure (pr_iinc dX8_load_74 (by decide))) ?_
  refine al_cons (eok_pure (pr_goto dX8_load_77 (by decide))) ?_
  refine al_cons (eok_pure (pr_aload_n dX8_load_80 rfl)) ?_
  refine al_cons (ok_get cl_X8 gX8 (by decide) w_967 dX8_load_81) ?_
  refine al_cons (ok_retI rfl dX8_load_84) ?_
  exact al_nil
def k_X8_goes (md : Bool) : List Ent := [ePure 0 (fLoadA 0 1 0),
  eGet 1 8 11,
  ePure 4 (fPush 4 2 (.int 27)),
  ePure 6 (fPush 6 2 (.int 6)),
  ePure 8 (fLoadI 8 1 1),
  ePure 9 (fBin 9 o_imul),
  ePure 10 (fBin 10 o_iadd),
  ePure 11 (fPush 11 1 (.int 3)),
  ePure 12 (fBin 12 o_iadd),
  ePure 13 (fPush 13 1 (.int 0)),
  eIast 14 0 (fun x => x),
  ePure 15 (fLoadA 15 1 0),
  eGet 16 8 11,
  ePure 19 (fPush 19 2 (.int 27)),
  ePure 21 (fPush 21 2 (.int 6)),
  ePure 23 (fLoadI 23 1 1),
  ePure 24 (fBin 24 o_imul),
  ePure 25 (fBin 25 o_iadd),
  ePure 26 (fPush 26 1 (.int 4)),
  ePure 27 (fBin 27 o_iadd),
  ePure 28 (fPush 28 1 (.int 0)),
  eIast 29 0 (fun x => x),
  eRetV 30]
set_option maxRecDepth 100000 in
set_option maxHeartbeats 4000000 in
theorem ko_X8_goes {l : Launch} {D : va_G} {cA : Nat → ClassId} {B : BB} {G : State → Prop} {md : Bool} {d : Nat} {call : Call} (hG : ∀ s, G s → Gs B s) (hok : COk l D cA B G md d mI call) : ∀ e ∈ k_X8_goes md, EOk l RX8 cX8_goes 2 none false D cA B G md d call e := by
  unfold k_X8_goes
  refine al_cons (eok_pure (pr_aload_n dX8_goes_0 rfl)) ?_
  refine al_cons (ok_get cl_X8 gX8 (by decide) w_952 dX8_goes_1) ?_
  refine al_cons (eok_pure (pr_bipush dX8_goes_4 (by decide))) ?_
  refine al_cons (eok_pure (pr_bipush dX8_goes_6 (by decide))) ?_
  refine al_cons (eok_pure (pr_iload_n dX8_goes_8 rfl)) ?_
  refine al_cons (eok_pure (pr_imul dX8_goes_9)) ?_
  refine al_cons (eok_pure (pr_iadd dX8_goes_10)) ?_
  refine al_cons (eok_pure (pr_iconst dX8_goes_11 (by decide))) ?_
  refine al_cons (eok_pure (pr_iadd dX8_goes_12)) ?_
  refine al_cons (eok_pure (pr_iconst dX8_goes_13 (by decide))) ?_
  refine al_cons (ok_iast dX8_goes_14) ?_
  refine al_cons (eok_pure (pr_aload_n dX8_goes_15 rfl)) ?_
  refine al_cons (ok_get cl_X8 gX8 (by decide) w_952 dX8_goes_16) ?_
  refine al_cons (eok_pure (pr_bipush dX8_goes_19 (by decide))) ?_
  refine al_cons (eok_pure (pr_bipush dX8_goes_21 (by decide))) ?_
  refine al_cons (eok_pure (pr_iload_n dX8_goes_23 rfl)) ?_
  refine al_cons (eok_pure (pr_imul dX8_goes_24)) ?_
  refine al_cons (eok_pure (pr_iadd dX8_goes_25)) ?_
  refine al_cons (eok_pure (pr_iconst dX8_goes_26 (by decide))) ?_
  refine al_cons (eok_pure (pr_iadd dX8_goes_27)) ?_
  refine al_cons (eok_pure (pr_iconst dX8_goes_28 (by decide))) ?_
  refine al_cons (ok_iast dX8_goes_29) ?_
  refine al_cons (ok_retV rfl dX8_goes_30) ?_
  exact al_nil
def k_X8_unload (md : Bool) : List Ent := [ePure 0 (fLoadA 0 1 0),
  ePure 1 (fPush 1 1 (.int 0)),
  ePut 2 8 0 kInt,
  ePure 5 (fLoadA 5 1 0),
  ePure 6 (fLoadI 6 1 1),
  eCallV 7 1 123 8,
  ePure 10 (fIf1 10 36 b1_eq),
  ePure 13 (fLoadA 13 1 0),
  ePure 14 (fLoadI 14 1 1),
  ePure 15 (fPush 15 1 (.int 2)),
  eCallV 16 2 125 8,
  ePure 19 (fPush 19 1 (.int 1)),
  ePure 20 (fIf2 20 36 b2_ne),
  ePure 23 (fLoadI 23 1 2),
  ePure 24 (fPush 24 1 (.int 0)),
  ePure 25 (fLoadA 25 1 0),
  ePure 26 (fLoadI 26 1 1),
  eCallV 27 1 129 8,
  eCallS 30 3 94,
  ePure 33 (fIf1 33 38 b1_ne),
  ePure 36 (fPush 36 1 (.int (-1))),
  eRetI 37,
  ePure 38 (fLoadA 38 1 0),
  eCallV 39 0 131 8,
  ePure 42 (fLoadA 42 1 0),
  ePure 43 (fPush 43 1 (.int 1)),
  ePure 44 (fLoadI 44 1 1),
  ePure 45 (fBin 45 o_ishl),
  eCallV 46 1 135 8,
  ePure 49 (fIf1 49 55 b1_eq),
  ePure 52 (fPush 52 2 (.int (-2))),
  eRetI 54,
  ePure 55 (fLoadA 55 1 0),
  eCallV 56 0 154 8,
  ePure 59 (fLoadA 59 1 0),
  ePure 60 (fLoadI 60 1 1),
  eCallV 61 1 129 8,
  ePure 64 (fLoadI 64 1 2),
  ePure 65 (fBin 65 o_isub),
  ePure 66 (fStoI 66 1 3 5),
  ePure 67 (fPush 67 1 (.int 0)),
  ePure 68 (fStoI 68 2 4 5),
  ePure 70 (fLoadI 70 2 4),
  ePure 72 (fLoadA 72 1 0),
  eGet 73 8 11,
  ePure 76 (fPush 76 2 (.int 9)),
  eIald 78 0,
  ePure 79 (fIf2 79 107 b2_ge),
  ePure 82 (fLoadA 82 1 0),
  ePure 83 (fLoadI 83 2 4),
  ePure 85 (fPush 85 1 (.int 4)),
  eCallV 86 2 124 8,
  ePure 89 (fLoadI 89 1 1),
  ePure 90 (fPush 90 1 (.int 1)),
  ePure 91 (fBin 91 o_iadd),
  ePure 92 (fIf2 92 101 b2_ne),
  ePure 95 (fLoadA 95 1 0),
  ePure 96 (fLoadI 96 2 4),
  eCallV 98 1 160 8,
  ePure 101 (fInc 101 4 5 1),
  ePure 104 (fGoto 70),
  ePure 107 (fLoadA 107 1 0),
  eGet 108 8 11,
  ePure 111 (fPush 111 2 (.int 57)),
  ePure 113 (fPush 113 1 (.int 5)),
  ePure 114 (fLoadI 114 1 1),
  ePure 115 (fBin 115 o_imul),
  ePure 116 (fBin 116 o_iadd),
  ePure 117 (fPush 117 1 (.int 2)),
  ePure 118 (fBin 118 o_iadd),
  ePure 119 (fPush 119 1 (.int 2)),
  eIast 120 0 (fun x => x),
  ePure 121 (fLoadA 121 1 0),
  eGet 122 8 11,
  ePure 125 (fPush 125 2 (.int 57)),
  ePure 127 (fPush 127 1 (.int 5)),
  ePure 128 (fLoadI 128 1 1),
  ePure 129 (fBin 129 o_imul),
  ePure 130 (fBin 130 o_iadd),
  ePure 131 (fPush 131 1 (.int 3)),
  ePure 132 (fBin 132 o_iadd),
  ePure 133 (fLoadI 133 1 2),
  eIast 134 0 (fun x => x),
  ePure 135 (fLoadA 135 1 0),
  eGet 136 8 11,
  ePure 139 (fPush 139 2 (.int 57)),
  ePure 141 (fPush 141 1 (.int 5)),
  ePure 142 (fLoadI 142 1 1),
  ePure 143 (fBin 143 o_imul),
  ePure 144 (fBin 144 o_iadd),
  ePure 145 (fPush 145 1 (.int 4)),
  ePure 146 (fBin 146 o_iadd),
  ePure 147 (fLoadI 147 1 3),
  eIast 148 0 (fun x => x),
  ePure 149 (fLoadI 149 1 3),
  eRetI 150]
set_option maxRecDepth 100000 in
set_option maxHeartbeats 4000000 in
theorem ko_X8_unload {l : Launch} {D : va_G} {cA : Nat → ClassId} {B : BB} {G : State → Prop} {md : Bool} {d : Nat} {call : Call} (hG : ∀ s, G s → Gs B s) (hok : COk l D cA B G md d mI call) : ∀ e ∈ k_X8_unload md, EOk l RX8 cX8_unload 5 (some .int) false D cA B G md d call e := by
  unfold k_X8_unload
  refine al_cons (eok_pure (pr_aload_n dX8_unload_0 rfl)) ?_
  refine al_cons (eok_pure (pr_iconst dX8_unload_1 (by decide))) ?_
  refine al_cons (ok_put cl_X8 gX8 tyX8_ok nmX8 (by decide) w_941 rfl (by decide +kernel) (kok_int B) dX8_unload_2) ?_
  refine al_cons (eok_pure (pr_aload_n dX8_unload_5 rfl)) ?_
  refine al_cons (eok_pure (pr_iload_n dX8_unload_6 rfl)) ?_
  refine al_cons (ok_callV hok mi_123 cl_X8 w_1176 w_1178 w_55 w_82 w_1179 na_123 (by decide) dX8_unload_7) ?_
  refine al_cons (eok_pure (pr_if_eq dX8_unload_10 (by decide))) ?_
  refine al_cons (eok_pure (pr_aload_n dX8_unload_13 rfl)) ?_
  refine al_cons (eok_pure (pr_iload_n dX8_unload_14 rfl)) ?_
  refine al_cons (eok_pure (pr_iconst dX8_unload_15 (by decide))) ?_
  refine al_cons (ok_callV hok mi_125 cl_X8 w_1128 w_1130 w_46 w_82 w_1131 na_125 (by decide) dX8_unload_16) ?_
  refine al_cons (eok_pure (pr_iconst dX8_unload_19 (by decide))) ?_
  refine al_cons (eok_pure (pr_icmp_ne dX8_unload_20 (by decide))) ?_
  refine al_cons (eok_pure (pr_iload_n dX8_unload_23 rfl)) ?_
  refine al_cons (eok_pure (pr_iconst dX8_unload_24 (by decide))) ?_
  refine al_cons (eok_pure (pr_aload_n dX8_unload_25 rfl)) ?_
  refine al_cons (eok_pure (pr_iload_n dX8_unload_26 rfl)) ?_
  refine al_cons (ok_callV hok mi_129 cl_X8 w_1184 w_1186 w_57 w_82 w_1187 na_129 (by decide) dX8_unload_27) ?_
  refine al_cons (ok_callS hok mi_94 w_1073 w_1074 w_82 w_1075 na_94 (by decide) dX8_unload_30) ?_
  refine al_cons (eok_pure (pr_if_ne dX8_unload_33 (by decide))) ?_
  refine al_cons (eok_pure (pr_iconst dX8_unload_36 (by decide))) ?_
  refine al_cons (ok_retI rfl dX8_unload_37) ?_
  refine al_cons (eok_pure (pr_aload_n dX8_unload_38 rfl)) ?_
  refine al_cons (ok_callV hok mi_131 cl_X8 w_1120 w_1122 w_44 w_82 w_1123 na_131 (by decide) dX8_unload_39) ?_
  refine al_cons (eok_pure (pr_aload_n dX8_unload_42 rfl)) ?_
  refine al_cons (eok_pure (pr_iconst dX8_unload_43 (by decide))) ?_
  refine al_cons (eok_pure (pr_iload_n dX8_unload_44 rfl)) ?_
  refine al_cons (eok_pure (pr_ishl dX8_unload_45)) ?_
  refine al_cons (ok_callV hok mi_135 cl_X8 w_1151 w_1153 w_51 w_82 w_1154 na_135 (by decide) dX8_unload_46) ?_
  refine al_cons (eok_pure (pr_if_eq dX8_unload_49 (by decide))) ?_
  refine al_cons (eok_pure (pr_bipush dX8_unload_52 (by decide))) ?_
  refine al_cons (ok_retI rfl dX8_unload_54) ?_
  refine al_cons (eok_pure (pr_aload_n dX8_unload_55 rfl)) ?_
  refine al_cons (ok_callV hok mi_154 cl_X8 w_1260 w_1262 w_68 w_82 w_1263 na_154 (by decide) dX8_unload_56) ?_
  refine al_cons (eok_pure (pr_aload_n dX8_unload_59 rfl)) ?_
  refine al_cons (eok_pure (pr_iload_n dX8_unload_60 rfl)) ?_
  refine al_cons (ok_callV hok mi_129 cl_X8 w_1184 w_1186 w_57 w_82 w_1187 na_129 (by decide) dX8_unload_61) ?_
  refine al_cons (eok_pure (pr_iload_n dX8_unload_64 rfl)) ?_
  refine al_cons (eok_pure (pr_isub dX8_unload_65)) ?_
  refine al_cons (eok_pure (pr_istore_n dX8_unload_66 rfl)) ?_
  refine al_cons (eok_pure (pr_iconst dX8_unload_67 (by decide))) ?_
  refine al_cons (eok_pure (pr_istore dX8_unload_68)) ?_
  refine al_cons (eok_pure (pr_iload dX8_unload_70)) ?_
  refine al_cons (eok_pure (pr_aload_n dX8_unload_72 rfl)) ?_
  refine al_cons (ok_get cl_X8 gX8 (by decide) w_952 dX8_unload_73) ?_
  refine al_cons (eok_pure (pr_bipush dX8_unload_76 (by decide))) ?_
  refine al_cons (ok_iald dX8_unload_78) ?_
  refine al_cons (eok_pure (pr_icmp_ge dX8_unload_79 (by decide))) ?_
  refine al_cons (eok_pure (pr_aload_n dX8_unload_82 rfl)) ?_
  refine al_cons (eok_pure (pr_iload dX8_unload_83)) ?_
  refine al_cons (eok_pure (pr_iconst dX8_unload_85 (by decide))) ?_
  refine al_cons (ok_callV hok mi_124 cl_X8 w_1124 w_1126 w_45 w_82 w_1127 na_124 (by decide) dX8_unload_86) ?_
  refine al_cons (eok_pure (pr_iload_n dX8_unload_89 rfl)) ?_
  refine al_cons (eok_pure (pr_iconst dX8_unload_90 (by decide))) ?_
  refine al_cons (eok_pure (pr_iadd dX8_unload_91)) ?_
  refine al_cons (eok_pure (pr_icmp_ne dX8_unload_92 (by decide))) ?_
  refine al_cons (eok_pure (pr_aload_n dX8_unload_95 rfl)) ?_
  refine al_cons (eok_pure (pr_iload dX8_unload_96)) ?_
  refine al_cons (ok_callV hok mi_160 cl_X8 w_1284 w_1286 w_70 w_82 w_1287 na_160 (by decide) dX8_unload_98) ?_
  refine al_cons (eok_pure (pr_iinc dX8_unload_101 (by decide))) ?_
  refine al_cons (eok_pure (pr_goto dX8_unload_104 (by decide))) ?_
  refine al_cons (eok_pure (pr_aload_n dX8_unload_107 rfl)) ?_
  refine al_cons (ok_get cl_X8 gX8 (by decide) w_952 dX8_unload_108) ?_
  refine al_cons (eok_pure (pr_bipush dX8_unload_111 (by decide))) ?_
  refine al_cons (eok_pure (pr_iconst dX8_unload_113 (by decide))) ?_
  refine al_cons (eok_pure (pr_iload_n dX8_unload_114 rfl)) ?_
  refine al_cons (eok_pure (pr_imul dX8_unload_115)) ?_
  refine al_cons (eok_pure (pr_iadd dX8_unload_116)) ?_
  refine al_cons (eok_pure (pr_iconst dX8_unload_117 (by decide))) ?_
  refine al_cons (eok_pure (pr_iadd dX8_unload_118)) ?_
  refine al_cons (eok_pure (pr_iconst dX8_unload_119 (by decide))) ?_
  refine al_cons (ok_iast dX8_unload_120) ?_
  refine al_cons (eok_pure (pr_aload_n dX8_unload_121 rfl)) ?_
  refine al_cons (ok_get cl_X8 gX8 (by decide) w_952 dX8_unload_122) ?_
  refine al_cons (eok_pure (pr_bipush dX8_unload_125 (by decide))) ?_
  refine al_cons (eok_pure (pr_iconst dX8_unload_127 (by decide))) ?_
  refine al_cons (eok_pure (pr_iload_n dX8_unload_128 rfl)) ?_
  refine al_cons (eok_pure (pr_imul dX8_unload_129)) ?_
  refine al_cons (eok_pure (pr_iadd dX8_unload_130)) ?_
  refine al_cons (eok_pure (pr_iconst dX8_unload_131 (by decide))) ?_
  refine al_cons (eok_pure (pr_iadd dX8_unload_132)) ?_
  refine al_cons (eok_pure (pr_iload_n dX8_unload_133 rfl)) ?_
  refine al_cons (ok_iast dX8_unload_134) ?_
  refine al_cons (eok_pure (pr_aload_n dX8_unload_135 rfl)) ?_
  refine al_cons (ok_get cl_X8 gX8 (by decide) w_952 dX8_unload_136) ?_
  refine al_cons (eok_pure (pr_bipush dX8_unload_139 (by decide))) ?_
  refine al_cons (eok_pure (pr_iconst dX8_unload_141 (by decide))) ?_
  refine al_cons (eok_pure (pr_iload_n dX8_unload_142 rfl)) ?_
  refine al_cons (eok_pure (pr_imul dX8_unload_143)) ?_
  refine al_cons (eok_pure (pr_iadd dX8_unload_144)) ?_
  refine al_cons (eok_pure (pr_iconst dX8_unload_145 (by decide))) ?_
  refine al_cons (eok_pure (pr_iadd dX8_unload_146)) ?_
  refine al_cons (eok_pure (pr_iload_n dX8_unload_147 rfl)) ?_
  refine al_cons (ok_iast dX8_unload_148) ?_
  refine al_cons (eok_pure (pr_iload_n dX8_unload_149 rfl)) ?_
  refine al_cons (ok_retI rfl dX8_unload_150) ?_
  exact al_nil
def k_X8_empty (md : Bool) : List Ent := [ePure 0 (fLoadA 0 1 0),
  ePure 1 (fPush 1 1 (.int 0)),
  ePut 2 8 0 kInt,
  ePure 5 (fLoadA 5 1 0),
  ePure 6 (fLoadI 6 1 1),
  eCallV 7 1 121 8,
  ePure 10 (fIf1 10 22 b1_eq),
  ePure 13 (fLoadA 13 1 0),
  ePure 14 (fLoadI 14 1 1),
  ePure 15 (fPush 15 1 (.int 4)),
  eCallV 16 2 124 8,
  ePure 19 (fIf1 19 24 b1_ne),
  ePure 22 (fPush 22 1 (.int (-1))),
  eRetI 23,
  ePure 24 (fLoadA 24 1 0),
  ePure 25 (fLoadI 25 1 1),
  ePure 26 (fPush 26 1 (.int 4)),
  eCallV 27 2 124 8,
  ePure 30 (fPush 30 1 (.int 1)),
  ePure 31 (fBin 31 o_isub),
  ePure 32 (fStoI 32 1 2 4),
  ePure 33 (fLoadA 33 1 0),
  ePure 34 (fLoadI 34 1 2),
  ePure 35 (fPush 35 1 (.int 2)),
  eCallV 36 2 125 8,
  ePure 39 (fPush 39 1 (.int 1)),
  ePure 40 (fIf2 40 55 b2_ne),
  ePure 43 (fLoadA 43 1 0),
  ePure 44 (fPush 44 1 (.int 0)),
  eCallV 45 1 130 8,
  ePure 48 (fPush 48 1 (.int 4)),
  ePure 49 (fIf2 49 55 b2_ne),
  ePure 52 (fPush 52 2 (.int (-2))),
  eRetI 54,
  ePure 55 (fLoadA 55 1 0),
  eCallV 56 0 154 8,
  ePure 59 (fLoadA 59 1 0),
  ePure 60 (fLoadI 60 1 1),
  ePure 61 (fPush 61 1 (.int 3)),
  eCallV 62 2 124 8,
  ePure 65 (fStoI 65 1 3 4),
  ePure 66 (fLoadA 66 1 0),
  ePure 67 (fLoadI 67 1 1),
  eCallV 68 1 160 8,
  ePure 71 (fLoadA 71 1 0),
  eGet 72 8 11,
  ePure 75 (fPush 75 2 (.int 57)),
  ePure 77 (fPush 77 1 (.int 5)),
  ePure 78 (fLoadI 78 1 2),
  ePure 79 (fBin 79 o_imul),
  ePure 80 (fBin 80 o_iadd),
  ePure 81 (fPush 81 1 (.int 2)),
  ePure 82 (fBin 82 o_iadd),
  ePure 83 (fPush 83 1 (.int 0)),
  eIast 84 0 (fun x => x),
  ePure 85 (fLoadI 85 1 3),
  eRetI 86]
set_option maxRecDepth 100000 in
set_option maxHeartbeats 4000000 in
theorem ko_X8_empty {l : Launch} {D : va_G} {cA : Nat → ClassId} {B : BB} {G : State → Prop} {md : Bool} {d : Nat} {call : Call} (hG : ∀ s, G s → Gs B s) (hok : COk l D cA B G md d mI call) : ∀ e ∈ k_X8_empty md, EOk l RX8 cX8_empty 4 (some .int) false D cA B G md d call e := by
  unfold k_X8_empty
  refine al_cons (eok_pure (pr_aload_n dX8_empty_0 rfl)) ?_
  refine al_cons (eok_pure (pr_iconst dX8_empty_1 (by decide))) ?_
  refine al_cons (ok_put cl_X8 gX8 tyX8_ok nmX8 (by decide) w_941 rfl (by decide +kernel) (kok_int B) dX8_empty_2) ?_
  refine al_cons (eok_pure (pr_aload_n dX8_empty_5 rfl)) ?_
  refine al_cons (eok_pure (pr_iload_n dX8_empty_6 rfl)) ?_
  refine al_cons (ok_callV hok mi_121 cl_X8 w_1160 w_1162 w_52 w_82 w_1163 na_121 (by decide) dX8_empty_7) ?_
  refine al_cons (eok_pure (pr_if_eq dX8_empty_10 (by decide))) ?_
  refine al_cons (eok_pure (pr_aload_n dX8_empty_13 rfl)) ?_
  refine al_cons (eok_pure (pr_iload_n dX8_empty_14 rfl)) ?_
  refine al_cons (eok_pure (pr_iconst dX8_empty_15 (by decide))) ?_
  refine al_cons (ok_callV hok mi_124 cl_X8 w_1124 w_1126 w_45 w_82 w_1127 na_124 (by decide) dX8_empty_16) ?_
  refine al_cons (eok_pure (pr_if_ne dX8_empty_19 (by decide))) ?_
  refine al_cons (eok_pure (pr_iconst dX8_empty_22 (by decide))) ?_
  refine al_cons (ok_retI rfl dX8_empty_23) ?_
  refine al_cons (eok_pure (pr_aload_n dX8_empty_24 rfl)) ?_
  refine al_cons (eok_pure (pr_iload_n dX8_empty_25 rfl)) ?_
  refine al_cons (eok_pure (pr_iconst dX8_empty_26 (by decide))) ?_
  refine al_cons (ok_callV hok mi_124 cl_X8 w_1124 w_1126 w_45 w_82 w_1127 na_124 (by decide) dX8_empty_27) ?_
  refine al_cons (eok_pure (pr_iconst dX8_empty_30 (by decide))) ?_
  refine al_cons (eok_pure (pr_isub dX8_empty_31)) ?_
  refine al_cons (eok_pure (pr_istore_n dX8_empty_32 rfl)) ?_
  refine al_cons (eok_pure (pr_aload_n dX8_empty_33 rfl)) ?_
  refine al_cons (eok_pure (pr_iload_n dX8_empty_34 rfl)) ?_
  refine al_cons (eok_pure (pr_iconst dX8_empty_35 (by decide))) ?_
  refine al_cons (ok_callV hok mi_125 cl_X8 w_1128 w_1130 w_46 w_82 w_1131 na_125 (by decide) dX8_empty_36) ?_
  refine al_cons (eok_pure (pr_iconst dX8_empty_39 (by decide))) ?_
  refine al_cons (eok_pure (pr_icmp_ne dX8_empty_40 (by decide))) ?_
  refine al_cons (eok_pure (pr_aload_n dX8_empty_43 rfl)) ?_
  refine al_cons (eok_pure (pr_iconst dX8_empty_44 (by decide))) ?_
  refine al_cons (ok_callV hok mi_130 cl_X8 w_1252 w_1254 w_67 w_82 w_1255 na_130 (by decide) dX8_empty_45) ?_
  refine al_cons (eok_pure (pr_iconst dX8_empty_48 (by decide))) ?_
  refine al_cons (eok_pure (pr_icmp_ne dX8_empty_49 (by decide))) ?_
  refine al_cons (eok_pure (pr_bipush dX8_empty_52 (by decide))) ?_
  refine al_cons (ok_retI rfl dX8_empty_54) ?_
  refine al_cons (eok_pure (pr_aload_n dX8_empty_55 rfl)) ?_
  refine al_cons (ok_callV hok mi_154 cl_X8 w_1260 w_1262 w_68 w_82 w_1263 na_154 (by decide) dX8_empty_56) ?_
  refine al_cons (eok_pure (pr_aload_n dX8_empty_59 rfl)) ?_
  refine al_cons (eok_pure (pr_iload_n dX8_empty_60 rfl)) ?_
  refine al_cons (eok_pure (pr_iconst dX8_empty_61 (by decide))) ?_
  refine al_cons (ok_callV hok mi_124 cl_X8 w_1124 w_1126 w_45 w_82 w_1127 na_124 (by decide) dX8_empty_62) ?_
  refine al_cons (eok_pure (pr_istore_n dX8_empty_65 rfl)) ?_
  refine al_cons (eok_pure (pr_aload_n dX8_empty_66 rfl)) ?_
  refine al_cons (eok_pure (pr_iload_n dX8_empty_67 rfl)) ?_
  refine al_cons (ok_callV hok mi_160 cl_X8 w_1284 w_1286 w_70 w_82 w_1287 na_160 (by decide) dX8_empty_68) ?_
  refine al_cons (eok_pure (pr_aload_n dX8_empty_71 rfl)) ?_
  refine al_cons (ok_get cl_X8 gX8 (by decide) w_952 dX8_empty_72) ?_
  refine al_cons (eok_pure (pr_bipush dX8_empty_75 (by decide))) ?_
  refine al_cons (eok_pure (pr_iconst dX8_empty_77 (by decide))) ?_
  refine al_cons (eok_pure (pr_iload_n dX8_empty_78 rfl)) ?_
  refine al_cons (eok_pure (pr_imul dX8_empty_79)) ?_
  refine al_cons (eok_pure (pr_iadd dX8_empty_80)) ?_
  refine al_cons (eok_pure (pr_iconst dX8_empty_81 (by decide))) ?_
  refine al_cons (eok_pure (pr_iadd dX8_empty_82)) ?_
  refine al_cons (eok_pure (pr_iconst dX8_empty_83 (by decide))) ?_
  refine al_cons (ok_iast dX8_empty_84) ?_
  refine al_cons (eok_pure (pr_iload_n dX8_empty_85 rfl)) ?_
  refine al_cons (ok_retI rfl dX8_empty_86) ?_
  exact al_nil
def k_X8_wash (md : Bool) : List Ent := [ePure 0 (fLoadA 0 1 0),
  ePure 1 (fPush 1 1 (.int 0)),
  ePut 2 8 0 kInt,
  ePure 5 (fLoadA 5 1 0),
  ePure 6 (fLoadI 6 1 1),
  eCallV 7 1 121 8,
  ePure 10 (fIf1 10 31 b1_eq),
  ePure 13 (fLoadA 13 1 0),
  ePure 14 (fLoadI 14 1 1),
  ePure 15 (fPush 15 1 (.int 4)),
  eCallV 16 2 124 8,
  ePure 19 (fIf1 19 31 b1_gt),
  ePure 22 (fLoadA 22 1 0),
  ePure 23 (fLoadI 23 1 1),
  ePure 24 (fPush 24 1 (.int 5)),
  eCallV 25 2 124 8,
  ePure 28 (fIf1 28 33 b1_ne),
  ePure 31 (fPush 31 1 (.int 0)),
  eRetZ 32,
  ePure 33 (fLoadA 33 1 0),
  eCallV 34 0 154 8,
  ePure 37 (fLoadA 37 1 0),
  eGet 38 8 11,
  ePure 41 (fPush 41 2 (.int 27)),
  ePure 43 (fPush 43 2 (.int 6)),
  ePure 45 (fLoadI 45 1 1),
  ePure 46 (fBin 46 o_imul),
  ePure 47 (fBin 47 o_iadd),
  ePure 48 (fPush 48 1 (.int 5)),
  ePure 49 (fBin 49 o_iadd),
  ePure 50 (fPush 50 1 (.int 0)),
  eIast 51 0 (fun x => x),
  ePure 52 (fLoadA 52 1 0),
  eGet 53 8 11,
  ePure 56 (fPush 56 2 (.int 14)),
  ePure 58 (fDup2 58),
  eIald 59 0,
  ePure 60 (fPush 60 1 (.int 1)),
  ePure 61 (fBin 61 o_iadd),
  eIast 62 0 (fun x => x),
  ePure 63 (fPush 63 1 (.int 1)),
  eRetZ 64]
set_option maxRecDepth 100000 in
set_option maxHeartbeats 4000000 in
theorem ko_X8_wash {l : Launch} {D : va_G} {cA : Nat → ClassId} {B : BB} {G : State → Prop} {md : Bool} {d : Nat} {call : Call} (hG : ∀ s, G s → Gs B s) (hok : COk l D cA B G md d mI call) : ∀ e ∈ k_X8_wash md, EOk l RX8 cX8_wash 2 (some .boolean) false D cA B G md d call e := by
  unfold k_X8_wash
  refine al_cons (eok_pure (pr_aload_n dX8_wash_0 rfl)) ?_
  refine al_cons (eok_pure (pr_iconst dX8_wash_1 (by decide))) ?_
  refine al_cons (ok_put cl_X8 gX8 tyX8_ok nmX8 (by decide) w_941 rfl (by decide +kernel) (kok_int B) dX8_wash_2) ?_
  refine al_cons (eok_pure (pr_aload_n dX8_wash_5 rfl)) ?_
  refine al_cons (eok_pure (pr_iload_n dX8_wash_6 rfl)) ?_
  refine al_cons (ok_callV hok mi_121 cl_X8 w_1160 w_1162 w_52 w_82 w_1163 na_121 (by decide) dX8_wash_7) ?_
  refine al_cons (eok_pure (pr_if_eq dX8_wash_10 (by decide))) ?_
  refine al_cons (eok_pure (pr_aload_n dX8_wash_13 rfl)) ?_
  refine al_cons (eok_pure (pr_iload_n dX8_wash_14 rfl)) ?_
  refine al_cons (eok_pure (pr_iconst dX8_wash_15 (by decide))) ?_
  refine al_cons (ok_callV hok mi_124 cl_X8 w_1124 w_1126 w_45 w_82 w_1127 na_124 (by decide) dX8_wash_16) ?_
  refine al_cons (eok_pure (pr_if_gt dX8_wash_19 (by decide))) ?_
  refine al_cons (eok_pure (pr_aload_n dX8_wash_22 rfl)) ?_
  refine al_cons (eok_pure (pr_iload_n dX8_wash_23 rfl)) ?_
  refine al_cons (eok_pure (pr_iconst dX8_wash_24 (by decide))) ?_
  refine al_cons (ok_callV hok mi_124 cl_X8 w_1124 w_1126 w_45 w_82 w_1127 na_124 (by decide) dX8_wash_25) ?_
  refine al_cons (eok_pure (pr_if_ne dX8_wash_28 (by decide))) ?_
  refine al_cons (eok_pure (pr_iconst dX8_wash_31 (by decide))) ?_
  refine al_cons (ok_retZ rfl dX8_wash_32) ?_
  refine al_cons (eok_pure (pr_aload_n dX8_wash_33 rfl)) ?_
  refine al_cons (ok_callV hok mi_154 cl_X8 w_1260 w_1262 w_68 w_82 w_1263 na_154 (by decide) dX8_wash_34) ?_
  refine al_cons (eok_pure (pr_aload_n dX8_wash_37 rfl)) ?_
  refine al_cons (ok_get cl_X8 gX8 (by decide) w_952 dX8_wash_38) ?_
  refine al_cons (eok_pure (pr_bipush dX8_wash_41 (by decide))) ?_
  refine al_cons (eok_pure (pr_bipush dX8_wash_43 (by decide))) ?_
  refine al_cons (eok_pure (pr_iload_n dX8_wash_45 rfl)) ?_
  refine al_cons (eok_pure (pr_imul dX8_wash_46)) ?_
  refine al_cons (eok_pure (pr_iadd dX8_wash_47)) ?_
  refine al_cons (eok_pure (pr_iconst dX8_wash_48 (by decide))) ?_
  refine al_cons (eok_pure (pr_iadd dX8_wash_49)) ?_
  refine al_cons (eok_pure (pr_iconst dX8_wash_50 (by decide))) ?_
  refine al_cons (ok_iast dX8_wash_51) ?_
  refine al_cons (eok_pure (pr_aload_n dX8_wash_52 rfl)) ?_
  refine al_cons (ok_get cl_X8 gX8 (by decide) w_952 dX8_wash_53) ?_
  refine al_cons (eok_pure (pr_bipush dX8_wash_56 (by decide))) ?_
  refine al_cons (eok_pure (pr_dup2 dX8_wash_58)) ?_
  refine al_cons (ok_iald dX8_wash_59) ?_
  refine al_cons (eok_pure (pr_iconst dX8_wash_60 (by decide))) ?_
  refine al_cons (eok_pure (pr_iadd dX8_wash_61)) ?_
  refine al_cons (ok_iast dX8_wash_62) ?_
  refine al_cons (eok_pure (pr_iconst dX8_wash_63 (by decide))) ?_
  refine al_cons (ok_retZ rfl dX8_wash_64) ?_
  exact al_nil
def k_X8_undo (md : Bool) : List Ent := [ePure 0 (fLoadA 0 1 0),
  ePure 1 (fPush 1 1 (.int 0)),
  ePut 2 8 0 kInt,
  ePure 5 (fLoadA 5 1 0),
  eGet 6 8 14,
  ePure 9 (fIf1 9 14 b1_ne),
  ePure 12 (fPush 12 1 (.int (-1))),
  eRetI 13,
  ePure 14 (fLoadA 14 1 0),
  ePure 15 (fDup 15),
  eGet 16 8 14,
  ePure 19 (fPush 19 1 (.int 1)),
  ePure 20 (fBin 20 o_isub),
  ePut 21 8 14 kInt,
  ePure 24 (fPush 24 1 (.int 0)),
  ePure 25 (fStoI 25 1 1 2),
  ePure 26 (fLoadI 26 1 1),
  ePure 27 (fPush 27 3 (.int 157)),
  ePure 30 (fIf2 30 60 b2_ge),
  ePure 33 (fLoadA 33 1 0),
  eGet 34 8 11,
  ePure 37 (fLoadI 37 1 1),
  ePure 38 (fLoadA 38 1 0),
  eGet 39 8 13,
  ePure 42 (fPush 42 3 (.int 157)),
  ePure 45 (fLoadA 45 1 0),
  eGet 46 8 14,
  ePure 49 (fBin 49 o_imul),
  ePure 50 (fLoadI 50 1 1),
  ePure 51 (fBin 51 o_iadd),
  eIald 52 0,
  eIast 53 0 (fun x => x),
  ePure 54 (fInc 54 1 2 1),
  ePure 57 (fGoto 26),
  ePure 60 (fLoadA 60 1 0),
  eGet 61 8 14,
  eRetI 64]
set_option maxRecDepth 100000 in
set_option maxHeartbeats 4000000 in
theorem ko_X8_undo {l : Launch} {D : va_G} {cA : Nat → ClassId} {B : BB} {G : State → Prop} {md : Bool} {d : Nat} {call : Call} (hG : ∀ s, G s → Gs B s) (hok : COk l D cA B G md d mI call) : ∀ e ∈ k_X8_undo md, EOk l RX8 cX8_undo 2 (some .int) false D cA B G md d call e := by
  unfold k_X8_undo
  refine al_cons (eok_pure (pr_aload_n dX8_undo_0 rfl)) ?_
  refine al_cons (eok_pure (pr_iconst dX8_undo_1 (by decide))) ?_
  refine al_cons (ok_put cl_X8 gX8 tyX8_ok nmX8 (by decide) w_941 rfl (by decide +kernel) (kok_int B) dX8_undo_2) ?_
  refine al_cons (eok_pure (pr_aload_n dX8_undo_5 rfl)) ?_
  refine al_cons (ok_get cl_X8 gX8 (by decide) w_955 dX8_undo_6) ?_
  refine al_cons (eok_pure (pr_if_ne dX8_undo_9 (by decide))) ?_
  refine al_cons (eok_pure (pr_iconst dX8_undo_12 (by decide))) ?_
  refine al_cons (ok_retI rfl dX8_undo_13) ?_
  refine al_cons (eok_pure (pr_aload_n dX8_undo_14 rfl)) ?_
  refine al_cons (eok_pure (pr_dup dX8_undo_15)) ?_
  refine al_cons (ok_get cl_X8 gX8 (by decide) w_955 dX8_undo_16) ?_
  refine al_cons (eok_pure (pr_iconst dX8_undo_19 (by decide))) ?_
  refine al_cons (eok_pure (pr_isub dX8_undo_20)) ?_
  refine al_cons (ok_put cl_X8 gX8 tyX8_ok nmX8 (by decide) w_955 rfl (by decide +kernel) (kok_int B) dX8_undo_21) ?_
  refine al_cons (eok_pure (pr_iconst dX8_undo_24 (by decide))) ?_
  refine al_cons (eok_pure (pr_istore_n dX8_undo_25 rfl)) ?_
  refine al_cons (eok_pure (pr_iload_n dX8_undo_26 rfl)) ?_
  refine al_cons (eok_pure (pr_sipush dX8_undo_27 (by decide))) ?_
  refine al_cons (eok_pure (pr_icmp_ge dX8_undo_30 (by decide))) ?_
  refine al_cons (eok_pure (pr_aload_n dX8_undo_33 rfl)) ?_
  refine al_cons (ok_get cl_X8 gX8 (by decide) w_952 dX8_undo_34) ?_
  refine al_cons (eok_pure (pr_iload_n dX8_undo_37 rfl)) ?_
  refine al_cons (eok_pure (pr_aload_n dX8_undo_38 rfl)) ?_
  refine al_cons (ok_get cl_X8 gX8 (by decide) w_954 dX8_undo_39) ?_
  refine al_cons (eok_pure (pr_sipush dX8_undo_42 (by decide))) ?_
  refine al_cons (eok_pure (pr_aload_n dX8_undo_45 rfl)) ?_
  refine al_cons (ok_get cl_X8 gX8 (by decide) w_955 dX8_undo_46) ?_
  refine al_cons (eok_pure (pr_imul dX8_undo_49)) ?_
  refine al_cons (eok_pure (pr_iload_n dX8_undo_50 rfl)) ?_
  refine al_cons (eok_pure (pr_iadd dX8_undo_51)) ?_
  refine al_cons (ok_iald dX8_undo_52) ?_
  refine al_cons (ok_iast dX8_undo_53) ?_
  refine al_cons (eok_pure (pr_iinc dX8_undo_54 (by decide))) ?_
  refine al_cons (eok_pure (pr_goto dX8_undo_57 (by decide))) ?_
  refine al_cons (eok_pure (pr_aload_n dX8_undo_60 rfl)) ?_
  refine al_cons (ok_get cl_X8 gX8 (by decide) w_955 dX8_undo_61) ?_
  refine al_cons (ok_retI rfl dX8_undo_64) ?_
  exact al_nil
def k_J7_fill_53178 (md : Bool) : List Ent := [ePure 0 (fPush 0 1 (.int 0)),
  ePure 1 (fStoI 1 1 2 4),
  ePure 2 (fLoadA 2 1 0),
  eLen 3,
  ePure 4 (fStoI 4 1 3 4),
  ePure 5 (fLoadI 5 1 2),
  ePure 6 (fLoadI 6 1 3),
  ePure 7 (fIf2 7 20 b2_ge),
  ePure 10 (fLoadA 10 1 0),
  ePure 11 (fLoadI 11 1 2),
  ePure 12 (fLoadI 12 1 1),
  eIast 13 0 (fun x => x),
  ePure 14 (fInc 14 2 4 1),
  ePure 17 (fGoto 5),
  eRetV 20]
set_option maxRecDepth 100000 in
set_option maxHeartbeats 4000000 in
theorem ko_J7_fill_53178 {l : Launch} {D : va_G} {cA : Nat → ClassId} {B : BB} {G : State → Prop} {md : Bool} {d : Nat} {call : Call} (hG : ∀ s, G s → Gs B s) (hok : COk l D cA B G md d mI call) : ∀ e ∈ k_J7_fill_53178 md, EOk l RJ7 cJ7_fill_53178 4 none false D cA B G md d call e := by
  unfold k_J7_fill_53178
  refine al_cons (eok_pure (pr_iconst dJ7_fill_53178_0 (by decide))) ?_
  refine al_cons (eok_pure (pr_istore_n dJ7_fill_53178_1 rfl)) ?_
  refine al_cons (eok_pure (pr_aload_n dJ7_fill_53178_2 rfl)) ?_
  refine al_cons (ok_len dJ7_fill_53178_3) ?_
  refine al_cons (eok_pure (pr_istore_n dJ7_fill_53178_4 rfl)) ?_
  refine al_cons (eok_pure (pr_iload_n dJ7_fill_53178_5 rfl)) ?_
  refine al_cons (eok_pure (pr_iload_n dJ7_fill_53178_6 rfl)) ?_
  refine al_cons (eok_pure (pr_icmp_ge dJ7_fill_53178_7 (by decide))) ?_
  refine al_cons (eok_pure (pr_aload_n dJ7_fill_53178_10 rfl)) ?_
  refine al_cons (eok_pure (pr_iload_n dJ7_fill_53178_11 rfl)) ?_
  refine al_cons (eok_pure (pr_iload_n dJ7_fill_53178_12 rfl)) ?_
  refine al_cons (ok_iast dJ7_fill_53178_13) ?_
  refine al_cons (eok_pure (pr_iinc dJ7_fill_53178_14 (by decide))) ?_
  refine al_cons (eok_pure (pr_goto dJ7_fill_53178_17 (by decide))) ?_
  refine al_cons (ok_retV rfl dJ7_fill_53178_20) ?_
  exact al_nil
def k_J13_bitCount_95d88 (md : Bool) : List Ent := [ePure 0 (fLoadJ 0 1 0),
  ePure 1 (fLoadJ 1 1 0),
  ePure 2 (fPush 2 1 (.int 1)),
  ePure 3 (fShJ 3 o_lushr),
  ePure 4 (fPush 4 3 (.long 6148914691236517205)),
  ePure 7 (fBinJ 7 o_land),
  ePure 8 (fBinJ 8 o_lsub),
  ePure 9 (fStoJ 9 1 0 2),
  ePure 10 (fLoadJ 10 1 0),
  ePure 11 (fPush 11 3 (.long 3689348814741910323)),
  ePure 14 (fBinJ 14 o_land),
  ePure 15 (fLoadJ 15 1 0),
  ePure 16 (fPush 16 1 (.int 2)),
  ePure 17 (fShJ 17 o_lushr),
  ePure 18 (fPush 18 3 (.long 3689348814741910323)),
  ePure 21 (fBinJ 21 o_land),
  ePure 22 (fBinJ 22 o_ladd),
  ePure 23 (fStoJ 23 1 0 2),
  ePure 24 (fLoadJ 24 1 0),
  ePure 25 (fLoadJ 25 1 0),
  ePure 26 (fPush 26 1 (.int 4)),
  ePure 27 (fShJ 27 o_lushr),
  ePure 28 (fBinJ 28 o_ladd),
  ePure 29 (fPush 29 3 (.long 1085102592571150095)),
  ePure 32 (fBinJ 32 o_land),
  ePure 33 (fStoJ 33 1 0 2),
  ePure 34 (fLoadJ 34 1 0),
  ePure 35 (fLoadJ 35 1 0),
  ePure 36 (fPush 36 2 (.int 8)),
  ePure 38 (fShJ 38 o_lushr),
  ePure 39 (fBinJ 39 o_ladd),
  ePure 40 (fStoJ 40 1 0 2),
  ePure 41 (fLoadJ 41 1 0),
  ePure 42 (fLoadJ 42 1 0),
  ePure 43 (fPush 43 2 (.int 16)),
  ePure 45 (fShJ 45 o_lushr),
  ePure 46 (fBinJ 46 o_ladd),
  ePure 47 (fStoJ 47 1 0 2),
  ePure 48 (fLoadJ 48 1 0),
  ePure 49 (fLoadJ 49 1 0),
  ePure 50 (fPush 50 2 (.int 32)),
  ePure 52 (fShJ 52 o_lushr),
  ePure 53 (fBinJ 53 o_ladd),
  ePure 54 (fStoJ 54 1 0 2),
  ePure 55 (fLoadJ 55 1 0),
  ePure 56 (f_l2i 56),
  ePure 57 (fPush 57 2 (.int 127)),
  ePure 59 (fBin 59 o_iand),
  eRetI 60]
set_option maxRecDepth 100000 in
set_option maxHeartbeats 4000000 in
theorem ko_J13_bitCount_95d88 {l : Launch} {D : va_G} {cA : Nat → ClassId} {B : BB} {G : State → Prop} {md : Bool} {d : Nat} {call : Call} (hG : ∀ s, G s → Gs B s) (hok : COk l D cA B G md d mI call) : ∀ e ∈ k_J13_bitCount_95d88 md, EOk l RJ13 cJ13_bitCount_95d88 2 (some .int) false D cA B G md d call e := by
  unfold k_J13_bitCount_95d88
  refine al_cons (eok_pure (pr_lload_n dJ13_bitCount_95d88_0 rfl)) ?_
  refine al_cons (eok_pure (pr_lload_n dJ13_bitCount_95d88_1 rfl)) ?_
  refine al_cons (eok_pure (pr_iconst dJ13_bitCount_95d88_2 (by decide))) ?_
  refine al_cons (eok_pure (pr_lushr dJ13_bitCount_95d88_3)) ?_
  refine al_cons (eok_pure (pr_ldc2 dJ13_bitCount_95d88_4 w_607)) ?_
  refine al_cons (eok_pure (pr_land dJ13_bitCount_95d88_7)) ?_
  refine al_cons (eok_pure (pr_lsub dJ13_bitCount_95d88_8)) ?_
  refine al_cons (eok_pure (pr_lstore_n dJ13_bitCount_95d88_9 rfl)) ?_
  refine al_cons (eok_pure (pr_lload_n dJ13_bitCount_95d88_10 rfl)) ?_
  refine al_cons (eok_pure (pr_ldc2 dJ13_bitCount_95d88_11 w_608)) ?_
  refine al_cons (eok_pure (pr_land dJ13_bitCount_95d88_14)) ?_
  refine al_cons (eok_pure (pr_lload_n dJ13_bitCount_95d88_15 rfl)) ?_
  refine al_cons (eok_pure (pr_iconst dJ13_bitCount_95d88_16 (by decide))) ?_
  refine al_cons (eok_pure (pr_lushr dJ13_bitCount_95d88_17)) ?_
  refine al_cons (eok_pure (pr_ldc2 dJ13_bitCount_95d88_18 w_608)) ?_
  refine al_cons (eok_pure (pr_land dJ13_bitCount_95d88_21)) ?_
  refine al_cons (eok_pure (pr_ladd dJ13_bitCount_95d88_22)) ?_
  refine al_cons (eok_pure (pr_lstore_n dJ13_bitCount_95d88_23 rfl)) ?_
  refine al_cons (eok_pure (pr_lload_n dJ13_bitCount_95d88_24 rfl)) ?_
  refine al_cons (eok_pure (pr_lload_n dJ13_bitCount_95d88_25 rfl)) ?_
  refine al_cons (eok_pure (pr_iconst dJ13_bitCount_95d88_26 (by decide))) ?_
  refine al_cons (eok_pure (pr_lushr dJ13_bitCount_95d88_27)) ?_
  refine al_cons (eok_pure (pr_ladd dJ13_bitCount_95d88_28)) ?_
  refine al_cons (eok_pure (pr_ldc2 dJ13_bitCount_95d88_29 w_609)) ?_
  refine al_cons (eok_pure (pr_land dJ13_bitCount_95d88_32)) ?_
  refine al_cons (eok_pure (pr_lstore_n dJ13_bitCount_95d88_33 rfl)) ?_
  refine al_cons (eok_pure (pr_lload_n dJ13_bitCount_95d88_34 rfl)) ?_
  refine al_cons (eok_pure (pr_lload_n dJ13_bitCount_95d88_35 rfl)) ?_
  refine al_cons (eok_pure (pr_bipush dJ13_bitCount_95d88_36 (by decide))) ?_
  refine al_cons (eok_pure (pr_lushr dJ13_bitCount_95d88_38)) ?_
  refine al_cons (eok_pure (pr_ladd dJ13_bitCount_95d88_39)) ?_
  refine al_cons (eok_pure (pr_lstore_n dJ13_bitCount_95d88_40 rfl)) ?_
  refine al_cons (eok_pure (pr_lload_n dJ13_bitCount_95d88_41 rfl)) ?_
  refine al_cons (eok_pure (pr_lload_n dJ13_bitCount_95d88_42 rfl)) ?_
  refine al_cons (eok_pure (pr_bipush dJ13_bitCount_95d88_43 (by decide))) ?_
  refine al_cons (eok_pure (pr_lushr dJ13_bitCount_95d88_45)) ?_
  refine al_cons (eok_pure (pr_ladd dJ13_bitCount_95d88_46)) ?_
  refine al_cons (eok_pure (pr_lstore_n dJ13_bitCount_95d88_47 rfl)) ?_
  refine al_cons (eok_pure (pr_lload_n dJ13_bitCount_95d88_48 rfl)) ?_
  refine al_cons (eok_pure (pr_lload_n dJ13_bitCount_95d88_49 rfl)) ?_
  refine al_cons (eok_pure (pr_bipush dJ13_bitCount_95d88_50 (by decide))) ?_
  refine al_cons (eok_pure (pr_lushr dJ13_bitCount_95d88_52)) ?_
  refine al_cons (eok_pure (pr_ladd dJ13_bitCount_95d88_53)) ?_
  refine al_cons (eok_pure (pr_lstore_n dJ13_bitCount_95d88_54 rfl)) ?_
  refine al_cons (eok_pure (pr_lload_n dJ13_bitCount_95d88_55 rfl)) ?_
  refine al_cons (eok_pure (pr_l2i dJ13_bitCount_95d88_56)) ?_
  refine al_cons (eok_pure (pr_bipush dJ13_bitCount_95d88_57 (by decide))) ?_
  refine al_cons (eok_pure (pr_iand dJ13_bitCount_95d88_59)) ?_
  refine al_cons (ok_retI rfl dJ13_bitCount_95d88_60) ?_
  exact al_nil
def k_J0_length_8abf5 (md : Bool) : List Ent := [ePure 0 (fLoadA 0 1 0),
  eSp 1 3 fSVal,
  eSp 4 1 fSLen,
  ePure 5 (fLoadA 5 1 0),
  eCallT 6 0 168,
  ePure 9 (fBin 9 o_ishr),
  eRetI 10]
set_option maxRecDepth 100000 in
set_option maxHeartbeats 4000000 in
theorem ko_J0_length_8abf5 {l : Launch} {D : va_G} {cA : Nat → ClassId} {B : BB} {G : State → Prop} {md : Bool} {d : Nat} {call : Call} (hG : ∀ s, G s → Gs B s) (hok : COk l D cA B G md d mI call) : ∀ e ∈ k_J0_length_8abf5 md, EOk l RJ0 cJ0_length_8abf5 1 (some .int) false D cA B G md d call e := by
  unfold k_J0_length_8abf5
  refine al_cons (eok_pure (pr_aload_n dJ0_length_8abf5_0 rfl)) ?_
  refine al_cons (eok_sp (sr_sval hG w_1314 dJ0_length_8abf5_1)) ?_
  refine al_cons (eok_sp (sr_slen hG dJ0_length_8abf5_4)) ?_
  refine al_cons (eok_pure (pr_aload_n dJ0_length_8abf5_5 rfl)) ?_
  refine al_cons (ok_callT hG hok mi_168 w_491 w_492 w_493 w_83 w_494 na_168 (by decide) dJ0_length_8abf5_6) ?_
  refine al_cons (eok_pure (pr_ishr dJ0_length_8abf5_9)) ?_
  refine al_cons (ok_retI rfl dJ0_length_8abf5_10) ?_
  exact al_nil
def k_J0_coder_7d493 (md : Bool) : List Ent := [eSp 0 3 (fSp (.int 1)),
  ePure 3 (fIf1 3 13 b1_eq),
  ePure 6 (fLoadA 6 1 0),
  eSp 7 3 fSCod,
  ePure 10 (fGoto 14),
  ePure 13 (fPush 13 1 (.int 1)),
  eRetN 14 .byte]
set_option maxRecDepth 100000 in
set_option maxHeartbeats 4000000 in
theorem ko_J0_coder_7d493 {l : Launch} {D : va_G} {cA : Nat → ClassId} {B : BB} {G : State → Prop} {md : Bool} {d : Nat} {call : Call} (hG : ∀ s, G s → Gs B s) (hok : COk l D cA B G md d mI call) : ∀ e ∈ k_J0_coder_7d493 md, EOk l RJ0 cJ0_coder_7d493 1 (some .byte) false D cA B G md d call e := by
  unfold k_J0_coder_7d493
  refine al_cons (eok_sp (sr_gst (c := "java/lang/String") (n := "COMPACT_STRINGS") (d := "Z") (fun s g => (hG s g).2.2.1) w_495 dJ0_coder_7d493_0)) ?_
  refine al_cons (eok_pure (pr_if_eq dJ0_coder_7d493_3 (by decide))) ?_
  refine al_cons (eok_pure (pr_aload_n dJ0_coder_7d493_6 rfl)) ?_
  refine al_cons (eok_sp (sr_scod hG w_1315 dJ0_coder_7d493_7)) ?_
  refine al_cons (eok_pure (pr_goto dJ0_coder_7d493_10 (by decide))) ?_
  refine al_cons (eok_pure (pr_iconst dJ0_coder_7d493_13 (by decide))) ?_
  refine al_cons (ok_retN rfl dJ0_coder_7d493_14) ?_
  exact al_nil
def k_J0_charAt_5068e (md : Bool) : List Ent := [ePure 0 (fLoadA 0 1 0),
  eCallT 1 0 170,
  ePure 4 (fIf1 4 16 b1_eq),
  ePure 7 (fLoadA 7 1 0),
  eSp 8 3 fSVal,
  ePure 11 (fLoadI 11 1 1),
  eCallS 12 2 172,
  eRetN 15 .char]
set_option maxRecDepth 100000 in
set_option maxHeartbeats 4000000 in
theorem ko_J0_charAt_5068e {l : Launch} {D : va_G} {cA : Nat → ClassId} {B : BB} {G : State → Prop} {md : Bool} {d : Nat} {call : Call} (hG : ∀ s, G s → Gs B s) (hok : COk l D cA B G md d mI call) : ∀ e ∈ k_J0_charAt_5068e md, EOk l RJ0 cJ0_charAt_5068e 2 (some .char) false D cA B G md d call e := by
  unfold k_J0_charAt_5068e
  refine al_cons (eok_pure (pr_aload_n dJ0_charAt_5068e_0 rfl)) ?_
  refine al_cons (ok_callT hG hok mi_170 w_501 w_502 w_503 w_83 w_504 na_170 (by decide) dJ0_charAt_5068e_1) ?_
  refine al_cons (eok_pure (pr_if_eq dJ0_charAt_5068e_4 (by decide))) ?_
  refine al_cons (eok_pure (pr_aload_n dJ0_charAt_5068e_7 rfl)) ?_
  refine al_cons (eok_sp (sr_sval hG w_1314 dJ0_charAt_5068e_8)) ?_
  refine al_cons (eok_pure (pr_iload_n dJ0_charAt_5068e_11 rfl)) ?_
  refine al_cons (ok_callS hok mi_172 w_505 w_506 w_84 w_507 na_172 (by decide) dJ0_charAt_5068e_12) ?_
  refine al_cons (ok_retN rfl dJ0_charAt_5068e_15) ?_
  exact al_nil
def k_J0_isLatin1_aae02 (md : Bool) : List Ent := [eSp 0 3 (fSp (.int 1)),
  ePure 3 (fIf1 3 17 b1_eq),
  ePure 6 (fLoadA 6 1 0),
  eSp 7 3 fSCod,
  ePure 10 (fIf1 10 17 b1_ne),
  ePure 13 (fPush 13 1 (.int 1)),
  ePure 14 (fGoto 18),
  ePure 17 (fPush 17 1 (.int 0)),
  eRetZ 18]
set_option maxRecDepth 100000 in
set_option maxHeartbeats 4000000 in
theorem ko_J0_isLatin1_aae02 {l : Launch} {D : va_G} {cA : Nat → ClassId} {B : BB} {G : State → Prop} {md : Bool} {d : Nat} {call : Call} (hG : ∀ s, G s → Gs B s) (hok : COk l D cA B G md d mI call) : ∀ e ∈ k_J0_isLatin1_aae02 md, EOk l RJ0 cJ0_isLatin1_aae02 1 (some .boolean) false D cA B G md d call e := by
  unfold k_J0_isLatin1_aae02
  refine al_cons (eok_sp (sr_gst (c := "java/lang/String") (n := "COMPACT_STRINGS") (d := "Z") (fun s g => (hG s g).2.2.1) w_495 dJ0_isLatin1_aae02_0)) ?_
  refine al_cons (eok_pure (pr_if_eq dJ0_isLatin1_aae02_3 (by decide))) ?_
  refine al_cons (eok_pure (pr_aload_n dJ0_isLatin1_aae02_6 rfl)) ?_
  refine al_cons (eok_sp (sr_scod hG w_1315 dJ0_isLatin1_aae02_7)) ?_
  refine al_cons (eok_pure (pr_if_ne dJ0_isLatin1_aae02_10 (by decide))) ?_
  refine al_cons (eok_pure (pr_iconst dJ0_isLatin1_aae02_13 (by decide))) ?_
  refine al_cons (eok_pure (pr_goto dJ0_isLatin1_aae02_14 (by decide))) ?_
  refine al_cons (eok_pure (pr_iconst dJ0_isLatin1_aae02_17 (by decide))) ?_
  refine al_cons (ok_retZ rfl dJ0_isLatin1_aae02_18) ?_
  exact al_nil
def k_J0_checkIndex_df160 (md : Bool) : List Ent := [ePure 0 (fLoadI 0 1 0),
  ePure 1 (fLoadI 1 1 1),
  eSp 2 3 (fSp (.float 30)),
  eCallS 5 3 173,
  ePure 8 (fPop 8),
  eRetV 9]
set_option maxRecDepth 100000 in
set_option maxHeartbeats 4000000 in
theorem ko_J0_checkIndex_df160 {l : Launch} {D : va_G} {cA : Nat → ClassId} {B : BB} {G : State → Prop} {md : Bool} {d : Nat} {call : Call} (hG : ∀ s, G s → Gs B s) (hok : COk l D cA B G md d mI call) : ∀ e ∈ k_J0_checkIndex_df160 md, EOk l RJ0 cJ0_checkIndex_df160 2 none false D cA B G md d call e := by
  unfold k_J0_checkIndex_df160
  refine al_cons (eok_pure (pr_iload_n dJ0_checkIndex_df160_0 rfl)) ?_
  refine al_cons (eok_pure (pr_iload_n dJ0_checkIndex_df160_1 rfl)) ?_
  refine al_cons (eok_sp (sr_gst (c := "jdk/internal/util/Preconditions") (n := "SIOOBE_FORMATTER") (d := "Ljava/util/function/BiFunction;") (fun s g => (hG s g).2.2.2.1) w_511 dJ0_checkIndex_df160_2)) ?_
  refine al_cons (ok_callS hok mi_173 w_513 w_514 w_85 w_515 na_173 (by decide) dJ0_checkIndex_df160_5) ?_
  refine al_cons (eok_pure (pr_pop dJ0_checkIndex_df160_8)) ?_
  refine al_cons (ok_retV rfl dJ0_checkIndex_df160_9) ?_
  exact al_nil
def k_J1_charAt_3b067 (md : Bool) : List Ent := [ePure 0 (fLoadI 0 1 1),
  ePure 1 (fLoadA 1 1 0),
  eSp 2 1 fSLen,
  eCallS 3 2 171,
  ePure 6 (fLoadA 6 1 0),
  ePure 7 (fLoadI 7 1 1),
  eSp 8 1 fSByt,
  ePure 9 (fPush 9 3 (.int 255)),
  ePure 12 (fBin 12 o_iand),
  ePure 13 (f_i2c 13),
  eRetN 14 .char]
set_option maxRecDepth 100000 in
set_option maxHeartbeats 4000000 in
theorem ko_J1_charAt_3b067 {l : Launch} {D : va_G} {cA : Nat → ClassId} {B : BB} {G : State → Prop} {md : Bool} {d : Nat} {call : Call} (hG : ∀ s, G s → Gs B s) (hok : COk l D cA B G md d mI call) : ∀ e ∈ k_J1_charAt_3b067 md, EOk l RJ1 cJ1_charAt_3b067 2 (some .char) false D cA B G md d call e := by
  unfold k_J1_charAt_3b067
  refine al_cons (eok_pure (pr_iload_n dJ1_charAt_3b067_0 rfl)) ?_
  refine al_cons (eok_pure (pr_aload_n dJ1_charAt_3b067_1 rfl)) ?_
  refine al_cons (eok_sp (sr_slen hG dJ1_charAt_3b067_2)) ?_
  refine al_cons (ok_callS hok mi_171 w_508 w_509 w_83 w_510 na_171 (by decide) dJ1_charAt_3b067_3) ?_
  refine al_cons (eok_pure (pr_aload_n dJ1_charAt_3b067_6 rfl)) ?_
  refine al_cons (eok_pure (pr_iload_n dJ1_charAt_3b067_7 rfl)) ?_
  refine al_cons (eok_sp (sr_sbyt hG dJ1_charAt_3b067_8)) ?_
  refine al_cons (eok_pure (pr_sipush dJ1_charAt_3b067_9 (by decide))) ?_
  refine al_cons (eok_pure (pr_iand dJ1_charAt_3b067_12)) ?_
  refine al_cons (eok_pure (pr_i2c dJ1_charAt_3b067_13)) ?_
  refine al_cons (ok_retN rfl dJ1_charAt_3b067_14) ?_
  exact al_nil
def k_J3_checkIndex_8e157 (md : Bool) : List Ent := [ePure 0 (fLoadI 0 1 0),
  ePure 1 (fIf1 1 9 b1_lt),
  ePure 4 (fLoadI 4 1 0),
  ePure 5 (fLoadI 5 1 1),
  ePure 6 (fIf2 6 16 b2_lt),
  ePure 16 (fLoadI 16 1 0),
  eRetI 17]
set_option maxRecDepth 100000 in
set_option maxHeartbeats 4000000 in
theorem ko_J3_checkIndex_8e157 {l : Launch} {D : va_G} {cA : Nat → ClassId} {B : BB} {G : State → Prop} {md : Bool} {d : Nat} {call : Call} (hG : ∀ s, G s → Gs B s) (hok : COk l D cA B G md d mI call) : ∀ e ∈ k_J3_checkIndex_8e157 md, EOk l RJ3 cJ3_checkIndex_8e157 3 (some .int) false D cA B G md d call e := by
  unfold k_J3_checkIndex_8e157
  refine al_cons (eok_pure (pr_iload_n dJ3_checkIndex_8e157_0 rfl)) ?_
  refine al_cons (eok_pure (pr_if_lt dJ3_checkIndex_8e157_1 (by decide))) ?_
  refine al_cons (eok_pure (pr_iload_n dJ3_checkIndex_8e157_4 rfl)) ?_
  refine al_cons (eok_pure (pr_iload_n dJ3_checkIndex_8e157_5 rfl)) ?_
  refine al_cons (eok_pure (pr_icmp_lt dJ3_checkIndex_8e157_6 (by decide))) ?_
  refine al_cons (eok_pure (pr_iload_n dJ3_checkIndex_8e157_16 rfl)) ?_
  refine al_cons (ok_retI rfl dJ3_checkIndex_8e157_17) ?_
  exact al_nil
