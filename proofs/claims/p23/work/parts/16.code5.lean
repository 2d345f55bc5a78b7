def k_X8_now (md : Bool) : List Ent := [ePure 0 (fLoadA 0 1 0),
  ePure 1 (fPush 1 1 (.int 0)),
  ePut 2 8 0 kInt,
  ePure 5 (fLoadA 5 1 0),
  eCallV 6 0 131 8,
  ePure 9 (fLoadI 9 1 1),
  ePure 10 (fSw 0 [64, 72, 80, 88, 93, 99, 105, 111, 119, 124] 129),
  ePure 64 (fLoadA 64 1 0),
  eGet 65 8 11,
  ePure 68 (fPush 68 2 (.int 9)),
  eIald 70 0,
  eRetI 71,
  ePure 72 (fLoadA 72 1 0),
  eGet 73 8 11,
  ePure 76 (fPush 76 2 (.int 10)),
  eIald 78 0,
  eRetI 79,
  ePure 80 (fLoadA 80 1 0),
  eGet 81 8 11,
  ePure 84 (fPush 84 2 (.int 13)),
  eIald 86 0,
  eRetI 87,
  ePure 88 (fLoadA 88 1 0),
  eCallV 89 0 140 8,
  eRetI 92,
  ePure 93 (fLoadA 93 1 0),
  ePure 94 (fPush 94 1 (.int 0)),
  eCallV 95 1 133 8,
  eRetI 98,
  ePure 99 (fLoadA 99 1 0),
  ePure 100 (fPush 100 1 (.int 0)),
  eCallV 101 1 134 8,
  eRetI 104,
  ePure 105 (fLoadA 105 1 0),
  ePure 106 (fPush 106 1 (.int 0)),
  eCallV 107 1 135 8,
  eRetI 110,
  ePure 111 (fLoadA 111 1 0),
  eGet 112 8 11,
  ePure 115 (fPush 115 2 (.int 14)),
  eIald 117 0,
  eRetI 118,
  ePure 119 (fLoadA 119 1 0),
  eGet 120 8 14,
  eRetI 123,
  ePure 124 (fLoadA 124 1 0),
  eGet 125 8 2,
  eRetI 128,
  ePure 129 (fPush 129 2 (.int (-100000000))),
  eRetI 131]
set_option maxRecDepth 100000 in
set_option maxHeartbeats 4000000 in
theorem ko_X8_now {l : Launch} {D : va_G} {cA : Nat → ClassId} {B : BB} {G : State → Prop} {md : Bool} {d : Nat} {call : Call} (hG : ∀ s, G s → Gs B s) (hok : COk l D cA B G md d mI call) : ∀ e ∈ k_X8_now md, EOk l RX8 cX8_now 2 (some .int) false D cA B G md d call e := by
  unfold k_X8_now
  refine al_cons (eok_pure (pr_aload_n dX8_now_0 rfl)) ?_
  refine al_cons (eok_pure (pr_iconst dX8_now_1 (by decide))) ?_
  refine al_cons (ok_put cl_X8 gX8 tyX8_ok nmX8 (by decide) w_941 rfl (by decide +kernel) (kok_int B) dX8_now_2) ?_
  refine al_cons (eok_pure (pr_aload_n dX8_now_5 rfl)) ?_
  refine al_cons (ok_callV hok mi_131 cl_X8 w_1120 w_1122 w_44 w_82 w_1123 na_131 (by decide) dX8_now_6) ?_
  refine al_cons (eok_pure (pr_iload_n dX8_now_9 rfl)) ?_
  refine al_cons (eok_pure (pr_tsw dX8_now_10 (by decide) (by decide) (by decide))) ?_
  refine al_cons (eok_pure (pr_aload_n dX8_now_64 rfl)) ?_
  refine al_cons (ok_get cl_X8 gX8 (by decide) w_952 dX8_now_65) ?_
  refine al_cons (eok_pure (pr_bipush dX8_now_68 (by decide))) ?_
  refine al_cons (ok_iald dX8_now_70) ?_
  refine al_cons (ok_retI rfl dX8_now_71) ?_
  refine al_cons (eok_pure (pr_aload_n dX8_now_72 rfl)) ?_
  refine al_cons (ok_get cl_X8 gX8 (by decide) w_952 dX8_now_73) ?_
  refine al_cons (eok_pure (pr_bipush dX8_now_76 (by decide))) ?_
  refine al_cons (ok_iald dX8_now_78) ?_
  refine al_cons (ok_retI rfl dX8_now_79) ?_
  refine al_cons (eok_pure (pr_aload_n dX8_now_80 rfl)) ?_
  refine al_cons (ok_get cl_X8 gX8 (by decide) w_952 dX8_now_81) ?_
  refine al_cons (eok_pure (pr_bipush dX8_now_84 (by decide))) ?_
  refine al_cons (ok_iald dX8_now_86) ?_
  refine al_cons (ok_retI rfl dX8_now_87) ?_
  refine al_cons (eok_pure (pr_aload_n dX8_now_88 rfl)) ?_
  refine al_cons (ok_callV hok mi_140 cl_X8 w_1132 w_1134 w_47 w_82 w_1135 na_140 (by decide) dX8_now_89) ?_
  refine al_cons (ok_retI rfl dX8_now_92) ?_
  refine al_cons (eok_pure (pr_aload_n dX8_now_93 rfl)) ?_
  refine al_cons (eok_pure (pr_iconst dX8_now_94 (by decide))) ?_
  refine al_cons (ok_callV hok mi_133 cl_X8 w_1139 w_1141 w_48 w_82 w_1142 na_133 (by decide) dX8_now_95) ?_
  refine al_cons (ok_retI rfl dX8_now_98) ?_
  refine al_cons (eok_pure (pr_aload_n dX8_now_99 rfl)) ?_
  refine al_cons (eok_pure (pr_iconst dX8_now_100 (by decide))) ?_
  refine al_cons (ok_callV hok mi_134 cl_X8 w_1147 w_1149 w_50 w_82 w_1150 na_134 (by decide) dX8_now_101) ?_
  refine al_cons (ok_retI rfl dX8_now_104) ?_
  refine al_cons (eok_pure (pr_aload_n dX8_now_105 rfl)) ?_
  refine al_cons (eok_pure (pr_iconst dX8_now_106 (by decide))) ?_
  refine al_cons (ok_callV hok mi_135 cl_X8 w_1151 w_1153 w_51 w_82 w_1154 na_135 (by decide) dX8_now_107) ?_
  refine al_cons (ok_retI rfl dX8_now_110) ?_
  refine al_cons (eok_pure (pr_aload_n dX8_now_111 rfl)) ?_
  refine al_cons (ok_get cl_X8 gX8 (by decide) w_952 dX8_now_112) ?_
  refine al_cons (eok_pure (pr_bipush dX8_now_115 (by decide))) ?_
  refine al_cons (ok_iald dX8_now_117) ?_
  refine al_cons (ok_retI rfl dX8_now_118) ?_
  refine al_cons (eok_pure (pr_aload_n dX8_now_119 rfl)) ?_
  refine al_cons (ok_get cl_X8 gX8 (by decide) w_955 dX8_now_120) ?_
  refine al_cons (ok_retI rfl dX8_now_123) ?_
  refine al_cons (eok_pure (pr_aload_n dX8_now_124 rfl)) ?_
  refine al_cons (ok_get cl_X8 gX8 (by decide) w_943 dX8_now_125) ?_
  refine al_cons (ok_retI rfl dX8_now_128) ?_
  refine al_cons (eok_pure (pr_ldc dX8_now_129 w_1155)) ?_
  refine al_cons (ok_retI rfl dX8_now_131) ?_
  exact al_nil
def k_X8_bars (md : Bool) : List Ent := [ePure 0 (fPush 0 1 (.int 0)),
  ePure 1 (fStoI 1 1 1 4),
  ePure 2 (fPush 2 1 (.int 0)),
  ePure 3 (fStoI 3 1 2 4),
  ePure 4 (fLoadI 4 1 2),
  ePure 5 (fPush 5 2 (.int 6)),
  ePure 7 (fIf2 7 49 b2_ge),
  ePure 10 (fPush 10 1 (.int 0)),
  ePure 11 (fStoI 11 1 3 4),
  ePure 12 (fLoadI 12 1 3),
  ePure 13 (fPush 13 2 (.int 6)),
  ePure 15 (fIf2 15 43 b2_ge),
  ePure 18 (fLoadA 18 1 0),
  eGet 19 8 11,
  ePure 22 (fPush 22 2 (.int 21)),
  ePure 24 (fLoadI 24 1 2),
  ePure 25 (fBin 25 o_iadd),
  eIald 26 0,
  ePure 27 (fLoadI 27 1 3),
  eCallS 28 2 95,
  ePure 31 (fIf1 31 37 b1_eq),
  ePure 34 (fInc 34 1 4 1),
  ePure 37 (fInc 37 3 4 1),
  ePure 40 (fGoto 12),
  ePure 43 (fInc 43 2 4 1),
  ePure 46 (fGoto 4),
  ePure 49 (fLoadI 49 1 1),
  eRetI 50]
set_option maxRecDepth 100000 in
set_option maxHeartbeats 4000000 in
theorem ko_X8_bars {l : Launch} {D : va_G} {cA : Nat → ClassId} {B : BB} {G : State → Prop} {md : Bool} {d : Nat} {call : Call} (hG : ∀ s, G s → Gs B s) (hok : COk l D cA B G md d mI call) : ∀ e ∈ k_X8_bars md, EOk l RX8 cX8_bars 4 (some .int) false D cA B G md d call e := by
  unfold k_X8_bars
  refine al_cons (eok_pure (pr_iconst dX8_bars_0 (by decide))) ?_
  refine al_cons (eok_pure (pr_istore_n dX8_bars_1 rfl)) ?_
  refine al_cons (eok_pure (pr_iconst dX8_bars_2 (by decide))) ?_
  refine al_cons (eok_pure (pr_istore_n dX8_bars_3 rfl)) ?_
  refine al_cons (eok_pure (pr_iload_n dX8_bars_4 rfl)) ?_
  refine al_cons (eok_pure (pr_bipush dX8_bars_5 (by decide))) ?_
  refine al_cons (eok_pure (pr_icmp_ge dX8_bars_7 (by decide))) ?_
  refine al_cons (eok_pure (pr_iconst dX8_bars_10 (by decide))) ?_
  refine al_cons (eok_pure (pr_istore_n dX8_bars_11 rfl)) ?_
  refine al_cons (eok_pure (pr_iload_n dX8_bars_12 rfl)) ?_
  refine al_cons (eok_pure (pr_bipush dX8_bars_13 (by decide))) ?_
  refine al_cons (eok_pure (pr_icmp_ge dX8_bars_15 (by decide))) ?_
  refine al_cons (eok_pure (pr_aload_n dX8_bars_18 rfl)) ?_
  refine al_cons (ok_get cl_X8 gX8 (by decide) w_952 dX8_bars_19) ?_
  refine al_cons (eok_pure (pr_bipush dX8_bars_22 (by decide))) ?_
  refine al_cons (eok_pure (pr_iload_n dX8_bars_24 rfl)) ?_
  refine al_cons (eok_pure (pr_iadd dX8_bars_25)) ?_
  refine al_cons (ok_iald dX8_bars_26) ?_
  refine al_cons (eok_pure (pr_iload_n dX8_bars_27 rfl)) ?_
  refine al_cons (ok_callS hok mi_95 w_1136 w_1137 w_82 w_1138 na_95 (by decide) dX8_bars_28) ?_
  refine al_cons (eok_pure (pr_if_eq dX8_bars_31 (by decide))) ?_
  refine al_cons (eok_pure (pr_iinc dX8_bars_34 (by decide))) ?_
  refine al_cons (eok_pure (pr_iinc dX8_bars_37 (by decide))) ?_
  refine al_cons (eok_pure (pr_goto dX8_bars_40 (by decide))) ?_
  refine al_cons (eok_pure (pr_iinc dX8_bars_43 (by decide))) ?_
  refine al_cons (eok_pure (pr_goto dX8_bars_46 (by decide))) ?_
  refine al_cons (eok_pure (pr_iload_n dX8_bars_49 rfl)) ?_
  refine al_cons (ok_retI rfl dX8_bars_50) ?_
  exact al_nil
def k_X8_compartment (md : Bool) : List Ent := [ePure 0 (fLoadA 0 1 0),
  ePure 1 (fPush 1 1 (.int 0)),
  ePut 2 8 0 kInt,
  ePure 5 (fLoadA 5 1 0),
  ePure 6 (fLoadI 6 1 1),
  eCallV 7 1 121 8,
  ePure 10 (fIf1 10 15 b1_ne),
  ePure 13 (fPush 13 1 (.int (-1))),
  eRetI 14,
  ePure 15 (fLoadI 15 1 2),
  ePure 16 (fSw 0 [60, 60, 60, 67, 73, 80, 89] 95),
  ePure 60 (fLoadA 60 1 0),
  ePure 61 (fLoadI 61 1 1),
  ePure 62 (fLoadI 62 1 2),
  eCallV 63 2 124 8,
  eRetI 66,
  ePure 67 (fLoadA 67 1 0),
  ePure 68 (fLoadI 68 1 1),
  eCallV 69 1 126 8,
  eRetI 72,
  ePure 73 (fLoadA 73 1 0),
  ePure 74 (fLoadI 74 1 1),
  ePure 75 (fPush 75 1 (.int 3)),
  eCallV 76 2 124 8,
  eRetI 79,
  ePure 80 (fLoadA 80 1 0),
  ePure 81 (fLoadI 81 1 1),
  ePure 82 (fPush 82 1 (.int 4)),
  eCallV 83 2 124 8,
  ePure 86 (fPush 86 1 (.int 1)),
  ePure 87 (fBin 87 o_isub),
  eRetI 88,
  ePure 89 (fLoadA 89 1 0),
  ePure 90 (fLoadI 90 1 1),
  eCallV 91 1 127 8,
  eRetI 94,
  ePure 95 (fPush 95 1 (.int (-1))),
  eRetI 96]
set_option maxRecDepth 100000 in
set_option maxHeartbeats 4000000 in
theorem ko_X8_compartment {l : Launch} {D : va_G} {cA : Nat → ClassId} {B : BB} {G : State → Prop} {md : Bool} {d : Nat} {call : Call} (hG : ∀ s, G s → Gs B s) (hok : COk l D cA B G md d mI call) : ∀ e ∈ k_X8_compartment md, EOk l RX8 cX8_compartment 3 (some .int) false D cA B G md d call e := by
  unfold k_X8_compartment
  refine al_cons (eok_pure (pr_aload_n dX8_compartment_0 rfl)) ?_
  refine al_cons (eok_pure (pr_iconst dX8_compartment_1 (by decide))) ?_
  refine al_cons (ok_put cl_X8 gX8 tyX8_ok nmX8 (by decide) w_941 rfl (by decide +kernel) (kok_int B) dX8_compartment_2) ?_
  refine al_cons (eok_pure (pr_aload_n dX8_compartment_5 rfl)) ?_
  refine al_cons (eok_pure (pr_iload_n dX8_compartment_6 rfl)) ?_
  refine al_cons (ok_callV hok mi_121 cl_X8 w_1160 w_1162 w_52 w_82 w_1163 na_121 (by decide) dX8_compartment_7) ?_
  refine al_cons (eok_pure (pr_if_ne dX8_compartment_10 (by decide))) ?_
  refine al_cons (eok_pure (pr_iconst dX8_compartment_13 (by decide))) ?_
  refine al_cons (ok_retI rfl dX8_compartment_14) ?_
  refine al_cons (eok_pure (pr_iload_n dX8_compartment_15 rfl)) ?_
  refine al_cons (eok_pure (pr_tsw dX8_compartment_16 (by decide) (by decide) (by decide))) ?_
  refine al_cons (eok_pure (pr_aload_n dX8_compartment_60 rfl)) ?_
  refine al_cons (eok_pure (pr_iload_n dX8_compartment_61 rfl)) ?_
  refine al_cons (eok_pure (pr_iload_n dX8_compartment_62 rfl)) ?_
  refine al_cons (ok_callV hok mi_124 cl_X8 w_1124 w_1126 w_45 w_82 w_1127 na_124 (by decide) dX8_compartment_63) ?_
  refine al_cons (ok_retI rfl dX8_compartment_66) ?_
  refine al_cons (eok_pure (pr_aload_n dX8_compartment_67 rfl)) ?_
  refine al_cons (eok_pure (pr_iload_n dX8_compartment_68 rfl)) ?_
  refine al_cons (ok_callV hok mi_126 cl_X8 w_1164 w_1166 w_53 w_82 w_1167 na_126 (by decide) dX8_compartment_69) ?_
  refine al_cons (ok_retI rfl dX8_compartment_72) ?_
  refine al_cons (eok_pure (pr_aload_n dX8_compartment_73 rfl)) ?_
  refine al_cons (eok_pure (pr_iload_n dX8_compartment_74 rfl)) ?_
  refine al_cons (eok_pure (pr_iconst dX8_compartment_75 (by decide))) ?_
  refine al_cons (ok_callV hok mi_124 cl_X8 w_1124 w_1126 w_45 w_82 w_1127 na_124 (by decide) dX8_compartment_76) ?_
  refine al_cons (ok_retI rfl dX8_compartment_79) ?_
  refine al_cons (eok_pure (pr_aload_n dX8_compartment_80 rfl)) ?_
  refine al_cons (eok_pure (pr_iload_n dX8_compartment_81 rfl)) ?_
  refine al_cons (eok_pure (pr_iconst dX8_compartment_82 (by decide))) ?_
  refine al_cons (ok_callV hok mi_124 cl_X8 w_1124 w_1126 w_45 w_82 w_1127 na_124 (by decide) dX8_compartment_83) ?_
  refine al_cons (eok_pure (pr_iconst dX8_compartment_86 (by decide))) ?_
  refine al_cons (eok_pure (pr_isub dX8_compartment_87)) ?_
  refine al_cons (ok_retI rfl dX8_compartment_88) ?_
  refine al_cons (eok_pure (pr_aload_n dX8_compartment_89 rfl)) ?_
  refine al_cons (eok_pure (pr_iload_n dX8_compartment_90 rfl)) ?_
  refine al_cons (ok_callV hok mi_127 cl_X8 w_1168 w_1170 w_54 w_82 w_1171 na_127 (by decide) dX8_compartment_91) ?_
  refine al_cons (ok_retI rfl dX8_compartment_94) ?_
  refine al_cons (eok_pure (pr_iconst dX8_compartment_95 (by decide))) ?_
  refine al_cons (ok_retI rfl dX8_compartment_96) ?_
  exact al_nil
def k_X8_drop (md : Bool) : List Ent := [ePure 0 (fLoadA 0 1 0),
  ePure 1 (fPush 1 1 (.int 0)),
  ePut 2 8 0 kInt,
  ePure 5 (fLoadA 5 1 0),
  ePure 6 (fLoadI 6 1 1),
  eCallV 7 1 123 8,
  ePure 10 (fIf1 10 22 b1_eq),
  ePure 13 (fLoadI 13 1 2),
  ePure 14 (fPush 14 1 (.int 0)),
  ePure 15 (fPush 15 1 (.int 5)),
  eCallS 16 3 94,
  ePure 19 (fIf1 19 27 b1_ne),
  ePure 22 (fLoadA 22 1 0),
  eCallV 23 0 93 8,
  eRetI 26,
  ePure 27 (fLoadI 27 1 2),
  ePure 28 (fPush 28 1 (.int 2)),
  ePure 29 (fIf2 29 40 b2_ne),
  ePure 32 (fLoadA 32 1 0),
  ePure 33 (fLoadI 33 1 1),
  eCallV 34 1 129 8,
  ePure 37 (fGoto 62),
  ePure 40 (fLoadI 40 1 2),
  ePure 41 (fPush 41 1 (.int 2)),
  ePure 42 (fIf2 42 54 b2_ge),
  ePure 45 (fLoadA 45 1 0),
  ePure 46 (fLoadI 46 1 1),
  ePure 47 (fLoadI 47 1 2),
  eCallV 48 2 125 8,
  ePure 51 (fGoto 62),
  ePure 54 (fLoadA 54 1 0),
  ePure 55 (fLoadI 55 1 1),
  ePure 56 (fLoadI 56 1 2),
  ePure 57 (fPush 57 1 (.int 1)),
  ePure 58 (fBin 58 o_isub),
  eCallV 59 2 125 8,
  eRetI 62]
set_option maxRecDepth 100000 in
set_option maxHeartbeats 4000000 in
theorem ko_X8_drop {l : Launch} {D : va_G} {cA : Nat → ClassId} {B : BB} {G : State → Prop} {md : Bool} {d : Nat} {call : Call} (hG : ∀ s, G s → Gs B s) (hok : COk l D cA B G md d mI call) : ∀ e ∈ k_X8_drop md, EOk l RX8 cX8_drop 3 (some .int) false D cA B G md d call e := by
  unfold k_X8_drop
  refine al_cons (eok_pure (pr_aload_n dX8_drop_0 rfl)) ?_
  refine al_cons (eok_pure (pr_iconst dX8_drop_1 (by decide))) ?_
  refine al_cons (ok_put cl_X8 gX8 tyX8_ok nmX8 (by decide) w_941 rfl (by decide +kernel) (kok_int B) dX8_drop_2) ?_
  refine al_cons (eok_pure (pr_aload_n dX8_drop_5 rfl)) ?_
  refine al_cons (eok_pure (pr_iload_n dX8_drop_6 rfl)) ?_
  refine al_cons (ok_callV hok mi_123 cl_X8 w_1176 w_1178 w_55 w_82 w_1179 na_123 (by decide) dX8_drop_7) ?_
  refine al_cons (eok_pure (pr_if_eq dX8_drop_10 (by decide))) ?_
  refine al_cons (eok_pure (pr_iload_n dX8_drop_13 rfl)) ?_
  refine al_cons (eok_pure (pr_iconst dX8_drop_14 (by decide))) ?_
  refine al_cons (eok_pure (pr_iconst dX8_drop_15 (by decide))) ?_
  refine al_cons (ok_callS hok mi_94 w_1073 w_1074 w_82 w_1075 na_94 (by decide) dX8_drop_16) ?_
  refine al_cons (eok_pure (pr_if_ne dX8_drop_19 (by decide))) ?_
  refine al_cons (eok_pure (pr_aload_n dX8_drop_22 rfl)) ?_
  refine al_cons (ok_callV hok mi_93 cl_X8 w_1180 w_1182 w_56 w_82 w_1183 na_93 (by decide) dX8_drop_23) ?_
  refine al_cons (ok_retI rfl dX8_drop_26) ?_
  refine al_cons (eok_pure (pr_iload_n dX8_drop_27 rfl)) ?_
  refine al_cons (eok_pure (pr_iconst dX8_drop_28 (by decide))) ?_
  refine al_cons (eok_pure (pr_icmp_ne dX8_drop_29 (by decide))) ?_
  refine al_cons (eok_pure (pr_aload_n dX8_drop_32 rfl)) ?_
  refine al_cons (eok_pure (pr_iload_n dX8_drop_33 rfl)) ?_
  refine al_cons (ok_callV hok mi_129 cl_X8 w_1184 w_1186 w_57 w_82 w_1187 na_129 (by decide) dX8_drop_34) ?_
  refine al_cons (eok_pure (pr_goto dX8_drop_37 (by decide))) ?_
  refine al_cons (eok_pure (pr_iload_n dX8_drop_40 rfl)) ?_
  refine al_cons (eok_pure (pr_iconst dX8_drop_41 (by decide))) ?_
  refine al_cons (eok_pure (pr_icmp_ge dX8_drop_42 (by decide))) ?_
  refine al_cons (eok_pure (pr_aload_n dX8_drop_45 rfl)) ?_
  refine al_cons (eok_pure (pr_iload_n dX8_drop_46 rfl)) ?_
  refine al_cons (eok_pure (pr_iload_n dX8_drop_47 rfl)) ?_
  refine al_cons (ok_callV hok mi_125 cl_X8 w_1128 w_1130 w_46 w_82 w_1131 na_125 (by decide) dX8_drop_48) ?_
  refine al_cons (eok_pure (pr_goto dX8_drop_51 (by decide))) ?_
  refine al_cons (eok_pure (pr_aload_n dX8_drop_54 rfl)) ?_
  refine al_cons (eok_pure (pr_iload_n dX8_drop_55 rfl)) ?_
  refine al_cons (eok_pure (pr_iload_n dX8_drop_56 rfl)) ?_
  refine al_cons (eok_pure (pr_iconst dX8_drop_57 (by decide))) ?_
  refine al_cons (eok_pure (pr_isub dX8_drop_58)) ?_
  refine al_cons (ok_callV hok mi_125 cl_X8 w_1128 w_1130 w_46 w_82 w_1131 na_125 (by decide) dX8_drop_59) ?_
  refine al_cons (ok_retI rfl dX8_drop_62) ?_
  exact al_nil
def k_X8_may (md : Bool) : List Ent := [ePure 0 (fLoadA 0 1 0),
  ePure 1 (fPush 1 1 (.int 0)),
  ePut 2 8 0 kInt,
  ePure 5 (fLoadA 5 1 0),
  ePure 6 (fLoadI 6 1 1),
  eCallV 7 1 121 8,
  ePure 10 (fIf1 10 35 b1_eq),
  ePure 13 (fLoadA 13 1 0),
  ePure 14 (fLoadI 14 1 2),
  eCallV 15 1 122 8,
  ePure 18 (fIf1 18 35 b1_eq),
  ePure 21 (fLoadA 21 1 0),
  ePure 22 (fLoadI 22 1 1),
  ePure 23 (fLoadI 23 1 2),
  ePure 24 (fPush 24 1 (.int 0)),
  eCallV 25 3 128 8,
  ePure 28 (fIf1 28 35 b1_eq),
  ePure 31 (fPush 31 1 (.int 1)),
  ePure 32 (fGoto 36),
  ePure 35 (fPush 35 1 (.int 0)),
  eRetZ 36]
set_option maxRecDepth 100000 in
set_option maxHeartbeats 4000000 in
theorem ko_X8_may {l : Launch} {D : va_G} {cA : Nat → ClassId} {B : BB} {G : State → Prop} {md : Bool} {d : Nat} {call : Call} (hG : ∀ s, G s → Gs B s) (hok : COk l D cA B G md d mI call) : ∀ e ∈ k_X8_may md, EOk l RX8 cX8_may 3 (some .boolean) false D cA B G md d call e := by
  unfold k_X8_may
  refine al_cons (eok_pure (pr_aload_n dX8_may_0 rfl)) ?_
  refine al_cons (eok_pure (pr_iconst dX8_may_1 (by decide))) ?_
  refine al_cons (ok_put cl_X8 gX8 tyX8_ok nmX8 (by decide) w_941 rfl (by decide +kernel) (kok_int B) dX8_may_2) ?_
  refine al_cons (eok_pure (pr_aload_n dX8_may_5 rfl)) ?_
  refine al_cons (eok_pure (pr_iload_n dX8_may_6 rfl)) ?_
  refine al_cons (ok_callV hok mi_121 cl_X8 w_1160 w_1162 w_52 w_82 w_1163 na_121 (by decide) dX8_may_7) ?_
  refine al_cons (eok_pure (pr_if_eq dX8_may_10 (by decide))) ?_
  refine al_cons (eok_pure (pr_aload_n dX8_may_13 rfl)) ?_
  refine al_cons (eok_pure (pr_iload_n dX8_may_14 rfl)) ?_
  refine al_cons (ok_callV hok mi_122 cl_X8 w_1192 w_1194 w_58 w_82 w_1195 na_122 (by decide) dX8_may_15) ?_
  refine al_cons (eok_pure (pr_if_eq dX8_may_18 (by decide))) ?_
  refine al_cons (eok_pure (pr_aload_n dX8_may_21 rfl)) ?_
  refine al_cons (eok_pure (pr_iload_n dX8_may_22 rfl)) ?_
  refine al_cons (eok_pure (pr_iload_n dX8_may_23 rfl)) ?_
  refine al_cons (eok_pure (pr_iconst dX8_may_24 (by decide))) ?_
  refine al_cons (ok_callV hok mi_128 cl_X8 w_1196 w_1198 w_59 w_82 w_1199 na_128 (by decide) dX8_may_25) ?_
  refine al_cons (eok_pure (pr_if_eq dX8_may_28 (by decide))) ?_
  refine al_cons (eok_pure (pr_iconst dX8_may_31 (by decide))) ?_
  refine al_cons (eok_pure (pr_goto dX8_may_32 (by decide))) ?_
  refine al_cons (eok_pure (pr_iconst dX8_may_35 (by decide))) ?_
  refine al_cons (ok_retZ rfl dX8_may_36) ?_
  exact al_nil
def k_X8_would (md : Bool) : List Ent := [ePure 0 (fLoadA 0 1 0),
  ePure 1 (fPush 1 1 (.int 0)),
  ePut 2 8 0 kInt,
  ePure 5 (fLoadA 5 1 0),
  ePure 6 (fLoadI 6 1 1),
  eCallV 7 1 121 8,
  ePure 10 (fIf1 10 35 b1_eq),
  ePure 13 (fLoadA 13 1 0),
  ePure 14 (fLoadI 14 1 2),
  eCallV 15 1 122 8,
  ePure 18 (fIf1 18 35 b1_eq),
  ePure 21 (fLoadI 21 1 3),
  ePure 22 (fPush 22 1 (.int 0)),
  ePure 23 (fLoadA 23 1 0),
  ePure 24 (fLoadI 24 1 1),
  ePure 25 (fPush 25 1 (.int 0)),
  eCallV 26 2 124 8,
  eCallS 29 3 94,
  ePure 32 (fIf1 32 37 b1_ne),
  ePure 35 (fPush 35 1 (.int (-1))),
  eRetI 36,
  ePure 37 (fLoadA 37 1 0),
  eCallV 38 0 131 8,
  ePure 41 (fLoadA 41 1 0),
  eGet 42 8 16,
  ePure 45 (fLoadI 45 1 1),
  ePure 46 (fLoadI 46 1 3),
  eIast 47 0 (fun x => x),
  ePure 48 (fLoadA 48 1 0),
  eGet 49 8 17,
  ePure 52 (fLoadI 52 1 1),
  ePure 53 (fLoadI 53 1 2),
  eIast 54 0 (fun x => x),
  ePure 55 (fLoadA 55 1 0),
  eGet 56 8 18,
  ePure 59 (fLoadI 59 1 1),
  ePure 60 (fPush 60 1 (.int (-1))),
  eIast 61 0 (fun x => x),
  ePure 62 (fLoadA 62 1 0),
  ePure 63 (fPush 63 1 (.int 0)),
  eCallV 64 1 135 8,
  eRetI 67]
set_option maxRecDepth 100000 in
set_option maxHeartbeats 4000000 in
theorem ko_X8_would {l : Launch} {D : va_G} {cA : Nat → ClassId} {B : BB} {G : State → Prop} {md : Bool} {d : Nat} {call : Call} (hG : ∀ s, G s → Gs B s) (hok : COk l D cA B G md d mI call) : ∀ e ∈ k_X8_would md, EOk l RX8 cX8_would 4 (some .int) false D cA B G md d call e := by
  unfold k_X8_would
  refine al_cons (eok_pure (pr_aload_n dX8_would_0 rfl)) ?_
  refine al_cons (eok_pure (pr_iconst dX8_would_1 (by decide))) ?_
  refine al_cons (ok_put cl_X8 gX8 tyX8_ok nmX8 (by decide) w_941 rfl (by decide +kernel) (kok_int B) dX8_would_2) ?_
  refine al_cons (eok_pure (pr_aload_n dX8_would_5 rfl)) ?_
  refine al_cons (eok_pure (pr_iload_n dX8_would_6 rfl)) ?_
  refine al_cons (ok_callV hok mi_121 cl_X8 w_1160 w_1162 w_52 w_82 w_1163 na_121 (by decide) dX8_would_7) ?_
  refine al_cons (eok_pure (pr_if_eq dX8_would_10 (by decide))) ?_
  refine al_cons (eok_pure (pr_aload_n dX8_would_13 rfl)) ?_
  refine al_cons (eok_pure (pr_iload_n dX8_would_14 rfl)) ?_
  refine al_cons (ok_callV hok mi_122 cl_X8 w_1192 w_1194 w_58 w_82 w_1195 na_122 (by decide) dX8_would_15) ?_
  refine al_cons (eok_pure (pr_if_eq dX8_would_18 (by decide))) ?_
  refine al_cons (eok_pure (pr_iload_n dX8_would_21 rfl)) ?_
  refine al_cons (eok_pure (pr_iconst dX8_would_22 (by decide))) ?_
  refine al_cons (eok_pure (pr_aload_n dX8_would_23 rfl)) ?_
  refine al_cons (eok_pure (pr_iload_n dX8_would_24 rfl)) ?_
  refine al_cons (eok_pure (pr_iconst dX8_would_25 (by decide))) ?_
  refine al_cons (ok_callV hok mi_124 cl_X8 w_1124 w_1126 w_45 w_82 w_1127 na_124 (by decide) dX8_would_26) ?_
  refine al_cons (ok_callS hok mi_94 w_1073 w_1074 w_82 w_1075 na_94 (by decide) dX8_would_29) ?_
  refine al_cons (eok_pure (pr_if_ne dX8_would_32 (by decide))) ?_
  refine al_cons (eok_pure (pr_iconst dX8_would_35 (by decide))) ?_
  refine al_cons (ok_retI rfl dX8_would_36) ?_
  refine al_cons (eok_pure (pr_aload_n dX8_would_37 rfl)) ?_
  refine al_cons (ok_callV hok mi_131 cl_X8 w_1120 w_1122 w_44 w_82 w_1123 na_131 (by decide) dX8_would_38) ?_
  refine al_cons (eok_pure (pr_aload_n dX8_would_41 rfl)) ?_
  refine al_cons (ok_get cl_X8 gX8 (by decide) w_957 dX8_would_42) ?_
  refine al_cons (eok_pure (pr_iload_n dX8_would_45 rfl)) ?_
  refine al_cons (eok_pure (pr_iload_n dX8_would_46 rfl)) ?_
  refine al_cons (ok_iast dX8_would_47) ?_
  refine al_cons (eok_pure (pr_aload_n dX8_would_48 rfl)) ?_
  refine al_cons (ok_get cl_X8 gX8 (by decide) w_958 dX8_would_49) ?_
  refine al_cons (eok_pure (pr_iload_n dX8_would_52 rfl)) ?_
  refine al_cons (eok_pure (pr_iload_n dX8_would_53 rfl)) ?_
  refine al_cons (ok_iast dX8_would_54) ?_
  refine al_cons (eok_pure (pr_aload_n dX8_would_55 rfl)) ?_
  refine al_cons (ok_get cl_X8 gX8 (by decide) w_959 dX8_would_56) ?_
  refine al_cons (eok_pure (pr_iload_n dX8_would_59 rfl)) ?_
  refine al_cons (eok_pure (pr_iconst dX8_would_60 (by decide))) ?_
  refine al_cons (ok_iast dX8_would_61) ?_
  refine al_cons (eok_pure (pr_aload_n dX8_would_62 rfl)) ?_
  refine al_cons (eok_pure (pr_iconst dX8_would_63 (by decide))) ?_
  refine al_cons (ok_callV hok mi_135 cl_X8 w_1151 w_1153 w_51 w_82 w_1154 na_135 (by decide) dX8_would_64) ?_
  refine al_cons (ok_retI rfl dX8_would_67) ?_
  exact al_nil
def k_X8_orders (md : Bool) : List Ent := [ePure 0 (fLoadA 0 1 0),
  ePure 1 (fPush 1 1 (.int 0)),
  ePut 2 8 0 kInt,
  ePure 5 (fLoadA 5 1 0),
  eCallV 6 0 131 8,
  ePure 9 (fLoadA 9 1 0),
  ePure 10 (fLoadA 10 1 0),
  eCallV 11 0 138 8,
  eCallV 14 1 137 8,
  eRetI 17]
set_option maxRecDepth 100000 in
set_option maxHeartbeats 4000000 in
theorem ko_X8_orders {l : Launch} {D : va_G} {cA : Nat → ClassId} {B : BB} {G : State → Prop} {md : Bool} {d : Nat} {call : Call} (hG : ∀ s, G s → Gs B s) (hok : COk l D cA B G md d mI call) : ∀ e ∈ k_X8_orders md, EOk l RX8 cX8_orders 1 (some .int) false D cA B G md d call e := by
  unfold k_X8_orders
  refine al_cons (eok_pure (pr_aload_n dX8_orders_0 rfl)) ?_
  refine al_cons (eok_pure (pr_iconst dX8_orders_1 (by decide))) ?_
  refine al_cons (ok_put cl_X8 gX8 tyX8_ok nmX8 (by decide) w_941 rfl (by decide +kernel) (kok_int B) dX8_orders_2) ?_
  refine al_cons (eok_pure (pr_aload_n dX8_orders_5 rfl)) ?_
  refine al_cons (ok_callV hok mi_131 cl_X8 w_1120 w_1122 w_44 w_82 w_1123 na_131 (by decide) dX8_orders_6) ?_
  refine al_cons (eok_pure (pr_aload_n dX8_orders_9 rfl)) ?_
  refine al_cons (eok_pure (pr_aload_n dX8_orders_10 rfl)) ?_
  refine al_cons (ok_callV hok mi_138 cl_X8 w_1208 w_1210 w_60 w_82 w_1211 na_138 (by decide) dX8_orders_11) ?_
  refine al_cons (ok_callV hok mi_137 cl_X8 w_1212 w_1214 w_61 w_82 w_1215 na_137 (by decide) dX8_orders_14) ?_
  refine al_cons (ok_retI rfl dX8_orders_17) ?_
  exact al_nil
def k_X8_ordered (md : Bool) : List Ent := [ePure 0 (fLoadA 0 1 0),
  ePure 1 (fPush 1 1 (.int 0)),
  ePut 2 8 0 kInt,
  ePure 5 (fLoadA 5 1 0),
  eCallV 6 0 131 8,
  ePure 9 (fLoadA 9 1 0),
  ePure 10 (fLoadA 10 1 0),
  eCallV 11 0 138 8,
  eCallV 14 1 137 8,
  ePure 17 (fPop 17),
  ePure 18 (fLoadI 18 1 1),
  ePure 19 (fPush 19 1 (.int 0)),
  ePure 20 (fLoadA 20 1 0),
  eGet 21 8 21,
  ePure 24 (fPush 24 1 (.int 1)),
  ePure 25 (fBin 25 o_isub),
  eCallS 26 3 94,
  ePure 29 (fIf1 29 41 b1_eq),
  ePure 32 (fLoadA 32 1 0),
  eGet 33 8 19,
  ePure 36 (fLoadI 36 1 1),
  eIald 37 0,
  ePure 38 (fGoto 42),
  ePure 41 (fPush 41 1 (.int (-1))),
  eRetI 42]
set_option maxRecDepth 100000 in
set_option maxHeartbeats 4000000 in
theorem ko_X8_ordered {l : Launch} {D : va_G} {cA : Nat → ClassId} {B : BB} {G : State → Prop} {md : Bool} {d : Nat} {call : Call} (hG : ∀ s, G s → Gs B s) (hok : COk l D cA B G md d mI call) : ∀ e ∈ k_X8_ordered md, EOk l RX8 cX8_ordered 2 (some .int) false D cA B G md d call e := by
  unfold k_X8_ordered
  refine al_cons (eok_pure (pr_aload_n dX8_ordered_0 rfl)) ?_
  refine al_cons (eok_pure (pr_iconst dX8_ordered_1 (by decide))) ?_
  refine al_cons (ok_put cl_X8 gX8 tyX8_ok nmX8 (by decide) w_941 rfl (by decide +kernel) (kok_int B) dX8_ordered_2) ?_
  refine al_cons (eok_pure (pr_aload_n dX8_ordered_5 rfl)) ?_
  refine al_cons (ok_callV hok mi_131 cl_X8 w_1120 w_1122 w_44 w_82 w_1123 na_131 (by decide) dX8_ordered_6) ?_
  refine al_cons (eok_pure (pr_aload_n dX8_ordered_9 rfl)) ?_
  refine al_cons (eok_pure (pr_aload_n dX8_ordered_10 rfl)) ?_
  refine al_cons (ok_callV hok mi_138 cl_X8 w_1208 w_1210 w_60 w_82 w_1211 na_138 (by decide) dX8_ordered_11) ?_
  refine al_cons (ok_callV hok mi_137 cl_X8 w_1212 w_1214 w_61 w_82 w_1215 na_137 (by decide) dX8_ordered_14) ?_
  refine al_cons (eok_pure (pr_pop dX8_ordered_17)) ?_
  refine al_cons (eok_pure (pr_iload_n dX8_ordered_18 rfl)) ?_
  refine al_cons (eok_pure (pr_iconst dX8_ordered_19 (by decide))) ?_
  refine al_cons (eok_pure (pr_aload_n dX8_ordered_20 rfl)) ?_
  refine al_cons (ok_get cl_X8 gX8 (by decide) w_962 dX8_ordered_21) ?_
  refine al_cons (eok_pure (pr_iconst dX8_ordered_24 (by decide))) ?_
  refine al_cons (eok_pure (pr_isub dX8_ordered_25)) ?_
  refine al_cons (ok_callS hok mi_94 w_1073 w_1074 w_82 w_1075 na_94 (by decide) dX8_ordered_26) ?_
  refine al_cons (eok_pure (pr_if_eq dX8_ordered_29 (by decide))) ?_
  refine al_cons (eok_pure (pr_aload_n dX8_ordered_32 rfl)) ?_
  refine al_cons (ok_get cl_X8 gX8 (by decide) w_960 dX8_ordered_33) ?_
  refine al_cons (eok_pure (pr_iload_n dX8_ordered_36 rfl)) ?_
  refine al_cons (ok_iald dX8_ordered_37) ?_
  refine al_cons (eok_pure (pr_goto dX8_ordered_38 (by decide))) ?_
  refine al_cons (eok_pure (pr_iconst dX8_ordered_41 (by decide))) ?_
  refine al_cons (ok_retI rfl dX8_ordered_42) ?_
  exact al_nil
def k_X8_without (md : Bool) : List Ent := [ePure 0 (fLoadA 0 1 0),
  ePure 1 (fPush 1 1 (.int 0)),
  ePut 2 8 0 kInt,
  ePure 5 (fLoadA 5 1 0),
  ePure 6 (fLoadI 6 1 1),
  eCallV 7 1 123 8,
  ePure 10 (fIf1 10 23 b1_eq),
  ePure 13 (fLoadA 13 1 0),
  ePure 14 (fLoadI 14 1 1),
  ePure 15 (fPush 15 1 (.int 2)),
  eCallV 16 2 125 8,
  ePure 19 (fPush 19 1 (.int 1)),
  ePure 20 (fIf2 20 25 b2_eq),
  ePure 23 (fPush 23 1 (.int (-1))),
  eRetI 24,
  ePure 25 (fLoadA 25 1 0),
  eCallV 26 0 131 8,
  ePure 29 (fLoadA 29 1 0),
  ePure 30 (fPush 30 1 (.int 1)),
  ePure 31 (fLoadI 31 1 1),
  ePure 32 (fBin 32 o_ishl),
  eCallV 33 1 135 8,
  eRetI 36]
set_option maxRecDepth 100000 in
set_option maxHeartbeats 4000000 in
theorem ko_X8_without {l : Launch} {D : va_G} {cA : Nat → ClassId} {B : BB} {G : State → Prop} {md : Bool} {d : Nat} {call : Call} (hG : ∀ s, G s → Gs B s) (hok : COk l D cA B G md d mI call) : ∀ e ∈ k_X8_without md, EOk l RX8 cX8_without 2 (some .int) false D cA B G md d call e := by
  unfold k_X8_without
  refine al_cons (eok_pure (pr_aload_n dX8_without_0 rfl)) ?_
  refine al_cons (eok_pure (pr_iconst dX8_without_1 (by decide))) ?_
  refine al_cons (ok_put cl_X8 gX8 tyX8_ok nmX8 (by decide) w_941 rfl (by decide +kernel) (kok_int B) dX8_without_2) ?_
  refine al_cons (eok_pure (pr_aload_n dX8_without_5 rfl)) ?_
  refine al_cons (eok_pure (pr_iload_n dX8_without_6 rfl)) ?_
  refine al_cons (ok_callV hok mi_123 cl_X8 w_1176 w_1178 w_55 w_82 w_1179 na_123 (by decide) dX8_without_7) ?_
  refine al_cons (eok_pure (pr_if_eq dX8_without_10 (by decide))) ?_
  refine al_cons (eok_pure (pr_aload_n dX8_without_13 rfl)) ?_
  refine al_cons (eok_pure (pr_iload_n dX8_without_14 rfl)) ?_
  refine al_cons (eok_pure (pr_iconst dX8_without_15 (by decide))) ?_
  refine al_cons (ok_callV hok mi_125 cl_X8 w_1128 w_1130 w_46 w_82 w_1131 na_125 (by decide) dX8_without_16) ?_
  refine al_cons (eok_pure (pr_iconst dX8_without_19 (by decide))) ?_
  refine al_cons (eok_pure (pr_icmp_eq dX8_without_20 (by decide))) ?_
  refine al_cons (eok_pure (pr_iconst dX8_without_23 (by decide))) ?_
  refine al_cons (ok_retI rfl dX8_without_24) ?_
  refine al_cons (eok_pure (pr_aload_n dX8_without_25 rfl)) ?_
  refine al_cons (ok_callV hok mi_131 cl_X8 w_1120 w_1122 w_44 w_82 w_1123 na_131 (by decide) dX8_without_26) ?_
  refine al_cons (eok_pure (pr_aload_n dX8_without_29 rfl)) ?_
  refine al_cons (eok_pure (pr_iconst dX8_without_30 (by decide))) ?_
  refine al_cons (eok_pure (pr_iload_n dX8_without_31 rfl)) ?_
  refine al_cons (eok_pure (pr_ishl dX8_without_32)) ?_
  refine al_cons (ok_callV hok mi_135 cl_X8 w_1151 w_1153 w_51 w_82 w_1154 na_135 (by decide) dX8_without_33) ?_
  refine al_cons (ok_retI rfl dX8_without_36) ?_
  exact al_nil
def k_X8_pours (md : Bool) : List Ent := [ePure 0 (fPush 0 1 (.int 0)),
  ePure 1 (fStoI 1 1 2 8),
  ePure 2 (fPush 2 1 (.int 0)),
  ePure 3 (fStoI 3 1 3 8),
  ePure 4 (fLoadI 4 1 3),
  ePure 5 (fLoadA 5 1 0),
  eGet 6 8 11,
  ePure 9 (fPush 9 2 (.int 9)),
  eIald 11 0,
  ePure 12 (fIf2 12 28 b2_ge),
  ePure 15 (fLoadA 15 1 0),
  eGet 16 8 23,
  ePure 19 (fLoadI 19 1 3),
  ePure 20 (fPush 20 1 (.int 0)),
  eIast 21 0 (fun x => x),
  ePure 22 (fInc 22 3 8 1),
  ePure 25 (fGoto 4),
  ePure 28 (fPush 28 1 (.int 0)),
  ePure 29 (fStoI 29 1 3 8),
  ePure 30 (fLoadI 30 1 3),
  ePure 31 (fLoadA 31 1 0),
  eGet 32 8 11,
  ePure 35 (fPush 35 2 (.int 13)),
  eIald 37 0,
  ePure 38 (fIf2 38 201 b2_ge),
  ePure 41 (fLoadA 41 1 0),
  ePure 42 (fLoadI 42 1 3),
  ePure 43 (fPush 43 1 (.int 2)),
  eCallV 44 2 125 8,
  ePure 47 (fIf1 47 65 b1_ne),
  ePure 50 (fLoadA 50 1 0),
  ePure 51 (fLoadI 51 1 3),
  ePure 52 (fPush 52 1 (.int 1)),
  eCallV 53 2 125 8,
  ePure 56 (fLoadA 56 1 0),
  ePure 57 (fLoadI 57 1 3),
  eCallV 58 1 129 8,
  ePure 61 (fBin 61 o_isub),
  ePure 62 (fGoto 66),
  ePure 65 (fPush 65 1 (.int 0)),
  ePure 66 (fStoI 66 2 4 8),
  ePure 68 (fPush 68 1 (.int 0)),
  ePure 69 (fStoI 69 2 5 8),
  ePure 71 (fPush 71 1 (.int 0)),
  ePure 72 (fStoI 72 2 6 8),
  ePure 74 (fLoadI 74 2 6),
  ePure 76 (fLoadA 76 1 0),
  eGet 77 8 11,
  ePure 80 (fPush 80 2 (.int 9)),
  eIald 82 0,
  ePure 83 (fIf2 83 172 b2_ge),
  ePure 86 (fLoadA 86 1 0),
  eGet 87 8 22,
  ePure 90 (fLoadI 90 2 6),
  eIald 92 0,
  ePure 93 (fLoadI 93 1 3),
  ePure 94 (fIf2 94 100 b2_eq),
  ePure 97 (fGoto 166),
  ePure 100 (fLoadI 100 2 4),
  ePure 102 (fLoadA 102 1 0),
  ePure 103 (fLoadI 103 2 6),
  eCallV 105 1 126 8,
  ePure 108 (fIf2 108 116 b2_ge),
  ePure 111 (fLoadI 111 2 4),
  ePure 113 (fGoto 122),
  ePure 116 (fLoadA 116 1 0),
  ePure 117 (fLoadI 117 2 6),
  eCallV 119 1 126 8,
  ePure 122 (fStoI 122 2 7 8),
  ePure 124 (fLoadI 124 2 7),
  ePure 126 (fIf1 126 145 b1_eq),
  ePure 129 (fLoadA 129 1 0),
  ePure 130 (fLoadI 130 2 6),
  ePure 132 (fLoadA 132 1 0),
  ePure 133 (fLoadI 133 1 3),
  ePure 134 (fPush 134 1 (.int 0)),
  eCallV 135 2 125 8,
  ePure 138 (fLoadI 138 1 1),
  eCallV 139 3 128 8,
  ePure 142 (fIf1 142 147 b1_ne),
  ePure 145 (fPush 145 1 (.int (-1))),
  eRetI 146,
  ePure 147 (fLoadA 147 1 0),
  eGet 148 8 23,
  ePure 151 (fLoadI 151 2 6),
  ePure 153 (fLoadI 153 2 7),
  eIast 155 0 (fun x => x),
  ePure 156 (fLoadI 156 2 4),
  ePure 158 (fLoadI 158 2 7),
  ePure 160 (fBin 160 o_isub),
  ePure 161 (fStoI 161 2 4 8),
  ePure 163 (fPush 163 1 (.int 1)),
  ePure 164 (fStoI 164 2 5 8),
  ePure 166 (fInc 166 6 8 1),
  ePure 169 (fGoto 74),
  ePure 172 (fLoadI 172 2 5),
  ePure 174 (fIf1 174 184 b1_eq),
  ePure 177 (fLoadI 177 2 4),
  ePure 179 (fIf1 179 184 b1_le),
  ePure 182 (fPush 182 1 (.int (-1))),
  eRetI 183,
  ePure 184 (fLoadI 184 2 5),
  ePure 186 (fIf1 186 195 b1_eq),
  ePure 189 (fLoadI 189 1 2),
  ePure 190 (fPush 190 1 (.int 1)),
  ePure 191 (fLoadI 191 1 3),
  ePure 192 (fBin 192 o_ishl),
  ePure 193 (fBin 193 o_ior),
  ePure 194 (fStoI 194 1 2 8),
  ePure 195 (fInc 195 3 8 1),
  ePure 198 (fGoto 30),
  ePure 201 (fLoadI 201 1 2),
  eRetI 202]
set_option maxRecDepth 100000 in
set_option maxHeartbeats 4000000 in
theorem ko_X8_pours {l : Launch} {D : va_G} {cA : Nat → ClassId} {B : BB} {G : State → Prop} {md : Bool} {d : Nat} {call : Call} (hG : ∀ s, G s → Gs B s) (hok : COk l D cA B G md d mI call) : ∀ e ∈ k_X8_pours md, EOk l RX8 cX8_pours 8 (some .int) false D cA B G md d call e := by
  unfold k_X8_pours
  refine al_cons (eok_pure (pr_iconst dX8_pours_0 (by decide))) ?_
  refine al_cons (eok_pure (pr_istore_n dX8_pours_1 rfl)) ?_
  refine al_cons (eok_pure (pr_iconst dX8_pours_2 (by decide))) ?_
  refine al_cons (eok_pure (pr_istore_n dX8_pours_3 rfl)) ?_
  refine al_cons (eok_pure (pr_iload_n dX8_pours_4 rfl)) ?_
  refine al_cons (eok_pure (pr_aload_n dX8_pours_5 rfl)) ?_
  refine al_cons (ok_get cl_X8 gX8 (by decide) w_952 dX8_pours_6) ?_
  refine al_cons (eok_pure (pr_bipush dX8_pours_9 (by decide))) ?_
  refine al_cons (ok_iald dX8_pours_11) ?_
  refine al_cons (eok_pure (pr_icmp_ge dX8_pours_12 (by decide))) ?_
  refine al_cons (eok_pure (pr_aload_n dX8_pours_15 rfl)) ?_
  refine al_cons (ok_get cl_X8 gX8 (by decide) w_964 dX8_pours_16) ?_
  refine al_cons (eok_pure (pr_iload_n dX8_pours_19 rfl)) ?_
  refine al_cons (eok_pure (pr_iconst dX8_pours_20 (by decide))) ?_
  refine al_cons (ok_iast dX8_pours_21) ?_
  refine al_cons (eok_pure (pr_iinc dX8_pours_22 (by decide))) ?_
  refine al_cons (eok_pure (pr_goto dX8_pours_25 (by decide))) ?_
  refine al_cons (eok_pure (pr_iconst dX8_pours_28 (by decide))) ?_
  refine al_cons (eok_pure (pr_istore_n dX8_pours_29 rfl)) ?_
  refine al_cons (eok_pure (pr_iload_n dX8_pours_30 rfl)) ?_
  refine al_cons (eok_pure (pr_aload_n dX8_pours_31 rfl)) ?_
  refine al_cons (ok_get cl_X8 gX8 (by decide) w_952 dX8_pours_32) ?_
  refine al_cons (eok_pure (pr_bipush dX8_pours_35 (by decide))) ?_
  refine al_cons (ok_iald dX8_pours_37) ?_
  refine al_cons (eok_pure (pr_icmp_ge dX8_pours_38 (by decide))) ?_
  refine al_cons (eok_pure (pr_aload_n dX8_pours_41 rfl)) ?_
  refine al_cons (eok_pure (pr_iload_n dX8_pours_42 rfl)) ?_
  refine al_cons (eok_pure (pr_iconst dX8_pours_43 (by decide))) ?_
  refine al_cons (ok_callV hok mi_125 cl_X8 w_1128 w_1130 w_46 w_82 w_1131 na_125 (by decide) dX8_pours_44) ?_
  refine al_cons (eok_pure (pr_if_ne dX8_pours_47 (by decide))) ?_
  refine al_cons (eok_pure (pr_aload_n dX8_pours_50 rfl)) ?_
  refine al_cons (eok_pure (pr_iload_n dX8_pours_51 rfl)) ?_
  refine al_cons (eok_pure (pr_iconst dX8_pours_52 (by decide))) ?_
  refine al_cons (ok_callV hok mi_125 cl_X8 w_1128 w_1130 w_46 w_82 w_1131 na_125 (by decide) dX8_pours_53) ?_
  refine al_cons (eok_pure (pr_aload_n dX8_pours_56 rfl)) ?_
  refine al_cons (eok_pure (pr_iload_n dX8_pours_57 rfl)) ?_
  refine al_cons (ok_callV hok mi_129 cl_X8 w_1184 w_1186 w_57 w_82 w_1187 na_129 (by decide) dX8_pours_58) ?_
  refine al_cons (eok_pure (pr_isub dX8_pours_61)) ?_
  refine al_cons (eok_pure (pr_goto dX8_pours_62 (by decide))) ?_
  refine al_cons (eok_pure (pr_iconst dX8_pours_65 (by decide))) ?_
  refine al_cons (eok_pure (pr_istore dX8_pours_66)) ?_
  refine al_cons (eok_pure (pr_iconst dX8_pours_68 (by decide))) ?_
  refine al_cons (eok_pure (pr_istore dX8_pours_69)) ?_
  refine al_cons (eok_pure (pr_iconst dX8_pours_71 (by decide))) ?_
  refine al_cons (eok_pure (pr_istore dX8_pours_72)) ?_
  refine al_cons (eok_pure (pr_iload dX8_pours_74)) ?_
  refine al_cons (eok_pure (pr_aload_n dX8_pours_76 rfl)) ?_
  refine al_cons (ok_get cl_X8 gX8 (by decide) w_952 dX8_pours_77) ?_
  refine al_cons (eok_pure (pr_bipush dX8_pours_80 (by decide))) ?_
  refine al_cons (ok_iald dX8_pours_82) ?_
  refine al_cons (eok_pure (pr_icmp_ge dX8_pours_83 (by decide))) ?_
  refine al_cons (eok_pure (pr_aload_n dX8_pours_86 rfl)) ?_
  refine al_cons (ok_get cl_X8 gX8 (by decide) w_963 dX8_pours_87) ?_
  refine al_cons (eok_pure (pr_iload dX8_pours_90)) ?_
  refine al_cons (ok_iald dX8_pours_92) ?_
  refine al_cons (eok_pure (pr_iload_n dX8_pours_93 rfl)) ?_
  refine al_cons (eok_pure (pr_icmp_eq dX8_pours_94 (by decide))) ?_
  refine al_cons (eok_pure (pr_goto dX8_pours_97 (by decide))) ?_
  refine al_cons (eok_pure (pr_iload dX8_pours_100)) ?_
  refine al_cons (eok_pure (pr_aload_n dX8_pours_102 rfl)) ?_
  refine al_cons (eok_pure (pr_iload dX8_pours_103)) ?_
  refine al_cons (ok_callV hok mi_126 cl_X8 w_1164 w_1166 w_53 w_82 w_1167 na_126 (by decide) dX8_pours_105) ?_
  refine al_cons (eok_pure (pr_icmp_ge dX8_pours_108 (by decide))) ?_
  refine al_cons (eok_pure (pr_iload dX8_pours_111)) ?_
  refine al_cons (eok_pure (pr_goto dX8_pours_113 (by decide))) ?_
  refine al_cons (eok_pure (pr_aload_n dX8_pours_116 rfl)) ?_
  refine al_cons (eok_pure (pr_iload dX8_pours_117)) ?_
  refine al_cons (ok_callV hok mi_126 cl_X8 w_1164 w_1166 w_53 w_82 w_1167 na_126 (by decide) dX8_pours_119) ?_
  refine al_cons (eok_pure (pr_istore dX8_pours_122)) ?_
  refine al_cons (eok_pure (pr_iload dX8_pours_124)) ?_
  refine al_cons (eok_pure (pr_if_eq dX8_pours_126 (by decide))) ?_
  refine al_cons (eok_pure (pr_aload_n dX8_pours_129 rfl)) ?_
  refine al_cons (eok_pure (pr_iload dX8_pours_130)) ?_
  refine al_cons (eok_pure (pr_aload_n dX8_pours_132 rfl)) ?_
  refine al_cons (eok_pure (pr_iload_n dX8_pours_133 rfl)) ?_
  refine al_cons (eok_pure (pr_iconst dX8_pours_134 (by decide))) ?_
  refine al_cons (ok_callV hok mi_125 cl_X8 w_1128 w_1130 w_46 w_82 w_1131 na_125 (by decide) dX8_pours_135) ?_
  refine al_cons (eok_pure (pr_iload_n dX8_pours_138 rfl)) ?_
  refine al_cons (ok_callV hok mi_128 cl_X8 w_1196 w_1198 w_59 w_82 w_1199 na_128 (by decide) dX8_pours_139) ?_
  refine al_cons (eok_pure (pr_if_ne dX8_pours_142 (by decide))) ?_
  refine al_cons (eok_pure (pr_iconst dX8_pours_145 (by decide))) ?_
  refine al_cons (ok_retI rfl dX8_pours_146) ?_
  refine al_cons (eok_pure (pr_aload_n dX8_pours_147 rfl)) ?_
  refine al_cons (ok_get cl_X8 gX8 (by decide) w_964 dX8_pours_148) ?_
  refine al_cons (eok_pure (pr_iload dX8_pours_151)) ?_
  refine al_cons (eok_pure (pr_iload dX8_pours_153)) ?_
  refine al_cons (ok_iast dX8_pours_155) ?_
  refine al_cons (eok_pure (pr_iload dX8_pours_156)) ?_
  refine al_cons (eok_pure (pr_iload dX8_pours_158)) ?_
  refine al_cons (eok_pure (pr_isub dX8_pours_160)) ?_
  refine al_cons (eok_pure (pr_istore dX8_pours_161)) ?_
  refine al_cons (eok_pure (pr_iconst dX8_pours_163 (by decide))) ?_
  refine al_cons (eok_pure (pr_istore dX8_pours_164)) ?_
  refine al_cons (eok_pure (pr_iinc dX8_pours_166 (by decide))) ?_
  refine al_cons (eok_pure (pr_goto dX8_pours_169 (by decide))) ?_
  refine al_cons (eok_pure (pr_iload dX8_pours_172)) ?_
  refine al_cons (eok_pure (pr_if_eq dX8_pours_174 (by decide))) ?_
  refine al_cons (eok_pure (pr_iload dX8_pours_177)) ?_
  refine al_cons (eok_pure (pr_if_le dX8_pours_179 (by decide))) ?_
  refine al_cons (eok_pure (pr_iconst dX8_pours_182 (by decide))) ?_
  refine al_cons (ok_retI rfl dX8_pours_183) ?_
  refine al_cons (eok_pure (pr_iload dX8_pours_184)) ?_
  refine al_cons (eok_pure (pr_if_eq dX8_pours_186 (by decide))) ?_
  refine al_cons (eok_pure (pr_iload_n dX8_pours_189 rfl)) ?_
  refine al_cons (eok_pure (pr_iconst dX8_pours_190 (by decide))) ?_
  refine al_cons (eok_pure (pr_iload_n dX8_pours_191 rfl)) ?_
  refine al_cons (eok_pure (pr_ishl dX8_pours_192)) ?_
  refine al_cons (eok_pure (pr_ior dX8_pours_193)) ?_
  refine al_cons (eok_pure (pr_istore_n dX8_pours_194 rfl)) ?_
  refine al_cons (eok_pure (pr_iinc dX8_pours_195 (by decide))) ?_
  refine al_cons (eok_pure (pr_goto dX8_pours_198 (by decide))) ?_
  refine al_cons (eok_pure (pr_iload_n dX8_pours_201 rfl)) ?_
  refine al_cons (ok_retI rfl dX8_pours_202) ?_
  exact al_nil
def k_X8_looks (md : Bool) : List Ent := [ePure 0 (fLoadA 0 1 0),
  ePure 1 (fLoadI 1 1 1),
  eCallV 2 1 148 8,
  ePure 5 (fStoI 5 1 2 6),
  ePure 6 (fLoadI 6 1 2),
  ePure 7 (fPush 7 1 (.int (-1))),
  ePure 8 (fIf2 8 12 b2_ne),
  eRetV 11,
  ePure 12 (fPush 12 1 (.int 0)),
  ePure 13 (fStoI 13 1 3 6),
  ePure 14 (fPush 14 1 (.int 0)),
  ePure 15 (fStoI 15 2 4 6),
  ePure 17 (fLoadI 17 2 4),
  ePure 19 (fPush 19 2 (.int 20)),
  ePure 21 (fIf2 21 42 b2_ge),
  ePure 24 (fLoadI 24 1 2),
  ePure 25 (fLoadI 25 2 4),
  eCallS 27 2 95,
  ePure 30 (fIf1 30 36 b1_eq),
  ePure 33 (fInc 33 3 6 1),
  ePure 36 (fInc 36 4 6 1),
  ePure 39 (fGoto 17),
  ePure 42 (fPush 42 1 (.int 0)),
  ePure 43 (fStoI 43 2 4 6),
  ePure 45 (fLoadA 45 1 0),
  eCallV 46 0 131 8,
  ePure 49 (fPush 49 1 (.int 0)),
  ePure 50 (fStoI 50 2 5 6),
  ePure 52 (fLoadI 52 2 5),
  ePure 54 (fLoadA 54 1 0),
  eGet 55 8 11,
  ePure 58 (fPush 58 2 (.int 9)),
  eIald 60 0,
  ePure 61 (fIf2 61 134 b2_ge),
  ePure 64 (fLoadA 64 1 0),
  eGet 65 8 22,
  ePure 68 (fLoadI 68 2 5),
  eIald 70 0,
  ePure 71 (fPush 71 1 (.int (-1))),
  ePure 72 (fIf2 72 78 b2_ne),
  ePure 75 (fGoto 128),
  ePure 78 (fInc 78 4 6 1),
  ePure 81 (fLoadA 81 1 0),
  eGet 82 8 16,
  ePure 85 (fLoadI 85 2 5),
  ePure 87 (fLoadA 87 1 0),
  eGet 88 8 23,
  ePure 91 (fLoadI 91 2 5),
  eIald 93 0,
  eIast 94 0 (fun x => x),
  ePure 95 (fLoadA 95 1 0),
  eGet 96 8 18,
  ePure 99 (fLoadI 99 2 5),
  ePure 101 (fLoadA 101 1 0),
  eGet 102 8 22,
  ePure 105 (fLoadI 105 2 5),
  eIald 107 0,
  eIast 108 0 (fun x => x),
  ePure 109 (fLoadA 109 1 0),
  eGet 110 8 17,
  ePure 113 (fLoadI 113 2 5),
  ePure 115 (fLoadA 115 1 0),
  ePure 116 (fLoadA 116 1 0),
  eGet 117 8 22,
  ePure 120 (fLoadI 120 2 5),
  eIald 122 0,
  ePure 123 (fPush 123 1 (.int 0)),
  eCallV 124 2 125 8,
  eIast 127 0 (fun x => x),
  ePure 128 (fInc 128 5 6 1),
  ePure 131 (fGoto 52),
  ePure 134 (fLoadI 134 1 3),
  ePure 135 (fLoadA 135 1 0),
  eGet 136 8 26,
  ePure 139 (fIf2 139 159 b2_lt),
  ePure 142 (fLoadI 142 1 3),
  ePure 143 (fLoadA 143 1 0),
  eGet 144 8 26,
  ePure 147 (fIf2 147 160 b2_ne),
  ePure 150 (fLoadI 150 2 4),
  ePure 152 (fLoadA 152 1 0),
  eGet 153 8 27,
  ePure 156 (fIf2 156 160 b2_lt),
  eRetV 159,
  ePure 160 (fLoadA 160 1 0),
  ePure 161 (fPush 161 1 (.int 0)),
  eCallV 162 1 135 8,
  ePure 165 (fIf1 165 181 b1_ne),
  ePure 168 (fLoadA 168 1 0),
  ePure 169 (fLoadA 169 1 0),
  eCallV 170 0 138 8,
  ePure 173 (fLoadI 173 1 2),
  ePure 174 (fBin 174 o_ior),
  eCallV 175 1 137 8,
  ePure 178 (fIf1 178 182 b1_ne),
  eRetV 181,
  ePure 182 (fLoadA 182 1 0),
  ePure 183 (fLoadI 183 1 3),
  ePut 184 8 26 kInt,
  ePure 187 (fLoadA 187 1 0),
  ePure 188 (fLoadI 188 2 4),
  ePut 190 8 27 kInt,
  ePure 193 (fPush 193 1 (.int 0)),
  ePure 194 (fStoI 194 2 5 6),
  ePure 196 (fLoadI 196 2 5),
  ePure 198 (fPush 198 1 (.int 5)),
  ePure 199 (fIf2 199 236 b2_ge),
  ePure 202 (fLoadA 202 1 0),
  eGet 203 8 24,
  ePure 206 (fLoadI 206 2 5),
  ePure 208 (fLoadA 208 1 0),
  eGet 209 8 22,
  ePure 212 (fLoadI 212 2 5),
  eIald 214 0,
  eIast 215 0 (fun x => x),
  ePure 216 (fLoadA 216 1 0),
  eGet 217 8 25,
  ePure 220 (fLoadI 220 2 5),
  ePure 222 (fLoadA 222 1 0),
  eGet 223 8 23,
  ePure 226 (fLoadI 226 2 5),
  eIald 228 0,
  eIast 229 0 (fun x => x),
  ePure 230 (fInc 230 5 6 1),
  ePure 233 (fGoto 196),
  eRetV 236]
set_option maxRecDepth 100000 in
set_option maxHeartbeats 4000000 in
theorem ko_X8_looks {l : Launch} {D : va_G} {cA : Nat → ClassId} {B : BB} {G : State → Prop} {md : Bool} {d : Nat} {call : Call} (hG : ∀ s, G s → Gs B s) (hok : COk l D cA B G md d mI call) : ∀ e ∈ k_X8_looks md, EOk l RX8 cX8_looks 6 none false D cA B G md d call e := by
  unfold k_X8_looks
  refine al_cons (eok_pure (pr_aload_n dX8_looks_0 rfl)) ?_
  refine al_cons (eok_pure (pr_iload_n dX8_looks_1 rfl)) ?_
  refine al_cons (ok_callV hok mi_148 cl_X8 w_1244 w_1246 w_66 w_82 w_1247 na_148 (by decide) dX8_looks_2) ?_
  refine al_cons (eok_pure (pr_istore_n dX8_looks_5 rfl)) ?_
  refine al_cons (eok_pure (pr_iload_n dX8_looks_6 rfl)) ?_
  refine al_cons (eok_pure (pr_iconst dX8_looks_7 (by decide))) ?_
  refine al_cons (eok_pure (pr_icmp_ne dX8_looks_8 (by decide))) ?_
  refine al_cons (ok_retV rfl dX8_looks_11) ?_
  refine al_cons (eok_pure (pr_iconst dX8_looks_12 (by decide))) ?_
  refine al_cons (eok_pure (pr_istore_n dX8_looks_13 rfl)) ?_
  refine al_cons (eok_pure (pr_iconst dX8_looks_14 (by decide))) ?_
  refine al_cons (eok_pure (pr_istore dX8_looks_15)) ?_
  refine al_cons (eok_pure (pr_iload dX8_looks_17)) ?_
  refine al_cons (eok_pure (pr_bipush dX8_looks_19 (by decide))) ?_
  refine al_cons (eok_pure (pr_icmp_ge dX8_looks_21 (by decide))) ?_
  refine al_cons (eok_pure (pr_iload_n dX8_looks_24 rfl)) ?_
  refine al_cons (eok_pure (pr_iload dX8_looks_25)) ?_
  refine al_cons (ok_callS hok mi_95 w_1136 w_1137 w_82 w_1138 na_95 (by decide) dX8_looks_27) ?_
  refine al_cons (eok_pure (pr_if_eq dX8_looks_30 (by decide))) ?_
  refine al_cons (eok_pure (pr_iinc dX8_looks_33 (by decide))) ?_
  refine al_cons (eok_pure (pr_iinc dX8_looks_36 (by decide))) ?_
  refine al_cons (eok_pure (pr_goto dX8_looks_39 (by decide))) ?_
  refine al_cons (eok_pure (pr_iconst dX8_looks_42 (by decide))) ?_
  refine al_cons (eok_pure (pr_istore dX8_looks_43)) ?_
  refine al_cons (eok_pure (pr_aload_n dX8_looks_45 rfl)) ?_
  refine al_cons (ok_callV hok mi_131 cl_X8 w_1120 w_1122 w_44 w_82 w_1123 na_131 (by decide) dX8_looks_46) ?_
  refine al_cons (eok_pure (pr_iconst dX8_looks_49 (by decide))) ?_
  refine al_cons (eok_pure (pr_istore dX8_looks_50)) ?_
  refine al_cons (eok_pure (pr_iload dX8_looks_52)) ?_
  refine al_cons (eok_pure (pr_aload_n dX8_looks_54 rfl)) ?_
  refine al_cons (ok_get cl_X8 gX8 (by decide) w_952 dX8_looks_55) ?_
  refine al_cons (eok_pure (pr_bipush dX8_looks_58 (by decide))) ?_
  refine al_cons (ok_iald dX8_looks_60) ?_
  refine al_cons (eok_pure (pr_icmp_ge dX8_looks_61 (by decide))) ?_
  refine al_cons (eok_pure (pr_aload_n dX8_looks_64 rfl)) ?_
  refine al_cons (ok_get cl_X8 gX8 (by decide) w_963 dX8_looks_65) ?_
  refine al_cons (eok_pure (pr_iload dX8_looks_68)) ?_
  refine al_cons (ok_iald dX8_looks_70) ?_
  refine al_cons (eok_pure (pr_iconst dX8_looks_71 (by decide))) ?_
  refine al_cons (eok_pure (pr_icmp_ne dX8_looks_72 (by decide))) ?_
  refine al_cons (eok_pure (pr_goto dX8_looks_75 (by decide))) ?_
  refine al_cons (eok_pure (pr_iinc dX8_looks_78 (by decide))) ?_
  refine al_cons (eok_pure (pr_aload_n dX8_looks_81 rfl)) ?_
  refine al_cons (ok_get cl_X8 gX8 (by decide) w_957 dX8_looks_82) ?_
  refine al_cons (eok_pure (pr_iload dX8_looks_85)) ?_
  refine al_cons (eok_pure (pr_aload_n dX8_looks_87 rfl)) ?_
  refine al_cons (ok_get cl_X8 gX8 (by decide) w_964 dX8_looks_88) ?_
  refine al_cons (eok_pure (pr_iload dX8_looks_91)) ?_
  refine al_cons (ok_iald dX8_looks_93) ?_
  refine al_cons (ok_iast dX8_looks_94) ?_
  refine al_cons (eok_pure (pr_aload_n dX8_looks_95 rfl)) ?_
  refine al_cons (ok_get cl_X8 gX8 (by decide) w_959 dX8_looks_96) ?_
  refine al_cons (eok_pure (pr_iload dX8_looks_99)) ?_
  refine al_cons (eok_pure (pr_aload_n dX8_looks_101 rfl)) ?_
  refine al_cons (ok_get cl_X8 gX8 (by decide) w_963 dX8_looks_102) ?_
  refine al_cons (eok_pure (pr_iload dX8_looks_105)) ?_
  refine al_cons (ok_iald dX8_looks_107) ?_
  refine al_cons (ok_iast dX8_looks_108) ?_
  refine al_cons (eok_pure (pr_aload_n dX8_looks_109 rfl)) ?_
  refine al_cons (ok_get cl_X8 gX8 (by decide) w_958 dX8_looks_110) ?_
  refine al_cons (eok_pure (pr_iload dX8_looks_113)) ?_
  refine al_cons (eok_pure (pr_aload_n dX8_looks_115 rfl)) ?_
  refine al_cons (eok_pure (pr_aload_n dX8_looks_116 rfl)) ?_
  refine al_cons (ok_get cl_X8 gX8 (by decide) w_963 dX8_looks_117) ?_
  refine al_cons (eok_pure (pr_iload dX8_looks_120)) ?_
  refine al_cons (ok_iald dX8_looks_122) ?_
  refine al_cons (eok_pure (pr_iconst dX8_looks_123 (by decide))) ?_
  refine al_cons (ok_callV hok mi_125 cl_X8 w_1128 w_1130 w_46 w_82 w_1131 na_125 (by decide) dX8_looks_124) ?_
  refine al_cons (ok_iast dX8_looks_127) ?_
  refine al_cons (eok_pure (pr_iinc dX8_looks_128 (by decide))) ?_
  refine al_cons (eok_pure (pr_goto dX8_looks_131 (by decide))) ?_
  refine al_cons (eok_pure (pr_iload_n dX8_looks_134 rfl)) ?_
  refine al_cons (eok_pure (pr_aload_n dX8_looks_135 rfl)) ?_
  refine al_cons (ok_get cl_X8 gX8 (by decide) w_967 dX8_looks_136) ?_
  refine al_cons (eok_pure (pr_icmp_lt dX8_looks_139 (by decide))) ?_
  refine al_cons (eok_pure (pr_iload_n dX8_looks_142 rfl)) ?_
  refine al_cons (eok_pure (pr_aload_n dX8_looks_143 rfl)) ?_
  refine al_cons (ok_get cl_X8 gX8 (by decide) w_967 dX8_looks_144) ?_
  refine al_cons (eok_pure (pr_icmp_ne dX8_looks_147 (by decide))) ?_
  refine al_cons (eok_pure (pr_iload dX8_looks_150)) ?_
  refine al_cons (eok_pure (pr_aload_n dX8_looks_152 rfl)) ?_
  refine al_cons (ok_get cl_X8 gX8 (by decide) w_968 dX8_looks_153) ?_
  refine al_cons (eok_pure (pr_icmp_lt dX8_looks_156 (by decide))) ?_
  refine al_cons (ok_retV rfl dX8_looks_159) ?_
  refine al_cons (eok_pure (pr_aload_n dX8_looks_160 rfl)) ?_
  refine al_cons (eok_pure (pr_iconst dX8_looks_161 (by decide))) ?_
  refine al_cons (ok_callV hok mi_135 cl_X8 w_1151 w_1153 w_51 w_82 w_1154 na_135 (by decide) dX8_looks_162) ?_
  refine al_cons (eok_pure (pr_if_ne dX8_looks_165 (by decide))) ?_
  refine al_cons (eok_pure (pr_aload_n dX8_looks_168 rfl)) ?_
  refine al_cons (eok_pure (pr_aload_n dX8_looks_169 rfl)) ?_
  refine al_cons (ok_callV hok mi_138 cl_X8 w_1208 w_1210 w_60 w_82 w_1211 na_138 (by decide) dX8_looks_170) ?_
  refine al_cons (eok_pure (pr_iload_n dX8_looks_173 rfl)) ?_
  refine al_cons (eok_pure (pr_ior dX8_looks_174)) ?_
  refine al_cons (ok_callV hok mi_137 cl_X8 w_1212 w_1214 w_61 w_82 w_1215 na_137 (by decide) dX8_looks_175) ?_
  refine al_cons (eok_pure (pr_if_ne dX8_looks_178 (by decide))) ?_
  refine al_cons (ok_retV rfl dX8_looks_181) ?_
  refine al_cons (eok_pure (pr_aload_n dX8_looks_182 rfl)) ?_
  refine al_cons (eok_pure (pr_iload_n dX8_looks_183 rfl)) ?_
  refine al_cons (ok_put cl_X8 gX8 tyX8_ok nmX8 (by decide) w_967 rfl (by decide +kernel) (kok_int B) dX8_looks_184) ?_
  refine al_cons (eok_pure (pr_aload_n dX8_looks_187 rfl)) ?_
  refine al_cons (eok_pure (pr_iload dX8_looks_188)) ?_
  refine al_cons (ok_put cl_X8 gX8 tyX8_ok nmX8 (by decide) w_968 rfl (by decide +kernel) (kok_int B) dX8_looks_190) ?_
  refine al_cons (eok_pure (pr_iconst dX8_looks_193 (by decide))) ?_
  refine al_cons (eok_pure (pr_istore dX8_looks_194)) ?_
  refine al_cons (eok_pure (pr_iload dX8_looks_196)) ?_
  refine al_cons (eok_pure (pr_iconst dX8_looks_198 (by decide))) ?_
  refine al_cons (eok_pure (pr_icmp_ge dX8_looks_199 (by decide))) ?_
  refine al_cons (eok_pure (pr_aload_n dX8_looks_202 rfl)) ?_
  refine al_cons (ok_get cl_X8 gX8 (by decide) w_965 dX8_looks_203) ?_
  refine al_cons (eok_pure (pr_iload dX8_looks_206)) ?_
  refine al_cons (eok_pure (pr_aload_n dX8_looks_208 rfl)) ?_
  refine al_cons (ok_get cl_X8 gX8 (by decide) w_963 dX8_looks_209) ?_
  refine al_cons (eok_pure (pr_iload dX8_looks_212)) ?_
  refine al_cons (ok_iald dX8_looks_214) ?_
  refine al_cons (ok_iast dX8_looks_215) ?_
  refine al_cons (eok_pure (pr_aload_n dX8_looks_216 rfl)) ?_
  refine al_cons (ok_get cl_X8 gX8 (by decide) w_966 dX8_looks_217) ?_
  refine al_cons (eok_pure (pr_iload dX8_looks_220)) ?_
  refine al_cons (eok_pure (pr_aload_n dX8_looks_222 rfl)) ?_
  refine al_cons (ok_get cl_X8 gX8 (by decide) w_964 dX8_looks_223) ?_
  refine al_cons (eok_pure (pr_iload dX8_looks_226)) ?_
  refine al_cons (ok_iald dX8_looks_228) ?_
  refine al_cons (ok_iast dX8_looks_229) ?_
  refine al_cons (eok_pure (pr_iinc dX8_looks_230 (by decide))) ?_
  refine al_cons (eok_pure (pr_goto dX8_looks_233 (by decide))) ?_
  refine al_cons (ok_retV rfl dX8_looks_236) ?_
  exact al_nil
def k_X8_tries (md : Bool) : List Ent := [ePure 0 (fLoadI 0 1 1),
  ePure 1 (fLoadA 1 1 0),
  eGet 2 8 11,
  ePure 5 (fPush 5 2 (.int 9)),
  eIald 7 0,
  ePure 8 (fIf2 8 17 b2_ne),
  ePure 11 (fLoadA 11 1 0),
  ePure 12 (fLoadI 12 1 2),
  eCallV 13 1 149 8,
  eRetV 16,
  ePure 17 (fPush 17 1 (.int 0)),
  ePure 18 (fStoI 18 1 3 4),
  ePure 19 (fLoadI 19 1 3),
  ePure 20 (fLoadA 20 1 0),
  eGet 21 8 11,
  ePure 24 (fPush 24 2 (.int 13)),
  eIald 26 0,
  ePure 27 (fIf2 27 72 b2_ge),
  ePure 30 (fLoadA 30 1 0),
  ePure 31 (fLoadI 31 1 1),
  ePure 32 (fPush 32 1 (.int 4)),
  eCallV 33 2 124 8,
  ePure 36 (fIf1 36 72 b1_ne),
  ePure 39 (fLoadA 39 1 0),
  ePure 40 (fLoadI 40 1 3),
  ePure 41 (fPush 41 1 (.int 2)),
  eCallV 42 2 125 8,
  ePure 45 (fIf1 45 51 b1_eq),
  ePure 48 (fGoto 66),
  ePure 51 (fLoadA 51 1 0),
  eGet 52 8 22,
  ePure 55 (fLoadI 55 1 1),
  ePure 56 (fLoadI 56 1 3),
  eIast 57 0 (fun x => x),
  ePure 58 (fLoadA 58 1 0),
  ePure 59 (fLoadI 59 1 1),
  ePure 60 (fPush 60 1 (.int 1)),
  ePure 61 (fBin 61 o_iadd),
  ePure 62 (fLoadI 62 1 2),
  eCallV 63 2 150 8,
  ePure 66 (fInc 66 3 4 1),
  ePure 69 (fGoto 19),
  ePure 72 (fLoadA 72 1 0),
  eGet 73 8 22,
  ePure 76 (fLoadI 76 1 1),
  ePure 77 (fPush 77 1 (.int (-1))),
  eIast 78 0 (fun x => x),
  ePure 79 (fLoadA 79 1 0),
  ePure 80 (fLoadI 80 1 1),
  ePure 81 (fPush 81 1 (.int 1)),
  ePure 82 (fBin 82 o_iadd),
  ePure 83 (fLoadI 83 1 2),
  eCallV 84 2 150 8,
  eRetV 87]
set_option maxRecDepth 100000 in
set_option maxHeartbeats 4000000 in
theorem ko_X8_tries {l : Launch} {D : va_G} {cA : Nat → ClassId} {B : BB} {G : State → Prop} {md : Bool} {d : Nat} {call : Call} (hG : ∀ s, G s → Gs B s) (hok : COk l D cA B G md d mI call) : ∀ e ∈ k_X8_tries md, EOk l RX8 cX8_tries 4 none false D cA B G md d call e := by
  unfold k_X8_tries
  refine al_cons (eok_pure (pr_iload_n dX8_tries_0 rfl)) ?_
  refine al_cons (eok_pure (pr_aload_n dX8_tries_1 rfl)) ?_
  refine al_cons (ok_get cl_X8 gX8 (by decide) w_952 dX8_tries_2) ?_
  refine al_cons (eok_pure (pr_bipush dX8_tries_5 (by decide))) ?_
  refine al_cons (ok_iald dX8_tries_7) ?_
  refine al_cons (eok_pure (pr_icmp_ne dX8_tries_8 (by decide))) ?_
  refine al_cons (eok_pure (pr_aload_n dX8_tries_11 rfl)) ?_
  refine al_cons (eok_pure (pr_iload_n dX8_tries_12 rfl)) ?_
  refine al_cons (ok_callV hok mi_149 cl_X8 w_1240 w_1242 w_65 w_82 w_1243 na_149 (by decide) dX8_tries_13) ?_
  refine al_cons (ok_retV rfl dX8_tries_16) ?_
  refine al_cons (eok_pure (pr_iconst dX8_tries_17 (by decide))) ?_
  refine al_cons (eok_pure (pr_istore_n dX8_tries_18 rfl)) ?_
  refine al_cons (eok_pure (pr_iload_n dX8_tries_19 rfl)) ?_
  refine al_cons (eok_pure (pr_aload_n dX8_tries_20 rfl)) ?_
  refine al_cons (ok_get cl_X8 gX8 (by decide) w_952 dX8_tries_21) ?_
  refine al_cons (eok_pure (pr_bipush dX8_tries_24 (by decide))) ?_
  refine al_cons (ok_iald dX8_tries_26) ?_
  refine al_cons (eok_pure (pr_icmp_ge dX8_tries_27 (by decide))) ?_
  refine al_cons (eok_pure (pr_aload_n dX8_tries_30 rfl)) ?_
  refine al_cons (eok_pure (pr_iload_n dX8_tries_31 rfl)) ?_
  refine al_cons (eok_pure (pr_iconst dX8_tries_32 (by decide))) ?_
  refine al_cons (ok_callV hok mi_124 cl_X8 w_1124 w_1126 w_45 w_82 w_1127 na_124 (by decide) dX8_tries_33) ?_
  refine al_cons (eok_pure (pr_if_ne dX8_tries_36 (by decide))) ?_
  refine al_cons (eok_pure (pr_aload_n dX8_tries_39 rfl)) ?_
  refine al_cons (eok_pure (pr_iload_n dX8_tries_40 rfl)) ?_
  refine al_cons (eok_pure (pr_iconst dX8_tries_41 (by decide))) ?_
  refine al_cons (ok_callV hok mi_125 cl_X8 w_1128 w_1130 w_46 w_82 w_1131 na_125 (by decide) dX8_tries_42) ?_
  refine al_cons (eok_pure (pr_if_eq dX8_tries_45 (by decide))) ?_
  refine al_cons (eok_pure (pr_goto dX8_tries_48 (by decide))) ?_
  refine al_cons (eok_pure (pr_aload_n dX8_tries_51 rfl)) ?_
  refine al_cons (ok_get cl_X8 gX8 (by decide) w_963 dX8_tries_52) ?_
  refine al_cons (eok_pure (pr_iload_n dX8_tries_55 rfl)) ?_
  refine al_cons (eok_pure (pr_iload_n dX8_tries_56 rfl)) ?_
  refine al_cons (ok_iast dX8_tries_57) ?_
  refine al_cons (eok_pure (pr_aload_n dX8_tries_58 rfl)) ?_
  refine al_cons (eok_pure (pr_iload_n dX8_tries_59 rfl)) ?_
  refine al_cons (eok_pure (pr_iconst dX8_tries_60 (by decide))) ?_
  refine al_cons (eok_pure (pr_iadd dX8_tries_61)) ?_
  refine al_cons (eok_pure (pr_iload_n dX8_tries_62 rfl)) ?_
  refine al_cons (ok_callV hok mi_150 cl_X8 w_1236 w_1238 w_64 w_82 w_1239 na_150 (by decide) dX8_tries_63) ?_
  refine al_cons (eok_pure (pr_iinc dX8_tries_66 (by decide))) ?_
  refine al_cons (eok_pure (pr_goto dX8_tries_69 (by decide))) ?_
  refine al_cons (eok_pure (pr_aload_n dX8_tries_72 rfl)) ?_
  refine al_cons (ok_get cl_X8 gX8 (by decide) w_963 dX8_tries_73) ?_
  refine al_cons (eok_pure (pr_iload_n dX8_tries_76 rfl)) ?_
  refine al_cons (eok_pure (pr_iconst dX8_tries_77 (by decide))) ?_
  refine al_cons (ok_iast dX8_tries_78) ?_
  refine al_cons (eok_pure (pr_aload_n dX8_tries_79 rfl)) ?_
  refine al_cons (eok_pure (pr_iload_n dX8_tries_80 rfl)) ?_
  refine al_cons (eok_pure (pr_iconst dX8_tries_81 (by decide))) ?_
  refine al_cons (eok_pure (pr_iadd dX8_tries_82)) ?_
  refine al_cons (eok_pure (pr_iload_n dX8_tries_83 rfl)) ?_
  refine al_cons (ok_callV hok mi_150 cl_X8 w_1236 w_1238 w_64 w_82 w_1239 na_150 (by decide) dX8_tries_84) ?_
  refine al_cons (ok_retV rfl dX8_tries_87) ?_
  exact al_nil
def k_X8_laysPlan (md : Bool) : List Ent := [ePure 0 (fLoadA 0 1 0),
  ePure 1 (fPush 1 1 (.int (-1))),
  ePut 2 8 26 kInt,
  ePure 5 (fLoadA 5 1 0),
  ePure 6 (fPush 6 1 (.int 0)),
  ePut 7 8 27 kInt,
  ePure 10 (fPush 10 1 (.int 0)),
  ePure 11 (fStoI 11 1 2 3),
  ePure 12 (fLoadI 12 1 2),
  ePure 13 (fPush 13 1 (.int 5)),
  ePure 14 (fIf2 14 44 b2_ge),
  ePure 17 (fLoadA 17 1 0),
  eGet 18 8 22,
  ePure 21 (fLoadI 21 1 2),
  ePure 22 (fPush 22 1 (.int (-1))),
  eIast 23 0 (fun x => x),
  ePure 24 (fLoadA 24 1 0),
  eGet 25 8 24,
  ePure 28 (fLoadI 28 1 2),
  ePure 29 (fPush 29 1 (.int (-1))),
  eIast 30 0 (fun x => x),
  ePure 31 (fLoadA 31 1 0),
  eGet 32 8 25,
  ePure 35 (fLoadI 35 1 2),
  ePure 36 (fPush 36 1 (.int 0)),
  eIast 37 0 (fun x => x),
  ePure 38 (fInc 38 2 3 1),
  ePure 41 (fGoto 12),
  ePure 44 (fLoadA 44 1 0),
  ePure 45 (fPush 45 1 (.int 0)),
  ePure 46 (fLoadI 46 1 1),
  eCallV 47 2 150 8,
  eRetV 50]
set_option maxRecDepth 100000 in
set_option maxHeartbeats 4000000 in
theorem ko_X8_laysPlan {l : Launch} {D : va_G} {cA : Nat → ClassId} {B : BB} {G : State → Prop} {md : Bool} {d : Nat} {call : Call} (hG : ∀ s, G s → Gs B s) (hok : COk l D cA B G md d mI call) : ∀ e ∈ k_X8_laysPlan md, EOk l RX8 cX8_laysPlan 3 none false D cA B G md d call e := by
  unfold k_X8_laysPlan
  refine al_cons (eok_pure (pr_aload_n dX8_laysPlan_0 rfl)) ?_
  refine al_cons (eok_pure (pr_iconst dX8_laysPlan_1 (by decide))) ?_
  refine al_cons (ok_put cl_X8 gX8 tyX8_ok nmX8 (by decide) w_967 rfl (by decide +kernel) (kok_int B) dX8_laysPlan_2) ?_
  refine al_cons (eok_pure (pr_aload_n dX8_laysPlan_5 rfl)) ?_
  refine al_cons (eok_pure (pr_iconst dX8_laysPlan_6 (by decide))) ?_
  refine al_cons (ok_put cl_X8 gX8 tyX8_ok nmX8 (by decide) w_968 rfl (by decide +kernel) (kok_int B) dX8_laysPlan_7) ?_
  refine al_cons (eok_pure (pr_iconst dX8_laysPlan_10 (by decide))) ?_
  refine al_cons (eok_pure (pr_istore_n dX8_laysPlan_11 rfl)) ?_
  refine al_cons (eok_pure (pr_iload_n dX8_laysPlan_12 rfl)) ?_
  refine al_cons (eok_pure (pr_iconst dX8_laysPlan_13 (by decide))) ?_
  refine al_cons (eok_pure (pr_icmp_ge dX8_laysPlan_14 (by decide))) ?_
  refine al_cons (eok_pure (pr_aload_n dX8_laysPlan_17 rfl)) ?_
  refine al_cons (ok_get cl_X8 gX8 (by decide) w_963 dX8_laysPlan_18) ?_
  refine al_cons (eok_pure (pr_iload_n dX8_laysPlan_21 rfl)) ?_
  refine al_cons (eok_pure (pr_iconst dX8_laysPlan_22 (by decide))) ?_
  refine al_cons (ok_iast dX8_laysPlan_23) ?_
  refine al_cons (eok_pure (pr_aload_n dX8_laysPlan_24 rfl)) ?_
  refine al_cons (ok_get cl_X8 gX8 (by decide) w_965 dX8_laysPlan_25) ?_
  refine al_cons (eok_pure (pr_iload_n dX8_laysPlan_28 rfl)) ?_
  refine al_cons (eok_pure (pr_iconst dX8_laysPlan_29 (by decide))) ?_
  refine al_cons (ok_iast dX8_laysPlan_30) ?_
  refine al_cons (eok_pure (pr_aload_n dX8_laysPlan_31 rfl)) ?_
  refine al_cons (ok_get cl_X8 gX8 (by decide) w_966 dX8_laysPlan_32) ?_
  refine al_cons (eok_pure (pr_iload_n dX8_laysPlan_35 rfl)) ?_
  refine al_cons (eok_pure (pr_iconst dX8_laysPlan_36 (by decide))) ?_
  refine al_cons (ok_iast dX8_laysPlan_37) ?_
  refine al_cons (eok_pure (pr_iinc dX8_laysPlan_38 (by decide))) ?_
  refine al_cons (eok_pure (pr_goto dX8_laysPlan_41 (by decide))) ?_
  refine al_cons (eok_pure (pr_aload_n dX8_laysPlan_44 rfl)) ?_
  refine al_cons (eok_pure (pr_iconst dX8_laysPlan_45 (by decide))) ?_
  refine al_cons (eok_pure (pr_iload_n dX8_laysPlan_46 rfl)) ?_
  refine al_cons (ok_callV hok mi_150 cl_X8 w_1236 w_1238 w_64 w_82 w_1239 na_150 (by decide) dX8_laysPlan_47) ?_
  refine al_cons (ok_retV rfl dX8_laysPlan_50) ?_
  exact al_nil
def k_X8_plan (md : Bool) : List Ent := [ePure 0 (fLoadA 0 1 0),
  ePure 1 (fPush 1 1 (.int 0)),
  ePut 2 8 0 kInt,
  ePure 5 (fLoadI 5 1 1),
  ePure 6 (fPush 6 2 (.int 20)),
  ePure 8 (fIf2 8 18 b2_lt),
  ePure 11 (fLoadI 11 1 1),
  ePure 12 (fPush 12 2 (.int 20)),
  ePure 14 (fBin 14 o_isub),
  ePure 15 (fGoto 22),
  ePure 18 (fLoadI 18 1 1),
  ePure 19 (fPush 19 2 (.int 10)),
  ePure 21 (fBin 21 o_isub),
  ePure 22 (fStoI 22 1 2 3),
  ePure 23 (fLoadI 23 1 1),
  ePure 24 (fPush 24 1 (.int 0)),
  ePure 25 (fPush 25 1 (.int 1)),
  eCallS 26 3 94,
  ePure 29 (fIf1 29 52 b1_ne),
  ePure 32 (fLoadI 32 1 2),
  ePure 33 (fPush 33 1 (.int 0)),
  ePure 34 (fPush 34 2 (.int 9)),
  eCallS 36 3 94,
  ePure 39 (fIf1 39 50 b1_eq),
  ePure 42 (fLoadA 42 1 0),
  ePure 43 (fLoadI 43 1 2),
  eCallV 44 1 121 8,
  ePure 47 (fIf1 47 52 b1_ne),
  ePure 50 (fPush 50 1 (.int (-1))),
  eRetI 51,
  ePure 52 (fLoadA 52 1 0),
  ePure 53 (fPush 53 1 (.int 0)),
  eCallV 54 1 151 8,
  ePure 57 (fLoadA 57 1 0),
  eGet 58 8 26,
  ePure 61 (fPush 61 1 (.int (-1))),
  ePure 62 (fIf2 62 68 b2_ne),
  ePure 65 (fPush 65 2 (.int (-2))),
  eRetI 67,
  ePure 68 (fLoadI 68 1 1),
  ePure 69 (fIf1 69 79 b1_ne),
  ePure 72 (fLoadA 72 1 0),
  eGet 73 8 26,
  ePure 76 (fGoto 112),
  ePure 79 (fLoadI 79 1 1),
  ePure 80 (fPush 80 1 (.int 1)),
  ePure 81 (fIf2 81 91 b2_ne),
  ePure 84 (fLoadA 84 1 0),
  eGet 85 8 27,
  ePure 88 (fGoto 112),
  ePure 91 (fLoadI 91 1 1),
  ePure 92 (fPush 92 2 (.int 20)),
  ePure 94 (fIf2 94 106 b2_ge),
  ePure 97 (fLoadA 97 1 0),
  eGet 98 8 24,
  ePure 101 (fLoadI 101 1 2),
  eIald 102 0,
  ePure 103 (fGoto 112),
  ePure 106 (fLoadA 106 1 0),
  eGet 107 8 25,
  ePure 110 (fLoadI 110 1 2),
  eIald 111 0,
  eRetI 112]
set_option maxRecDepth 100000 in
set_option maxHeartbeats 4000000 in
theorem ko_X8_plan {l : Launch} {D : va_G} {cA : Nat → ClassId} {B : BB} {G : State → Prop} {md : Bool} {d : Nat} {call : Call} (hG : ∀ s, G s → Gs B s) (hok : COk l D cA B G md d mI call) : ∀ e ∈ k_X8_plan md, EOk l RX8 cX8_plan 3 (some .int) false D cA B G md d call e := by
  unfold k_X8_plan
  refine al_cons (eok_pure (pr_aload_n dX8_plan_0 rfl)) ?_
  refine al_cons (eok_pure (pr_iconst dX8_plan_1 (by decide))) ?_
  refine al_cons (ok_put cl_X8 gX8 tyX8_ok nmX8 (by decide) w_941 rfl (by decide +kernel) (kok_int B) dX8_plan_2) ?_
  refine al_cons (eok_pure (pr_iload_n dX8_plan_5 rfl)) ?_
  refine al_cons (eok_pure (pr_bipush dX8_plan_6 (by decide))) ?_
  refine al_cons (eok_pure (pr_icmp_lt dX8_plan_8 (by decide))) ?_
  refine al_cons (eok_pure (pr_iload_n dX8_plan_11 rfl)) ?_
  refine al_cons (eok_pure (pr_bipush dX8_plan_12 (by decide))) ?_
  refine al_cons (eok_pure (pr_isub dX8_plan_14)) ?_
  refine al_cons (eok_pure (pr_goto dX8_plan_15 (by decide))) ?_
  refine al_cons (eok_pure (pr_iload_n dX8_plan_18 rfl)) ?_
  refine al_cons (eok_pure (pr_bipush dX8_plan_19 (by decide))) ?_
  refine al_cons (eok_pure (pr_isub dX8_plan_21)) ?_
  refine al_cons (eok_pure (pr_istore_n dX8_plan_22 rfl)) ?_
  refine al_cons (eok_pure (pr_iload_n dX8_plan_23 rfl)) ?_
  refine al_cons (eok_pure (pr_iconst dX8_plan_24 (by decide))) ?_
  refine al_cons (eok_pure (pr_iconst dX8_plan_25 (by decide))) ?_
  refine al_cons (ok_callS hok mi_94 w_1073 w_1074 w_82 w_1075 na_94 (by decide) dX8_plan_26) ?_
  refine al_cons (eok_pure (pr_if_ne dX8_plan_29 (by decide))) ?_
  refine al_cons (eok_pure (pr_iload_n dX8_plan_32 rfl)) ?_
  refine al_cons (eok_pure (pr_iconst dX8_plan_33 (by decide))) ?_
  refine al_cons (eok_pure (pr_bipush dX8_plan_34 (by decide))) ?_
  refine al_cons (ok_callS hok mi_94 w_1073 w_1074 w_82 w_1075 na_94 (by decide) dX8_plan_36) ?_
  refine al_cons (eok_pure (pr_if_eq dX8_plan_39 (by decide))) ?_
  refine al_cons (eok_pure (pr_aload_n dX8_plan_42 rfl)) ?_
  refine al_cons (eok_pure (pr_iload_n dX8_plan_43 rfl)) ?_
  refine al_cons (ok_callV hok mi_121 cl_X8 w_1160 w_1162 w_52 w_82 w_1163 na_121 (by decide) dX8_plan_44) ?_
  refine al_cons (eok_pure (pr_if_ne dX8_plan_47 (by decide))) ?_
  refine al_cons (eok_pure (pr_iconst dX8_plan_50 (by decide))) ?_
  refine al_cons (ok_retI rfl dX8_plan_51) ?_
  refine al_cons (eok_pure (pr_aload_n dX8_plan_52 rfl)) ?_
  refine al_cons (eok_pure (pr_iconst dX8_plan_53 (by decide))) ?_
  refine al_cons (ok_callV hok mi_151 cl_X8 w_1232 w_1234 w_63 w_82 w_1235 na_151 (by decide) dX8_plan_54) ?_
  refine al_cons (eok_pure (pr_aload_n dX8_plan_57 rfl)) ?_
  refine al_cons (ok_get cl_X8 gX8 (by decide) w_967 dX8_plan_58) ?_
  refine al_cons (eok_pure (pr_iconst dX8_plan_61 (by decide))) ?_
  refine al_cons (eok_pure (pr_icmp_ne dX8_plan_62 (by decide))) ?_
  refine al_cons (eok_pure (pr_bipush dX8_plan_65 (by decide))) ?_
  refine al_cons (ok_retI rfl dX8_plan_67) ?_
  refine al_cons (eok_pure (pr_iload_n dX8_plan_68 rfl)) ?_
  refine al_cons (eok_pure (pr_if_ne dX8_plan_69 (by decide))) ?_
  refine al_cons (eok_pure (pr_aload_n dX8_plan_72 rfl)) ?_
  refine al_cons (ok_get cl_X8 gX8 (by decide) w_967 dX8_plan_73) ?_
  refine al_cons (eok_pure (pr_goto dX8_plan_76 (by decide))) ?_
  refine al_cons (eok_pure (pr_iload_n dX8_plan_79 rfl)) ?_
  refine al_cons (eok_pure (pr_iconst dX8_plan_80 (by decide))) ?_
  refine al_cons (eok_pure (pr_icmp_ne dX8_plan_81 (by decide))) ?_
  refine al_cons (eok_pure (pr_aload_n dX8_plan_84 rfl)) ?_
  refine al_cons (ok_get cl_X8 gX8 (by decide) w_968 dX8_plan_85) ?_
  refine al_cons (eok_pure (pr_goto dX8_plan_88 (by decide))) ?_
  refine al_cons (eok_pure (pr_iload_n dX8_plan_91 rfl)) ?_
  refine al_cons (eok_pure (pr_bipush dX8_plan_92 (by decide))) ?_
  refine al_cons (eok_pure (pr_icmp_ge dX8_plan_94 (by decide))) ?_
  refine al_cons (eok_pure (pr_aload_n dX8_plan_97 rfl)) ?_
  refine al_cons (ok_get cl_X8 gX8 (by decide) w_965 dX8_plan_98) ?_
  refine al_cons (eok_pure (pr_iload_n dX8_plan_101 rfl)) ?_
  refine al_cons (ok_iald dX8_plan_102) ?_
  refine al_cons (eok_pure (pr_goto dX8_plan_103 (by decide))) ?_
  refine al_cons (eok_pure (pr_aload_n dX8_plan_106 rfl)) ?_
  refine al_cons (ok_get cl_X8 gX8 (by decide) w_966 dX8_plan_107) ?_
  refine al_cons (eok_pure (pr_iload_n dX8_plan_110 rfl)) ?_
  refine al_cons (ok_iald dX8_plan_111) ?_
  refine al_cons (ok_retI rfl dX8_plan_112) ?_
  exact al_nil
def k_X8_washes (md : Bool) : List Ent := [ePure 0 (fLoadA 0 1 0),
  ePure 1 (fPush 1 1 (.int 0)),
  ePut 2 8 0 kInt,
  ePure 5 (fPush 5 1 (.int 0)),
  ePure 6 (fStoI 6 1 1 6),
  ePure 7 (fPush 7 1 (.int 0)),
  ePure 8 (fStoI 8 1 2 6),
  ePure 9 (fLoadI 9 1 2),
  ePure 10 (fLoadA 10 1 0),
  eGet 11 8 11,
  ePure 14 (fPush 14 2 (.int 9)),
  eIald 16 0,
  ePure 17 (fIf2 17 41 b2_ge),
  ePure 20 (fLoadA 20 1 0),
  ePure 21 (fLoadI 21 1 2),
  ePure 22 (fPush 22 1 (.int 4)),
  eCallV 23 2 124 8,
  ePure 26 (fIf1 26 35 b1_ne),
  ePure 29 (fLoadI 29 1 1),
  ePure 30 (fPush 30 1 (.int 1)),
  ePure 31 (fLoadI 31 1 2),
  ePure 32 (fBin 32 o_ishl),
  ePure 33 (fBin 33 o_ior),
  ePure 34 (fStoI 34 1 1 6),
  ePure 35 (fInc 35 2 6 1),
  ePure 38 (fGoto 9),
  ePure 41 (fPush 41 2 (.int (-2))),
  ePure 43 (fStoI 43 1 2 6),
  ePure 44 (fPush 44 1 (.int 0)),
  ePure 45 (fStoI 45 1 3 6),
  ePure 46 (fLoadI 46 1 3),
  ePure 47 (fPush 47 2 (.int 32)),
  ePure 49 (fIf2 49 131 b2_ge),
  ePure 52 (fPush 52 1 (.int 0)),
  ePure 53 (fStoI 53 2 4 6),
  ePure 55 (fPush 55 1 (.int 0)),
  ePure 56 (fStoI 56 2 5 6),
  ePure 58 (fLoadI 58 2 5),
  ePure 60 (fPush 60 1 (.int 5)),
  ePure 61 (fIf2 61 82 b2_ge),
  ePure 64 (fLoadI 64 1 3),
  ePure 65 (fLoadI 65 2 5),
  eCallS 67 2 95,
  ePure 70 (fIf1 70 76 b1_eq),
  ePure 73 (fInc 73 4 6 1),
  ePure 76 (fInc 76 5 6 1),
  ePure 79 (fGoto 58),
  ePure 82 (fLoadI 82 1 3),
  ePure 83 (fLoadI 83 1 1),
  ePure 84 (fPush 84 1 (.int (-1))),
  ePure 85 (fBin 85 o_ixor),
  ePure 86 (fBin 86 o_iand),
  ePure 87 (fIf1 87 125 b1_ne),
  ePure 90 (fLoadI 90 1 2),
  ePure 91 (fPush 91 2 (.int (-2))),
  ePure 93 (fIf2 93 105 b2_eq),
  ePure 96 (fLoadI 96 2 4),
  ePure 98 (fLoadI 98 1 2),
  ePure 99 (fIf2 99 105 b2_lt),
  ePure 102 (fGoto 125),
  ePure 105 (fLoadA 105 1 0),
  ePure 106 (fLoadI 106 1 3),
  eCallV 107 1 151 8,
  ePure 110 (fLoadA 110 1 0),
  eGet 111 8 26,
  ePure 114 (fLoadA 114 1 0),
  ePure 115 (fPush 115 1 (.int 0)),
  eCallV 116 1 130 8,
  ePure 119 (fIf2 119 125 b2_ne),
  ePure 122 (fLoadI 122 2 4),
  ePure 124 (fStoI 124 1 2 6),
  ePure 125 (fInc 125 3 6 1),
  ePure 128 (fGoto 46),
  ePure 131 (fLoadI 131 1 2),
  eRetI 132]
set_option maxRecDepth 100000 in
set_option maxHeartbeats 4000000 in
theorem ko_X8_washes {l : Launch} {D : va_G} {cA : Nat → ClassId} {B : BB} {G : State → Prop} {md : Bool} {d : Nat} {call : Call} (hG : ∀ s, G s → Gs B s) (hok : COk l D cA B G md d mI call) : ∀ e ∈ k_X8_washes md, EOk l RX8 cX8_washes 6 (some .int) false D cA B G md d call e := by
  unfold k_X8_washes
  refine al_cons (eok_pure (pr_aload_n dX8_washes_0 rfl)) ?_
  refine al_cons (eok_pure (pr_iconst dX8_washes_1 (by decide))) ?_
  refine al_cons (ok_put cl_X8 gX8 tyX8_ok nmX8 (by decide) w_941 rfl (by decide +kernel) (kok_int B) dX8_washes_2) ?_
  refine al_cons (eok_pure (pr_iconst dX8_washes_5 (by decide))) ?_
  refine al_cons (eok_pure (pr_istore_n dX8_washes_6 rfl)) ?_
  refine al_cons (eok_pure (pr_iconst dX8_washes_7 (by decide))) ?_
  refine al_cons (eok_pure (pr_istore_n dX8_washes_8 rfl)) ?_
  refine al_cons (eok_pure (pr_iload_n dX8_washes_9 rfl)) ?_
  refine al_cons (eok_pure (pr_aload_n dX8_washes_10 rfl)) ?_
  refine al_cons (ok_get cl_X8 gX8 (by decide) w_952 dX8_washes_11) ?_
  refine al_cons (eok_pure (pr_bipush dX8_washes_14 (by decide))) ?_
  refine al_cons (ok_iald dX8_washes_16) ?_
  refine al_cons (eok_pure (pr_icmp_ge dX8_washes_17 (by decide))) ?_
  refine al_cons (eok_pure (pr_aload_n dX8_washes_20 rfl)) ?_
  refine al_cons (eok_pure (pr_iload_n dX8_washes_21 rfl)) ?_
  refine al_cons (eok_pure (pr_iconst dX8_washes_22 (by decide))) ?_
  refine al_cons (ok_callV hok mi_124 cl_X8 w_1124 w_1126 w_45 w_82 w_1127 na_124 (by decide) dX8_washes_23) ?_
  refine al_cons (eok_pure (pr_if_ne dX8_washes_26 (by decide))) ?_
  refine al_cons (eok_pure (pr_iload_n dX8_washes_29 rfl)) ?_
  refine al_cons (eok_pure (pr_iconst dX8_washes_30 (by decide))) ?_
  refine al_cons (eok_pure (pr_iload_n dX8_washes_31 rfl)) ?_
  refine al_cons (eok_pure (pr_ishl dX8_washes_32)) ?_
  refine al_cons (eok_pure (pr_ior dX8_washes_33)) ?_
  refine al_cons (eok_pure (pr_istore_n dX8_washes_34 rfl)) ?_
  refine al_cons (eok_pure (pr_iinc dX8_washes_35 (by decide))) ?_
  refine al_cons (eok_pure (pr_goto dX8_washes_38 (by decide))) ?_
  refine al_cons (eok_pure (pr_bipush dX8_washes_41 (by decide))) ?_
  refine al_cons (eok_pure (pr_istore_n dX8_washes_43 rfl)) ?_
  refine al_cons (eok_pure (pr_iconst dX8_washes_44 (by decide))) ?_
  refine al_cons (eok_pure (pr_istore_n dX8_washes_45 rfl)) ?_
  refine al_cons (eok_pure (pr_iload_n dX8_washes_46 rfl)) ?_
  refine al_cons (eok_pure (pr_bipush dX8_washes_47 (by decide))) ?_
  refine al_cons (eok_pure (pr_icmp_ge dX8_washes_49 (by decide))) ?_
  refine al_cons (eok_pure (pr_iconst dX8_washes_52 (by decide))) ?_
  refine al_cons (eok_pure (pr_istore dX8_washes_53)) ?_
  refine al_cons (eok_pure (pr_iconst dX8_washes_55 (by decide))) ?_
  refine al_cons (eok_pure (pr_istore dX8_washes_56)) ?_
  refine al_cons (eok_pure (pr_iload dX8_washes_58)) ?_
  refine al_cons (eok_pure (pr_iconst dX8_washes_60 (by decide))) ?_
  refine al_cons (eok_pure (pr_icmp_ge dX8_washes_61 (by decide))) ?_
  refine al_cons (eok_pure (pr_iload_n dX8_washes_64 rfl)) ?_
  refine al_cons (eok_pure (pr_iload dX8_washes_65)) ?_
  refine al_cons (ok_callS hok mi_95 w_1136 w_1137 w_82 w_1138 na_95 (by decide) dX8_washes_67) ?_
  refine al_cons (eok_pure (pr_if_eq dX8_washes_70 (by decide))) ?_
  refine al_cons (eok_pure (pr_iinc dX8_washes_73 (by decide))) ?_
  refine al_cons (eok_pure (pr_iinc dX8_washes_76 (by decide))) ?_
  refine al_cons (eok_pure (pr_goto dX8_washes_79 (by decide))) ?_
  refine al_cons (eok_pure (pr_iload_n dX8_washes_82 rfl)) ?_
  refine al_cons (eok_pure (pr_iload_n dX8_washes_83 rfl)) ?_
  refine al_cons (eok_pure (pr_iconst dX8_washes_84 (by decide))) ?_
  refine al_cons (eok_pure (pr_ixor dX8_washes_85)) ?_
  refine al_cons (eok_pure (pr_iand dX8_washes_86)) ?_
  refine al_cons (eok_pure (pr_if_ne dX8_washes_87 (by decide))) ?_
  refine al_cons (eok_pure (pr_iload_n dX8_washes_90 rfl)) ?_
  refine al_cons (eok_pure (pr_bipush dX8_washes_91 (by decide))) ?_
  refine al_cons (eok_pure (pr_icmp_eq dX8_washes_93 (by decide))) ?_
  refine al_cons (eok_pure (pr_iload dX8_washes_96)) ?_
  refine al_cons (eok_pure (pr_iload_n dX8_washes_98 rfl)) ?_
  refine al_cons (eok_pure (pr_icmp_lt dX8_washes_99 (by decide))) ?_
  refine al_cons (eok_pure (pr_goto dX8_washes_102 (by decide))) ?_
  refine al_cons (eok_pure (pr_aload_n dX8_washes_105 rfl)) ?_
  refine al_cons (eok_pure (pr_iload_n dX8_washes_106 rfl)) ?_
  refine al_cons (ok_callV hok mi_151 cl_X8 w_1232 w_1234 w_63 w_82 w_1235 na_151 (by decide) dX8_washes_107) ?_
  refine al_cons (eok_pure (pr_aload_n dX8_washes_110 rfl)) ?_
  refine al_cons (ok_get cl_X8 gX8 (by decide) w_967 dX8_washes_111) ?_
  refine al_cons (eok_pure (pr_aload_n dX8_washes_114 rfl)) ?_
  refine al_cons (eok_pure (pr_iconst dX8_washes_115 (by decide))) ?_
  refine al_cons (ok_callV hok mi_130 cl_X8 w_1252 w_1254 w_67 w_82 w_1255 na_130 (by decide) dX8_washes_116) ?_
  refine al_cons (eok_pure (pr_icmp_ne dX8_washes_119 (by decide))) ?_
  refine al_cons (eok_pure (pr_iload dX8_washes_122)) ?_
  refine al_cons (eok_pure (pr_istore_n dX8_washes_124 rfl)) ?_
  refine al_cons (eok_pure (pr_iinc dX8_washes_125 (by decide))) ?_
  refine al_cons (eok_pure (pr_goto dX8_washes_128 (by decide))) ?_
  refine al_cons (eok_pure (pr_iload_n dX8_washes_131 rfl)) ?_
  refine al_cons (ok_retI rfl dX8_washes_132) ?_
  exact al_nil
def k_X8_snap (md : Bool) : List Ent := [ePure 0 (fLoadA 0 1 0),
  eGet 1 8 14,
  ePure 4 (fPush 4 2 (.int 10)),
  ePure 6 (fIf2 6 50 b2_ne),
  ePure 9 (fPush 9 1 (.int 0)),
  ePure 10 (fStoI 10 1 1 2),
  ePure 11 (fLoadI 11 1 1),
  ePure 12 (fPush 12 3 (.int 1413)),
  ePure 15 (fIf2 15 40 b2_ge),
  ePure 18 (fLoadA 18 1 0),
  eGet 19 8 13,
  ePure 22 (fLoadI 22 1 1),
  ePure 23 (fLoadA 23 1 0),
  eGet 24 8 13,
  ePure 27 (fLoadI 27 1 1),
  ePure 28 (fPush 28 3 (.int 157)),
  ePure 31 (fBin 31 o_iadd),
  eIald 32 0,
  eIast 33 0 (fun x => x),
  ePure 34 (fInc 34 1 2 1),
  ePure 37 (fGoto 11),
  ePure 40 (fLoadA 40 1 0),
  ePure 41 (fDup 41),
  eGet 42 8 14,
  ePure 45 (fPush 45 1 (.int 1)),
  ePure 46 (fBin 46 o_isub),
  ePut 47 8 14 kInt,
  ePure 50 (fPush 50 1 (.int 0)),
  ePure 51 (fStoI 51 1 1 2),
  ePure 52 (fLoadI 52 1 1),
  ePure 53 (fPush 53 3 (.int 157)),
  ePure 56 (fIf2 56 86 b2_ge),
  ePure 59 (fLoadA 59 1 0),
  eGet 60 8 13,
  ePure 63 (fPush 63 3 (.int 157)),
  ePure 66 (fLoadA 66 1 0),
  eGet 67 8 14,
  ePure 70 (fBin 70 o_imul),
  ePure 71 (fLoadI 71 1 1),
  ePure 72 (fBin 72 o_iadd),
  ePure 73 (fLoadA 73 1 0),
  eGet 74 8 11,
  ePure 77 (fLoadI 77 1 1),
  eIald 78 0,
  eIast 79 0 (fun x => x),
  ePure 80 (fInc 80 1 2 1),
  ePure 83 (fGoto 52),
  ePure 86 (fLoadA 86 1 0),
  ePure 87 (fDup 87),
  eGet 88 8 14,
  ePure 91 (fPush 91 1 (.int 1)),
  ePure 92 (fBin 92 o_iadd),
  ePut 93 8 14 kInt,
  eRetV 96]
set_option maxRecDepth 100000 in
set_option maxHeartbeats 4000000 in
theorem ko_X8_snap {l : Launch} {D : va_G} {cA : Nat → ClassId} {B : BB} {G : State → Prop} {md : Bool} {d : Nat} {call : Call} (hG : ∀ s, G s → Gs B s) (hok : COk l D cA B G md d mI call) : ∀ e ∈ k_X8_snap md, EOk l RX8 cX8_snap 2 none false D cA B G md d call e := by
  unfold k_X8_snap
  refine al_cons (eok_pure (pr_aload_n dX8_snap_0 rfl)) ?_
  refine al_cons (ok_get cl_X8 gX8 (by decide) w_955 dX8_snap_1) ?_
  refine al_cons (eok_pure (pr_bipush dX8_snap_4 (by decide))) ?_
  refine al_cons (eok_pure (pr_icmp_ne dX8_snap_6 (by decide))) ?_
  refine al_cons (eok_pure (pr_iconst dX8_snap_9 (by decide))) ?_
  refine al_cons (eok_pure (pr_istore_n dX8_snap_10 rfl)) ?_
  refine al_cons (eok_pure (pr_iload_n dX8_snap_11 rfl)) ?_
  refine al_cons (eok_pure (pr_sipush dX8_snap_12 (by decide))) ?_
  refine al_cons (eok_pure (pr_icmp_ge dX8_snap_15 (by decide))) ?_
  refine al_cons (eok_pure (pr_aload_n dX8_snap_18 rfl)) ?_
  refine al_cons (ok_get cl_X8 gX8 (by decide) w_954 dX8_snap_19) ?_
  refine al_cons (eok_pure (pr_iload_n dX8_snap_22 rfl)) ?_
  refine al_cons (eok_pure (pr_aload_n dX8_snap_23 rfl)) ?_
  refine al_cons (ok_get cl_X8 gX8 (by decide) w_954 dX8_snap_24) ?_
  refine al_cons (eok_pure (pr_iload_n dX8_snap_27 rfl)) ?_
  refine al_cons (eok_pure (pr_sipush dX8_snap_28 (by decide))) ?_
  refine al_cons (eok_pure (pr_iadd dX8_snap_31)) ?_
  refine al_cons (ok_iald dX8_snap_32) ?_
  refine al_cons (ok_iast dX8_snap_33) ?_
  refine al_cons (eok_pure (pr_iinc dX8_snap_34 (by decide))) ?_
  refine al_cons (eok_pure (pr_goto dX8_snap_37 (by decide))) ?_
  refine al_cons (eok_pure (pr_aload_n dX8_snap_40 rfl)) ?_
  refine al_cons (eok_pure (pr_dup dX8_snap_41)) ?_
  refine al_cons (ok_get cl_X8 gX8 (by decide) w_955 dX8_snap_42) ?_
  refine al_cons (eok_pure (pr_iconst dX8_snap_45 (by decide))) ?_
  refine al_cons (eok_pure (pr_isub dX8_snap_46)) ?_
  refine al_cons (ok_put cl_X8 gX8 tyX8_ok nmX8 (by decide) w_955 rfl (by decide +kernel) (kok_int B) dX8_snap_47) ?_
  refine al_cons (eok_pure (pr_iconst dX8_snap_50 (by decide))) ?_
  refine al_cons (eok_pure (pr_istore_n dX8_snap_51 rfl)) ?_
  refine al_cons (eok_pure (pr_iload_n dX8_snap_52 rfl)) ?_
  refine al_cons (eok_pure (pr_sipush dX8_snap_53 (by decide))) ?_
  refine al_cons (eok_pure (pr_icmp_ge dX8_snap_56 (by decide))) ?_
  refine al_cons (eok_pure (pr_aload_n dX8_snap_59 rfl)) ?_
  refine al_cons (ok_get cl_X8 gX8 (by decide) w_954 dX8_snap_60) ?_
  refine al_cons (eok_pure (pr_sipush dX8_snap_63 (by decide))) ?_
  refine al_cons (eok_pure (pr_aload_n dX8_snap_66 rfl)) ?_
  refine al_cons (ok_get cl_X8 gX8 (by decide) w_955 dX8_snap_67) ?_
  refine al_cons (eok_pure (pr_imul dX8_snap_70)) ?_
  refine al_cons (eok_pure (pr_iload_n dX8_snap_71 rfl)) ?_
  refine al_cons (eok_pure (pr_iadd dX8_snap_72)) ?_
  refine al_cons (eok_pure (pr_aload_n dX8_snap_73 rfl)) ?_
  refine al_cons (ok_get cl_X8 gX8 (by decide) w_952 dX8_snap_74) ?_
  refine al_cons (eok_pure (pr_iload_n dX8_snap_77 rfl)) ?_
  refine al_cons (ok_iald dX8_snap_78) ?_
  refine al_cons (ok_iast dX8_snap_79) ?_
  refine al_cons (eok_pure (pr_iinc dX8_snap_80 (by decide))) ?_
  refine al_cons (eok_pure (pr_goto dX8_snap_83 (by decide))) ?_
  refine al_cons (eok_pure (pr_aload_n dX8_snap_86 rfl)) ?_
  refine al_cons (eok_pure (pr_dup dX8_snap_87)) ?_
  refine al_cons (ok_get cl_X8 gX8 (by decide) w_955 dX8_snap_88) ?_
  refine al_cons (eok_pure (pr_iconst dX8_snap_91 (by decide))) ?_
  refine al_cons (eok_pure (pr_iadd dX8_snap_92)) ?_
  refine al_cons (ok_put cl_X8 gX8 tyX8_ok nmX8 (by decide) w_955 rfl (by decide +kernel) (kok_int B) dX8_snap_93) ?_
  refine al_cons (ok_retV rfl dX8_snap_96) ?_
  exact al_nil
def k_X8_asks (md : Bool) : List Ent := [ePure 0 (fLoadA 0 1 0),
  ePure 1 (fPush 1 1 (.int 0)),
  ePut 2 8 0 kInt,
  ePure 5 (fLoadA 5 1 0),
  ePure 6 (fLoadI 6 1 1),
  eCallV 7 1 122 8,
  ePure 10 (fIf1 10 24 b1_eq),
  ePure 13 (fLoadI 13 1 2),
  ePure 14 (fPush 14 1 (.int 1)),
  ePure 15 (fPush 15 3 (.int 4995)),
  eCallS 18 3 94,
  ePure 21 (fIf1 21 26 b1_ne),
  ePure 24 (fPush 24 1 (.int (-1))),
  eRetI 25,
  ePure 26 (fLoadA 26 1 0),
  ePure 27 (fPush 27 1 (.int 0)),
  eCallV 28 1 130 8,
  ePure 31 (fPush 31 1 (.int 4)),
  ePure 32 (fIf2 32 38 b2_ne),
  ePure 35 (fPush 35 2 (.int (-2))),
  eRetI 37,
  ePure 38 (fLoadA 38 1 0),
  eGet 39 8 11,
  ePure 42 (fPush 42 2 (.int 13)),
  eIald 44 0,
  ePure 45 (fPush 45 2 (.int 20)),
  ePure 47 (fIf2 47 53 b2_ne),
  ePure 50 (fPush 50 2 (.int (-3))),
  eRetI 52,
  ePure 53 (fLoadA 53 1 0),
  eCallV 54 0 154 8,
  ePure 57 (fLoadA 57 1 0),
  eGet 58 8 11,
  ePure 61 (fPush 61 2 (.int 13)),
  eIald 63 0,
  ePure 64 (fStoI 64 1 3 5),
  ePure 65 (fPush 65 2 (.int 57)),
  ePure 67 (fPush 67 1 (.int 5)),
  ePure 68 (fLoadI 68 1 3),
  ePure 69 (fBin 69 o_imul),
  ePure 70 (fBin 70 o_iadd),
  ePure 71 (fStoI 71 2 4 5),
  ePure 73 (fLoadA 73 1 0),
  eGet 74 8 11,
  ePure 77 (fLoadI 77 2 4),
  ePure 79 (fPush 79 1 (.int 0)),
  ePure 80 (fBin 80 o_iadd),
  ePure 81 (fLoadI 81 1 1),
  eIast 82 0 (fun x => x),
  ePure 83 (fLoadA 83 1 0),
  eGet 84 8 11,
  ePure 87 (fLoadI 87 2 4),
  ePure 89 (fPush 89 1 (.int 1)),
  ePure 90 (fBin 90 o_iadd),
  ePure 91 (fLoadI 91 1 2),
  eIast 92 0 (fun x => x),
  ePure 93 (fLoadA 93 1 0),
  eGet 94 8 11,
  ePure 97 (fLoadI 97 2 4),
  ePure 99 (fPush 99 1 (.int 2)),
  ePure 100 (fBin 100 o_iadd),
  ePure 101 (fPush 101 1 (.int 0)),
  eIast 102 0 (fun x => x),
  ePure 103 (fLoadA 103 1 0),
  eGet 104 8 11,
  ePure 107 (fLoadI 107 2 4),
  ePure 109 (fPush 109 1 (.int 3)),
  ePure 110 (fBin 110 o_iadd),
  ePure 111 (fPush 111 1 (.int 0)),
  eIast 112 0 (fun x => x),
  ePure 113 (fLoadA 113 1 0),
  eGet 114 8 11,
  ePure 117 (fLoadI 117 2 4),
  ePure 119 (fPush 119 1 (.int 4)),
  ePure 120 (fBin 120 o_iadd),
  ePure 121 (fPush 121 1 (.int 0)),
  eIast 122 0 (fun x => x),
  ePure 123 (fLoadA 123 1 0),
  eGet 124 8 11,
  ePure 127 (fPush 127 2 (.int 13)),
  ePure 129 (fDup2 129),
  eIald 130 0,
  ePure 131 (fPush 131 1 (.int 1)),
  ePure 132 (fBin 132 o_iadd),
  eIast 133 0 (fun x => x),
  ePure 134 (fLoadI 134 1 3),
  eRetI 135]
set_option maxRecDepth 100000 in
set_option maxHeartbeats 4000000 in
theorem ko_X8_asks {l : Launch} {D : va_G} {cA : Nat → ClassId} {B : BB} {G : State → Prop} {md : Bool} {d : Nat} {call : Call} (hG : ∀ s, G s → Gs B s) (hok : COk l D cA B G md d mI call) : ∀ e ∈ k_X8_asks md, EOk l RX8 cX8_asks 5 (some .int) false D cA B G md d call e := by
  unfold k_X8_asks
  refine al_cons (eok_pure (pr_aload_n dX8_asks_0 rfl)) ?_
  refine al_cons (eok_pure (pr_iconst dX8_asks_1 (by decide))) ?_
  refine al_cons (ok_put cl_X8 gX8 tyX8_ok nmX8 (by decide) w_941 rfl (by decide +kernel) (kok_int B) dX8_asks_2) ?_
  refine al_cons (eok_pure (pr_aload_n dX8_asks_5 rfl)) ?_
  refine al_cons (eok_pure (pr_iload_n dX8_asks_6 rfl)) ?_
  refine al_cons (ok_callV hok mi_122 cl_X8 w_1192 w_1194 w_58 w_82 w_1195 na_122 (by decide) dX8_asks_7) ?_
  refine al_cons (eok_pure (pr_if_eq dX8_asks_10 (by decide))) ?_
  refine al_cons (eok_pure (pr_iload_n dX8_asks_13 rfl)) ?_
  refine al_cons (eok_pure (pr_iconst dX8_asks_14 (by decide))) ?_
  refine al_cons (eok_pure (pr_sipush dX8_asks_15 (by decide))) ?_
  refine al_cons (ok_callS hok mi_94 w_1073 w_1074 w_82 w_1075 na_94 (by decide) dX8_asks_18) ?_
  refine al_cons (eok_pure (pr_if_ne dX8_asks_21 (by decide))) ?_
  refine al_cons (eok_pure (pr_iconst dX8_asks_24 (by decide))) ?_
  refine al_cons (ok_retI rfl dX8_asks_25) ?_
  refine al_cons (eok_pure (pr_aload_n dX8_asks_26 rfl)) ?_
  refine al_cons (eok_pure (pr_iconst dX8_asks_27 (by decide))) ?_
  refine al_cons (ok_callV hok mi_130 cl_X8 w_1252 w_1254 w_67 w_82 w_1255 na_130 (by decide) dX8_asks_28) ?_
  refine al_cons (eok_pure (pr_iconst dX8_asks_31 (by decide))) ?_
  refine al_cons (eok_pure (pr_icmp_ne dX8_asks_32 (by decide))) ?_
  refine al_cons (eok_pure (pr_bipush dX8_asks_35 (by decide))) ?_
  refine al_cons (ok_retI rfl dX8_asks_37) ?_
  refine al_cons (eok_pure (pr_aload_n dX8_asks_38 rfl)) ?_
  refine al_cons (ok_get cl_X8 gX8 (by decide) w_952 dX8_asks_39) ?_
  refine al_cons (eok_pure (pr_bipush dX8_asks_42 (by decide))) ?_
  refine al_cons (ok_iald dX8_asks_44) ?_
  refine al_cons (eok_pure (pr_bipush dX8_asks_45 (by decide))) ?_
  refine al_cons (eok_pure (pr_icmp_ne dX8_asks_47 (by decide))) ?_
  refine al_cons (eok_pure (pr_bipush dX8_asks_50 (by decide))) ?_
  refine al_cons (ok_retI rfl dX8_asks_52) ?_
  refine al_cons (eok_pure (pr_aload_n dX8_asks_53 rfl)) ?_
  refine al_cons (ok_callV hok mi_154 cl_X8 w_1260 w_1262 w_68 w_82 w_1263 na_154 (by decide) dX8_asks_54) ?_
  refine al_cons (eok_pure (pr_aload_n dX8_asks_57 rfl)) ?_
  refine al_cons (ok_get cl_X8 gX8 (by decide) w_952 dX8_asks_58) ?_
  refine al_cons (eok_pure (pr_bipush dX8_asks_61 (by decide))) ?_
  refine al_cons (ok_iald dX8_asks_63) ?_
  refine al_cons (eok_pure (pr_istore_n dX8_asks_64 rfl)) ?_
  refine al_cons (eok_pure (pr_bipush dX8_asks_65 (by decide))) ?_
  refine al_cons (eok_pure (pr_iconst dX8_asks_67 (by decide))) ?_
  refine al_cons (eok_pure (pr_iload_n dX8_asks_68 rfl)) ?_
  refine al_cons (eok_pure (pr_imul dX8_asks_69)) ?_
  refine al_cons (eok_pure (pr_iadd dX8_asks_70)) ?_
  refine al_cons (eok_pure (pr_istore dX8_asks_71)) ?_
  refine al_cons (eok_pure (pr_aload_n dX8_asks_73 rfl)) ?_
  refine al_cons (ok_get cl_X8 gX8 (by decide) w_952 dX8_asks_74) ?_
  refine al_cons (eok_pure (pr_iload dX8_asks_77)) ?_
  refine al_cons (eok_pure (pr_iconst dX8_asks_79 (by decide))) ?_
  refine al_cons (eok_pure (pr_iadd dX8_asks_80)) ?_
  refine al_cons (eok_pure (pr_iload_n dX8_asks_81 rfl)) ?_
  refine al_cons (ok_iast dX8_asks_82) ?_
  refine al_cons (eok_pure (pr_aload_n dX8_asks_83 rfl)) ?_
  refine al_cons (ok_get cl_X8 gX8 (by decide) w_952 dX8_asks_84) ?_
  refine al_cons (eok_pure (pr_iload dX8_asks_87)) ?_
  refine al_cons (eok_pure (pr_iconst dX8_asks_89 (by decide))) ?_
  refine al_cons (eok_pure (pr_iadd dX8_asks_90)) ?_
  refine al_cons (eok_pure (pr_iload_n dX8_asks_91 rfl)) ?_
  refine al_cons (ok_iast dX8_asks_92) ?_
  refine al_cons (eok_pure (pr_aload_n dX8_asks_93 rfl)) ?_
  refine al_cons (ok_get cl_X8 gX8 (by decide) w_952 dX8_asks_94) ?_
  refine al_cons (eok_pure (pr_iload dX8_asks_97)) ?_
  refine al_cons (eok_pure (pr_iconst dX8_asks_99 (by decide))) ?_
  refine al_cons (eok_pure (pr_iadd dX8_asks_100)) ?_
  refine al_cons (eok_pure (pr_iconst dX8_asks_101 (by decide))) ?_
  refine al_cons (ok_iast dX8_asks_102) ?_
  refine al_cons (eok_pure (pr_aload_n dX8_asks_103 rfl)) ?_
  refine al_cons (ok_get cl_X8 gX8 (by decide) w_952 dX8_asks_104) ?_
  refine al_cons (eok_pure (pr_iload dX8_asks_107)) ?_
  refine al_cons (eok_pure (pr_iconst dX8_asks_109 (by decide))) ?_
  refine al_cons (eok_pure (pr_iadd dX8_asks_110)) ?_
  refine al_cons (eok_pure (pr_iconst dX8_asks_111 (by decide))) ?_
  refine al_cons (ok_iast dX8_asks_112) ?_
  refine al_cons (eok_pure (pr_aload_n dX8_asks_113 rfl)) ?_
  refine al_cons (ok_get cl_X8 gX8 (by decide) w_952 dX8_asks_114) ?_
  refine al_cons (eok_pure (pr_iload dX8_asks_117)) ?_
  refine al_cons (eok_pure (pr_iconst dX8_asks_119 (by decide))) ?_
  refine al_cons (eok_pure (pr_iadd dX8_asks_120)) ?_
  refine al_cons (eok_pure (pr_iconst dX8_asks_121 (by decide))) ?_
  refine al_cons (ok_iast dX8_asks_122) ?_
  refine al_cons (eok_pure (pr_aload_n dX8_asks_123 rfl)) ?_
  refine al_cons (ok_get cl_X8 gX8 (by decide) w_952 dX8_asks_124) ?_
  refine al_cons (eok_pure (pr_bipush dX8_asks_127 (by decide))) ?_
  refine al_cons (eok_pure (pr_dup2 dX8_asks_129)) ?_
  refine al_cons (ok_iald dX8_asks_130) ?_
  refine al_cons (eok_pure (pr_iconst dX8_asks_131 (by decide))) ?_
  refine al_cons (eok_pure (pr_iadd dX8_asks_132)) ?_
  refine al_cons (ok_iast dX8_asks_133) ?_
  refine al_cons (eok_pure (pr_iload_n dX8_asks_134 rfl)) ?_
  refine al_cons (ok_retI rfl dX8_asks_135) ?_
  exact al_nil
def k_X8_cancel (md : Bool) : List Ent := [ePure 0 (fLoadA 0 1 0),
  ePure 1 (fPush 1 1 (.int 0)),
  ePut 2 8 0 kInt,
  ePure 5 (fLoadA 5 1 0),
  ePure 6 (fLoadI 6 1 1),
  eCallV 7 1 123 8,
  ePure 10 (fIf1 10 30 b1_eq),
  ePure 13 (fLoadA 13 1 0),
  ePure 14 (fLoadI 14 1 1),
  ePure 15 (fPush 15 1 (.int 2)),
  eCallV 16 2 125 8,
  ePure 19 (fIf1 19 30 b1_ne),
  ePure 22 (fLoadA 22 1 0),
  ePure 23 (fLoadI 23 1 1),
  eCallV 24 1 129 8,
  ePure 27 (fIf1 27 32 b1_le),
  ePure 30 (fPush 30 1 (.int 0)),
  eRetZ 31,
  ePure 32 (fLoadA 32 1 0),
  eCallV 33 0 154 8,
  ePure 36 (fLoadA 36 1 0),
  eGet 37 8 11,
  ePure 40 (fPush 40 2 (.int 57)),
  ePure 42 (fPush 42 1 (.int 5)),
  ePure 43 (fLoadI 43 1 1),
  ePure 44 (fBin 44 o_imul),
  ePure 45 (fBin 45 o_iadd),
  ePure 46 (fPush 46 1 (.int 2)),
  ePure 47 (fBin 47 o_iadd),
  ePure 48 (fPush 48 1 (.int 3)),
  eIast 49 0 (fun x => x),
  ePure 50 (fPush 50 1 (.int 1)),
  eRetZ 51]
set_option maxRecDepth 100000 in
set_option maxHeartbeats 4000000 in
theorem ko_X8_cancel {l : Launch} {D : va_G} {cA : Nat → ClassId} {B : BB} {G : State → Prop} {md : Bool} {d : Nat} {call : Call} (hG : ∀ s, G s → Gs B s) (hok : COk l D cA B G md d mI call) : ∀ e ∈ k_X8_cancel md, EOk l RX8 cX8_cancel 2 (some .boolean) false D cA B G md d call e := by
  unfold k_X8_cancel
  refine al_cons (eok_pure (pr_aload_n dX8_cancel_0 rfl)) ?_
  refine al_cons (eok_pure (pr_iconst dX8_cancel_1 (by decide))) ?_
  refine al_cons (ok_put cl_X8 gX8 tyX8_ok nmX8 (by decide) w_941 rfl (by decide +kernel) (kok_int B) dX8_cancel_2) ?_
  refine al_cons (eok_pure (pr_aload_n dX8_cancel_5 rfl)) ?_
  refine al_cons (eok_pure (pr_iload_n dX8_cancel_6 rfl)) ?_
  refine al_cons (ok_callV hok mi_123 cl_X8 w_1176 w_1178 w_55 w_82 w_1179 na_123 (by decide) dX8_cancel_7) ?_
  refine al_cons (eok_pure (pr_if_eq dX8_cancel_10 (by decide))) ?_
  refine al_cons (eok_pure (pr_aload_n dX8_cancel_13 rfl)) ?_
  refine al_cons (eok_pure (pr_iload_n dX8_cancel_14 rfl)) ?_
  refine al_cons (eok_pure (pr_iconst dX8_cancel_15 (by decide))) ?_
  refine al_cons (ok_callV hok mi_125 cl_X8 w_1128 w_1130 w_46 w_82 w_1131 na_125 (by decide) dX8_cancel_16) ?_
  refine al_cons (eok_pure (pr_if_ne dX8_cancel_19 (by decide))) ?_
  refine al_cons (eok_pure (pr_aload_n dX8_cancel_22 rfl)) ?_
  refine al_cons (eok_pure (pr_iload_n dX8_cancel_23 rfl)) ?_
  refine al_cons (ok_callV hok mi_129 cl_X8 w_1184 w_1186 w_57 w_82 w_1187 na_129 (by decide) dX8_cancel_24) ?_
  refine al_cons (eok_pure (pr_if_le dX8_cancel_27 (by decide))) ?_
  refine al_cons (eok_pure (pr_iconst dX8_cancel_30 (by decide))) ?_
  refine al_cons (ok_retZ rfl dX8_cancel_31) ?_
  refine al_cons (eok_pure (pr_aload_n dX8_cancel_32 rfl)) ?_
  refine al_cons (ok_callV hok mi_154 cl_X8 w_1260 w_1262 w_68 w_82 w_1263 na_154 (by decide) dX8_cancel_33) ?_
  refine al_cons (eok_pure (pr_aload_n dX8_cancel_36 rfl)) ?_
  refine al_cons (ok_get cl_X8 gX8 (by decide) w_952 dX8_cancel_37) ?_
  refine al_cons (eok_pure (pr_bipush dX8_cancel_40 (by decide))) ?_
  refine al_cons (eok_pure (pr_iconst dX8_cancel_42 (by decide))) ?_
  refine al_cons (eok_pure (pr_iload_n dX8_cancel_43 rfl)) ?_
  refine al_cons (eok_pure (pr_imul dX8_cancel_44)) ?_
  refine al_cons (eok_pure (pr_iadd dX8_cancel_45)) ?_
  refine al_cons (eok_pure (pr_iconst dX8_cancel_46 (by decide))) ?_
  refine al_cons (eok_pure (pr_iadd dX8_cancel_47)) ?_
  refine al_cons (eok_pure (pr_iconst dX8_cancel_48 (by decide))) ?_
  refine al_cons (ok_iast dX8_cancel_49) ?_
  refine al_cons (eok_pure (pr_iconst dX8_cancel_50 (by decide))) ?_
  refine al_cons (ok_retZ rfl dX8_cancel_51) ?_
  exact al_nil
