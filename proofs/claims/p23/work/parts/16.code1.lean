def k_X3_isHopeless (md : Bool) : List Ent := [ePure 0 (fLoadA 0 1 0),
  eGet 1 3 4,
  ePure 4 (fIf1 4 27 b1_eq),
  ePure 7 (fLoadA 7 1 0),
  eGet 8 3 12,
  ePure 11 (fIf1 11 27 b1_eq),
  ePure 14 (fLoadA 14 1 0),
  eGet 15 3 11,
  ePure 18 (fLoadA 18 1 0),
  eGet 19 3 13,
  ePure 22 (fIf2 22 27 b2_lt),
  ePure 25 (fPush 25 1 (.int 1)),
  eRetZ 26,
  ePure 27 (fPush 27 1 (.int 0)),
  ePure 28 (fStoI 28 1 2 4),
  ePure 29 (fPush 29 1 (.int 0)),
  ePure 30 (fStoI 30 1 3 4),
  ePure 31 (fLoadI 31 1 3),
  ePure 32 (fLoadA 32 1 0),
  eGet 33 3 5,
  ePure 36 (fIf2 36 76 b2_ge),
  ePure 39 (fLoadA 39 1 0),
  eGet 40 3 4,
  ePure 43 (fIf1 43 61 b1_ne),
  ePure 46 (fLoadA 46 1 0),
  eGet 47 3 8,
  ePure 50 (fLoadI 50 1 3),
  eIald 51 0,
  ePure 52 (fLoadA 52 1 0),
  eGet 53 3 7,
  ePure 56 (fLoadI 56 1 3),
  eIald 57 0,
  ePure 58 (fIf2 58 70 b2_ge),
  ePure 61 (fLoadI 61 1 2),
  ePure 62 (fLoadA 62 1 0),
  eGet 63 3 8,
  ePure 66 (fLoadI 66 1 3),
  eIald 67 0,
  ePure 68 (fBin 68 o_iadd),
  ePure 69 (fStoI 69 1 2 4),
  ePure 70 (fInc 70 3 4 1),
  ePure 73 (fGoto 31),
  ePure 76 (fLoadI 76 1 2),
  ePure 77 (fLoadA 77 1 0),
  eGet 78 3 9,
  ePure 81 (fLoadI 81 1 1),
  eIald 82 0,
  ePure 83 (fIf2 83 90 b2_le),
  ePure 86 (fPush 86 1 (.int 1)),
  ePure 87 (fGoto 91),
  ePure 90 (fPush 90 1 (.int 0)),
  eRetZ 91]
set_option maxRecDepth 100000 in
set_option maxHeartbeats 4000000 in
theorem ko_X3_isHopeless {l : Launch} {D : va_G} {cA : Nat → ClassId} {B : BB} {G : State → Prop} {md : Bool} {d : Nat} {call : Call} (hG : ∀ s, G s → Gs B s) (hok : COk l D cA B G md d mI call) : ∀ e ∈ k_X3_isHopeless md, EOk l RX3 cX3_isHopeless 4 (some .boolean) false D cA B G md d call e := by
  unfold k_X3_isHopeless
  refine al_cons (eok_pure (pr_aload_n dX3_isHopeless_0 rfl)) ?_
  refine al_cons (ok_get cl_X3 gX3 (by decide) w_330 dX3_isHopeless_1) ?_
  refine al_cons (eok_pure (pr_if_eq dX3_isHopeless_4 (by decide))) ?_
  refine al_cons (eok_pure (pr_aload_n dX3_isHopeless_7 rfl)) ?_
  refine al_cons (ok_get cl_X3 gX3 (by decide) w_338 dX3_isHopeless_8) ?_
  refine al_cons (eok_pure (pr_if_eq dX3_isHopeless_11 (by decide))) ?_
  refine al_cons (eok_pure (pr_aload_n dX3_isHopeless_14 rfl)) ?_
  refine al_cons (ok_get cl_X3 gX3 (by decide) w_337 dX3_isHopeless_15) ?_
  refine al_cons (eok_pure (pr_aload_n dX3_isHopeless_18 rfl)) ?_
  refine al_cons (ok_get cl_X3 gX3 (by decide) w_339 dX3_isHopeless_19) ?_
  refine al_cons (eok_pure (pr_icmp_lt dX3_isHopeless_22 (by decide))) ?_
  refine al_cons (eok_pure (pr_iconst dX3_isHopeless_25 (by decide))) ?_
  refine al_cons (ok_retZ rfl dX3_isHopeless_26) ?_
  refine al_cons (eok_pure (pr_iconst dX3_isHopeless_27 (by decide))) ?_
  refine al_cons (eok_pure (pr_istore_n dX3_isHopeless_28 rfl)) ?_
  refine al_cons (eok_pure (pr_iconst dX3_isHopeless_29 (by decide))) ?_
  refine al_cons (eok_pure (pr_istore_n dX3_isHopeless_30 rfl)) ?_
  refine al_cons (eok_pure (pr_iload_n dX3_isHopeless_31 rfl)) ?_
  refine al_cons (eok_pure (pr_aload_n dX3_isHopeless_32 rfl)) ?_
  refine al_cons (ok_get cl_X3 gX3 (by decide) w_331 dX3_isHopeless_33) ?_
  refine al_cons (eok_pure (pr_icmp_ge dX3_isHopeless_36 (by decide))) ?_
  refine al_cons (eok_pure (pr_aload_n dX3_isHopeless_39 rfl)) ?_
  refine al_cons (ok_get cl_X3 gX3 (by decide) w_330 dX3_isHopeless_40) ?_
  refine al_cons (eok_pure (pr_if_ne dX3_isHopeless_43 (by decide))) ?_
  refine al_cons (eok_pure (pr_aload_n dX3_isHopeless_46 rfl)) ?_
  refine al_cons (ok_get cl_X3 gX3 (by decide) w_334 dX3_isHopeless_47) ?_
  refine al_cons (eok_pure (pr_iload_n dX3_isHopeless_50 rfl)) ?_
  refine al_cons (ok_iald dX3_isHopeless_51) ?_
  refine al_cons (eok_pure (pr_aload_n dX3_isHopeless_52 rfl)) ?_
  refine al_cons (ok_get cl_X3 gX3 (by decide) w_333 dX3_isHopeless_53) ?_
  refine al_cons (eok_pure (pr_iload_n dX3_isHopeless_56 rfl)) ?_
  refine al_cons (ok_iald dX3_isHopeless_57) ?_
  refine al_cons (eok_pure (pr_icmp_ge dX3_isHopeless_58 (by decide))) ?_
  refine al_cons (eok_pure (pr_iload_n dX3_isHopeless_61 rfl)) ?_
  refine al_cons (eok_pure (pr_aload_n dX3_isHopeless_62 rfl)) ?_
  refine al_cons (ok_get cl_X3 gX3 (by decide) w_334 dX3_isHopeless_63) ?_
  refine al_cons (eok_pure (pr_iload_n dX3_isHopeless_66 rfl)) ?_
  refine al_cons (ok_iald dX3_isHopeless_67) ?_
  refine al_cons (eok_pure (pr_iadd dX3_isHopeless_68)) ?_
  refine al_cons (eok_pure (pr_istore_n dX3_isHopeless_69 rfl)) ?_
  refine al_cons (eok_pure (pr_iinc dX3_isHopeless_70 (by decide))) ?_
  refine al_cons (eok_pure (pr_goto dX3_isHopeless_73 (by decide))) ?_
  refine al_cons (eok_pure (pr_iload_n dX3_isHopeless_76 rfl)) ?_
  refine al_cons (eok_pure (pr_aload_n dX3_isHopeless_77 rfl)) ?_
  refine al_cons (ok_get cl_X3 gX3 (by decide) w_335 dX3_isHopeless_78) ?_
  refine al_cons (eok_pure (pr_iload_n dX3_isHopeless_81 rfl)) ?_
  refine al_cons (ok_iald dX3_isHopeless_82) ?_
  refine al_cons (eok_pure (pr_icmp_le dX3_isHopeless_83 (by decide))) ?_
  refine al_cons (eok_pure (pr_iconst dX3_isHopeless_86 (by decide))) ?_
  refine al_cons (eok_pure (pr_goto dX3_isHopeless_87 (by decide))) ?_
  refine al_cons (eok_pure (pr_iconst dX3_isHopeless_90 (by decide))) ?_
  refine al_cons (ok_retZ rfl dX3_isHopeless_91) ?_
  exact al_nil
def k_X3_gives (md : Bool) : List Ent := [ePure 0 (fLoadA 0 1 0),
  eGet 1 3 2,
  ePure 4 (fLoadI 4 1 1),
  eCallV 5 1 65 6,
  ePure 8 (fLoadA 8 1 0),
  eGet 9 3 8,
  ePure 12 (fLoadI 12 1 2),
  eIald 13 0,
  eMin 14,
  ePure 17 (fStoI 17 1 3 6),
  ePure 18 (fLoadI 18 1 3),
  ePure 19 (fIf1 19 24 b1_ne),
  ePure 22 (fPush 22 1 (.int 0)),
  eRetZ 23,
  ePure 24 (fLoadA 24 1 0),
  eGet 25 3 2,
  eGet 28 6 10,
  ePure 31 (fLoadA 31 1 0),
  eGet 32 3 6,
  ePure 35 (fLoadI 35 1 2),
  eIald 36 0,
  eIald 37 0,
  ePure 38 (fStoI 38 2 4 6),
  ePure 40 (fLoadA 40 1 0),
  eGet 41 3 2,
  ePure 44 (fLoadA 44 1 0),
  eGet 45 3 1,
  eGet 48 0 2,
  ePure 51 (fLoadI 51 1 1),
  eIald 52 0,
  ePure 53 (fLoadI 53 2 4),
  eCallV 55 2 67 6,
  ePure 58 (fStoI 58 2 5 6),
  ePure 60 (fLoadI 60 2 5),
  ePure 62 (fIf1 62 74 b1_eq),
  ePure 65 (fLoadA 65 1 0),
  eGet 66 3 4,
  ePure 69 (fIf1 69 74 b1_ne),
  ePure 72 (fPush 72 1 (.int 0)),
  eRetZ 73,
  ePure 74 (fLoadA 74 1 0),
  eGet 75 3 1,
  ePure 78 (fLoadA 78 1 0),
  eGet 79 3 2,
  ePure 82 (fLoadI 82 1 1),
  ePure 83 (fLoadA 83 1 0),
  eGet 84 3 6,
  ePure 87 (fLoadI 87 1 2),
  eIald 88 0,
  ePure 89 (fLoadI 89 2 4),
  ePure 91 (fLoadI 91 1 3),
  eCallV 92 5 3 0,
  ePure 95 (fLoadA 95 1 0),
  eGet 96 3 8,
  ePure 99 (fLoadI 99 1 2),
  ePure 100 (fDup2 100),
  eIald 101 0,
  ePure 102 (fLoadI 102 1 3),
  ePure 103 (fBin 103 o_isub),
  eIast 104 0 (fun x => x),
  ePure 105 (fLoadA 105 1 0),
  ePure 106 (fDup 106),
  eGet 107 3 10,
  ePure 110 (fPush 110 1 (.int 1)),
  ePure 111 (fBin 111 o_iadd),
  ePut 112 3 10 kInt,
  ePure 115 (fLoadA 115 1 0),
  ePure 116 (fDup 116),
  eGet 117 3 11,
  ePure 120 (fLoadI 120 2 5),
  ePure 122 (fIf1 122 129 b1_eq),
  ePure 125 (fPush 125 1 (.int 1)),
  ePure 126 (fGoto 130),
  ePure 129 (fPush 129 1 (.int 0)),
  ePure 130 (fBin 130 o_iadd),
  ePut 131 3 11 kInt,
  ePure 134 (fPush 134 1 (.int 1)),
  eRetZ 135]
set_option maxRecDepth 100000 in
set_option maxHeartbeats 4000000 in
theorem ko_X3_gives {l : Launch} {D : va_G} {cA : Nat → ClassId} {B : BB} {G : State → Prop} {md : Bool} {d : Nat} {call : Call} (hG : ∀ s, G s → Gs B s) (hok : COk l D cA B G md d mI call) : ∀ e ∈ k_X3_gives md, EOk l RX3 cX3_gives 6 (some .boolean) false D cA B G md d call e := by
  unfold k_X3_gives
  refine al_cons (eok_pure (pr_aload_n dX3_gives_0 rfl)) ?_
  refine al_cons (ok_get cl_X3 gX3 (by decide) w_328 dX3_gives_1) ?_
  refine al_cons (eok_pure (pr_iload_n dX3_gives_4 rfl)) ?_
  refine al_cons (ok_callV hok mi_65 cl_X6 w_742 w_641 w_642 w_74 w_643 na_65 (by decide) dX3_gives_5) ?_
  refine al_cons (eok_pure (pr_aload_n dX3_gives_8 rfl)) ?_
  refine al_cons (ok_get cl_X3 gX3 (by decide) w_334 dX3_gives_9) ?_
  refine al_cons (eok_pure (pr_iload_n dX3_gives_12 rfl)) ?_
  refine al_cons (ok_iald dX3_gives_13) ?_
  refine al_cons (ok_min w_768 w_769 w_92 w_770 dX3_gives_14) ?_
  refine al_cons (eok_pure (pr_istore_n dX3_gives_17 rfl)) ?_
  refine al_cons (eok_pure (pr_iload_n dX3_gives_18 rfl)) ?_
  refine al_cons (eok_pure (pr_if_ne dX3_gives_19 (by decide))) ?_
  refine al_cons (eok_pure (pr_iconst dX3_gives_22 (by decide))) ?_
  refine al_cons (ok_retZ rfl dX3_gives_23) ?_
  refine al_cons (eok_pure (pr_aload_n dX3_gives_24 rfl)) ?_
  refine al_cons (ok_get cl_X3 gX3 (by decide) w_328 dX3_gives_25) ?_
  refine al_cons (ok_get cl_X6 gX6 (by decide) w_187 dX3_gives_28) ?_
  refine al_cons (eok_pure (pr_aload_n dX3_gives_31 rfl)) ?_
  refine al_cons (ok_get cl_X3 gX3 (by decide) w_332 dX3_gives_32) ?_
  refine al_cons (eok_pure (pr_iload_n dX3_gives_35 rfl)) ?_
  refine al_cons (ok_iald dX3_gives_36) ?_
  refine al_cons (ok_iald dX3_gives_37) ?_
  refine al_cons (eok_pure (pr_istore dX3_gives_38)) ?_
  refine al_cons (eok_pure (pr_aload_n dX3_gives_40 rfl)) ?_
  refine al_cons (ok_get cl_X3 gX3 (by decide) w_328 dX3_gives_41) ?_
  refine al_cons (eok_pure (pr_aload_n dX3_gives_44 rfl)) ?_
  refine al_cons (ok_get cl_X3 gX3 (by decide) w_327 dX3_gives_45) ?_
  refine al_cons (ok_get cl_X0 gX0 (by decide) w_240 dX3_gives_48) ?_
  refine al_cons (eok_pure (pr_iload_n dX3_gives_51 rfl)) ?_
  refine al_cons (ok_iald dX3_gives_52) ?_
  refine al_cons (eok_pure (pr_iload dX3_gives_53)) ?_
  refine al_cons (ok_callV hok mi_67 cl_X6 w_771 w_653 w_654 w_74 w_655 na_67 (by decide) dX3_gives_55) ?_
  refine al_cons (eok_pure (pr_istore dX3_gives_58)) ?_
  refine al_cons (eok_pure (pr_iload dX3_gives_60)) ?_
  refine al_cons (eok_pure (pr_if_eq dX3_gives_62 (by decide))) ?_
  refine al_cons (eok_pure (pr_aload_n dX3_gives_65 rfl)) ?_
  refine al_cons (ok_get cl_X3 gX3 (by decide) w_330 dX3_gives_66) ?_
  refine al_cons (eok_pure (pr_if_ne dX3_gives_69 (by decide))) ?_
  refine al_cons (eok_pure (pr_iconst dX3_gives_72 (by decide))) ?_
  refine al_cons (ok_retZ rfl dX3_gives_73) ?_
  refine al_cons (eok_pure (pr_aload_n dX3_gives_74 rfl)) ?_
  refine al_cons (ok_get cl_X3 gX3 (by decide) w_327 dX3_gives_75) ?_
  refine al_cons (eok_pure (pr_aload_n dX3_gives_78 rfl)) ?_
  refine al_cons (ok_get cl_X3 gX3 (by decide) w_328 dX3_gives_79) ?_
  refine al_cons (eok_pure (pr_iload_n dX3_gives_82 rfl)) ?_
  refine al_cons (eok_pure (pr_aload_n dX3_gives_83 rfl)) ?_
  refine al_cons (ok_get cl_X3 gX3 (by decide) w_332 dX3_gives_84) ?_
  refine al_cons (eok_pure (pr_iload_n dX3_gives_87 rfl)) ?_
  refine al_cons (ok_iald dX3_gives_88) ?_
  refine al_cons (eok_pure (pr_iload dX3_gives_89)) ?_
  refine al_cons (eok_pure (pr_iload_n dX3_gives_91 rfl)) ?_
  refine al_cons (ok_callV hok mi_3 cl_X0 w_772 w_665 w_666 w_76 w_667 na_3 (by decide) dX3_gives_92) ?_
  refine al_cons (eok_pure (pr_aload_n dX3_gives_95 rfl)) ?_
  refine al_cons (ok_get cl_X3 gX3 (by decide) w_334 dX3_gives_96) ?_
  refine al_cons (eok_pure (pr_iload_n dX3_gives_99 rfl)) ?_
  refine al_cons (eok_pure (pr_dup2 dX3_gives_100)) ?_
  refine al_cons (ok_iald dX3_gives_101) ?_
  refine al_cons (eok_pure (pr_iload_n dX3_gives_102 rfl)) ?_
  refine al_cons (eok_pure (pr_isub dX3_gives_103)) ?_
  refine al_cons (ok_iast dX3_gives_104) ?_
  refine al_cons (eok_pure (pr_aload_n dX3_gives_105 rfl)) ?_
  refine al_cons (eok_pure (pr_dup dX3_gives_106)) ?_
  refine al_cons (ok_get cl_X3 gX3 (by decide) w_336 dX3_gives_107) ?_
  refine al_cons (eok_pure (pr_iconst dX3_gives_110 (by decide))) ?_
  refine al_cons (eok_pure (pr_iadd dX3_gives_111)) ?_
  refine al_cons (ok_put cl_X3 gX3 tyX3_ok nmX3 (by decide) w_336 rfl (by decide +kernel) (kok_int B) dX3_gives_112) ?_
  refine al_cons (eok_pure (pr_aload_n dX3_gives_115 rfl)) ?_
  refine al_cons (eok_pure (pr_dup dX3_gives_116)) ?_
  refine al_cons (ok_get cl_X3 gX3 (by decide) w_337 dX3_gives_117) ?_
  refine al_cons (eok_pure (pr_iload dX3_gives_120)) ?_
  refine al_cons (eok_pure (pr_if_eq dX3_gives_122 (by decide))) ?_
  refine al_cons (eok_pure (pr_iconst dX3_gives_125 (by decide))) ?_
  refine al_cons (eok_pure (pr_goto dX3_gives_126 (by decide))) ?_
  refine al_cons (eok_pure (pr_iconst dX3_gives_129 (by decide))) ?_
  refine al_cons (eok_pure (pr_iadd dX3_gives_130)) ?_
  refine al_cons (ok_put cl_X3 gX3 tyX3_ok nmX3 (by decide) w_337 rfl (by decide +kernel) (kok_int B) dX3_gives_131) ?_
  refine al_cons (eok_pure (pr_iconst dX3_gives_134 (by decide))) ?_
  refine al_cons (ok_retZ rfl dX3_gives_135) ?_
  exact al_nil
def k_X3_takeBack (md : Bool) : List Ent := [ePure 0 (fLoadA 0 1 0),
  eGet 1 3 3,
  eGet 4 5 0,
  eGet 7 0 2,
  ePure 10 (fLoadI 10 1 1),
  eIald 11 0,
  ePure 12 (fStoI 12 1 3 4),
  ePure 13 (fLoadA 13 1 0),
  eGet 14 3 8,
  ePure 17 (fLoadI 17 1 2),
  ePure 18 (fDup2 18),
  eIald 19 0,
  ePure 20 (fLoadA 20 1 0),
  eGet 21 3 1,
  eGet 24 0 0,
  ePure 27 (fLoadI 27 1 1),
  eIald 28 0,
  ePure 29 (fBin 29 o_iadd),
  eIast 30 0 (fun x => x),
  ePure 31 (fLoadA 31 1 0),
  eGet 32 3 1,
  ePure 35 (fLoadI 35 1 1),
  eCallV 36 1 4 0,
  ePure 39 (fLoadA 39 1 0),
  eGet 40 3 1,
  eGet 43 0 2,
  ePure 46 (fLoadI 46 1 1),
  ePure 47 (fLoadI 47 1 3),
  eIast 48 0 (fun x => x),
  ePure 49 (fLoadA 49 1 0),
  ePure 50 (fDup 50),
  eGet 51 3 10,
  ePure 54 (fPush 54 1 (.int 1)),
  ePure 55 (fBin 55 o_isub),
  ePut 56 3 10 kInt,
  ePure 59 (fLoadA 59 1 0),
  ePure 60 (fDup 60),
  eGet 61 3 11,
  ePure 64 (fLoadA 64 1 0),
  eGet 65 3 2,
  ePure 68 (fLoadI 68 1 3),
  ePure 69 (fLoadA 69 1 0),
  eGet 70 3 2,
  eGet 73 6 10,
  ePure 76 (fLoadA 76 1 0),
  eGet 77 3 6,
  ePure 80 (fLoadI 80 1 2),
  eIald 81 0,
  eIald 82 0,
  eCallV 83 2 67 6,
  ePure 86 (fIf1 86 93 b1_eq),
  ePure 89 (fPush 89 1 (.int 1)),
  ePure 90 (fGoto 94),
  ePure 93 (fPush 93 1 (.int 0)),
  ePure 94 (fBin 94 o_isub),
  ePut 95 3 11 kInt,
  eRetV 98]
set_option maxRecDepth 100000 in
set_option maxHeartbeats 4000000 in
theorem ko_X3_takeBack {l : Launch} {D : va_G} {cA : Nat → ClassId} {B : BB} {G : State → Prop} {md : Bool} {d : Nat} {call : Call} (hG : ∀ s, G s → Gs B s) (hok : COk l D cA B G md d mI call) : ∀ e ∈ k_X3_takeBack md, EOk l RX3 cX3_takeBack 4 none false D cA B G md d call e := by
  unfold k_X3_takeBack
  refine al_cons (eok_pure (pr_aload_n dX3_takeBack_0 rfl)) ?_
  refine al_cons (ok_get cl_X3 gX3 (by decide) w_329 dX3_takeBack_1) ?_
  refine al_cons (ok_get cl_X5 gX5 (by decide) w_253 dX3_takeBack_4) ?_
  refine al_cons (ok_get cl_X0 gX0 (by decide) w_240 dX3_takeBack_7) ?_
  refine al_cons (eok_pure (pr_iload_n dX3_takeBack_10 rfl)) ?_
  refine al_cons (ok_iald dX3_takeBack_11) ?_
  refine al_cons (eok_pure (pr_istore_n dX3_takeBack_12 rfl)) ?_
  refine al_cons (eok_pure (pr_aload_n dX3_takeBack_13 rfl)) ?_
  refine al_cons (ok_get cl_X3 gX3 (by decide) w_334 dX3_takeBack_14) ?_
  refine al_cons (eok_pure (pr_iload_n dX3_takeBack_17 rfl)) ?_
  refine al_cons (eok_pure (pr_dup2 dX3_takeBack_18)) ?_
  refine al_cons (ok_iald dX3_takeBack_19) ?_
  refine al_cons (eok_pure (pr_aload_n dX3_takeBack_20 rfl)) ?_
  refine al_cons (ok_get cl_X3 gX3 (by decide) w_327 dX3_takeBack_21) ?_
  refine al_cons (ok_get cl_X0 gX0 (by decide) w_234 dX3_takeBack_24) ?_
  refine al_cons (eok_pure (pr_iload_n dX3_takeBack_27 rfl)) ?_
  refine al_cons (ok_iald dX3_takeBack_28) ?_
  refine al_cons (eok_pure (pr_iadd dX3_takeBack_29)) ?_
  refine al_cons (ok_iast dX3_takeBack_30) ?_
  refine al_cons (eok_pure (pr_aload_n dX3_takeBack_31 rfl)) ?_
  refine al_cons (ok_get cl_X3 gX3 (by decide) w_327 dX3_takeBack_32) ?_
  refine al_cons (eok_pure (pr_iload_n dX3_takeBack_35 rfl)) ?_
  refine al_cons (ok_callV hok mi_4 cl_X0 w_777 w_778 w_779 w_76 w_780 na_4 (by decide) dX3_takeBack_36) ?_
  refine al_cons (eok_pure (pr_aload_n dX3_takeBack_39 rfl)) ?_
  refine al_cons (ok_get cl_X3 gX3 (by decide) w_327 dX3_takeBack_40) ?_
  refine al_cons (ok_get cl_X0 gX0 (by decide) w_240 dX3_takeBack_43) ?_
  refine al_cons (eok_pure (pr_iload_n dX3_takeBack_46 rfl)) ?_
  refine al_cons (eok_pure (pr_iload_n dX3_takeBack_47 rfl)) ?_
  refine al_cons (ok_iast dX3_takeBack_48) ?_
  refine al_cons (eok_pure (pr_aload_n dX3_takeBack_49 rfl)) ?_
  refine al_cons (eok_pure (pr_dup dX3_takeBack_50)) ?_
  refine al_cons (ok_get cl_X3 gX3 (by decide) w_336 dX3_takeBack_51) ?_
  refine al_cons (eok_pure (pr_iconst dX3_takeBack_54 (by decide))) ?_
  refine al_cons (eok_pure (pr_isub dX3_takeBack_55)) ?_
  refine al_cons (ok_put cl_X3 gX3 tyX3_ok nmX3 (by decide) w_336 rfl (by decide +kernel) (kok_int B) dX3_takeBack_56) ?_
  refine al_cons (eok_pure (pr_aload_n dX3_takeBack_59 rfl)) ?_
  refine al_cons (eok_pure (pr_dup dX3_takeBack_60)) ?_
  refine al_cons (ok_get cl_X3 gX3 (by decide) w_337 dX3_takeBack_61) ?_
  refine al_cons (eok_pure (pr_aload_n dX3_takeBack_64 rfl)) ?_
  refine al_cons (ok_get cl_X3 gX3 (by decide) w_328 dX3_takeBack_65) ?_
  refine al_cons (eok_pure (pr_iload_n dX3_takeBack_68 rfl)) ?_
  refine al_cons (eok_pure (pr_aload_n dX3_takeBack_69 rfl)) ?_
  refine al_cons (ok_get cl_X3 gX3 (by decide) w_328 dX3_takeBack_70) ?_
  refine al_cons (ok_get cl_X6 gX6 (by decide) w_187 dX3_takeBack_73) ?_
  refine al_cons (eok_pure (pr_aload_n dX3_takeBack_76 rfl)) ?_
  refine al_cons (ok_get cl_X3 gX3 (by decide) w_332 dX3_takeBack_77) ?_
  refine al_cons (eok_pure (pr_iload_n dX3_takeBack_80 rfl)) ?_
  refine al_cons (ok_iald dX3_takeBack_81) ?_
  refine al_cons (ok_iald dX3_takeBack_82) ?_
  refine al_cons (ok_callV hok mi_67 cl_X6 w_771 w_653 w_654 w_74 w_655 na_67 (by decide) dX3_takeBack_83) ?_
  refine al_cons (eok_pure (pr_if_eq dX3_takeBack_86 (by decide))) ?_
  refine al_cons (eok_pure (pr_iconst dX3_takeBack_89 (by decide))) ?_
  refine al_cons (eok_pure (pr_goto dX3_takeBack_90 (by decide))) ?_
  refine al_cons (eok_pure (pr_iconst dX3_takeBack_93 (by decide))) ?_
  refine al_cons (eok_pure (pr_isub dX3_takeBack_94)) ?_
  refine al_cons (ok_put cl_X3 gX3 tyX3_ok nmX3 (by decide) w_337 rfl (by decide +kernel) (kok_int B) dX3_takeBack_95) ?_
  refine al_cons (ok_retV rfl dX3_takeBack_98) ?_
  exact al_nil
def k_X3_consider (md : Bool) : List Ent := [ePure 0 (fPush 0 1 (.int 0)),
  ePure 1 (fStoI 1 1 1 3),
  ePure 2 (fPush 2 1 (.int 0)),
  ePure 3 (fStoI 3 1 2 3),
  ePure 4 (fLoadI 4 1 2),
  ePure 5 (fLoadA 5 1 0),
  eGet 6 3 5,
  ePure 9 (fIf2 9 35 b2_ge),
  ePure 12 (fLoadI 12 1 1),
  ePure 13 (fLoadA 13 1 0),
  eGet 14 3 8,
  ePure 17 (fLoadI 17 1 2),
  eIald 18 0,
  ePure 19 (fIf1 19 26 b1_ne),
  ePure 22 (fPush 22 1 (.int 1)),
  ePure 23 (fGoto 27),
  ePure 26 (fPush 26 1 (.int 0)),
  ePure 27 (fBin 27 o_iadd),
  ePure 28 (fStoI 28 1 1 3),
  ePure 29 (fInc 29 2 3 1),
  ePure 32 (fGoto 4),
  ePure 35 (fLoadA 35 1 0),
  ePure 36 (fLoadI 36 1 1),
  eCallV 37 1 33 3,
  ePure 40 (fIf1 40 113 b1_eq),
  ePure 43 (fLoadA 43 1 0),
  eGet 44 3 1,
  ePure 47 (fLoadA 47 1 0),
  eGet 48 3 2,
  ePure 51 (fPush 51 1 (.int 0)),
  eCallV 52 2 8 0,
  ePure 55 (fIf1 55 113 b1_ne),
  ePure 58 (fLoadA 58 1 0),
  eGet 59 3 0,
  ePure 62 (fLoadA 62 1 0),
  eGet 63 3 2,
  ePure 66 (fLoadA 66 1 0),
  eGet 67 3 1,
  ePure 70 (fLoadA 70 1 0),
  eGet 71 3 3,
  eGet 74 5 1,
  eCallV 77 3 18 2,
  ePure 80 (fIf1 80 113 b1_le),
  ePure 83 (fLoadA 83 1 0),
  ePure 84 (fPush 84 1 (.int 1)),
  ePut 85 3 12 kBool,
  ePure 88 (fLoadA 88 1 0),
  ePure 89 (fLoadA 89 1 0),
  eGet 90 3 11,
  ePut 93 3 13 kInt,
  ePure 96 (fLoadA 96 1 0),
  ePure 97 (fLoadI 97 1 1),
  ePut 98 3 14 kInt,
  ePure 101 (fLoadA 101 1 0),
  ePure 102 (fLoadA 102 1 0),
  eGet 103 3 10,
  ePut 106 3 15 kInt,
  ePure 109 (fLoadA 109 1 0),
  eCallV 110 0 34 3,
  eRetV 113]
set_option maxRecDepth 100000 in
set_option maxHeartbeats 4000000 in
theorem ko_X3_consider {l : Launch} {D : va_G} {cA : Nat → ClassId} {B : BB} {G : State → Prop} {md : Bool} {d : Nat} {call : Call} (hG : ∀ s, G s → Gs B s) (hok : COk l D cA B G md d mI call) : ∀ e ∈ k_X3_consider md, EOk l RX3 cX3_consider 3 none false D cA B G md d call e := by
  unfold k_X3_consider
  refine al_cons (eok_pure (pr_iconst dX3_consider_0 (by decide))) ?_
  refine al_cons (eok_pure (pr_istore_n dX3_consider_1 rfl)) ?_
  refine al_cons (eok_pure (pr_iconst dX3_consider_2 (by decide))) ?_
  refine al_cons (eok_pure (pr_istore_n dX3_consider_3 rfl)) ?_
  refine al_cons (eok_pure (pr_iload_n dX3_consider_4 rfl)) ?_
  refine al_cons (eok_pure (pr_aload_n dX3_consider_5 rfl)) ?_
  refine al_cons (ok_get cl_X3 gX3 (by decide) w_331 dX3_consider_6) ?_
  refine al_cons (eok_pure (pr_icmp_ge dX3_consider_9 (by decide))) ?_
  refine al_cons (eok_pure (pr_iload_n dX3_consider_12 rfl)) ?_
  refine al_cons (eok_pure (pr_aload_n dX3_consider_13 rfl)) ?_
  refine al_cons (ok_get cl_X3 gX3 (by decide) w_334 dX3_consider_14) ?_
  refine al_cons (eok_pure (pr_iload_n dX3_consider_17 rfl)) ?_
  refine al_cons (ok_iald dX3_consider_18) ?_
  refine al_cons (eok_pure (pr_if_ne dX3_consider_19 (by decide))) ?_
  refine al_cons (eok_pure (pr_iconst dX3_consider_22 (by decide))) ?_
  refine al_cons (eok_pure (pr_goto dX3_consider_23 (by decide))) ?_
  refine al_cons (eok_pure (pr_iconst dX3_consider_26 (by decide))) ?_
  refine al_cons (eok_pure (pr_iadd dX3_consider_27)) ?_
  refine al_cons (eok_pure (pr_istore_n dX3_consider_28 rfl)) ?_
  refine al_cons (eok_pure (pr_iinc dX3_consider_29 (by decide))) ?_
  refine al_cons (eok_pure (pr_goto dX3_consider_32 (by decide))) ?_
  refine al_cons (eok_pure (pr_aload_n dX3_consider_35 rfl)) ?_
  refine al_cons (eok_pure (pr_iload_n dX3_consider_36 rfl)) ?_
  refine al_cons (ok_callV hok mi_33 cl_X3 w_754 w_756 w_24 w_79 w_757 na_33 (by decide) dX3_consider_37) ?_
  refine al_cons (eok_pure (pr_if_eq dX3_consider_40 (by decide))) ?_
  refine al_cons (eok_pure (pr_aload_n dX3_consider_43 rfl)) ?_
  refine al_cons (ok_get cl_X3 gX3 (by decide) w_327 dX3_consider_44) ?_
  refine al_cons (eok_pure (pr_aload_n dX3_consider_47 rfl)) ?_
  refine al_cons (ok_get cl_X3 gX3 (by decide) w_328 dX3_consider_48) ?_
  refine al_cons (eok_pure (pr_iconst dX3_consider_51 (by decide))) ?_
  refine al_cons (ok_callV hok mi_8 cl_X0 w_758 w_622 w_623 w_76 w_624 na_8 (by decide) dX3_consider_52) ?_
  refine al_cons (eok_pure (pr_if_ne dX3_consider_55 (by decide))) ?_
  refine al_cons (eok_pure (pr_aload_n dX3_consider_58 rfl)) ?_
  refine al_cons (ok_get cl_X3 gX3 (by decide) w_326 dX3_consider_59) ?_
  refine al_cons (eok_pure (pr_aload_n dX3_consider_62 rfl)) ?_
  refine al_cons (ok_get cl_X3 gX3 (by decide) w_328 dX3_consider_63) ?_
  refine al_cons (eok_pure (pr_aload_n dX3_consider_66 rfl)) ?_
  refine al_cons (ok_get cl_X3 gX3 (by decide) w_327 dX3_consider_67) ?_
  refine al_cons (eok_pure (pr_aload_n dX3_consider_70 rfl)) ?_
  refine al_cons (ok_get cl_X3 gX3 (by decide) w_329 dX3_consider_71) ?_
  refine al_cons (ok_get cl_X5 gX5 (by decide) w_256 dX3_consider_74) ?_
  refine al_cons (ok_callV hok mi_18 cl_X2 w_759 w_673 w_674 w_78 w_675 na_18 (by decide) dX3_consider_77) ?_
  refine al_cons (eok_pure (pr_if_le dX3_consider_80 (by decide))) ?_
  refine al_cons (eok_pure (pr_aload_n dX3_consider_83 rfl)) ?_
  refine al_cons (eok_pure (pr_iconst dX3_consider_84 (by decide))) ?_
  refine al_cons (ok_put cl_X3 gX3 tyX3_ok nmX3 (by decide) w_338 rfl (by decide +kernel) (kok_bool B) dX3_consider_85) ?_
  refine al_cons (eok_pure (pr_aload_n dX3_consider_88 rfl)) ?_
  refine al_cons (eok_pure (pr_aload_n dX3_consider_89 rfl)) ?_
  refine al_cons (ok_get cl_X3 gX3 (by decide) w_337 dX3_consider_90) ?_
  refine al_cons (ok_put cl_X3 gX3 tyX3_ok nmX3 (by decide) w_339 rfl (by decide +kernel) (kok_int B) dX3_consider_93) ?_
  refine al_cons (eok_pure (pr_aload_n dX3_consider_96 rfl)) ?_
  refine al_cons (eok_pure (pr_iload_n dX3_consider_97 rfl)) ?_
  refine al_cons (ok_put cl_X3 gX3 tyX3_ok nmX3 (by decide) w_340 rfl (by decide +kernel) (kok_int B) dX3_consider_98) ?_
  refine al_cons (eok_pure (pr_aload_n dX3_consider_101 rfl)) ?_
  refine al_cons (eok_pure (pr_aload_n dX3_consider_102 rfl)) ?_
  refine al_cons (ok_get cl_X3 gX3 (by decide) w_336 dX3_consider_103) ?_
  refine al_cons (ok_put cl_X3 gX3 tyX3_ok nmX3 (by decide) w_342 rfl (by decide +kernel) (kok_int B) dX3_consider_106) ?_
  refine al_cons (eok_pure (pr_aload_n dX3_consider_109 rfl)) ?_
  refine al_cons (ok_callV hok mi_34 cl_X3 w_760 w_762 w_25 w_79 w_763 na_34 (by decide) dX3_consider_110) ?_
  refine al_cons (ok_retV rfl dX3_consider_113) ?_
  exact al_nil
def k_X3_isBetter (md : Bool) : List Ent := [ePure 0 (fLoadA 0 1 0),
  eGet 1 3 12,
  ePure 4 (fIf1 4 41 b1_eq),
  ePure 7 (fLoadA 7 1 0),
  eGet 8 3 4,
  ePure 11 (fIf1 11 41 b1_ne),
  ePure 14 (fLoadI 14 1 1),
  ePure 15 (fLoadA 15 1 0),
  eGet 16 3 14,
  ePure 19 (fIf2 19 41 b2_gt),
  ePure 22 (fLoadI 22 1 1),
  ePure 23 (fLoadA 23 1 0),
  eGet 24 3 14,
  ePure 27 (fIf2 27 45 b2_ne),
  ePure 30 (fLoadA 30 1 0),
  eGet 31 3 10,
  ePure 34 (fLoadA 34 1 0),
  eGet 35 3 15,
  ePure 38 (fIf2 38 45 b2_ge),
  ePure 41 (fPush 41 1 (.int 1)),
  ePure 42 (fGoto 46),
  ePure 45 (fPush 45 1 (.int 0)),
  eRetZ 46]
set_option maxRecDepth 100000 in
set_option maxHeartbeats 4000000 in
theorem ko_X3_isBetter {l : Launch} {D : va_G} {cA : Nat → ClassId} {B : BB} {G : State → Prop} {md : Bool} {d : Nat} {call : Call} (hG : ∀ s, G s → Gs B s) (hok : COk l D cA B G md d mI call) : ∀ e ∈ k_X3_isBetter md, EOk l RX3 cX3_isBetter 2 (some .boolean) false D cA B G md d call e := by
  unfold k_X3_isBetter
  refine al_cons (eok_pure (pr_aload_n dX3_isBetter_0 rfl)) ?_
  refine al_cons (ok_get cl_X3 gX3 (by decide) w_338 dX3_isBetter_1) ?_
  refine al_cons (eok_pure (pr_if_eq dX3_isBetter_4 (by decide))) ?_
  refine al_cons (eok_pure (pr_aload_n dX3_isBetter_7 rfl)) ?_
  refine al_cons (ok_get cl_X3 gX3 (by decide) w_330 dX3_isBetter_8) ?_
  refine al_cons (eok_pure (pr_if_ne dX3_isBetter_11 (by decide))) ?_
  refine al_cons (eok_pure (pr_iload_n dX3_isBetter_14 rfl)) ?_
  refine al_cons (eok_pure (pr_aload_n dX3_isBetter_15 rfl)) ?_
  refine al_cons (ok_get cl_X3 gX3 (by decide) w_340 dX3_isBetter_16) ?_
  refine al_cons (eok_pure (pr_icmp_gt dX3_isBetter_19 (by decide))) ?_
  refine al_cons (eok_pure (pr_iload_n dX3_isBetter_22 rfl)) ?_
  refine al_cons (eok_pure (pr_aload_n dX3_isBetter_23 rfl)) ?_
  refine al_cons (ok_get cl_X3 gX3 (by decide) w_340 dX3_isBetter_24) ?_
  refine al_cons (eok_pure (pr_icmp_ne dX3_isBetter_27 (by decide))) ?_
  refine al_cons (eok_pure (pr_aload_n dX3_isBetter_30 rfl)) ?_
  refine al_cons (ok_get cl_X3 gX3 (by decide) w_336 dX3_isBetter_31) ?_
  refine al_cons (eok_pure (pr_aload_n dX3_isBetter_34 rfl)) ?_
  refine al_cons (ok_get cl_X3 gX3 (by decide) w_342 dX3_isBetter_35) ?_
  refine al_cons (eok_pure (pr_icmp_ge dX3_isBetter_38 (by decide))) ?_
  refine al_cons (eok_pure (pr_iconst dX3_isBetter_41 (by decide))) ?_
  refine al_cons (eok_pure (pr_goto dX3_isBetter_42 (by decide))) ?_
  refine al_cons (eok_pure (pr_iconst dX3_isBetter_45 (by decide))) ?_
  refine al_cons (ok_retZ rfl dX3_isBetter_46) ?_
  exact al_nil
def k_X3_keepDeal (md : Bool) : List Ent := [ePure 0 (fPush 0 1 (.int 0)),
  ePure 1 (fStoI 1 1 1 3),
  ePure 2 (fLoadI 2 1 1),
  ePure 3 (fLoadA 3 1 0),
  eGet 4 3 2,
  eGet 7 6 1,
  ePure 10 (fIf2 10 98 b2_ge),
  ePure 13 (fLoadA 13 1 0),
  eGet 14 3 3,
  eGet 17 5 0,
  eGet 20 0 0,
  ePure 23 (fLoadI 23 1 1),
  eIald 24 0,
  ePure 25 (fIf1 25 44 b1_ne),
  ePure 28 (fLoadA 28 1 0),
  eGet 29 3 1,
  eGet 32 0 0,
  ePure 35 (fLoadI 35 1 1),
  eIald 36 0,
  ePure 37 (fIf1 37 44 b1_le),
  ePure 40 (fPush 40 1 (.int 1)),
  ePure 41 (fGoto 45),
  ePure 44 (fPush 44 1 (.int 0)),
  ePure 45 (fStoI 45 1 2 3),
  ePure 46 (fLoadA 46 1 0),
  eGet 47 3 16,
  ePure 50 (fLoadI 50 1 1),
  ePure 51 (fLoadI 51 1 2),
  ePure 52 (fIf1 52 67 b1_eq),
  ePure 55 (fLoadA 55 1 0),
  eGet 56 3 1,
  eGet 59 0 1,
  ePure 62 (fLoadI 62 1 1),
  eIald 63 0,
  ePure 64 (fGoto 68),
  ePure 67 (fPush 67 1 (.int (-1))),
  eIast 68 0 (fun x => x),
  ePure 69 (fLoadA 69 1 0),
  eGet 70 3 17,
  ePure 73 (fLoadI 73 1 1),
  ePure 74 (fLoadI 74 1 2),
  ePure 75 (fIf1 75 90 b1_eq),
  ePure 78 (fLoadA 78 1 0),
  eGet 79 3 1,
  eGet 82 0 0,
  ePure 85 (fLoadI 85 1 1),
  eIald 86 0,
  ePure 87 (fGoto 91),
  ePure 90 (fPush 90 1 (.int 0)),
  eIast 91 0 (fun x => x),
  ePure 92 (fInc 92 1 3 1),
  ePure 95 (fGoto 2),
  eRetV 98]
set_option maxRecDepth 100000 in
set_option maxHeartbeats 4000000 in
theorem ko_X3_keepDeal {l : Launch} {D : va_G} {cA : Nat → ClassId} {B : BB} {G : State → Prop} {md : Bool} {d : Nat} {call : Call} (hG : ∀ s, G s → Gs B s) (hok : COk l D cA B G md d mI call) : ∀ e ∈ k_X3_keepDeal md, EOk l RX3 cX3_keepDeal 3 none false D cA B G md d call e := by
  unfold k_X3_keepDeal
  refine al_cons (eok_pure (pr_iconst dX3_keepDeal_0 (by decide))) ?_
  refine al_cons (eok_pure (pr_istore_n dX3_keepDeal_1 rfl)) ?_
  refine al_cons (eok_pure (pr_iload_n dX3_keepDeal_2 rfl)) ?_
  refine al_cons (eok_pure (pr_aload_n dX3_keepDeal_3 rfl)) ?_
  refine al_cons (ok_get cl_X3 gX3 (by decide) w_328 dX3_keepDeal_4) ?_
  refine al_cons (ok_get cl_X6 gX6 (by decide) w_156 dX3_keepDeal_7) ?_
  refine al_cons (eok_pure (pr_icmp_ge dX3_keepDeal_10 (by decide))) ?_
  refine al_cons (eok_pure (pr_aload_n dX3_keepDeal_13 rfl)) ?_
  refine al_cons (ok_get cl_X3 gX3 (by decide) w_329 dX3_keepDeal_14) ?_
  refine al_cons (ok_get cl_X5 gX5 (by decide) w_253 dX3_keepDeal_17) ?_
  refine al_cons (ok_get cl_X0 gX0 (by decide) w_234 dX3_keepDeal_20) ?_
  refine al_cons (eok_pure (pr_iload_n dX3_keepDeal_23 rfl)) ?_
  refine al_cons (ok_iald dX3_keepDeal_24) ?_
  refine al_cons (eok_pure (pr_if_ne dX3_keepDeal_25 (by decide))) ?_
  refine al_cons (eok_pure (pr_aload_n dX3_keepDeal_28 rfl)) ?_
  refine al_cons (ok_get cl_X3 gX3 (by decide) w_327 dX3_keepDeal_29) ?_
  refine al_cons (ok_get cl_X0 gX0 (by decide) w_234 dX3_keepDeal_32) ?_
  refine al_cons (eok_pure (pr_iload_n dX3_keepDeal_35 rfl)) ?_
  refine al_cons (ok_iald dX3_keepDeal_36) ?_
  refine al_cons (eok_pure (pr_if_le dX3_keepDeal_37 (by decide))) ?_
  refine al_cons (eok_pure (pr_iconst dX3_keepDeal_40 (by decide))) ?_
  refine al_cons (eok_pure (pr_goto dX3_keepDeal_41 (by decide))) ?_
  refine al_cons (eok_pure (pr_iconst dX3_keepDeal_44 (by decide))) ?_
  refine al_cons (eok_pure (pr_istore_n dX3_keepDeal_45 rfl)) ?_
  refine al_cons (eok_pure (pr_aload_n dX3_keepDeal_46 rfl)) ?_
  refine al_cons (ok_get cl_X3 gX3 (by decide) w_344 dX3_keepDeal_47) ?_
  refine al_cons (eok_pure (pr_iload_n dX3_keepDeal_50 rfl)) ?_
  refine al_cons (eok_pure (pr_iload_n dX3_keepDeal_51 rfl)) ?_
  refine al_cons (eok_pure (pr_if_eq dX3_keepDeal_52 (by decide))) ?_
  refine al_cons (eok_pure (pr_aload_n dX3_keepDeal_55 rfl)) ?_
  refine al_cons (ok_get cl_X3 gX3 (by decide) w_327 dX3_keepDeal_56) ?_
  refine al_cons (ok_get cl_X0 gX0 (by decide) w_238 dX3_keepDeal_59) ?_
  refine al_cons (eok_pure (pr_iload_n dX3_keepDeal_62 rfl)) ?_
  refine al_cons (ok_iald dX3_keepDeal_63) ?_
  refine al_cons (eok_pure (pr_goto dX3_keepDeal_64 (by decide))) ?_
  refine al_cons (eok_pure (pr_iconst dX3_keepDeal_67 (by decide))) ?_
  refine al_cons (ok_iast dX3_keepDeal_68) ?_
  refine al_cons (eok_pure (pr_aload_n dX3_keepDeal_69 rfl)) ?_
  refine al_cons (ok_get cl_X3 gX3 (by decide) w_346 dX3_keepDeal_70) ?_
  refine al_cons (eok_pure (pr_iload_n dX3_keepDeal_73 rfl)) ?_
  refine al_cons (eok_pure (pr_iload_n dX3_keepDeal_74 rfl)) ?_
  refine al_cons (eok_pure (pr_if_eq dX3_keepDeal_75 (by decide))) ?_
  refine al_cons (eok_pure (pr_aload_n dX3_keepDeal_78 rfl)) ?_
  refine al_cons (ok_get cl_X3 gX3 (by decide) w_327 dX3_keepDeal_79) ?_
  refine al_cons (ok_get cl_X0 gX0 (by decide) w_234 dX3_keepDeal_82) ?_
  refine al_cons (eok_pure (pr_iload_n dX3_keepDeal_85 rfl)) ?_
  refine al_cons (ok_iald dX3_keepDeal_86) ?_
  refine al_cons (eok_pure (pr_goto dX3_keepDeal_87 (by decide))) ?_
  refine al_cons (eok_pure (pr_iconst dX3_keepDeal_90 (by decide))) ?_
  refine al_cons (ok_iast dX3_keepDeal_91) ?_
  refine al_cons (eok_pure (pr_iinc dX3_keepDeal_92 (by decide))) ?_
  refine al_cons (eok_pure (pr_goto dX3_keepDeal_95 (by decide))) ?_
  refine al_cons (ok_retV rfl dX3_keepDeal_98) ?_
  exact al_nil
def k_X4_init (md : Bool) : List Ent := [ePure 0 (fLoadA 0 1 0),
  eObj 1,
  ePure 4 (fLoadA 4 1 0),
  ePure 5 (fPush 5 1 (.int 5)),
  eNewI md 6 0,
  ePut 8 4 0 kRef,
  eRetV 11]
set_option maxRecDepth 100000 in
set_option maxHeartbeats 4000000 in
theorem ko_X4_init {l : Launch} {D : va_G} {cA : Nat → ClassId} {B : BB} {G : State → Prop} {md : Bool} {d : Nat} {call : Call} (hG : ∀ s, G s → Gs B s) (hok : COk l D cA B G md d mI call) : ∀ e ∈ k_X4_init md, EOk l RX4 cX4_init 1 none true D cA B G md d call e := by
  unfold k_X4_init
  refine al_cons (eok_pure (pr_aload_n dX4_init_0 rfl)) ?_
  refine al_cons (ok_obj w_106 w_99 w_100 dX4_init_1) ?_
  refine al_cons (eok_pure (pr_aload_n dX4_init_4 rfl)) ?_
  refine al_cons (eok_pure (pr_iconst dX4_init_5 (by decide))) ?_
  refine al_cons (ok_newi w_145 dX4_init_6) ?_
  refine al_cons (ok_putF rfl cl_X4 gX4 tyX4_ok nmX4 (by decide) w_107 rfl rfl (by decide +kernel) (kok_arr B .int) dX4_init_8) ?_
  refine al_cons (ok_retV rfl dX4_init_11) ?_
  exact al_nil
def k_X4_reads (md : Bool) : List Ent := [ePure 0 (fLoadA 0 1 0),
  ePure 1 (fLoadA 1 1 1),
  ePut 2 4 1 kRef,
  ePure 5 (fLoadA 5 1 0),
  ePure 6 (fLoadI 6 1 2),
  ePut 7 4 2 kInt,
  ePure 10 (fLoadA 10 1 0),
  ePure 11 (fPush 11 1 (.int 0)),
  ePut 12 4 3 kInt,
  ePure 15 (fLoadA 15 1 0),
  ePure 16 (fPush 16 1 (.int 0)),
  ePut 17 4 8 kInt,
  ePure 20 (fLoadA 20 1 0),
  ePure 21 (fLoadA 21 1 3),
  ePut 22 4 7 kRef,
  ePure 25 (fLoadA 25 1 0),
  eGet 26 4 7,
  eCallV 29 0 62 6,
  ePure 32 (fLoadA 32 1 0),
  eGet 33 4 0,
  ePure 36 (fPush 36 1 (.int 0)),
  eCallS 37 2 165,
  ePure 40 (fPush 40 1 (.int 0)),
  ePure 41 (fStoI 41 2 4 6),
  ePure 43 (fLoadI 43 2 4),
  ePure 45 (fPush 45 3 (.int 740)),
  ePure 48 (fIf2 48 115 b2_ge),
  ePure 51 (fLoadA 51 1 0),
  eCallV 52 0 49 4,
  ePure 55 (fLoadA 55 1 0),
  eGet 56 4 4,
  ePure 59 (fPush 59 1 (.int 4)),
  ePure 60 (fIf2 60 65 b2_ne),
  ePure 63 (fPush 63 1 (.int 1)),
  eRetZ 64,
  ePure 65 (fLoadA 65 1 0),
  eGet 66 4 8,
  ePure 69 (fIf1 69 79 b1_ne),
  ePure 72 (fLoadA 72 1 0),
  eCallV 73 0 39 4,
  ePure 76 (fGoto 83),
  ePure 79 (fLoadA 79 1 0),
  eCallV 80 0 40 4,
  ePure 83 (fStoI 83 2 5 6),
  ePure 85 (fLoadI 85 2 5),
  ePure 87 (fIf1 87 97 b1_eq),
  ePure 90 (fLoadA 90 1 0),
  eCallV 91 0 38 4,
  ePure 94 (fIf1 94 99 b1_ne),
  ePure 97 (fPush 97 1 (.int 0)),
  eRetZ 98,
  ePure 99 (fLoadA 99 1 0),
  ePure 100 (fDup 100),
  eGet 101 4 8,
  ePure 104 (fPush 104 1 (.int 1)),
  ePure 105 (fBin 105 o_iadd),
  ePut 106 4 8 kInt,
  ePure 109 (fInc 109 4 6 1),
  ePure 112 (fGoto 43),
  ePure 115 (fLoadA 115 1 0),
  ePure 116 (fPush 116 1 (.int 1)),
  eCallV 117 1 37 4,
  eRetZ 120]
set_option maxRecDepth 100000 in
set_option maxHeartbeats 4000000 in
theorem ko_X4_reads {l : Launch} {D : va_G} {cA : Nat → ClassId} {B : BB} {G : State → Prop} {md : Bool} {d : Nat} {call : Call} (hG : ∀ s, G s → Gs B s) (hok : COk l D cA B G md d mI call) : ∀ e ∈ k_X4_reads md, EOk l RX4 cX4_reads 6 (some .boolean) false D cA B G md d call e := by
  unfold k_X4_reads
  refine al_cons (eok_pure (pr_aload_n dX4_reads_0 rfl)) ?_
  refine al_cons (eok_pure (pr_aload_n dX4_reads_1 rfl)) ?_
  refine al_cons (ok_put cl_X4 gX4 tyX4_ok nmX4 (by decide) w_108 rfl (by decide +kernel) (kok_arr B .byte) dX4_reads_2) ?_
  refine al_cons (eok_pure (pr_aload_n dX4_reads_5 rfl)) ?_
  refine al_cons (eok_pure (pr_iload_n dX4_reads_6 rfl)) ?_
  refine al_cons (ok_put cl_X4 gX4 tyX4_ok nmX4 (by decide) w_109 rfl (by decide +kernel) (kok_int B) dX4_reads_7) ?_
  refine al_cons (eok_pure (pr_aload_n dX4_reads_10 rfl)) ?_
  refine al_cons (eok_pure (pr_iconst dX4_reads_11 (by decide))) ?_
  refine al_cons (ok_put cl_X4 gX4 tyX4_ok nmX4 (by decide) w_110 rfl (by decide +kernel) (kok_int B) dX4_reads_12) ?_
  refine al_cons (eok_pure (pr_aload_n dX4_reads_15 rfl)) ?_
  refine al_cons (eok_pure (pr_iconst dX4_reads_16 (by decide))) ?_
  refine al_cons (ok_put cl_X4 gX4 tyX4_ok nmX4 (by decide) w_115 rfl (by decide +kernel) (kok_int B) dX4_reads_17) ?_
  refine al_cons (eok_pure (pr_aload_n dX4_reads_20 rfl)) ?_
  refine al_cons (eok_pure (pr_aload_n dX4_reads_21 rfl)) ?_
  refine al_cons (ok_put cl_X4 gX4 tyX4_ok nmX4 (by decide) w_114 rfl (by decide +kernel) (kok_obj B "TankerDesk$Told") dX4_reads_22) ?_
  refine al_cons (eok_pure (pr_aload_n dX4_reads_25 rfl)) ?_
  refine al_cons (ok_get cl_X4 gX4 (by decide) w_114 dX4_reads_26) ?_
  refine al_cons (ok_callV hok mi_62 cl_X6 w_462 w_386 w_387 w_74 w_388 na_62 (by decide) dX4_reads_29) ?_
  refine al_cons (eok_pure (pr_aload_n dX4_reads_32 rfl)) ?_
  refine al_cons (ok_get cl_X4 gX4 (by decide) w_107 dX4_reads_33) ?_
  refine al_cons (eok_pure (pr_iconst dX4_reads_36 (by decide))) ?_
  refine al_cons (ok_callS hok mi_165 w_463 w_390 w_80 w_391 na_165 (by decide) dX4_reads_37) ?_
  refine al_cons (eok_pure (pr_iconst dX4_reads_40 (by decide))) ?_
  refine al_cons (eok_pure (pr_istore dX4_reads_41)) ?_
  refine al_cons (eok_pure (pr_iload dX4_reads_43)) ?_
  refine al_cons (eok_pure (pr_sipush dX4_reads_45 (by decide))) ?_
  refine al_cons (eok_pure (pr_icmp_ge dX4_reads_48 (by decide))) ?_
  refine al_cons (eok_pure (pr_aload_n dX4_reads_51 rfl)) ?_
  refine al_cons (ok_callV hok mi_49 cl_X4 w_464 w_466 w_1 w_73 w_467 na_49 (by decide) dX4_reads_52) ?_
  refine al_cons (eok_pure (pr_aload_n dX4_reads_55 rfl)) ?_
  refine al_cons (ok_get cl_X4 gX4 (by decide) w_111 dX4_reads_56) ?_
  refine al_cons (eok_pure (pr_iconst dX4_reads_59 (by decide))) ?_
  refine al_cons (eok_pure (pr_icmp_ne dX4_reads_60 (by decide))) ?_
  refine al_cons (eok_pure (pr_iconst dX4_reads_63 (by decide))) ?_
  refine al_cons (ok_retZ rfl dX4_reads_64) ?_
  refine al_cons (eok_pure (pr_aload_n dX4_reads_65 rfl)) ?_
  refine al_cons (ok_get cl_X4 gX4 (by decide) w_115 dX4_reads_66) ?_
  refine al_cons (eok_pure (pr_if_ne dX4_reads_69 (by decide))) ?_
  refine al_cons (eok_pure (pr_aload_n dX4_reads_72 rfl)) ?_
  refine al_cons (ok_callV hok mi_39 cl_X4 w_478 w_480 w_3 w_73 w_481 na_39 (by decide) dX4_reads_73) ?_
  refine al_cons (eok_pure (pr_goto dX4_reads_76 (by decide))) ?_
  refine al_cons (eok_pure (pr_aload_n dX4_reads_79 rfl)) ?_
  refine al_cons (ok_callV hok mi_40 cl_X4 w_547 w_549 w_7 w_73 w_550 na_40 (by decide) dX4_reads_80) ?_
  refine al_cons (eok_pure (pr_istore dX4_reads_83)) ?_
  refine al_cons (eok_pure (pr_iload dX4_reads_85)) ?_
  refine al_cons (eok_pure (pr_if_eq dX4_reads_87 (by decide))) ?_
  refine al_cons (eok_pure (pr_aload_n dX4_reads_90 rfl)) ?_
  refine al_cons (ok_callV hok mi_38 cl_X4 w_588 w_590 w_14 w_73 w_591 na_38 (by decide) dX4_reads_91) ?_
  refine al_cons (eok_pure (pr_if_ne dX4_reads_94 (by decide))) ?_
  refine al_cons (eok_pure (pr_iconst dX4_reads_97 (by decide))) ?_
  refine al_cons (ok_retZ rfl dX4_reads_98) ?_
  refine al_cons (eok_pure (pr_aload_n dX4_reads_99 rfl)) ?_
  refine al_cons (eok_pure (pr_dup dX4_reads_100)) ?_
  refine al_cons (ok_get cl_X4 gX4 (by decide) w_115 dX4_reads_101) ?_
  refine al_cons (eok_pure (pr_iconst dX4_reads_104 (by decide))) ?_
  refine al_cons (eok_pure (pr_iadd dX4_reads_105)) ?_
  refine al_cons (ok_put cl_X4 gX4 tyX4_ok nmX4 (by decide) w_115 rfl (by decide +kernel) (kok_int B) dX4_reads_106) ?_
  refine al_cons (eok_pure (pr_iinc dX4_reads_109 (by decide))) ?_
  refine al_cons (eok_pure (pr_goto dX4_reads_112 (by decide))) ?_
  refine al_cons (eok_pure (pr_aload_n dX4_reads_115 rfl)) ?_
  refine al_cons (eok_pure (pr_iconst dX4_reads_116 (by decide))) ?_
  refine al_cons (ok_callV hok mi_37 cl_X4 w_535 w_537 w_5 w_73 w_538 na_37 (by decide) dX4_reads_117) ?_
  refine al_cons (ok_retZ rfl dX4_reads_120) ?_
  exact al_nil
def k_X4_refuse (md : Bool) : List Ent := [ePure 0 (fLoadA 0 1 0),
  ePure 1 (fLoadI 1 1 1),
  ePut 2 4 9 kInt,
  ePure 5 (fLoadA 5 1 0),
  ePure 6 (fLoadA 6 1 0),
  eGet 7 4 5,
  ePut 10 4 10 kInt,
  ePure 13 (fPush 13 1 (.int 0)),
  eRetZ 14]
set_option maxRecDepth 100000 in
set_option maxHeartbeats 4000000 in
theorem ko_X4_refuse {l : Launch} {D : va_G} {cA : Nat → ClassId} {B : BB} {G : State → Prop} {md : Bool} {d : Nat} {call : Call} (hG : ∀ s, G s → Gs B s) (hok : COk l D cA B G md d mI call) : ∀ e ∈ k_X4_refuse md, EOk l RX4 cX4_refuse 2 (some .boolean) false D cA B G md d call e := by
  unfold k_X4_refuse
  refine al_cons (eok_pure (pr_aload_n dX4_refuse_0 rfl)) ?_
  refine al_cons (eok_pure (pr_iload_n dX4_refuse_1 rfl)) ?_
  refine al_cons (ok_put cl_X4 gX4 tyX4_ok nmX4 (by decide) w_117 rfl (by decide +kernel) (kok_int B) dX4_refuse_2) ?_
  refine al_cons (eok_pure (pr_aload_n dX4_refuse_5 rfl)) ?_
  refine al_cons (eok_pure (pr_aload_n dX4_refuse_6 rfl)) ?_
  refine al_cons (ok_get cl_X4 gX4 (by decide) w_112 dX4_refuse_7) ?_
  refine al_cons (ok_put cl_X4 gX4 tyX4_ok nmX4 (by decide) w_119 rfl (by decide +kernel) (kok_int B) dX4_refuse_10) ?_
  refine al_cons (eok_pure (pr_iconst dX4_refuse_13 (by decide))) ?_
  refine al_cons (ok_retZ rfl dX4_refuse_14) ?_
  exact al_nil
def k_X4_readSign (md : Bool) : List Ent := [ePure 0 (fLoadA 0 1 0),
  eCallV 1 0 49 4,
  ePure 4 (fLoadA 4 1 0),
  eGet 5 4 4,
  ePure 8 (fPush 8 1 (.int 3)),
  ePure 9 (fIf2 9 20 b2_eq),
  ePure 12 (fLoadA 12 1 0),
  ePure 13 (fPush 13 1 (.int 1)),
  eCallV 14 1 37 4,
  ePure 17 (fIf1 17 24 b1_eq),
  ePure 20 (fPush 20 1 (.int 1)),
  ePure 21 (fGoto 25),
  ePure 24 (fPush 24 1 (.int 0)),
  eRetZ 25]
set_option maxRecDepth 100000 in
set_option maxHeartbeats 4000000 in
theorem ko_X4_readSign {l : Launch} {D : va_G} {cA : Nat → ClassId} {B : BB} {G : State → Prop} {md : Bool} {d : Nat} {call : Call} (hG : ∀ s, G s → Gs B s) (hok : COk l D cA B G md d mI call) : ∀ e ∈ k_X4_readSign md, EOk l RX4 cX4_readSign 1 (some .boolean) false D cA B G md d call e := by
  unfold k_X4_readSign
  refine al_cons (eok_pure (pr_aload_n dX4_readSign_0 rfl)) ?_
  refine al_cons (ok_callV hok mi_49 cl_X4 w_464 w_466 w_1 w_73 w_467 na_49 (by decide) dX4_readSign_1) ?_
  refine al_cons (eok_pure (pr_aload_n dX4_readSign_4 rfl)) ?_
  refine al_cons (ok_get cl_X4 gX4 (by decide) w_111 dX4_readSign_5) ?_
  refine al_cons (eok_pure (pr_iconst dX4_readSign_8 (by decide))) ?_
  refine al_cons (eok_pure (pr_icmp_eq dX4_readSign_9 (by decide))) ?_
  refine al_cons (eok_pure (pr_aload_n dX4_readSign_12 rfl)) ?_
  refine al_cons (eok_pure (pr_iconst dX4_readSign_13 (by decide))) ?_
  refine al_cons (ok_callV hok mi_37 cl_X4 w_535 w_537 w_5 w_73 w_538 na_37 (by decide) dX4_readSign_14) ?_
  refine al_cons (eok_pure (pr_if_eq dX4_readSign_17 (by decide))) ?_
  refine al_cons (eok_pure (pr_iconst dX4_readSign_20 (by decide))) ?_
  refine al_cons (eok_pure (pr_goto dX4_readSign_21 (by decide))) ?_
  refine al_cons (eok_pure (pr_iconst dX4_readSign_24 (by decide))) ?_
  refine al_cons (ok_retZ rfl dX4_readSign_25) ?_
  exact al_nil
def k_X4_readTanker (md : Bool) : List Ent := [ePure 0 (fLoadA 0 1 0),
  eSp 1 2 (fSp (.float 0)),
  eCallV 3 1 48 4,
  ePure 6 (fIf1 6 15 b1_ne),
  ePure 9 (fLoadA 9 1 0),
  ePure 10 (fPush 10 1 (.int 1)),
  eCallV 11 1 37 4,
  eRetZ 14,
  ePure 15 (fPush 15 1 (.int 0)),
  ePure 16 (fStoI 16 1 1 3),
  ePure 17 (fLoadI 17 1 1),
  ePure 18 (fPush 18 2 (.int 9)),
  ePure 20 (fIf2 20 82 b2_ge),
  ePure 23 (fLoadI 23 1 1),
  ePure 24 (fPush 24 2 (.int 8)),
  ePure 26 (fIf2 26 42 b2_ne),
  ePure 29 (fLoadA 29 1 0),
  eGet 30 4 7,
  eGet 33 6 0,
  ePure 36 (fPush 36 2 (.int 7)),
  eIald 38 0,
  ePure 39 (fGoto 47),
  eSp 42 3 (fSp (.float 20)),
  ePure 45 (fLoadI 45 1 1),
  eSp 46 1 fTab,
  ePure 47 (fStoI 47 1 2 3),
  ePure 48 (fLoadA 48 1 0),
  ePure 49 (fLoadI 49 1 2),
  eSp 50 3 (fSp (.float 21)),
  ePure 53 (fLoadI 53 1 1),
  eSp 54 1 fTab,
  eCallV 55 2 47 4,
  ePure 58 (fIf1 58 63 b1_ne),
  ePure 61 (fPush 61 1 (.int 0)),
  eRetZ 62,
  ePure 63 (fLoadA 63 1 0),
  eGet 64 4 7,
  eGet 67 6 0,
  ePure 70 (fLoadI 70 1 1),
  ePure 71 (fLoadA 71 1 0),
  eGet 72 4 6,
  eIast 75 0 (fun x => x),
  ePure 76 (fInc 76 1 3 1),
  ePure 79 (fGoto 17),
  ePure 82 (fPush 82 1 (.int 1)),
  eRetZ 83]
set_option maxRecDepth 100000 in
set_option maxHeartbeats 4000000 in
theorem ko_X4_readTanker {l : Launch} {D : va_G} {cA : Nat → ClassId} {B : BB} {G : State → Prop} {md : Bool} {d : Nat} {call : Call} (hG : ∀ s, G s → Gs B s) (hok : COk l D cA B G md d mI call) : ∀ e ∈ k_X4_readTanker md, EOk l RX4 cX4_readTanker 3 (some .boolean) false D cA B G md d call e := by
  unfold k_X4_readTanker
  refine al_cons (eok_pure (pr_aload_n dX4_readTanker_0 rfl)) ?_
  refine al_cons (eok_sp (sr_ldcS (i := 0) hG rfl (by decide) (by decide) (by decide) dX4_readTanker_1)) ?_
  refine al_cons (ok_callV hok mi_48 cl_X4 w_483 w_485 w_4 w_73 w_486 na_48 (by decide) dX4_readTanker_3) ?_
  refine al_cons (eok_pure (pr_if_ne dX4_readTanker_6 (by decide))) ?_
  refine al_cons (eok_pure (pr_aload_n dX4_readTanker_9 rfl)) ?_
  refine al_cons (eok_pure (pr_iconst dX4_readTanker_10 (by decide))) ?_
  refine al_cons (ok_callV hok mi_37 cl_X4 w_535 w_537 w_5 w_73 w_538 na_37 (by decide) dX4_readTanker_11) ?_
  refine al_cons (ok_retZ rfl dX4_readTanker_14) ?_
  refine al_cons (eok_pure (pr_iconst dX4_readTanker_15 (by decide))) ?_
  refine al_cons (eok_pure (pr_istore_n dX4_readTanker_16 rfl)) ?_
  refine al_cons (eok_pure (pr_iload_n dX4_readTanker_17 rfl)) ?_
  refine al_cons (eok_pure (pr_bipush dX4_readTanker_18 (by decide))) ?_
  refine al_cons (eok_pure (pr_icmp_ge dX4_readTanker_20 (by decide))) ?_
  refine al_cons (eok_pure (pr_iload_n dX4_readTanker_23 rfl)) ?_
  refine al_cons (eok_pure (pr_bipush dX4_readTanker_24 (by decide))) ?_
  refine al_cons (eok_pure (pr_icmp_ne dX4_readTanker_26 (by decide))) ?_
  refine al_cons (eok_pure (pr_aload_n dX4_readTanker_29 rfl)) ?_
  refine al_cons (ok_get cl_X4 gX4 (by decide) w_114 dX4_readTanker_30) ?_
  refine al_cons (ok_get cl_X6 gX6 (by decide) w_153 dX4_readTanker_33) ?_
  refine al_cons (eok_pure (pr_bipush dX4_readTanker_36 (by decide))) ?_
  refine al_cons (ok_iald dX4_readTanker_38) ?_
  refine al_cons (eok_pure (pr_goto dX4_readTanker_39 (by decide))) ?_
  refine al_cons (eok_sp (sr_gstN (c := "TankerDesk") (n := "HEAD_LEAST") (d := "[I") (host := "TankerDesk") (fun s g => ((hG s g).2.2.2.2 0 (by decide)).1) w_539 dX4_readTanker_42)) ?_
  refine al_cons (eok_pure (pr_iload_n dX4_readTanker_45 rfl)) ?_
  refine al_cons (eok_sp (sr_tab hG dX4_readTanker_46)) ?_
  refine al_cons (eok_pure (pr_istore_n dX4_readTanker_47 rfl)) ?_
  refine al_cons (eok_pure (pr_aload_n dX4_readTanker_48 rfl)) ?_
  refine al_cons (eok_pure (pr_iload_n dX4_readTanker_49 rfl)) ?_
  refine al_cons (eok_sp (sr_gstN (c := "TankerDesk") (n := "HEAD_MOST") (d := "[I") (host := "TankerDesk") (fun s g => ((hG s g).2.2.2.2 1 (by decide)).1) w_541 dX4_readTanker_50)) ?_
  refine al_cons (eok_pure (pr_iload_n dX4_readTanker_53 rfl)) ?_
  refine al_cons (eok_sp (sr_tab hG dX4_readTanker_54)) ?_
  refine al_cons (ok_callV hok mi_47 cl_X4 w_543 w_545 w_6 w_73 w_546 na_47 (by decide) dX4_readTanker_55) ?_
  refine al_cons (eok_pure (pr_if_ne dX4_readTanker_58 (by decide))) ?_
  refine al_cons (eok_pure (pr_iconst dX4_readTanker_61 (by decide))) ?_
  refine al_cons (ok_retZ rfl dX4_readTanker_62) ?_
  refine al_cons (eok_pure (pr_aload_n dX4_readTanker_63 rfl)) ?_
  refine al_cons (ok_get cl_X4 gX4 (by decide) w_114 dX4_readTanker_64) ?_
  refine al_cons (ok_get cl_X6 gX6 (by decide) w_153 dX4_readTanker_67) ?_
  refine al_cons (eok_pure (pr_iload_n dX4_readTanker_70 rfl)) ?_
  refine al_cons (eok_pure (pr_aload_n dX4_readTanker_71 rfl)) ?_
  refine al_cons (ok_get cl_X4 gX4 (by decide) w_113 dX4_readTanker_72) ?_
  refine al_cons (ok_iast dX4_readTanker_75) ?_
  refine al_cons (eok_pure (pr_iinc dX4_readTanker_76 (by decide))) ?_
  refine al_cons (eok_pure (pr_goto dX4_readTanker_79 (by decide))) ?_
  refine al_cons (eok_pure (pr_iconst dX4_readTanker_82 (by decide))) ?_
  refine al_cons (ok_retZ rfl dX4_readTanker_83) ?_
  exact al_nil
def k_X4_readOther (md : Bool) : List Ent := [ePure 0 (fLoadA 0 1 0),
  eCallV 1 0 41 4,
  ePure 4 (fStoI 4 1 1 2),
  ePure 5 (fLoadI 5 1 1),
  ePure 6 (fPush 6 1 (.int (-1))),
  ePure 7 (fIf2 7 16 b2_ne),
  ePure 10 (fLoadA 10 1 0),
  ePure 11 (fPush 11 1 (.int 1)),
  eCallV 12 1 37 4,
  eRetZ 15,
  ePure 16 (fLoadA 16 1 0),
  eGet 17 4 0,
  ePure 20 (fLoadI 20 1 1),
  eIald 21 0,
  eSp 22 3 (fSp (.float 22)),
  ePure 25 (fLoadI 25 1 1),
  eSp 26 1 fTab,
  ePure 27 (fIf2 27 36 b2_lt),
  ePure 30 (fLoadA 30 1 0),
  ePure 31 (fPush 31 1 (.int 3)),
  eCallV 32 1 37 4,
  eRetZ 35,
  ePure 36 (fLoadA 36 1 0),
  eGet 37 4 0,
  ePure 40 (fLoadI 40 1 1),
  ePure 41 (fDup2 41),
  eIald 42 0,
  ePure 43 (fPush 43 1 (.int 1)),
  ePure 44 (fBin 44 o_iadd),
  eIast 45 0 (fun x => x),
  ePure 46 (fLoadI 46 1 1),
  ePure 47 (fSw 0 [76, 81, 86, 91] 96),
  ePure 76 (fLoadA 76 1 0),
  eCallV 77 0 42 4,
  eRetZ 80,
  ePure 81 (fLoadA 81 1 0),
  eCallV 82 0 43 4,
  eRetZ 85,
  ePure 86 (fLoadA 86 1 0),
  eCallV 87 0 44 4,
  eRetZ 90,
  ePure 91 (fLoadA 91 1 0),
  eCallV 92 0 45 4,
  eRetZ 95,
  ePure 96 (fLoadA 96 1 0),
  eCallV 97 0 46 4,
  eRetZ 100]
set_option maxRecDepth 100000 in
set_option maxHeartbeats 4000000 in
theorem ko_X4_readOther {l : Launch} {D : va_G} {cA : Nat → ClassId} {B : BB} {G : State → Prop} {md : Bool} {d : Nat} {call : Call} (hG : ∀ s, G s → Gs B s) (hok : COk l D cA B G md d mI call) : ∀ e ∈ k_X4_readOther md, EOk l RX4 cX4_readOther 2 (some .boolean) false D cA B G md d call e := by
  unfold k_X4_readOther
  refine al_cons (eok_pure (pr_aload_n dX4_readOther_0 rfl)) ?_
  refine al_cons (ok_callV hok mi_41 cl_X4 w_551 w_553 w_8 w_73 w_554 na_41 (by decide) dX4_readOther_1) ?_
  refine al_cons (eok_pure (pr_istore_n dX4_readOther_4 rfl)) ?_
  refine al_cons (eok_pure (pr_iload_n dX4_readOther_5 rfl)) ?_
  refine al_cons (eok_pure (pr_iconst dX4_readOther_6 (by decide))) ?_
  refine al_cons (eok_pure (pr_icmp_ne dX4_readOther_7 (by decide))) ?_
  refine al_cons (eok_pure (pr_aload_n dX4_readOther_10 rfl)) ?_
  refine al_cons (eok_pure (pr_iconst dX4_readOther_11 (by decide))) ?_
  refine al_cons (ok_callV hok mi_37 cl_X4 w_535 w_537 w_5 w_73 w_538 na_37 (by decide) dX4_readOther_12) ?_
  refine al_cons (ok_retZ rfl dX4_readOther_15) ?_
  refine al_cons (eok_pure (pr_aload_n dX4_readOther_16 rfl)) ?_
  refine al_cons (ok_get cl_X4 gX4 (by decide) w_107 dX4_readOther_17) ?_
  refine al_cons (eok_pure (pr_iload_n dX4_readOther_20 rfl)) ?_
  refine al_cons (ok_iald dX4_readOther_21) ?_
  refine al_cons (eok_sp (sr_gstN (c := "TankerDesk") (n := "MOST_LINES") (d := "[I") (host := "TankerDesk") (fun s g => ((hG s g).2.2.2.2 2 (by decide)).1) w_560 dX4_readOther_22)) ?_
  refine al_cons (eok_pure (pr_iload_n dX4_readOther_25 rfl)) ?_
  refine al_cons (eok_sp (sr_tab hG dX4_readOther_26)) ?_
  refine al_cons (eok_pure (pr_icmp_lt dX4_readOther_27 (by decide))) ?_
  refine al_cons (eok_pure (pr_aload_n dX4_readOther_30 rfl)) ?_
  refine al_cons (eok_pure (pr_iconst dX4_readOther_31 (by decide))) ?_
  refine al_cons (ok_callV hok mi_37 cl_X4 w_535 w_537 w_5 w_73 w_538 na_37 (by decide) dX4_readOther_32) ?_
  refine al_cons (ok_retZ rfl dX4_readOther_35) ?_
  refine al_cons (eok_pure (pr_aload_n dX4_readOther_36 rfl)) ?_
  refine al_cons (ok_get cl_X4 gX4 (by decide) w_107 dX4_readOther_37) ?_
  refine al_cons (eok_pure (pr_iload_n dX4_readOther_40 rfl)) ?_
  refine al_cons (eok_pure (pr_dup2 dX4_readOther_41)) ?_
  refine al_cons (ok_iald dX4_readOther_42) ?_
  refine al_cons (eok_pure (pr_iconst dX4_readOther_43 (by decide))) ?_
  refine al_cons (eok_pure (pr_iadd dX4_readOther_44)) ?_
  refine al_cons (ok_iast dX4_readOther_45) ?_
  refine al_cons (eok_pure (pr_iload_n dX4_readOther_46 rfl)) ?_
  refine al_cons (eok_pure (pr_tsw dX4_readOther_47 (by decide) (by decide) (by decide))) ?_
  refine al_cons (eok_pure (pr_aload_n dX4_readOther_76 rfl)) ?_
  refine al_cons (ok_callV hok mi_42 cl_X4 w_562 w_564 w_9 w_73 w_565 na_42 (by decide) dX4_readOther_77) ?_
  refine al_cons (ok_retZ rfl dX4_readOther_80) ?_
  refine al_cons (eok_pure (pr_aload_n dX4_readOther_81 rfl)) ?_
  refine al_cons (ok_callV hok mi_43 cl_X4 w_568 w_570 w_10 w_73 w_571 na_43 (by decide) dX4_readOther_82) ?_
  refine al_cons (ok_retZ rfl dX4_readOther_85) ?_
  refine al_cons (eok_pure (pr_aload_n dX4_readOther_86 rfl)) ?_
  refine al_cons (ok_callV hok mi_44 cl_X4 w_572 w_574 w_11 w_73 w_575 na_44 (by decide) dX4_readOther_87) ?_
  refine al_cons (ok_retZ rfl dX4_readOther_90) ?_
  refine al_cons (eok_pure (pr_aload_n dX4_readOther_91 rfl)) ?_
  refine al_cons (ok_callV hok mi_45 cl_X4 w_580 w_582 w_12 w_73 w_583 na_45 (by decide) dX4_readOther_92) ?_
  refine al_cons (ok_retZ rfl dX4_readOther_95) ?_
  refine al_cons (eok_pure (pr_aload_n dX4_readOther_96 rfl)) ?_
  refine al_cons (ok_callV hok mi_46 cl_X4 w_584 w_586 w_13 w_73 w_587 na_46 (by decide) dX4_readOther_97) ?_
  refine al_cons (ok_retZ rfl dX4_readOther_100) ?_
  exact al_nil
def k_X4_sortOfWord (md : Bool) : List Ent := [ePure 0 (fLoadA 0 1 0),
  eSp 1 2 (fSp (.float 1)),
  eCallV 3 1 48 4,
  ePure 6 (fIf1 6 11 b1_eq),
  ePure 9 (fPush 9 1 (.int 0)),
  eRetI 10,
  ePure 11 (fLoadA 11 1 0),
  eSp 12 2 (fSp (.float 2)),
  eCallV 14 1 48 4,
  ePure 17 (fIf1 17 22 b1_eq),
  ePure 20 (fPush 20 1 (.int 1)),
  eRetI 21,
  ePure 22 (fLoadA 22 1 0),
  eSp 23 2 (fSp (.float 3)),
  eCallV 25 1 48 4,
  ePure 28 (fIf1 28 33 b1_eq),
  ePure 31 (fPush 31 1 (.int 2)),
  eRetI 32,
  ePure 33 (fLoadA 33 1 0),
  eSp 34 2 (fSp (.float 4)),
  eCallV 36 1 48 4,
  ePure 39 (fIf1 39 44 b1_eq),
  ePure 42 (fPush 42 1 (.int 3)),
  eRetI 43,
  ePure 44 (fLoadA 44 1 0),
  eSp 45 2 (fSp (.float 5)),
  eCallV 47 1 48 4,
  ePure 50 (fIf1 50 57 b1_eq),
  ePure 53 (fPush 53 1 (.int 4)),
  ePure 54 (fGoto 58),
  ePure 57 (fPush 57 1 (.int (-1))),
  eRetI 58]
set_option maxRecDepth 100000 in
set_option maxHeartbeats 4000000 in
theorem ko_X4_sortOfWord {l : Launch} {D : va_G} {cA : Nat → ClassId} {B : BB} {G : State → Prop} {md : Bool} {d : Nat} {call : Call} (hG : ∀ s, G s → Gs B s) (hok : COk l D cA B G md d mI call) : ∀ e ∈ k_X4_sortOfWord md, EOk l RX4 cX4_sortOfWord 1 (some .int) false D cA B G md d call e := by
  unfold k_X4_sortOfWord
  refine al_cons (eok_pure (pr_aload_n dX4_sortOfWord_0 rfl)) ?_
  refine al_cons (eok_sp (sr_ldcS (i := 1) hG rfl (by decide) (by decide) (by decide) dX4_sortOfWord_1)) ?_
  refine al_cons (ok_callV hok mi_48 cl_X4 w_483 w_485 w_4 w_73 w_486 na_48 (by decide) dX4_sortOfWord_3) ?_
  refine al_cons (eok_pure (pr_if_eq dX4_sortOfWord_6 (by decide))) ?_
  refine al_cons (eok_pure (pr_iconst dX4_sortOfWord_9 (by decide))) ?_
  refine al_cons (ok_retI rfl dX4_sortOfWord_10) ?_
  refine al_cons (eok_pure (pr_aload_n dX4_sortOfWord_11 rfl)) ?_
  refine al_cons (eok_sp (sr_ldcS (i := 2) hG rfl (by decide) (by decide) (by decide) dX4_sortOfWord_12)) ?_
  refine al_cons (ok_callV hok mi_48 cl_X4 w_483 w_485 w_4 w_73 w_486 na_48 (by decide) dX4_sortOfWord_14) ?_
  refine al_cons (eok_pure (pr_if_eq dX4_sortOfWord_17 (by decide))) ?_
  refine al_cons (eok_pure (pr_iconst dX4_sortOfWord_20 (by decide))) ?_
  refine al_cons (ok_retI rfl dX4_sortOfWord_21) ?_
  refine al_cons (eok_pure (pr_aload_n dX4_sortOfWord_22 rfl)) ?_
  refine al_cons (eok_sp (sr_ldcS (i := 3) hG rfl (by decide) (by decide) (by decide) dX4_sortOfWord_23)) ?_
  refine al_cons (ok_callV hok mi_48 cl_X4 w_483 w_485 w_4 w_73 w_486 na_48 (by decide) dX4_sortOfWord_25) ?_
  refine al_cons (eok_pure (pr_if_eq dX4_sortOfWord_28 (by decide))) ?_
  refine al_cons (eok_pure (pr_iconst dX4_sortOfWord_31 (by decide))) ?_
  refine al_cons (ok_retI rfl dX4_sortOfWord_32) ?_
  refine al_cons (eok_pure (pr_aload_n dX4_sortOfWord_33 rfl)) ?_
  refine al_cons (eok_sp (sr_ldcS (i := 4) hG rfl (by decide) (by decide) (by decide) dX4_sortOfWord_34)) ?_
  refine al_cons (ok_callV hok mi_48 cl_X4 w_483 w_485 w_4 w_73 w_486 na_48 (by decide) dX4_sortOfWord_36) ?_
  refine al_cons (eok_pure (pr_if_eq dX4_sortOfWord_39 (by decide))) ?_
  refine al_cons (eok_pure (pr_iconst dX4_sortOfWord_42 (by decide))) ?_
  refine al_cons (ok_retI rfl dX4_sortOfWord_43) ?_
  refine al_cons (eok_pure (pr_aload_n dX4_sortOfWord_44 rfl)) ?_
  refine al_cons (eok_sp (sr_ldcS (i := 5) hG rfl (by decide) (by decide) (by decide) dX4_sortOfWord_45)) ?_
  refine al_cons (ok_callV hok mi_48 cl_X4 w_483 w_485 w_4 w_73 w_486 na_48 (by decide) dX4_sortOfWord_47) ?_
  refine al_cons (eok_pure (pr_if_eq dX4_sortOfWord_50 (by decide))) ?_
  refine al_cons (eok_pure (pr_iconst dX4_sortOfWord_53 (by decide))) ?_
  refine al_cons (eok_pure (pr_goto dX4_sortOfWord_54 (by decide))) ?_
  refine al_cons (eok_pure (pr_iconst dX4_sortOfWord_57 (by decide))) ?_
  refine al_cons (ok_retI rfl dX4_sortOfWord_58) ?_
  exact al_nil
def k_X4_readCompartment (md : Bool) : List Ent := [ePure 0 (fLoadA 0 1 0),
  ePure 1 (fPush 1 1 (.int 1)),
  ePure 2 (fPush 2 3 (.int 999)),
  eCallV 5 2 47 4,
  ePure 8 (fIf1 8 13 b1_ne),
  ePure 11 (fPush 11 1 (.int 0)),
  eRetZ 12,
  ePure 13 (fLoadA 13 1 0),
  eGet 14 4 7,
  eGet 17 6 2,
  ePure 20 (fLoadA 20 1 0),
  eGet 21 4 7,
  eGet 24 6 1,
  ePure 27 (fLoadA 27 1 0),
  eGet 28 4 6,
  eIast 31 0 (fun x => x),
  ePure 32 (fLoadA 32 1 0),
  ePure 33 (fPush 33 1 (.int 0)),
  ePure 34 (fPush 34 2 (.int 99)),
  eCallV 36 2 47 4,
  ePure 39 (fIf1 39 44 b1_ne),
  ePure 42 (fPush 42 1 (.int 0)),
  eRetZ 43,
  ePure 44 (fLoadA 44 1 0),
  eGet 45 4 7,
  eGet 48 6 3,
  ePure 51 (fLoadA 51 1 0),
  eGet 52 4 7,
  eGet 55 6 1,
  ePure 58 (fLoadA 58 1 0),
  eGet 59 4 6,
  eIast 62 0 (fun x => x),
  ePure 63 (fLoadA 63 1 0),
  eCallV 64 0 49 4,
  ePure 67 (fLoadA 67 1 0),
  eSp 68 2 (fSp (.float 6)),
  eCallV 70 1 48 4,
  ePure 73 (fStoI 73 1 1 2),
  ePure 74 (fLoadI 74 1 1),
  ePure 75 (fIf1 75 93 b1_ne),
  ePure 78 (fLoadA 78 1 0),
  eSp 79 2 (fSp (.float 7)),
  eCallV 81 1 48 4,
  ePure 84 (fIf1 84 93 b1_ne),
  ePure 87 (fLoadA 87 1 0),
  ePure 88 (fPush 88 1 (.int 1)),
  eCallV 89 1 37 4,
  eRetZ 92,
  ePure 93 (fLoadA 93 1 0),
  eGet 94 4 7,
  eGet 97 6 4,
  ePure 100 (fLoadA 100 1 0),
  eGet 101 4 7,
  eGet 104 6 1,
  ePure 107 (fLoadI 107 1 1),
  ePure 108 (fIf1 108 115 b1_eq),
  ePure 111 (fPush 111 1 (.int 1)),
  ePure 112 (fGoto 116),
  ePure 115 (fPush 115 1 (.int 0)),
  eIast 116 0 (fun x => x),
  ePure 117 (fLoadA 117 1 0),
  eGet 118 4 7,
  ePure 121 (fDup 121),
  eGet 122 6 1,
  ePure 125 (fPush 125 1 (.int 1)),
  ePure 126 (fBin 126 o_iadd),
  ePut 127 6 1 kInt,
  ePure 130 (fPush 130 1 (.int 1)),
  eRetZ 131]
set_option maxRecDepth 100000 in
set_option maxHeartbeats 4000000 in
theorem ko_X4_readCompartment {l : Launch} {D : va_G} {cA : Nat → ClassId} {B : BB} {G : State → Prop} {md : Bool} {d : Nat} {call : Call} (hG : ∀ s, G s → Gs B s) (hok : COk l D cA B G md d mI call) : ∀ e ∈ k_X4_readCompartment md, EOk l RX4 cX4_readCompartment 2 (some .boolean) false D cA B G md d call e := by
  unfold k_X4_readCompartment
  refine al_cons (eok_pure (pr_aload_n dX4_readCompartment_0 rfl)) ?_
  refine al_cons (eok_pure (pr_iconst dX4_readCompartment_1 (by decide))) ?_
  refine al_cons (eok_pure (pr_sipush dX4_readCompartment_2 (by decide))) ?_
  refine al_cons (ok_callV hok mi_47 cl_X4 w_543 w_545 w_6 w_73 w_546 na_47 (by decide) dX4_readCompartment_5) ?_
  refine al_cons (eok_pure (pr_if_ne dX4_readCompartment_8 (by decide))) ?_
  refine al_cons (eok_pure (pr_iconst dX4_readCompartment_11 (by decide))) ?_
  refine al_cons (ok_retZ rfl dX4_readCompartment_12) ?_
  refine al_cons (eok_pure (pr_aload_n dX4_readCompartment_13 rfl)) ?_
  refine al_cons (ok_get cl_X4 gX4 (by decide) w_114 dX4_readCompartment_14) ?_
  refine al_cons (ok_get cl_X6 gX6 (by decide) w_162 dX4_readCompartment_17) ?_
  refine al_cons (eok_pure (pr_aload_n dX4_readCompartment_20 rfl)) ?_
  refine al_cons (ok_get cl_X4 gX4 (by decide) w_114 dX4_readCompartment_21) ?_
  refine al_cons (ok_get cl_X6 gX6 (by decide) w_158 dX4_readCompartment_24) ?_
  refine al_cons (eok_pure (pr_aload_n dX4_readCompartment_27 rfl)) ?_
  refine al_cons (ok_get cl_X4 gX4 (by decide) w_113 dX4_readCompartment_28) ?_
  refine al_cons (ok_iast dX4_readCompartment_31) ?_
  refine al_cons (eok_pure (pr_aload_n dX4_readCompartment_32 rfl)) ?_
  refine al_cons (eok_pure (pr_iconst dX4_readCompartment_33 (by decide))) ?_
  refine al_cons (eok_pure (pr_bipush dX4_readCompartment_34 (by decide))) ?_
  refine al_cons (ok_callV hok mi_47 cl_X4 w_543 w_545 w_6 w_73 w_546 na_47 (by decide) dX4_readCompartment_36) ?_
  refine al_cons (eok_pure (pr_if_ne dX4_readCompartment_39 (by decide))) ?_
  refine al_cons (eok_pure (pr_iconst dX4_readCompartment_42 (by decide))) ?_
  refine al_cons (ok_retZ rfl dX4_readCompartment_43) ?_
  refine al_cons (eok_pure (pr_aload_n dX4_readCompartment_44 rfl)) ?_
  refine al_cons (ok_get cl_X4 gX4 (by decide) w_114 dX4_readCompartment_45) ?_
  refine al_cons (ok_get cl_X6 gX6 (by decide) w_166 dX4_readCompartment_48) ?_
  refine al_cons (eok_pure (pr_aload_n dX4_readCompartment_51 rfl)) ?_
  refine al_cons (ok_get cl_X4 gX4 (by decide) w_114 dX4_readCompartment_52) ?_
  refine al_cons (ok_get cl_X6 gX6 (by decide) w_158 dX4_readCompartment_55) ?_
  refine al_cons (eok_pure (pr_aload_n dX4_readCompartment_58 rfl)) ?_
  refine al_cons (ok_get cl_X4 gX4 (by decide) w_113 dX4_readCompartment_59) ?_
  refine al_cons (ok_iast dX4_readCompartment_62) ?_
  refine al_cons (eok_pure (pr_aload_n dX4_readCompartment_63 rfl)) ?_
  refine al_cons (ok_callV hok mi_49 cl_X4 w_464 w_466 w_1 w_73 w_467 na_49 (by decide) dX4_readCompartment_64) ?_
  refine al_cons (eok_pure (pr_aload_n dX4_readCompartment_67 rfl)) ?_
  refine al_cons (eok_sp (sr_ldcS (i := 6) hG rfl (by decide) (by decide) (by decide) dX4_readCompartment_68)) ?_
  refine al_cons (ok_callV hok mi_48 cl_X4 w_483 w_485 w_4 w_73 w_486 na_48 (by decide) dX4_readCompartment_70) ?_
  refine al_cons (eok_pure (pr_istore_n dX4_readCompartment_73 rfl)) ?_
  refine al_cons (eok_pure (pr_iload_n dX4_readCompartment_74 rfl)) ?_
  refine al_cons (eok_pure (pr_if_ne dX4_readCompartment_75 (by decide))) ?_
  refine al_cons (eok_pure (pr_aload_n dX4_readCompartment_78 rfl)) ?_
  refine al_cons (eok_sp (sr_ldcS (i := 7) hG rfl (by decide) (by decide) (by decide) dX4_readCompartment_79)) ?_
  refine al_cons (ok_callV hok mi_48 cl_X4 w_483 w_485 w_4 w_73 w_486 na_48 (by decide) dX4_readCompartment_81) ?_
  refine al_cons (eok_pure (pr_if_ne dX4_readCompartment_84 (by decide))) ?_
  refine al_cons (eok_pure (pr_aload_n dX4_readCompartment_87 rfl)) ?_
  refine al_cons (eok_pure (pr_iconst dX4_readCompartment_88 (by decide))) ?_
  refine al_cons (ok_callV hok mi_37 cl_X4 w_535 w_537 w_5 w_73 w_538 na_37 (by decide) dX4_readCompartment_89) ?_
  refine al_cons (ok_retZ rfl dX4_readCompartment_92) ?_
  refine al_cons (eok_pure (pr_aload_n dX4_readCompartment_93 rfl)) ?_
  refine al_cons (ok_get cl_X4 gX4 (by decide) w_114 dX4_readCompartment_94) ?_
  refine al_cons (ok_get cl_X6 gX6 (by decide) w_170 dX4_readCompartment_97) ?_
  refine al_cons (eok_pure (pr_aload_n dX4_readCompartment_100 rfl)) ?_
  refine al_cons (ok_get cl_X4 gX4 (by decide) w_114 dX4_readCompartment_101) ?_
  refine al_cons (ok_get cl_X6 gX6 (by decide) w_158 dX4_readCompartment_104) ?_
  refine al_cons (eok_pure (pr_iload_n dX4_readCompartment_107 rfl)) ?_
  refine al_cons (eok_pure (pr_if_eq dX4_readCompartment_108 (by decide))) ?_
  refine al_cons (eok_pure (pr_iconst dX4_readCompartment_111 (by decide))) ?_
  refine al_cons (eok_pure (pr_goto dX4_readCompartment_112 (by decide))) ?_
  refine al_cons (eok_pure (pr_iconst dX4_readCompartment_115 (by decide))) ?_
  refine al_cons (ok_iast dX4_readCompartment_116) ?_
  refine al_cons (eok_pure (pr_aload_n dX4_readCompartment_117 rfl)) ?_
  refine al_cons (ok_get cl_X4 gX4 (by decide) w_114 dX4_readCompartment_118) ?_
  refine al_cons (eok_pure (pr_dup dX4_readCompartment_121)) ?_
  refine al_cons (ok_get cl_X6 gX6 (by decide) w_158 dX4_readCompartment_122) ?_
  refine al_cons (eok_pure (pr_iconst dX4_readCompartment_125 (by decide))) ?_
  refine al_cons (eok_pure (pr_iadd dX4_readCompartment_126)) ?_
  refine al_cons (ok_put cl_X6 gX6 tyX6_ok nmX6 (by decide) w_158 rfl (by decide +kernel) (kok_int B) dX4_readCompartment_127) ?_
  refine al_cons (eok_pure (pr_iconst dX4_readCompartment_130 (by decide))) ?_
  refine al_cons (ok_retZ rfl dX4_readCompartment_131) ?_
  exact al_nil
def k_X4_readLiquid (md : Bool) : List Ent := [ePure 0 (fLoadA 0 1 0),
  ePure 1 (fPush 1 1 (.int 1)),
  ePure 2 (fPush 2 2 (.int 20)),
  eCallV 4 2 47 4,
  ePure 7 (fIf1 7 12 b1_ne),
  ePure 10 (fPush 10 1 (.int 0)),
  eRetZ 11,
  ePure 12 (fLoadA 12 1 0),
  eGet 13 4 7,
  eGet 16 6 7,
  ePure 19 (fLoadA 19 1 0),
  eGet 20 4 7,
  eGet 23 6 6,
  ePure 26 (fLoadA 26 1 0),
  eGet 27 4 6,
  eIast 30 0 (fun x => x),
  ePure 31 (fLoadA 31 1 0),
  eGet 32 4 7,
  ePure 35 (fDup 35),
  eGet 36 6 6,
  ePure 39 (fPush 39 1 (.int 1)),
  ePure 40 (fBin 40 o_iadd),
  ePut 41 6 6 kInt,
  ePure 44 (fPush 44 1 (.int 1)),
  eRetZ 45]
set_option maxRecDepth 100000 in
set_option maxHeartbeats 4000000 in
theorem ko_X4_readLiquid {l : Launch} {D : va_G} {cA : Nat → ClassId} {B : BB} {G : State → Prop} {md : Bool} {d : Nat} {call : Call} (hG : ∀ s, G s → Gs B s) (hok : COk l D cA B G md d mI call) : ∀ e ∈ k_X4_readLiquid md, EOk l RX4 cX4_readLiquid 1 (some .boolean) false D cA B G md d call e := by
  unfold k_X4_readLiquid
  refine al_cons (eok_pure (pr_aload_n dX4_readLiquid_0 rfl)) ?_
  refine al_cons (eok_pure (pr_iconst dX4_readLiquid_1 (by decide))) ?_
  refine al_cons (eok_pure (pr_bipush dX4_readLiquid_2 (by decide))) ?_
  refine al_cons (ok_callV hok mi_47 cl_X4 w_543 w_545 w_6 w_73 w_546 na_47 (by decide) dX4_readLiquid_4) ?_
  refine al_cons (eok_pure (pr_if_ne dX4_readLiquid_7 (by decide))) ?_
  refine al_cons (eok_pure (pr_iconst dX4_readLiquid_10 (by decide))) ?_
  refine al_cons (ok_retZ rfl dX4_readLiquid_11) ?_
  refine al_cons (eok_pure (pr_aload_n dX4_readLiquid_12 rfl)) ?_
  refine al_cons (ok_get cl_X4 gX4 (by decide) w_114 dX4_readLiquid_13) ?_
  refine al_cons (ok_get cl_X6 gX6 (by decide) w_180 dX4_readLiquid_16) ?_
  refine al_cons (eok_pure (pr_aload_n dX4_readLiquid_19 rfl)) ?_
  refine al_cons (ok_get cl_X4 gX4 (by decide) w_114 dX4_readLiquid_20) ?_
  refine al_cons (ok_get cl_X6 gX6 (by decide) w_177 dX4_readLiquid_23) ?_
  refine al_cons (eok_pure (pr_aload_n dX4_readLiquid_26 rfl)) ?_
  refine al_cons (ok_get cl_X4 gX4 (by decide) w_113 dX4_readLiquid_27) ?_
  refine al_cons (ok_iast dX4_readLiquid_30) ?_
  refine al_cons (eok_pure (pr_aload_n dX4_readLiquid_31 rfl)) ?_
  refine al_cons (ok_get cl_X4 gX4 (by decide) w_114 dX4_readLiquid_32) ?_
  refine al_cons (eok_pure (pr_dup dX4_readLiquid_35)) ?_
  refine al_cons (ok_get cl_X6 gX6 (by decide) w_177 dX4_readLiquid_36) ?_
  refine al_cons (eok_pure (pr_iconst dX4_readLiquid_39 (by decide))) ?_
  refine al_cons (eok_pure (pr_iadd dX4_readLiquid_40)) ?_
  refine al_cons (ok_put cl_X6 gX6 tyX6_ok nmX6 (by decide) w_177 rfl (by decide +kernel) (kok_int B) dX4_readLiquid_41) ?_
  refine al_cons (eok_pure (pr_iconst dX4_readLiquid_44 (by decide))) ?_
  refine al_cons (ok_retZ rfl dX4_readLiquid_45) ?_
  exact al_nil
def k_X4_readBar (md : Bool) : List Ent := [ePure 0 (fLoadA 0 1 0),
  ePure 1 (fPush 1 1 (.int 0)),
  ePure 2 (fLoadA 2 1 0),
  eGet 3 4 7,
  eGet 6 6 6,
  ePure 9 (fPush 9 1 (.int 1)),
  ePure 10 (fBin 10 o_isub),
  eCallV 11 2 47 4,
  ePure 14 (fIf1 14 19 b1_ne),
  ePure 17 (fPush 17 1 (.int 0)),
  eRetZ 18,
  ePure 19 (fLoadA 19 1 0),
  eGet 20 4 6,
  ePure 23 (fStoI 23 1 1 2),
  ePure 24 (fLoadA 24 1 0),
  ePure 25 (fPush 25 1 (.int 0)),
  ePure 26 (fLoadA 26 1 0),
  eGet 27 4 7,
  eGet 30 6 6,
  ePure 33 (fPush 33 1 (.int 1)),
  ePure 34 (fBin 34 o_isub),
  eCallV 35 2 47 4,
  ePure 38 (fIf1 38 43 b1_ne),
  ePure 41 (fPush 41 1 (.int 0)),
  eRetZ 42,
  ePure 43 (fLoadA 43 1 0),
  eGet 44 4 7,
  ePure 47 (fLoadI 47 1 1),
  ePure 48 (fLoadA 48 1 0),
  eGet 49 4 6,
  eCallV 52 2 66 6,
  ePure 55 (fPush 55 1 (.int 1)),
  eRetZ 56]
set_option maxRecDepth 100000 in
set_option maxHeartbeats 4000000 in
theorem ko_X4_readBar {l : Launch} {D : va_G} {cA : Nat → ClassId} {B : BB} {G : State → Prop} {md : Bool} {d : Nat} {call : Call} (hG : ∀ s, G s → Gs B s) (hok : COk l D cA B G md d mI call) : ∀ e ∈ k_X4_readBar md, EOk l RX4 cX4_readBar 2 (some .boolean) false D cA B G md d call e := by
  unfold k_X4_readBar
  refine al_cons (eok_pure (pr_aload_n dX4_readBar_0 rfl)) ?_
  refine al_cons (eok_pure (pr_iconst dX4_readBar_1 (by decide))) ?_
  refine al_cons (eok_pure (pr_aload_n dX4_readBar_2 rfl)) ?_
  refine al_cons (ok_get cl_X4 gX4 (by decide) w_114 dX4_readBar_3) ?_
  refine al_cons (ok_get cl_X6 gX6 (by decide) w_177 dX4_readBar_6) ?_
  refine al_cons (eok_pure (pr_iconst dX4_readBar_9 (by decide))) ?_
  refine al_cons (eok_pure (pr_isub dX4_readBar_10)) ?_
  refine al_cons (ok_callV hok mi_47 cl_X4 w_543 w_545 w_6 w_73 w_546 na_47 (by decide) dX4_readBar_11) ?_
  refine al_cons (eok_pure (pr_if_ne dX4_readBar_14 (by decide))) ?_
  refine al_cons (eok_pure (pr_iconst dX4_readBar_17 (by decide))) ?_
  refine al_cons (ok_retZ rfl dX4_readBar_18) ?_
  refine al_cons (eok_pure (pr_aload_n dX4_readBar_19 rfl)) ?_
  refine al_cons (ok_get cl_X4 gX4 (by decide) w_113 dX4_readBar_20) ?_
  refine al_cons (eok_pure (pr_istore_n dX4_readBar_23 rfl)) ?_
  refine al_cons (eok_pure (pr_aload_n dX4_readBar_24 rfl)) ?_
  refine al_cons (eok_pure (pr_iconst dX4_readBar_25 (by decide))) ?_
  refine al_cons (eok_pure (pr_aload_n dX4_readBar_26 rfl)) ?_
  refine al_cons (ok_get cl_X4 gX4 (by decide) w_114 dX4_readBar_27) ?_
  refine al_cons (ok_get cl_X6 gX6 (by decide) w_177 dX4_readBar_30) ?_
  refine al_cons (eok_pure (pr_iconst dX4_readBar_33 (by decide))) ?_
  refine al_cons (eok_pure (pr_isub dX4_readBar_34)) ?_
  refine al_cons (ok_callV hok mi_47 cl_X4 w_543 w_545 w_6 w_73 w_546 na_47 (by decide) dX4_readBar_35) ?_
  refine al_cons (eok_pure (pr_if_ne dX4_readBar_38 (by decide))) ?_
  refine al_cons (eok_pure (pr_iconst dX4_readBar_41 (by decide))) ?_
  refine al_cons (ok_retZ rfl dX4_readBar_42) ?_
  refine al_cons (eok_pure (pr_aload_n dX4_readBar_43 rfl)) ?_
  refine al_cons (ok_get cl_X4 gX4 (by decide) w_114 dX4_readBar_44) ?_
  refine al_cons (eok_pure (pr_iload_n dX4_readBar_47 rfl)) ?_
  refine al_cons (eok_pure (pr_aload_n dX4_readBar_48 rfl)) ?_
  refine al_cons (ok_get cl_X4 gX4 (by decide) w_113 dX4_readBar_49) ?_
  refine al_cons (ok_callV hok mi_66 cl_X6 w_576 w_577 w_578 w_74 w_579 na_66 (by decide) dX4_readBar_52) ?_
  refine al_cons (eok_pure (pr_iconst dX4_readBar_55 (by decide))) ?_
  refine al_cons (ok_retZ rfl dX4_readBar_56) ?_
  exact al_nil
def k_X4_readLast (md : Bool) : List Ent := [ePure 0 (fLoadA 0 1 0),
  ePure 1 (fPush 1 1 (.int 0)),
  ePure 2 (fLoadA 2 1 0),
  eGet 3 4 7,
  eGet 6 6 1,
  ePure 9 (fPush 9 1 (.int 1)),
  ePure 10 (fBin 10 o_isub),
  eCallV 11 2 47 4,
  ePure 14 (fIf1 14 19 b1_ne),
  ePure 17 (fPush 17 1 (.int 0)),
  eRetZ 18,
  ePure 19 (fLoadA 19 1 0),
  eGet 20 4 6,
  ePure 23 (fStoI 23 1 1 2),
  ePure 24 (fLoadA 24 1 0),
  ePure 25 (fPush 25 1 (.int 0)),
  ePure 26 (fLoadA 26 1 0),
  eGet 27 4 7,
  eGet 30 6 6,
  ePure 33 (fPush 33 1 (.int 1)),
  ePure 34 (fBin 34 o_isub),
  eCallV 35 2 47 4,
  ePure 38 (fIf1 38 43 b1_ne),
  ePure 41 (fPush 41 1 (.int 0)),
  eRetZ 42,
  ePure 43 (fLoadA 43 1 0),
  eGet 44 4 7,
  eGet 47 6 5,
  ePure 50 (fLoadI 50 1 1),
  ePure 51 (fLoadA 51 1 0),
  eGet 52 4 6,
  eIast 55 0 (fun x => x),
  ePure 56 (fPush 56 1 (.int 1)),
  eRetZ 57]
set_option maxRecDepth 100000 in
set_option maxHeartbeats 4000000 in
theorem ko_X4_readLast {l : Launch} {D : va_G} {cA : Nat → ClassId} {B : BB} {G : State → Prop} {md : Bool} {d : Nat} {call : Call} (hG : ∀ s, G s → Gs B s) (hok : COk l D cA B G md d mI call) : ∀ e ∈ k_X4_readLast md, EOk l RX4 cX4_readLast 2 (some .boolean) false D cA B G md d call e := by
  unfold k_X4_readLast
  refine al_cons (eok_pure (pr_aload_n dX4_readLast_0 rfl)) ?_
  refine al_cons (eok_pure (pr_iconst dX4_readLast_1 (by decide))) ?_
  refine al_cons (eok_pure (pr_aload_n dX4_readLast_2 rfl)) ?_
  refine al_cons (ok_get cl_X4 gX4 (by decide) w_114 dX4_readLast_3) ?_
  refine al_cons (ok_get cl_X6 gX6 (by decide) w_158 dX4_readLast_6) ?_
  refine al_cons (eok_pure (pr_iconst dX4_readLast_9 (by decide))) ?_
  refine al_cons (eok_pure (pr_isub dX4_readLast_10)) ?_
  refine al_cons (ok_callV hok mi_47 cl_X4 w_543 w_545 w_6 w_73 w_546 na_47 (by decide) dX4_readLast_11) ?_
  refine al_cons (eok_pure (pr_if_ne dX4_readLast_14 (by decide))) ?_
  refine al_cons (eok_pure (pr_iconst dX4_readLast_17 (by decide))) ?_
  refine al_cons (ok_retZ rfl dX4_readLast_18) ?_
  refine al_cons (eok_pure (pr_aload_n dX4_readLast_19 rfl)) ?_
  refine al_cons (ok_get cl_X4 gX4 (by decide) w_113 dX4_readLast_20) ?_
  refine al_cons (eok_pure (pr_istore_n dX4_readLast_23 rfl)) ?_
  refine al_cons (eok_pure (pr_aload_n dX4_readLast_24 rfl)) ?_
  refine al_cons (eok_pure (pr_iconst dX4_readLast_25 (by decide))) ?_
  refine al_cons (eok_pure (pr_aload_n dX4_readLast_26 rfl)) ?_
  refine al_cons (ok_get cl_X4 gX4 (by decide) w_114 dX4_readLast_27) ?_
  refine al_cons (ok_get cl_X6 gX6 (by decide) w_177 dX4_readLast_30) ?_
  refine al_cons (eok_pure (pr_iconst dX4_readLast_33 (by decide))) ?_
  refine al_cons (eok_pure (pr_isub dX4_readLast_34)) ?_
  refine al_cons (ok_callV hok mi_47 cl_X4 w_543 w_545 w_6 w_73 w_546 na_47 (by decide) dX4_readLast_35) ?_
  refine al_cons (eok_pure (pr_if_ne dX4_readLast_38 (by decide))) ?_
  refine al_cons (eok_pure (pr_iconst dX4_readLast_41 (by decide))) ?_
  refine al_cons (ok_retZ rfl dX4_readLast_42) ?_
  refine al_cons (eok_pure (pr_aload_n dX4_readLast_43 rfl)) ?_
  refine al_cons (ok_get cl_X4 gX4 (by decide) w_114 dX4_readLast_44) ?_
  refine al_cons (ok_get cl_X6 gX6 (by decide) w_174 dX4_readLast_47) ?_
  refine al_cons (eok_pure (pr_iload_n dX4_readLast_50 rfl)) ?_
  refine al_cons (eok_pure (pr_aload_n dX4_readLast_51 rfl)) ?_
  refine al_cons (ok_get cl_X4 gX4 (by decide) w_113 dX4_readLast_52) ?_
  refine al_cons (ok_iast dX4_readLast_55) ?_
  refine al_cons (eok_pure (pr_iconst dX4_readLast_56 (by decide))) ?_
  refine al_cons (ok_retZ rfl dX4_readLast_57) ?_
  exact al_nil
def k_X4_readDrop (md : Bool) : List Ent := [ePure 0 (fLoadA 0 1 0),
  ePure 1 (fPush 1 1 (.int 0)),
  ePure 2 (fLoadA 2 1 0),
  eGet 3 4 7,
  eGet 6 6 6,
  ePure 9 (fPush 9 1 (.int 1)),
  ePure 10 (fBin 10 o_isub),
  eCallV 11 2 47 4,
  ePure 14 (fIf1 14 19 b1_ne),
  ePure 17 (fPush 17 1 (.int 0)),
  eRetZ 18,
  ePure 19 (fLoadA 19 1 0),
  eGet 20 4 7,
  eGet 23 6 10,
  ePure 26 (fLoadA 26 1 0),
  eGet 27 4 7,
  eGet 30 6 9,
  ePure 33 (fLoadA 33 1 0),
  eGet 34 4 6,
  eIast 37 0 (fun x => x),
  ePure 38 (fLoadA 38 1 0),
  ePure 39 (fPush 39 1 (.int 1)),
  ePure 40 (fPush 40 3 (.int 4995)),
  eCallV 43 2 47 4,
  ePure 46 (fIf1 46 51 b1_ne),
  ePure 49 (fPush 49 1 (.int 0)),
  eRetZ 50,
  ePure 51 (fLoadA 51 1 0),
  eGet 52 4 7,
  eGet 55 6 11,
  ePure 58 (fLoadA 58 1 0),
  eGet 59 4 7,
  eGet 62 6 9,
  ePure 65 (fLoadA 65 1 0),
  eGet 66 4 6,
  eIast 69 0 (fun x => x),
  ePure 70 (fLoadA 70 1 0),
  eGet 71 4 7,
  ePure 74 (fDup 74),
  eGet 75 6 9,
  ePure 78 (fPush 78 1 (.int 1)),
  ePure 79 (fBin 79 o_iadd),
  ePut 80 6 9 kInt,
  ePure 83 (fPush 83 1 (.int 1)),
  eRetZ 84]
set_option maxRecDepth 100000 in
set_option maxHeartbeats 4000000 in
theorem ko_X4_readDrop {l : Launch} {D : va_G} {cA : Nat → ClassId} {B : BB} {G : State → Prop} {md : Bool} {d : Nat} {call : Call} (hG : ∀ s, G s → Gs B s) (hok : COk l D cA B G md d mI call) : ∀ e ∈ k_X4_readDrop md, EOk l RX4 cX4_readDrop 1 (some .boolean) false D cA B G md d call e := by
  unfold k_X4_readDrop
  refine al_cons (eok_pure (pr_aload_n dX4_readDrop_0 rfl)) ?_
  refine al_cons (eok_pure (pr_iconst dX4_readDrop_1 (by decide))) ?_
  refine al_cons (eok_pure (pr_aload_n dX4_readDrop_2 rfl)) ?_
  refine al_cons (ok_get cl_X4 gX4 (by decide) w_114 dX4_readDrop_3) ?_
  refine al_cons (ok_get cl_X6 gX6 (by decide) w_177 dX4_readDrop_6) ?_
  refine al_cons (eok_pure (pr_iconst dX4_readDrop_9 (by decide))) ?_
  refine al_cons (eok_pure (pr_isub dX4_readDrop_10)) ?_
  refine al_cons (ok_callV hok mi_47 cl_X4 w_543 w_545 w_6 w_73 w_546 na_47 (by decide) dX4_readDrop_11) ?_
  refine al_cons (eok_pure (pr_if_ne dX4_readDrop_14 (by decide))) ?_
  refine al_cons (eok_pure (pr_iconst dX4_readDrop_17 (by decide))) ?_
  refine al_cons (ok_retZ rfl dX4_readDrop_18) ?_
  refine al_cons (eok_pure (pr_aload_n dX4_readDrop_19 rfl)) ?_
  refine al_cons (ok_get cl_X4 gX4 (by decide) w_114 dX4_readDrop_20) ?_
  refine al_cons (ok_get cl_X6 gX6 (by decide) w_189 dX4_readDrop_23) ?_
  refine al_cons (eok_pure (pr_aload_n dX4_readDrop_26 rfl)) ?_
  refine al_cons (ok_get cl_X4 gX4 (by decide) w_114 dX4_readDrop_27) ?_
  refine al_cons (ok_get cl_X6 gX6 (by decide) w_185 dX4_readDrop_30) ?_
  refine al_cons (eok_pure (pr_aload_n dX4_readDrop_33 rfl)) ?_
  refine al_cons (ok_get cl_X4 gX4 (by decide) w_113 dX4_readDrop_34) ?_
  refine al_cons (ok_iast dX4_readDrop_37) ?_
  refine al_cons (eok_pure (pr_aload_n dX4_readDrop_38 rfl)) ?_
  refine al_cons (eok_pure (pr_iconst dX4_readDrop_39 (by decide))) ?_
  refine al_cons (eok_pure (pr_sipush dX4_readDrop_40 (by decide))) ?_
  refine al_cons (ok_callV hok mi_47 cl_X4 w_543 w_545 w_6 w_73 w_546 na_47 (by decide) dX4_readDrop_43) ?_
  refine al_cons (eok_pure (pr_if_ne dX4_readDrop_46 (by decide))) ?_
  refine al_cons (eok_pure (pr_iconst dX4_readDrop_49 (by decide))) ?_
  refine al_cons (ok_retZ rfl dX4_readDrop_50) ?_
  refine al_cons (eok_pure (pr_aload_n dX4_readDrop_51 rfl)) ?_
  refine al_cons (ok_get cl_X4 gX4 (by decide) w_114 dX4_readDrop_52) ?_
  refine al_cons (ok_get cl_X6 gX6 (by decide) w_195 dX4_readDrop_55) ?_
  refine al_cons (eok_pure (pr_aload_n dX4_readDrop_58 rfl)) ?_
  refine al_cons (ok_get cl_X4 gX4 (by decide) w_114 dX4_readDrop_59) ?_
  refine al_cons (ok_get cl_X6 gX6 (by decide) w_185 dX4_readDrop_62) ?_
  refine al_cons (eok_pure (pr_aload_n dX4_readDrop_65 rfl)) ?_
  refine al_cons (ok_get cl_X4 gX4 (by decide) w_113 dX4_readDrop_66) ?_
  refine al_cons (ok_iast dX4_readDrop_69) ?_
  refine al_cons (eok_pure (pr_aload_n dX4_readDrop_70 rfl)) ?_
  refine al_cons (ok_get cl_X4 gX4 (by decide) w_114 dX4_readDrop_71) ?_
  refine al_cons (eok_pure (pr_dup dX4_readDrop_74)) ?_
  refine al_cons (ok_get cl_X6 gX6 (by decide) w_185 dX4_readDrop_75) ?_
  refine al_cons (eok_pure (pr_iconst dX4_readDrop_78 (by decide))) ?_
  refine al_cons (eok_pure (pr_iadd dX4_readDrop_79)) ?_
  refine al_cons (ok_put cl_X6 gX6 tyX6_ok nmX6 (by decide) w_185 rfl (by decide +kernel) (kok_int B) dX4_readDrop_80) ?_
  refine al_cons (eok_pure (pr_iconst dX4_readDrop_83 (by decide))) ?_
  refine al_cons (ok_retZ rfl dX4_readDrop_84) ?_
  exact al_nil
def k_X4_readNumber (md : Bool) : List Ent := [ePure 0 (fLoadA 0 1 0),
  eCallV 1 0 49 4,
  ePure 4 (fLoadA 4 1 0),
  eGet 5 4 4,
  ePure 8 (fPush 8 1 (.int 2)),
  ePure 9 (fIf2 9 18 b2_eq),
  ePure 12 (fLoadA 12 1 0),
  ePure 13 (fPush 13 1 (.int 1)),
  eCallV 14 1 37 4,
  eRetZ 17,
  ePure 18 (fLoadA 18 1 0),
  eGet 19 4 6,
  ePure 22 (fLoadI 22 1 1),
  ePure 23 (fIf2 23 34 b2_lt),
  ePure 26 (fLoadA 26 1 0),
  eGet 27 4 6,
  ePure 30 (fLoadI 30 1 2),
  ePure 31 (fIf2 31 42 b2_le),
  ePure 34 (fLoadA 34 1 0),
  ePure 35 (fPush 35 1 (.int 2)),
  eCallV 36 1 37 4,
  ePure 39 (fIf1 39 46 b1_eq),
  ePure 42 (fPush 42 1 (.int 1)),
  ePure 43 (fGoto 47),
  ePure 46 (fPush 46 1 (.int 0)),
  eRetZ 47]
set_option maxRecDepth 100000 in
set_option maxHeartbeats 4000000 in
theorem ko_X4_readNumber {l : Launch} {D : va_G} {cA : Nat → ClassId} {B : BB} {G : State → Prop} {md : Bool} {d : Nat} {call : Call} (hG : ∀ s, G s → Gs B s) (hok : COk l D cA B G md d mI call) : ∀ e ∈ k_X4_readNumber md, EOk l RX4 cX4_readNumber 3 (some .boolean) false D cA B G md d call e := by
  unfold k_X4_readNumber
  refine al_cons (eok_pure (pr_aload_n dX4_readNumber_0 rfl)) ?_
  refine al_cons (ok_callV hok mi_49 cl_X4 w_464 w_466 w_1 w_73 w_467 na_49 (by decide) dX4_readNumber_1) ?_
  refine al_cons (eok_pure (pr_aload_n dX4_readNumber_4 rfl)) ?_
  refine al_cons (ok_get cl_X4 gX4 (by decide) w_111 dX4_readNumber_5) ?_
  refine al_cons (eok_pure (pr_iconst dX4_readNumber_8 (by decide))) ?_
  refine al_cons (eok_pure (pr_icmp_eq dX4_readNumber_9 (by decide))) ?_
  refine al_cons (eok_pure (pr_aload_n dX4_readNumber_12 rfl)) ?_
  refine al_cons (eok_pure (pr_iconst dX4_readNumber_13 (by decide))) ?_
  refine al_cons (ok_callV hok mi_37 cl_X4 w_535 w_537 w_5 w_73 w_538 na_37 (by decide) dX4_readNumber_14) ?_
  refine al_cons (ok_retZ rfl dX4_readNumber_17) ?_
  refine al_cons (eok_pure (pr_aload_n dX4_readNumber_18 rfl)) ?_
  refine al_cons (ok_get cl_X4 gX4 (by decide) w_113 dX4_readNumber_19) ?_
  refine al_cons (eok_pure (pr_iload_n dX4_readNumber_22 rfl)) ?_
  refine al_cons (eok_pure (pr_icmp_lt dX4_readNumber_23 (by decide))) ?_
  refine al_cons (eok_pure (pr_aload_n dX4_readNumber_26 rfl)) ?_
  refine al_cons (ok_get cl_X4 gX4 (by decide) w_113 dX4_readNumber_27) ?_
  refine al_cons (eok_pure (pr_iload_n dX4_readNumber_30 rfl)) ?_
  refine al_cons (eok_pure (pr_icmp_le dX4_readNumber_31 (by decide))) ?_
  refine al_cons (eok_pure (pr_aload_n dX4_readNumber_34 rfl)) ?_
  refine al_cons (eok_pure (pr_iconst dX4_readNumber_35 (by decide))) ?_
  refine al_cons (ok_callV hok mi_37 cl_X4 w_535 w_537 w_5 w_73 w_538 na_37 (by decide) dX4_readNumber_36) ?_
  refine al_cons (eok_pure (pr_if_eq dX4_readNumber_39 (by decide))) ?_
  refine al_cons (eok_pure (pr_iconst dX4_readNumber_42 (by decide))) ?_
  refine al_cons (eok_pure (pr_goto dX4_readNumber_43 (by decide))) ?_
  refine al_cons (eok_pure (pr_iconst dX4_readNumber_46 (by decide))) ?_
  refine al_cons (ok_retZ rfl dX4_readNumber_47) ?_
  exact al_nil
def k_X4_isWord (md : Bool) : List Ent := [ePure 0 (fLoadA 0 1 0),
  eGet 1 4 4,
  ePure 4 (fPush 4 1 (.int 1)),
  ePure 5 (fIf2 5 24 b2_ne),
  ePure 8 (fLoadA 8 1 0),
  eGet 9 4 3,
  ePure 12 (fLoadA 12 1 0),
  eGet 13 4 5,
  ePure 16 (fBin 16 o_isub),
  ePure 17 (fLoadA 17 1 1),
  eCallT 18 0 167,
  ePure 21 (fIf2 21 26 b2_eq),
  ePure 24 (fPush 24 1 (.int 0)),
  eRetZ 25,
  ePure 26 (fPush 26 1 (.int 0)),
  ePure 27 (fStoI 27 1 2 3),
  ePure 28 (fLoadI 28 1 2),
  ePure 29 (fLoadA 29 1 1),
  eCallT 30 0 167,
  ePure 33 (fIf2 33 63 b2_ge),
  ePure 36 (fLoadA 36 1 0),
  eGet 37 4 1,
  ePure 40 (fLoadA 40 1 0),
  eGet 41 4 5,
  ePure 44 (fLoadI 44 1 2),
  ePure 45 (fBin 45 o_iadd),
  eIald 46 1,
  ePure 47 (fLoadA 47 1 1),
  ePure 48 (fLoadI 48 1 2),
  eCallT 49 1 169,
  ePure 52 (fIf2 52 57 b2_eq),
  ePure 55 (fPush 55 1 (.int 0)),
  eRetZ 56,
  ePure 57 (fInc 57 2 3 1),
  ePure 60 (fGoto 28),
  ePure 63 (fPush 63 1 (.int 1)),
  eRetZ 64]
set_option maxRecDepth 100000 in
set_option maxHeartbeats 4000000 in
theorem ko_X4_isWord {l : Launch} {D : va_G} {cA : Nat → ClassId} {B : BB} {G : State → Prop} {md : Bool} {d : Nat} {call : Call} (hG : ∀ s, G s → Gs B s) (hok : COk l D cA B G md d mI call) : ∀ e ∈ k_X4_isWord md, EOk l RX4 cX4_isWord 3 (some .boolean) false D cA B G md d call e := by
  unfold k_X4_isWord
  refine al_cons (eok_pure (pr_aload_n dX4_isWord_0 rfl)) ?_
  refine al_cons (ok_get cl_X4 gX4 (by decide) w_111 dX4_isWord_1) ?_
  refine al_cons (eok_pure (pr_iconst dX4_isWord_4 (by decide))) ?_
  refine al_cons (eok_pure (pr_icmp_ne dX4_isWord_5 (by decide))) ?_
  refine al_cons (eok_pure (pr_aload_n dX4_isWord_8 rfl)) ?_
  refine al_cons (ok_get cl_X4 gX4 (by decide) w_110 dX4_isWord_9) ?_
  refine al_cons (eok_pure (pr_aload_n dX4_isWord_12 rfl)) ?_
  refine al_cons (ok_get cl_X4 gX4 (by decide) w_112 dX4_isWord_13) ?_
  refine al_cons (eok_pure (pr_isub dX4_isWord_16)) ?_
  refine al_cons (eok_pure (pr_aload_n dX4_isWord_17 rfl)) ?_
  refine al_cons (ok_callT hG hok mi_167 w_487 w_488 w_489 w_83 w_490 na_167 (by decide) dX4_isWord_18) ?_
  refine al_cons (eok_pure (pr_icmp_eq dX4_isWord_21 (by decide))) ?_
  refine al_cons (eok_pure (pr_iconst dX4_isWord_24 (by decide))) ?_
  refine al_cons (ok_retZ rfl dX4_isWord_25) ?_
  refine al_cons (eok_pure (pr_iconst dX4_isWord_26 (by decide))) ?_
  refine al_cons (eok_pure (pr_istore_n dX4_isWord_27 rfl)) ?_
  refine al_cons (eok_pure (pr_iload_n dX4_isWord_28 rfl)) ?_
  refine al_cons (eok_pure (pr_aload_n dX4_isWord_29 rfl)) ?_
  refine al_cons (ok_callT hG hok mi_167 w_487 w_488 w_489 w_83 w_490 na_167 (by decide) dX4_isWord_30) ?_
  refine al_cons (eok_pure (pr_icmp_ge dX4_isWord_33 (by decide))) ?_
  refine al_cons (eok_pure (pr_aload_n dX4_isWord_36 rfl)) ?_
  refine al_cons (ok_get cl_X4 gX4 (by decide) w_108 dX4_isWord_37) ?_
  refine al_cons (eok_pure (pr_aload_n dX4_isWord_40 rfl)) ?_
  refine al_cons (ok_get cl_X4 gX4 (by decide) w_112 dX4_isWord_41) ?_
  refine al_cons (eok_pure (pr_iload_n dX4_isWord_44 rfl)) ?_
  refine al_cons (eok_pure (pr_iadd dX4_isWord_45)) ?_
  refine al_cons (ok_bald dX4_isWord_46) ?_
  refine al_cons (eok_pure (pr_aload_n dX4_isWord_47 rfl)) ?_
  refine al_cons (eok_pure (pr_iload_n dX4_isWord_48 rfl)) ?_
  refine al_cons (ok_callT hG hok mi_169 w_497 w_498 w_499 w_83 w_500 na_169 (by decide) dX4_isWord_49) ?_
  refine al_cons (eok_pure (pr_icmp_eq dX4_isWord_52 (by decide))) ?_
  refine al_cons (eok_pure (pr_iconst dX4_isWord_55 (by decide))) ?_
  refine al_cons (ok_retZ rfl dX4_isWord_56) ?_
  refine al_cons (eok_pure (pr_iinc dX4_isWord_57 (by decide))) ?_
  refine al_cons (eok_pure (pr_goto dX4_isWord_60 (by decide))) ?_
  refine al_cons (eok_pure (pr_iconst dX4_isWord_63 (by decide))) ?_
  refine al_cons (ok_retZ rfl dX4_isWord_64) ?_
  exact al_nil
def k_X4_advance (md : Bool) : List Ent := [ePure 0 (fLoadA 0 1 0),
  eGet 1 4 3,
  ePure 4 (fLoadA 4 1 0),
  eGet 5 4 2,
  ePure 8 (fIf2 8 52 b2_ge),
  ePure 11 (fLoadA 11 1 0),
  eGet 12 4 1,
  ePure 15 (fLoadA 15 1 0),
  eGet 16 4 3,
  eIald 19 1,
  ePure 20 (fPush 20 2 (.int 32)),
  ePure 22 (fIf2 22 39 b2_eq),
  ePure 25 (fLoadA 25 1 0),
  eGet 26 4 1,
  ePure 29 (fLoadA 29 1 0),
  eGet 30 4 3,
  eIald 33 1,
  ePure 34 (fPush 34 2 (.int 10)),
  ePure 36 (fIf2 36 52 b2_ne),
  ePure 39 (fLoadA 39 1 0),
  ePure 40 (fDup 40),
  eGet 41 4 3,
  ePure 44 (fPush 44 1 (.int 1)),
  ePure 45 (fBin 45 o_iadd),
  ePut 46 4 3 kInt,
  ePure 49 (fGoto 0),
  ePure 52 (fLoadA 52 1 0),
  ePure 53 (fLoadA 53 1 0),
  eGet 54 4 3,
  ePut 57 4 5 kInt,
  ePure 60 (fLoadA 60 1 0),
  eGet 61 4 2,
  ePure 64 (fPush 64 3 (.int 700)),
  ePure 67 (fIf2 67 95 b2_le),
  ePure 70 (fLoadA 70 1 0),
  eGet 71 4 3,
  ePure 74 (fPush 74 3 (.int 700)),
  ePure 77 (fIf2 77 95 b2_lt),
  ePure 80 (fLoadA 80 1 0),
  ePure 81 (fPush 81 3 (.int 700)),
  ePut 84 4 5 kInt,
  ePure 87 (fLoadA 87 1 0),
  ePure 88 (fPush 88 1 (.int 0)),
  ePut 89 4 4 kInt,
  ePure 92 (fGoto 150),
  ePure 95 (fLoadA 95 1 0),
  eGet 96 4 3,
  ePure 99 (fLoadA 99 1 0),
  eGet 100 4 2,
  ePure 103 (fIf2 103 114 b2_lt),
  ePure 106 (fLoadA 106 1 0),
  ePure 107 (fPush 107 1 (.int 4)),
  ePut 108 4 4 kInt,
  ePure 111 (fGoto 150),
  ePure 114 (fLoadA 114 1 0),
  eGet 115 4 1,
  ePure 118 (fLoadA 118 1 0),
  eGet 119 4 3,
  eIald 122 1,
  ePure 123 (fPush 123 2 (.int 59)),
  ePure 125 (fIf2 125 146 b2_ne),
  ePure 128 (fLoadA 128 1 0),
  ePure 129 (fDup 129),
  eGet 130 4 3,
  ePure 133 (fPush 133 1 (.int 1)),
  ePure 134 (fBin 134 o_iadd),
  ePut 135 4 3 kInt,
  ePure 138 (fLoadA 138 1 0),
  ePure 139 (fPush 139 1 (.int 3)),
  ePut 140 4 4 kInt,
  ePure 143 (fGoto 150),
  ePure 146 (fLoadA 146 1 0),
  eCallV 147 0 50 4,
  eRetV 150]
set_option maxRecDepth 100000 in
set_option maxHeartbeats 4000000 in
theorem ko_X4_advance {l : Launch} {D : va_G} {cA : Nat → ClassId} {B : BB} {G : State → Prop} {md : Bool} {d : Nat} {call : Call} (hG : ∀ s, G s → Gs B s) (hok : COk l D cA B G md d mI call) : ∀ e ∈ k_X4_advance md, EOk l RX4 cX4_advance 1 none false D cA B G md d call e := by
  unfold k_X4_advance
  refine al_cons (eok_pure (pr_aload_n dX4_advance_0 rfl)) ?_
  refine al_cons (ok_get cl_X4 gX4 (by decide) w_110 dX4_advance_1) ?_
  refine al_cons (eok_pure (pr_aload_n dX4_advance_4 rfl)) ?_
  refine al_cons (ok_get cl_X4 gX4 (by decide) w_109 dX4_advance_5) ?_
  refine al_cons (eok_pure (pr_icmp_ge dX4_advance_8 (by decide))) ?_
  refine al_cons (eok_pure (pr_aload_n dX4_advance_11 rfl)) ?_
  refine al_cons (ok_get cl_X4 gX4 (by decide) w_108 dX4_advance_12) ?_
  refine al_cons (eok_pure (pr_aload_n dX4_advance_15 rfl)) ?_
  refine al_cons (ok_get cl_X4 gX4 (by decide) w_110 dX4_advance_16) ?_
  refine al_cons (ok_bald dX4_advance_19) ?_
  refine al_cons (eok_pure (pr_bipush dX4_advance_20 (by decide))) ?_
  refine al_cons (eok_pure (pr_icmp_eq dX4_advance_22 (by decide))) ?_
  refine al_cons (eok_pure (pr_aload_n dX4_advance_25 rfl)) ?_
  refine al_cons (ok_get cl_X4 gX4 (by decide) w_108 dX4_advance_26) ?_
  refine al_cons (eok_pure (pr_aload_n dX4_advance_29 rfl)) ?_
  refine al_cons (ok_get cl_X4 gX4 (by decide) w_110 dX4_advance_30) ?_
  refine al_cons (ok_bald dX4_advance_33) ?_
  refine al_cons (eok_pure (pr_bipush dX4_advance_34 (by decide))) ?_
  refine al_cons (eok_pure (pr_icmp_ne dX4_advance_36 (by decide))) ?_
  refine al_cons (eok_pure (pr_aload_n dX4_advance_39 rfl)) ?_
  refine al_cons (eok_pure (pr_dup dX4_advance_40)) ?_
  refine al_cons (ok_get cl_X4 gX4 (by decide) w_110 dX4_advance_41) ?_
  refine al_cons (eok_pure (pr_iconst dX4_advance_44 (by decide))) ?_
  refine al_cons (eok_pure (pr_iadd dX4_advance_45)) ?_
  refine al_cons (ok_put cl_X4 gX4 tyX4_ok nmX4 (by decide) w_110 rfl (by decide +kernel) (kok_int B) dX4_advance_46) ?_
  refine al_cons (eok_pure (pr_goto dX4_advance_49 (by decide))) ?_
  refine al_cons (eok_pure (pr_aload_n dX4_advance_52 rfl)) ?_
  refine al_cons (eok_pure (pr_aload_n dX4_advance_53 rfl)) ?_
  refine al_cons (ok_get cl_X4 gX4 (by decide) w_110 dX4_advance_54) ?_
  refine al_cons (ok_put cl_X4 gX4 tyX4_ok nmX4 (by decide) w_112 rfl (by decide +kernel) (kok_int B) dX4_advance_57) ?_
  refine al_cons (eok_pure (pr_aload_n dX4_advance_60 rfl)) ?_
  refine al_cons (ok_get cl_X4 gX4 (by decide) w_109 dX4_advance_61) ?_
  refine al_cons (eok_pure (pr_sipush dX4_advance_64 (by decide))) ?_
  refine al_cons (eok_pure (pr_icmp_le dX4_advance_67 (by decide))) ?_
  refine al_cons (eok_pure (pr_aload_n dX4_advance_70 rfl)) ?_
  refine al_cons (ok_get cl_X4 gX4 (by decide) w_110 dX4_advance_71) ?_
  refine al_cons (eok_pure (pr_sipush dX4_advance_74 (by decide))) ?_
  refine al_cons (eok_pure (pr_icmp_lt dX4_advance_77 (by decide))) ?_
  refine al_cons (eok_pure (pr_aload_n dX4_advance_80 rfl)) ?_
  refine al_cons (eok_pure (pr_sipush dX4_advance_81 (by decide))) ?_
  refine al_cons (ok_put cl_X4 gX4 tyX4_ok nmX4 (by decide) w_112 rfl (by decide +kernel) (kok_int B) dX4_advance_84) ?_
  refine al_cons (eok_pure (pr_aload_n dX4_advance_87 rfl)) ?_
  refine al_cons (eok_pure (pr_iconst dX4_advance_88 (by decide))) ?_
  refine al_cons (ok_put cl_X4 gX4 tyX4_ok nmX4 (by decide) w_111 rfl (by decide +kernel) (kok_int B) dX4_advance_89) ?_
  refine al_cons (eok_pure (pr_goto dX4_advance_92 (by decide))) ?_
  refine al_cons (eok_pure (pr_aload_n dX4_advance_95 rfl)) ?_
  refine al_cons (ok_get cl_X4 gX4 (by decide) w_110 dX4_advance_96) ?_
  refine al_cons (eok_pure (pr_aload_n dX4_advance_99 rfl)) ?_
  refine al_cons (ok_get cl_X4 gX4 (by decide) w_109 dX4_advance_100) ?_
  refine al_cons (eok_pure (pr_icmp_lt dX4_advance_103 (by decide))) ?_
  refine al_cons (eok_pure (pr_aload_n dX4_advance_106 rfl)) ?_
  refine al_cons (eok_pure (pr_iconst dX4_advance_107 (by decide))) ?_
  refine al_cons (ok_put cl_X4 gX4 tyX4_ok nmX4 (by decide) w_111 rfl (by decide +kernel) (kok_int B) dX4_advance_108) ?_
  refine al_cons (eok_pure (pr_goto dX4_advance_111 (by decide))) ?_
  refine al_cons (eok_pure (pr_aload_n dX4_advance_114 rfl)) ?_
  refine al_cons (ok_get cl_X4 gX4 (by decide) w_108 dX4_advance_115) ?_
  refine al_cons (eok_pure (pr_aload_n dX4_advance_118 rfl)) ?_
  refine al_cons (ok_get cl_X4 gX4 (by decide) w_110 dX4_advance_119) ?_
  refine al_cons (ok_bald dX4_advance_122) ?_
  refine al_cons (eok_pure (pr_bipush dX4_advance_123 (by decide))) ?_
  refine al_cons (eok_pure (pr_icmp_ne dX4_advance_125 (by decide))) ?_
  refine al_cons (eok_pure (pr_aload_n dX4_advance_128 rfl)) ?_
  refine al_cons (eok_pure (pr_dup dX4_advance_129)) ?_
  refine al_cons (ok_get cl_X4 gX4 (by decide) w_110 dX4_advance_130) ?_
  refine al_cons (eok_pure (pr_iconst dX4_advance_133 (by decide))) ?_
  refine al_cons (eok_pure (pr_iadd dX4_advance_134)) ?_
  refine al_cons (ok_put cl_X4 gX4 tyX4_ok nmX4 (by decide) w_110 rfl (by decide +kernel) (kok_int B) dX4_advance_135) ?_
  refine al_cons (eok_pure (pr_aload_n dX4_advance_138 rfl)) ?_
  refine al_cons (eok_pure (pr_iconst dX4_advance_139 (by decide))) ?_
  refine al_cons (ok_put cl_X4 gX4 tyX4_ok nmX4 (by decide) w_111 rfl (by decide +kernel) (kok_int B) dX4_advance_140) ?_
  refine al_cons (eok_pure (pr_goto dX4_advance_143 (by decide))) ?_
  refine al_cons (eok_pure (pr_aload_n dX4_advance_146 rfl)) ?_
  refine al_cons (ok_callV hok mi_50 cl_X4 w_468 w_470 w_2 w_73 w_471 na_50 (by decide) dX4_advance_147) ?_
  refine al_cons (ok_retV rfl dX4_advance_150) ?_
  exact al_nil
def k_X4_advanceRun (md : Bool) : List Ent := [ePure 0 (fPush 0 1 (.int 0)),
  ePure 1 (fStoI 1 1 1 3),
  ePure 2 (fLoadA 2 1 0),
  ePure 3 (fPush 3 1 (.int 0)),
  ePut 4 4 6 kInt,
  ePure 7 (fLoadA 7 1 0),
  eGet 8 4 3,
  ePure 11 (fLoadA 11 1 0),
  eGet 12 4 2,
  ePure 15 (fIf2 15 115 b2_ge),
  ePure 18 (fLoadA 18 1 0),
  eGet 19 4 1,
  ePure 22 (fLoadA 22 1 0),
  eGet 23 4 3,
  eIald 26 1,
  eCallS 27 1 51,
  ePure 30 (fIf1 30 48 b1_ne),
  ePure 33 (fLoadA 33 1 0),
  eGet 34 4 1,
  ePure 37 (fLoadA 37 1 0),
  eGet 38 4 3,
  eIald 41 1,
  eCallS 42 1 52,
  ePure 45 (fIf1 45 115 b1_eq),
  ePure 48 (fLoadA 48 1 0),
  eGet 49 4 1,
  ePure 52 (fLoadA 52 1 0),
  eGet 53 4 3,
  eIald 56 1,
  eCallS 57 1 52,
  ePure 60 (fIf1 60 102 b1_eq),
  ePure 63 (fInc 63 1 3 1),
  ePure 66 (fLoadA 66 1 0),
  ePure 67 (fLoadI 67 1 1),
  ePure 68 (fPush 68 1 (.int 4)),
  ePure 69 (fIf2 69 95 b2_gt),
  ePure 72 (fLoadA 72 1 0),
  eGet 73 4 6,
  ePure 76 (fPush 76 2 (.int 10)),
  ePure 78 (fBin 78 o_imul),
  ePure 79 (fLoadA 79 1 0),
  eGet 80 4 1,
  ePure 83 (fLoadA 83 1 0),
  eGet 84 4 3,
  eIald 87 1,
  ePure 88 (fBin 88 o_iadd),
  ePure 89 (fPush 89 2 (.int 48)),
  ePure 91 (fBin 91 o_isub),
  ePure 92 (fGoto 99),
  ePure 95 (fLoadA 95 1 0),
  eGet 96 4 6,
  ePut 99 4 6 kInt,
  ePure 102 (fLoadA 102 1 0),
  ePure 103 (fDup 103),
  eGet 104 4 3,
  ePure 107 (fPush 107 1 (.int 1)),
  ePure 108 (fBin 108 o_iadd),
  ePut 109 4 3 kInt,
  ePure 112 (fGoto 7),
  ePure 115 (fLoadA 115 1 0),
  eGet 116 4 3,
  ePure 119 (fLoadA 119 1 0),
  eGet 120 4 5,
  ePure 123 (fBin 123 o_isub),
  ePure 124 (fStoI 124 1 2 3),
  ePure 125 (fLoadI 125 1 2),
  ePure 126 (fIf1 126 141 b1_le),
  ePure 129 (fLoadI 129 1 1),
  ePure 130 (fIf1 130 141 b1_ne),
  ePure 133 (fLoadA 133 1 0),
  ePure 134 (fPush 134 1 (.int 1)),
  ePut 135 4 4 kInt,
  ePure 138 (fGoto 168),
  ePure 141 (fLoadI 141 1 2),
  ePure 142 (fIf1 142 163 b1_le),
  ePure 145 (fLoadI 145 1 2),
  ePure 146 (fPush 146 1 (.int 4)),
  ePure 147 (fIf2 147 163 b2_gt),
  ePure 150 (fLoadI 150 1 1),
  ePure 151 (fLoadI 151 1 2),
  ePure 152 (fIf2 152 163 b2_ne),
  ePure 155 (fLoadA 155 1 0),
  ePure 156 (fPush 156 1 (.int 2)),
  ePut 157 4 4 kInt,
  ePure 160 (fGoto 168),
  ePure 163 (fLoadA 163 1 0),
  ePure 164 (fPush 164 1 (.int 0)),
  ePut 165 4 4 kInt,
  eRetV 168]
set_option maxRecDepth 100000 in
set_option maxHeartbeats 4000000 in
theorem ko_X4_advanceRun {l : Launch} {D : va_G} {cA : Nat → ClassId} {B : BB} {G : State → Prop} {md : Bool} {d : Nat} {call : Call} (hG : ∀ s, G s → Gs B s) (hok : COk l D cA B G md d mI call) : ∀ e ∈ k_X4_advanceRun md, EOk l RX4 cX4_advanceRun 3 none false D cA B G md d call e := by
  unfold k_X4_advanceRun
  refine al_cons (eok_pure (pr_iconst dX4_advanceRun_0 (by decide))) ?_
  refine al_cons (eok_pure (pr_istore_n dX4_advanceRun_1 rfl)) ?_
  refine al_cons (eok_pure (pr_aload_n dX4_advanceRun_2 rfl)) ?_
  refine al_cons (eok_pure (pr_iconst dX4_advanceRun_3 (by decide))) ?_
  refine al_cons (ok_put cl_X4 gX4 tyX4_ok nmX4 (by decide) w_113 rfl (by decide +kernel) (kok_int B) dX4_advanceRun_4) ?_
  refine al_cons (eok_pure (pr_aload_n dX4_advanceRun_7 rfl)) ?_
  refine al_cons (ok_get cl_X4 gX4 (by decide) w_110 dX4_advanceRun_8) ?_
  refine al_cons (eok_pure (pr_aload_n dX4_advanceRun_11 rfl)) ?_
  refine al_cons (ok_get cl_X4 gX4 (by decide) w_109 dX4_advanceRun_12) ?_
  refine al_cons (eok_pure (pr_icmp_ge dX4_advanceRun_15 (by decide))) ?_
  refine al_cons (eok_pure (pr_aload_n dX4_advanceRun_18 rfl)) ?_
  refine al_cons (ok_get cl_X4 gX4 (by decide) w_108 dX4_advanceRun_19) ?_
  refine al_cons (eok_pure (pr_aload_n dX4_advanceRun_22 rfl)) ?_
  refine al_cons (ok_get cl_X4 gX4 (by decide) w_110 dX4_advanceRun_23) ?_
  refine al_cons (ok_bald dX4_advanceRun_26) ?_
  refine al_cons (ok_callS hok mi_51 w_472 w_473 w_73 w_474 na_51 (by decide) dX4_advanceRun_27) ?_
  refine al_cons (eok_pure (pr_if_ne dX4_advanceRun_30 (by decide))) ?_
  refine al_cons (eok_pure (pr_aload_n dX4_advanceRun_33 rfl)) ?_
  refine al_cons (ok_get cl_X4 gX4 (by decide) w_108 dX4_advanceRun_34) ?_
  refine al_cons (eok_pure (pr_aload_n dX4_advanceRun_37 rfl)) ?_
  refine al_cons (ok_get cl_X4 gX4 (by decide) w_110 dX4_advanceRun_38) ?_
  refine al_cons (ok_bald dX4_advanceRun_41) ?_
  refine al_cons (ok_callS hok mi_52 w_475 w_476 w_73 w_477 na_52 (by decide) dX4_advanceRun_42) ?_
  refine al_cons (eok_pure (pr_if_eq dX4_advanceRun_45 (by decide))) ?_
  refine al_cons (eok_pure (pr_aload_n dX4_advanceRun_48 rfl)) ?_
  refine al_cons (ok_get cl_X4 gX4 (by decide) w_108 dX4_advanceRun_49) ?_
  refine al_cons (eok_pure (pr_aload_n dX4_advanceRun_52 rfl)) ?_
  refine al_cons (ok_get cl_X4 gX4 (by decide) w_110 dX4_advanceRun_53) ?_
  refine al_cons (ok_bald dX4_advanceRun_56) ?_
  refine al_cons (ok_callS hok mi_52 w_475 w_476 w_73 w_477 na_52 (by decide) dX4_advanceRun_57) ?_
  refine al_cons (eok_pure (pr_if_eq dX4_advanceRun_60 (by decide))) ?_
  refine al_cons (eok_pure (pr_iinc dX4_advanceRun_63 (by decide))) ?_
  refine al_cons (eok_pure (pr_aload_n dX4_advanceRun_66 rfl)) ?_
  refine al_cons (eok_pure (pr_iload_n dX4_advanceRun_67 rfl)) ?_
  refine al_cons (eok_pure (pr_iconst dX4_advanceRun_68 (by decide))) ?_
  refine al_cons (eok_pure (pr_icmp_gt dX4_advanceRun_69 (by decide))) ?_
  refine al_cons (eok_pure (pr_aload_n dX4_advanceRun_72 rfl)) ?_
  refine al_cons (ok_get cl_X4 gX4 (by decide) w_113 dX4_advanceRun_73) ?_
  refine al_cons (eok_pure (pr_bipush dX4_advanceRun_76 (by decide))) ?_
  refine al_cons (eok_pure (pr_imul dX4_advanceRun_78)) ?_
  refine al_cons (eok_pure (pr_aload_n dX4_advanceRun_79 rfl)) ?_
  refine al_cons (ok_get cl_X4 gX4 (by decide) w_108 dX4_advanceRun_80) ?_
  refine al_cons (eok_pure (pr_aload_n dX4_advanceRun_83 rfl)) ?_
  refine al_cons (ok_get cl_X4 gX4 (by decide) w_110 dX4_advanceRun_84) ?_
  refine al_cons (ok_bald dX4_advanceRun_87) ?_
  refine al_cons (eok_pure (pr_iadd dX4_advanceRun_88)) ?_
  refine al_cons (eok_pure (pr_bipush dX4_advanceRun_89 (by decide))) ?_
  refine al_cons (eok_pure (pr_isub dX4_advanceRun_91)) ?_
  refine al_cons (eok_pure (pr_goto dX4_advanceRun_92 (by decide))) ?_
  refine al_cons (eok_pure (pr_aload_n dX4_advanceRun_95 rfl)) ?_
  refine al_cons (ok_get cl_X4 gX4 (by decide) w_113 dX4_advanceRun_96) ?_
  refine al_cons (ok_put cl_X4 gX4 tyX4_ok nmX4 (by decide) w_113 rfl (by decide +kernel) (kok_int B) dX4_advanceRun_99) ?_
  refine al_cons (eok_pure (pr_aload_n dX4_advanceRun_102 rfl)) ?_
  refine al_cons (eok_pure (pr_dup dX4_advanceRun_103)) ?_
  refine al_cons (ok_get cl_X4 gX4 (by decide) w_110 dX4_advanceRun_104) ?_
  refine al_cons (eok_pure (pr_iconst dX4_advanceRun_107 (by decide))) ?_
  refine al_cons (eok_pure (pr_iadd dX4_advanceRun_108)) ?_
  refine al_cons (ok_put cl_X4 gX4 tyX4_ok nmX4 (by decide) w_110 rfl (by decide +kernel) (kok_int B) dX4_advanceRun_109) ?_
  refine al_cons (eok_pure (pr_goto dX4_advanceRun_112 (by decide))) ?_
  refine al_cons (eok_pure (pr_aload_n dX4_advanceRun_115 rfl)) ?_
  refine al_cons (ok_get cl_X4 gX4 (by decide) w_110 dX4_advanceRun_116) ?_
  refine al_cons (eok_pure (pr_aload_n dX4_advanceRun_119 rfl)) ?_
  refine al_cons (ok_get cl_X4 gX4 (by decide) w_112 dX4_advanceRun_120) ?_
  refine al_cons (eok_pure (pr_isub dX4_advanceRun_123)) ?_
  refine al_cons (eok_pure (pr_istore_n dX4_advanceRun_124 rfl)) ?_
  refine al_cons (eok_pure (pr_iload_n dX4_advanceRun_125 rfl)) ?_
  refine al_cons (eok_pure (pr_if_le dX4_advanceRun_126 (by decide))) ?_
  refine al_cons (eok_pure (pr_iload_n dX4_advanceRun_129 rfl)) ?_
  refine al_cons (eok_pure (pr_if_ne dX4_advanceRun_130 (by decide))) ?_
  refine al_cons (eok_pure (pr_aload_n dX4_advanceRun_133 rfl)) ?_
  refine al_cons (eok_pure (pr_iconst dX4_advanceRun_134 (by decide))) ?_
  refine al_cons (ok_put cl_X4 gX4 tyX4_ok nmX4 (by decide) w_111 rfl (by decide +kernel) (kok_int B) dX4_advanceRun_135) ?_
  refine al_cons (eok_pure (pr_goto dX4_advanceRun_138 (by decide))) ?_
  refine al_cons (eok_pure (pr_iload_n dX4_advanceRun_141 rfl)) ?_
  refine al_cons (eok_pure (pr_if_le dX4_advanceRun_142 (by decide))) ?_
  refine al_cons (eok_pure (pr_iload_n dX4_advanceRun_145 rfl)) ?_
  refine al_cons (eok_pure (pr_iconst dX4_advanceRun_146 (by decide))) ?_
  refine al_cons (eok_pure (pr_icmp_gt dX4_advanceRun_147 (by decide))) ?_
  refine al_cons (eok_pure (pr_iload_n dX4_advanceRun_150 rfl)) ?_
  refine al_cons (eok_pure (pr_iload_n dX4_advanceRun_151 rfl)) ?_
  refine al_cons (eok_pure (pr_icmp_ne dX4_advanceRun_152 (by decide))) ?_
  refine al_cons (eok_pure (pr_aload_n dX4_advanceRun_155 rfl)) ?_
  refine al_cons (eok_pure (pr_iconst dX4_advanceRun_156 (by decide))) ?_
  refine al_cons (ok_put cl_X4 gX4 tyX4_ok nmX4 (by decide) w_111 rfl (by decide +kernel) (kok_int B) dX4_advanceRun_157) ?_
  refine al_cons (eok_pure (pr_goto dX4_advanceRun_160 (by decide))) ?_
  refine al_cons (eok_pure (pr_aload_n dX4_advanceRun_163 rfl)) ?_
  refine al_cons (eok_pure (pr_iconst dX4_advanceRun_164 (by decide))) ?_
  refine al_cons (ok_put cl_X4 gX4 tyX4_ok nmX4 (by decide) w_111 rfl (by decide +kernel) (kok_int B) dX4_advanceRun_165) ?_
  refine al_cons (ok_retV rfl dX4_advanceRun_168) ?_
  exact al_nil
