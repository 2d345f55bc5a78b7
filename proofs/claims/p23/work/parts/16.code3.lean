def k_X7_load (md : Bool) : List Ent := [ePure 0 (fLoadA 0 1 0),
  eGet 1 7 10,
  ePure 4 (fLoadA 4 1 0),
  eGet 5 7 4,
  ePure 8 (fLoadA 8 1 0),
  eGet 9 7 6,
  eCallV 12 2 25 3,
  ePure 15 (fIf1 15 21 b1_ne),
  ePure 18 (fPush 18 2 (.int (-2))),
  eRetI 20,
  ePure 21 (fLoadA 21 1 0),
  eGet 22 7 10,
  eGet 25 3 14,
  ePure 28 (fIf1 28 33 b1_ne),
  ePure 31 (fPush 31 1 (.int (-1))),
  eRetI 32,
  ePure 33 (fLoadA 33 1 0),
  eGet 34 7 7,
  ePure 37 (fLoadA 37 1 0),
  eGet 38 7 6,
  eCallV 41 1 15 1,
  ePure 44 (fPush 44 1 (.int 0)),
  ePure 45 (fStoI 45 1 1 3),
  ePure 46 (fLoadI 46 1 1),
  ePure 47 (fLoadA 47 1 0),
  eGet 48 7 4,
  eGet 51 6 1,
  ePure 54 (fIf2 54 118 b2_ge),
  ePure 57 (fLoadA 57 1 0),
  eGet 58 7 10,
  eGet 61 3 16,
  ePure 64 (fLoadI 64 1 1),
  eIald 65 0,
  ePure 66 (fStoI 66 1 2 3),
  ePure 67 (fLoadA 67 1 0),
  eGet 68 7 6,
  ePure 71 (fLoadI 71 1 2),
  eCallV 72 1 57 5,
  ePure 75 (fIf1 75 112 b1_eq),
  ePure 78 (fLoadA 78 1 0),
  eGet 79 7 6,
  eGet 82 5 0,
  ePure 85 (fLoadA 85 1 0),
  eGet 86 7 4,
  ePure 89 (fLoadI 89 1 1),
  ePure 90 (fLoadI 90 1 2),
  ePure 91 (fLoadA 91 1 0),
  eGet 92 7 4,
  eGet 95 6 10,
  ePure 98 (fLoadI 98 1 2),
  eIald 99 0,
  ePure 100 (fLoadA 100 1 0),
  eGet 101 7 10,
  eGet 104 3 17,
  ePure 107 (fLoadI 107 1 1),
  eIald 108 0,
  eCallV 109 5 3 0,
  ePure 112 (fInc 112 1 3 1),
  ePure 115 (fGoto 46),
  ePure 118 (fLoadA 118 1 0),
  eGet 119 7 10,
  eGet 122 3 14,
  eRetI 125]
set_option maxRecDepth 100000 in
set_option maxHeartbeats 4000000 in
theorem ko_X7_load {l : Launch} {D : va_G} {cA : Nat → ClassId} {B : BB} {G : State → Prop} {md : Bool} {d : Nat} {call : Call} (hG : ∀ s, G s → Gs B s) (hok : COk l D cA B G md d mI call) : ∀ e ∈ k_X7_load md, EOk l RX7 cX7_load 3 (some .int) false D cA B G md d call e := by
  unfold k_X7_load
  refine al_cons (eok_pure (pr_aload_n dX7_load_0 rfl)) ?_
  refine al_cons (ok_get cl_X7 gX7 (by decide) w_418 dX7_load_1) ?_
  refine al_cons (eok_pure (pr_aload_n dX7_load_4 rfl)) ?_
  refine al_cons (ok_get cl_X7 gX7 (by decide) w_412 dX7_load_5) ?_
  refine al_cons (eok_pure (pr_aload_n dX7_load_8 rfl)) ?_
  refine al_cons (ok_get cl_X7 gX7 (by decide) w_414 dX7_load_9) ?_
  refine al_cons (ok_callV hok mi_25 cl_X3 w_731 w_732 w_733 w_79 w_734 na_25 (by decide) dX7_load_12) ?_
  refine al_cons (eok_pure (pr_if_ne dX7_load_15 (by decide))) ?_
  refine al_cons (eok_pure (pr_bipush dX7_load_18 (by decide))) ?_
  refine al_cons (ok_retI rfl dX7_load_20) ?_
  refine al_cons (eok_pure (pr_aload_n dX7_load_21 rfl)) ?_
  refine al_cons (ok_get cl_X7 gX7 (by decide) w_418 dX7_load_22) ?_
  refine al_cons (ok_get cl_X3 gX3 (by decide) w_341 dX7_load_25) ?_
  refine al_cons (eok_pure (pr_if_ne dX7_load_28 (by decide))) ?_
  refine al_cons (eok_pure (pr_iconst dX7_load_31 (by decide))) ?_
  refine al_cons (ok_retI rfl dX7_load_32) ?_
  refine al_cons (eok_pure (pr_aload_n dX7_load_33 rfl)) ?_
  refine al_cons (ok_get cl_X7 gX7 (by decide) w_415 dX7_load_34) ?_
  refine al_cons (eok_pure (pr_aload_n dX7_load_37 rfl)) ?_
  refine al_cons (ok_get cl_X7 gX7 (by decide) w_414 dX7_load_38) ?_
  refine al_cons (ok_callV hok mi_15 cl_X1 w_798 w_799 w_800 w_77 w_801 na_15 (by decide) dX7_load_41) ?_
  refine al_cons (eok_pure (pr_iconst dX7_load_44 (by decide))) ?_
  refine al_cons (eok_pure (pr_istore_n dX7_load_45 rfl)) ?_
  refine al_cons (eok_pure (pr_iload_n dX7_load_46 rfl)) ?_
  refine al_cons (eok_pure (pr_aload_n dX7_load_47 rfl)) ?_
  refine al_cons (ok_get cl_X7 gX7 (by decide) w_412 dX7_load_48) ?_
  refine al_cons (ok_get cl_X6 gX6 (by decide) w_157 dX7_load_51) ?_
  refine al_cons (eok_pure (pr_icmp_ge dX7_load_54 (by decide))) ?_
  refine al_cons (eok_pure (pr_aload_n dX7_load_57 rfl)) ?_
  refine al_cons (ok_get cl_X7 gX7 (by decide) w_418 dX7_load_58) ?_
  refine al_cons (ok_get cl_X3 gX3 (by decide) w_345 dX7_load_61) ?_
  refine al_cons (eok_pure (pr_iload_n dX7_load_64 rfl)) ?_
  refine al_cons (ok_iald dX7_load_65) ?_
  refine al_cons (eok_pure (pr_istore_n dX7_load_66 rfl)) ?_
  refine al_cons (eok_pure (pr_aload_n dX7_load_67 rfl)) ?_
  refine al_cons (ok_get cl_X7 gX7 (by decide) w_414 dX7_load_68) ?_
  refine al_cons (eok_pure (pr_iload_n dX7_load_71 rfl)) ?_
  refine al_cons (ok_callV hok mi_57 cl_X5 w_717 w_718 w_719 w_75 w_720 na_57 (by decide) dX7_load_72) ?_
  refine al_cons (eok_pure (pr_if_eq dX7_load_75 (by decide))) ?_
  refine al_cons (eok_pure (pr_aload_n dX7_load_78 rfl)) ?_
  refine al_cons (ok_get cl_X7 gX7 (by decide) w_414 dX7_load_79) ?_
  refine al_cons (ok_get cl_X5 gX5 (by decide) w_254 dX7_load_82) ?_
  refine al_cons (eok_pure (pr_aload_n dX7_load_85 rfl)) ?_
  refine al_cons (ok_get cl_X7 gX7 (by decide) w_412 dX7_load_86) ?_
  refine al_cons (eok_pure (pr_iload_n dX7_load_89 rfl)) ?_
  refine al_cons (eok_pure (pr_iload_n dX7_load_90 rfl)) ?_
  refine al_cons (eok_pure (pr_aload_n dX7_load_91 rfl)) ?_
  refine al_cons (ok_get cl_X7 gX7 (by decide) w_412 dX7_load_92) ?_
  refine al_cons (ok_get cl_X6 gX6 (by decide) w_188 dX7_load_95) ?_
  refine al_cons (eok_pure (pr_iload_n dX7_load_98 rfl)) ?_
  refine al_cons (ok_iald dX7_load_99) ?_
  refine al_cons (eok_pure (pr_aload_n dX7_load_100 rfl)) ?_
  refine al_cons (ok_get cl_X7 gX7 (by decide) w_418 dX7_load_101) ?_
  refine al_cons (ok_get cl_X3 gX3 (by decide) w_347 dX7_load_104) ?_
  refine al_cons (eok_pure (pr_iload_n dX7_load_107 rfl)) ?_
  refine al_cons (ok_iald dX7_load_108) ?_
  refine al_cons (ok_callV hok mi_3 cl_X0 w_664 w_665 w_666 w_76 w_667 na_3 (by decide) dX7_load_109) ?_
  refine al_cons (eok_pure (pr_iinc dX7_load_112 (by decide))) ?_
  refine al_cons (eok_pure (pr_goto dX7_load_115 (by decide))) ?_
  refine al_cons (eok_pure (pr_aload_n dX7_load_118 rfl)) ?_
  refine al_cons (ok_get cl_X7 gX7 (by decide) w_418 dX7_load_119) ?_
  refine al_cons (ok_get cl_X3 gX3 (by decide) w_341 dX7_load_122) ?_
  refine al_cons (ok_retI rfl dX7_load_125) ?_
  exact al_nil
def k_X7_unload (md : Bool) : List Ent := [ePure 0 (fLoadA 0 1 0),
  ePure 1 (fLoadI 1 1 1),
  ePure 2 (fPush 2 1 (.int 1)),
  eCallV 3 2 92 7,
  ePure 6 (fIf1 6 28 b1_eq),
  ePure 9 (fLoadI 9 1 2),
  ePure 10 (fIf1 10 28 b1_lt),
  ePure 13 (fLoadI 13 1 2),
  ePure 14 (fLoadA 14 1 0),
  eGet 15 7 6,
  eGet 18 5 0,
  ePure 21 (fLoadI 21 1 1),
  eCallV 22 1 6 0,
  ePure 25 (fIf2 25 30 b2_le),
  ePure 28 (fPush 28 1 (.int (-1))),
  eRetI 29,
  ePure 30 (fLoadA 30 1 0),
  eGet 31 7 6,
  eGet 34 5 0,
  ePure 37 (fLoadI 37 1 1),
  eCallV 38 1 7 0,
  ePure 41 (fStoI 41 1 3 4),
  ePure 42 (fLoadA 42 1 0),
  eGet 43 7 6,
  eGet 46 5 0,
  ePure 49 (fLoadA 49 1 0),
  eGet 50 7 4,
  ePure 53 (fLoadI 53 1 3),
  eCallV 54 2 8 0,
  ePure 57 (fIf1 57 63 b1_eq),
  ePure 60 (fPush 60 2 (.int (-2))),
  eRetI 62,
  ePure 63 (fLoadA 63 1 0),
  eGet 64 7 7,
  ePure 67 (fLoadA 67 1 0),
  eGet 68 7 6,
  eCallV 71 1 15 1,
  ePure 74 (fLoadA 74 1 0),
  eGet 75 7 6,
  eGet 78 5 0,
  ePure 81 (fLoadI 81 1 3),
  eCallV 82 1 5 0,
  ePure 85 (fLoadA 85 1 0),
  eGet 86 7 6,
  eGet 89 5 2,
  ePure 92 (fLoadI 92 1 1),
  ePure 93 (fPush 93 1 (.int 2)),
  eIast 94 0 (fun x => x),
  ePure 95 (fLoadA 95 1 0),
  eGet 96 7 6,
  eGet 99 5 3,
  ePure 102 (fLoadI 102 1 1),
  ePure 103 (fLoadI 103 1 2),
  eIast 104 0 (fun x => x),
  ePure 105 (fLoadA 105 1 0),
  eGet 106 7 6,
  ePure 109 (fLoadA 109 1 0),
  eGet 110 7 4,
  ePure 113 (fLoadI 113 1 1),
  eCallV 114 2 59 5,
  eRetI 117]
set_option maxRecDepth 100000 in
set_option maxHeartbeats 4000000 in
theorem ko_X7_unload {l : Launch} {D : va_G} {cA : Nat → ClassId} {B : BB} {G : State → Prop} {md : Bool} {d : Nat} {call : Call} (hG : ∀ s, G s → Gs B s) (hok : COk l D cA B G md d mI call) : ∀ e ∈ k_X7_unload md, EOk l RX7 cX7_unload 4 (some .int) false D cA B G md d call e := by
  unfold k_X7_unload
  refine al_cons (eok_pure (pr_aload_n dX7_unload_0 rfl)) ?_
  refine al_cons (eok_pure (pr_iload_n dX7_unload_1 rfl)) ?_
  refine al_cons (eok_pure (pr_iconst dX7_unload_2 (by decide))) ?_
  refine al_cons (ok_callV hok mi_92 cl_X7 w_713 w_715 w_20 w_72 w_716 na_92 (by decide) dX7_unload_3) ?_
  refine al_cons (eok_pure (pr_if_eq dX7_unload_6 (by decide))) ?_
  refine al_cons (eok_pure (pr_iload_n dX7_unload_9 rfl)) ?_
  refine al_cons (eok_pure (pr_if_lt dX7_unload_10 (by decide))) ?_
  refine al_cons (eok_pure (pr_iload_n dX7_unload_13 rfl)) ?_
  refine al_cons (eok_pure (pr_aload_n dX7_unload_14 rfl)) ?_
  refine al_cons (ok_get cl_X7 gX7 (by decide) w_414 dX7_unload_15) ?_
  refine al_cons (ok_get cl_X5 gX5 (by decide) w_254 dX7_unload_18) ?_
  refine al_cons (eok_pure (pr_iload_n dX7_unload_21 rfl)) ?_
  refine al_cons (ok_callV hok mi_6 cl_X0 w_814 w_681 w_682 w_76 w_683 na_6 (by decide) dX7_unload_22) ?_
  refine al_cons (eok_pure (pr_icmp_le dX7_unload_25 (by decide))) ?_
  refine al_cons (eok_pure (pr_iconst dX7_unload_28 (by decide))) ?_
  refine al_cons (ok_retI rfl dX7_unload_29) ?_
  refine al_cons (eok_pure (pr_aload_n dX7_unload_30 rfl)) ?_
  refine al_cons (ok_get cl_X7 gX7 (by decide) w_414 dX7_unload_31) ?_
  refine al_cons (ok_get cl_X5 gX5 (by decide) w_254 dX7_unload_34) ?_
  refine al_cons (eok_pure (pr_iload_n dX7_unload_37 rfl)) ?_
  refine al_cons (ok_callV hok mi_7 cl_X0 w_726 w_685 w_686 w_76 w_687 na_7 (by decide) dX7_unload_38) ?_
  refine al_cons (eok_pure (pr_istore_n dX7_unload_41 rfl)) ?_
  refine al_cons (eok_pure (pr_aload_n dX7_unload_42 rfl)) ?_
  refine al_cons (ok_get cl_X7 gX7 (by decide) w_414 dX7_unload_43) ?_
  refine al_cons (ok_get cl_X5 gX5 (by decide) w_254 dX7_unload_46) ?_
  refine al_cons (eok_pure (pr_aload_n dX7_unload_49 rfl)) ?_
  refine al_cons (ok_get cl_X7 gX7 (by decide) w_412 dX7_unload_50) ?_
  refine al_cons (eok_pure (pr_iload_n dX7_unload_53 rfl)) ?_
  refine al_cons (ok_callV hok mi_8 cl_X0 w_621 w_622 w_623 w_76 w_624 na_8 (by decide) dX7_unload_54) ?_
  refine al_cons (eok_pure (pr_if_eq dX7_unload_57 (by decide))) ?_
  refine al_cons (eok_pure (pr_bipush dX7_unload_60 (by decide))) ?_
  refine al_cons (ok_retI rfl dX7_unload_62) ?_
  refine al_cons (eok_pure (pr_aload_n dX7_unload_63 rfl)) ?_
  refine al_cons (ok_get cl_X7 gX7 (by decide) w_415 dX7_unload_64) ?_
  refine al_cons (eok_pure (pr_aload_n dX7_unload_67 rfl)) ?_
  refine al_cons (ok_get cl_X7 gX7 (by decide) w_414 dX7_unload_68) ?_
  refine al_cons (ok_callV hok mi_15 cl_X1 w_798 w_799 w_800 w_77 w_801 na_15 (by decide) dX7_unload_71) ?_
  refine al_cons (eok_pure (pr_aload_n dX7_unload_74 rfl)) ?_
  refine al_cons (ok_get cl_X7 gX7 (by decide) w_414 dX7_unload_75) ?_
  refine al_cons (ok_get cl_X5 gX5 (by decide) w_254 dX7_unload_78) ?_
  refine al_cons (eok_pure (pr_iload_n dX7_unload_81 rfl)) ?_
  refine al_cons (ok_callV hok mi_5 cl_X0 w_828 w_829 w_830 w_76 w_831 na_5 (by decide) dX7_unload_82) ?_
  refine al_cons (eok_pure (pr_aload_n dX7_unload_85 rfl)) ?_
  refine al_cons (ok_get cl_X7 gX7 (by decide) w_414 dX7_unload_86) ?_
  refine al_cons (ok_get cl_X5 gX5 (by decide) w_259 dX7_unload_89) ?_
  refine al_cons (eok_pure (pr_iload_n dX7_unload_92 rfl)) ?_
  refine al_cons (eok_pure (pr_iconst dX7_unload_93 (by decide))) ?_
  refine al_cons (ok_iast dX7_unload_94) ?_
  refine al_cons (eok_pure (pr_aload_n dX7_unload_95 rfl)) ?_
  refine al_cons (ok_get cl_X7 gX7 (by decide) w_414 dX7_unload_96) ?_
  refine al_cons (ok_get cl_X5 gX5 (by decide) w_261 dX7_unload_99) ?_
  refine al_cons (eok_pure (pr_iload_n dX7_unload_102 rfl)) ?_
  refine al_cons (eok_pure (pr_iload_n dX7_unload_103 rfl)) ?_
  refine al_cons (ok_iast dX7_unload_104) ?_
  refine al_cons (eok_pure (pr_aload_n dX7_unload_105 rfl)) ?_
  refine al_cons (ok_get cl_X7 gX7 (by decide) w_414 dX7_unload_106) ?_
  refine al_cons (eok_pure (pr_aload_n dX7_unload_109 rfl)) ?_
  refine al_cons (ok_get cl_X7 gX7 (by decide) w_412 dX7_unload_110) ?_
  refine al_cons (eok_pure (pr_iload_n dX7_unload_113 rfl)) ?_
  refine al_cons (ok_callV hok mi_59 cl_X5 w_833 w_834 w_835 w_75 w_836 na_59 (by decide) dX7_unload_114) ?_
  refine al_cons (ok_retI rfl dX7_unload_117) ?_
  exact al_nil
def k_X7_empty (md : Bool) : List Ent := [ePure 0 (fLoadA 0 1 0),
  eGet 1 7 4,
  ePure 4 (fLoadI 4 1 1),
  eCallV 5 1 63 6,
  ePure 8 (fIf1 8 26 b1_eq),
  ePure 11 (fLoadA 11 1 0),
  eGet 12 7 6,
  eGet 15 5 0,
  eGet 18 0 0,
  ePure 21 (fLoadI 21 1 1),
  eIald 22 0,
  ePure 23 (fIf1 23 28 b1_ne),
  ePure 26 (fPush 26 1 (.int (-1))),
  eRetI 27,
  ePure 28 (fLoadA 28 1 0),
  ePure 29 (fLoadA 29 1 0),
  eGet 30 7 6,
  eGet 33 5 0,
  eGet 36 0 1,
  ePure 39 (fLoadI 39 1 1),
  eIald 40 0,
  ePure 41 (fPush 41 1 (.int 1)),
  eCallV 42 2 92 7,
  ePure 45 (fIf1 45 66 b1_eq),
  ePure 48 (fLoadA 48 1 0),
  eGet 49 7 6,
  ePure 52 (fLoadA 52 1 0),
  eGet 53 7 4,
  eCallV 56 1 60 5,
  ePure 59 (fPush 59 1 (.int 4)),
  ePure 60 (fIf2 60 66 b2_lt),
  ePure 63 (fPush 63 2 (.int (-2))),
  eRetI 65,
  ePure 66 (fLoadA 66 1 0),
  eGet 67 7 7,
  ePure 70 (fLoadA 70 1 0),
  eGet 71 7 6,
  eCallV 74 1 15 1,
  ePure 77 (fLoadA 77 1 0),
  eGet 78 7 6,
  eGet 81 5 0,
  eGet 84 0 0,
  ePure 87 (fLoadI 87 1 1),
  eIald 88 0,
  ePure 89 (fStoI 89 1 2 3),
  ePure 90 (fLoadA 90 1 0),
  eGet 91 7 6,
  eGet 94 5 0,
  ePure 97 (fLoadI 97 1 1),
  eCallV 98 1 4 0,
  ePure 101 (fLoadI 101 1 2),
  eRetI 102]
set_option maxRecDepth 100000 in
set_option maxHeartbeats 4000000 in
theorem ko_X7_empty {l : Launch} {D : va_G} {cA : Nat → ClassId} {B : BB} {G : State → Prop} {md : Bool} {d : Nat} {call : Call} (hG : ∀ s, G s → Gs B s) (hok : COk l D cA B G md d mI call) : ∀ e ∈ k_X7_empty md, EOk l RX7 cX7_empty 3 (some .int) false D cA B G md d call e := by
  unfold k_X7_empty
  refine al_cons (eok_pure (pr_aload_n dX7_empty_0 rfl)) ?_
  refine al_cons (ok_get cl_X7 gX7 (by decide) w_412 dX7_empty_1) ?_
  refine al_cons (eok_pure (pr_iload_n dX7_empty_4 rfl)) ?_
  refine al_cons (ok_callV hok mi_63 cl_X6 w_636 w_637 w_638 w_74 w_639 na_63 (by decide) dX7_empty_5) ?_
  refine al_cons (eok_pure (pr_if_eq dX7_empty_8 (by decide))) ?_
  refine al_cons (eok_pure (pr_aload_n dX7_empty_11 rfl)) ?_
  refine al_cons (ok_get cl_X7 gX7 (by decide) w_414 dX7_empty_12) ?_
  refine al_cons (ok_get cl_X5 gX5 (by decide) w_254 dX7_empty_15) ?_
  refine al_cons (ok_get cl_X0 gX0 (by decide) w_235 dX7_empty_18) ?_
  refine al_cons (eok_pure (pr_iload_n dX7_empty_21 rfl)) ?_
  refine al_cons (ok_iald dX7_empty_22) ?_
  refine al_cons (eok_pure (pr_if_ne dX7_empty_23 (by decide))) ?_
  refine al_cons (eok_pure (pr_iconst dX7_empty_26 (by decide))) ?_
  refine al_cons (ok_retI rfl dX7_empty_27) ?_
  refine al_cons (eok_pure (pr_aload_n dX7_empty_28 rfl)) ?_
  refine al_cons (eok_pure (pr_aload_n dX7_empty_29 rfl)) ?_
  refine al_cons (ok_get cl_X7 gX7 (by decide) w_414 dX7_empty_30) ?_
  refine al_cons (ok_get cl_X5 gX5 (by decide) w_254 dX7_empty_33) ?_
  refine al_cons (ok_get cl_X0 gX0 (by decide) w_237 dX7_empty_36) ?_
  refine al_cons (eok_pure (pr_iload_n dX7_empty_39 rfl)) ?_
  refine al_cons (ok_iald dX7_empty_40) ?_
  refine al_cons (eok_pure (pr_iconst dX7_empty_41 (by decide))) ?_
  refine al_cons (ok_callV hok mi_92 cl_X7 w_713 w_715 w_20 w_72 w_716 na_92 (by decide) dX7_empty_42) ?_
  refine al_cons (eok_pure (pr_if_eq dX7_empty_45 (by decide))) ?_
  refine al_cons (eok_pure (pr_aload_n dX7_empty_48 rfl)) ?_
  refine al_cons (ok_get cl_X7 gX7 (by decide) w_414 dX7_empty_49) ?_
  refine al_cons (eok_pure (pr_aload_n dX7_empty_52 rfl)) ?_
  refine al_cons (ok_get cl_X7 gX7 (by decide) w_412 dX7_empty_53) ?_
  refine al_cons (ok_callV hok mi_60 cl_X5 w_793 w_794 w_795 w_75 w_796 na_60 (by decide) dX7_empty_56) ?_
  refine al_cons (eok_pure (pr_iconst dX7_empty_59 (by decide))) ?_
  refine al_cons (eok_pure (pr_icmp_lt dX7_empty_60 (by decide))) ?_
  refine al_cons (eok_pure (pr_bipush dX7_empty_63 (by decide))) ?_
  refine al_cons (ok_retI rfl dX7_empty_65) ?_
  refine al_cons (eok_pure (pr_aload_n dX7_empty_66 rfl)) ?_
  refine al_cons (ok_get cl_X7 gX7 (by decide) w_415 dX7_empty_67) ?_
  refine al_cons (eok_pure (pr_aload_n dX7_empty_70 rfl)) ?_
  refine al_cons (ok_get cl_X7 gX7 (by decide) w_414 dX7_empty_71) ?_
  refine al_cons (ok_callV hok mi_15 cl_X1 w_798 w_799 w_800 w_77 w_801 na_15 (by decide) dX7_empty_74) ?_
  refine al_cons (eok_pure (pr_aload_n dX7_empty_77 rfl)) ?_
  refine al_cons (ok_get cl_X7 gX7 (by decide) w_414 dX7_empty_78) ?_
  refine al_cons (ok_get cl_X5 gX5 (by decide) w_254 dX7_empty_81) ?_
  refine al_cons (ok_get cl_X0 gX0 (by decide) w_235 dX7_empty_84) ?_
  refine al_cons (eok_pure (pr_iload_n dX7_empty_87 rfl)) ?_
  refine al_cons (ok_iald dX7_empty_88) ?_
  refine al_cons (eok_pure (pr_istore_n dX7_empty_89 rfl)) ?_
  refine al_cons (eok_pure (pr_aload_n dX7_empty_90 rfl)) ?_
  refine al_cons (ok_get cl_X7 gX7 (by decide) w_414 dX7_empty_91) ?_
  refine al_cons (ok_get cl_X5 gX5 (by decide) w_254 dX7_empty_94) ?_
  refine al_cons (eok_pure (pr_iload_n dX7_empty_97 rfl)) ?_
  refine al_cons (ok_callV hok mi_4 cl_X0 w_841 w_778 w_779 w_76 w_780 na_4 (by decide) dX7_empty_98) ?_
  refine al_cons (eok_pure (pr_iload_n dX7_empty_101 rfl)) ?_
  refine al_cons (ok_retI rfl dX7_empty_102) ?_
  exact al_nil
def k_X7_wash (md : Bool) : List Ent := [ePure 0 (fLoadA 0 1 0),
  eGet 1 7 4,
  ePure 4 (fLoadI 4 1 1),
  eCallV 5 1 63 6,
  ePure 8 (fIf1 8 42 b1_eq),
  ePure 11 (fLoadA 11 1 0),
  eGet 12 7 6,
  eGet 15 5 0,
  eGet 18 0 0,
  ePure 21 (fLoadI 21 1 1),
  eIald 22 0,
  ePure 23 (fIf1 23 42 b1_gt),
  ePure 26 (fLoadA 26 1 0),
  eGet 27 7 6,
  eGet 30 5 0,
  eGet 33 0 2,
  ePure 36 (fLoadI 36 1 1),
  eIald 37 0,
  ePure 38 (fPush 38 1 (.int (-1))),
  ePure 39 (fIf2 39 44 b2_ne),
  ePure 42 (fPush 42 1 (.int 0)),
  eRetZ 43,
  ePure 44 (fLoadA 44 1 0),
  eGet 45 7 7,
  ePure 48 (fLoadA 48 1 0),
  eGet 49 7 6,
  eCallV 52 1 15 1,
  ePure 55 (fLoadA 55 1 0),
  eGet 56 7 6,
  eGet 59 5 0,
  eGet 62 0 2,
  ePure 65 (fLoadI 65 1 1),
  ePure 66 (fPush 66 1 (.int (-1))),
  eIast 67 0 (fun x => x),
  ePure 68 (fLoadA 68 1 0),
  eGet 69 7 6,
  ePure 72 (fDup 72),
  eGet 73 5 4,
  ePure 76 (fPush 76 1 (.int 1)),
  ePure 77 (fBin 77 o_iadd),
  ePut 78 5 4 kInt,
  ePure 81 (fPush 81 1 (.int 1)),
  eRetZ 82]
set_option maxRecDepth 100000 in
set_option maxHeartbeats 4000000 in
theorem ko_X7_wash {l : Launch} {D : va_G} {cA : Nat → ClassId} {B : BB} {G : State → Prop} {md : Bool} {d : Nat} {call : Call} (hG : ∀ s, G s → Gs B s) (hok : COk l D cA B G md d mI call) : ∀ e ∈ k_X7_wash md, EOk l RX7 cX7_wash 2 (some .boolean) false D cA B G md d call e := by
  unfold k_X7_wash
  refine al_cons (eok_pure (pr_aload_n dX7_wash_0 rfl)) ?_
  refine al_cons (ok_get cl_X7 gX7 (by decide) w_412 dX7_wash_1) ?_
  refine al_cons (eok_pure (pr_iload_n dX7_wash_4 rfl)) ?_
  refine al_cons (ok_callV hok mi_63 cl_X6 w_636 w_637 w_638 w_74 w_639 na_63 (by decide) dX7_wash_5) ?_
  refine al_cons (eok_pure (pr_if_eq dX7_wash_8 (by decide))) ?_
  refine al_cons (eok_pure (pr_aload_n dX7_wash_11 rfl)) ?_
  refine al_cons (ok_get cl_X7 gX7 (by decide) w_414 dX7_wash_12) ?_
  refine al_cons (ok_get cl_X5 gX5 (by decide) w_254 dX7_wash_15) ?_
  refine al_cons (ok_get cl_X0 gX0 (by decide) w_235 dX7_wash_18) ?_
  refine al_cons (eok_pure (pr_iload_n dX7_wash_21 rfl)) ?_
  refine al_cons (ok_iald dX7_wash_22) ?_
  refine al_cons (eok_pure (pr_if_gt dX7_wash_23 (by decide))) ?_
  refine al_cons (eok_pure (pr_aload_n dX7_wash_26 rfl)) ?_
  refine al_cons (ok_get cl_X7 gX7 (by decide) w_414 dX7_wash_27) ?_
  refine al_cons (ok_get cl_X5 gX5 (by decide) w_254 dX7_wash_30) ?_
  refine al_cons (ok_get cl_X0 gX0 (by decide) w_241 dX7_wash_33) ?_
  refine al_cons (eok_pure (pr_iload_n dX7_wash_36 rfl)) ?_
  refine al_cons (ok_iald dX7_wash_37) ?_
  refine al_cons (eok_pure (pr_iconst dX7_wash_38 (by decide))) ?_
  refine al_cons (eok_pure (pr_icmp_ne dX7_wash_39 (by decide))) ?_
  refine al_cons (eok_pure (pr_iconst dX7_wash_42 (by decide))) ?_
  refine al_cons (ok_retZ rfl dX7_wash_43) ?_
  refine al_cons (eok_pure (pr_aload_n dX7_wash_44 rfl)) ?_
  refine al_cons (ok_get cl_X7 gX7 (by decide) w_415 dX7_wash_45) ?_
  refine al_cons (eok_pure (pr_aload_n dX7_wash_48 rfl)) ?_
  refine al_cons (ok_get cl_X7 gX7 (by decide) w_414 dX7_wash_49) ?_
  refine al_cons (ok_callV hok mi_15 cl_X1 w_798 w_799 w_800 w_77 w_801 na_15 (by decide) dX7_wash_52) ?_
  refine al_cons (eok_pure (pr_aload_n dX7_wash_55 rfl)) ?_
  refine al_cons (ok_get cl_X7 gX7 (by decide) w_414 dX7_wash_56) ?_
  refine al_cons (ok_get cl_X5 gX5 (by decide) w_254 dX7_wash_59) ?_
  refine al_cons (ok_get cl_X0 gX0 (by decide) w_241 dX7_wash_62) ?_
  refine al_cons (eok_pure (pr_iload_n dX7_wash_65 rfl)) ?_
  refine al_cons (eok_pure (pr_iconst dX7_wash_66 (by decide))) ?_
  refine al_cons (ok_iast dX7_wash_67) ?_
  refine al_cons (eok_pure (pr_aload_n dX7_wash_68 rfl)) ?_
  refine al_cons (ok_get cl_X7 gX7 (by decide) w_414 dX7_wash_69) ?_
  refine al_cons (eok_pure (pr_dup dX7_wash_72)) ?_
  refine al_cons (ok_get cl_X5 gX5 (by decide) w_263 dX7_wash_73) ?_
  refine al_cons (eok_pure (pr_iconst dX7_wash_76 (by decide))) ?_
  refine al_cons (eok_pure (pr_iadd dX7_wash_77)) ?_
  refine al_cons (ok_put cl_X5 gX5 tyX5_ok nmX5 (by decide) w_263 rfl (by decide +kernel) (kok_int B) dX7_wash_78) ?_
  refine al_cons (eok_pure (pr_iconst dX7_wash_81 (by decide))) ?_
  refine al_cons (ok_retZ rfl dX7_wash_82) ?_
  exact al_nil
def k_X7_undo (md : Bool) : List Ent := [ePure 0 (fLoadA 0 1 0),
  eGet 1 7 7,
  ePure 4 (fLoadA 4 1 0),
  eGet 5 7 6,
  eCallV 8 1 16 1,
  ePure 11 (fIf1 11 24 b1_eq),
  ePure 14 (fLoadA 14 1 0),
  eGet 15 7 7,
  eGet 18 1 2,
  ePure 21 (fGoto 25),
  ePure 24 (fPush 24 1 (.int (-1))),
  eRetI 25]
set_option maxRecDepth 100000 in
set_option maxHeartbeats 4000000 in
theorem ko_X7_undo {l : Launch} {D : va_G} {cA : Nat → ClassId} {B : BB} {G : State → Prop} {md : Bool} {d : Nat} {call : Call} (hG : ∀ s, G s → Gs B s) (hok : COk l D cA B G md d mI call) : ∀ e ∈ k_X7_undo md, EOk l RX7 cX7_undo 1 (some .int) false D cA B G md d call e := by
  unfold k_X7_undo
  refine al_cons (eok_pure (pr_aload_n dX7_undo_0 rfl)) ?_
  refine al_cons (ok_get cl_X7 gX7 (by decide) w_415 dX7_undo_1) ?_
  refine al_cons (eok_pure (pr_aload_n dX7_undo_4 rfl)) ?_
  refine al_cons (ok_get cl_X7 gX7 (by decide) w_414 dX7_undo_5) ?_
  refine al_cons (ok_callV hok mi_16 cl_X1 w_850 w_851 w_852 w_77 w_853 na_16 (by decide) dX7_undo_8) ?_
  refine al_cons (eok_pure (pr_if_eq dX7_undo_11 (by decide))) ?_
  refine al_cons (eok_pure (pr_aload_n dX7_undo_14 rfl)) ?_
  refine al_cons (ok_get cl_X7 gX7 (by decide) w_415 dX7_undo_15) ?_
  refine al_cons (ok_get cl_X1 gX1 (by decide) w_287 dX7_undo_18) ?_
  refine al_cons (eok_pure (pr_goto dX7_undo_21 (by decide))) ?_
  refine al_cons (eok_pure (pr_iconst dX7_undo_24 (by decide))) ?_
  refine al_cons (ok_retI rfl dX7_undo_25) ?_
  exact al_nil
def k_X7_tapeNumber (md : Bool) : List Ent := [ePure 0 (fPush 0 2 (.int 24)),
  ePure 2 (fStoI 2 1 2 3),
  ePure 3 (fLoadI 3 1 2),
  ePure 4 (fIf1 4 46 b1_lt),
  ePure 7 (fLoadA 7 1 0),
  eGet 8 7 1,
  ePure 11 (fPush 11 3 (.int 740)),
  ePure 14 (fIf2 14 40 b2_ge),
  ePure 17 (fLoadA 17 1 0),
  eGet 18 7 0,
  ePure 21 (fLoadA 21 1 0),
  eGet 22 7 1,
  ePure 25 (fLoadI 25 1 1),
  ePure 26 (fLoadI 26 1 2),
  ePure 27 (fBin 27 o_ishr),
  ePure 28 (f_i2b 28),
  eIast 29 1 (fun x => x.toInt8.toInt32),
  ePure 30 (fLoadA 30 1 0),
  ePure 31 (fDup 31),
  eGet 32 7 1,
  ePure 35 (fPush 35 1 (.int 1)),
  ePure 36 (fBin 36 o_iadd),
  ePut 37 7 1 kInt,
  ePure 40 (fInc 40 2 3 (-8)),
  ePure 43 (fGoto 3),
  eRetV 46]
set_option maxRecDepth 100000 in
set_option maxHeartbeats 4000000 in
theorem ko_X7_tapeNumber {l : Launch} {D : va_G} {cA : Nat → ClassId} {B : BB} {G : State → Prop} {md : Bool} {d : Nat} {call : Call} (hG : ∀ s, G s → Gs B s) (hok : COk l D cA B G md d mI call) : ∀ e ∈ k_X7_tapeNumber md, EOk l RX7 cX7_tapeNumber 3 none false D cA B G md d call e := by
  unfold k_X7_tapeNumber
  refine al_cons (eok_pure (pr_bipush dX7_tapeNumber_0 (by decide))) ?_
  refine al_cons (eok_pure (pr_istore_n dX7_tapeNumber_2 rfl)) ?_
  refine al_cons (eok_pure (pr_iload_n dX7_tapeNumber_3 rfl)) ?_
  refine al_cons (eok_pure (pr_if_lt dX7_tapeNumber_4 (by decide))) ?_
  refine al_cons (eok_pure (pr_aload_n dX7_tapeNumber_7 rfl)) ?_
  refine al_cons (ok_get cl_X7 gX7 (by decide) w_409 dX7_tapeNumber_8) ?_
  refine al_cons (eok_pure (pr_sipush dX7_tapeNumber_11 (by decide))) ?_
  refine al_cons (eok_pure (pr_icmp_ge dX7_tapeNumber_14 (by decide))) ?_
  refine al_cons (eok_pure (pr_aload_n dX7_tapeNumber_17 rfl)) ?_
  refine al_cons (ok_get cl_X7 gX7 (by decide) w_408 dX7_tapeNumber_18) ?_
  refine al_cons (eok_pure (pr_aload_n dX7_tapeNumber_21 rfl)) ?_
  refine al_cons (ok_get cl_X7 gX7 (by decide) w_409 dX7_tapeNumber_22) ?_
  refine al_cons (eok_pure (pr_iload_n dX7_tapeNumber_25 rfl)) ?_
  refine al_cons (eok_pure (pr_iload_n dX7_tapeNumber_26 rfl)) ?_
  refine al_cons (eok_pure (pr_ishr dX7_tapeNumber_27)) ?_
  refine al_cons (eok_pure (pr_i2b dX7_tapeNumber_28)) ?_
  refine al_cons (ok_bast dX7_tapeNumber_29) ?_
  refine al_cons (eok_pure (pr_aload_n dX7_tapeNumber_30 rfl)) ?_
  refine al_cons (eok_pure (pr_dup dX7_tapeNumber_31)) ?_
  refine al_cons (ok_get cl_X7 gX7 (by decide) w_409 dX7_tapeNumber_32) ?_
  refine al_cons (eok_pure (pr_iconst dX7_tapeNumber_35 (by decide))) ?_
  refine al_cons (eok_pure (pr_iadd dX7_tapeNumber_36)) ?_
  refine al_cons (ok_put cl_X7 gX7 tyX7_ok nmX7 (by decide) w_409 rfl (by decide +kernel) (kok_int B) dX7_tapeNumber_37) ?_
  refine al_cons (eok_pure (pr_iinc dX7_tapeNumber_40 (by decide))) ?_
  refine al_cons (eok_pure (pr_goto dX7_tapeNumber_43 (by decide))) ?_
  refine al_cons (ok_retV rfl dX7_tapeNumber_46) ?_
  exact al_nil
def k_X7_isSo (md : Bool) : List Ent := [ePure 0 (fLoadA 0 1 0),
  eGet 1 7 6,
  ePure 4 (fLoadI 4 1 1),
  eCallV 5 1 57 5,
  ePure 8 (fIf1 8 31 b1_eq),
  ePure 11 (fLoadA 11 1 0),
  eGet 12 7 6,
  ePure 15 (fLoadA 15 1 0),
  eGet 16 7 4,
  ePure 19 (fLoadI 19 1 1),
  eCallV 20 2 58 5,
  ePure 23 (fLoadI 23 1 2),
  ePure 24 (fIf2 24 31 b2_ne),
  ePure 27 (fPush 27 1 (.int 1)),
  ePure 28 (fGoto 32),
  ePure 31 (fPush 31 1 (.int 0)),
  eRetZ 32]
set_option maxRecDepth 100000 in
set_option maxHeartbeats 4000000 in
theorem ko_X7_isSo {l : Launch} {D : va_G} {cA : Nat → ClassId} {B : BB} {G : State → Prop} {md : Bool} {d : Nat} {call : Call} (hG : ∀ s, G s → Gs B s) (hok : COk l D cA B G md d mI call) : ∀ e ∈ k_X7_isSo md, EOk l RX7 cX7_isSo 3 (some .boolean) false D cA B G md d call e := by
  unfold k_X7_isSo
  refine al_cons (eok_pure (pr_aload_n dX7_isSo_0 rfl)) ?_
  refine al_cons (ok_get cl_X7 gX7 (by decide) w_414 dX7_isSo_1) ?_
  refine al_cons (eok_pure (pr_iload_n dX7_isSo_4 rfl)) ?_
  refine al_cons (ok_callV hok mi_57 cl_X5 w_717 w_718 w_719 w_75 w_720 na_57 (by decide) dX7_isSo_5) ?_
  refine al_cons (eok_pure (pr_if_eq dX7_isSo_8 (by decide))) ?_
  refine al_cons (eok_pure (pr_aload_n dX7_isSo_11 rfl)) ?_
  refine al_cons (ok_get cl_X7 gX7 (by decide) w_414 dX7_isSo_12) ?_
  refine al_cons (eok_pure (pr_aload_n dX7_isSo_15 rfl)) ?_
  refine al_cons (ok_get cl_X7 gX7 (by decide) w_412 dX7_isSo_16) ?_
  refine al_cons (eok_pure (pr_iload_n dX7_isSo_19 rfl)) ?_
  refine al_cons (ok_callV hok mi_58 cl_X5 w_721 w_722 w_723 w_75 w_724 na_58 (by decide) dX7_isSo_20) ?_
  refine al_cons (eok_pure (pr_iload_n dX7_isSo_23 rfl)) ?_
  refine al_cons (eok_pure (pr_icmp_ne dX7_isSo_24 (by decide))) ?_
  refine al_cons (eok_pure (pr_iconst dX7_isSo_27 (by decide))) ?_
  refine al_cons (eok_pure (pr_goto dX7_isSo_28 (by decide))) ?_
  refine al_cons (eok_pure (pr_iconst dX7_isSo_31 (by decide))) ?_
  refine al_cons (ok_retZ rfl dX7_isSo_32) ?_
  exact al_nil
def k_X8_refuse (md : Bool) : List Ent := [ePure 0 (fLoadA 0 1 0),
  ePure 1 (fPush 1 1 (.int 1)),
  ePut 2 8 0 kInt,
  ePure 5 (fPush 5 1 (.int 0)),
  eRetI 6]
set_option maxRecDepth 100000 in
set_option maxHeartbeats 4000000 in
theorem ko_X8_refuse {l : Launch} {D : va_G} {cA : Nat → ClassId} {B : BB} {G : State → Prop} {md : Bool} {d : Nat} {call : Call} (hG : ∀ s, G s → Gs B s) (hok : COk l D cA B G md d mI call) : ∀ e ∈ k_X8_refuse md, EOk l RX8 cX8_refuse 1 (some .int) false D cA B G md d call e := by
  unfold k_X8_refuse
  refine al_cons (eok_pure (pr_aload_n dX8_refuse_0 rfl)) ?_
  refine al_cons (eok_pure (pr_iconst dX8_refuse_1 (by decide))) ?_
  refine al_cons (ok_put cl_X8 gX8 tyX8_ok nmX8 (by decide) w_941 rfl (by decide +kernel) (kok_int B) dX8_refuse_2) ?_
  refine al_cons (eok_pure (pr_iconst dX8_refuse_5 (by decide))) ?_
  refine al_cons (ok_retI rfl dX8_refuse_6) ?_
  exact al_nil
def k_X8_isIn (md : Bool) : List Ent := [ePure 0 (fLoadI 0 1 0),
  ePure 1 (fLoadI 1 1 1),
  ePure 2 (fIf2 2 14 b2_lt),
  ePure 5 (fLoadI 5 1 0),
  ePure 6 (fLoadI 6 1 2),
  ePure 7 (fIf2 7 14 b2_gt),
  ePure 10 (fPush 10 1 (.int 1)),
  ePure 11 (fGoto 15),
  ePure 14 (fPush 14 1 (.int 0)),
  eRetZ 15]
set_option maxRecDepth 100000 in
set_option maxHeartbeats 4000000 in
theorem ko_X8_isIn {l : Launch} {D : va_G} {cA : Nat → ClassId} {B : BB} {G : State → Prop} {md : Bool} {d : Nat} {call : Call} (hG : ∀ s, G s → Gs B s) (hok : COk l D cA B G md d mI call) : ∀ e ∈ k_X8_isIn md, EOk l RX8 cX8_isIn 3 (some .boolean) false D cA B G md d call e := by
  unfold k_X8_isIn
  refine al_cons (eok_pure (pr_iload_n dX8_isIn_0 rfl)) ?_
  refine al_cons (eok_pure (pr_iload_n dX8_isIn_1 rfl)) ?_
  refine al_cons (eok_pure (pr_icmp_lt dX8_isIn_2 (by decide))) ?_
  refine al_cons (eok_pure (pr_iload_n dX8_isIn_5 rfl)) ?_
  refine al_cons (eok_pure (pr_iload_n dX8_isIn_6 rfl)) ?_
  refine al_cons (eok_pure (pr_icmp_gt dX8_isIn_7 (by decide))) ?_
  refine al_cons (eok_pure (pr_iconst dX8_isIn_10 (by decide))) ?_
  refine al_cons (eok_pure (pr_goto dX8_isIn_11 (by decide))) ?_
  refine al_cons (eok_pure (pr_iconst dX8_isIn_14 (by decide))) ?_
  refine al_cons (ok_retZ rfl dX8_isIn_15) ?_
  exact al_nil
def k_X8_has (md : Bool) : List Ent := [ePure 0 (fLoadI 0 1 0),
  ePure 1 (fLoadI 1 1 1),
  ePure 2 (fBin 2 o_ishr),
  ePure 3 (fPush 3 1 (.int 1)),
  ePure 4 (fBin 4 o_iand),
  ePure 5 (fPush 5 1 (.int 1)),
  ePure 6 (fIf2 6 13 b2_ne),
  ePure 9 (fPush 9 1 (.int 1)),
  ePure 10 (fGoto 14),
  ePure 13 (fPush 13 1 (.int 0)),
  eRetZ 14]
set_option maxRecDepth 100000 in
set_option maxHeartbeats 4000000 in
theorem ko_X8_has {l : Launch} {D : va_G} {cA : Nat → ClassId} {B : BB} {G : State → Prop} {md : Bool} {d : Nat} {call : Call} (hG : ∀ s, G s → Gs B s) (hok : COk l D cA B G md d mI call) : ∀ e ∈ k_X8_has md, EOk l RX8 cX8_has 2 (some .boolean) false D cA B G md d call e := by
  unfold k_X8_has
  refine al_cons (eok_pure (pr_iload_n dX8_has_0 rfl)) ?_
  refine al_cons (eok_pure (pr_iload_n dX8_has_1 rfl)) ?_
  refine al_cons (eok_pure (pr_ishr dX8_has_2)) ?_
  refine al_cons (eok_pure (pr_iconst dX8_has_3 (by decide))) ?_
  refine al_cons (eok_pure (pr_iand dX8_has_4)) ?_
  refine al_cons (eok_pure (pr_iconst dX8_has_5 (by decide))) ?_
  refine al_cons (eok_pure (pr_icmp_ne dX8_has_6 (by decide))) ?_
  refine al_cons (eok_pure (pr_iconst dX8_has_9 (by decide))) ?_
  refine al_cons (eok_pure (pr_goto dX8_has_10 (by decide))) ?_
  refine al_cons (eok_pure (pr_iconst dX8_has_13 (by decide))) ?_
  refine al_cons (ok_retZ rfl dX8_has_14) ?_
  exact al_nil
def k_X8_lays (md : Bool) : List Ent := [ePure 0 (fPush 0 2 (.int 24)),
  ePure 2 (fStoI 2 1 2 3),
  ePure 3 (fLoadI 3 1 2),
  ePure 4 (fIf1 4 39 b1_lt),
  ePure 7 (fLoadA 7 1 0),
  eGet 8 8 1,
  ePure 11 (fLoadA 11 1 0),
  eGet 12 8 2,
  ePure 15 (fLoadI 15 1 1),
  ePure 16 (fLoadI 16 1 2),
  ePure 17 (fBin 17 o_iushr),
  ePure 18 (fPush 18 3 (.int 255)),
  ePure 21 (fBin 21 o_iand),
  eIast 22 0 (fun x => x),
  ePure 23 (fLoadA 23 1 0),
  ePure 24 (fDup 24),
  eGet 25 8 2,
  ePure 28 (fPush 28 1 (.int 1)),
  ePure 29 (fBin 29 o_iadd),
  ePut 30 8 2 kInt,
  ePure 33 (fInc 33 2 3 (-8)),
  ePure 36 (fGoto 3),
  eRetV 39]
set_option maxRecDepth 100000 in
set_option maxHeartbeats 4000000 in
theorem ko_X8_lays {l : Launch} {D : va_G} {cA : Nat → ClassId} {B : BB} {G : State → Prop} {md : Bool} {d : Nat} {call : Call} (hG : ∀ s, G s → Gs B s) (hok : COk l D cA B G md d mI call) : ∀ e ∈ k_X8_lays md, EOk l RX8 cX8_lays 3 none false D cA B G md d call e := by
  unfold k_X8_lays
  refine al_cons (eok_pure (pr_bipush dX8_lays_0 (by decide))) ?_
  refine al_cons (eok_pure (pr_istore_n dX8_lays_2 rfl)) ?_
  refine al_cons (eok_pure (pr_iload_n dX8_lays_3 rfl)) ?_
  refine al_cons (eok_pure (pr_if_lt dX8_lays_4 (by decide))) ?_
  refine al_cons (eok_pure (pr_aload_n dX8_lays_7 rfl)) ?_
  refine al_cons (ok_get cl_X8 gX8 (by decide) w_942 dX8_lays_8) ?_
  refine al_cons (eok_pure (pr_aload_n dX8_lays_11 rfl)) ?_
  refine al_cons (ok_get cl_X8 gX8 (by decide) w_943 dX8_lays_12) ?_
  refine al_cons (eok_pure (pr_iload_n dX8_lays_15 rfl)) ?_
  refine al_cons (eok_pure (pr_iload_n dX8_lays_16 rfl)) ?_
  refine al_cons (eok_pure (pr_iushr dX8_lays_17)) ?_
  refine al_cons (eok_pure (pr_sipush dX8_lays_18 (by decide))) ?_
  refine al_cons (eok_pure (pr_iand dX8_lays_21)) ?_
  refine al_cons (ok_iast dX8_lays_22) ?_
  refine al_cons (eok_pure (pr_aload_n dX8_lays_23 rfl)) ?_
  refine al_cons (eok_pure (pr_dup dX8_lays_24)) ?_
  refine al_cons (ok_get cl_X8 gX8 (by decide) w_943 dX8_lays_25) ?_
  refine al_cons (eok_pure (pr_iconst dX8_lays_28 (by decide))) ?_
  refine al_cons (eok_pure (pr_iadd dX8_lays_29)) ?_
  refine al_cons (ok_put cl_X8 gX8 tyX8_ok nmX8 (by decide) w_943 rfl (by decide +kernel) (kok_int B) dX8_lays_30) ?_
  refine al_cons (eok_pure (pr_iinc dX8_lays_33 (by decide))) ?_
  refine al_cons (eok_pure (pr_goto dX8_lays_36 (by decide))) ?_
  refine al_cons (ok_retV rfl dX8_lays_39) ?_
  exact al_nil
def k_X8_feed (md : Bool) : List Ent := [ePure 0 (fLoadA 0 1 0),
  ePure 1 (fPush 1 1 (.int 0)),
  ePut 2 8 0 kInt,
  ePure 5 (fLoadA 5 1 0),
  eGet 6 8 2,
  ePure 9 (fPush 9 2 (.int 20)),
  ePure 11 (fBin 11 o_iadd),
  ePure 12 (fPush 12 3 (.int 740)),
  ePure 15 (fIf2 15 20 b2_le),
  ePure 18 (fPush 18 1 (.int (-1))),
  eRetI 19,
  ePure 20 (fLoadA 20 1 0),
  ePure 21 (fLoadI 21 1 1),
  eCallV 22 1 96 8,
  ePure 25 (fLoadA 25 1 0),
  ePure 26 (fLoadI 26 1 2),
  eCallV 27 1 96 8,
  ePure 30 (fLoadA 30 1 0),
  ePure 31 (fLoadI 31 1 3),
  eCallV 32 1 96 8,
  ePure 35 (fLoadA 35 1 0),
  ePure 36 (fLoadI 36 2 4),
  eCallV 38 1 96 8,
  ePure 41 (fLoadA 41 1 0),
  ePure 42 (fLoadI 42 2 5),
  eCallV 44 1 96 8,
  ePure 47 (fLoadA 47 1 0),
  eGet 48 8 2,
  eRetI 51]
set_option maxRecDepth 100000 in
set_option maxHeartbeats 4000000 in
theorem ko_X8_feed {l : Launch} {D : va_G} {cA : Nat → ClassId} {B : BB} {G : State → Prop} {md : Bool} {d : Nat} {call : Call} (hG : ∀ s, G s → Gs B s) (hok : COk l D cA B G md d mI call) : ∀ e ∈ k_X8_feed md, EOk l RX8 cX8_feed 6 (some .int) false D cA B G md d call e := by
  unfold k_X8_feed
  refine al_cons (eok_pure (pr_aload_n dX8_feed_0 rfl)) ?_
  refine al_cons (eok_pure (pr_iconst dX8_feed_1 (by decide))) ?_
  refine al_cons (ok_put cl_X8 gX8 tyX8_ok nmX8 (by decide) w_941 rfl (by decide +kernel) (kok_int B) dX8_feed_2) ?_
  refine al_cons (eok_pure (pr_aload_n dX8_feed_5 rfl)) ?_
  refine al_cons (ok_get cl_X8 gX8 (by decide) w_943 dX8_feed_6) ?_
  refine al_cons (eok_pure (pr_bipush dX8_feed_9 (by decide))) ?_
  refine al_cons (eok_pure (pr_iadd dX8_feed_11)) ?_
  refine al_cons (eok_pure (pr_sipush dX8_feed_12 (by decide))) ?_
  refine al_cons (eok_pure (pr_icmp_le dX8_feed_15 (by decide))) ?_
  refine al_cons (eok_pure (pr_iconst dX8_feed_18 (by decide))) ?_
  refine al_cons (ok_retI rfl dX8_feed_19) ?_
  refine al_cons (eok_pure (pr_aload_n dX8_feed_20 rfl)) ?_
  refine al_cons (eok_pure (pr_iload_n dX8_feed_21 rfl)) ?_
  refine al_cons (ok_callV hok mi_96 cl_X8 w_927 w_929 w_29 w_82 w_931 na_96 (by decide) dX8_feed_22) ?_
  refine al_cons (eok_pure (pr_aload_n dX8_feed_25 rfl)) ?_
  refine al_cons (eok_pure (pr_iload_n dX8_feed_26 rfl)) ?_
  refine al_cons (ok_callV hok mi_96 cl_X8 w_927 w_929 w_29 w_82 w_931 na_96 (by decide) dX8_feed_27) ?_
  refine al_cons (eok_pure (pr_aload_n dX8_feed_30 rfl)) ?_
  refine al_cons (eok_pure (pr_iload_n dX8_feed_31 rfl)) ?_
  refine al_cons (ok_callV hok mi_96 cl_X8 w_927 w_929 w_29 w_82 w_931 na_96 (by decide) dX8_feed_32) ?_
  refine al_cons (eok_pure (pr_aload_n dX8_feed_35 rfl)) ?_
  refine al_cons (eok_pure (pr_iload dX8_feed_36)) ?_
  refine al_cons (ok_callV hok mi_96 cl_X8 w_927 w_929 w_29 w_82 w_931 na_96 (by decide) dX8_feed_38) ?_
  refine al_cons (eok_pure (pr_aload_n dX8_feed_41 rfl)) ?_
  refine al_cons (eok_pure (pr_iload dX8_feed_42)) ?_
  refine al_cons (ok_callV hok mi_96 cl_X8 w_927 w_929 w_29 w_82 w_931 na_96 (by decide) dX8_feed_44) ?_
  refine al_cons (eok_pure (pr_aload_n dX8_feed_47 rfl)) ?_
  refine al_cons (ok_get cl_X8 gX8 (by decide) w_943 dX8_feed_48) ?_
  refine al_cons (ok_retI rfl dX8_feed_51) ?_
  exact al_nil
def k_X8_end (md : Bool) : List Ent := [ePure 0 (fLoadA 0 1 0),
  ePure 1 (fPush 1 1 (.int 0)),
  ePut 2 8 0 kInt,
  ePure 5 (fLoadI 5 1 1),
  ePure 6 (fIf1 6 17 b1_lt),
  ePure 9 (fLoadI 9 1 1),
  ePure 10 (fLoadA 10 1 0),
  eGet 11 8 2,
  ePure 14 (fIf2 14 19 b2_le),
  ePure 17 (fPush 17 1 (.int 0)),
  eRetZ 18,
  ePure 19 (fLoadA 19 1 0),
  ePure 20 (fLoadI 20 1 1),
  ePut 21 8 2 kInt,
  ePure 24 (fPush 24 1 (.int 1)),
  eRetZ 25]
set_option maxRecDepth 100000 in
set_option maxHeartbeats 4000000 in
theorem ko_X8_end {l : Launch} {D : va_G} {cA : Nat → ClassId} {B : BB} {G : State → Prop} {md : Bool} {d : Nat} {call : Call} (hG : ∀ s, G s → Gs B s) (hok : COk l D cA B G md d mI call) : ∀ e ∈ k_X8_end md, EOk l RX8 cX8_end 2 (some .boolean) false D cA B G md d call e := by
  unfold k_X8_end
  refine al_cons (eok_pure (pr_aload_n dX8_end_0 rfl)) ?_
  refine al_cons (eok_pure (pr_iconst dX8_end_1 (by decide))) ?_
  refine al_cons (ok_put cl_X8 gX8 tyX8_ok nmX8 (by decide) w_941 rfl (by decide +kernel) (kok_int B) dX8_end_2) ?_
  refine al_cons (eok_pure (pr_iload_n dX8_end_5 rfl)) ?_
  refine al_cons (eok_pure (pr_if_lt dX8_end_6 (by decide))) ?_
  refine al_cons (eok_pure (pr_iload_n dX8_end_9 rfl)) ?_
  refine al_cons (eok_pure (pr_aload_n dX8_end_10 rfl)) ?_
  refine al_cons (ok_get cl_X8 gX8 (by decide) w_943 dX8_end_11) ?_
  refine al_cons (eok_pure (pr_icmp_le dX8_end_14 (by decide))) ?_
  refine al_cons (eok_pure (pr_iconst dX8_end_17 (by decide))) ?_
  refine al_cons (ok_retZ rfl dX8_end_18) ?_
  refine al_cons (eok_pure (pr_aload_n dX8_end_19 rfl)) ?_
  refine al_cons (eok_pure (pr_iload_n dX8_end_20 rfl)) ?_
  refine al_cons (ok_put cl_X8 gX8 tyX8_ok nmX8 (by decide) w_943 rfl (by decide +kernel) (kok_int B) dX8_end_21) ?_
  refine al_cons (eok_pure (pr_iconst dX8_end_24 (by decide))) ?_
  refine al_cons (ok_retZ rfl dX8_end_25) ?_
  exact al_nil
def k_X8_tapeAt (md : Bool) : List Ent := [ePure 0 (fLoadI 0 1 1),
  ePure 1 (fLoadA 1 1 0),
  eGet 2 8 3,
  ePure 5 (fIf2 5 17 b2_ge),
  ePure 8 (fLoadA 8 1 0),
  eGet 9 8 1,
  ePure 12 (fLoadI 12 1 1),
  eIald 13 0,
  ePure 14 (fGoto 18),
  ePure 17 (fPush 17 1 (.int 0)),
  eRetI 18]
set_option maxRecDepth 100000 in
set_option maxHeartbeats 4000000 in
theorem ko_X8_tapeAt {l : Launch} {D : va_G} {cA : Nat → ClassId} {B : BB} {G : State → Prop} {md : Bool} {d : Nat} {call : Call} (hG : ∀ s, G s → Gs B s) (hok : COk l D cA B G md d mI call) : ∀ e ∈ k_X8_tapeAt md, EOk l RX8 cX8_tapeAt 2 (some .int) false D cA B G md d call e := by
  unfold k_X8_tapeAt
  refine al_cons (eok_pure (pr_iload_n dX8_tapeAt_0 rfl)) ?_
  refine al_cons (eok_pure (pr_aload_n dX8_tapeAt_1 rfl)) ?_
  refine al_cons (ok_get cl_X8 gX8 (by decide) w_944 dX8_tapeAt_2) ?_
  refine al_cons (eok_pure (pr_icmp_ge dX8_tapeAt_5 (by decide))) ?_
  refine al_cons (eok_pure (pr_aload_n dX8_tapeAt_8 rfl)) ?_
  refine al_cons (ok_get cl_X8 gX8 (by decide) w_942 dX8_tapeAt_9) ?_
  refine al_cons (eok_pure (pr_iload_n dX8_tapeAt_12 rfl)) ?_
  refine al_cons (ok_iald dX8_tapeAt_13) ?_
  refine al_cons (eok_pure (pr_goto dX8_tapeAt_14 (by decide))) ?_
  refine al_cons (eok_pure (pr_iconst dX8_tapeAt_17 (by decide))) ?_
  refine al_cons (ok_retI rfl dX8_tapeAt_18) ?_
  exact al_nil
def k_X8_isDigit (md : Bool) : List Ent := [ePure 0 (fLoadI 0 1 0),
  ePure 1 (fPush 1 2 (.int 48)),
  ePure 3 (fIf2 3 16 b2_lt),
  ePure 6 (fLoadI 6 1 0),
  ePure 7 (fPush 7 2 (.int 57)),
  ePure 9 (fIf2 9 16 b2_gt),
  ePure 12 (fPush 12 1 (.int 1)),
  ePure 13 (fGoto 17),
  ePure 16 (fPush 16 1 (.int 0)),
  eRetZ 17]
set_option maxRecDepth 100000 in
set_option maxHeartbeats 4000000 in
theorem ko_X8_isDigit {l : Launch} {D : va_G} {cA : Nat → ClassId} {B : BB} {G : State → Prop} {md : Bool} {d : Nat} {call : Call} (hG : ∀ s, G s → Gs B s) (hok : COk l D cA B G md d mI call) : ∀ e ∈ k_X8_isDigit md, EOk l RX8 cX8_isDigit 1 (some .boolean) false D cA B G md d call e := by
  unfold k_X8_isDigit
  refine al_cons (eok_pure (pr_iload_n dX8_isDigit_0 rfl)) ?_
  refine al_cons (eok_pure (pr_bipush dX8_isDigit_1 (by decide))) ?_
  refine al_cons (eok_pure (pr_icmp_lt dX8_isDigit_3 (by decide))) ?_
  refine al_cons (eok_pure (pr_iload_n dX8_isDigit_6 rfl)) ?_
  refine al_cons (eok_pure (pr_bipush dX8_isDigit_7 (by decide))) ?_
  refine al_cons (eok_pure (pr_icmp_gt dX8_isDigit_9 (by decide))) ?_
  refine al_cons (eok_pure (pr_iconst dX8_isDigit_12 (by decide))) ?_
  refine al_cons (eok_pure (pr_goto dX8_isDigit_13 (by decide))) ?_
  refine al_cons (eok_pure (pr_iconst dX8_isDigit_16 (by decide))) ?_
  refine al_cons (ok_retZ rfl dX8_isDigit_17) ?_
  exact al_nil
def k_X8_isLetter (md : Bool) : List Ent := [ePure 0 (fLoadI 0 1 0),
  ePure 1 (fPush 1 2 (.int 97)),
  ePure 3 (fIf2 3 16 b2_lt),
  ePure 6 (fLoadI 6 1 0),
  ePure 7 (fPush 7 2 (.int 122)),
  ePure 9 (fIf2 9 16 b2_gt),
  ePure 12 (fPush 12 1 (.int 1)),
  ePure 13 (fGoto 17),
  ePure 16 (fPush 16 1 (.int 0)),
  eRetZ 17]
set_option maxRecDepth 100000 in
set_option maxHeartbeats 4000000 in
theorem ko_X8_isLetter {l : Launch} {D : va_G} {cA : Nat → ClassId} {B : BB} {G : State → Prop} {md : Bool} {d : Nat} {call : Call} (hG : ∀ s, G s → Gs B s) (hok : COk l D cA B G md d mI call) : ∀ e ∈ k_X8_isLetter md, EOk l RX8 cX8_isLetter 1 (some .boolean) false D cA B G md d call e := by
  unfold k_X8_isLetter
  refine al_cons (eok_pure (pr_iload_n dX8_isLetter_0 rfl)) ?_
  refine al_cons (eok_pure (pr_bipush dX8_isLetter_1 (by decide))) ?_
  refine al_cons (eok_pure (pr_icmp_lt dX8_isLetter_3 (by decide))) ?_
  refine al_cons (eok_pure (pr_iload_n dX8_isLetter_6 rfl)) ?_
  refine al_cons (eok_pure (pr_bipush dX8_isLetter_7 (by decide))) ?_
  refine al_cons (eok_pure (pr_icmp_gt dX8_isLetter_9 (by decide))) ?_
  refine al_cons (eok_pure (pr_iconst dX8_isLetter_12 (by decide))) ?_
  refine al_cons (eok_pure (pr_goto dX8_isLetter_13 (by decide))) ?_
  refine al_cons (eok_pure (pr_iconst dX8_isLetter_16 (by decide))) ?_
  refine al_cons (ok_retZ rfl dX8_isLetter_17) ?_
  exact al_nil
def k_X8_go (md : Bool) : List Ent := [ePure 0 (fLoadA 0 1 0),
  eGet 1 8 4,
  ePure 4 (fLoadA 4 1 0),
  eGet 5 8 3,
  ePure 8 (fIf2 8 52 b2_ge),
  ePure 11 (fLoadA 11 1 0),
  eGet 12 8 1,
  ePure 15 (fLoadA 15 1 0),
  eGet 16 8 4,
  eIald 19 0,
  ePure 20 (fPush 20 2 (.int 32)),
  ePure 22 (fIf2 22 39 b2_eq),
  ePure 25 (fLoadA 25 1 0),
  eGet 26 8 1,
  ePure 29 (fLoadA 29 1 0),
  eGet 30 8 4,
  eIald 33 0,
  ePure 34 (fPush 34 2 (.int 10)),
  ePure 36 (fIf2 36 52 b2_ne),
  ePure 39 (fLoadA 39 1 0),
  ePure 40 (fDup 40),
  eGet 41 8 4,
  ePure 44 (fPush 44 1 (.int 1)),
  ePure 45 (fBin 45 o_iadd),
  ePut 46 8 4 kInt,
  ePure 49 (fGoto 0),
  ePure 52 (fLoadA 52 1 0),
  ePure 53 (fLoadA 53 1 0),
  eGet 54 8 4,
  ePut 57 8 5 kInt,
  ePure 60 (fLoadA 60 1 0),
  eGet 61 8 3,
  ePure 64 (fPush 64 3 (.int 700)),
  ePure 67 (fIf2 67 93 b2_le),
  ePure 70 (fLoadA 70 1 0),
  eGet 71 8 5,
  ePure 74 (fPush 74 3 (.int 700)),
  ePure 77 (fIf2 77 93 b2_lt),
  ePure 80 (fLoadA 80 1 0),
  ePure 81 (fPush 81 3 (.int 700)),
  ePut 84 8 5 kInt,
  ePure 87 (fLoadA 87 1 0),
  ePure 88 (fPush 88 1 (.int 1)),
  ePut 89 8 6 kInt,
  eRetV 92,
  ePure 93 (fLoadA 93 1 0),
  eGet 94 8 4,
  ePure 97 (fLoadA 97 1 0),
  eGet 98 8 3,
  ePure 101 (fIf2 101 110 b2_lt),
  ePure 104 (fLoadA 104 1 0),
  ePure 105 (fPush 105 1 (.int 0)),
  ePut 106 8 6 kInt,
  eRetV 109,
  ePure 110 (fLoadA 110 1 0),
  eGet 111 8 1,
  ePure 114 (fLoadA 114 1 0),
  eGet 115 8 4,
  eIald 118 0,
  ePure 119 (fStoI 119 1 1 5),
  ePure 120 (fLoadI 120 1 1),
  eCallS 121 1 101,
  ePure 124 (fIf1 124 160 b1_ne),
  ePure 127 (fLoadI 127 1 1),
  eCallS 128 1 100,
  ePure 131 (fIf1 131 160 b1_ne),
  ePure 134 (fLoadA 134 1 0),
  ePure 135 (fLoadI 135 1 1),
  ePure 136 (fPush 136 2 (.int 59)),
  ePure 138 (fIf2 138 145 b2_ne),
  ePure 141 (fPush 141 1 (.int 4)),
  ePure 142 (fGoto 146),
  ePure 145 (fPush 145 1 (.int 1)),
  ePut 146 8 6 kInt,
  ePure 149 (fLoadA 149 1 0),
  ePure 150 (fDup 150),
  eGet 151 8 4,
  ePure 154 (fPush 154 1 (.int 1)),
  ePure 155 (fBin 155 o_iadd),
  ePut 156 8 4 kInt,
  eRetV 159,
  ePure 160 (fLoadI 160 1 1),
  eCallS 161 1 101,
  ePure 164 (fStoI 164 1 2 5),
  ePure 165 (fPush 165 1 (.int 1)),
  ePure 166 (fStoI 166 1 3 5),
  ePure 167 (fLoadA 167 1 0),
  ePure 168 (fPush 168 1 (.long 0)),
  ePut 169 8 10 kLong,
  ePure 172 (fLoadA 172 1 0),
  ePure 173 (fPush 173 1 (.int 0)),
  ePut 174 8 7 kInt,
  ePure 177 (fLoadA 177 1 0),
  ePure 178 (fLoadA 178 1 0),
  eGet 179 8 4,
  eCallV 182 1 99 8,
  eCallS 185 1 101,
  ePure 188 (fIf1 188 205 b1_ne),
  ePure 191 (fLoadA 191 1 0),
  ePure 192 (fLoadA 192 1 0),
  eGet 193 8 4,
  eCallV 196 1 99 8,
  eCallS 199 1 100,
  ePure 202 (fIf1 202 312 b1_eq),
  ePure 205 (fLoadA 205 1 0),
  eGet 206 8 1,
  ePure 209 (fLoadA 209 1 0),
  eGet 210 8 4,
  eIald 213 0,
  ePure 214 (fStoI 214 2 4 5),
  ePure 216 (fLoadI 216 1 3),
  ePure 217 (fIf1 217 233 b1_eq),
  ePure 220 (fLoadI 220 2 4),
  eCallS 222 1 101,
  ePure 225 (fLoadI 225 1 2),
  ePure 226 (fIf2 226 233 b2_ne),
  ePure 229 (fPush 229 1 (.int 1)),
  ePure 230 (fGoto 234),
  ePure 233 (fPush 233 1 (.int 0)),
  ePure 234 (fStoI 234 1 3 5),
  ePure 235 (fLoadA 235 1 0),
  eGet 236 8 4,
  ePure 239 (fLoadA 239 1 0),
  eGet 240 8 5,
  ePure 243 (fBin 243 o_isub),
  ePure 244 (fPush 244 2 (.int 12)),
  ePure 246 (fIf2 246 269 b2_ge),
  ePure 249 (fLoadA 249 1 0),
  ePure 250 (fPush 250 3 (.long 27)),
  ePure 253 (fLoadA 253 1 0),
  eGet 254 8 10,
  ePure 257 (fBinJ 257 o_lmul),
  ePure 258 (fLoadI 258 2 4),
  ePure 260 (f_i2l 260),
  ePure 261 (fBinJ 261 o_ladd),
  ePure 262 (fPush 262 3 (.long 96)),
  ePure 265 (fBinJ 265 o_lsub),
  ePut 266 8 10 kLong,
  ePure 269 (fLoadA 269 1 0),
  eGet 270 8 4,
  ePure 273 (fLoadA 273 1 0),
  eGet 274 8 5,
  ePure 277 (fBin 277 o_isub),
  ePure 278 (fPush 278 1 (.int 4)),
  ePure 279 (fIf2 279 299 b2_ge),
  ePure 282 (fLoadA 282 1 0),
  ePure 283 (fPush 283 2 (.int 10)),
  ePure 285 (fLoadA 285 1 0),
  eGet 286 8 7,
  ePure 289 (fBin 289 o_imul),
  ePure 290 (fLoadI 290 2 4),
  ePure 292 (fBin 292 o_iadd),
  ePure 293 (fPush 293 2 (.int 48)),
  ePure 295 (fBin 295 o_isub),
  ePut 296 8 7 kInt,
  ePure 299 (fLoadA 299 1 0),
  ePure 300 (fDup 300),
  eGet 301 8 4,
  ePure 304 (fPush 304 1 (.int 1)),
  ePure 305 (fBin 305 o_iadd),
  ePut 306 8 4 kInt,
  ePure 309 (fGoto 177),
  ePure 312 (fLoadA 312 1 0),
  ePure 313 (fLoadI 313 1 3),
  ePure 314 (fIf1 314 334 b1_eq),
  ePure 317 (fLoadI 317 1 2),
  ePure 318 (fIf1 318 338 b1_ne),
  ePure 321 (fLoadA 321 1 0),
  eGet 322 8 4,
  ePure 325 (fLoadA 325 1 0),
  eGet 326 8 5,
  ePure 329 (fBin 329 o_isub),
  ePure 330 (fPush 330 1 (.int 4)),
  ePure 331 (fIf2 331 338 b2_le),
  ePure 334 (fPush 334 1 (.int 1)),
  ePure 335 (fGoto 347),
  ePure 338 (fLoadI 338 1 2),
  ePure 339 (fIf1 339 346 b1_eq),
  ePure 342 (fPush 342 1 (.int 2)),
  ePure 343 (fGoto 347),
  ePure 346 (fPush 346 1 (.int 3)),
  ePut 347 8 6 kInt,
  eRetV 350]
set_option maxRecDepth 100000 in
set_option maxHeartbeats 4000000 in
theorem ko_X8_go {l : Launch} {D : va_G} {cA : Nat → ClassId} {B : BB} {G : State → Prop} {md : Bool} {d : Nat} {call : Call} (hG : ∀ s, G s → Gs B s) (hok : COk l D cA B G md d mI call) : ∀ e ∈ k_X8_go md, EOk l RX8 cX8_go 5 none false D cA B G md d call e := by
  unfold k_X8_go
  refine al_cons (eok_pure (pr_aload_n dX8_go_0 rfl)) ?_
  refine al_cons (ok_get cl_X8 gX8 (by decide) w_945 dX8_go_1) ?_
  refine al_cons (eok_pure (pr_aload_n dX8_go_4 rfl)) ?_
  refine al_cons (ok_get cl_X8 gX8 (by decide) w_944 dX8_go_5) ?_
  refine al_cons (eok_pure (pr_icmp_ge dX8_go_8 (by decide))) ?_
  refine al_cons (eok_pure (pr_aload_n dX8_go_11 rfl)) ?_
  refine al_cons (ok_get cl_X8 gX8 (by decide) w_942 dX8_go_12) ?_
  refine al_cons (eok_pure (pr_aload_n dX8_go_15 rfl)) ?_
  refine al_cons (ok_get cl_X8 gX8 (by decide) w_945 dX8_go_16) ?_
  refine al_cons (ok_iald dX8_go_19) ?_
  refine al_cons (eok_pure (pr_bipush dX8_go_20 (by decide))) ?_
  refine al_cons (eok_pure (pr_icmp_eq dX8_go_22 (by decide))) ?_
  refine al_cons (eok_pure (pr_aload_n dX8_go_25 rfl)) ?_
  refine al_cons (ok_get cl_X8 gX8 (by decide) w_942 dX8_go_26) ?_
  refine al_cons (eok_pure (pr_aload_n dX8_go_29 rfl)) ?_
  refine al_cons (ok_get cl_X8 gX8 (by decide) w_945 dX8_go_30) ?_
  refine al_cons (ok_iald dX8_go_33) ?_
  refine al_cons (eok_pure (pr_bipush dX8_go_34 (by decide))) ?_
  refine al_cons (eok_pure (pr_icmp_ne dX8_go_36 (by decide))) ?_
  refine al_cons (eok_pure (pr_aload_n dX8_go_39 rfl)) ?_
  refine al_cons (eok_pure (pr_dup dX8_go_40)) ?_
  refine al_cons (ok_get cl_X8 gX8 (by decide) w_945 dX8_go_41) ?_
  refine al_cons (eok_pure (pr_iconst dX8_go_44 (by decide))) ?_
  refine al_cons (eok_pure (pr_iadd dX8_go_45)) ?_
  refine al_cons (ok_put cl_X8 gX8 tyX8_ok nmX8 (by decide) w_945 rfl (by decide +kernel) (kok_int B) dX8_go_46) ?_
  refine al_cons (eok_pure (pr_goto dX8_go_49 (by decide))) ?_
  refine al_cons (eok_pure (pr_aload_n dX8_go_52 rfl)) ?_
  refine al_cons (eok_pure (pr_aload_n dX8_go_53 rfl)) ?_
  refine al_cons (ok_get cl_X8 gX8 (by decide) w_945 dX8_go_54) ?_
  refine al_cons (ok_put cl_X8 gX8 tyX8_ok nmX8 (by decide) w_946 rfl (by decide +kernel) (kok_int B) dX8_go_57) ?_
  refine al_cons (eok_pure (pr_aload_n dX8_go_60 rfl)) ?_
  refine al_cons (ok_get cl_X8 gX8 (by decide) w_944 dX8_go_61) ?_
  refine al_cons (eok_pure (pr_sipush dX8_go_64 (by decide))) ?_
  refine al_cons (eok_pure (pr_icmp_le dX8_go_67 (by decide))) ?_
  refine al_cons (eok_pure (pr_aload_n dX8_go_70 rfl)) ?_
  refine al_cons (ok_get cl_X8 gX8 (by decide) w_946 dX8_go_71) ?_
  refine al_cons (eok_pure (pr_sipush dX8_go_74 (by decide))) ?_
  refine al_cons (eok_pure (pr_icmp_lt dX8_go_77 (by decide))) ?_
  refine al_cons (eok_pure (pr_aload_n dX8_go_80 rfl)) ?_
  refine al_cons (eok_pure (pr_sipush dX8_go_81 (by decide))) ?_
  refine al_cons (ok_put cl_X8 gX8 tyX8_ok nmX8 (by decide) w_946 rfl (by decide +kernel) (kok_int B) dX8_go_84) ?_
  refine al_cons (eok_pure (pr_aload_n dX8_go_87 rfl)) ?_
  refine al_cons (eok_pure (pr_iconst dX8_go_88 (by decide))) ?_
  refine al_cons (ok_put cl_X8 gX8 tyX8_ok nmX8 (by decide) w_947 rfl (by decide +kernel) (kok_int B) dX8_go_89) ?_
  refine al_cons (ok_retV rfl dX8_go_92) ?_
  refine al_cons (eok_pure (pr_aload_n dX8_go_93 rfl)) ?_
  refine al_cons (ok_get cl_X8 gX8 (by decide) w_945 dX8_go_94) ?_
  refine al_cons (eok_pure (pr_aload_n dX8_go_97 rfl)) ?_
  refine al_cons (ok_get cl_X8 gX8 (by decide) w_944 dX8_go_98) ?_
  refine al_cons (eok_pure (pr_icmp_lt dX8_go_101 (by decide))) ?_
  refine al_cons (eok_pure (pr_aload_n dX8_go_104 rfl)) ?_
  refine al_cons (eok_pure (pr_iconst dX8_go_105 (by decide))) ?_
  refine al_cons (ok_put cl_X8 gX8 tyX8_ok nmX8 (by decide) w_947 rfl (by decide +kernel) (kok_int B) dX8_go_106) ?_
  refine al_cons (ok_retV rfl dX8_go_109) ?_
  refine al_cons (eok_pure (pr_aload_n dX8_go_110 rfl)) ?_
  refine al_cons (ok_get cl_X8 gX8 (by decide) w_942 dX8_go_111) ?_
  refine al_cons (eok_pure (pr_aload_n dX8_go_114 rfl)) ?_
  refine al_cons (ok_get cl_X8 gX8 (by decide) w_945 dX8_go_115) ?_
  refine al_cons (ok_iald dX8_go_118) ?_
  refine al_cons (eok_pure (pr_istore_n dX8_go_119 rfl)) ?_
  refine al_cons (eok_pure (pr_iload_n dX8_go_120 rfl)) ?_
  refine al_cons (ok_callS hok mi_101 w_1034 w_1035 w_82 w_1036 na_101 (by decide) dX8_go_121) ?_
  refine al_cons (eok_pure (pr_if_ne dX8_go_124 (by decide))) ?_
  refine al_cons (eok_pure (pr_iload_n dX8_go_127 rfl)) ?_
  refine al_cons (ok_callS hok mi_100 w_1037 w_1038 w_82 w_1039 na_100 (by decide) dX8_go_128) ?_
  refine al_cons (eok_pure (pr_if_ne dX8_go_131 (by decide))) ?_
  refine al_cons (eok_pure (pr_aload_n dX8_go_134 rfl)) ?_
  refine al_cons (eok_pure (pr_iload_n dX8_go_135 rfl)) ?_
  refine al_cons (eok_pure (pr_bipush dX8_go_136 (by decide))) ?_
  refine al_cons (eok_pure (pr_icmp_ne dX8_go_138 (by decide))) ?_
  refine al_cons (eok_pure (pr_iconst dX8_go_141 (by decide))) ?_
  refine al_cons (eok_pure (pr_goto dX8_go_142 (by decide))) ?_
  refine al_cons (eok_pure (pr_iconst dX8_go_145 (by decide))) ?_
  refine al_cons (ok_put cl_X8 gX8 tyX8_ok nmX8 (by decide) w_947 rfl (by decide +kernel) (kok_int B) dX8_go_146) ?_
  refine al_cons (eok_pure (pr_aload_n dX8_go_149 rfl)) ?_
  refine al_cons (eok_pure (pr_dup dX8_go_150)) ?_
  refine al_cons (ok_get cl_X8 gX8 (by decide) w_945 dX8_go_151) ?_
  refine al_cons (eok_pure (pr_iconst dX8_go_154 (by decide))) ?_
  refine al_cons (eok_pure (pr_iadd dX8_go_155)) ?_
  refine al_cons (ok_put cl_X8 gX8 tyX8_ok nmX8 (by decide) w_945 rfl (by decide +kernel) (kok_int B) dX8_go_156) ?_
  refine al_cons (ok_retV rfl dX8_go_159) ?_
  refine al_cons (eok_pure (pr_iload_n dX8_go_160 rfl)) ?_
  refine al_cons (ok_callS hok mi_101 w_1034 w_1035 w_82 w_1036 na_101 (by decide) dX8_go_161) ?_
  refine al_cons (eok_pure (pr_istore_n dX8_go_164 rfl)) ?_
  refine al_cons (eok_pure (pr_iconst dX8_go_165 (by decide))) ?_
  refine al_cons (eok_pure (pr_istore_n dX8_go_166 rfl)) ?_
  refine al_cons (eok_pure (pr_aload_n dX8_go_167 rfl)) ?_
  refine al_cons (eok_pure (pr_lconst dX8_go_168 (by decide))) ?_
  refine al_cons (ok_put cl_X8 gX8 tyX8_ok nmX8 (by decide) w_951 rfl (by decide +kernel) (kok_long B) dX8_go_169) ?_
  refine al_cons (eok_pure (pr_aload_n dX8_go_172 rfl)) ?_
  refine al_cons (eok_pure (pr_iconst dX8_go_173 (by decide))) ?_
  refine al_cons (ok_put cl_X8 gX8 tyX8_ok nmX8 (by decide) w_948 rfl (by decide +kernel) (kok_int B) dX8_go_174) ?_
  refine al_cons (eok_pure (pr_aload_n dX8_go_177 rfl)) ?_
  refine al_cons (eok_pure (pr_aload_n dX8_go_178 rfl)) ?_
  refine al_cons (ok_get cl_X8 gX8 (by decide) w_945 dX8_go_179) ?_
  refine al_cons (ok_callV hok mi_99 cl_X8 w_1040 w_1042 w_31 w_82 w_1043 na_99 (by decide) dX8_go_182) ?_
  refine al_cons (ok_callS hok mi_101 w_1034 w_1035 w_82 w_1036 na_101 (by decide) dX8_go_185) ?_
  refine al_cons (eok_pure (pr_if_ne dX8_go_188 (by decide))) ?_
  refine al_cons (eok_pure (pr_aload_n dX8_go_191 rfl)) ?_
  refine al_cons (eok_pure (pr_aload_n dX8_go_192 rfl)) ?_
  refine al_cons (ok_get cl_X8 gX8 (by decide) w_945 dX8_go_193) ?_
  refine al_cons (ok_callV hok mi_99 cl_X8 w_1040 w_1042 w_31 w_82 w_1043 na_99 (by decide) dX8_go_196) ?_
  refine al_cons (ok_callS hok mi_100 w_1037 w_1038 w_82 w_1039 na_100 (by decide) dX8_go_199) ?_
  refine al_cons (eok_pure (pr_if_eq dX8_go_202 (by decide))) ?_
  refine al_cons (eok_pure (pr_aload_n dX8_go_205 rfl)) ?_
  refine al_cons (ok_get cl_X8 gX8 (by decide) w_942 dX8_go_206) ?_
  refine al_cons (eok_pure (pr_aload_n dX8_go_209 rfl)) ?_
  refine al_cons (ok_get cl_X8 gX8 (by decide) w_945 dX8_go_210) ?_
  refine al_cons (ok_iald dX8_go_213) ?_
  refine al_cons (eok_pure (pr_istore dX8_go_214)) ?_
  refine al_cons (eok_pure (pr_iload_n dX8_go_216 rfl)) ?_
  refine al_cons (eok_pure (pr_if_eq dX8_go_217 (by decide))) ?_
  refine al_cons (eok_pure (pr_iload dX8_go_220)) ?_
  refine al_cons (ok_callS hok mi_101 w_1034 w_1035 w_82 w_1036 na_101 (by decide) dX8_go_222) ?_
  refine al_cons (eok_pure (pr_iload_n dX8_go_225 rfl)) ?_
  refine al_cons (eok_pure (pr_icmp_ne dX8_go_226 (by decide))) ?_
  refine al_cons (eok_pure (pr_iconst dX8_go_229 (by decide))) ?_
  refine al_cons (eok_pure (pr_goto dX8_go_230 (by decide))) ?_
  refine al_cons (eok_pure (pr_iconst dX8_go_233 (by decide))) ?_
  refine al_cons (eok_pure (pr_istore_n dX8_go_234 rfl)) ?_
  refine al_cons (eok_pure (pr_aload_n dX8_go_235 rfl)) ?_
  refine al_cons (ok_get cl_X8 gX8 (by decide) w_945 dX8_go_236) ?_
  refine al_cons (eok_pure (pr_aload_n dX8_go_239 rfl)) ?_
  refine al_cons (ok_get cl_X8 gX8 (by decide) w_946 dX8_go_240) ?_
  refine al_cons (eok_pure (pr_isub dX8_go_243)) ?_
  refine al_cons (eok_pure (pr_bipush dX8_go_244 (by decide))) ?_
  refine al_cons (eok_pure (pr_icmp_ge dX8_go_246 (by decide))) ?_
  refine al_cons (eok_pure (pr_aload_n dX8_go_249 rfl)) ?_
  refine al_cons (eok_pure (pr_ldc2 dX8_go_250 w_1044)) ?_
  refine al_cons (eok_pure (pr_aload_n dX8_go_253 rfl)) ?_
  refine al_cons (ok_get cl_X8 gX8 (by decide) w_951 dX8_go_254) ?_
  refine al_cons (eok_pure (pr_lmul dX8_go_257)) ?_
  refine al_cons (eok_pure (pr_iload dX8_go_258)) ?_
  refine al_cons (eok_pure (pr_i2l dX8_go_260)) ?_
  refine al_cons (eok_pure (pr_ladd dX8_go_261)) ?_
  refine al_cons (eok_pure (pr_ldc2 dX8_go_262 w_1045)) ?_
  refine al_cons (eok_pure (pr_lsub dX8_go_265)) ?_
  refine al_cons (ok_put cl_X8 gX8 tyX8_ok nmX8 (by decide) w_951 rfl (by decide +kernel) (kok_long B) dX8_go_266) ?_
  refine al_cons (eok_pure (pr_aload_n dX8_go_269 rfl)) ?_
  refine al_cons (ok_get cl_X8 gX8 (by decide) w_945 dX8_go_270) ?_
  refine al_cons (eok_pure (pr_aload_n dX8_go_273 rfl)) ?_
  refine al_cons (ok_get cl_X8 gX8 (by decide) w_946 dX8_go_274) ?_
  refine al_cons (eok_pure (pr_isub dX8_go_277)) ?_
  refine al_cons (eok_pure (pr_iconst dX8_go_278 (by decide))) ?_
  refine al_cons (eok_pure (pr_icmp_ge dX8_go_279 (by decide))) ?_
  refine al_cons (eok_pure (pr_aload_n dX8_go_282 rfl)) ?_
  refine al_cons (eok_pure (pr_bipush dX8_go_283 (by decide))) ?_
  refine al_cons (eok_pure (pr_aload_n dX8_go_285 rfl)) ?_
  refine al_cons (ok_get cl_X8 gX8 (by decide) w_948 dX8_go_286) ?_
  refine al_cons (eok_pure (pr_imul dX8_go_289)) ?_
  refine al_cons (eok_pure (pr_iload dX8_go_290)) ?_
  refine al_cons (eok_pure (pr_iadd dX8_go_292)) ?_
  refine al_cons (eok_pure (pr_bipush dX8_go_293 (by decide))) ?_
  refine al_cons (eok_pure (pr_isub dX8_go_295)) ?_
  refine al_cons (ok_put cl_X8 gX8 tyX8_ok nmX8 (by decide) w_948 rfl (by decide +kernel) (kok_int B) dX8_go_296) ?_
  refine al_cons (eok_pure (pr_aload_n dX8_go_299 rfl)) ?_
  refine al_cons (eok_pure (pr_dup dX8_go_300)) ?_
  refine al_cons (ok_get cl_X8 gX8 (by decide) w_945 dX8_go_301) ?_
  refine al_cons (eok_pure (pr_iconst dX8_go_304 (by decide))) ?_
  refine al_cons (eok_pure (pr_iadd dX8_go_305)) ?_
  refine al_cons (ok_put cl_X8 gX8 tyX8_ok nmX8 (by decide) w_945 rfl (by decide +kernel) (kok_int B) dX8_go_306) ?_
  refine al_cons (eok_pure (pr_goto dX8_go_309 (by decide))) ?_
  refine al_cons (eok_pure (pr_aload_n dX8_go_312 rfl)) ?_
  refine al_cons (eok_pure (pr_iload_n dX8_go_313 rfl)) ?_
  refine al_cons (eok_pure (pr_if_eq dX8_go_314 (by decide))) ?_
  refine al_cons (eok_pure (pr_iload_n dX8_go_317 rfl)) ?_
  refine al_cons (eok_pure (pr_if_ne dX8_go_318 (by decide))) ?_
  refine al_cons (eok_pure (pr_aload_n dX8_go_321 rfl)) ?_
  refine al_cons (ok_get cl_X8 gX8 (by decide) w_945 dX8_go_322) ?_
  refine al_cons (eok_pure (pr_aload_n dX8_go_325 rfl)) ?_
  refine al_cons (ok_get cl_X8 gX8 (by decide) w_946 dX8_go_326) ?_
  refine al_cons (eok_pure (pr_isub dX8_go_329)) ?_
  refine al_cons (eok_pure (pr_iconst dX8_go_330 (by decide))) ?_
  refine al_cons (eok_pure (pr_icmp_le dX8_go_331 (by decide))) ?_
  refine al_cons (eok_pure (pr_iconst dX8_go_334 (by decide))) ?_
  refine al_cons (eok_pure (pr_goto dX8_go_335 (by decide))) ?_
  refine al_cons (eok_pure (pr_iload_n dX8_go_338 rfl)) ?_
  refine al_cons (eok_pure (pr_if_eq dX8_go_339 (by decide))) ?_
  refine al_cons (eok_pure (pr_iconst dX8_go_342 (by decide))) ?_
  refine al_cons (eok_pure (pr_goto dX8_go_343 (by decide))) ?_
  refine al_cons (eok_pure (pr_iconst dX8_go_346 (by decide))) ?_
  refine al_cons (ok_put cl_X8 gX8 tyX8_ok nmX8 (by decide) w_947 rfl (by decide +kernel) (kok_int B) dX8_go_347) ?_
  refine al_cons (ok_retV rfl dX8_go_350) ?_
  exact al_nil
def k_X8_three (md : Bool) : List Ent := [ePure 0 (fPush 0 3 (.long 27)),
  ePure 3 (fPush 3 3 (.long 27)),
  ePure 6 (fLoadI 6 1 0),
  ePure 7 (f_i2l 7),
  ePure 8 (fPush 8 3 (.long 96)),
  ePure 11 (fBinJ 11 o_lsub),
  ePure 12 (fBinJ 12 o_lmul),
  ePure 13 (fLoadI 13 1 1),
  ePure 14 (f_i2l 14),
  ePure 15 (fBinJ 15 o_ladd),
  ePure 16 (fPush 16 3 (.long 96)),
  ePure 19 (fBinJ 19 o_lsub),
  ePure 20 (fBinJ 20 o_lmul),
  ePure 21 (fLoadI 21 1 2),
  ePure 22 (f_i2l 22),
  ePure 23 (fBinJ 23 o_ladd),
  ePure 24 (fPush 24 3 (.long 96)),
  ePure 27 (fBinJ 27 o_lsub),
  eRetJ 28]
set_option maxRecDepth 100000 in
set_option maxHeartbeats 4000000 in
theorem ko_X8_three {l : Launch} {D : va_G} {cA : Nat → ClassId} {B : BB} {G : State → Prop} {md : Bool} {d : Nat} {call : Call} (hG : ∀ s, G s → Gs B s) (hok : COk l D cA B G md d mI call) : ∀ e ∈ k_X8_three md, EOk l RX8 cX8_three 3 (some .long) false D cA B G md d call e := by
  unfold k_X8_three
  refine al_cons (eok_pure (pr_ldc2 dX8_three_0 w_1044)) ?_
  refine al_cons (eok_pure (pr_ldc2 dX8_three_3 w_1044)) ?_
  refine al_cons (eok_pure (pr_iload_n dX8_three_6 rfl)) ?_
  refine al_cons (eok_pure (pr_i2l dX8_three_7)) ?_
  refine al_cons (eok_pure (pr_ldc2 dX8_three_8 w_1045)) ?_
  refine al_cons (eok_pure (pr_lsub dX8_three_11)) ?_
  refine al_cons (eok_pure (pr_lmul dX8_three_12)) ?_
  refine al_cons (eok_pure (pr_iload_n dX8_three_13 rfl)) ?_
  refine al_cons (eok_pure (pr_i2l dX8_three_14)) ?_
  refine al_cons (eok_pure (pr_ladd dX8_three_15)) ?_
  refine al_cons (eok_pure (pr_ldc2 dX8_three_16 w_1045)) ?_
  refine al_cons (eok_pure (pr_lsub dX8_three_19)) ?_
  refine al_cons (eok_pure (pr_lmul dX8_three_20)) ?_
  refine al_cons (eok_pure (pr_iload_n dX8_three_21 rfl)) ?_
  refine al_cons (eok_pure (pr_i2l dX8_three_22)) ?_
  refine al_cons (eok_pure (pr_ladd dX8_three_23)) ?_
  refine al_cons (eok_pure (pr_ldc2 dX8_three_24 w_1045)) ?_
  refine al_cons (eok_pure (pr_lsub dX8_three_27)) ?_
  refine al_cons (ok_retJ rfl dX8_three_28) ?_
  exact al_nil
def k_X8_six (md : Bool) : List Ent := [ePure 0 (fPush 0 3 (.long 19683)),
  ePure 3 (fLoadI 3 1 0),
  ePure 4 (fLoadI 4 1 1),
  ePure 5 (fLoadI 5 1 2),
  eCallS 6 3 103,
  ePure 9 (fBinJ 9 o_lmul),
  ePure 10 (fLoadI 10 1 3),
  ePure 11 (fLoadI 11 2 4),
  ePure 13 (fLoadI 13 2 5),
  eCallS 15 3 103,
  ePure 18 (fBinJ 18 o_ladd),
  eRetJ 19]
set_option maxRecDepth 100000 in
set_option maxHeartbeats 4000000 in
theorem ko_X8_six {l : Launch} {D : va_G} {cA : Nat → ClassId} {B : BB} {G : State → Prop} {md : Bool} {d : Nat} {call : Call} (hG : ∀ s, G s → Gs B s) (hok : COk l D cA B G md d mI call) : ∀ e ∈ k_X8_six md, EOk l RX8 cX8_six 6 (some .long) false D cA B G md d call e := by
  unfold k_X8_six
  refine al_cons (eok_pure (pr_ldc2 dX8_six_0 w_1057)) ?_
  refine al_cons (eok_pure (pr_iload_n dX8_six_3 rfl)) ?_
  refine al_cons (eok_pure (pr_iload_n dX8_six_4 rfl)) ?_
  refine al_cons (eok_pure (pr_iload_n dX8_six_5 rfl)) ?_
  refine al_cons (ok_callS hok mi_103 w_1058 w_1059 w_82 w_1060 na_103 (by decide) dX8_six_6) ?_
  refine al_cons (eok_pure (pr_lmul dX8_six_9)) ?_
  refine al_cons (eok_pure (pr_iload_n dX8_six_10 rfl)) ?_
  refine al_cons (eok_pure (pr_iload dX8_six_11)) ?_
  refine al_cons (eok_pure (pr_iload dX8_six_13)) ?_
  refine al_cons (ok_callS hok mi_103 w_1058 w_1059 w_82 w_1060 na_103 (by decide) dX8_six_15) ?_
  refine al_cons (eok_pure (pr_ladd dX8_six_18)) ?_
  refine al_cons (ok_retJ rfl dX8_six_19) ?_
  exact al_nil
def k_X8_four (md : Bool) : List Ent := [ePure 0 (fPush 0 3 (.long 27)),
  ePure 3 (fLoadI 3 1 0),
  ePure 4 (fLoadI 4 1 1),
  ePure 5 (fLoadI 5 1 2),
  eCallS 6 3 103,
  ePure 9 (fBinJ 9 o_lmul),
  ePure 10 (fLoadI 10 1 3),
  ePure 11 (f_i2l 11),
  ePure 12 (fBinJ 12 o_ladd),
  ePure 13 (fPush 13 3 (.long 96)),
  ePure 16 (fBinJ 16 o_lsub),
  eRetJ 17]
set_option maxRecDepth 100000 in
set_option maxHeartbeats 4000000 in
theorem ko_X8_four {l : Launch} {D : va_G} {cA : Nat → ClassId} {B : BB} {G : State → Prop} {md : Bool} {d : Nat} {call : Call} (hG : ∀ s, G s → Gs B s) (hok : COk l D cA B G md d mI call) : ∀ e ∈ k_X8_four md, EOk l RX8 cX8_four 4 (some .long) false D cA B G md d call e := by
  unfold k_X8_four
  refine al_cons (eok_pure (pr_ldc2 dX8_four_0 w_1044)) ?_
  refine al_cons (eok_pure (pr_iload_n dX8_four_3 rfl)) ?_
  refine al_cons (eok_pure (pr_iload_n dX8_four_4 rfl)) ?_
  refine al_cons (eok_pure (pr_iload_n dX8_four_5 rfl)) ?_
  refine al_cons (ok_callS hok mi_103 w_1058 w_1059 w_82 w_1060 na_103 (by decide) dX8_four_6) ?_
  refine al_cons (eok_pure (pr_lmul dX8_four_9)) ?_
  refine al_cons (eok_pure (pr_iload_n dX8_four_10 rfl)) ?_
  refine al_cons (eok_pure (pr_i2l dX8_four_11)) ?_
  refine al_cons (eok_pure (pr_ladd dX8_four_12)) ?_
  refine al_cons (eok_pure (pr_ldc2 dX8_four_13 w_1045)) ?_
  refine al_cons (eok_pure (pr_lsub dX8_four_16)) ?_
  refine al_cons (ok_retJ rfl dX8_four_17) ?_
  exact al_nil
def k_X8_isWord (md : Bool) : List Ent := [ePure 0 (fLoadA 0 1 0),
  eGet 1 8 6,
  ePure 4 (fPush 4 1 (.int 2)),
  ePure 5 (fIf2 5 21 b2_ne),
  ePure 8 (fLoadA 8 1 0),
  eGet 9 8 10,
  ePure 12 (fLoadJ 12 1 1),
  ePure 13 (fLcmp 13),
  ePure 14 (fIf1 14 21 b1_ne),
  ePure 17 (fPush 17 1 (.int 1)),
  ePure 18 (fGoto 22),
  ePure 21 (fPush 21 1 (.int 0)),
  eRetZ 22]
set_option maxRecDepth 100000 in
set_option maxHeartbeats 4000000 in
theorem ko_X8_isWord {l : Launch} {D : va_G} {cA : Nat → ClassId} {B : BB} {G : State → Prop} {md : Bool} {d : Nat} {call : Call} (hG : ∀ s, G s → Gs B s) (hok : COk l D cA B G md d mI call) : ∀ e ∈ k_X8_isWord md, EOk l RX8 cX8_isWord 3 (some .boolean) false D cA B G md d call e := by
  unfold k_X8_isWord
  refine al_cons (eok_pure (pr_aload_n dX8_isWord_0 rfl)) ?_
  refine al_cons (ok_get cl_X8 gX8 (by decide) w_947 dX8_isWord_1) ?_
  refine al_cons (eok_pure (pr_iconst dX8_isWord_4 (by decide))) ?_
  refine al_cons (eok_pure (pr_icmp_ne dX8_isWord_5 (by decide))) ?_
  refine al_cons (eok_pure (pr_aload_n dX8_isWord_8 rfl)) ?_
  refine al_cons (ok_get cl_X8 gX8 (by decide) w_951 dX8_isWord_9) ?_
  refine al_cons (eok_pure (pr_lload_n dX8_isWord_12 rfl)) ?_
  refine al_cons (eok_pure (pr_lcmp dX8_isWord_13)) ?_
  refine al_cons (eok_pure (pr_if_ne dX8_isWord_14 (by decide))) ?_
  refine al_cons (eok_pure (pr_iconst dX8_isWord_17 (by decide))) ?_
  refine al_cons (eok_pure (pr_goto dX8_isWord_18 (by decide))) ?_
  refine al_cons (eok_pure (pr_iconst dX8_isWord_21 (by decide))) ?_
  refine al_cons (ok_retZ rfl dX8_isWord_22) ?_
  exact al_nil
def k_X8_bad (md : Bool) : List Ent := [ePure 0 (fLoadA 0 1 0),
  ePure 1 (fLoadA 1 1 0),
  eGet 2 8 6,
  ePure 5 (fPush 5 1 (.int 1)),
  ePure 6 (fIf2 6 13 b2_ne),
  ePure 9 (fPush 9 1 (.int 1)),
  ePure 10 (fGoto 14),
  ePure 13 (fLoadI 13 1 1),
  ePut 14 8 8 kInt,
  ePure 17 (fLoadA 17 1 0),
  ePure 18 (fLoadA 18 1 0),
  eGet 19 8 5,
  ePut 22 8 9 kInt,
  ePure 25 (fPush 25 1 (.int 0)),
  eRetZ 26]
set_option maxRecDepth 100000 in
set_option maxHeartbeats 4000000 in
theorem ko_X8_bad {l : Launch} {D : va_G} {cA : Nat → ClassId} {B : BB} {G : State → Prop} {md : Bool} {d : Nat} {call : Call} (hG : ∀ s, G s → Gs B s) (hok : COk l D cA B G md d mI call) : ∀ e ∈ k_X8_bad md, EOk l RX8 cX8_bad 2 (some .boolean) false D cA B G md d call e := by
  unfold k_X8_bad
  refine al_cons (eok_pure (pr_aload_n dX8_bad_0 rfl)) ?_
  refine al_cons (eok_pure (pr_aload_n dX8_bad_1 rfl)) ?_
  refine al_cons (ok_get cl_X8 gX8 (by decide) w_947 dX8_bad_2) ?_
  refine al_cons (eok_pure (pr_iconst dX8_bad_5 (by decide))) ?_
  refine al_cons (eok_pure (pr_icmp_ne dX8_bad_6 (by decide))) ?_
  refine al_cons (eok_pure (pr_iconst dX8_bad_9 (by decide))) ?_
  refine al_cons (eok_pure (pr_goto dX8_bad_10 (by decide))) ?_
  refine al_cons (eok_pure (pr_iload_n dX8_bad_13 rfl)) ?_
  refine al_cons (ok_put cl_X8 gX8 tyX8_ok nmX8 (by decide) w_949 rfl (by decide +kernel) (kok_int B) dX8_bad_14) ?_
  refine al_cons (eok_pure (pr_aload_n dX8_bad_17 rfl)) ?_
  refine al_cons (eok_pure (pr_aload_n dX8_bad_18 rfl)) ?_
  refine al_cons (ok_get cl_X8 gX8 (by decide) w_946 dX8_bad_19) ?_
  refine al_cons (ok_put cl_X8 gX8 tyX8_ok nmX8 (by decide) w_950 rfl (by decide +kernel) (kok_int B) dX8_bad_22) ?_
  refine al_cons (eok_pure (pr_iconst dX8_bad_25 (by decide))) ?_
  refine al_cons (ok_retZ rfl dX8_bad_26) ?_
  exact al_nil
def k_X8_init (md : Bool) : List Ent := [ePure 0 (fLoadA 0 1 0),
  eObj 1,
  ePure 4 (fLoadA 4 1 0),
  ePure 5 (fPush 5 3 (.int 740)),
  eNewI md 8 0,
  ePut 10 8 1 kRef,
  ePure 13 (fLoadA 13 1 0),
  ePure 14 (fPush 14 3 (.int 157)),
  eNewI md 17 0,
  ePut 19 8 11 kRef,
  ePure 22 (fLoadA 22 1 0),
  ePure 23 (fPush 23 3 (.int 157)),
  eNewI md 26 0,
  ePut 28 8 12 kRef,
  ePure 31 (fLoadA 31 1 0),
  ePure 32 (fPush 32 3 (.int 1570)),
  eNewI md 35 0,
  ePut 37 8 13 kRef,
  ePure 40 (fLoadA 40 1 0),
  ePure 41 (fPush 41 1 (.int 5)),
  eNewI md 42 0,
  ePut 44 8 16 kRef,
  ePure 47 (fLoadA 47 1 0),
  ePure 48 (fPush 48 1 (.int 5)),
  eNewI md 49 0,
  ePut 51 8 17 kRef,
  ePure 54 (fLoadA 54 1 0),
  ePure 55 (fPush 55 1 (.int 5)),
  eNewI md 56 0,
  ePut 58 8 18 kRef,
  ePure 61 (fLoadA 61 1 0),
  ePure 62 (fPush 62 1 (.int 5)),
  eNewI md 63 0,
  ePut 65 8 19 kRef,
  ePure 68 (fLoadA 68 1 0),
  ePure 69 (fPush 69 1 (.int 5)),
  eNewI md 70 0,
  ePut 72 8 20 kRef,
  ePure 75 (fLoadA 75 1 0),
  ePure 76 (fPush 76 1 (.int 5)),
  eNewI md 77 0,
  ePut 79 8 22 kRef,
  ePure 82 (fLoadA 82 1 0),
  ePure 83 (fPush 83 1 (.int 5)),
  eNewI md 84 0,
  ePut 86 8 23 kRef,
  ePure 89 (fLoadA 89 1 0),
  ePure 90 (fPush 90 1 (.int 5)),
  eNewI md 91 0,
  ePut 93 8 24 kRef,
  ePure 96 (fLoadA 96 1 0),
  ePure 97 (fPush 97 1 (.int 5)),
  eNewI md 98 0,
  ePut 100 8 25 kRef,
  ePure 103 (fLoadA 103 1 0),
  eGet 104 8 11,
  ePure 107 (fPush 107 1 (.int 0)),
  ePure 108 (fPush 108 1 (.int 1)),
  eIast 109 0 (fun x => x),
  eRetV 110]
set_option maxRecDepth 100000 in
set_option maxHeartbeats 4000000 in
theorem ko_X8_init {l : Launch} {D : va_G} {cA : Nat → ClassId} {B : BB} {G : State → Prop} {md : Bool} {d : Nat} {call : Call} (hG : ∀ s, G s → Gs B s) (hok : COk l D cA B G md d mI call) : ∀ e ∈ k_X8_init md, EOk l RX8 cX8_init 1 none true D cA B G md d call e := by
  unfold k_X8_init
  refine al_cons (eok_pure (pr_aload_n dX8_init_0 rfl)) ?_
  refine al_cons (ok_obj w_940 w_99 w_100 dX8_init_1) ?_
  refine al_cons (eok_pure (pr_aload_n dX8_init_4 rfl)) ?_
  refine al_cons (eok_pure (pr_sipush dX8_init_5 (by decide))) ?_
  refine al_cons (ok_newi w_145 dX8_init_8) ?_
  refine al_cons (ok_putF rfl cl_X8 gX8 tyX8_ok nmX8 (by decide) w_942 rfl rfl (by decide +kernel) (kok_arr B .int) dX8_init_10) ?_
  refine al_cons (eok_pure (pr_aload_n dX8_init_13 rfl)) ?_
  refine al_cons (eok_pure (pr_sipush dX8_init_14 (by decide))) ?_
  refine al_cons (ok_newi w_145 dX8_init_17) ?_
  refine al_cons (ok_putF rfl cl_X8 gX8 tyX8_ok nmX8 (by decide) w_952 rfl rfl (by decide +kernel) (kok_arr B .int) dX8_init_19) ?_
  refine al_cons (eok_pure (pr_aload_n dX8_init_22 rfl)) ?_
  refine al_cons (eok_pure (pr_sipush dX8_init_23 (by decide))) ?_
  refine al_cons (ok_newi w_145 dX8_init_26) ?_
  refine al_cons (ok_putF rfl cl_X8 gX8 tyX8_ok nmX8 (by decide) w_953 rfl rfl (by decide +kernel) (kok_arr B .int) dX8_init_28) ?_
  refine al_cons (eok_pure (pr_aload_n dX8_init_31 rfl)) ?_
  refine al_cons (eok_pure (pr_sipush dX8_init_32 (by decide))) ?_
  refine al_cons (ok_newi w_145 dX8_init_35) ?_
  refine al_cons (ok_putF rfl cl_X8 gX8 tyX8_ok nmX8 (by decide) w_954 rfl rfl (by decide +kernel) (kok_arr B .int) dX8_init_37) ?_
  refine al_cons (eok_pure (pr_aload_n dX8_init_40 rfl)) ?_
  refine al_cons (eok_pure (pr_iconst dX8_init_41 (by decide))) ?_
  refine al_cons (ok_newi w_145 dX8_init_42) ?_
  refine al_cons (ok_putF rfl cl_X8 gX8 tyX8_ok nmX8 (by decide) w_957 rfl rfl (by decide +kernel) (kok_arr B .int) dX8_init_44) ?_
  refine al_cons (eok_pure (pr_aload_n dX8_init_47 rfl)) ?_
  refine al_cons (eok_pure (pr_iconst dX8_init_48 (by decide))) ?_
  refine al_cons (ok_newi w_145 dX8_init_49) ?_
  refine al_cons (ok_putF rfl cl_X8 gX8 tyX8_ok nmX8 (by decide) w_958 rfl rfl (by decide +kernel) (kok_arr B .int) dX8_init_51) ?_
  refine al_cons (eok_pure (pr_aload_n dX8_init_54 rfl)) ?_
  refine al_cons (eok_pure (pr_iconst dX8_init_55 (by decide))) ?_
  refine al_cons (ok_newi w_145 dX8_init_56) ?_
  refine al_cons (ok_putF rfl cl_X8 gX8 tyX8_ok nmX8 (by decide) w_959 rfl rfl (by decide +kernel) (kok_arr B .int) dX8_init_58) ?_
  refine al_cons (eok_pure (pr_aload_n dX8_init_61 rfl)) ?_
  refine al_cons (eok_pure (pr_iconst dX8_init_62 (by decide))) ?_
  refine al_cons (ok_newi w_145 dX8_init_63) ?_
  refine al_cons (ok_putF rfl cl_X8 gX8 tyX8_ok nmX8 (by decide) w_960 rfl rfl (by decide +kernel) (kok_arr B .int) dX8_init_65) ?_
  refine al_cons (eok_pure (pr_aload_n dX8_init_68 rfl)) ?_
  refine al_cons (eok_pure (pr_iconst dX8_init_69 (by decide))) ?_
  refine al_cons (ok_newi w_145 dX8_init_70) ?_
  refine al_cons (ok_putF rfl cl_X8 gX8 tyX8_ok nmX8 (by decide) w_961 rfl rfl (by decide +kernel) (kok_arr B .int) dX8_init_72) ?_
  refine al_cons (eok_pure (pr_aload_n dX8_init_75 rfl)) ?_
  refine al_cons (eok_pure (pr_iconst dX8_init_76 (by decide))) ?_
  refine al_cons (ok_newi w_145 dX8_init_77) ?_
  refine al_cons (ok_putF rfl cl_X8 gX8 tyX8_ok nmX8 (by decide) w_963 rfl rfl (by decide +kernel) (kok_arr B .int) dX8_init_79) ?_
  refine al_cons (eok_pure (pr_aload_n dX8_init_82 rfl)) ?_
  refine al_cons (eok_pure (pr_iconst dX8_init_83 (by decide))) ?_
  refine al_cons (ok_newi w_145 dX8_init_84) ?_
  refine al_cons (ok_putF rfl cl_X8 gX8 tyX8_ok nmX8 (by decide) w_964 rfl rfl (by decide +kernel) (kok_arr B .int) dX8_init_86) ?_
  refine al_cons (eok_pure (pr_aload_n dX8_init_89 rfl)) ?_
  refine al_cons (eok_pure (pr_iconst dX8_init_90 (by decide))) ?_
  refine al_cons (ok_newi w_145 dX8_init_91) ?_
  refine al_cons (ok_putF rfl cl_X8 gX8 tyX8_ok nmX8 (by decide) w_965 rfl rfl (by decide +kernel) (kok_arr B .int) dX8_init_93) ?_
  refine al_cons (eok_pure (pr_aload_n dX8_init_96 rfl)) ?_
  refine al_cons (eok_pure (pr_iconst dX8_init_97 (by decide))) ?_
  refine al_cons (ok_newi w_145 dX8_init_98) ?_
  refine al_cons (ok_putF rfl cl_X8 gX8 tyX8_ok nmX8 (by decide) w_966 rfl rfl (by decide +kernel) (kok_arr B .int) dX8_init_100) ?_
  refine al_cons (eok_pure (pr_aload_n dX8_init_103 rfl)) ?_
  refine al_cons (ok_get cl_X8 gX8 (by decide) w_952 dX8_init_104) ?_
  refine al_cons (eok_pure (pr_iconst dX8_init_107 (by decide))) ?_
  refine al_cons (eok_pure (pr_iconst dX8_init_108 (by decide))) ?_
  refine al_cons (ok_iast dX8_init_109) ?_
  refine al_cons (ok_retV rfl dX8_init_110) ?_
  exact al_nil
def k_X8_told (md : Bool) : List Ent := [ePure 0 (fLoadA 0 1 0),
  eGet 1 8 6,
  ePure 4 (fPush 4 1 (.int 3)),
  ePure 5 (fIf2 5 14 b2_eq),
  ePure 8 (fLoadA 8 1 0),
  ePure 9 (fPush 9 1 (.int 1)),
  eCallV 10 1 107 8,
  eRetZ 13,
  ePure 14 (fLoadA 14 1 0),
  eGet 15 8 7,
  ePure 18 (fLoadI 18 1 2),
  ePure 19 (fLoadI 19 1 3),
  eCallS 20 3 94,
  ePure 23 (fIf1 23 32 b1_ne),
  ePure 26 (fLoadA 26 1 0),
  ePure 27 (fPush 27 1 (.int 2)),
  eCallV 28 1 107 8,
  eRetZ 31,
  ePure 32 (fLoadA 32 1 0),
  eGet 33 8 12,
  ePure 36 (fLoadI 36 1 1),
  ePure 37 (fLoadA 37 1 0),
  eGet 38 8 7,
  eIast 41 0 (fun x => x),
  ePure 42 (fLoadA 42 1 0),
  eCallV 43 0 102 8,
  ePure 46 (fPush 46 1 (.int 1)),
  eRetZ 47]
set_option maxRecDepth 100000 in
set_option maxHeartbeats 4000000 in
theorem ko_X8_told {l : Launch} {D : va_G} {cA : Nat → ClassId} {B : BB} {G : State → Prop} {md : Bool} {d : Nat} {call : Call} (hG : ∀ s, G s → Gs B s) (hok : COk l D cA B G md d mI call) : ∀ e ∈ k_X8_told md, EOk l RX8 cX8_told 4 (some .boolean) false D cA B G md d call e := by
  unfold k_X8_told
  refine al_cons (eok_pure (pr_aload_n dX8_told_0 rfl)) ?_
  refine al_cons (ok_get cl_X8 gX8 (by decide) w_947 dX8_told_1) ?_
  refine al_cons (eok_pure (pr_iconst dX8_told_4 (by decide))) ?_
  refine al_cons (eok_pure (pr_icmp_eq dX8_told_5 (by decide))) ?_
  refine al_cons (eok_pure (pr_aload_n dX8_told_8 rfl)) ?_
  refine al_cons (eok_pure (pr_iconst dX8_told_9 (by decide))) ?_
  refine al_cons (ok_callV hok mi_107 cl_X8 w_1065 w_1067 w_35 w_82 w_1068 na_107 (by decide) dX8_told_10) ?_
  refine al_cons (ok_retZ rfl dX8_told_13) ?_
  refine al_cons (eok_pure (pr_aload_n dX8_told_14 rfl)) ?_
  refine al_cons (ok_get cl_X8 gX8 (by decide) w_948 dX8_told_15) ?_
  refine al_cons (eok_pure (pr_iload_n dX8_told_18 rfl)) ?_
  refine al_cons (eok_pure (pr_iload_n dX8_told_19 rfl)) ?_
  refine al_cons (ok_callS hok mi_94 w_1073 w_1074 w_82 w_1075 na_94 (by decide) dX8_told_20) ?_
  refine al_cons (eok_pure (pr_if_ne dX8_told_23 (by decide))) ?_
  refine al_cons (eok_pure (pr_aload_n dX8_told_26 rfl)) ?_
  refine al_cons (eok_pure (pr_iconst dX8_told_27 (by decide))) ?_
  refine al_cons (ok_callV hok mi_107 cl_X8 w_1065 w_1067 w_35 w_82 w_1068 na_107 (by decide) dX8_told_28) ?_
  refine al_cons (ok_retZ rfl dX8_told_31) ?_
  refine al_cons (eok_pure (pr_aload_n dX8_told_32 rfl)) ?_
  refine al_cons (ok_get cl_X8 gX8 (by decide) w_953 dX8_told_33) ?_
  refine al_cons (eok_pure (pr_iload_n dX8_told_36 rfl)) ?_
  refine al_cons (eok_pure (pr_aload_n dX8_told_37 rfl)) ?_
  refine al_cons (ok_get cl_X8 gX8 (by decide) w_948 dX8_told_38) ?_
  refine al_cons (ok_iast dX8_told_41) ?_
  refine al_cons (eok_pure (pr_aload_n dX8_told_42 rfl)) ?_
  refine al_cons (ok_callV hok mi_102 cl_X8 w_1030 w_1032 w_30 w_82 w_1033 na_102 (by decide) dX8_told_43) ?_
  refine al_cons (eok_pure (pr_iconst dX8_told_46 (by decide))) ?_
  refine al_cons (ok_retZ rfl dX8_told_47) ?_
  exact al_nil
def k_X8_oneOf (md : Bool) : List Ent := [ePure 0 (fLoadA 0 1 0),
  eGet 1 8 6,
  ePure 4 (fPush 4 1 (.int 3)),
  ePure 5 (fIf2 5 14 b2_eq),
  ePure 8 (fLoadA 8 1 0),
  ePure 9 (fPush 9 1 (.int 1)),
  eCallV 10 1 107 8,
  eRetZ 13,
  ePure 14 (fLoadA 14 1 0),
  eGet 15 8 7,
  ePure 18 (fLoadI 18 1 1),
  ePure 19 (fIf2 19 28 b2_lt),
  ePure 22 (fLoadA 22 1 0),
  ePure 23 (fPush 23 1 (.int 2)),
  eCallV 24 1 107 8,
  eRetZ 27,
  ePure 28 (fLoadA 28 1 0),
  ePure 29 (fLoadA 29 1 0),
  eGet 30 8 7,
  ePut 33 8 15 kInt,
  ePure 36 (fLoadA 36 1 0),
  eCallV 37 0 102 8,
  ePure 40 (fPush 40 1 (.int 1)),
  eRetZ 41]
set_option maxRecDepth 100000 in
set_option maxHeartbeats 4000000 in
theorem ko_X8_oneOf {l : Launch} {D : va_G} {cA : Nat → ClassId} {B : BB} {G : State → Prop} {md : Bool} {d : Nat} {call : Call} (hG : ∀ s, G s → Gs B s) (hok : COk l D cA B G md d mI call) : ∀ e ∈ k_X8_oneOf md, EOk l RX8 cX8_oneOf 2 (some .boolean) false D cA B G md d call e := by
  unfold k_X8_oneOf
  refine al_cons (eok_pure (pr_aload_n dX8_oneOf_0 rfl)) ?_
  refine al_cons (ok_get cl_X8 gX8 (by decide) w_947 dX8_oneOf_1) ?_
  refine al_cons (eok_pure (pr_iconst dX8_oneOf_4 (by decide))) ?_
  refine al_cons (eok_pure (pr_icmp_eq dX8_oneOf_5 (by decide))) ?_
  refine al_cons (eok_pure (pr_aload_n dX8_oneOf_8 rfl)) ?_
  refine al_cons (eok_pure (pr_iconst dX8_oneOf_9 (by decide))) ?_
  refine al_cons (ok_callV hok mi_107 cl_X8 w_1065 w_1067 w_35 w_82 w_1068 na_107 (by decide) dX8_oneOf_10) ?_
  refine al_cons (ok_retZ rfl dX8_oneOf_13) ?_
  refine al_cons (eok_pure (pr_aload_n dX8_oneOf_14 rfl)) ?_
  refine al_cons (ok_get cl_X8 gX8 (by decide) w_948 dX8_oneOf_15) ?_
  refine al_cons (eok_pure (pr_iload_n dX8_oneOf_18 rfl)) ?_
  refine al_cons (eok_pure (pr_icmp_lt dX8_oneOf_19 (by decide))) ?_
  refine al_cons (eok_pure (pr_aload_n dX8_oneOf_22 rfl)) ?_
  refine al_cons (eok_pure (pr_iconst dX8_oneOf_23 (by decide))) ?_
  refine al_cons (ok_callV hok mi_107 cl_X8 w_1065 w_1067 w_35 w_82 w_1068 na_107 (by decide) dX8_oneOf_24) ?_
  refine al_cons (ok_retZ rfl dX8_oneOf_27) ?_
  refine al_cons (eok_pure (pr_aload_n dX8_oneOf_28 rfl)) ?_
  refine al_cons (eok_pure (pr_aload_n dX8_oneOf_29 rfl)) ?_
  refine al_cons (ok_get cl_X8 gX8 (by decide) w_948 dX8_oneOf_30) ?_
  refine al_cons (ok_put cl_X8 gX8 tyX8_ok nmX8 (by decide) w_956 rfl (by decide +kernel) (kok_int B) dX8_oneOf_33) ?_
  refine al_cons (eok_pure (pr_aload_n dX8_oneOf_36 rfl)) ?_
  refine al_cons (ok_callV hok mi_102 cl_X8 w_1030 w_1032 w_30 w_82 w_1033 na_102 (by decide) dX8_oneOf_37) ?_
  refine al_cons (eok_pure (pr_iconst dX8_oneOf_40 (by decide))) ?_
  refine al_cons (ok_retZ rfl dX8_oneOf_41) ?_
  exact al_nil
def k_X8_readTanker (md : Bool) : List Ent := [ePure 0 (fLoadA 0 1 0),
  ePure 1 (fPush 1 2 (.int 116)),
  ePure 3 (fPush 3 2 (.int 97)),
  ePure 5 (fPush 5 2 (.int 110)),
  ePure 7 (fPush 7 2 (.int 107)),
  ePure 9 (fPush 9 2 (.int 101)),
  ePure 11 (fPush 11 2 (.int 114)),
  eCallS 13 6 104,
  eCallV 16 1 106 8,
  ePure 19 (fIf1 19 28 b1_ne),
  ePure 22 (fLoadA 22 1 0),
  ePure 23 (fPush 23 1 (.int 1)),
  eCallV 24 1 107 8,
  eRetZ 27,
  ePure 28 (fLoadA 28 1 0),
  eCallV 29 0 102 8,
  ePure 32 (fLoadA 32 1 0),
  ePure 33 (fPush 33 1 (.int 0)),
  ePure 34 (fPush 34 1 (.int 1)),
  ePure 35 (fPush 35 2 (.int 99)),
  eCallV 37 3 109 8,
  ePure 40 (fIf1 40 45 b1_ne),
  ePure 43 (fPush 43 1 (.int 0)),
  eRetZ 44,
  ePure 45 (fPush 45 1 (.int 1)),
  ePure 46 (fStoI 46 1 1 2),
  ePure 47 (fLoadI 47 1 1),
  ePure 48 (fPush 48 1 (.int 5)),
  ePure 49 (fIf2 49 72 b2_gt),
  ePure 52 (fLoadA 52 1 0),
  ePure 53 (fLoadI 53 1 1),
  ePure 54 (fPush 54 1 (.int 0)),
  ePure 55 (fPush 55 3 (.int 9999)),
  eCallV 58 3 109 8,
  ePure 61 (fIf1 61 66 b1_ne),
  ePure 64 (fPush 64 1 (.int 0)),
  eRetZ 65,
  ePure 66 (fInc 66 1 2 1),
  ePure 69 (fGoto 47),
  ePure 72 (fLoadA 72 1 0),
  ePure 73 (fPush 73 2 (.int 6)),
  ePure 75 (fPush 75 1 (.int 1)),
  ePure 76 (fPush 76 2 (.int 100)),
  eCallV 78 3 109 8,
  ePure 81 (fIf1 81 118 b1_eq),
  ePure 84 (fLoadA 84 1 0),
  ePure 85 (fPush 85 2 (.int 7)),
  ePure 87 (fPush 87 1 (.int 0)),
  ePure 88 (fPush 88 2 (.int 100)),
  eCallV 90 3 109 8,
  ePure 93 (fIf1 93 118 b1_eq),
  ePure 96 (fLoadA 96 1 0),
  ePure 97 (fPush 97 2 (.int 8)),
  ePure 99 (fLoadA 99 1 0),
  eGet 100 8 12,
  ePure 103 (fPush 103 2 (.int 7)),
  eIald 105 0,
  ePure 106 (fPush 106 2 (.int 100)),
  eCallV 108 3 109 8,
  ePure 111 (fIf1 111 118 b1_eq),
  ePure 114 (fPush 114 1 (.int 1)),
  ePure 115 (fGoto 119),
  ePure 118 (fPush 118 1 (.int 0)),
  eRetZ 119]
set_option maxRecDepth 100000 in
set_option maxHeartbeats 4000000 in
theorem ko_X8_readTanker {l : Launch} {D : va_G} {cA : Nat → ClassId} {B : BB} {G : State → Prop} {md : Bool} {d : Nat} {call : Call} (hG : ∀ s, G s → Gs B s) (hok : COk l D cA B G md d mI call) : ∀ e ∈ k_X8_readTanker md, EOk l RX8 cX8_readTanker 2 (some .boolean) false D cA B G md d call e := by
  unfold k_X8_readTanker
  refine al_cons (eok_pure (pr_aload_n dX8_readTanker_0 rfl)) ?_
  refine al_cons (eok_pure (pr_bipush dX8_readTanker_1 (by decide))) ?_
  refine al_cons (eok_pure (pr_bipush dX8_readTanker_3 (by decide))) ?_
  refine al_cons (eok_pure (pr_bipush dX8_readTanker_5 (by decide))) ?_
  refine al_cons (eok_pure (pr_bipush dX8_readTanker_7 (by decide))) ?_
  refine al_cons (eok_pure (pr_bipush dX8_readTanker_9 (by decide))) ?_
  refine al_cons (eok_pure (pr_bipush dX8_readTanker_11 (by decide))) ?_
  refine al_cons (ok_callS hok mi_104 w_1054 w_1055 w_82 w_1056 na_104 (by decide) dX8_readTanker_13) ?_
  refine al_cons (ok_callV hok mi_106 cl_X8 w_1061 w_1063 w_34 w_82 w_1064 na_106 (by decide) dX8_readTanker_16) ?_
  refine al_cons (eok_pure (pr_if_ne dX8_readTanker_19 (by decide))) ?_
  refine al_cons (eok_pure (pr_aload_n dX8_readTanker_22 rfl)) ?_
  refine al_cons (eok_pure (pr_iconst dX8_readTanker_23 (by decide))) ?_
  refine al_cons (ok_callV hok mi_107 cl_X8 w_1065 w_1067 w_35 w_82 w_1068 na_107 (by decide) dX8_readTanker_24) ?_
  refine al_cons (ok_retZ rfl dX8_readTanker_27) ?_
  refine al_cons (eok_pure (pr_aload_n dX8_readTanker_28 rfl)) ?_
  refine al_cons (ok_callV hok mi_102 cl_X8 w_1030 w_1032 w_30 w_82 w_1033 na_102 (by decide) dX8_readTanker_29) ?_
  refine al_cons (eok_pure (pr_aload_n dX8_readTanker_32 rfl)) ?_
  refine al_cons (eok_pure (pr_iconst dX8_readTanker_33 (by decide))) ?_
  refine al_cons (eok_pure (pr_iconst dX8_readTanker_34 (by decide))) ?_
  refine al_cons (eok_pure (pr_bipush dX8_readTanker_35 (by decide))) ?_
  refine al_cons (ok_callV hok mi_109 cl_X8 w_1069 w_1071 w_36 w_82 w_1072 na_109 (by decide) dX8_readTanker_37) ?_
  refine al_cons (eok_pure (pr_if_ne dX8_readTanker_40 (by decide))) ?_
  refine al_cons (eok_pure (pr_iconst dX8_readTanker_43 (by decide))) ?_
  refine al_cons (ok_retZ rfl dX8_readTanker_44) ?_
  refine al_cons (eok_pure (pr_iconst dX8_readTanker_45 (by decide))) ?_
  refine al_cons (eok_pure (pr_istore_n dX8_readTanker_46 rfl)) ?_
  refine al_cons (eok_pure (pr_iload_n dX8_readTanker_47 rfl)) ?_
  refine al_cons (eok_pure (pr_iconst dX8_readTanker_48 (by decide))) ?_
  refine al_cons (eok_pure (pr_icmp_gt dX8_readTanker_49 (by decide))) ?_
  refine al_cons (eok_pure (pr_aload_n dX8_readTanker_52 rfl)) ?_
  refine al_cons (eok_pure (pr_iload_n dX8_readTanker_53 rfl)) ?_
  refine al_cons (eok_pure (pr_iconst dX8_readTanker_54 (by decide))) ?_
  refine al_cons (eok_pure (pr_sipush dX8_readTanker_55 (by decide))) ?_
  refine al_cons (ok_callV hok mi_109 cl_X8 w_1069 w_1071 w_36 w_82 w_1072 na_109 (by decide) dX8_readTanker_58) ?_
  refine al_cons (eok_pure (pr_if_ne dX8_readTanker_61 (by decide))) ?_
  refine al_cons (eok_pure (pr_iconst dX8_readTanker_64 (by decide))) ?_
  refine al_cons (ok_retZ rfl dX8_readTanker_65) ?_
  refine al_cons (eok_pure (pr_iinc dX8_readTanker_66 (by decide))) ?_
  refine al_cons (eok_pure (pr_goto dX8_readTanker_69 (by decide))) ?_
  refine al_cons (eok_pure (pr_aload_n dX8_readTanker_72 rfl)) ?_
  refine al_cons (eok_pure (pr_bipush dX8_readTanker_73 (by decide))) ?_
  refine al_cons (eok_pure (pr_iconst dX8_readTanker_75 (by decide))) ?_
  refine al_cons (eok_pure (pr_bipush dX8_readTanker_76 (by decide))) ?_
  refine al_cons (ok_callV hok mi_109 cl_X8 w_1069 w_1071 w_36 w_82 w_1072 na_109 (by decide) dX8_readTanker_78) ?_
  refine al_cons (eok_pure (pr_if_eq dX8_readTanker_81 (by decide))) ?_
  refine al_cons (eok_pure (pr_aload_n dX8_readTanker_84 rfl)) ?_
  refine al_cons (eok_pure (pr_bipush dX8_readTanker_85 (by decide))) ?_
  refine al_cons (eok_pure (pr_iconst dX8_readTanker_87 (by decide))) ?_
  refine al_cons (eok_pure (pr_bipush dX8_readTanker_88 (by decide))) ?_
  refine al_cons (ok_callV hok mi_109 cl_X8 w_1069 w_1071 w_36 w_82 w_1072 na_109 (by decide) dX8_readTanker_90) ?_
  refine al_cons (eok_pure (pr_if_eq dX8_readTanker_93 (by decide))) ?_
  refine al_cons (eok_pure (pr_aload_n dX8_readTanker_96 rfl)) ?_
  refine al_cons (eok_pure (pr_bipush dX8_readTanker_97 (by decide))) ?_
  refine al_cons (eok_pure (pr_aload_n dX8_readTanker_99 rfl)) ?_
  refine al_cons (ok_get cl_X8 gX8 (by decide) w_953 dX8_readTanker_100) ?_
  refine al_cons (eok_pure (pr_bipush dX8_readTanker_103 (by decide))) ?_
  refine al_cons (ok_iald dX8_readTanker_105) ?_
  refine al_cons (eok_pure (pr_bipush dX8_readTanker_106 (by decide))) ?_
  refine al_cons (ok_callV hok mi_109 cl_X8 w_1069 w_1071 w_36 w_82 w_1072 na_109 (by decide) dX8_readTanker_108) ?_
  refine al_cons (eok_pure (pr_if_eq dX8_readTanker_111 (by decide))) ?_
  refine al_cons (eok_pure (pr_iconst dX8_readTanker_114 (by decide))) ?_
  refine al_cons (eok_pure (pr_goto dX8_readTanker_115 (by decide))) ?_
  refine al_cons (eok_pure (pr_iconst dX8_readTanker_118 (by decide))) ?_
  refine al_cons (ok_retZ rfl dX8_readTanker_119) ?_
  exact al_nil
def k_X8_readHold (md : Bool) : List Ent := [ePure 0 (fLoadA 0 1 0),
  eGet 1 8 12,
  ePure 4 (fPush 4 2 (.int 9)),
  eIald 6 0,
  ePure 7 (fPush 7 1 (.int 5)),
  ePure 8 (fIf2 8 17 b2_ne),
  ePure 11 (fLoadA 11 1 0),
  ePure 12 (fPush 12 1 (.int 3)),
  eCallV 13 1 107 8,
  eRetZ 16,
  ePure 17 (fLoadA 17 1 0),
  eCallV 18 0 102 8,
  ePure 21 (fPush 21 2 (.int 27)),
  ePure 23 (fPush 23 2 (.int 6)),
  ePure 25 (fLoadA 25 1 0),
  eGet 26 8 12,
  ePure 29 (fPush 29 2 (.int 9)),
  eIald 31 0,
  ePure 32 (fBin 32 o_imul),
  ePure 33 (fBin 33 o_iadd),
  ePure 34 (fStoI 34 1 1 3),
  ePure 35 (fLoadA 35 1 0),
  ePure 36 (fLoadI 36 1 1),
  ePure 37 (fPush 37 1 (.int 0)),
  ePure 38 (fBin 38 o_iadd),
  ePure 39 (fPush 39 1 (.int 1)),
  ePure 40 (fPush 40 3 (.int 999)),
  eCallV 43 3 109 8,
  ePure 46 (fIf1 46 62 b1_eq),
  ePure 49 (fLoadA 49 1 0),
  ePure 50 (fLoadI 50 1 1),
  ePure 51 (fPush 51 1 (.int 1)),
  ePure 52 (fBin 52 o_iadd),
  ePure 53 (fPush 53 1 (.int 0)),
  ePure 54 (fPush 54 2 (.int 99)),
  eCallV 56 3 109 8,
  ePure 59 (fIf1 59 64 b1_ne),
  ePure 62 (fPush 62 1 (.int 0)),
  eRetZ 63,
  ePure 64 (fLoadA 64 1 0),
  ePure 65 (fPush 65 2 (.int 111)),
  ePure 67 (fPush 67 2 (.int 112)),
  ePure 69 (fPush 69 2 (.int 101)),
  ePure 71 (fPush 71 2 (.int 110)),
  eCallS 73 4 105,
  eCallV 76 1 106 8,
  ePure 79 (fStoI 79 1 2 3),
  ePure 80 (fLoadI 80 1 2),
  ePure 81 (fIf1 81 120 b1_ne),
  ePure 84 (fLoadA 84 1 0),
  ePure 85 (fPush 85 3 (.long 27)),
  ePure 88 (fPush 88 2 (.int 98)),
  ePure 90 (fPush 90 2 (.int 97)),
  ePure 92 (fPush 92 2 (.int 102)),
  ePure 94 (fPush 94 2 (.int 102)),
  ePure 96 (fPush 96 2 (.int 108)),
  ePure 98 (fPush 98 2 (.int 101)),
  eCallS 100 6 104,
  ePure 103 (fBinJ 103 o_lmul),
  ePure 104 (fPush 104 3 (.long 4)),
  ePure 107 (fBinJ 107 o_ladd),
  eCallV 108 1 106 8,
  ePure 111 (fIf1 111 120 b1_ne),
  ePure 114 (fLoadA 114 1 0),
  ePure 115 (fPush 115 1 (.int 1)),
  eCallV 116 1 107 8,
  eRetZ 119,
  ePure 120 (fLoadA 120 1 0),
  eGet 121 8 12,
  ePure 124 (fLoadI 124 1 1),
  ePure 125 (fPush 125 1 (.int 2)),
  ePure 126 (fBin 126 o_iadd),
  ePure 127 (fLoadI 127 1 2),
  ePure 128 (fIf1 128 135 b1_eq),
  ePure 131 (fPush 131 1 (.int 1)),
  ePure 132 (fGoto 136),
  ePure 135 (fPush 135 1 (.int 0)),
  eIast 136 0 (fun x => x),
  ePure 137 (fLoadA 137 1 0),
  eCallV 138 0 102 8,
  ePure 141 (fLoadA 141 1 0),
  eGet 142 8 12,
  ePure 145 (fPush 145 2 (.int 9)),
  ePure 147 (fDup2 147),
  eIald 148 0,
  ePure 149 (fPush 149 1 (.int 1)),
  ePure 150 (fBin 150 o_iadd),
  eIast 151 0 (fun x => x),
  ePure 152 (fPush 152 1 (.int 1)),
  eRetZ 153]
set_option maxRecDepth 100000 in
set_option maxHeartbeats 4000000 in
theorem ko_X8_readHold {l : Launch} {D : va_G} {cA : Nat → ClassId} {B : BB} {G : State → Prop} {md : Bool} {d : Nat} {call : Call} (hG : ∀ s, G s → Gs B s) (hok : COk l D cA B G md d mI call) : ∀ e ∈ k_X8_readHold md, EOk l RX8 cX8_readHold 3 (some .boolean) false D cA B G md d call e := by
  unfold k_X8_readHold
  refine al_cons (eok_pure (pr_aload_n dX8_readHold_0 rfl)) ?_
  refine al_cons (ok_get cl_X8 gX8 (by decide) w_953 dX8_readHold_1) ?_
  refine al_cons (eok_pure (pr_bipush dX8_readHold_4 (by decide))) ?_
  refine al_cons (ok_iald dX8_readHold_6) ?_
  refine al_cons (eok_pure (pr_iconst dX8_readHold_7 (by decide))) ?_
  refine al_cons (eok_pure (pr_icmp_ne dX8_readHold_8 (by decide))) ?_
  refine al_cons (eok_pure (pr_aload_n dX8_readHold_11 rfl)) ?_
  refine al_cons (eok_pure (pr_iconst dX8_readHold_12 (by decide))) ?_
  refine al_cons (ok_callV hok mi_107 cl_X8 w_1065 w_1067 w_35 w_82 w_1068 na_107 (by decide) dX8_readHold_13) ?_
  refine al_cons (ok_retZ rfl dX8_readHold_16) ?_
  refine al_cons (eok_pure (pr_aload_n dX8_readHold_17 rfl)) ?_
  refine al_cons (ok_callV hok mi_102 cl_X8 w_1030 w_1032 w_30 w_82 w_1033 na_102 (by decide) dX8_readHold_18) ?_
  refine al_cons (eok_pure (pr_bipush dX8_readHold_21 (by decide))) ?_
  refine al_cons (eok_pure (pr_bipush dX8_readHold_23 (by decide))) ?_
  refine al_cons (eok_pure (pr_aload_n dX8_readHold_25 rfl)) ?_
  refine al_cons (ok_get cl_X8 gX8 (by decide) w_953 dX8_readHold_26) ?_
  refine al_cons (eok_pure (pr_bipush dX8_readHold_29 (by decide))) ?_
  refine al_cons (ok_iald dX8_readHold_31) ?_
  refine al_cons (eok_pure (pr_imul dX8_readHold_32)) ?_
  refine al_cons (eok_pure (pr_iadd dX8_readHold_33)) ?_
  refine al_cons (eok_pure (pr_istore_n dX8_readHold_34 rfl)) ?_
  refine al_cons (eok_pure (pr_aload_n dX8_readHold_35 rfl)) ?_
  refine al_cons (eok_pure (pr_iload_n dX8_readHold_36 rfl)) ?_
  refine al_cons (eok_pure (pr_iconst dX8_readHold_37 (by decide))) ?_
  refine al_cons (eok_pure (pr_iadd dX8_readHold_38)) ?_
  refine al_cons (eok_pure (pr_iconst dX8_readHold_39 (by decide))) ?_
  refine al_cons (eok_pure (pr_sipush dX8_readHold_40 (by decide))) ?_
  refine al_cons (ok_callV hok mi_109 cl_X8 w_1069 w_1071 w_36 w_82 w_1072 na_109 (by decide) dX8_readHold_43) ?_
  refine al_cons (eok_pure (pr_if_eq dX8_readHold_46 (by decide))) ?_
  refine al_cons (eok_pure (pr_aload_n dX8_readHold_49 rfl)) ?_
  refine al_cons (eok_pure (pr_iload_n dX8_readHold_50 rfl)) ?_
  refine al_cons (eok_pure (pr_iconst dX8_readHold_51 (by decide))) ?_
  refine al_cons (eok_pure (pr_iadd dX8_readHold_52)) ?_
  refine al_cons (eok_pure (pr_iconst dX8_readHold_53 (by decide))) ?_
  refine al_cons (eok_pure (pr_bipush dX8_readHold_54 (by decide))) ?_
  refine al_cons (ok_callV hok mi_109 cl_X8 w_1069 w_1071 w_36 w_82 w_1072 na_109 (by decide) dX8_readHold_56) ?_
  refine al_cons (eok_pure (pr_if_ne dX8_readHold_59 (by decide))) ?_
  refine al_cons (eok_pure (pr_iconst dX8_readHold_62 (by decide))) ?_
  refine al_cons (ok_retZ rfl dX8_readHold_63) ?_
  refine al_cons (eok_pure (pr_aload_n dX8_readHold_64 rfl)) ?_
  refine al_cons (eok_pure (pr_bipush dX8_readHold_65 (by decide))) ?_
  refine al_cons (eok_pure (pr_bipush dX8_readHold_67 (by decide))) ?_
  refine al_cons (eok_pure (pr_bipush dX8_readHold_69 (by decide))) ?_
  refine al_cons (eok_pure (pr_bipush dX8_readHold_71 (by decide))) ?_
  refine al_cons (ok_callS hok mi_105 w_1084 w_1085 w_82 w_1086 na_105 (by decide) dX8_readHold_73) ?_
  refine al_cons (ok_callV hok mi_106 cl_X8 w_1061 w_1063 w_34 w_82 w_1064 na_106 (by decide) dX8_readHold_76) ?_
  refine al_cons (eok_pure (pr_istore_n dX8_readHold_79 rfl)) ?_
  refine al_cons (eok_pure (pr_iload_n dX8_readHold_80 rfl)) ?_
  refine al_cons (eok_pure (pr_if_ne dX8_readHold_81 (by decide))) ?_
  refine al_cons (eok_pure (pr_aload_n dX8_readHold_84 rfl)) ?_
  refine al_cons (eok_pure (pr_ldc2 dX8_readHold_85 w_1044)) ?_
  refine al_cons (eok_pure (pr_bipush dX8_readHold_88 (by decide))) ?_
  refine al_cons (eok_pure (pr_bipush dX8_readHold_90 (by decide))) ?_
  refine al_cons (eok_pure (pr_bipush dX8_readHold_92 (by decide))) ?_
  refine al_cons (eok_pure (pr_bipush dX8_readHold_94 (by decide))) ?_
  refine al_cons (eok_pure (pr_bipush dX8_readHold_96 (by decide))) ?_
  refine al_cons (eok_pure (pr_bipush dX8_readHold_98 (by decide))) ?_
  refine al_cons (ok_callS hok mi_104 w_1054 w_1055 w_82 w_1056 na_104 (by decide) dX8_readHold_100) ?_
  refine al_cons (eok_pure (pr_lmul dX8_readHold_103)) ?_
  refine al_cons (eok_pure (pr_ldc2 dX8_readHold_104 w_1087)) ?_
  refine al_cons (eok_pure (pr_ladd dX8_readHold_107)) ?_
  refine al_cons (ok_callV hok mi_106 cl_X8 w_1061 w_1063 w_34 w_82 w_1064 na_106 (by decide) dX8_readHold_108) ?_
  refine al_cons (eok_pure (pr_if_ne dX8_readHold_111 (by decide))) ?_
  refine al_cons (eok_pure (pr_aload_n dX8_readHold_114 rfl)) ?_
  refine al_cons (eok_pure (pr_iconst dX8_readHold_115 (by decide))) ?_
  refine al_cons (ok_callV hok mi_107 cl_X8 w_1065 w_1067 w_35 w_82 w_1068 na_107 (by decide) dX8_readHold_116) ?_
  refine al_cons (ok_retZ rfl dX8_readHold_119) ?_
  refine al_cons (eok_pure (pr_aload_n dX8_readHold_120 rfl)) ?_
  refine al_cons (ok_get cl_X8 gX8 (by decide) w_953 dX8_readHold_121) ?_
  refine al_cons (eok_pure (pr_iload_n dX8_readHold_124 rfl)) ?_
  refine al_cons (eok_pure (pr_iconst dX8_readHold_125 (by decide))) ?_
  refine al_cons (eok_pure (pr_iadd dX8_readHold_126)) ?_
  refine al_cons (eok_pure (pr_iload_n dX8_readHold_127 rfl)) ?_
  refine al_cons (eok_pure (pr_if_eq dX8_readHold_128 (by decide))) ?_
  refine al_cons (eok_pure (pr_iconst dX8_readHold_131 (by decide))) ?_
  refine al_cons (eok_pure (pr_goto dX8_readHold_132 (by decide))) ?_
  refine al_cons (eok_pure (pr_iconst dX8_readHold_135 (by decide))) ?_
  refine al_cons (ok_iast dX8_readHold_136) ?_
  refine al_cons (eok_pure (pr_aload_n dX8_readHold_137 rfl)) ?_
  refine al_cons (ok_callV hok mi_102 cl_X8 w_1030 w_1032 w_30 w_82 w_1033 na_102 (by decide) dX8_readHold_138) ?_
  refine al_cons (eok_pure (pr_aload_n dX8_readHold_141 rfl)) ?_
  refine al_cons (ok_get cl_X8 gX8 (by decide) w_953 dX8_readHold_142) ?_
  refine al_cons (eok_pure (pr_bipush dX8_readHold_145 (by decide))) ?_
  refine al_cons (eok_pure (pr_dup2 dX8_readHold_147)) ?_
  refine al_cons (ok_iald dX8_readHold_148) ?_
  refine al_cons (eok_pure (pr_iconst dX8_readHold_149 (by decide))) ?_
  refine al_cons (eok_pure (pr_iadd dX8_readHold_150)) ?_
  refine al_cons (ok_iast dX8_readHold_151) ?_
  refine al_cons (eok_pure (pr_iconst dX8_readHold_152 (by decide))) ?_
  refine al_cons (ok_retZ rfl dX8_readHold_153) ?_
  exact al_nil
