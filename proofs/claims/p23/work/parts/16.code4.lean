def k_X8_readLiquid (md : Bool) : List Ent := [ePure 0 (fLoadA 0 1 0),
  eGet 1 8 12,
  ePure 4 (fPush 4 2 (.int 10)),
  eIald 6 0,
  ePure 7 (fPush 7 2 (.int 6)),
  ePure 9 (fIf2 9 18 b2_ne),
  ePure 12 (fLoadA 12 1 0),
  ePure 13 (fPush 13 1 (.int 3)),
  eCallV 14 1 107 8,
  eRetZ 17,
  ePure 18 (fLoadA 18 1 0),
  eCallV 19 0 102 8,
  ePure 22 (fLoadA 22 1 0),
  ePure 23 (fPush 23 2 (.int 15)),
  ePure 25 (fLoadA 25 1 0),
  eGet 26 8 12,
  ePure 29 (fPush 29 2 (.int 10)),
  eIald 31 0,
  ePure 32 (fBin 32 o_iadd),
  ePure 33 (fPush 33 1 (.int 1)),
  ePure 34 (fPush 34 2 (.int 20)),
  eCallV 36 3 109 8,
  ePure 39 (fIf1 39 44 b1_ne),
  ePure 42 (fPush 42 1 (.int 0)),
  eRetZ 43,
  ePure 44 (fLoadA 44 1 0),
  eGet 45 8 12,
  ePure 48 (fPush 48 2 (.int 10)),
  ePure 50 (fDup2 50),
  eIald 51 0,
  ePure 52 (fPush 52 1 (.int 1)),
  ePure 53 (fBin 53 o_iadd),
  eIast 54 0 (fun x => x),
  ePure 55 (fPush 55 1 (.int 1)),
  eRetZ 56]
set_option maxRecDepth 100000 in
set_option maxHeartbeats 4000000 in
theorem ko_X8_readLiquid {l : Launch} {D : va_G} {cA : Nat → ClassId} {B : BB} {G : State → Prop} {md : Bool} {d : Nat} {call : Call} (hG : ∀ s, G s → Gs B s) (hok : COk l D cA B G md d mI call) : ∀ e ∈ k_X8_readLiquid md, EOk l RX8 cX8_readLiquid 1 (some .boolean) false D cA B G md d call e := by
  unfold k_X8_readLiquid
  refine al_cons (eok_pure (pr_aload_n dX8_readLiquid_0 rfl)) ?_
  refine al_cons (ok_get cl_X8 gX8 (by decide) w_953 dX8_readLiquid_1) ?_
  refine al_cons (eok_pure (pr_bipush dX8_readLiquid_4 (by decide))) ?_
  refine al_cons (ok_iald dX8_readLiquid_6) ?_
  refine al_cons (eok_pure (pr_bipush dX8_readLiquid_7 (by decide))) ?_
  refine al_cons (eok_pure (pr_icmp_ne dX8_readLiquid_9 (by decide))) ?_
  refine al_cons (eok_pure (pr_aload_n dX8_readLiquid_12 rfl)) ?_
  refine al_cons (eok_pure (pr_iconst dX8_readLiquid_13 (by decide))) ?_
  refine al_cons (ok_callV hok mi_107 cl_X8 w_1065 w_1067 w_35 w_82 w_1068 na_107 (by decide) dX8_readLiquid_14) ?_
  refine al_cons (ok_retZ rfl dX8_readLiquid_17) ?_
  refine al_cons (eok_pure (pr_aload_n dX8_readLiquid_18 rfl)) ?_
  refine al_cons (ok_callV hok mi_102 cl_X8 w_1030 w_1032 w_30 w_82 w_1033 na_102 (by decide) dX8_readLiquid_19) ?_
  refine al_cons (eok_pure (pr_aload_n dX8_readLiquid_22 rfl)) ?_
  refine al_cons (eok_pure (pr_bipush dX8_readLiquid_23 (by decide))) ?_
  refine al_cons (eok_pure (pr_aload_n dX8_readLiquid_25 rfl)) ?_
  refine al_cons (ok_get cl_X8 gX8 (by decide) w_953 dX8_readLiquid_26) ?_
  refine al_cons (eok_pure (pr_bipush dX8_readLiquid_29 (by decide))) ?_
  refine al_cons (ok_iald dX8_readLiquid_31) ?_
  refine al_cons (eok_pure (pr_iadd dX8_readLiquid_32)) ?_
  refine al_cons (eok_pure (pr_iconst dX8_readLiquid_33 (by decide))) ?_
  refine al_cons (eok_pure (pr_bipush dX8_readLiquid_34 (by decide))) ?_
  refine al_cons (ok_callV hok mi_109 cl_X8 w_1069 w_1071 w_36 w_82 w_1072 na_109 (by decide) dX8_readLiquid_36) ?_
  refine al_cons (eok_pure (pr_if_ne dX8_readLiquid_39 (by decide))) ?_
  refine al_cons (eok_pure (pr_iconst dX8_readLiquid_42 (by decide))) ?_
  refine al_cons (ok_retZ rfl dX8_readLiquid_43) ?_
  refine al_cons (eok_pure (pr_aload_n dX8_readLiquid_44 rfl)) ?_
  refine al_cons (ok_get cl_X8 gX8 (by decide) w_953 dX8_readLiquid_45) ?_
  refine al_cons (eok_pure (pr_bipush dX8_readLiquid_48 (by decide))) ?_
  refine al_cons (eok_pure (pr_dup2 dX8_readLiquid_50)) ?_
  refine al_cons (ok_iald dX8_readLiquid_51) ?_
  refine al_cons (eok_pure (pr_iconst dX8_readLiquid_52 (by decide))) ?_
  refine al_cons (eok_pure (pr_iadd dX8_readLiquid_53)) ?_
  refine al_cons (ok_iast dX8_readLiquid_54) ?_
  refine al_cons (eok_pure (pr_iconst dX8_readLiquid_55 (by decide))) ?_
  refine al_cons (ok_retZ rfl dX8_readLiquid_56) ?_
  exact al_nil
def k_X8_readBar (md : Bool) : List Ent := [ePure 0 (fLoadA 0 1 0),
  eGet 1 8 12,
  ePure 4 (fPush 4 2 (.int 11)),
  eIald 6 0,
  ePure 7 (fPush 7 2 (.int 36)),
  ePure 9 (fIf2 9 18 b2_ne),
  ePure 12 (fLoadA 12 1 0),
  ePure 13 (fPush 13 1 (.int 3)),
  eCallV 14 1 107 8,
  eRetZ 17,
  ePure 18 (fLoadA 18 1 0),
  eCallV 19 0 102 8,
  ePure 22 (fLoadA 22 1 0),
  ePure 23 (fLoadA 23 1 0),
  eGet 24 8 12,
  ePure 27 (fPush 27 2 (.int 10)),
  eIald 29 0,
  eCallV 30 1 110 8,
  ePure 33 (fIf1 33 38 b1_ne),
  ePure 36 (fPush 36 1 (.int 0)),
  eRetZ 37,
  ePure 38 (fLoadA 38 1 0),
  eGet 39 8 15,
  ePure 42 (fStoI 42 1 1 2),
  ePure 43 (fLoadA 43 1 0),
  ePure 44 (fLoadA 44 1 0),
  eGet 45 8 12,
  ePure 48 (fPush 48 2 (.int 10)),
  eIald 50 0,
  eCallV 51 1 110 8,
  ePure 54 (fIf1 54 59 b1_ne),
  ePure 57 (fPush 57 1 (.int 0)),
  eRetZ 58,
  ePure 59 (fLoadA 59 1 0),
  eGet 60 8 12,
  ePure 63 (fPush 63 2 (.int 21)),
  ePure 65 (fLoadI 65 1 1),
  ePure 66 (fBin 66 o_iadd),
  ePure 67 (fDup2 67),
  eIald 68 0,
  ePure 69 (fPush 69 1 (.int 1)),
  ePure 70 (fLoadA 70 1 0),
  eGet 71 8 15,
  ePure 74 (fBin 74 o_ishl),
  ePure 75 (fBin 75 o_ior),
  eIast 76 0 (fun x => x),
  ePure 77 (fLoadA 77 1 0),
  eGet 78 8 12,
  ePure 81 (fPush 81 2 (.int 11)),
  ePure 83 (fDup2 83),
  eIald 84 0,
  ePure 85 (fPush 85 1 (.int 1)),
  ePure 86 (fBin 86 o_iadd),
  eIast 87 0 (fun x => x),
  ePure 88 (fPush 88 1 (.int 1)),
  eRetZ 89]
set_option maxRecDepth 100000 in
set_option maxHeartbeats 4000000 in
theorem ko_X8_readBar {l : Launch} {D : va_G} {cA : Nat → ClassId} {B : BB} {G : State → Prop} {md : Bool} {d : Nat} {call : Call} (hG : ∀ s, G s → Gs B s) (hok : COk l D cA B G md d mI call) : ∀ e ∈ k_X8_readBar md, EOk l RX8 cX8_readBar 2 (some .boolean) false D cA B G md d call e := by
  unfold k_X8_readBar
  refine al_cons (eok_pure (pr_aload_n dX8_readBar_0 rfl)) ?_
  refine al_cons (ok_get cl_X8 gX8 (by decide) w_953 dX8_readBar_1) ?_
  refine al_cons (eok_pure (pr_bipush dX8_readBar_4 (by decide))) ?_
  refine al_cons (ok_iald dX8_readBar_6) ?_
  refine al_cons (eok_pure (pr_bipush dX8_readBar_7 (by decide))) ?_
  refine al_cons (eok_pure (pr_icmp_ne dX8_readBar_9 (by decide))) ?_
  refine al_cons (eok_pure (pr_aload_n dX8_readBar_12 rfl)) ?_
  refine al_cons (eok_pure (pr_iconst dX8_readBar_13 (by decide))) ?_
  refine al_cons (ok_callV hok mi_107 cl_X8 w_1065 w_1067 w_35 w_82 w_1068 na_107 (by decide) dX8_readBar_14) ?_
  refine al_cons (ok_retZ rfl dX8_readBar_17) ?_
  refine al_cons (eok_pure (pr_aload_n dX8_readBar_18 rfl)) ?_
  refine al_cons (ok_callV hok mi_102 cl_X8 w_1030 w_1032 w_30 w_82 w_1033 na_102 (by decide) dX8_readBar_19) ?_
  refine al_cons (eok_pure (pr_aload_n dX8_readBar_22 rfl)) ?_
  refine al_cons (eok_pure (pr_aload_n dX8_readBar_23 rfl)) ?_
  refine al_cons (ok_get cl_X8 gX8 (by decide) w_953 dX8_readBar_24) ?_
  refine al_cons (eok_pure (pr_bipush dX8_readBar_27 (by decide))) ?_
  refine al_cons (ok_iald dX8_readBar_29) ?_
  refine al_cons (ok_callV hok mi_110 cl_X8 w_1096 w_1098 w_40 w_82 w_1099 na_110 (by decide) dX8_readBar_30) ?_
  refine al_cons (eok_pure (pr_if_ne dX8_readBar_33 (by decide))) ?_
  refine al_cons (eok_pure (pr_iconst dX8_readBar_36 (by decide))) ?_
  refine al_cons (ok_retZ rfl dX8_readBar_37) ?_
  refine al_cons (eok_pure (pr_aload_n dX8_readBar_38 rfl)) ?_
  refine al_cons (ok_get cl_X8 gX8 (by decide) w_956 dX8_readBar_39) ?_
  refine al_cons (eok_pure (pr_istore_n dX8_readBar_42 rfl)) ?_
  refine al_cons (eok_pure (pr_aload_n dX8_readBar_43 rfl)) ?_
  refine al_cons (eok_pure (pr_aload_n dX8_readBar_44 rfl)) ?_
  refine al_cons (ok_get cl_X8 gX8 (by decide) w_953 dX8_readBar_45) ?_
  refine al_cons (eok_pure (pr_bipush dX8_readBar_48 (by decide))) ?_
  refine al_cons (ok_iald dX8_readBar_50) ?_
  refine al_cons (ok_callV hok mi_110 cl_X8 w_1096 w_1098 w_40 w_82 w_1099 na_110 (by decide) dX8_readBar_51) ?_
  refine al_cons (eok_pure (pr_if_ne dX8_readBar_54 (by decide))) ?_
  refine al_cons (eok_pure (pr_iconst dX8_readBar_57 (by decide))) ?_
  refine al_cons (ok_retZ rfl dX8_readBar_58) ?_
  refine al_cons (eok_pure (pr_aload_n dX8_readBar_59 rfl)) ?_
  refine al_cons (ok_get cl_X8 gX8 (by decide) w_953 dX8_readBar_60) ?_
  refine al_cons (eok_pure (pr_bipush dX8_readBar_63 (by decide))) ?_
  refine al_cons (eok_pure (pr_iload_n dX8_readBar_65 rfl)) ?_
  refine al_cons (eok_pure (pr_iadd dX8_readBar_66)) ?_
  refine al_cons (eok_pure (pr_dup2 dX8_readBar_67)) ?_
  refine al_cons (ok_iald dX8_readBar_68) ?_
  refine al_cons (eok_pure (pr_iconst dX8_readBar_69 (by decide))) ?_
  refine al_cons (eok_pure (pr_aload_n dX8_readBar_70 rfl)) ?_
  refine al_cons (ok_get cl_X8 gX8 (by decide) w_956 dX8_readBar_71) ?_
  refine al_cons (eok_pure (pr_ishl dX8_readBar_74)) ?_
  refine al_cons (eok_pure (pr_ior dX8_readBar_75)) ?_
  refine al_cons (ok_iast dX8_readBar_76) ?_
  refine al_cons (eok_pure (pr_aload_n dX8_readBar_77 rfl)) ?_
  refine al_cons (ok_get cl_X8 gX8 (by decide) w_953 dX8_readBar_78) ?_
  refine al_cons (eok_pure (pr_bipush dX8_readBar_81 (by decide))) ?_
  refine al_cons (eok_pure (pr_dup2 dX8_readBar_83)) ?_
  refine al_cons (ok_iald dX8_readBar_84) ?_
  refine al_cons (eok_pure (pr_iconst dX8_readBar_85 (by decide))) ?_
  refine al_cons (eok_pure (pr_iadd dX8_readBar_86)) ?_
  refine al_cons (ok_iast dX8_readBar_87) ?_
  refine al_cons (eok_pure (pr_iconst dX8_readBar_88 (by decide))) ?_
  refine al_cons (ok_retZ rfl dX8_readBar_89) ?_
  exact al_nil
def k_X8_readLast (md : Bool) : List Ent := [ePure 0 (fLoadA 0 1 0),
  eGet 1 8 12,
  ePure 4 (fPush 4 2 (.int 12)),
  eIald 6 0,
  ePure 7 (fPush 7 2 (.int 20)),
  ePure 9 (fIf2 9 18 b2_ne),
  ePure 12 (fLoadA 12 1 0),
  ePure 13 (fPush 13 1 (.int 3)),
  eCallV 14 1 107 8,
  eRetZ 17,
  ePure 18 (fLoadA 18 1 0),
  eCallV 19 0 102 8,
  ePure 22 (fLoadA 22 1 0),
  ePure 23 (fLoadA 23 1 0),
  eGet 24 8 12,
  ePure 27 (fPush 27 2 (.int 9)),
  eIald 29 0,
  eCallV 30 1 110 8,
  ePure 33 (fIf1 33 38 b1_ne),
  ePure 36 (fPush 36 1 (.int 0)),
  eRetZ 37,
  ePure 38 (fLoadA 38 1 0),
  eGet 39 8 15,
  ePure 42 (fStoI 42 1 1 2),
  ePure 43 (fLoadA 43 1 0),
  ePure 44 (fLoadA 44 1 0),
  eGet 45 8 12,
  ePure 48 (fPush 48 2 (.int 10)),
  eIald 50 0,
  eCallV 51 1 110 8,
  ePure 54 (fIf1 54 59 b1_ne),
  ePure 57 (fPush 57 1 (.int 0)),
  eRetZ 58,
  ePure 59 (fLoadA 59 1 0),
  eGet 60 8 12,
  ePure 63 (fPush 63 2 (.int 27)),
  ePure 65 (fPush 65 2 (.int 6)),
  ePure 67 (fLoadI 67 1 1),
  ePure 68 (fBin 68 o_imul),
  ePure 69 (fBin 69 o_iadd),
  ePure 70 (fPush 70 1 (.int 5)),
  ePure 71 (fBin 71 o_iadd),
  ePure 72 (fLoadA 72 1 0),
  eGet 73 8 15,
  ePure 76 (fPush 76 1 (.int 1)),
  ePure 77 (fBin 77 o_iadd),
  eIast 78 0 (fun x => x),
  ePure 79 (fLoadA 79 1 0),
  eGet 80 8 12,
  ePure 83 (fPush 83 2 (.int 12)),
  ePure 85 (fDup2 85),
  eIald 86 0,
  ePure 87 (fPush 87 1 (.int 1)),
  ePure 88 (fBin 88 o_iadd),
  eIast 89 0 (fun x => x),
  ePure 90 (fPush 90 1 (.int 1)),
  eRetZ 91]
set_option maxRecDepth 100000 in
set_option maxHeartbeats 4000000 in
theorem ko_X8_readLast {l : Launch} {D : va_G} {cA : Nat → ClassId} {B : BB} {G : State → Prop} {md : Bool} {d : Nat} {call : Call} (hG : ∀ s, G s → Gs B s) (hok : COk l D cA B G md d mI call) : ∀ e ∈ k_X8_readLast md, EOk l RX8 cX8_readLast 2 (some .boolean) false D cA B G md d call e := by
  unfold k_X8_readLast
  refine al_cons (eok_pure (pr_aload_n dX8_readLast_0 rfl)) ?_
  refine al_cons (ok_get cl_X8 gX8 (by decide) w_953 dX8_readLast_1) ?_
  refine al_cons (eok_pure (pr_bipush dX8_readLast_4 (by decide))) ?_
  refine al_cons (ok_iald dX8_readLast_6) ?_
  refine al_cons (eok_pure (pr_bipush dX8_readLast_7 (by decide))) ?_
  refine al_cons (eok_pure (pr_icmp_ne dX8_readLast_9 (by decide))) ?_
  refine al_cons (eok_pure (pr_aload_n dX8_readLast_12 rfl)) ?_
  refine al_cons (eok_pure (pr_iconst dX8_readLast_13 (by decide))) ?_
  refine al_cons (ok_callV hok mi_107 cl_X8 w_1065 w_1067 w_35 w_82 w_1068 na_107 (by decide) dX8_readLast_14) ?_
  refine al_cons (ok_retZ rfl dX8_readLast_17) ?_
  refine al_cons (eok_pure (pr_aload_n dX8_readLast_18 rfl)) ?_
  refine al_cons (ok_callV hok mi_102 cl_X8 w_1030 w_1032 w_30 w_82 w_1033 na_102 (by decide) dX8_readLast_19) ?_
  refine al_cons (eok_pure (pr_aload_n dX8_readLast_22 rfl)) ?_
  refine al_cons (eok_pure (pr_aload_n dX8_readLast_23 rfl)) ?_
  refine al_cons (ok_get cl_X8 gX8 (by decide) w_953 dX8_readLast_24) ?_
  refine al_cons (eok_pure (pr_bipush dX8_readLast_27 (by decide))) ?_
  refine al_cons (ok_iald dX8_readLast_29) ?_
  refine al_cons (ok_callV hok mi_110 cl_X8 w_1096 w_1098 w_40 w_82 w_1099 na_110 (by decide) dX8_readLast_30) ?_
  refine al_cons (eok_pure (pr_if_ne dX8_readLast_33 (by decide))) ?_
  refine al_cons (eok_pure (pr_iconst dX8_readLast_36 (by decide))) ?_
  refine al_cons (ok_retZ rfl dX8_readLast_37) ?_
  refine al_cons (eok_pure (pr_aload_n dX8_readLast_38 rfl)) ?_
  refine al_cons (ok_get cl_X8 gX8 (by decide) w_956 dX8_readLast_39) ?_
  refine al_cons (eok_pure (pr_istore_n dX8_readLast_42 rfl)) ?_
  refine al_cons (eok_pure (pr_aload_n dX8_readLast_43 rfl)) ?_
  refine al_cons (eok_pure (pr_aload_n dX8_readLast_44 rfl)) ?_
  refine al_cons (ok_get cl_X8 gX8 (by decide) w_953 dX8_readLast_45) ?_
  refine al_cons (eok_pure (pr_bipush dX8_readLast_48 (by decide))) ?_
  refine al_cons (ok_iald dX8_readLast_50) ?_
  refine al_cons (ok_callV hok mi_110 cl_X8 w_1096 w_1098 w_40 w_82 w_1099 na_110 (by decide) dX8_readLast_51) ?_
  refine al_cons (eok_pure (pr_if_ne dX8_readLast_54 (by decide))) ?_
  refine al_cons (eok_pure (pr_iconst dX8_readLast_57 (by decide))) ?_
  refine al_cons (ok_retZ rfl dX8_readLast_58) ?_
  refine al_cons (eok_pure (pr_aload_n dX8_readLast_59 rfl)) ?_
  refine al_cons (ok_get cl_X8 gX8 (by decide) w_953 dX8_readLast_60) ?_
  refine al_cons (eok_pure (pr_bipush dX8_readLast_63 (by decide))) ?_
  refine al_cons (eok_pure (pr_bipush dX8_readLast_65 (by decide))) ?_
  refine al_cons (eok_pure (pr_iload_n dX8_readLast_67 rfl)) ?_
  refine al_cons (eok_pure (pr_imul dX8_readLast_68)) ?_
  refine al_cons (eok_pure (pr_iadd dX8_readLast_69)) ?_
  refine al_cons (eok_pure (pr_iconst dX8_readLast_70 (by decide))) ?_
  refine al_cons (eok_pure (pr_iadd dX8_readLast_71)) ?_
  refine al_cons (eok_pure (pr_aload_n dX8_readLast_72 rfl)) ?_
  refine al_cons (ok_get cl_X8 gX8 (by decide) w_956 dX8_readLast_73) ?_
  refine al_cons (eok_pure (pr_iconst dX8_readLast_76 (by decide))) ?_
  refine al_cons (eok_pure (pr_iadd dX8_readLast_77)) ?_
  refine al_cons (ok_iast dX8_readLast_78) ?_
  refine al_cons (eok_pure (pr_aload_n dX8_readLast_79 rfl)) ?_
  refine al_cons (ok_get cl_X8 gX8 (by decide) w_953 dX8_readLast_80) ?_
  refine al_cons (eok_pure (pr_bipush dX8_readLast_83 (by decide))) ?_
  refine al_cons (eok_pure (pr_dup2 dX8_readLast_85)) ?_
  refine al_cons (ok_iald dX8_readLast_86) ?_
  refine al_cons (eok_pure (pr_iconst dX8_readLast_87 (by decide))) ?_
  refine al_cons (eok_pure (pr_iadd dX8_readLast_88)) ?_
  refine al_cons (ok_iast dX8_readLast_89) ?_
  refine al_cons (eok_pure (pr_iconst dX8_readLast_90 (by decide))) ?_
  refine al_cons (ok_retZ rfl dX8_readLast_91) ?_
  exact al_nil
def k_X8_readDrop (md : Bool) : List Ent := [ePure 0 (fLoadA 0 1 0),
  eGet 1 8 12,
  ePure 4 (fPush 4 2 (.int 13)),
  eIald 6 0,
  ePure 7 (fPush 7 1 (.int 4)),
  ePure 8 (fIf2 8 17 b2_ne),
  ePure 11 (fLoadA 11 1 0),
  ePure 12 (fPush 12 1 (.int 3)),
  eCallV 13 1 107 8,
  eRetZ 16,
  ePure 17 (fLoadA 17 1 0),
  eCallV 18 0 102 8,
  ePure 21 (fPush 21 2 (.int 57)),
  ePure 23 (fPush 23 1 (.int 5)),
  ePure 24 (fLoadA 24 1 0),
  eGet 25 8 12,
  ePure 28 (fPush 28 2 (.int 13)),
  eIald 30 0,
  ePure 31 (fBin 31 o_imul),
  ePure 32 (fBin 32 o_iadd),
  ePure 33 (fStoI 33 1 1 2),
  ePure 34 (fLoadA 34 1 0),
  ePure 35 (fLoadA 35 1 0),
  eGet 36 8 12,
  ePure 39 (fPush 39 2 (.int 10)),
  eIald 41 0,
  eCallV 42 1 110 8,
  ePure 45 (fIf1 45 50 b1_ne),
  ePure 48 (fPush 48 1 (.int 0)),
  eRetZ 49,
  ePure 50 (fLoadA 50 1 0),
  eGet 51 8 12,
  ePure 54 (fLoadI 54 1 1),
  ePure 55 (fPush 55 1 (.int 0)),
  ePure 56 (fBin 56 o_iadd),
  ePure 57 (fLoadA 57 1 0),
  eGet 58 8 15,
  eIast 61 0 (fun x => x),
  ePure 62 (fLoadA 62 1 0),
  ePure 63 (fLoadI 63 1 1),
  ePure 64 (fPush 64 1 (.int 1)),
  ePure 65 (fBin 65 o_iadd),
  ePure 66 (fPush 66 1 (.int 1)),
  ePure 67 (fPush 67 3 (.int 4995)),
  eCallV 70 3 109 8,
  ePure 73 (fIf1 73 78 b1_ne),
  ePure 76 (fPush 76 1 (.int 0)),
  eRetZ 77,
  ePure 78 (fLoadA 78 1 0),
  eGet 79 8 12,
  ePure 82 (fPush 82 2 (.int 13)),
  ePure 84 (fDup2 84),
  eIald 85 0,
  ePure 86 (fPush 86 1 (.int 1)),
  ePure 87 (fBin 87 o_iadd),
  eIast 88 0 (fun x => x),
  ePure 89 (fPush 89 1 (.int 1)),
  eRetZ 90]
set_option maxRecDepth 100000 in
set_option maxHeartbeats 4000000 in
theorem ko_X8_readDrop {l : Launch} {D : va_G} {cA : Nat → ClassId} {B : BB} {G : State → Prop} {md : Bool} {d : Nat} {call : Call} (hG : ∀ s, G s → Gs B s) (hok : COk l D cA B G md d mI call) : ∀ e ∈ k_X8_readDrop md, EOk l RX8 cX8_readDrop 2 (some .boolean) false D cA B G md d call e := by
  unfold k_X8_readDrop
  refine al_cons (eok_pure (pr_aload_n dX8_readDrop_0 rfl)) ?_
  refine al_cons (ok_get cl_X8 gX8 (by decide) w_953 dX8_readDrop_1) ?_
  refine al_cons (eok_pure (pr_bipush dX8_readDrop_4 (by decide))) ?_
  refine al_cons (ok_iald dX8_readDrop_6) ?_
  refine al_cons (eok_pure (pr_iconst dX8_readDrop_7 (by decide))) ?_
  refine al_cons (eok_pure (pr_icmp_ne dX8_readDrop_8 (by decide))) ?_
  refine al_cons (eok_pure (pr_aload_n dX8_readDrop_11 rfl)) ?_
  refine al_cons (eok_pure (pr_iconst dX8_readDrop_12 (by decide))) ?_
  refine al_cons (ok_callV hok mi_107 cl_X8 w_1065 w_1067 w_35 w_82 w_1068 na_107 (by decide) dX8_readDrop_13) ?_
  refine al_cons (ok_retZ rfl dX8_readDrop_16) ?_
  refine al_cons (eok_pure (pr_aload_n dX8_readDrop_17 rfl)) ?_
  refine al_cons (ok_callV hok mi_102 cl_X8 w_1030 w_1032 w_30 w_82 w_1033 na_102 (by decide) dX8_readDrop_18) ?_
  refine al_cons (eok_pure (pr_bipush dX8_readDrop_21 (by decide))) ?_
  refine al_cons (eok_pure (pr_iconst dX8_readDrop_23 (by decide))) ?_
  refine al_cons (eok_pure (pr_aload_n dX8_readDrop_24 rfl)) ?_
  refine al_cons (ok_get cl_X8 gX8 (by decide) w_953 dX8_readDrop_25) ?_
  refine al_cons (eok_pure (pr_bipush dX8_readDrop_28 (by decide))) ?_
  refine al_cons (ok_iald dX8_readDrop_30) ?_
  refine al_cons (eok_pure (pr_imul dX8_readDrop_31)) ?_
  refine al_cons (eok_pure (pr_iadd dX8_readDrop_32)) ?_
  refine al_cons (eok_pure (pr_istore_n dX8_readDrop_33 rfl)) ?_
  refine al_cons (eok_pure (pr_aload_n dX8_readDrop_34 rfl)) ?_
  refine al_cons (eok_pure (pr_aload_n dX8_readDrop_35 rfl)) ?_
  refine al_cons (ok_get cl_X8 gX8 (by decide) w_953 dX8_readDrop_36) ?_
  refine al_cons (eok_pure (pr_bipush dX8_readDrop_39 (by decide))) ?_
  refine al_cons (ok_iald dX8_readDrop_41) ?_
  refine al_cons (ok_callV hok mi_110 cl_X8 w_1096 w_1098 w_40 w_82 w_1099 na_110 (by decide) dX8_readDrop_42) ?_
  refine al_cons (eok_pure (pr_if_ne dX8_readDrop_45 (by decide))) ?_
  refine al_cons (eok_pure (pr_iconst dX8_readDrop_48 (by decide))) ?_
  refine al_cons (ok_retZ rfl dX8_readDrop_49) ?_
  refine al_cons (eok_pure (pr_aload_n dX8_readDrop_50 rfl)) ?_
  refine al_cons (ok_get cl_X8 gX8 (by decide) w_953 dX8_readDrop_51) ?_
  refine al_cons (eok_pure (pr_iload_n dX8_readDrop_54 rfl)) ?_
  refine al_cons (eok_pure (pr_iconst dX8_readDrop_55 (by decide))) ?_
  refine al_cons (eok_pure (pr_iadd dX8_readDrop_56)) ?_
  refine al_cons (eok_pure (pr_aload_n dX8_readDrop_57 rfl)) ?_
  refine al_cons (ok_get cl_X8 gX8 (by decide) w_956 dX8_readDrop_58) ?_
  refine al_cons (ok_iast dX8_readDrop_61) ?_
  refine al_cons (eok_pure (pr_aload_n dX8_readDrop_62 rfl)) ?_
  refine al_cons (eok_pure (pr_iload_n dX8_readDrop_63 rfl)) ?_
  refine al_cons (eok_pure (pr_iconst dX8_readDrop_64 (by decide))) ?_
  refine al_cons (eok_pure (pr_iadd dX8_readDrop_65)) ?_
  refine al_cons (eok_pure (pr_iconst dX8_readDrop_66 (by decide))) ?_
  refine al_cons (eok_pure (pr_sipush dX8_readDrop_67 (by decide))) ?_
  refine al_cons (ok_callV hok mi_109 cl_X8 w_1069 w_1071 w_36 w_82 w_1072 na_109 (by decide) dX8_readDrop_70) ?_
  refine al_cons (eok_pure (pr_if_ne dX8_readDrop_73 (by decide))) ?_
  refine al_cons (eok_pure (pr_iconst dX8_readDrop_76 (by decide))) ?_
  refine al_cons (ok_retZ rfl dX8_readDrop_77) ?_
  refine al_cons (eok_pure (pr_aload_n dX8_readDrop_78 rfl)) ?_
  refine al_cons (ok_get cl_X8 gX8 (by decide) w_953 dX8_readDrop_79) ?_
  refine al_cons (eok_pure (pr_bipush dX8_readDrop_82 (by decide))) ?_
  refine al_cons (eok_pure (pr_dup2 dX8_readDrop_84)) ?_
  refine al_cons (ok_iald dX8_readDrop_85) ?_
  refine al_cons (eok_pure (pr_iconst dX8_readDrop_86 (by decide))) ?_
  refine al_cons (eok_pure (pr_iadd dX8_readDrop_87)) ?_
  refine al_cons (ok_iast dX8_readDrop_88) ?_
  refine al_cons (eok_pure (pr_iconst dX8_readDrop_89 (by decide))) ?_
  refine al_cons (ok_retZ rfl dX8_readDrop_90) ?_
  exact al_nil
def k_X8_readLine (md : Bool) : List Ent := [ePure 0 (fLoadI 0 1 1),
  ePure 1 (fIf1 1 9 b1_eq),
  ePure 4 (fLoadA 4 1 0),
  eCallV 5 0 111 8,
  eRetZ 8,
  ePure 9 (fLoadA 9 1 0),
  ePure 10 (fPush 10 3 (.long 14348907)),
  ePure 13 (fPush 13 2 (.int 99)),
  ePure 15 (fPush 15 2 (.int 111)),
  ePure 17 (fPush 17 2 (.int 109)),
  ePure 19 (fPush 19 2 (.int 112)),
  ePure 21 (fPush 21 2 (.int 97)),
  ePure 23 (fPush 23 2 (.int 114)),
  eCallS 25 6 104,
  ePure 28 (fBinJ 28 o_lmul),
  ePure 29 (fPush 29 3 (.long 729)),
  ePure 32 (fPush 32 2 (.int 116)),
  ePure 34 (fPush 34 2 (.int 109)),
  ePure 36 (fPush 36 2 (.int 101)),
  eCallS 38 3 103,
  ePure 41 (fBinJ 41 o_lmul),
  ePure 42 (fBinJ 42 o_ladd),
  ePure 43 (fPush 43 3 (.long 378)),
  ePure 46 (fBinJ 46 o_ladd),
  ePure 47 (fPush 47 3 (.long 20)),
  ePure 50 (fBinJ 50 o_ladd),
  eCallV 51 1 106 8,
  ePure 54 (fIf1 54 62 b1_eq),
  ePure 57 (fLoadA 57 1 0),
  eCallV 58 0 112 8,
  eRetZ 61,
  ePure 62 (fLoadA 62 1 0),
  ePure 63 (fPush 63 2 (.int 108)),
  ePure 65 (fPush 65 2 (.int 105)),
  ePure 67 (fPush 67 2 (.int 113)),
  ePure 69 (fPush 69 2 (.int 117)),
  ePure 71 (fPush 71 2 (.int 105)),
  ePure 73 (fPush 73 2 (.int 100)),
  eCallS 75 6 104,
  eCallV 78 1 106 8,
  ePure 81 (fIf1 81 89 b1_eq),
  ePure 84 (fLoadA 84 1 0),
  eCallV 85 0 113 8,
  eRetZ 88,
  ePure 89 (fLoadA 89 1 0),
  ePure 90 (fPush 90 2 (.int 98)),
  ePure 92 (fPush 92 2 (.int 97)),
  ePure 94 (fPush 94 2 (.int 114)),
  eCallS 96 3 103,
  eCallV 99 1 106 8,
  ePure 102 (fIf1 102 110 b1_eq),
  ePure 105 (fLoadA 105 1 0),
  eCallV 106 0 114 8,
  eRetZ 109,
  ePure 110 (fLoadA 110 1 0),
  ePure 111 (fPush 111 2 (.int 108)),
  ePure 113 (fPush 113 2 (.int 97)),
  ePure 115 (fPush 115 2 (.int 115)),
  ePure 117 (fPush 117 2 (.int 116)),
  eCallS 119 4 105,
  eCallV 122 1 106 8,
  ePure 125 (fIf1 125 133 b1_eq),
  ePure 128 (fLoadA 128 1 0),
  eCallV 129 0 115 8,
  eRetZ 132,
  ePure 133 (fLoadA 133 1 0),
  ePure 134 (fPush 134 2 (.int 100)),
  ePure 136 (fPush 136 2 (.int 114)),
  ePure 138 (fPush 138 2 (.int 111)),
  ePure 140 (fPush 140 2 (.int 112)),
  eCallS 142 4 105,
  eCallV 145 1 106 8,
  ePure 148 (fIf1 148 158 b1_eq),
  ePure 151 (fLoadA 151 1 0),
  eCallV 152 0 116 8,
  ePure 155 (fGoto 163),
  ePure 158 (fLoadA 158 1 0),
  ePure 159 (fPush 159 1 (.int 1)),
  eCallV 160 1 107 8,
  eRetZ 163]
set_option maxRecDepth 100000 in
set_option maxHeartbeats 4000000 in
theorem ko_X8_readLine {l : Launch} {D : va_G} {cA : Nat → ClassId} {B : BB} {G : State → Prop} {md : Bool} {d : Nat} {call : Call} (hG : ∀ s, G s → Gs B s) (hok : COk l D cA B G md d mI call) : ∀ e ∈ k_X8_readLine md, EOk l RX8 cX8_readLine 2 (some .boolean) false D cA B G md d call e := by
  unfold k_X8_readLine
  refine al_cons (eok_pure (pr_iload_n dX8_readLine_0 rfl)) ?_
  refine al_cons (eok_pure (pr_if_eq dX8_readLine_1 (by decide))) ?_
  refine al_cons (eok_pure (pr_aload_n dX8_readLine_4 rfl)) ?_
  refine al_cons (ok_callV hok mi_111 cl_X8 w_1050 w_1052 w_33 w_82 w_1053 na_111 (by decide) dX8_readLine_5) ?_
  refine al_cons (ok_retZ rfl dX8_readLine_8) ?_
  refine al_cons (eok_pure (pr_aload_n dX8_readLine_9 rfl)) ?_
  refine al_cons (eok_pure (pr_ldc2 dX8_readLine_10 w_1076)) ?_
  refine al_cons (eok_pure (pr_bipush dX8_readLine_13 (by decide))) ?_
  refine al_cons (eok_pure (pr_bipush dX8_readLine_15 (by decide))) ?_
  refine al_cons (eok_pure (pr_bipush dX8_readLine_17 (by decide))) ?_
  refine al_cons (eok_pure (pr_bipush dX8_readLine_19 (by decide))) ?_
  refine al_cons (eok_pure (pr_bipush dX8_readLine_21 (by decide))) ?_
  refine al_cons (eok_pure (pr_bipush dX8_readLine_23 (by decide))) ?_
  refine al_cons (ok_callS hok mi_104 w_1054 w_1055 w_82 w_1056 na_104 (by decide) dX8_readLine_25) ?_
  refine al_cons (eok_pure (pr_lmul dX8_readLine_28)) ?_
  refine al_cons (eok_pure (pr_ldc2 dX8_readLine_29 w_1077)) ?_
  refine al_cons (eok_pure (pr_bipush dX8_readLine_32 (by decide))) ?_
  refine al_cons (eok_pure (pr_bipush dX8_readLine_34 (by decide))) ?_
  refine al_cons (eok_pure (pr_bipush dX8_readLine_36 (by decide))) ?_
  refine al_cons (ok_callS hok mi_103 w_1058 w_1059 w_82 w_1060 na_103 (by decide) dX8_readLine_38) ?_
  refine al_cons (eok_pure (pr_lmul dX8_readLine_41)) ?_
  refine al_cons (eok_pure (pr_ladd dX8_readLine_42)) ?_
  refine al_cons (eok_pure (pr_ldc2 dX8_readLine_43 w_1078)) ?_
  refine al_cons (eok_pure (pr_ladd dX8_readLine_46)) ?_
  refine al_cons (eok_pure (pr_ldc2 dX8_readLine_47 w_1079)) ?_
  refine al_cons (eok_pure (pr_ladd dX8_readLine_50)) ?_
  refine al_cons (ok_callV hok mi_106 cl_X8 w_1061 w_1063 w_34 w_82 w_1064 na_106 (by decide) dX8_readLine_51) ?_
  refine al_cons (eok_pure (pr_if_eq dX8_readLine_54 (by decide))) ?_
  refine al_cons (eok_pure (pr_aload_n dX8_readLine_57 rfl)) ?_
  refine al_cons (ok_callV hok mi_112 cl_X8 w_1080 w_1082 w_37 w_82 w_1083 na_112 (by decide) dX8_readLine_58) ?_
  refine al_cons (ok_retZ rfl dX8_readLine_61) ?_
  refine al_cons (eok_pure (pr_aload_n dX8_readLine_62 rfl)) ?_
  refine al_cons (eok_pure (pr_bipush dX8_readLine_63 (by decide))) ?_
  refine al_cons (eok_pure (pr_bipush dX8_readLine_65 (by decide))) ?_
  refine al_cons (eok_pure (pr_bipush dX8_readLine_67 (by decide))) ?_
  refine al_cons (eok_pure (pr_bipush dX8_readLine_69 (by decide))) ?_
  refine al_cons (eok_pure (pr_bipush dX8_readLine_71 (by decide))) ?_
  refine al_cons (eok_pure (pr_bipush dX8_readLine_73 (by decide))) ?_
  refine al_cons (ok_callS hok mi_104 w_1054 w_1055 w_82 w_1056 na_104 (by decide) dX8_readLine_75) ?_
  refine al_cons (ok_callV hok mi_106 cl_X8 w_1061 w_1063 w_34 w_82 w_1064 na_106 (by decide) dX8_readLine_78) ?_
  refine al_cons (eok_pure (pr_if_eq dX8_readLine_81 (by decide))) ?_
  refine al_cons (eok_pure (pr_aload_n dX8_readLine_84 rfl)) ?_
  refine al_cons (ok_callV hok mi_113 cl_X8 w_1088 w_1090 w_38 w_82 w_1091 na_113 (by decide) dX8_readLine_85) ?_
  refine al_cons (ok_retZ rfl dX8_readLine_88) ?_
  refine al_cons (eok_pure (pr_aload_n dX8_readLine_89 rfl)) ?_
  refine al_cons (eok_pure (pr_bipush dX8_readLine_90 (by decide))) ?_
  refine al_cons (eok_pure (pr_bipush dX8_readLine_92 (by decide))) ?_
  refine al_cons (eok_pure (pr_bipush dX8_readLine_94 (by decide))) ?_
  refine al_cons (ok_callS hok mi_103 w_1058 w_1059 w_82 w_1060 na_103 (by decide) dX8_readLine_96) ?_
  refine al_cons (ok_callV hok mi_106 cl_X8 w_1061 w_1063 w_34 w_82 w_1064 na_106 (by decide) dX8_readLine_99) ?_
  refine al_cons (eok_pure (pr_if_eq dX8_readLine_102 (by decide))) ?_
  refine al_cons (eok_pure (pr_aload_n dX8_readLine_105 rfl)) ?_
  refine al_cons (ok_callV hok mi_114 cl_X8 w_1092 w_1094 w_39 w_82 w_1095 na_114 (by decide) dX8_readLine_106) ?_
  refine al_cons (ok_retZ rfl dX8_readLine_109) ?_
  refine al_cons (eok_pure (pr_aload_n dX8_readLine_110 rfl)) ?_
  refine al_cons (eok_pure (pr_bipush dX8_readLine_111 (by decide))) ?_
  refine al_cons (eok_pure (pr_bipush dX8_readLine_113 (by decide))) ?_
  refine al_cons (eok_pure (pr_bipush dX8_readLine_115 (by decide))) ?_
  refine al_cons (eok_pure (pr_bipush dX8_readLine_117 (by decide))) ?_
  refine al_cons (ok_callS hok mi_105 w_1084 w_1085 w_82 w_1086 na_105 (by decide) dX8_readLine_119) ?_
  refine al_cons (ok_callV hok mi_106 cl_X8 w_1061 w_1063 w_34 w_82 w_1064 na_106 (by decide) dX8_readLine_122) ?_
  refine al_cons (eok_pure (pr_if_eq dX8_readLine_125 (by decide))) ?_
  refine al_cons (eok_pure (pr_aload_n dX8_readLine_128 rfl)) ?_
  refine al_cons (ok_callV hok mi_115 cl_X8 w_1100 w_1102 w_41 w_82 w_1103 na_115 (by decide) dX8_readLine_129) ?_
  refine al_cons (ok_retZ rfl dX8_readLine_132) ?_
  refine al_cons (eok_pure (pr_aload_n dX8_readLine_133 rfl)) ?_
  refine al_cons (eok_pure (pr_bipush dX8_readLine_134 (by decide))) ?_
  refine al_cons (eok_pure (pr_bipush dX8_readLine_136 (by decide))) ?_
  refine al_cons (eok_pure (pr_bipush dX8_readLine_138 (by decide))) ?_
  refine al_cons (eok_pure (pr_bipush dX8_readLine_140 (by decide))) ?_
  refine al_cons (ok_callS hok mi_105 w_1084 w_1085 w_82 w_1086 na_105 (by decide) dX8_readLine_142) ?_
  refine al_cons (ok_callV hok mi_106 cl_X8 w_1061 w_1063 w_34 w_82 w_1064 na_106 (by decide) dX8_readLine_145) ?_
  refine al_cons (eok_pure (pr_if_eq dX8_readLine_148 (by decide))) ?_
  refine al_cons (eok_pure (pr_aload_n dX8_readLine_151 rfl)) ?_
  refine al_cons (ok_callV hok mi_116 cl_X8 w_1104 w_1106 w_42 w_82 w_1107 na_116 (by decide) dX8_readLine_152) ?_
  refine al_cons (eok_pure (pr_goto dX8_readLine_155 (by decide))) ?_
  refine al_cons (eok_pure (pr_aload_n dX8_readLine_158 rfl)) ?_
  refine al_cons (eok_pure (pr_iconst dX8_readLine_159 (by decide))) ?_
  refine al_cons (ok_callV hok mi_107 cl_X8 w_1065 w_1067 w_35 w_82 w_1068 na_107 (by decide) dX8_readLine_160) ?_
  refine al_cons (ok_retZ rfl dX8_readLine_163) ?_
  exact al_nil
def k_X8_readEnd (md : Bool) : List Ent := [ePure 0 (fLoadA 0 1 0),
  eGet 1 8 6,
  ePure 4 (fPush 4 1 (.int 4)),
  ePure 5 (fIf2 5 14 b2_eq),
  ePure 8 (fLoadA 8 1 0),
  ePure 9 (fPush 9 1 (.int 1)),
  eCallV 10 1 107 8,
  eRetZ 13,
  ePure 14 (fLoadA 14 1 0),
  eCallV 15 0 102 8,
  ePure 18 (fPush 18 1 (.int 1)),
  eRetZ 19]
set_option maxRecDepth 100000 in
set_option maxHeartbeats 4000000 in
theorem ko_X8_readEnd {l : Launch} {D : va_G} {cA : Nat → ClassId} {B : BB} {G : State → Prop} {md : Bool} {d : Nat} {call : Call} (hG : ∀ s, G s → Gs B s) (hok : COk l D cA B G md d mI call) : ∀ e ∈ k_X8_readEnd md, EOk l RX8 cX8_readEnd 1 (some .boolean) false D cA B G md d call e := by
  unfold k_X8_readEnd
  refine al_cons (eok_pure (pr_aload_n dX8_readEnd_0 rfl)) ?_
  refine al_cons (ok_get cl_X8 gX8 (by decide) w_947 dX8_readEnd_1) ?_
  refine al_cons (eok_pure (pr_iconst dX8_readEnd_4 (by decide))) ?_
  refine al_cons (eok_pure (pr_icmp_eq dX8_readEnd_5 (by decide))) ?_
  refine al_cons (eok_pure (pr_aload_n dX8_readEnd_8 rfl)) ?_
  refine al_cons (eok_pure (pr_iconst dX8_readEnd_9 (by decide))) ?_
  refine al_cons (ok_callV hok mi_107 cl_X8 w_1065 w_1067 w_35 w_82 w_1068 na_107 (by decide) dX8_readEnd_10) ?_
  refine al_cons (ok_retZ rfl dX8_readEnd_13) ?_
  refine al_cons (eok_pure (pr_aload_n dX8_readEnd_14 rfl)) ?_
  refine al_cons (ok_callV hok mi_102 cl_X8 w_1030 w_1032 w_30 w_82 w_1033 na_102 (by decide) dX8_readEnd_15) ?_
  refine al_cons (eok_pure (pr_iconst dX8_readEnd_18 (by decide))) ?_
  refine al_cons (ok_retZ rfl dX8_readEnd_19) ?_
  exact al_nil
def k_X8_text (md : Bool) : List Ent := [ePure 0 (fLoadA 0 1 0),
  ePure 1 (fPush 1 1 (.int 0)),
  ePut 2 8 0 kInt,
  ePure 5 (fLoadA 5 1 0),
  ePure 6 (fLoadA 6 1 0),
  eGet 7 8 2,
  ePut 10 8 3 kInt,
  ePure 13 (fLoadA 13 1 0),
  ePure 14 (fPush 14 1 (.int 0)),
  ePut 15 8 2 kInt,
  ePure 18 (fLoadA 18 1 0),
  ePure 19 (fPush 19 1 (.int 0)),
  ePut 20 8 8 kInt,
  ePure 23 (fLoadA 23 1 0),
  ePure 24 (fPush 24 1 (.int 0)),
  ePut 25 8 4 kInt,
  ePure 28 (fPush 28 1 (.int 0)),
  ePure 29 (fStoI 29 1 1 3),
  ePure 30 (fPush 30 1 (.int 0)),
  ePure 31 (fStoI 31 1 2 3),
  ePure 32 (fLoadI 32 1 2),
  ePure 33 (fPush 33 3 (.int 157)),
  ePure 36 (fIf2 36 52 b2_ge),
  ePure 39 (fLoadA 39 1 0),
  eGet 40 8 12,
  ePure 43 (fLoadI 43 1 2),
  ePure 44 (fPush 44 1 (.int 0)),
  eIast 45 0 (fun x => x),
  ePure 46 (fInc 46 2 3 1),
  ePure 49 (fGoto 32),
  ePure 52 (fLoadA 52 1 0),
  eGet 53 8 12,
  ePure 56 (fPush 56 1 (.int 0)),
  ePure 57 (fPush 57 1 (.int 1)),
  eIast 58 0 (fun x => x),
  ePure 59 (fLoadA 59 1 0),
  eCallV 60 0 102 8,
  ePure 63 (fLoadA 63 1 0),
  eGet 64 8 6,
  ePure 67 (fIf1 67 106 b1_eq),
  ePure 70 (fLoadA 70 1 0),
  ePure 71 (fLoadI 71 1 1),
  ePure 72 (fIf1 72 79 b1_ne),
  ePure 75 (fPush 75 1 (.int 1)),
  ePure 76 (fGoto 80),
  ePure 79 (fPush 79 1 (.int 0)),
  eCallV 80 1 117 8,
  ePure 83 (fIf1 83 93 b1_eq),
  ePure 86 (fLoadA 86 1 0),
  eCallV 87 0 118 8,
  ePure 90 (fIf1 90 100 b1_ne),
  ePure 93 (fPush 93 1 (.int (-1))),
  ePure 94 (fLoadA 94 1 0),
  eGet 95 8 9,
  ePure 98 (fBin 98 o_isub),
  eRetI 99,
  ePure 100 (fInc 100 1 3 1),
  ePure 103 (fGoto 63),
  ePure 106 (fPush 106 1 (.int 0)),
  ePure 107 (fStoI 107 1 2 3),
  ePure 108 (fLoadI 108 1 2),
  ePure 109 (fPush 109 3 (.int 157)),
  ePure 112 (fIf2 112 133 b2_ge),
  ePure 115 (fLoadA 115 1 0),
  eGet 116 8 11,
  ePure 119 (fLoadI 119 1 2),
  ePure 120 (fLoadA 120 1 0),
  eGet 121 8 12,
  ePure 124 (fLoadI 124 1 2),
  eIald 125 0,
  eIast 126 0 (fun x => x),
  ePure 127 (fInc 127 2 3 1),
  ePure 130 (fGoto 108),
  ePure 133 (fLoadA 133 1 0),
  ePure 134 (fPush 134 1 (.int 0)),
  ePut 135 8 14 kInt,
  ePure 138 (fLoadI 138 1 1),
  eRetI 139]
set_option maxRecDepth 100000 in
set_option maxHeartbeats 4000000 in
theorem ko_X8_text {l : Launch} {D : va_G} {cA : Nat → ClassId} {B : BB} {G : State → Prop} {md : Bool} {d : Nat} {call : Call} (hG : ∀ s, G s → Gs B s) (hok : COk l D cA B G md d mI call) : ∀ e ∈ k_X8_text md, EOk l RX8 cX8_text 3 (some .int) false D cA B G md d call e := by
  unfold k_X8_text
  refine al_cons (eok_pure (pr_aload_n dX8_text_0 rfl)) ?_
  refine al_cons (eok_pure (pr_iconst dX8_text_1 (by decide))) ?_
  refine al_cons (ok_put cl_X8 gX8 tyX8_ok nmX8 (by decide) w_941 rfl (by decide +kernel) (kok_int B) dX8_text_2) ?_
  refine al_cons (eok_pure (pr_aload_n dX8_text_5 rfl)) ?_
  refine al_cons (eok_pure (pr_aload_n dX8_text_6 rfl)) ?_
  refine al_cons (ok_get cl_X8 gX8 (by decide) w_943 dX8_text_7) ?_
  refine al_cons (ok_put cl_X8 gX8 tyX8_ok nmX8 (by decide) w_944 rfl (by decide +kernel) (kok_int B) dX8_text_10) ?_
  refine al_cons (eok_pure (pr_aload_n dX8_text_13 rfl)) ?_
  refine al_cons (eok_pure (pr_iconst dX8_text_14 (by decide))) ?_
  refine al_cons (ok_put cl_X8 gX8 tyX8_ok nmX8 (by decide) w_943 rfl (by decide +kernel) (kok_int B) dX8_text_15) ?_
  refine al_cons (eok_pure (pr_aload_n dX8_text_18 rfl)) ?_
  refine al_cons (eok_pure (pr_iconst dX8_text_19 (by decide))) ?_
  refine al_cons (ok_put cl_X8 gX8 tyX8_ok nmX8 (by decide) w_949 rfl (by decide +kernel) (kok_int B) dX8_text_20) ?_
  refine al_cons (eok_pure (pr_aload_n dX8_text_23 rfl)) ?_
  refine al_cons (eok_pure (pr_iconst dX8_text_24 (by decide))) ?_
  refine al_cons (ok_put cl_X8 gX8 tyX8_ok nmX8 (by decide) w_945 rfl (by decide +kernel) (kok_int B) dX8_text_25) ?_
  refine al_cons (eok_pure (pr_iconst dX8_text_28 (by decide))) ?_
  refine al_cons (eok_pure (pr_istore_n dX8_text_29 rfl)) ?_
  refine al_cons (eok_pure (pr_iconst dX8_text_30 (by decide))) ?_
  refine al_cons (eok_pure (pr_istore_n dX8_text_31 rfl)) ?_
  refine al_cons (eok_pure (pr_iload_n dX8_text_32 rfl)) ?_
  refine al_cons (eok_pure (pr_sipush dX8_text_33 (by decide))) ?_
  refine al_cons (eok_pure (pr_icmp_ge dX8_text_36 (by decide))) ?_
  refine al_cons (eok_pure (pr_aload_n dX8_text_39 rfl)) ?_
  refine al_cons (ok_get cl_X8 gX8 (by decide) w_953 dX8_text_40) ?_
  refine al_cons (eok_pure (pr_iload_n dX8_text_43 rfl)) ?_
  refine al_cons (eok_pure (pr_iconst dX8_text_44 (by decide))) ?_
  refine al_cons (ok_iast dX8_text_45) ?_
  refine al_cons (eok_pure (pr_iinc dX8_text_46 (by decide))) ?_
  refine al_cons (eok_pure (pr_goto dX8_text_49 (by decide))) ?_
  refine al_cons (eok_pure (pr_aload_n dX8_text_52 rfl)) ?_
  refine al_cons (ok_get cl_X8 gX8 (by decide) w_953 dX8_text_53) ?_
  refine al_cons (eok_pure (pr_iconst dX8_text_56 (by decide))) ?_
  refine al_cons (eok_pure (pr_iconst dX8_text_57 (by decide))) ?_
  refine al_cons (ok_iast dX8_text_58) ?_
  refine al_cons (eok_pure (pr_aload_n dX8_text_59 rfl)) ?_
  refine al_cons (ok_callV hok mi_102 cl_X8 w_1030 w_1032 w_30 w_82 w_1033 na_102 (by decide) dX8_text_60) ?_
  refine al_cons (eok_pure (pr_aload_n dX8_text_63 rfl)) ?_
  refine al_cons (ok_get cl_X8 gX8 (by decide) w_947 dX8_text_64) ?_
  refine al_cons (eok_pure (pr_if_eq dX8_text_67 (by decide))) ?_
  refine al_cons (eok_pure (pr_aload_n dX8_text_70 rfl)) ?_
  refine al_cons (eok_pure (pr_iload_n dX8_text_71 rfl)) ?_
  refine al_cons (eok_pure (pr_if_ne dX8_text_72 (by decide))) ?_
  refine al_cons (eok_pure (pr_iconst dX8_text_75 (by decide))) ?_
  refine al_cons (eok_pure (pr_goto dX8_text_76 (by decide))) ?_
  refine al_cons (eok_pure (pr_iconst dX8_text_79 (by decide))) ?_
  refine al_cons (ok_callV hok mi_117 cl_X8 w_1046 w_1048 w_32 w_82 w_1049 na_117 (by decide) dX8_text_80) ?_
  refine al_cons (eok_pure (pr_if_eq dX8_text_83 (by decide))) ?_
  refine al_cons (eok_pure (pr_aload_n dX8_text_86 rfl)) ?_
  refine al_cons (ok_callV hok mi_118 cl_X8 w_1108 w_1110 w_43 w_82 w_1111 na_118 (by decide) dX8_text_87) ?_
  refine al_cons (eok_pure (pr_if_ne dX8_text_90 (by decide))) ?_
  refine al_cons (eok_pure (pr_iconst dX8_text_93 (by decide))) ?_
  refine al_cons (eok_pure (pr_aload_n dX8_text_94 rfl)) ?_
  refine al_cons (ok_get cl_X8 gX8 (by decide) w_950 dX8_text_95) ?_
  refine al_cons (eok_pure (pr_isub dX8_text_98)) ?_
  refine al_cons (ok_retI rfl dX8_text_99) ?_
  refine al_cons (eok_pure (pr_iinc dX8_text_100 (by decide))) ?_
  refine al_cons (eok_pure (pr_goto dX8_text_103 (by decide))) ?_
  refine al_cons (eok_pure (pr_iconst dX8_text_106 (by decide))) ?_
  refine al_cons (eok_pure (pr_istore_n dX8_text_107 rfl)) ?_
  refine al_cons (eok_pure (pr_iload_n dX8_text_108 rfl)) ?_
  refine al_cons (eok_pure (pr_sipush dX8_text_109 (by decide))) ?_
  refine al_cons (eok_pure (pr_icmp_ge dX8_text_112 (by decide))) ?_
  refine al_cons (eok_pure (pr_aload_n dX8_text_115 rfl)) ?_
  refine al_cons (ok_get cl_X8 gX8 (by decide) w_952 dX8_text_116) ?_
  refine al_cons (eok_pure (pr_iload_n dX8_text_119 rfl)) ?_
  refine al_cons (eok_pure (pr_aload_n dX8_text_120 rfl)) ?_
  refine al_cons (ok_get cl_X8 gX8 (by decide) w_953 dX8_text_121) ?_
  refine al_cons (eok_pure (pr_iload_n dX8_text_124 rfl)) ?_
  refine al_cons (ok_iald dX8_text_125) ?_
  refine al_cons (ok_iast dX8_text_126) ?_
  refine al_cons (eok_pure (pr_iinc dX8_text_127 (by decide))) ?_
  refine al_cons (eok_pure (pr_goto dX8_text_130 (by decide))) ?_
  refine al_cons (eok_pure (pr_aload_n dX8_text_133 rfl)) ?_
  refine al_cons (eok_pure (pr_iconst dX8_text_134 (by decide))) ?_
  refine al_cons (ok_put cl_X8 gX8 tyX8_ok nmX8 (by decide) w_955 rfl (by decide +kernel) (kok_int B) dX8_text_135) ?_
  refine al_cons (eok_pure (pr_iload_n dX8_text_138 rfl)) ?_
  refine al_cons (ok_retI rfl dX8_text_139) ?_
  exact al_nil
def k_X8_fault (md : Bool) : List Ent := [ePure 0 (fLoadA 0 1 0),
  ePure 1 (fPush 1 1 (.int 0)),
  ePut 2 8 0 kInt,
  ePure 5 (fLoadA 5 1 0),
  eGet 6 8 8,
  eRetI 9]
set_option maxRecDepth 100000 in
set_option maxHeartbeats 4000000 in
theorem ko_X8_fault {l : Launch} {D : va_G} {cA : Nat → ClassId} {B : BB} {G : State → Prop} {md : Bool} {d : Nat} {call : Call} (hG : ∀ s, G s → Gs B s) (hok : COk l D cA B G md d mI call) : ∀ e ∈ k_X8_fault md, EOk l RX8 cX8_fault 1 (some .int) false D cA B G md d call e := by
  unfold k_X8_fault
  refine al_cons (eok_pure (pr_aload_n dX8_fault_0 rfl)) ?_
  refine al_cons (eok_pure (pr_iconst dX8_fault_1 (by decide))) ?_
  refine al_cons (ok_put cl_X8 gX8 tyX8_ok nmX8 (by decide) w_941 rfl (by decide +kernel) (kok_int B) dX8_fault_2) ?_
  refine al_cons (eok_pure (pr_aload_n dX8_fault_5 rfl)) ?_
  refine al_cons (ok_get cl_X8 gX8 (by decide) w_949 dX8_fault_6) ?_
  refine al_cons (ok_retI rfl dX8_fault_9) ?_
  exact al_nil
def k_X8_isHold (md : Bool) : List Ent := [ePure 0 (fLoadI 0 1 1),
  ePure 1 (fPush 1 1 (.int 0)),
  ePure 2 (fLoadA 2 1 0),
  eGet 3 8 11,
  ePure 6 (fPush 6 2 (.int 9)),
  eIald 8 0,
  ePure 9 (fPush 9 1 (.int 1)),
  ePure 10 (fBin 10 o_isub),
  eCallS 11 3 94,
  eRetZ 14]
set_option maxRecDepth 100000 in
set_option maxHeartbeats 4000000 in
theorem ko_X8_isHold {l : Launch} {D : va_G} {cA : Nat → ClassId} {B : BB} {G : State → Prop} {md : Bool} {d : Nat} {call : Call} (hG : ∀ s, G s → Gs B s) (hok : COk l D cA B G md d mI call) : ∀ e ∈ k_X8_isHold md, EOk l RX8 cX8_isHold 2 (some .boolean) false D cA B G md d call e := by
  unfold k_X8_isHold
  refine al_cons (eok_pure (pr_iload_n dX8_isHold_0 rfl)) ?_
  refine al_cons (eok_pure (pr_iconst dX8_isHold_1 (by decide))) ?_
  refine al_cons (eok_pure (pr_aload_n dX8_isHold_2 rfl)) ?_
  refine al_cons (ok_get cl_X8 gX8 (by decide) w_952 dX8_isHold_3) ?_
  refine al_cons (eok_pure (pr_bipush dX8_isHold_6 (by decide))) ?_
  refine al_cons (ok_iald dX8_isHold_8) ?_
  refine al_cons (eok_pure (pr_iconst dX8_isHold_9 (by decide))) ?_
  refine al_cons (eok_pure (pr_isub dX8_isHold_10)) ?_
  refine al_cons (ok_callS hok mi_94 w_1073 w_1074 w_82 w_1075 na_94 (by decide) dX8_isHold_11) ?_
  refine al_cons (ok_retZ rfl dX8_isHold_14) ?_
  exact al_nil
def k_X8_isLiquid (md : Bool) : List Ent := [ePure 0 (fLoadI 0 1 1),
  ePure 1 (fPush 1 1 (.int 0)),
  ePure 2 (fLoadA 2 1 0),
  eGet 3 8 11,
  ePure 6 (fPush 6 2 (.int 10)),
  eIald 8 0,
  ePure 9 (fPush 9 1 (.int 1)),
  ePure 10 (fBin 10 o_isub),
  eCallS 11 3 94,
  eRetZ 14]
set_option maxRecDepth 100000 in
set_option maxHeartbeats 4000000 in
theorem ko_X8_isLiquid {l : Launch} {D : va_G} {cA : Nat → ClassId} {B : BB} {G : State → Prop} {md : Bool} {d : Nat} {call : Call} (hG : ∀ s, G s → Gs B s) (hok : COk l D cA B G md d mI call) : ∀ e ∈ k_X8_isLiquid md, EOk l RX8 cX8_isLiquid 2 (some .boolean) false D cA B G md d call e := by
  unfold k_X8_isLiquid
  refine al_cons (eok_pure (pr_iload_n dX8_isLiquid_0 rfl)) ?_
  refine al_cons (eok_pure (pr_iconst dX8_isLiquid_1 (by decide))) ?_
  refine al_cons (eok_pure (pr_aload_n dX8_isLiquid_2 rfl)) ?_
  refine al_cons (ok_get cl_X8 gX8 (by decide) w_952 dX8_isLiquid_3) ?_
  refine al_cons (eok_pure (pr_bipush dX8_isLiquid_6 (by decide))) ?_
  refine al_cons (ok_iald dX8_isLiquid_8) ?_
  refine al_cons (eok_pure (pr_iconst dX8_isLiquid_9 (by decide))) ?_
  refine al_cons (eok_pure (pr_isub dX8_isLiquid_10)) ?_
  refine al_cons (ok_callS hok mi_94 w_1073 w_1074 w_82 w_1075 na_94 (by decide) dX8_isLiquid_11) ?_
  refine al_cons (ok_retZ rfl dX8_isLiquid_14) ?_
  exact al_nil
def k_X8_isDrop (md : Bool) : List Ent := [ePure 0 (fLoadI 0 1 1),
  ePure 1 (fPush 1 1 (.int 0)),
  ePure 2 (fLoadA 2 1 0),
  eGet 3 8 11,
  ePure 6 (fPush 6 2 (.int 13)),
  eIald 8 0,
  ePure 9 (fPush 9 1 (.int 1)),
  ePure 10 (fBin 10 o_isub),
  eCallS 11 3 94,
  eRetZ 14]
set_option maxRecDepth 100000 in
set_option maxHeartbeats 4000000 in
theorem ko_X8_isDrop {l : Launch} {D : va_G} {cA : Nat → ClassId} {B : BB} {G : State → Prop} {md : Bool} {d : Nat} {call : Call} (hG : ∀ s, G s → Gs B s) (hok : COk l D cA B G md d mI call) : ∀ e ∈ k_X8_isDrop md, EOk l RX8 cX8_isDrop 2 (some .boolean) false D cA B G md d call e := by
  unfold k_X8_isDrop
  refine al_cons (eok_pure (pr_iload_n dX8_isDrop_0 rfl)) ?_
  refine al_cons (eok_pure (pr_iconst dX8_isDrop_1 (by decide))) ?_
  refine al_cons (eok_pure (pr_aload_n dX8_isDrop_2 rfl)) ?_
  refine al_cons (ok_get cl_X8 gX8 (by decide) w_952 dX8_isDrop_3) ?_
  refine al_cons (eok_pure (pr_bipush dX8_isDrop_6 (by decide))) ?_
  refine al_cons (ok_iald dX8_isDrop_8) ?_
  refine al_cons (eok_pure (pr_iconst dX8_isDrop_9 (by decide))) ?_
  refine al_cons (eok_pure (pr_isub dX8_isDrop_10)) ?_
  refine al_cons (ok_callS hok mi_94 w_1073 w_1074 w_82 w_1075 na_94 (by decide) dX8_isDrop_11) ?_
  refine al_cons (ok_retZ rfl dX8_isDrop_14) ?_
  exact al_nil
def k_X8_holds (md : Bool) : List Ent := [ePure 0 (fLoadA 0 1 0),
  eGet 1 8 11,
  ePure 4 (fPush 4 2 (.int 27)),
  ePure 6 (fPush 6 2 (.int 6)),
  ePure 8 (fLoadI 8 1 1),
  ePure 9 (fBin 9 o_imul),
  ePure 10 (fBin 10 o_iadd),
  ePure 11 (fLoadI 11 1 2),
  ePure 12 (fBin 12 o_iadd),
  eIald 13 0,
  eRetI 14]
set_option maxRecDepth 100000 in
set_option maxHeartbeats 4000000 in
theorem ko_X8_holds {l : Launch} {D : va_G} {cA : Nat → ClassId} {B : BB} {G : State → Prop} {md : Bool} {d : Nat} {call : Call} (hG : ∀ s, G s → Gs B s) (hok : COk l D cA B G md d mI call) : ∀ e ∈ k_X8_holds md, EOk l RX8 cX8_holds 3 (some .int) false D cA B G md d call e := by
  unfold k_X8_holds
  refine al_cons (eok_pure (pr_aload_n dX8_holds_0 rfl)) ?_
  refine al_cons (ok_get cl_X8 gX8 (by decide) w_952 dX8_holds_1) ?_
  refine al_cons (eok_pure (pr_bipush dX8_holds_4 (by decide))) ?_
  refine al_cons (eok_pure (pr_bipush dX8_holds_6 (by decide))) ?_
  refine al_cons (eok_pure (pr_iload_n dX8_holds_8 rfl)) ?_
  refine al_cons (eok_pure (pr_imul dX8_holds_9)) ?_
  refine al_cons (eok_pure (pr_iadd dX8_holds_10)) ?_
  refine al_cons (eok_pure (pr_iload_n dX8_holds_11 rfl)) ?_
  refine al_cons (eok_pure (pr_iadd dX8_holds_12)) ?_
  refine al_cons (ok_iald dX8_holds_13) ?_
  refine al_cons (ok_retI rfl dX8_holds_14) ?_
  exact al_nil
def k_X8_its (md : Bool) : List Ent := [ePure 0 (fLoadA 0 1 0),
  eGet 1 8 11,
  ePure 4 (fPush 4 2 (.int 57)),
  ePure 6 (fPush 6 1 (.int 5)),
  ePure 7 (fLoadI 7 1 1),
  ePure 8 (fBin 8 o_imul),
  ePure 9 (fBin 9 o_iadd),
  ePure 10 (fLoadI 10 1 2),
  ePure 11 (fBin 11 o_iadd),
  eIald 12 0,
  eRetI 13]
set_option maxRecDepth 100000 in
set_option maxHeartbeats 4000000 in
theorem ko_X8_its {l : Launch} {D : va_G} {cA : Nat → ClassId} {B : BB} {G : State → Prop} {md : Bool} {d : Nat} {call : Call} (hG : ∀ s, G s → Gs B s) (hok : COk l D cA B G md d mI call) : ∀ e ∈ k_X8_its md, EOk l RX8 cX8_its 3 (some .int) false D cA B G md d call e := by
  unfold k_X8_its
  refine al_cons (eok_pure (pr_aload_n dX8_its_0 rfl)) ?_
  refine al_cons (ok_get cl_X8 gX8 (by decide) w_952 dX8_its_1) ?_
  refine al_cons (eok_pure (pr_bipush dX8_its_4 (by decide))) ?_
  refine al_cons (eok_pure (pr_iconst dX8_its_6 (by decide))) ?_
  refine al_cons (eok_pure (pr_iload_n dX8_its_7 rfl)) ?_
  refine al_cons (eok_pure (pr_imul dX8_its_8)) ?_
  refine al_cons (eok_pure (pr_iadd dX8_its_9)) ?_
  refine al_cons (eok_pure (pr_iload_n dX8_its_10 rfl)) ?_
  refine al_cons (eok_pure (pr_iadd dX8_its_11)) ?_
  refine al_cons (ok_iald dX8_its_12) ?_
  refine al_cons (ok_retI rfl dX8_its_13) ?_
  exact al_nil
def k_X8_top (md : Bool) : List Ent := [ePure 0 (fLoadA 0 1 0),
  ePure 1 (fLoadI 1 1 1),
  ePure 2 (fPush 2 1 (.int 0)),
  eCallV 3 2 124 8,
  ePure 6 (fLoadA 6 1 0),
  eGet 7 8 11,
  ePure 10 (fPush 10 2 (.int 6)),
  eIald 12 0,
  ePure 13 (fBin 13 o_imul),
  ePure 14 (fPush 14 2 (.int 100)),
  ePure 16 (fDiv 16),
  eRetI 17]
set_option maxRecDepth 100000 in
set_option maxHeartbeats 4000000 in
theorem ko_X8_top {l : Launch} {D : va_G} {cA : Nat → ClassId} {B : BB} {G : State → Prop} {md : Bool} {d : Nat} {call : Call} (hG : ∀ s, G s → Gs B s) (hok : COk l D cA B G md d mI call) : ∀ e ∈ k_X8_top md, EOk l RX8 cX8_top 2 (some .int) false D cA B G md d call e := by
  unfold k_X8_top
  refine al_cons (eok_pure (pr_aload_n dX8_top_0 rfl)) ?_
  refine al_cons (eok_pure (pr_iload_n dX8_top_1 rfl)) ?_
  refine al_cons (eok_pure (pr_iconst dX8_top_2 (by decide))) ?_
  refine al_cons (ok_callV hok mi_124 cl_X8 w_1124 w_1126 w_45 w_82 w_1127 na_124 (by decide) dX8_top_3) ?_
  refine al_cons (eok_pure (pr_aload_n dX8_top_6 rfl)) ?_
  refine al_cons (ok_get cl_X8 gX8 (by decide) w_952 dX8_top_7) ?_
  refine al_cons (eok_pure (pr_bipush dX8_top_10 (by decide))) ?_
  refine al_cons (ok_iald dX8_top_12) ?_
  refine al_cons (eok_pure (pr_imul dX8_top_13)) ?_
  refine al_cons (eok_pure (pr_bipush dX8_top_14 (by decide))) ?_
  refine al_cons (eok_pure (pr_idiv dX8_top_16)) ?_
  refine al_cons (ok_retI rfl dX8_top_17) ?_
  exact al_nil
def k_X8_lastIn (md : Bool) : List Ent := [ePure 0 (fLoadA 0 1 0),
  ePure 1 (fLoadI 1 1 1),
  ePure 2 (fPush 2 1 (.int 4)),
  eCallV 3 2 124 8,
  ePure 6 (fIf1 6 25 b1_le),
  ePure 9 (fLoadA 9 1 0),
  ePure 10 (fLoadA 10 1 0),
  ePure 11 (fLoadI 11 1 1),
  ePure 12 (fPush 12 1 (.int 4)),
  eCallV 13 2 124 8,
  ePure 16 (fPush 16 1 (.int 1)),
  ePure 17 (fBin 17 o_isub),
  ePure 18 (fPush 18 1 (.int 0)),
  eCallV 19 2 125 8,
  ePure 22 (fGoto 33),
  ePure 25 (fLoadA 25 1 0),
  ePure 26 (fLoadI 26 1 1),
  ePure 27 (fPush 27 1 (.int 5)),
  eCallV 28 2 124 8,
  ePure 31 (fPush 31 1 (.int 1)),
  ePure 32 (fBin 32 o_isub),
  eRetI 33]
set_option maxRecDepth 100000 in
set_option maxHeartbeats 4000000 in
theorem ko_X8_lastIn {l : Launch} {D : va_G} {cA : Nat → ClassId} {B : BB} {G : State → Prop} {md : Bool} {d : Nat} {call : Call} (hG : ∀ s, G s → Gs B s) (hok : COk l D cA B G md d mI call) : ∀ e ∈ k_X8_lastIn md, EOk l RX8 cX8_lastIn 2 (some .int) false D cA B G md d call e := by
  unfold k_X8_lastIn
  refine al_cons (eok_pure (pr_aload_n dX8_lastIn_0 rfl)) ?_
  refine al_cons (eok_pure (pr_iload_n dX8_lastIn_1 rfl)) ?_
  refine al_cons (eok_pure (pr_iconst dX8_lastIn_2 (by decide))) ?_
  refine al_cons (ok_callV hok mi_124 cl_X8 w_1124 w_1126 w_45 w_82 w_1127 na_124 (by decide) dX8_lastIn_3) ?_
  refine al_cons (eok_pure (pr_if_le dX8_lastIn_6 (by decide))) ?_
  refine al_cons (eok_pure (pr_aload_n dX8_lastIn_9 rfl)) ?_
  refine al_cons (eok_pure (pr_aload_n dX8_lastIn_10 rfl)) ?_
  refine al_cons (eok_pure (pr_iload_n dX8_lastIn_11 rfl)) ?_
  refine al_cons (eok_pure (pr_iconst dX8_lastIn_12 (by decide))) ?_
  refine al_cons (ok_callV hok mi_124 cl_X8 w_1124 w_1126 w_45 w_82 w_1127 na_124 (by decide) dX8_lastIn_13) ?_
  refine al_cons (eok_pure (pr_iconst dX8_lastIn_16 (by decide))) ?_
  refine al_cons (eok_pure (pr_isub dX8_lastIn_17)) ?_
  refine al_cons (eok_pure (pr_iconst dX8_lastIn_18 (by decide))) ?_
  refine al_cons (ok_callV hok mi_125 cl_X8 w_1128 w_1130 w_46 w_82 w_1131 na_125 (by decide) dX8_lastIn_19) ?_
  refine al_cons (eok_pure (pr_goto dX8_lastIn_22 (by decide))) ?_
  refine al_cons (eok_pure (pr_aload_n dX8_lastIn_25 rfl)) ?_
  refine al_cons (eok_pure (pr_iload_n dX8_lastIn_26 rfl)) ?_
  refine al_cons (eok_pure (pr_iconst dX8_lastIn_27 (by decide))) ?_
  refine al_cons (ok_callV hok mi_124 cl_X8 w_1124 w_1126 w_45 w_82 w_1127 na_124 (by decide) dX8_lastIn_28) ?_
  refine al_cons (eok_pure (pr_iconst dX8_lastIn_31 (by decide))) ?_
  refine al_cons (eok_pure (pr_isub dX8_lastIn_32)) ?_
  refine al_cons (ok_retI rfl dX8_lastIn_33) ?_
  exact al_nil
def k_X8_mayCome (md : Bool) : List Ent := [ePure 0 (fLoadI 0 1 3),
  ePure 1 (fLoadI 1 1 1),
  eCallS 2 2 95,
  ePure 5 (fIf1 5 37 b1_ne),
  ePure 8 (fLoadA 8 1 0),
  ePure 9 (fLoadI 9 1 1),
  eCallV 10 1 127 8,
  ePure 13 (fPush 13 1 (.int (-1))),
  ePure 14 (fIf2 14 37 b2_eq),
  ePure 17 (fLoadA 17 1 0),
  eGet 18 8 11,
  ePure 21 (fPush 21 2 (.int 21)),
  ePure 23 (fLoadA 23 1 0),
  ePure 24 (fLoadI 24 1 1),
  eCallV 25 1 127 8,
  ePure 28 (fBin 28 o_iadd),
  eIald 29 0,
  ePure 30 (fLoadI 30 1 2),
  eCallS 31 2 95,
  ePure 34 (fIf1 34 41 b1_ne),
  ePure 37 (fPush 37 1 (.int 1)),
  ePure 38 (fGoto 42),
  ePure 41 (fPush 41 1 (.int 0)),
  eRetZ 42]
set_option maxRecDepth 100000 in
set_option maxHeartbeats 4000000 in
theorem ko_X8_mayCome {l : Launch} {D : va_G} {cA : Nat → ClassId} {B : BB} {G : State → Prop} {md : Bool} {d : Nat} {call : Call} (hG : ∀ s, G s → Gs B s) (hok : COk l D cA B G md d mI call) : ∀ e ∈ k_X8_mayCome md, EOk l RX8 cX8_mayCome 4 (some .boolean) false D cA B G md d call e := by
  unfold k_X8_mayCome
  refine al_cons (eok_pure (pr_iload_n dX8_mayCome_0 rfl)) ?_
  refine al_cons (eok_pure (pr_iload_n dX8_mayCome_1 rfl)) ?_
  refine al_cons (ok_callS hok mi_95 w_1136 w_1137 w_82 w_1138 na_95 (by decide) dX8_mayCome_2) ?_
  refine al_cons (eok_pure (pr_if_ne dX8_mayCome_5 (by decide))) ?_
  refine al_cons (eok_pure (pr_aload_n dX8_mayCome_8 rfl)) ?_
  refine al_cons (eok_pure (pr_iload_n dX8_mayCome_9 rfl)) ?_
  refine al_cons (ok_callV hok mi_127 cl_X8 w_1168 w_1170 w_54 w_82 w_1171 na_127 (by decide) dX8_mayCome_10) ?_
  refine al_cons (eok_pure (pr_iconst dX8_mayCome_13 (by decide))) ?_
  refine al_cons (eok_pure (pr_icmp_eq dX8_mayCome_14 (by decide))) ?_
  refine al_cons (eok_pure (pr_aload_n dX8_mayCome_17 rfl)) ?_
  refine al_cons (ok_get cl_X8 gX8 (by decide) w_952 dX8_mayCome_18) ?_
  refine al_cons (eok_pure (pr_bipush dX8_mayCome_21 (by decide))) ?_
  refine al_cons (eok_pure (pr_aload_n dX8_mayCome_23 rfl)) ?_
  refine al_cons (eok_pure (pr_iload_n dX8_mayCome_24 rfl)) ?_
  refine al_cons (ok_callV hok mi_127 cl_X8 w_1168 w_1170 w_54 w_82 w_1171 na_127 (by decide) dX8_mayCome_25) ?_
  refine al_cons (eok_pure (pr_iadd dX8_mayCome_28)) ?_
  refine al_cons (ok_iald dX8_mayCome_29) ?_
  refine al_cons (eok_pure (pr_iload_n dX8_mayCome_30 rfl)) ?_
  refine al_cons (ok_callS hok mi_95 w_1136 w_1137 w_82 w_1138 na_95 (by decide) dX8_mayCome_31) ?_
  refine al_cons (eok_pure (pr_if_ne dX8_mayCome_34 (by decide))) ?_
  refine al_cons (eok_pure (pr_iconst dX8_mayCome_37 (by decide))) ?_
  refine al_cons (eok_pure (pr_goto dX8_mayCome_38 (by decide))) ?_
  refine al_cons (eok_pure (pr_iconst dX8_mayCome_41 (by decide))) ?_
  refine al_cons (ok_retZ rfl dX8_mayCome_42) ?_
  exact al_nil
def k_X8_loadedOf (md : Bool) : List Ent := [ePure 0 (fPush 0 1 (.int 0)),
  ePure 1 (fStoI 1 1 2 4),
  ePure 2 (fPush 2 1 (.int 0)),
  ePure 3 (fStoI 3 1 3 4),
  ePure 4 (fLoadI 4 1 3),
  ePure 5 (fLoadA 5 1 0),
  eGet 6 8 11,
  ePure 9 (fPush 9 2 (.int 9)),
  eIald 11 0,
  ePure 12 (fIf2 12 42 b2_ge),
  ePure 15 (fLoadA 15 1 0),
  ePure 16 (fLoadI 16 1 3),
  ePure 17 (fPush 17 1 (.int 4)),
  eCallV 18 2 124 8,
  ePure 21 (fLoadI 21 1 1),
  ePure 22 (fPush 22 1 (.int 1)),
  ePure 23 (fBin 23 o_iadd),
  ePure 24 (fIf2 24 36 b2_ne),
  ePure 27 (fLoadI 27 1 2),
  ePure 28 (fLoadA 28 1 0),
  ePure 29 (fLoadI 29 1 3),
  ePure 30 (fPush 30 1 (.int 3)),
  eCallV 31 2 124 8,
  ePure 34 (fBin 34 o_iadd),
  ePure 35 (fStoI 35 1 2 4),
  ePure 36 (fInc 36 3 4 1),
  ePure 39 (fGoto 4),
  ePure 42 (fLoadI 42 1 2),
  eRetI 43]
set_option maxRecDepth 100000 in
set_option maxHeartbeats 4000000 in
theorem ko_X8_loadedOf {l : Launch} {D : va_G} {cA : Nat → ClassId} {B : BB} {G : State → Prop} {md : Bool} {d : Nat} {call : Call} (hG : ∀ s, G s → Gs B s) (hok : COk l D cA B G md d mI call) : ∀ e ∈ k_X8_loadedOf md, EOk l RX8 cX8_loadedOf 4 (some .int) false D cA B G md d call e := by
  unfold k_X8_loadedOf
  refine al_cons (eok_pure (pr_iconst dX8_loadedOf_0 (by decide))) ?_
  refine al_cons (eok_pure (pr_istore_n dX8_loadedOf_1 rfl)) ?_
  refine al_cons (eok_pure (pr_iconst dX8_loadedOf_2 (by decide))) ?_
  refine al_cons (eok_pure (pr_istore_n dX8_loadedOf_3 rfl)) ?_
  refine al_cons (eok_pure (pr_iload_n dX8_loadedOf_4 rfl)) ?_
  refine al_cons (eok_pure (pr_aload_n dX8_loadedOf_5 rfl)) ?_
  refine al_cons (ok_get cl_X8 gX8 (by decide) w_952 dX8_loadedOf_6) ?_
  refine al_cons (eok_pure (pr_bipush dX8_loadedOf_9 (by decide))) ?_
  refine al_cons (ok_iald dX8_loadedOf_11) ?_
  refine al_cons (eok_pure (pr_icmp_ge dX8_loadedOf_12 (by decide))) ?_
  refine al_cons (eok_pure (pr_aload_n dX8_loadedOf_15 rfl)) ?_
  refine al_cons (eok_pure (pr_iload_n dX8_loadedOf_16 rfl)) ?_
  refine al_cons (eok_pure (pr_iconst dX8_loadedOf_17 (by decide))) ?_
  refine al_cons (ok_callV hok mi_124 cl_X8 w_1124 w_1126 w_45 w_82 w_1127 na_124 (by decide) dX8_loadedOf_18) ?_
  refine al_cons (eok_pure (pr_iload_n dX8_loadedOf_21 rfl)) ?_
  refine al_cons (eok_pure (pr_iconst dX8_loadedOf_22 (by decide))) ?_
  refine al_cons (eok_pure (pr_iadd dX8_loadedOf_23)) ?_
  refine al_cons (eok_pure (pr_icmp_ne dX8_loadedOf_24 (by decide))) ?_
  refine al_cons (eok_pure (pr_iload_n dX8_loadedOf_27 rfl)) ?_
  refine al_cons (eok_pure (pr_aload_n dX8_loadedOf_28 rfl)) ?_
  refine al_cons (eok_pure (pr_iload_n dX8_loadedOf_29 rfl)) ?_
  refine al_cons (eok_pure (pr_iconst dX8_loadedOf_30 (by decide))) ?_
  refine al_cons (ok_callV hok mi_124 cl_X8 w_1124 w_1126 w_45 w_82 w_1127 na_124 (by decide) dX8_loadedOf_31) ?_
  refine al_cons (eok_pure (pr_iadd dX8_loadedOf_34)) ?_
  refine al_cons (eok_pure (pr_istore_n dX8_loadedOf_35 rfl)) ?_
  refine al_cons (eok_pure (pr_iinc dX8_loadedOf_36 (by decide))) ?_
  refine al_cons (eok_pure (pr_goto dX8_loadedOf_39 (by decide))) ?_
  refine al_cons (eok_pure (pr_iload_n dX8_loadedOf_42 rfl)) ?_
  refine al_cons (ok_retI rfl dX8_loadedOf_43) ?_
  exact al_nil
def k_X8_having (md : Bool) : List Ent := [ePure 0 (fPush 0 1 (.int 0)),
  ePure 1 (fStoI 1 1 2 4),
  ePure 2 (fPush 2 1 (.int 0)),
  ePure 3 (fStoI 3 1 3 4),
  ePure 4 (fLoadI 4 1 3),
  ePure 5 (fLoadA 5 1 0),
  eGet 6 8 11,
  ePure 9 (fPush 9 2 (.int 13)),
  eIald 11 0,
  ePure 12 (fIf2 12 34 b2_ge),
  ePure 15 (fLoadA 15 1 0),
  ePure 16 (fLoadI 16 1 3),
  ePure 17 (fPush 17 1 (.int 2)),
  eCallV 18 2 125 8,
  ePure 21 (fLoadI 21 1 1),
  ePure 22 (fIf2 22 28 b2_ne),
  ePure 25 (fInc 25 2 4 1),
  ePure 28 (fInc 28 3 4 1),
  ePure 31 (fGoto 4),
  ePure 34 (fLoadI 34 1 2),
  eRetI 35]
set_option maxRecDepth 100000 in
set_option maxHeartbeats 4000000 in
theorem ko_X8_having {l : Launch} {D : va_G} {cA : Nat → ClassId} {B : BB} {G : State → Prop} {md : Bool} {d : Nat} {call : Call} (hG : ∀ s, G s → Gs B s) (hok : COk l D cA B G md d mI call) : ∀ e ∈ k_X8_having md, EOk l RX8 cX8_having 4 (some .int) false D cA B G md d call e := by
  unfold k_X8_having
  refine al_cons (eok_pure (pr_iconst dX8_having_0 (by decide))) ?_
  refine al_cons (eok_pure (pr_istore_n dX8_having_1 rfl)) ?_
  refine al_cons (eok_pure (pr_iconst dX8_having_2 (by decide))) ?_
  refine al_cons (eok_pure (pr_istore_n dX8_having_3 rfl)) ?_
  refine al_cons (eok_pure (pr_iload_n dX8_having_4 rfl)) ?_
  refine al_cons (eok_pure (pr_aload_n dX8_having_5 rfl)) ?_
  refine al_cons (ok_get cl_X8 gX8 (by decide) w_952 dX8_having_6) ?_
  refine al_cons (eok_pure (pr_bipush dX8_having_9 (by decide))) ?_
  refine al_cons (ok_iald dX8_having_11) ?_
  refine al_cons (eok_pure (pr_icmp_ge dX8_having_12 (by decide))) ?_
  refine al_cons (eok_pure (pr_aload_n dX8_having_15 rfl)) ?_
  refine al_cons (eok_pure (pr_iload_n dX8_having_16 rfl)) ?_
  refine al_cons (eok_pure (pr_iconst dX8_having_17 (by decide))) ?_
  refine al_cons (ok_callV hok mi_125 cl_X8 w_1128 w_1130 w_46 w_82 w_1131 na_125 (by decide) dX8_having_18) ?_
  refine al_cons (eok_pure (pr_iload_n dX8_having_21 rfl)) ?_
  refine al_cons (eok_pure (pr_icmp_ne dX8_having_22 (by decide))) ?_
  refine al_cons (eok_pure (pr_iinc dX8_having_25 (by decide))) ?_
  refine al_cons (eok_pure (pr_iinc dX8_having_28 (by decide))) ?_
  refine al_cons (eok_pure (pr_goto dX8_having_31 (by decide))) ?_
  refine al_cons (eok_pure (pr_iload_n dX8_having_34 rfl)) ?_
  refine al_cons (ok_retI rfl dX8_having_35) ?_
  exact al_nil
def k_X8_laysNow (md : Bool) : List Ent := [ePure 0 (fPush 0 1 (.int 0)),
  ePure 1 (fStoI 1 1 1 2),
  ePure 2 (fLoadI 2 1 1),
  ePure 3 (fLoadA 3 1 0),
  eGet 4 8 11,
  ePure 7 (fPush 7 2 (.int 9)),
  eIald 9 0,
  ePure 10 (fIf2 10 76 b2_ge),
  ePure 13 (fLoadA 13 1 0),
  eGet 14 8 16,
  ePure 17 (fLoadI 17 1 1),
  ePure 18 (fLoadA 18 1 0),
  ePure 19 (fLoadI 19 1 1),
  ePure 20 (fPush 20 1 (.int 3)),
  eCallV 21 2 124 8,
  eIast 24 0 (fun x => x),
  ePure 25 (fLoadA 25 1 0),
  eGet 26 8 18,
  ePure 29 (fLoadI 29 1 1),
  ePure 30 (fLoadA 30 1 0),
  ePure 31 (fLoadI 31 1 1),
  ePure 32 (fPush 32 1 (.int 4)),
  eCallV 33 2 124 8,
  ePure 36 (fPush 36 1 (.int 1)),
  ePure 37 (fBin 37 o_isub),
  eIast 38 0 (fun x => x),
  ePure 39 (fLoadA 39 1 0),
  eGet 40 8 17,
  ePure 43 (fLoadI 43 1 1),
  ePure 44 (fLoadA 44 1 0),
  eGet 45 8 18,
  ePure 48 (fLoadI 48 1 1),
  eIald 49 0,
  ePure 50 (fPush 50 1 (.int (-1))),
  ePure 51 (fIf2 51 58 b2_ne),
  ePure 54 (fPush 54 1 (.int 0)),
  ePure 55 (fGoto 69),
  ePure 58 (fLoadA 58 1 0),
  ePure 59 (fLoadA 59 1 0),
  eGet 60 8 18,
  ePure 63 (fLoadI 63 1 1),
  eIald 64 0,
  ePure 65 (fPush 65 1 (.int 0)),
  eCallV 66 2 125 8,
  eIast 69 0 (fun x => x),
  ePure 70 (fInc 70 1 2 1),
  ePure 73 (fGoto 2),
  eRetV 76]
set_option maxRecDepth 100000 in
set_option maxHeartbeats 4000000 in
theorem ko_X8_laysNow {l : Launch} {D : va_G} {cA : Nat → ClassId} {B : BB} {G : State → Prop} {md : Bool} {d : Nat} {call : Call} (hG : ∀ s, G s → Gs B s) (hok : COk l D cA B G md d mI call) : ∀ e ∈ k_X8_laysNow md, EOk l RX8 cX8_laysNow 2 none false D cA B G md d call e := by
  unfold k_X8_laysNow
  refine al_cons (eok_pure (pr_iconst dX8_laysNow_0 (by decide))) ?_
  refine al_cons (eok_pure (pr_istore_n dX8_laysNow_1 rfl)) ?_
  refine al_cons (eok_pure (pr_iload_n dX8_laysNow_2 rfl)) ?_
  refine al_cons (eok_pure (pr_aload_n dX8_laysNow_3 rfl)) ?_
  refine al_cons (ok_get cl_X8 gX8 (by decide) w_952 dX8_laysNow_4) ?_
  refine al_cons (eok_pure (pr_bipush dX8_laysNow_7 (by decide))) ?_
  refine al_cons (ok_iald dX8_laysNow_9) ?_
  refine al_cons (eok_pure (pr_icmp_ge dX8_laysNow_10 (by decide))) ?_
  refine al_cons (eok_pure (pr_aload_n dX8_laysNow_13 rfl)) ?_
  refine al_cons (ok_get cl_X8 gX8 (by decide) w_957 dX8_laysNow_14) ?_
  refine al_cons (eok_pure (pr_iload_n dX8_laysNow_17 rfl)) ?_
  refine al_cons (eok_pure (pr_aload_n dX8_laysNow_18 rfl)) ?_
  refine al_cons (eok_pure (pr_iload_n dX8_laysNow_19 rfl)) ?_
  refine al_cons (eok_pure (pr_iconst dX8_laysNow_20 (by decide))) ?_
  refine al_cons (ok_callV hok mi_124 cl_X8 w_1124 w_1126 w_45 w_82 w_1127 na_124 (by decide) dX8_laysNow_21) ?_
  refine al_cons (ok_iast dX8_laysNow_24) ?_
  refine al_cons (eok_pure (pr_aload_n dX8_laysNow_25 rfl)) ?_
  refine al_cons (ok_get cl_X8 gX8 (by decide) w_959 dX8_laysNow_26) ?_
  refine al_cons (eok_pure (pr_iload_n dX8_laysNow_29 rfl)) ?_
  refine al_cons (eok_pure (pr_aload_n dX8_laysNow_30 rfl)) ?_
  refine al_cons (eok_pure (pr_iload_n dX8_laysNow_31 rfl)) ?_
  refine al_cons (eok_pure (pr_iconst dX8_laysNow_32 (by decide))) ?_
  refine al_cons (ok_callV hok mi_124 cl_X8 w_1124 w_1126 w_45 w_82 w_1127 na_124 (by decide) dX8_laysNow_33) ?_
  refine al_cons (eok_pure (pr_iconst dX8_laysNow_36 (by decide))) ?_
  refine al_cons (eok_pure (pr_isub dX8_laysNow_37)) ?_
  refine al_cons (ok_iast dX8_laysNow_38) ?_
  refine al_cons (eok_pure (pr_aload_n dX8_laysNow_39 rfl)) ?_
  refine al_cons (ok_get cl_X8 gX8 (by decide) w_958 dX8_laysNow_40) ?_
  refine al_cons (eok_pure (pr_iload_n dX8_laysNow_43 rfl)) ?_
  refine al_cons (eok_pure (pr_aload_n dX8_laysNow_44 rfl)) ?_
  refine al_cons (ok_get cl_X8 gX8 (by decide) w_959 dX8_laysNow_45) ?_
  refine al_cons (eok_pure (pr_iload_n dX8_laysNow_48 rfl)) ?_
  refine al_cons (ok_iald dX8_laysNow_49) ?_
  refine al_cons (eok_pure (pr_iconst dX8_laysNow_50 (by decide))) ?_
  refine al_cons (eok_pure (pr_icmp_ne dX8_laysNow_51 (by decide))) ?_
  refine al_cons (eok_pure (pr_iconst dX8_laysNow_54 (by decide))) ?_
  refine al_cons (eok_pure (pr_goto dX8_laysNow_55 (by decide))) ?_
  refine al_cons (eok_pure (pr_aload_n dX8_laysNow_58 rfl)) ?_
  refine al_cons (eok_pure (pr_aload_n dX8_laysNow_59 rfl)) ?_
  refine al_cons (ok_get cl_X8 gX8 (by decide) w_959 dX8_laysNow_60) ?_
  refine al_cons (eok_pure (pr_iload_n dX8_laysNow_63 rfl)) ?_
  refine al_cons (ok_iald dX8_laysNow_64) ?_
  refine al_cons (eok_pure (pr_iconst dX8_laysNow_65 (by decide))) ?_
  refine al_cons (ok_callV hok mi_125 cl_X8 w_1128 w_1130 w_46 w_82 w_1131 na_125 (by decide) dX8_laysNow_66) ?_
  refine al_cons (ok_iast dX8_laysNow_69) ?_
  refine al_cons (eok_pure (pr_iinc dX8_laysNow_70 (by decide))) ?_
  refine al_cons (eok_pure (pr_goto dX8_laysNow_73 (by decide))) ?_
  refine al_cons (ok_retV rfl dX8_laysNow_76) ?_
  exact al_nil
def k_X8_muchBut (md : Bool) : List Ent := [ePure 0 (fLoadA 0 1 0),
  eGet 1 8 18,
  ePure 4 (fLoadI 4 1 1),
  eIald 5 0,
  ePure 6 (fPush 6 1 (.int (-1))),
  ePure 7 (fIf2 7 27 b2_eq),
  ePure 10 (fLoadI 10 1 2),
  ePure 11 (fLoadA 11 1 0),
  eGet 12 8 18,
  ePure 15 (fLoadI 15 1 1),
  eIald 16 0,
  eCallS 17 2 95,
  ePure 20 (fIf1 20 27 b1_eq),
  ePure 23 (fPush 23 1 (.int 0)),
  ePure 24 (fGoto 33),
  ePure 27 (fLoadA 27 1 0),
  eGet 28 8 16,
  ePure 31 (fLoadI 31 1 1),
  eIald 32 0,
  eRetI 33]
set_option maxRecDepth 100000 in
set_option maxHeartbeats 4000000 in
theorem ko_X8_muchBut {l : Launch} {D : va_G} {cA : Nat → ClassId} {B : BB} {G : State → Prop} {md : Bool} {d : Nat} {call : Call} (hG : ∀ s, G s → Gs B s) (hok : COk l D cA B G md d mI call) : ∀ e ∈ k_X8_muchBut md, EOk l RX8 cX8_muchBut 3 (some .int) false D cA B G md d call e := by
  unfold k_X8_muchBut
  refine al_cons (eok_pure (pr_aload_n dX8_muchBut_0 rfl)) ?_
  refine al_cons (ok_get cl_X8 gX8 (by decide) w_959 dX8_muchBut_1) ?_
  refine al_cons (eok_pure (pr_iload_n dX8_muchBut_4 rfl)) ?_
  refine al_cons (ok_iald dX8_muchBut_5) ?_
  refine al_cons (eok_pure (pr_iconst dX8_muchBut_6 (by decide))) ?_
  refine al_cons (eok_pure (pr_icmp_eq dX8_muchBut_7 (by decide))) ?_
  refine al_cons (eok_pure (pr_iload_n dX8_muchBut_10 rfl)) ?_
  refine al_cons (eok_pure (pr_aload_n dX8_muchBut_11 rfl)) ?_
  refine al_cons (ok_get cl_X8 gX8 (by decide) w_959 dX8_muchBut_12) ?_
  refine al_cons (eok_pure (pr_iload_n dX8_muchBut_15 rfl)) ?_
  refine al_cons (ok_iald dX8_muchBut_16) ?_
  refine al_cons (ok_callS hok mi_95 w_1136 w_1137 w_82 w_1138 na_95 (by decide) dX8_muchBut_17) ?_
  refine al_cons (eok_pure (pr_if_eq dX8_muchBut_20 (by decide))) ?_
  refine al_cons (eok_pure (pr_iconst dX8_muchBut_23 (by decide))) ?_
  refine al_cons (eok_pure (pr_goto dX8_muchBut_24 (by decide))) ?_
  refine al_cons (eok_pure (pr_aload_n dX8_muchBut_27 rfl)) ?_
  refine al_cons (ok_get cl_X8 gX8 (by decide) w_957 dX8_muchBut_28) ?_
  refine al_cons (eok_pure (pr_iload_n dX8_muchBut_31 rfl)) ?_
  refine al_cons (ok_iald dX8_muchBut_32) ?_
  refine al_cons (ok_retI rfl dX8_muchBut_33) ?_
  exact al_nil
def k_X8_front (md : Bool) : List Ent := [ePure 0 (fLoadA 0 1 0),
  eGet 1 8 11,
  ePure 4 (fPush 4 1 (.int 1)),
  eIald 5 0,
  ePure 6 (fLoadA 6 1 0),
  eGet 7 8 11,
  ePure 10 (fPush 10 1 (.int 0)),
  eIald 11 0,
  ePure 12 (fBin 12 o_imul),
  ePure 13 (fStoI 13 1 2 4),
  ePure 14 (fPush 14 1 (.int 0)),
  ePure 15 (fStoI 15 1 3 4),
  ePure 16 (fLoadI 16 1 3),
  ePure 17 (fLoadA 17 1 0),
  eGet 18 8 11,
  ePure 21 (fPush 21 2 (.int 9)),
  eIald 23 0,
  ePure 24 (fIf2 24 71 b2_ge),
  ePure 27 (fLoadI 27 1 2),
  ePure 28 (fLoadA 28 1 0),
  ePure 29 (fLoadI 29 1 3),
  ePure 30 (fLoadI 30 1 1),
  eCallV 31 2 132 8,
  ePure 34 (fLoadA 34 1 0),
  eGet 35 8 11,
  ePure 38 (fPush 38 2 (.int 15)),
  ePure 40 (fLoadA 40 1 0),
  eGet 41 8 17,
  ePure 44 (fLoadI 44 1 3),
  eIald 45 0,
  ePure 46 (fBin 46 o_iadd),
  eIald 47 0,
  ePure 48 (fBin 48 o_imul),
  ePure 49 (fLoadA 49 1 0),
  eGet 50 8 11,
  ePure 53 (fPush 53 1 (.int 0)),
  eIald 54 0,
  ePure 55 (fLoadA 55 1 0),
  ePure 56 (fLoadI 56 1 3),
  ePure 57 (fPush 57 1 (.int 1)),
  eCallV 58 2 124 8,
  ePure 61 (fBin 61 o_isub),
  ePure 62 (fBin 62 o_imul),
  ePure 63 (fBin 63 o_iadd),
  ePure 64 (fStoI 64 1 2 4),
  ePure 65 (fInc 65 3 4 1),
  ePure 68 (fGoto 16),
  ePure 71 (fLoadI 71 1 2),
  eRetI 72]
set_option maxRecDepth 100000 in
set_option maxHeartbeats 4000000 in
theorem ko_X8_front {l : Launch} {D : va_G} {cA : Nat → ClassId} {B : BB} {G : State → Prop} {md : Bool} {d : Nat} {call : Call} (hG : ∀ s, G s → Gs B s) (hok : COk l D cA B G md d mI call) : ∀ e ∈ k_X8_front md, EOk l RX8 cX8_front 4 (some .int) false D cA B G md d call e := by
  unfold k_X8_front
  refine al_cons (eok_pure (pr_aload_n dX8_front_0 rfl)) ?_
  refine al_cons (ok_get cl_X8 gX8 (by decide) w_952 dX8_front_1) ?_
  refine al_cons (eok_pure (pr_iconst dX8_front_4 (by decide))) ?_
  refine al_cons (ok_iald dX8_front_5) ?_
  refine al_cons (eok_pure (pr_aload_n dX8_front_6 rfl)) ?_
  refine al_cons (ok_get cl_X8 gX8 (by decide) w_952 dX8_front_7) ?_
  refine al_cons (eok_pure (pr_iconst dX8_front_10 (by decide))) ?_
  refine al_cons (ok_iald dX8_front_11) ?_
  refine al_cons (eok_pure (pr_imul dX8_front_12)) ?_
  refine al_cons (eok_pure (pr_istore_n dX8_front_13 rfl)) ?_
  refine al_cons (eok_pure (pr_iconst dX8_front_14 (by decide))) ?_
  refine al_cons (eok_pure (pr_istore_n dX8_front_15 rfl)) ?_
  refine al_cons (eok_pure (pr_iload_n dX8_front_16 rfl)) ?_
  refine al_cons (eok_pure (pr_aload_n dX8_front_17 rfl)) ?_
  refine al_cons (ok_get cl_X8 gX8 (by decide) w_952 dX8_front_18) ?_
  refine al_cons (eok_pure (pr_bipush dX8_front_21 (by decide))) ?_
  refine al_cons (ok_iald dX8_front_23) ?_
  refine al_cons (eok_pure (pr_icmp_ge dX8_front_24 (by decide))) ?_
  refine al_cons (eok_pure (pr_iload_n dX8_front_27 rfl)) ?_
  refine al_cons (eok_pure (pr_aload_n dX8_front_28 rfl)) ?_
  refine al_cons (eok_pure (pr_iload_n dX8_front_29 rfl)) ?_
  refine al_cons (eok_pure (pr_iload_n dX8_front_30 rfl)) ?_
  refine al_cons (ok_callV hok mi_132 cl_X8 w_1143 w_1145 w_49 w_82 w_1146 na_132 (by decide) dX8_front_31) ?_
  refine al_cons (eok_pure (pr_aload_n dX8_front_34 rfl)) ?_
  refine al_cons (ok_get cl_X8 gX8 (by decide) w_952 dX8_front_35) ?_
  refine al_cons (eok_pure (pr_bipush dX8_front_38 (by decide))) ?_
  refine al_cons (eok_pure (pr_aload_n dX8_front_40 rfl)) ?_
  refine al_cons (ok_get cl_X8 gX8 (by decide) w_958 dX8_front_41) ?_
  refine al_cons (eok_pure (pr_iload_n dX8_front_44 rfl)) ?_
  refine al_cons (ok_iald dX8_front_45) ?_
  refine al_cons (eok_pure (pr_iadd dX8_front_46)) ?_
  refine al_cons (ok_iald dX8_front_47) ?_
  refine al_cons (eok_pure (pr_imul dX8_front_48)) ?_
  refine al_cons (eok_pure (pr_aload_n dX8_front_49 rfl)) ?_
  refine al_cons (ok_get cl_X8 gX8 (by decide) w_952 dX8_front_50) ?_
  refine al_cons (eok_pure (pr_iconst dX8_front_53 (by decide))) ?_
  refine al_cons (ok_iald dX8_front_54) ?_
  refine al_cons (eok_pure (pr_aload_n dX8_front_55 rfl)) ?_
  refine al_cons (eok_pure (pr_iload_n dX8_front_56 rfl)) ?_
  refine al_cons (eok_pure (pr_iconst dX8_front_57 (by decide))) ?_
  refine al_cons (ok_callV hok mi_124 cl_X8 w_1124 w_1126 w_45 w_82 w_1127 na_124 (by decide) dX8_front_58) ?_
  refine al_cons (eok_pure (pr_isub dX8_front_61)) ?_
  refine al_cons (eok_pure (pr_imul dX8_front_62)) ?_
  refine al_cons (eok_pure (pr_iadd dX8_front_63)) ?_
  refine al_cons (eok_pure (pr_istore_n dX8_front_64 rfl)) ?_
  refine al_cons (eok_pure (pr_iinc dX8_front_65 (by decide))) ?_
  refine al_cons (eok_pure (pr_goto dX8_front_68 (by decide))) ?_
  refine al_cons (eok_pure (pr_iload_n dX8_front_71 rfl)) ?_
  refine al_cons (ok_retI rfl dX8_front_72) ?_
  exact al_nil
def k_X8_rear (md : Bool) : List Ent := [ePure 0 (fLoadA 0 1 0),
  eGet 1 8 11,
  ePure 4 (fPush 4 1 (.int 2)),
  eIald 5 0,
  ePure 6 (fLoadA 6 1 0),
  eGet 7 8 11,
  ePure 10 (fPush 10 1 (.int 0)),
  eIald 11 0,
  ePure 12 (fBin 12 o_imul),
  ePure 13 (fStoI 13 1 2 4),
  ePure 14 (fPush 14 1 (.int 0)),
  ePure 15 (fStoI 15 1 3 4),
  ePure 16 (fLoadI 16 1 3),
  ePure 17 (fLoadA 17 1 0),
  eGet 18 8 11,
  ePure 21 (fPush 21 2 (.int 9)),
  eIald 23 0,
  ePure 24 (fIf2 24 64 b2_ge),
  ePure 27 (fLoadI 27 1 2),
  ePure 28 (fLoadA 28 1 0),
  ePure 29 (fLoadI 29 1 3),
  ePure 30 (fLoadI 30 1 1),
  eCallV 31 2 132 8,
  ePure 34 (fLoadA 34 1 0),
  eGet 35 8 11,
  ePure 38 (fPush 38 2 (.int 15)),
  ePure 40 (fLoadA 40 1 0),
  eGet 41 8 17,
  ePure 44 (fLoadI 44 1 3),
  eIald 45 0,
  ePure 46 (fBin 46 o_iadd),
  eIald 47 0,
  ePure 48 (fBin 48 o_imul),
  ePure 49 (fLoadA 49 1 0),
  ePure 50 (fLoadI 50 1 3),
  ePure 51 (fPush 51 1 (.int 1)),
  eCallV 52 2 124 8,
  ePure 55 (fBin 55 o_imul),
  ePure 56 (fBin 56 o_iadd),
  ePure 57 (fStoI 57 1 2 4),
  ePure 58 (fInc 58 3 4 1),
  ePure 61 (fGoto 16),
  ePure 64 (fLoadI 64 1 2),
  eRetI 65]
set_option maxRecDepth 100000 in
set_option maxHeartbeats 4000000 in
theorem ko_X8_rear {l : Launch} {D : va_G} {cA : Nat → ClassId} {B : BB} {G : State → Prop} {md : Bool} {d : Nat} {call : Call} (hG : ∀ s, G s → Gs B s) (hok : COk l D cA B G md d mI call) : ∀ e ∈ k_X8_rear md, EOk l RX8 cX8_rear 4 (some .int) false D cA B G md d call e := by
  unfold k_X8_rear
  refine al_cons (eok_pure (pr_aload_n dX8_rear_0 rfl)) ?_
  refine al_cons (ok_get cl_X8 gX8 (by decide) w_952 dX8_rear_1) ?_
  refine al_cons (eok_pure (pr_iconst dX8_rear_4 (by decide))) ?_
  refine al_cons (ok_iald dX8_rear_5) ?_
  refine al_cons (eok_pure (pr_aload_n dX8_rear_6 rfl)) ?_
  refine al_cons (ok_get cl_X8 gX8 (by decide) w_952 dX8_rear_7) ?_
  refine al_cons (eok_pure (pr_iconst dX8_rear_10 (by decide))) ?_
  refine al_cons (ok_iald dX8_rear_11) ?_
  refine al_cons (eok_pure (pr_imul dX8_rear_12)) ?_
  refine al_cons (eok_pure (pr_istore_n dX8_rear_13 rfl)) ?_
  refine al_cons (eok_pure (pr_iconst dX8_rear_14 (by decide))) ?_
  refine al_cons (eok_pure (pr_istore_n dX8_rear_15 rfl)) ?_
  refine al_cons (eok_pure (pr_iload_n dX8_rear_16 rfl)) ?_
  refine al_cons (eok_pure (pr_aload_n dX8_rear_17 rfl)) ?_
  refine al_cons (ok_get cl_X8 gX8 (by decide) w_952 dX8_rear_18) ?_
  refine al_cons (eok_pure (pr_bipush dX8_rear_21 (by decide))) ?_
  refine al_cons (ok_iald dX8_rear_23) ?_
  refine al_cons (eok_pure (pr_icmp_ge dX8_rear_24 (by decide))) ?_
  refine al_cons (eok_pure (pr_iload_n dX8_rear_27 rfl)) ?_
  refine al_cons (eok_pure (pr_aload_n dX8_rear_28 rfl)) ?_
  refine al_cons (eok_pure (pr_iload_n dX8_rear_29 rfl)) ?_
  refine al_cons (eok_pure (pr_iload_n dX8_rear_30 rfl)) ?_
  refine al_cons (ok_callV hok mi_132 cl_X8 w_1143 w_1145 w_49 w_82 w_1146 na_132 (by decide) dX8_rear_31) ?_
  refine al_cons (eok_pure (pr_aload_n dX8_rear_34 rfl)) ?_
  refine al_cons (ok_get cl_X8 gX8 (by decide) w_952 dX8_rear_35) ?_
  refine al_cons (eok_pure (pr_bipush dX8_rear_38 (by decide))) ?_
  refine al_cons (eok_pure (pr_aload_n dX8_rear_40 rfl)) ?_
  refine al_cons (ok_get cl_X8 gX8 (by decide) w_958 dX8_rear_41) ?_
  refine al_cons (eok_pure (pr_iload_n dX8_rear_44 rfl)) ?_
  refine al_cons (ok_iald dX8_rear_45) ?_
  refine al_cons (eok_pure (pr_iadd dX8_rear_46)) ?_
  refine al_cons (ok_iald dX8_rear_47) ?_
  refine al_cons (eok_pure (pr_imul dX8_rear_48)) ?_
  refine al_cons (eok_pure (pr_aload_n dX8_rear_49 rfl)) ?_
  refine al_cons (eok_pure (pr_iload_n dX8_rear_50 rfl)) ?_
  refine al_cons (eok_pure (pr_iconst dX8_rear_51 (by decide))) ?_
  refine al_cons (ok_callV hok mi_124 cl_X8 w_1124 w_1126 w_45 w_82 w_1127 na_124 (by decide) dX8_rear_52) ?_
  refine al_cons (eok_pure (pr_imul dX8_rear_55)) ?_
  refine al_cons (eok_pure (pr_iadd dX8_rear_56)) ?_
  refine al_cons (eok_pure (pr_istore_n dX8_rear_57 rfl)) ?_
  refine al_cons (eok_pure (pr_iinc dX8_rear_58 (by decide))) ?_
  refine al_cons (eok_pure (pr_goto dX8_rear_61 (by decide))) ?_
  refine al_cons (eok_pure (pr_iload_n dX8_rear_64 rfl)) ?_
  refine al_cons (ok_retI rfl dX8_rear_65) ?_
  exact al_nil
def k_X8_stands (md : Bool) : List Ent := [ePure 0 (fPush 0 1 (.int 0)),
  ePure 1 (fStoI 1 1 2 4),
  ePure 2 (fLoadI 2 1 2),
  ePure 3 (fLoadA 3 1 0),
  eGet 4 8 11,
  ePure 7 (fPush 7 2 (.int 9)),
  eIald 9 0,
  ePure 10 (fIf2 10 81 b2_ge),
  ePure 13 (fPush 13 2 (.int 100)),
  ePure 15 (fLoadA 15 1 0),
  ePure 16 (fLoadI 16 1 2),
  ePure 17 (fLoadI 17 1 1),
  eCallV 18 2 132 8,
  ePure 21 (fBin 21 o_imul),
  ePure 22 (fStoI 22 1 3 4),
  ePure 23 (fLoadA 23 1 0),
  ePure 24 (fLoadI 24 1 2),
  ePure 25 (fPush 25 1 (.int 2)),
  eCallV 26 2 124 8,
  ePure 29 (fPush 29 1 (.int 1)),
  ePure 30 (fIf2 30 75 b2_ne),
  ePure 33 (fLoadI 33 1 3),
  ePure 34 (fIf1 34 75 b1_le),
  ePure 37 (fLoadI 37 1 3),
  ePure 38 (fLoadA 38 1 0),
  eGet 39 8 11,
  ePure 42 (fPush 42 2 (.int 7)),
  eIald 44 0,
  ePure 45 (fLoadA 45 1 0),
  ePure 46 (fLoadI 46 1 2),
  ePure 47 (fPush 47 1 (.int 0)),
  eCallV 48 2 124 8,
  ePure 51 (fBin 51 o_imul),
  ePure 52 (fIf2 52 75 b2_le),
  ePure 55 (fLoadI 55 1 3),
  ePure 56 (fLoadA 56 1 0),
  eGet 57 8 11,
  ePure 60 (fPush 60 2 (.int 8)),
  eIald 62 0,
  ePure 63 (fLoadA 63 1 0),
  ePure 64 (fLoadI 64 1 2),
  ePure 65 (fPush 65 1 (.int 0)),
  eCallV 66 2 124 8,
  ePure 69 (fBin 69 o_imul),
  ePure 70 (fIf2 70 75 b2_ge),
  ePure 73 (fPush 73 1 (.int 1)),
  eRetI 74,
  ePure 75 (fInc 75 2 4 1),
  ePure 78 (fGoto 2),
  ePure 81 (fLoadA 81 1 0),
  ePure 82 (fLoadI 82 1 1),
  eCallV 83 1 133 8,
  ePure 86 (fLoadA 86 1 0),
  eGet 87 8 11,
  ePure 90 (fPush 90 1 (.int 4)),
  eIald 91 0,
  ePure 92 (fLoadA 92 1 0),
  eGet 93 8 11,
  ePure 96 (fPush 96 1 (.int 0)),
  eIald 97 0,
  ePure 98 (fBin 98 o_imul),
  ePure 99 (fIf2 99 104 b2_le),
  ePure 102 (fPush 102 1 (.int 2)),
  eRetI 103,
  ePure 104 (fLoadA 104 1 0),
  ePure 105 (fLoadI 105 1 1),
  eCallV 106 1 133 8,
  ePure 109 (fLoadA 109 1 0),
  eGet 110 8 11,
  ePure 113 (fPush 113 1 (.int 3)),
  eIald 114 0,
  ePure 115 (fLoadA 115 1 0),
  eGet 116 8 11,
  ePure 119 (fPush 119 1 (.int 0)),
  eIald 120 0,
  ePure 121 (fBin 121 o_imul),
  ePure 122 (fIf2 122 127 b2_ge),
  ePure 125 (fPush 125 1 (.int 3)),
  eRetI 126,
  ePure 127 (fLoadA 127 1 0),
  ePure 128 (fLoadI 128 1 1),
  eCallV 129 1 134 8,
  ePure 132 (fLoadA 132 1 0),
  eGet 133 8 11,
  ePure 136 (fPush 136 1 (.int 5)),
  eIald 137 0,
  ePure 138 (fLoadA 138 1 0),
  eGet 139 8 11,
  ePure 142 (fPush 142 1 (.int 0)),
  eIald 143 0,
  ePure 144 (fBin 144 o_imul),
  ePure 145 (fIf2 145 152 b2_le),
  ePure 148 (fPush 148 1 (.int 4)),
  ePure 149 (fGoto 153),
  ePure 152 (fPush 152 1 (.int 0)),
  eRetI 153]
set_option maxRecDepth 100000 in
set_option maxHeartbeats 4000000 in
theorem ko_X8_stands {l : Launch} {D : va_G} {cA : Nat → ClassId} {B : BB} {G : State → Prop} {md : Bool} {d : Nat} {call : Call} (hG : ∀ s, G s → Gs B s) (hok : COk l D cA B G md d mI call) : ∀ e ∈ k_X8_stands md, EOk l RX8 cX8_stands 4 (some .int) false D cA B G md d call e := by
  unfold k_X8_stands
  refine al_cons (eok_pure (pr_iconst dX8_stands_0 (by decide))) ?_
  refine al_cons (eok_pure (pr_istore_n dX8_stands_1 rfl)) ?_
  refine al_cons (eok_pure (pr_iload_n dX8_stands_2 rfl)) ?_
  refine al_cons (eok_pure (pr_aload_n dX8_stands_3 rfl)) ?_
  refine al_cons (ok_get cl_X8 gX8 (by decide) w_952 dX8_stands_4) ?_
  refine al_cons (eok_pure (pr_bipush dX8_stands_7 (by decide))) ?_
  refine al_cons (ok_iald dX8_stands_9) ?_
  refine al_cons (eok_pure (pr_icmp_ge dX8_stands_10 (by decide))) ?_
  refine al_cons (eok_pure (pr_bipush dX8_stands_13 (by decide))) ?_
  refine al_cons (eok_pure (pr_aload_n dX8_stands_15 rfl)) ?_
  refine al_cons (eok_pure (pr_iload_n dX8_stands_16 rfl)) ?_
  refine al_cons (eok_pure (pr_iload_n dX8_stands_17 rfl)) ?_
  refine al_cons (ok_callV hok mi_132 cl_X8 w_1143 w_1145 w_49 w_82 w_1146 na_132 (by decide) dX8_stands_18) ?_
  refine al_cons (eok_pure (pr_imul dX8_stands_21)) ?_
  refine al_cons (eok_pure (pr_istore_n dX8_stands_22 rfl)) ?_
  refine al_cons (eok_pure (pr_aload_n dX8_stands_23 rfl)) ?_
  refine al_cons (eok_pure (pr_iload_n dX8_stands_24 rfl)) ?_
  refine al_cons (eok_pure (pr_iconst dX8_stands_25 (by decide))) ?_
  refine al_cons (ok_callV hok mi_124 cl_X8 w_1124 w_1126 w_45 w_82 w_1127 na_124 (by decide) dX8_stands_26) ?_
  refine al_cons (eok_pure (pr_iconst dX8_stands_29 (by decide))) ?_
  refine al_cons (eok_pure (pr_icmp_ne dX8_stands_30 (by decide))) ?_
  refine al_cons (eok_pure (pr_iload_n dX8_stands_33 rfl)) ?_
  refine al_cons (eok_pure (pr_if_le dX8_stands_34 (by decide))) ?_
  refine al_cons (eok_pure (pr_iload_n dX8_stands_37 rfl)) ?_
  refine al_cons (eok_pure (pr_aload_n dX8_stands_38 rfl)) ?_
  refine al_cons (ok_get cl_X8 gX8 (by decide) w_952 dX8_stands_39) ?_
  refine al_cons (eok_pure (pr_bipush dX8_stands_42 (by decide))) ?_
  refine al_cons (ok_iald dX8_stands_44) ?_
  refine al_cons (eok_pure (pr_aload_n dX8_stands_45 rfl)) ?_
  refine al_cons (eok_pure (pr_iload_n dX8_stands_46 rfl)) ?_
  refine al_cons (eok_pure (pr_iconst dX8_stands_47 (by decide))) ?_
  refine al_cons (ok_callV hok mi_124 cl_X8 w_1124 w_1126 w_45 w_82 w_1127 na_124 (by decide) dX8_stands_48) ?_
  refine al_cons (eok_pure (pr_imul dX8_stands_51)) ?_
  refine al_cons (eok_pure (pr_icmp_le dX8_stands_52 (by decide))) ?_
  refine al_cons (eok_pure (pr_iload_n dX8_stands_55 rfl)) ?_
  refine al_cons (eok_pure (pr_aload_n dX8_stands_56 rfl)) ?_
  refine al_cons (ok_get cl_X8 gX8 (by decide) w_952 dX8_stands_57) ?_
  refine al_cons (eok_pure (pr_bipush dX8_stands_60 (by decide))) ?_
  refine al_cons (ok_iald dX8_stands_62) ?_
  refine al_cons (eok_pure (pr_aload_n dX8_stands_63 rfl)) ?_
  refine al_cons (eok_pure (pr_iload_n dX8_stands_64 rfl)) ?_
  refine al_cons (eok_pure (pr_iconst dX8_stands_65 (by decide))) ?_
  refine al_cons (ok_callV hok mi_124 cl_X8 w_1124 w_1126 w_45 w_82 w_1127 na_124 (by decide) dX8_stands_66) ?_
  refine al_cons (eok_pure (pr_imul dX8_stands_69)) ?_
  refine al_cons (eok_pure (pr_icmp_ge dX8_stands_70 (by decide))) ?_
  refine al_cons (eok_pure (pr_iconst dX8_stands_73 (by decide))) ?_
  refine al_cons (ok_retI rfl dX8_stands_74) ?_
  refine al_cons (eok_pure (pr_iinc dX8_stands_75 (by decide))) ?_
  refine al_cons (eok_pure (pr_goto dX8_stands_78 (by decide))) ?_
  refine al_cons (eok_pure (pr_aload_n dX8_stands_81 rfl)) ?_
  refine al_cons (eok_pure (pr_iload_n dX8_stands_82 rfl)) ?_
  refine al_cons (ok_callV hok mi_133 cl_X8 w_1139 w_1141 w_48 w_82 w_1142 na_133 (by decide) dX8_stands_83) ?_
  refine al_cons (eok_pure (pr_aload_n dX8_stands_86 rfl)) ?_
  refine al_cons (ok_get cl_X8 gX8 (by decide) w_952 dX8_stands_87) ?_
  refine al_cons (eok_pure (pr_iconst dX8_stands_90 (by decide))) ?_
  refine al_cons (ok_iald dX8_stands_91) ?_
  refine al_cons (eok_pure (pr_aload_n dX8_stands_92 rfl)) ?_
  refine al_cons (ok_get cl_X8 gX8 (by decide) w_952 dX8_stands_93) ?_
  refine al_cons (eok_pure (pr_iconst dX8_stands_96 (by decide))) ?_
  refine al_cons (ok_iald dX8_stands_97) ?_
  refine al_cons (eok_pure (pr_imul dX8_stands_98)) ?_
  refine al_cons (eok_pure (pr_icmp_le dX8_stands_99 (by decide))) ?_
  refine al_cons (eok_pure (pr_iconst dX8_stands_102 (by decide))) ?_
  refine al_cons (ok_retI rfl dX8_stands_103) ?_
  refine al_cons (eok_pure (pr_aload_n dX8_stands_104 rfl)) ?_
  refine al_cons (eok_pure (pr_iload_n dX8_stands_105 rfl)) ?_
  refine al_cons (ok_callV hok mi_133 cl_X8 w_1139 w_1141 w_48 w_82 w_1142 na_133 (by decide) dX8_stands_106) ?_
  refine al_cons (eok_pure (pr_aload_n dX8_stands_109 rfl)) ?_
  refine al_cons (ok_get cl_X8 gX8 (by decide) w_952 dX8_stands_110) ?_
  refine al_cons (eok_pure (pr_iconst dX8_stands_113 (by decide))) ?_
  refine al_cons (ok_iald dX8_stands_114) ?_
  refine al_cons (eok_pure (pr_aload_n dX8_stands_115 rfl)) ?_
  refine al_cons (ok_get cl_X8 gX8 (by decide) w_952 dX8_stands_116) ?_
  refine al_cons (eok_pure (pr_iconst dX8_stands_119 (by decide))) ?_
  refine al_cons (ok_iald dX8_stands_120) ?_
  refine al_cons (eok_pure (pr_imul dX8_stands_121)) ?_
  refine al_cons (eok_pure (pr_icmp_ge dX8_stands_122 (by decide))) ?_
  refine al_cons (eok_pure (pr_iconst dX8_stands_125 (by decide))) ?_
  refine al_cons (ok_retI rfl dX8_stands_126) ?_
  refine al_cons (eok_pure (pr_aload_n dX8_stands_127 rfl)) ?_
  refine al_cons (eok_pure (pr_iload_n dX8_stands_128 rfl)) ?_
  refine al_cons (ok_callV hok mi_134 cl_X8 w_1147 w_1149 w_50 w_82 w_1150 na_134 (by decide) dX8_stands_129) ?_
  refine al_cons (eok_pure (pr_aload_n dX8_stands_132 rfl)) ?_
  refine al_cons (ok_get cl_X8 gX8 (by decide) w_952 dX8_stands_133) ?_
  refine al_cons (eok_pure (pr_iconst dX8_stands_136 (by decide))) ?_
  refine al_cons (ok_iald dX8_stands_137) ?_
  refine al_cons (eok_pure (pr_aload_n dX8_stands_138 rfl)) ?_
  refine al_cons (ok_get cl_X8 gX8 (by decide) w_952 dX8_stands_139) ?_
  refine al_cons (eok_pure (pr_iconst dX8_stands_142 (by decide))) ?_
  refine al_cons (ok_iald dX8_stands_143) ?_
  refine al_cons (eok_pure (pr_imul dX8_stands_144)) ?_
  refine al_cons (eok_pure (pr_icmp_le dX8_stands_145 (by decide))) ?_
  refine al_cons (eok_pure (pr_iconst dX8_stands_148 (by decide))) ?_
  refine al_cons (eok_pure (pr_goto dX8_stands_149 (by decide))) ?_
  refine al_cons (eok_pure (pr_iconst dX8_stands_152 (by decide))) ?_
  refine al_cons (ok_retI rfl dX8_stands_153) ?_
  exact al_nil
def k_X8_ordersFrom (md : Bool) : List Ent := [ePure 0 (fLoadI 0 1 2),
  ePure 1 (fLoadI 1 1 1),
  ePure 2 (fIf2 2 49 b2_ne),
  ePure 5 (fLoadA 5 1 0),
  eGet 6 8 21,
  ePure 9 (fPush 9 1 (.int (-1))),
  ePure 10 (fIf2 10 47 b2_ne),
  ePure 13 (fLoadA 13 1 0),
  ePure 14 (fLoadI 14 1 3),
  ePut 15 8 21 kInt,
  ePure 18 (fPush 18 1 (.int 0)),
  ePure 19 (fStoI 19 2 4 6),
  ePure 21 (fLoadI 21 2 4),
  ePure 23 (fLoadI 23 1 3),
  ePure 24 (fIf2 24 47 b2_ge),
  ePure 27 (fLoadA 27 1 0),
  eGet 28 8 19,
  ePure 31 (fLoadI 31 2 4),
  ePure 33 (fLoadA 33 1 0),
  eGet 34 8 20,
  ePure 37 (fLoadI 37 2 4),
  eIald 39 0,
  eIast 40 0 (fun x => x),
  ePure 41 (fInc 41 4 6 1),
  ePure 44 (fGoto 21),
  ePure 47 (fPush 47 1 (.int 1)),
  eRetI 48,
  ePure 49 (fPush 49 1 (.int 0)),
  ePure 50 (fStoI 50 2 4 6),
  ePure 52 (fPush 52 1 (.int 0)),
  ePure 53 (fStoI 53 2 5 6),
  ePure 55 (fLoadI 55 2 5),
  ePure 57 (fLoadA 57 1 0),
  eGet 58 8 11,
  ePure 61 (fPush 61 2 (.int 13)),
  eIald 63 0,
  ePure 64 (fIf2 64 134 b2_ge),
  ePure 67 (fLoadI 67 1 1),
  ePure 68 (fLoadI 68 2 5),
  eCallS 70 2 95,
  ePure 73 (fIf1 73 128 b1_eq),
  ePure 76 (fLoadI 76 1 2),
  ePure 77 (fLoadI 77 2 5),
  eCallS 79 2 95,
  ePure 82 (fIf1 82 128 b1_ne),
  ePure 85 (fLoadA 85 1 0),
  ePure 86 (fLoadI 86 1 2),
  ePure 87 (fPush 87 1 (.int 1)),
  ePure 88 (fLoadI 88 2 5),
  ePure 90 (fBin 90 o_ishl),
  ePure 91 (fBin 91 o_ior),
  eCallV 92 1 135 8,
  ePure 95 (fIf1 95 101 b1_eq),
  ePure 98 (fGoto 128),
  ePure 101 (fLoadA 101 1 0),
  eGet 102 8 20,
  ePure 105 (fLoadI 105 1 3),
  ePure 106 (fLoadI 106 2 5),
  eIast 108 0 (fun x => x),
  ePure 109 (fLoadI 109 2 4),
  ePure 111 (fLoadA 111 1 0),
  ePure 112 (fLoadI 112 1 1),
  ePure 113 (fLoadI 113 1 2),
  ePure 114 (fPush 114 1 (.int 1)),
  ePure 115 (fLoadI 115 2 5),
  ePure 117 (fBin 117 o_ishl),
  ePure 118 (fBin 118 o_ior),
  ePure 119 (fLoadI 119 1 3),
  ePure 120 (fPush 120 1 (.int 1)),
  ePure 121 (fBin 121 o_iadd),
  eCallV 122 3 136 8,
  ePure 125 (fBin 125 o_iadd),
  ePure 126 (fStoI 126 2 4 6),
  ePure 128 (fInc 128 5 6 1),
  ePure 131 (fGoto 55),
  ePure 134 (fLoadI 134 2 4),
  eRetI 136]
set_option maxRecDepth 100000 in
set_option maxHeartbeats 4000000 in
theorem ko_X8_ordersFrom {l : Launch} {D : va_G} {cA : Nat → ClassId} {B : BB} {G : State → Prop} {md : Bool} {d : Nat} {call : Call} (hG : ∀ s, G s → Gs B s) (hok : COk l D cA B G md d mI call) : ∀ e ∈ k_X8_ordersFrom md, EOk l RX8 cX8_ordersFrom 6 (some .int) false D cA B G md d call e := by
  unfold k_X8_ordersFrom
  refine al_cons (eok_pure (pr_iload_n dX8_ordersFrom_0 rfl)) ?_
  refine al_cons (eok_pure (pr_iload_n dX8_ordersFrom_1 rfl)) ?_
  refine al_cons (eok_pure (pr_icmp_ne dX8_ordersFrom_2 (by decide))) ?_
  refine al_cons (eok_pure (pr_aload_n dX8_ordersFrom_5 rfl)) ?_
  refine al_cons (ok_get cl_X8 gX8 (by decide) w_962 dX8_ordersFrom_6) ?_
  refine al_cons (eok_pure (pr_iconst dX8_ordersFrom_9 (by decide))) ?_
  refine al_cons (eok_pure (pr_icmp_ne dX8_ordersFrom_10 (by decide))) ?_
  refine al_cons (eok_pure (pr_aload_n dX8_ordersFrom_13 rfl)) ?_
  refine al_cons (eok_pure (pr_iload_n dX8_ordersFrom_14 rfl)) ?_
  refine al_cons (ok_put cl_X8 gX8 tyX8_ok nmX8 (by decide) w_962 rfl (by decide +kernel) (kok_int B) dX8_ordersFrom_15) ?_
  refine al_cons (eok_pure (pr_iconst dX8_ordersFrom_18 (by decide))) ?_
  refine al_cons (eok_pure (pr_istore dX8_ordersFrom_19)) ?_
  refine al_cons (eok_pure (pr_iload dX8_ordersFrom_21)) ?_
  refine al_cons (eok_pure (pr_iload_n dX8_ordersFrom_23 rfl)) ?_
  refine al_cons (eok_pure (pr_icmp_ge dX8_ordersFrom_24 (by decide))) ?_
  refine al_cons (eok_pure (pr_aload_n dX8_ordersFrom_27 rfl)) ?_
  refine al_cons (ok_get cl_X8 gX8 (by decide) w_960 dX8_ordersFrom_28) ?_
  refine al_cons (eok_pure (pr_iload dX8_ordersFrom_31)) ?_
  refine al_cons (eok_pure (pr_aload_n dX8_ordersFrom_33 rfl)) ?_
  refine al_cons (ok_get cl_X8 gX8 (by decide) w_961 dX8_ordersFrom_34) ?_
  refine al_cons (eok_pure (pr_iload dX8_ordersFrom_37)) ?_
  refine al_cons (ok_iald dX8_ordersFrom_39) ?_
  refine al_cons (ok_iast dX8_ordersFrom_40) ?_
  refine al_cons (eok_pure (pr_iinc dX8_ordersFrom_41 (by decide))) ?_
  refine al_cons (eok_pure (pr_goto dX8_ordersFrom_44 (by decide))) ?_
  refine al_cons (eok_pure (pr_iconst dX8_ordersFrom_47 (by decide))) ?_
  refine al_cons (ok_retI rfl dX8_ordersFrom_48) ?_
  refine al_cons (eok_pure (pr_iconst dX8_ordersFrom_49 (by decide))) ?_
  refine al_cons (eok_pure (pr_istore dX8_ordersFrom_50)) ?_
  refine al_cons (eok_pure (pr_iconst dX8_ordersFrom_52 (by decide))) ?_
  refine al_cons (eok_pure (pr_istore dX8_ordersFrom_53)) ?_
  refine al_cons (eok_pure (pr_iload dX8_ordersFrom_55)) ?_
  refine al_cons (eok_pure (pr_aload_n dX8_ordersFrom_57 rfl)) ?_
  refine al_cons (ok_get cl_X8 gX8 (by decide) w_952 dX8_ordersFrom_58) ?_
  refine al_cons (eok_pure (pr_bipush dX8_ordersFrom_61 (by decide))) ?_
  refine al_cons (ok_iald dX8_ordersFrom_63) ?_
  refine al_cons (eok_pure (pr_icmp_ge dX8_ordersFrom_64 (by decide))) ?_
  refine al_cons (eok_pure (pr_iload_n dX8_ordersFrom_67 rfl)) ?_
  refine al_cons (eok_pure (pr_iload dX8_ordersFrom_68)) ?_
  refine al_cons (ok_callS hok mi_95 w_1136 w_1137 w_82 w_1138 na_95 (by decide) dX8_ordersFrom_70) ?_
  refine al_cons (eok_pure (pr_if_eq dX8_ordersFrom_73 (by decide))) ?_
  refine al_cons (eok_pure (pr_iload_n dX8_ordersFrom_76 rfl)) ?_
  refine al_cons (eok_pure (pr_iload dX8_ordersFrom_77)) ?_
  refine al_cons (ok_callS hok mi_95 w_1136 w_1137 w_82 w_1138 na_95 (by decide) dX8_ordersFrom_79) ?_
  refine al_cons (eok_pure (pr_if_ne dX8_ordersFrom_82 (by decide))) ?_
  refine al_cons (eok_pure (pr_aload_n dX8_ordersFrom_85 rfl)) ?_
  refine al_cons (eok_pure (pr_iload_n dX8_ordersFrom_86 rfl)) ?_
  refine al_cons (eok_pure (pr_iconst dX8_ordersFrom_87 (by decide))) ?_
  refine al_cons (eok_pure (pr_iload dX8_ordersFrom_88)) ?_
  refine al_cons (eok_pure (pr_ishl dX8_ordersFrom_90)) ?_
  refine al_cons (eok_pure (pr_ior dX8_ordersFrom_91)) ?_
  refine al_cons (ok_callV hok mi_135 cl_X8 w_1151 w_1153 w_51 w_82 w_1154 na_135 (by decide) dX8_ordersFrom_92) ?_
  refine al_cons (eok_pure (pr_if_eq dX8_ordersFrom_95 (by decide))) ?_
  refine al_cons (eok_pure (pr_goto dX8_ordersFrom_98 (by decide))) ?_
  refine al_cons (eok_pure (pr_aload_n dX8_ordersFrom_101 rfl)) ?_
  refine al_cons (ok_get cl_X8 gX8 (by decide) w_961 dX8_ordersFrom_102) ?_
  refine al_cons (eok_pure (pr_iload_n dX8_ordersFrom_105 rfl)) ?_
  refine al_cons (eok_pure (pr_iload dX8_ordersFrom_106)) ?_
  refine al_cons (ok_iast dX8_ordersFrom_108) ?_
  refine al_cons (eok_pure (pr_iload dX8_ordersFrom_109)) ?_
  refine al_cons (eok_pure (pr_aload_n dX8_ordersFrom_111 rfl)) ?_
  refine al_cons (eok_pure (pr_iload_n dX8_ordersFrom_112 rfl)) ?_
  refine al_cons (eok_pure (pr_iload_n dX8_ordersFrom_113 rfl)) ?_
  refine al_cons (eok_pure (pr_iconst dX8_ordersFrom_114 (by decide))) ?_
  refine al_cons (eok_pure (pr_iload dX8_ordersFrom_115)) ?_
  refine al_cons (eok_pure (pr_ishl dX8_ordersFrom_117)) ?_
  refine al_cons (eok_pure (pr_ior dX8_ordersFrom_118)) ?_
  refine al_cons (eok_pure (pr_iload_n dX8_ordersFrom_119 rfl)) ?_
  refine al_cons (eok_pure (pr_iconst dX8_ordersFrom_120 (by decide))) ?_
  refine al_cons (eok_pure (pr_iadd dX8_ordersFrom_121)) ?_
  refine al_cons (ok_callV hok mi_136 cl_X8 w_1216 w_1218 w_62 w_82 w_1219 na_136 (by decide) dX8_ordersFrom_122) ?_
  refine al_cons (eok_pure (pr_iadd dX8_ordersFrom_125)) ?_
  refine al_cons (eok_pure (pr_istore dX8_ordersFrom_126)) ?_
  refine al_cons (eok_pure (pr_iinc dX8_ordersFrom_128 (by decide))) ?_
  refine al_cons (eok_pure (pr_goto dX8_ordersFrom_131 (by decide))) ?_
  refine al_cons (eok_pure (pr_iload dX8_ordersFrom_134)) ?_
  refine al_cons (ok_retI rfl dX8_ordersFrom_136) ?_
  exact al_nil
def k_X8_ordersOf (md : Bool) : List Ent := [ePure 0 (fLoadA 0 1 0),
  ePure 1 (fPush 1 1 (.int (-1))),
  ePut 2 8 21 kInt,
  ePure 5 (fLoadA 5 1 0),
  ePure 6 (fLoadI 6 1 1),
  ePure 7 (fPush 7 1 (.int 0)),
  ePure 8 (fPush 8 1 (.int 0)),
  eCallV 9 3 136 8,
  eRetI 12]
set_option maxRecDepth 100000 in
set_option maxHeartbeats 4000000 in
theorem ko_X8_ordersOf {l : Launch} {D : va_G} {cA : Nat → ClassId} {B : BB} {G : State → Prop} {md : Bool} {d : Nat} {call : Call} (hG : ∀ s, G s → Gs B s) (hok : COk l D cA B G md d mI call) : ∀ e ∈ k_X8_ordersOf md, EOk l RX8 cX8_ordersOf 2 (some .int) false D cA B G md d call e := by
  unfold k_X8_ordersOf
  refine al_cons (eok_pure (pr_aload_n dX8_ordersOf_0 rfl)) ?_
  refine al_cons (eok_pure (pr_iconst dX8_ordersOf_1 (by decide))) ?_
  refine al_cons (ok_put cl_X8 gX8 tyX8_ok nmX8 (by decide) w_962 rfl (by decide +kernel) (kok_int B) dX8_ordersOf_2) ?_
  refine al_cons (eok_pure (pr_aload_n dX8_ordersOf_5 rfl)) ?_
  refine al_cons (eok_pure (pr_iload_n dX8_ordersOf_6 rfl)) ?_
  refine al_cons (eok_pure (pr_iconst dX8_ordersOf_7 (by decide))) ?_
  refine al_cons (eok_pure (pr_iconst dX8_ordersOf_8 (by decide))) ?_
  refine al_cons (ok_callV hok mi_136 cl_X8 w_1216 w_1218 w_62 w_82 w_1219 na_136 (by decide) dX8_ordersOf_9) ?_
  refine al_cons (ok_retI rfl dX8_ordersOf_12) ?_
  exact al_nil
def k_X8_aboardNow (md : Bool) : List Ent := [ePure 0 (fPush 0 1 (.int 0)),
  ePure 1 (fStoI 1 1 1 3),
  ePure 2 (fPush 2 1 (.int 0)),
  ePure 3 (fStoI 3 1 2 3),
  ePure 4 (fLoadI 4 1 2),
  ePure 5 (fLoadA 5 1 0),
  eGet 6 8 11,
  ePure 9 (fPush 9 2 (.int 13)),
  eIald 11 0,
  ePure 12 (fIf2 12 37 b2_ge),
  ePure 15 (fLoadA 15 1 0),
  ePure 16 (fLoadI 16 1 2),
  ePure 17 (fPush 17 1 (.int 2)),
  eCallV 18 2 125 8,
  ePure 21 (fPush 21 1 (.int 1)),
  ePure 22 (fIf2 22 31 b2_ne),
  ePure 25 (fLoadI 25 1 1),
  ePure 26 (fPush 26 1 (.int 1)),
  ePure 27 (fLoadI 27 1 2),
  ePure 28 (fBin 28 o_ishl),
  ePure 29 (fBin 29 o_ior),
  ePure 30 (fStoI 30 1 1 3),
  ePure 31 (fInc 31 2 3 1),
  ePure 34 (fGoto 4),
  ePure 37 (fLoadI 37 1 1),
  eRetI 38]
set_option maxRecDepth 100000 in
set_option maxHeartbeats 4000000 in
theorem ko_X8_aboardNow {l : Launch} {D : va_G} {cA : Nat → ClassId} {B : BB} {G : State → Prop} {md : Bool} {d : Nat} {call : Call} (hG : ∀ s, G s → Gs B s) (hok : COk l D cA B G md d mI call) : ∀ e ∈ k_X8_aboardNow md, EOk l RX8 cX8_aboardNow 3 (some .int) false D cA B G md d call e := by
  unfold k_X8_aboardNow
  refine al_cons (eok_pure (pr_iconst dX8_aboardNow_0 (by decide))) ?_
  refine al_cons (eok_pure (pr_istore_n dX8_aboardNow_1 rfl)) ?_
  refine al_cons (eok_pure (pr_iconst dX8_aboardNow_2 (by decide))) ?_
  refine al_cons (eok_pure (pr_istore_n dX8_aboardNow_3 rfl)) ?_
  refine al_cons (eok_pure (pr_iload_n dX8_aboardNow_4 rfl)) ?_
  refine al_cons (eok_pure (pr_aload_n dX8_aboardNow_5 rfl)) ?_
  refine al_cons (ok_get cl_X8 gX8 (by decide) w_952 dX8_aboardNow_6) ?_
  refine al_cons (eok_pure (pr_bipush dX8_aboardNow_9 (by decide))) ?_
  refine al_cons (ok_iald dX8_aboardNow_11) ?_
  refine al_cons (eok_pure (pr_icmp_ge dX8_aboardNow_12 (by decide))) ?_
  refine al_cons (eok_pure (pr_aload_n dX8_aboardNow_15 rfl)) ?_
  refine al_cons (eok_pure (pr_iload_n dX8_aboardNow_16 rfl)) ?_
  refine al_cons (eok_pure (pr_iconst dX8_aboardNow_17 (by decide))) ?_
  refine al_cons (ok_callV hok mi_125 cl_X8 w_1128 w_1130 w_46 w_82 w_1131 na_125 (by decide) dX8_aboardNow_18) ?_
  refine al_cons (eok_pure (pr_iconst dX8_aboardNow_21 (by decide))) ?_
  refine al_cons (eok_pure (pr_icmp_ne dX8_aboardNow_22 (by decide))) ?_
  refine al_cons (eok_pure (pr_iload_n dX8_aboardNow_25 rfl)) ?_
  refine al_cons (eok_pure (pr_iconst dX8_aboardNow_26 (by decide))) ?_
  refine al_cons (eok_pure (pr_iload_n dX8_aboardNow_27 rfl)) ?_
  refine al_cons (eok_pure (pr_ishl dX8_aboardNow_28)) ?_
  refine al_cons (eok_pure (pr_ior dX8_aboardNow_29)) ?_
  refine al_cons (eok_pure (pr_istore_n dX8_aboardNow_30 rfl)) ?_
  refine al_cons (eok_pure (pr_iinc dX8_aboardNow_31 (by decide))) ?_
  refine al_cons (eok_pure (pr_goto dX8_aboardNow_34 (by decide))) ?_
  refine al_cons (eok_pure (pr_iload_n dX8_aboardNow_37 rfl)) ?_
  refine al_cons (ok_retI rfl dX8_aboardNow_38) ?_
  exact al_nil
