def k_X8_empty (md : Bool) : List Ent := [ePure 0 (fLoadA 0 1 0),
  ePure 1 (fPush 1 1 (.int 0)),
  ePut 2 8 0 kInt,
  ePure 5 (fLoadA 5 1 0),
  ePure 6 (fLoadI 6 1 1),
  eCallV 7 1 122 8,
  ePure 10 (fIf1 10 22 b1_eq),
  ePure 13 (fLoadA 13 1 0),
  ePure 14 (fLoadI 14 1 1),
  ePure 15 (fPush 15 1 (.int 4)),
  eCallV 16 2 125 8,
  ePure 19 (fIf1 19 24 b1_ne),
  ePure 22 (fPush 22 1 (.int (-1))),
  eRetI 23,
  ePure 24 (fLoadA 24 1 0),
  ePure 25 (fLoadI 25 1 1),
  ePure 26 (fPush 26 1 (.int 4)),
  eCallV 27 2 125 8,
  ePure 30 (fPush 30 1 (.int 1)),
  ePure 31 (fBin 31 o_isub),
  ePure 32 (fStoI 32 1 2 4),
  ePure 33 (fLoadA 33 1 0),
  ePure 34 (fLoadI 34 1 2),
  ePure 35 (fPush 35 1 (.int 2)),
  eCallV 36 2 126 8,
  ePure 39 (fPush 39 1 (.int 1)),
  ePure 40 (fIf2 40 55 b2_ne),
  ePure 43 (fLoadA 43 1 0),
  ePure 44 (fPush 44 1 (.int 0)),
  eCallV 45 1 131 8,
  ePure 48 (fPush 48 1 (.int 4)),
  ePure 49 (fIf2 49 55 b2_ne),
  ePure 52 (fPush 52 2 (.int (-2))),
  eRetI 54,
  ePure 55 (fLoadA 55 1 0),
  eCallV 56 0 155 8,
  ePure 59 (fLoadA 59 1 0),
  ePure 60 (fLoadI 60 1 1),
  ePure 61 (fPush 61 1 (.int 3)),
  eCallV 62 2 125 8,
  ePure 65 (fStoI 65 1 3 4),
  ePure 66 (fLoadA 66 1 0),
  ePure 67 (fLoadI 67 1 1),
  eCallV 68 1 161 8,
  ePure 71 (fLoadA 71 1 0),
  eGet 72 8 11,
  ePure 75 (fPush 75 2 (.int 57)),
  ePure 77 (fPush 77 1 (.int 5)),
  ePure 78 (fLoadI 78 1 2),
  ePure 79 (fBin 79 o_imul),
  ePure 80 (fBin 80 o_iadd),
  ePure 81 (fPush 81 1 (.int 2)),
  ePure 82 (fBin 82 o_iadd),
  ePure 83 (fPush 83 1 (.int 0)),
  eIast 84 0 (fun x => x),
  ePure 85 (fLoadI 85 1 3),
  eRetI 86]
set_option maxRecDepth 100000 in
set_option maxHeartbeats 4000000 in
theorem ko_X8_empty {l : Launch} {D : va_G} {cA : Nat → ClassId} {B : Nat × Nat} {G : State → Prop} {md : Bool} {d : Nat} {call : Call} (hok : COk l D cA B G md d mI call) : ∀ e ∈ k_X8_empty md, EOk l RX8 cX8_empty 4 (some .int) false D cA B G md d call e := by
  unfold k_X8_empty
  refine al_cons (eok_pure (pr_aload_n dX8_empty_0 rfl)) ?_
  refine al_cons (eok_pure (pr_iconst dX8_empty_1 (by decide))) ?_
  refine al_cons (ok_put cl_X8 gX8 tyX8_ok nmX8 (by decide) w_945 rfl (by decide +kernel) (kok_int B) dX8_empty_2) ?_
  refine al_cons (eok_pure (pr_aload_n dX8_empty_5 rfl)) ?_
  refine al_cons (eok_pure (pr_iload_n dX8_empty_6 rfl)) ?_
  refine al_cons (ok_callV hok mi_122 cl_X8 w_1164 w_1166 w_52 w_82 w_1167 na_122 (by decide) dX8_empty_7) ?_
  refine al_cons (eok_pure (pr_if_eq dX8_empty_10 (by decide))) ?_
  refine al_cons (eok_pure (pr_aload_n dX8_empty_13 rfl)) ?_
  refine al_cons (eok_pure (pr_iload_n dX8_empty_14 rfl)) ?_
  refine al_cons (eok_pure (pr_iconst dX8_empty_15 (by decide))) ?_
  refine al_cons (ok_callV hok mi_125 cl_X8 w_1128 w_1130 w_45 w_82 w_1131 na_125 (by decide) dX8_empty_16) ?_
  refine al_cons (eok_pure (pr_if_ne dX8_empty_19 (by decide))) ?_
  refine al_cons (eok_pure (pr_iconst dX8_empty_22 (by decide))) ?_
  refine al_cons (ok_retI rfl dX8_empty_23) ?_
  refine al_cons (eok_pure (pr_aload_n dX8_empty_24 rfl)) ?_
  refine al_cons (eok_pure (pr_iload_n dX8_empty_25 rfl)) ?_
  refine al_cons (eok_pure (pr_iconst dX8_empty_26 (by decide))) ?_
  refine al_cons (ok_callV hok mi_125 cl_X8 w_1128 w_1130 w_45 w_82 w_1131 na_125 (by decide) dX8_empty_27) ?_
  refine al_cons (eok_pure (pr_iconst dX8_empty_30 (by decide))) ?_
  refine al_cons (eok_pure (pr_isub dX8_empty_31)) ?_
  refine al_cons (eok_pure (pr_istore_n dX8_empty_32 rfl)) ?_
  refine al_cons (eok_pure (pr_aload_n dX8_empty_33 rfl)) ?_
  refine al_cons (eok_pure (pr_iload_n dX8_empty_34 rfl)) ?_
  refine al_cons (eok_pure (pr_iconst dX8_empty_35 (by decide))) ?_
  refine al_cons (ok_callV hok mi_126 cl_X8 w_1132 w_1134 w_46 w_82 w_1135 na_126 (by decide) dX8_empty_36) ?_
  refine al_cons (eok_pure (pr_iconst dX8_empty_39 (by decide))) ?_
  refine al_cons (eok_pure (pr_icmp_ne dX8_empty_40 (by decide))) ?_
  refine al_cons (eok_pure (pr_aload_n dX8_empty_43 rfl)) ?_
  refine al_cons (eok_pure (pr_iconst dX8_empty_44 (by decide))) ?_
  refine al_cons (ok_callV hok mi_131 cl_X8 w_1256 w_1258 w_67 w_82 w_1259 na_131 (by decide) dX8_empty_45) ?_
  refine al_cons (eok_pure (pr_iconst dX8_empty_48 (by decide))) ?_
  refine al_cons (eok_pure (pr_icmp_ne dX8_empty_49 (by decide))) ?_
  refine al_cons (eok_pure (pr_bipush dX8_empty_52 (by decide))) ?_
  refine al_cons (ok_retI rfl dX8_empty_54) ?_
  refine al_cons (eok_pure (pr_aload_n dX8_empty_55 rfl)) ?_
  refine al_cons (ok_callV hok mi_155 cl_X8 w_1264 w_1266 w_68 w_82 w_1267 na_155 (by decide) dX8_empty_56) ?_
  refine al_cons (eok_pure (pr_aload_n dX8_empty_59 rfl)) ?_
  refine al_cons (eok_pure (pr_iload_n dX8_empty_60 rfl)) ?_
  refine al_cons (eok_pure (pr_iconst dX8_empty_61 (by decide))) ?_
  refine al_cons (ok_callV hok mi_125 cl_X8 w_1128 w_1130 w_45 w_82 w_1131 na_125 (by decide) dX8_empty_62) ?_
  refine al_cons (eok_pure (pr_istore_n dX8_empty_65 rfl)) ?_
  refine al_cons (eok_pure (pr_aload_n dX8_empty_66 rfl)) ?_
  refine al_cons (eok_pure (pr_iload_n dX8_empty_67 rfl)) ?_
  refine al_cons (ok_callV hok mi_161 cl_X8 w_1288 w_1290 w_70 w_82 w_1291 na_161 (by decide) dX8_empty_68) ?_
  refine al_cons (eok_pure (pr_aload_n dX8_empty_71 rfl)) ?_
  refine al_cons (ok_get cl_X8 gX8 (by decide) w_956 dX8_empty_72) ?_
  refine al_cons (eok_pure (pr_bipush dX8_empty_75 (by decide))) ?_
  refine al_cons (eok_pure (pr_iconst dX8_empty_77 (by decide))) ?_
  refine al_cons (eok_pure (pr_iload_n dX8_empty_78 rfl)) ?_
  refine al_cons (eok_pure (pr_imul dX8_empty_79)) ?_
  refine al_cons (eok_pure (pr_iadd dX8_empty_80)) ?_
  refine al_cons (eok_pure (pr_iconst dX8_empty_81 (by decide))) ?_
  refine al_cons (eok_pure (pr_iadd dX8_empty_82)) ?_
  refine al_cons (eok_pure (pr_iconst dX8_empty_83 (by decide))) ?_
  refine al_cons (ok_iast dX8_empty_84) ?_
  refine al_cons (eok_pure (pr_iload_n dX8_empty_85 rfl)) ?_
  refine al_cons (ok_retI rfl dX8_empty_86) ?_
  exact al_nil
def k_X8_wash (md : Bool) : List Ent := [ePure 0 (fLoadA 0 1 0),
  ePure 1 (fPush 1 1 (.int 0)),
  ePut 2 8 0 kInt,
  ePure 5 (fLoadA 5 1 0),
  ePure 6 (fLoadI 6 1 1),
  eCallV 7 1 122 8,
  ePure 10 (fIf1 10 31 b1_eq),
  ePure 13 (fLoadA 13 1 0),
  ePure 14 (fLoadI 14 1 1),
  ePure 15 (fPush 15 1 (.int 4)),
  eCallV 16 2 125 8,
  ePure 19 (fIf1 19 31 b1_gt),
  ePure 22 (fLoadA 22 1 0),
  ePure 23 (fLoadI 23 1 1),
  ePure 24 (fPush 24 1 (.int 5)),
  eCallV 25 2 125 8,
  ePure 28 (fIf1 28 33 b1_ne),
  ePure 31 (fPush 31 1 (.int 0)),
  eRetZ 32,
  ePure 33 (fLoadA 33 1 0),
  eCallV 34 0 155 8,
  ePure 37 (fLoadA 37 1 0),
  eGet 38 8 11,
  ePure 41 (fPush 41 2 (.int 27)),
  ePure 43 (fPush 43 2 (.int 6)),
  ePure 45 (fLoadI 45 1 1),
  ePure 46 (fBin 46 o_imul),
  ePure 47 (fBin 47 o_iadd),
  ePure 48 (fPush 48 1 (.int 5)),
  ePure 49 (fBin 49 o_iadd),
  ePure 50 (fPush 50 1 (.int 0)),
  eIast 51 0 (fun x => x),
  ePure 52 (fLoadA 52 1 0),
  eGet 53 8 11,
  ePure 56 (fPush 56 2 (.int 14)),
  ePure 58 (fDup2 58),
  eIald 59 0,
  ePure 60 (fPush 60 1 (.int 1)),
  ePure 61 (fBin 61 o_iadd),
  eIast 62 0 (fun x => x),
  ePure 63 (fPush 63 1 (.int 1)),
  eRetZ 64]
set_option maxRecDepth 100000 in
set_option maxHeartbeats 4000000 in
theorem ko_X8_wash {l : Launch} {D : va_G} {cA : Nat → ClassId} {B : Nat × Nat} {G : State → Prop} {md : Bool} {d : Nat} {call : Call} (hok : COk l D cA B G md d mI call) : ∀ e ∈ k_X8_wash md, EOk l RX8 cX8_wash 2 (some .boolean) false D cA B G md d call e := by
  unfold k_X8_wash
  refine al_cons (eok_pure (pr_aload_n dX8_wash_0 rfl)) ?_
  refine al_cons (eok_pure (pr_iconst dX8_wash_1 (by decide))) ?_
  refine al_cons (ok_put cl_X8 gX8 tyX8_ok nmX8 (by decide) w_945 rfl (by decide +kernel) (kok_int B) dX8_wash_2) ?_
  refine al_cons (eok_pure (pr_aload_n dX8_wash_5 rfl)) ?_
  refine al_cons (eok_pure (pr_iload_n dX8_wash_6 rfl)) ?_
  refine al_cons (ok_callV hok mi_122 cl_X8 w_1164 w_1166 w_52 w_82 w_1167 na_122 (by decide) dX8_wash_7) ?_
  refine al_cons (eok_pure (pr_if_eq dX8_wash_10 (by decide))) ?_
  refine al_cons (eok_pure (pr_aload_n dX8_wash_13 rfl)) ?_
  refine al_cons (eok_pure (pr_iload_n dX8_wash_14 rfl)) ?_
  refine al_cons (eok_pure (pr_iconst dX8_wash_15 (by decide))) ?_
  refine al_cons (ok_callV hok mi_125 cl_X8 w_1128 w_1130 w_45 w_82 w_1131 na_125 (by decide) dX8_wash_16) ?_
  refine al_cons (eok_pure (pr_if_gt dX8_wash_19 (by decide))) ?_
  refine al_cons (eok_pure (pr_aload_n dX8_wash_22 rfl)) ?_
  refine al_cons (eok_pure (pr_iload_n dX8_wash_23 rfl)) ?_
  refine al_cons (eok_pure (pr_iconst dX8_wash_24 (by decide))) ?_
  refine al_cons (ok_callV hok mi_125 cl_X8 w_1128 w_1130 w_45 w_82 w_1131 na_125 (by decide) dX8_wash_25) ?_
  refine al_cons (eok_pure (pr_if_ne dX8_wash_28 (by decide))) ?_
  refine al_cons (eok_pure (pr_iconst dX8_wash_31 (by decide))) ?_
  refine al_cons (ok_retZ rfl dX8_wash_32) ?_
  refine al_cons (eok_pure (pr_aload_n dX8_wash_33 rfl)) ?_
  refine al_cons (ok_callV hok mi_155 cl_X8 w_1264 w_1266 w_68 w_82 w_1267 na_155 (by decide) dX8_wash_34) ?_
  refine al_cons (eok_pure (pr_aload_n dX8_wash_37 rfl)) ?_
  refine al_cons (ok_get cl_X8 gX8 (by decide) w_956 dX8_wash_38) ?_
  refine al_cons (eok_pure (pr_bipush dX8_wash_41 (by decide))) ?_
  refine al_cons (eok_pure (pr_bipush dX8_wash_43 (by decide))) ?_
  refine al_cons (eok_pure (pr_iload_n dX8_wash_45 rfl)) ?_
  refine al_cons (eok_pure (pr_imul dX8_wash_46)) ?_
  refine al_cons (eok_pure (pr_iadd dX8_wash_47)) ?_
  refine al_cons (eok_pure (pr_iconst dX8_wash_48 (by decide))) ?_
  refine al_cons (eok_pure (pr_iadd dX8_wash_49)) ?_
  refine al_cons (eok_pure (pr_iconst dX8_wash_50 (by decide))) ?_
  refine al_cons (ok_iast dX8_wash_51) ?_
  refine al_cons (eok_pure (pr_aload_n dX8_wash_52 rfl)) ?_
  refine al_cons (ok_get cl_X8 gX8 (by decide) w_956 dX8_wash_53) ?_
  refine al_cons (eok_pure (pr_bipush dX8_wash_56 (by decide))) ?_
  refine al_cons (eok_pure (pr_dup2 dX8_wash_58)) ?_
  refine al_cons (ok_iald dX8_wash_59) ?_
  refine al_cons (eok_pure (pr_iconst dX8_wash_60 (by decide))) ?_
  refine al_cons (eok_pure (pr_iadd dX8_wash_61)) ?_
  refine al_cons (ok_iast dX8_wash_62) ?_
  refine al_cons (eok_pure (pr_iconst dX8_wash_63 (by decide))) ?_
  refine al_cons (ok_retZ rfl dX8_wash_64) ?_
  exact al_nil
def k_X8_undo (md : Bool) : List Ent := [ePure 0 (fLoadA 0 1 0),
  ePure 1 (fPush 1 1 (.int 0)),
  ePut 2 8 0 kInt,
  ePure 5 (fLoadA 5 1 0),
  eGet 6 8 14,
  ePure 9 (fIf1 9 14 b1_ne),
  ePure 12 (fPush 12 1 (.int (-1))),
  eRetI 13,
  ePure 14 (fLoadA 14 1 0),
  ePure 15 (fDup 15),
  eGet 16 8 14,
  ePure 19 (fPush 19 1 (.int 1)),
  ePure 20 (fBin 20 o_isub),
  ePut 21 8 14 kInt,
  ePure 24 (fPush 24 1 (.int 0)),
  ePure 25 (fStoI 25 1 1 2),
  ePure 26 (fLoadI 26 1 1),
  ePure 27 (fPush 27 3 (.int 157)),
  ePure 30 (fIf2 30 60 b2_ge),
  ePure 33 (fLoadA 33 1 0),
  eGet 34 8 11,
  ePure 37 (fLoadI 37 1 1),
  ePure 38 (fLoadA 38 1 0),
  eGet 39 8 13,
  ePure 42 (fPush 42 3 (.int 157)),
  ePure 45 (fLoadA 45 1 0),
  eGet 46 8 14,
  ePure 49 (fBin 49 o_imul),
  ePure 50 (fLoadI 50 1 1),
  ePure 51 (fBin 51 o_iadd),
  eIald 52 0,
  eIast 53 0 (fun x => x),
  ePure 54 (fInc 54 1 2 1),
  ePure 57 (fGoto 26),
  ePure 60 (fLoadA 60 1 0),
  eGet 61 8 14,
  eRetI 64]
set_option maxRecDepth 100000 in
set_option maxHeartbeats 4000000 in
theorem ko_X8_undo {l : Launch} {D : va_G} {cA : Nat → ClassId} {B : Nat × Nat} {G : State → Prop} {md : Bool} {d : Nat} {call : Call} (hok : COk l D cA B G md d mI call) : ∀ e ∈ k_X8_undo md, EOk l RX8 cX8_undo 2 (some .int) false D cA B G md d call e := by
  unfold k_X8_undo
  refine al_cons (eok_pure (pr_aload_n dX8_undo_0 rfl)) ?_
  refine al_cons (eok_pure (pr_iconst dX8_undo_1 (by decide))) ?_
  refine al_cons (ok_put cl_X8 gX8 tyX8_ok nmX8 (by decide) w_945 rfl (by decide +kernel) (kok_int B) dX8_undo_2) ?_
  refine al_cons (eok_pure (pr_aload_n dX8_undo_5 rfl)) ?_
  refine al_cons (ok_get cl_X8 gX8 (by decide) w_959 dX8_undo_6) ?_
  refine al_cons (eok_pure (pr_if_ne dX8_undo_9 (by decide))) ?_
  refine al_cons (eok_pure (pr_iconst dX8_undo_12 (by decide))) ?_
  refine al_cons (ok_retI rfl dX8_undo_13) ?_
  refine al_cons (eok_pure (pr_aload_n dX8_undo_14 rfl)) ?_
  refine al_cons (eok_pure (pr_dup dX8_undo_15)) ?_
  refine al_cons (ok_get cl_X8 gX8 (by decide) w_959 dX8_undo_16) ?_
  refine al_cons (eok_pure (pr_iconst dX8_undo_19 (by decide))) ?_
  refine al_cons (eok_pure (pr_isub dX8_undo_20)) ?_
  refine al_cons (ok_put cl_X8 gX8 tyX8_ok nmX8 (by decide) w_959 rfl (by decide +kernel) (kok_int B) dX8_undo_21) ?_
  refine al_cons (eok_pure (pr_iconst dX8_undo_24 (by decide))) ?_
  refine al_cons (eok_pure (pr_istore_n dX8_undo_25 rfl)) ?_
  refine al_cons (eok_pure (pr_iload_n dX8_undo_26 rfl)) ?_
  refine al_cons (eok_pure (pr_sipush dX8_undo_27 (by decide))) ?_
  refine al_cons (eok_pure (pr_icmp_ge dX8_undo_30 (by decide))) ?_
  refine al_cons (eok_pure (pr_aload_n dX8_undo_33 rfl)) ?_
  refine al_cons (ok_get cl_X8 gX8 (by decide) w_956 dX8_undo_34) ?_
  refine al_cons (eok_pure (pr_iload_n dX8_undo_37 rfl)) ?_
  refine al_cons (eok_pure (pr_aload_n dX8_undo_38 rfl)) ?_
  refine al_cons (ok_get cl_X8 gX8 (by decide) w_958 dX8_undo_39) ?_
  refine al_cons (eok_pure (pr_sipush dX8_undo_42 (by decide))) ?_
  refine al_cons (eok_pure (pr_aload_n dX8_undo_45 rfl)) ?_
  refine al_cons (ok_get cl_X8 gX8 (by decide) w_959 dX8_undo_46) ?_
  refine al_cons (eok_pure (pr_imul dX8_undo_49)) ?_
  refine al_cons (eok_pure (pr_iload_n dX8_undo_50 rfl)) ?_
  refine al_cons (eok_pure (pr_iadd dX8_undo_51)) ?_
  refine al_cons (ok_iald dX8_undo_52) ?_
  refine al_cons (ok_iast dX8_undo_53) ?_
  refine al_cons (eok_pure (pr_iinc dX8_undo_54 (by decide))) ?_
  refine al_cons (eok_pure (pr_goto dX8_undo_57 (by decide))) ?_
  refine al_cons (eok_pure (pr_aload_n dX8_undo_60 rfl)) ?_
  refine al_cons (ok_get cl_X8 gX8 (by decide) w_959 dX8_undo_61) ?_
  refine al_cons (ok_retI rfl dX8_undo_64) ?_
  exact al_nil
def k_J7_fill_53178 (md : Bool) : List Ent := [ePure 0 (fPush 0 1 (.int 0)),
  ePure 1 (fStoI 1 1 2 4),
  ePure 2 (fLoadA 2 1 0),
  eLen 3,
  ePure 4 (fStoI 4 1 3 4),
  ePure 5 (fLoadI 5 1 2),
  ePure 6 (fLoadI 6 1 3),
  ePure 7 (fIf2 7 20 b2_ge),
  ePure 10 (fLoadA 10 1 0),
  ePure 11 (fLoadI 11 1 2),
  ePure 12 (fLoadI 12 1 1),
  eIast 13 0 (fun x => x),
  ePure 14 (fInc 14 2 4 1),
  ePure 17 (fGoto 5),
  eRetV 20]
set_option maxRecDepth 100000 in
set_option maxHeartbeats 4000000 in
theorem ko_J7_fill_53178 {l : Launch} {D : va_G} {cA : Nat → ClassId} {B : Nat × Nat} {G : State → Prop} {md : Bool} {d : Nat} {call : Call} (hok : COk l D cA B G md d mI call) : ∀ e ∈ k_J7_fill_53178 md, EOk l RJ7 cJ7_fill_53178 4 none false D cA B G md d call e := by
  unfold k_J7_fill_53178
  refine al_cons (eok_pure (pr_iconst dJ7_fill_53178_0 (by decide))) ?_
  refine al_cons (eok_pure (pr_istore_n dJ7_fill_53178_1 rfl)) ?_
  refine al_cons (eok_pure (pr_aload_n dJ7_fill_53178_2 rfl)) ?_
  refine al_cons (ok_len dJ7_fill_53178_3) ?_
  refine al_cons (eok_pure (pr_istore_n dJ7_fill_53178_4 rfl)) ?_
  refine al_cons (eok_pure (pr_iload_n dJ7_fill_53178_5 rfl)) ?_
  refine al_cons (eok_pure (pr_iload_n dJ7_fill_53178_6 rfl)) ?_
  refine al_cons (eok_pure (pr_icmp_ge dJ7_fill_53178_7 (by decide))) ?_
  refine al_cons (eok_pure (pr_aload_n dJ7_fill_53178_10 rfl)) ?_
  refine al_cons (eok_pure (pr_iload_n dJ7_fill_53178_11 rfl)) ?_
  refine al_cons (eok_pure (pr_iload_n dJ7_fill_53178_12 rfl)) ?_
  refine al_cons (ok_iast dJ7_fill_53178_13) ?_
  refine al_cons (eok_pure (pr_iinc dJ7_fill_53178_14 (by decide))) ?_
  refine al_cons (eok_pure (pr_goto dJ7_fill_53178_17 (by decide))) ?_
  refine al_cons (ok_retV rfl dJ7_fill_53178_20) ?_
  exact al_nil
def k_J13_bitCount_95d88 (md : Bool) : List Ent := [ePure 0 (fLoadJ 0 1 0),
  ePure 1 (fLoadJ 1 1 0),
  ePure 2 (fPush 2 1 (.int 1)),
  ePure 3 (fShJ 3 o_lushr),
  ePure 4 (fPush 4 3 (.long 6148914691236517205)),
  ePure 7 (fBinJ 7 o_land),
  ePure 8 (fBinJ 8 o_lsub),
  ePure 9 (fStoJ 9 1 0 2),
  ePure 10 (fLoadJ 10 1 0),
  ePure 11 (fPush 11 3 (.long 3689348814741910323)),
  ePure 14 (fBinJ 14 o_land),
  ePure 15 (fLoadJ 15 1 0),
  ePure 16 (fPush 16 1 (.int 2)),
  ePure 17 (fShJ 17 o_lushr),
  ePure 18 (fPush 18 3 (.long 3689348814741910323)),
  ePure 21 (fBinJ 21 o_land),
  ePure 22 (fBinJ 22 o_ladd),
  ePure 23 (fStoJ 23 1 0 2),
  ePure 24 (fLoadJ 24 1 0),
  ePure 25 (fLoadJ 25 1 0),
  ePure 26 (fPush 26 1 (.int 4)),
  ePure 27 (fShJ 27 o_lushr),
  ePure 28 (fBinJ 28 o_ladd),
  ePure 29 (fPush 29 3 (.long 1085102592571150095)),
  ePure 32 (fBinJ 32 o_land),
  ePure 33 (fStoJ 33 1 0 2),
  ePure 34 (fLoadJ 34 1 0),
  ePure 35 (fLoadJ 35 1 0),
  ePure 36 (fPush 36 2 (.int 8)),
  ePure 38 (fShJ 38 o_lushr),
  ePure 39 (fBinJ 39 o_ladd),
  ePure 40 (fStoJ 40 1 0 2),
  ePure 41 (fLoadJ 41 1 0),
  ePure 42 (fLoadJ 42 1 0),
  ePure 43 (fPush 43 2 (.int 16)),
  ePure 45 (fShJ 45 o_lushr),
  ePure 46 (fBinJ 46 o_ladd),
  ePure 47 (fStoJ 47 1 0 2),
  ePure 48 (fLoadJ 48 1 0),
  ePure 49 (fLoadJ 49 1 0),
  ePure 50 (fPush 50 2 (.int 32)),
  ePure 52 (fShJ 52 o_lushr),
  ePure 53 (fBinJ 53 o_ladd),
  ePure 54 (fStoJ 54 1 0 2),
  ePure 55 (fLoadJ 55 1 0),
  ePure 56 (f_l2i 56),
  ePure 57 (fPush 57 2 (.int 127)),
  ePure 59 (fBin 59 o_iand),
  eRetI 60]
set_option maxRecDepth 100000 in
set_option maxHeartbeats 4000000 in
theorem ko_J13_bitCount_95d88 {l : Launch} {D : va_G} {cA : Nat → ClassId} {B : Nat × Nat} {G : State → Prop} {md : Bool} {d : Nat} {call : Call} (hok : COk l D cA B G md d mI call) : ∀ e ∈ k_J13_bitCount_95d88 md, EOk l RJ13 cJ13_bitCount_95d88 2 (some .int) false D cA B G md d call e := by
  unfold k_J13_bitCount_95d88
  refine al_cons (eok_pure (pr_lload_n dJ13_bitCount_95d88_0 rfl)) ?_
  refine al_cons (eok_pure (pr_lload_n dJ13_bitCount_95d88_1 rfl)) ?_
  refine al_cons (eok_pure (pr_iconst dJ13_bitCount_95d88_2 (by decide))) ?_
  refine al_cons (eok_pure (pr_lushr dJ13_bitCount_95d88_3)) ?_
  refine al_cons (eok_pure (pr_ldc2 dJ13_bitCount_95d88_4 w_607)) ?_
  refine al_cons (eok_pure (pr_land dJ13_bitCount_95d88_7)) ?_
  refine al_cons (eok_pure (pr_lsub dJ13_bitCount_95d88_8)) ?_
  refine al_cons (eok_pure (pr_lstore_n dJ13_bitCount_95d88_9 rfl)) ?_
  refine al_cons (eok_pure (pr_lload_n dJ13_bitCount_95d88_10 rfl)) ?_
  refine al_cons (eok_pure (pr_ldc2 dJ13_bitCount_95d88_11 w_608)) ?_
  refine al_cons (eok_pure (pr_land dJ13_bitCount_95d88_14)) ?_
  refine al_cons (eok_pure (pr_lload_n dJ13_bitCount_95d88_15 rfl)) ?_
  refine al_cons (eok_pure (pr_iconst dJ13_bitCount_95d88_16 (by decide))) ?_
  refine al_cons (eok_pure (pr_lushr dJ13_bitCount_95d88_17)) ?_
  refine al_cons (eok_pure (pr_ldc2 dJ13_bitCount_95d88_18 w_608)) ?_
  refine al_cons (eok_pure (pr_land dJ13_bitCount_95d88_21)) ?_
  refine al_cons (eok_pure (pr_ladd dJ13_bitCount_95d88_22)) ?_
  refine al_cons (eok_pure (pr_lstore_n dJ13_bitCount_95d88_23 rfl)) ?_
  refine al_cons (eok_pure (pr_lload_n dJ13_bitCount_95d88_24 rfl)) ?_
  refine al_cons (eok_pure (pr_lload_n dJ13_bitCount_95d88_25 rfl)) ?_
  refine al_cons (eok_pure (pr_iconst dJ13_bitCount_95d88_26 (by decide))) ?_
  refine al_cons (eok_pure (pr_lushr dJ13_bitCount_95d88_27)) ?_
  refine al_cons (eok_pure (pr_ladd dJ13_bitCount_95d88_28)) ?_
  refine al_cons (eok_pure (pr_ldc2 dJ13_bitCount_95d88_29 w_609)) ?_
  refine al_cons (eok_pure (pr_land dJ13_bitCount_95d88_32)) ?_
  refine al_cons (eok_pure (pr_lstore_n dJ13_bitCount_95d88_33 rfl)) ?_
  refine al_cons (eok_pure (pr_lload_n dJ13_bitCount_95d88_34 rfl)) ?_
  refine al_cons (eok_pure (pr_lload_n dJ13_bitCount_95d88_35 rfl)) ?_
  refine al_cons (eok_pure (pr_bipush dJ13_bitCount_95d88_36 (by decide))) ?_
  refine al_cons (eok_pure (pr_lushr dJ13_bitCount_95d88_38)) ?_
  refine al_cons (eok_pure (pr_ladd dJ13_bitCount_95d88_39)) ?_
  refine al_cons (eok_pure (pr_lstore_n dJ13_bitCount_95d88_40 rfl)) ?_
  refine al_cons (eok_pure (pr_lload_n dJ13_bitCount_95d88_41 rfl)) ?_
  refine al_cons (eok_pure (pr_lload_n dJ13_bitCount_95d88_42 rfl)) ?_
  refine al_cons (eok_pure (pr_bipush dJ13_bitCount_95d88_43 (by decide))) ?_
  refine al_cons (eok_pure (pr_lushr dJ13_bitCount_95d88_45)) ?_
  refine al_cons (eok_pure (pr_ladd dJ13_bitCount_95d88_46)) ?_
  refine al_cons (eok_pure (pr_lstore_n dJ13_bitCount_95d88_47 rfl)) ?_
  refine al_cons (eok_pure (pr_lload_n dJ13_bitCount_95d88_48 rfl)) ?_
  refine al_cons (eok_pure (pr_lload_n dJ13_bitCount_95d88_49 rfl)) ?_
  refine al_cons (eok_pure (pr_bipush dJ13_bitCount_95d88_50 (by decide))) ?_
  refine al_cons (eok_pure (pr_lushr dJ13_bitCount_95d88_52)) ?_
  refine al_cons (eok_pure (pr_ladd dJ13_bitCount_95d88_53)) ?_
  refine al_cons (eok_pure (pr_lstore_n dJ13_bitCount_95d88_54 rfl)) ?_
  refine al_cons (eok_pure (pr_lload_n dJ13_bitCount_95d88_55 rfl)) ?_
  refine al_cons (eok_pure (pr_l2i dJ13_bitCount_95d88_56)) ?_
  refine al_cons (eok_pure (pr_bipush dJ13_bitCount_95d88_57 (by decide))) ?_
  refine al_cons (eok_pure (pr_iand dJ13_bitCount_95d88_59)) ?_
  refine al_cons (ok_retI rfl dJ13_bitCount_95d88_60) ?_
  exact al_nil
