def k_X4_isLetter (md : Bool) : List Ent := [ePure 0 (fLoadI 0 1 0),
  ePure 1 (fPush 1 2 (.int 97)),
  ePure 3 (fIf2 3 16 b2_lt),
  ePure 6 (fLoadI 6 1 0),
  ePure 7 (fPush 7 2 (.int 122)),
  ePure 9 (fIf2 9 16 b2_gt),
  ePure 12 (fPush 12 1 (.int 1)),
  ePure 13 (fGoto 17),
  ePure 16 (fPush 16 1 (.int 0)),
  eRetZ 17]
set_option maxRecDepth 100000 in
set_option maxHeartbeats 4000000 in
theorem ko_X4_isLetter {l : Launch} {D : va_G} {cA : Nat → ClassId} {B : BB} {G : State → Prop} {md : Bool} {d : Nat} {call : Call} (hG : ∀ s, G s → Gs B s) (hok : COk l D cA B G md d mI call) : ∀ e ∈ k_X4_isLetter md, EOk l RX4 cX4_isLetter 1 (some .boolean) false D cA B G md d call e := by
  unfold k_X4_isLetter
  refine al_cons (eok_pure (pr_iload_n dX4_isLetter_0 rfl)) ?_
  refine al_cons (eok_pure (pr_bipush dX4_isLetter_1 (by decide))) ?_
  refine al_cons (eok_pure (pr_icmp_lt dX4_isLetter_3 (by decide))) ?_
  refine al_cons (eok_pure (pr_iload_n dX4_isLetter_6 rfl)) ?_
  refine al_cons (eok_pure (pr_bipush dX4_isLetter_7 (by decide))) ?_
  refine al_cons (eok_pure (pr_icmp_gt dX4_isLetter_9 (by decide))) ?_
  refine al_cons (eok_pure (pr_iconst dX4_isLetter_12 (by decide))) ?_
  refine al_cons (eok_pure (pr_goto dX4_isLetter_13 (by decide))) ?_
  refine al_cons (eok_pure (pr_iconst dX4_isLetter_16 (by decide))) ?_
  refine al_cons (ok_retZ rfl dX4_isLetter_17) ?_
  exact al_nil
def k_X4_isDigit (md : Bool) : List Ent := [ePure 0 (fLoadI 0 1 0),
  ePure 1 (fPush 1 2 (.int 48)),
  ePure 3 (fIf2 3 16 b2_lt),
  ePure 6 (fLoadI 6 1 0),
  ePure 7 (fPush 7 2 (.int 57)),
  ePure 9 (fIf2 9 16 b2_gt),
  ePure 12 (fPush 12 1 (.int 1)),
  ePure 13 (fGoto 17),
  ePure 16 (fPush 16 1 (.int 0)),
  eRetZ 17]
set_option maxRecDepth 100000 in
set_option maxHeartbeats 4000000 in
theorem ko_X4_isDigit {l : Launch} {D : va_G} {cA : Nat → ClassId} {B : BB} {G : State → Prop} {md : Bool} {d : Nat} {call : Call} (hG : ∀ s, G s → Gs B s) (hok : COk l D cA B G md d mI call) : ∀ e ∈ k_X4_isDigit md, EOk l RX4 cX4_isDigit 1 (some .boolean) false D cA B G md d call e := by
  unfold k_X4_isDigit
  refine al_cons (eok_pure (pr_iload_n dX4_isDigit_0 rfl)) ?_
  refine al_cons (eok_pure (pr_bipush dX4_isDigit_1 (by decide))) ?_
  refine al_cons (eok_pure (pr_icmp_lt dX4_isDigit_3 (by decide))) ?_
  refine al_cons (eok_pure (pr_iload_n dX4_isDigit_6 rfl)) ?_
  refine al_cons (eok_pure (pr_bipush dX4_isDigit_7 (by decide))) ?_
  refine al_cons (eok_pure (pr_icmp_gt dX4_isDigit_9 (by decide))) ?_
  refine al_cons (eok_pure (pr_iconst dX4_isDigit_12 (by decide))) ?_
  refine al_cons (eok_pure (pr_goto dX4_isDigit_13 (by decide))) ?_
  refine al_cons (eok_pure (pr_iconst dX4_isDigit_16 (by decide))) ?_
  refine al_cons (ok_retZ rfl dX4_isDigit_17) ?_
  exact al_nil
def k_X5_init (md : Bool) : List Ent := [ePure 0 (fLoadA 0 1 0),
  eObj 1,
  ePure 4 (fLoadA 4 1 0),
  eNew md 5 0 [.null, .null, .null, .null],
  ePure 8 (fDup 8),
  eCallI 9 0 0,
  ePut 12 5 0 kRef,
  ePure 15 (fLoadA 15 1 0),
  ePure 16 (fPush 16 2 (.int 20)),
  eNewI md 18 0,
  ePut 20 5 2 kRef,
  ePure 23 (fLoadA 23 1 0),
  ePure 24 (fPush 24 2 (.int 20)),
  eNewI md 26 0,
  ePut 28 5 3 kRef,
  eRetV 31]
set_option maxRecDepth 100000 in
set_option maxHeartbeats 4000000 in
theorem ko_X5_init {l : Launch} {D : va_G} {cA : Nat → ClassId} {B : BB} {G : State → Prop} {md : Bool} {d : Nat} {call : Call} (hG : ∀ s, G s → Gs B s) (hok : COk l D cA B G md d mI call) : ∀ e ∈ k_X5_init md, EOk l RX5 cX5_init 1 none true D cA B G md d call e := by
  unfold k_X5_init
  refine al_cons (eok_pure (pr_aload_n dX5_init_0 rfl)) ?_
  refine al_cons (ok_obj w_226 w_99 w_100 dX5_init_1) ?_
  refine al_cons (eok_pure (pr_aload_n dX5_init_4 rfl)) ?_
  refine al_cons (ok_new cl_X0 gX0 tyX0_ok w_227 w_228 w_76 dfX0 (by decide) rfl dX5_init_5) ?_
  refine al_cons (eok_pure (pr_dup dX5_init_8)) ?_
  refine al_cons (ok_callIN hok mi_0 w_229 w_230 w_76 w_231 rfl na_0 (by decide) dX5_init_9) ?_
  refine al_cons (ok_putF rfl cl_X5 gX5 tyX5_ok nmX5 (by decide) w_252 rfl rfl (by decide +kernel) (kok_obj B "TankerDesk$Cargo") dX5_init_12) ?_
  refine al_cons (eok_pure (pr_aload_n dX5_init_15 rfl)) ?_
  refine al_cons (eok_pure (pr_bipush dX5_init_16 (by decide))) ?_
  refine al_cons (ok_newi w_145 dX5_init_18) ?_
  refine al_cons (ok_putF rfl cl_X5 gX5 tyX5_ok nmX5 (by decide) w_258 rfl rfl (by decide +kernel) (kok_arr B .int) dX5_init_20) ?_
  refine al_cons (eok_pure (pr_aload_n dX5_init_23 rfl)) ?_
  refine al_cons (eok_pure (pr_bipush dX5_init_24 (by decide))) ?_
  refine al_cons (ok_newi w_145 dX5_init_26) ?_
  refine al_cons (ok_putF rfl cl_X5 gX5 tyX5_ok nmX5 (by decide) w_260 rfl rfl (by decide +kernel) (kok_arr B .int) dX5_init_28) ?_
  refine al_cons (ok_retV rfl dX5_init_31) ?_
  exact al_nil
def k_X5_begin (md : Bool) : List Ent := [ePure 0 (fLoadA 0 1 0),
  eGet 1 5 0,
  ePure 4 (fLoadA 4 1 1),
  eCallV 5 1 2 0,
  ePure 8 (fLoadA 8 1 0),
  ePure 9 (fPush 9 1 (.int 0)),
  ePut 10 5 1 kInt,
  ePure 13 (fPush 13 1 (.int 0)),
  ePure 14 (fStoI 14 1 2 3),
  ePure 15 (fLoadI 15 1 2),
  ePure 16 (fLoadA 16 1 1),
  eGet 17 6 9,
  ePure 20 (fIf2 20 33 b2_ge),
  ePure 23 (fLoadA 23 1 0),
  eCallV 24 0 55 5,
  ePure 27 (fInc 27 2 3 1),
  ePure 30 (fGoto 15),
  ePure 33 (fLoadA 33 1 0),
  ePure 34 (fPush 34 1 (.int 0)),
  ePut 35 5 4 kInt,
  eRetV 38]
set_option maxRecDepth 100000 in
set_option maxHeartbeats 4000000 in
theorem ko_X5_begin {l : Launch} {D : va_G} {cA : Nat → ClassId} {B : BB} {G : State → Prop} {md : Bool} {d : Nat} {call : Call} (hG : ∀ s, G s → Gs B s) (hok : COk l D cA B G md d mI call) : ∀ e ∈ k_X5_begin md, EOk l RX5 cX5_begin 3 none false D cA B G md d call e := by
  unfold k_X5_begin
  refine al_cons (eok_pure (pr_aload_n dX5_begin_0 rfl)) ?_
  refine al_cons (ok_get cl_X5 gX5 (by decide) w_252 dX5_begin_1) ?_
  refine al_cons (eok_pure (pr_aload_n dX5_begin_4 rfl)) ?_
  refine al_cons (ok_callV hok mi_2 cl_X0 w_396 w_397 w_398 w_76 w_399 na_2 (by decide) dX5_begin_5) ?_
  refine al_cons (eok_pure (pr_aload_n dX5_begin_8 rfl)) ?_
  refine al_cons (eok_pure (pr_iconst dX5_begin_9 (by decide))) ?_
  refine al_cons (ok_put cl_X5 gX5 tyX5_ok nmX5 (by decide) w_255 rfl (by decide +kernel) (kok_int B) dX5_begin_10) ?_
  refine al_cons (eok_pure (pr_iconst dX5_begin_13 (by decide))) ?_
  refine al_cons (eok_pure (pr_istore_n dX5_begin_14 rfl)) ?_
  refine al_cons (eok_pure (pr_iload_n dX5_begin_15 rfl)) ?_
  refine al_cons (eok_pure (pr_aload_n dX5_begin_16 rfl)) ?_
  refine al_cons (ok_get cl_X6 gX6 (by decide) w_183 dX5_begin_17) ?_
  refine al_cons (eok_pure (pr_icmp_ge dX5_begin_20 (by decide))) ?_
  refine al_cons (eok_pure (pr_aload_n dX5_begin_23 rfl)) ?_
  refine al_cons (ok_callV hok mi_55 cl_X5 w_404 w_405 w_406 w_75 w_407 na_55 (by decide) dX5_begin_24) ?_
  refine al_cons (eok_pure (pr_iinc dX5_begin_27 (by decide))) ?_
  refine al_cons (eok_pure (pr_goto dX5_begin_30 (by decide))) ?_
  refine al_cons (eok_pure (pr_aload_n dX5_begin_33 rfl)) ?_
  refine al_cons (eok_pure (pr_iconst dX5_begin_34 (by decide))) ?_
  refine al_cons (ok_put cl_X5 gX5 tyX5_ok nmX5 (by decide) w_262 rfl (by decide +kernel) (kok_int B) dX5_begin_35) ?_
  refine al_cons (ok_retV rfl dX5_begin_38) ?_
  exact al_nil
def k_X5_addDrop (md : Bool) : List Ent := [ePure 0 (fLoadA 0 1 0),
  eGet 1 5 1,
  ePure 4 (fPush 4 2 (.int 20)),
  ePure 6 (fIf2 6 39 b2_ge),
  ePure 9 (fLoadA 9 1 0),
  eGet 10 5 2,
  ePure 13 (fLoadA 13 1 0),
  eGet 14 5 1,
  ePure 17 (fPush 17 1 (.int 0)),
  eIast 18 0 (fun x => x),
  ePure 19 (fLoadA 19 1 0),
  eGet 20 5 3,
  ePure 23 (fLoadA 23 1 0),
  eGet 24 5 1,
  ePure 27 (fPush 27 1 (.int 0)),
  eIast 28 0 (fun x => x),
  ePure 29 (fLoadA 29 1 0),
  ePure 30 (fDup 30),
  eGet 31 5 1,
  ePure 34 (fPush 34 1 (.int 1)),
  ePure 35 (fBin 35 o_iadd),
  ePut 36 5 1 kInt,
  eRetV 39]
set_option maxRecDepth 100000 in
set_option maxHeartbeats 4000000 in
theorem ko_X5_addDrop {l : Launch} {D : va_G} {cA : Nat → ClassId} {B : BB} {G : State → Prop} {md : Bool} {d : Nat} {call : Call} (hG : ∀ s, G s → Gs B s) (hok : COk l D cA B G md d mI call) : ∀ e ∈ k_X5_addDrop md, EOk l RX5 cX5_addDrop 1 none false D cA B G md d call e := by
  unfold k_X5_addDrop
  refine al_cons (eok_pure (pr_aload_n dX5_addDrop_0 rfl)) ?_
  refine al_cons (ok_get cl_X5 gX5 (by decide) w_255 dX5_addDrop_1) ?_
  refine al_cons (eok_pure (pr_bipush dX5_addDrop_4 (by decide))) ?_
  refine al_cons (eok_pure (pr_icmp_ge dX5_addDrop_6 (by decide))) ?_
  refine al_cons (eok_pure (pr_aload_n dX5_addDrop_9 rfl)) ?_
  refine al_cons (ok_get cl_X5 gX5 (by decide) w_258 dX5_addDrop_10) ?_
  refine al_cons (eok_pure (pr_aload_n dX5_addDrop_13 rfl)) ?_
  refine al_cons (ok_get cl_X5 gX5 (by decide) w_255 dX5_addDrop_14) ?_
  refine al_cons (eok_pure (pr_iconst dX5_addDrop_17 (by decide))) ?_
  refine al_cons (ok_iast dX5_addDrop_18) ?_
  refine al_cons (eok_pure (pr_aload_n dX5_addDrop_19 rfl)) ?_
  refine al_cons (ok_get cl_X5 gX5 (by decide) w_260 dX5_addDrop_20) ?_
  refine al_cons (eok_pure (pr_aload_n dX5_addDrop_23 rfl)) ?_
  refine al_cons (ok_get cl_X5 gX5 (by decide) w_255 dX5_addDrop_24) ?_
  refine al_cons (eok_pure (pr_iconst dX5_addDrop_27 (by decide))) ?_
  refine al_cons (ok_iast dX5_addDrop_28) ?_
  refine al_cons (eok_pure (pr_aload_n dX5_addDrop_29 rfl)) ?_
  refine al_cons (eok_pure (pr_dup dX5_addDrop_30)) ?_
  refine al_cons (ok_get cl_X5 gX5 (by decide) w_255 dX5_addDrop_31) ?_
  refine al_cons (eok_pure (pr_iconst dX5_addDrop_34 (by decide))) ?_
  refine al_cons (eok_pure (pr_iadd dX5_addDrop_35)) ?_
  refine al_cons (ok_put cl_X5 gX5 tyX5_ok nmX5 (by decide) w_255 rfl (by decide +kernel) (kok_int B) dX5_addDrop_36) ?_
  refine al_cons (ok_retV rfl dX5_addDrop_39) ?_
  exact al_nil
def k_X5_copyFrom (md : Bool) : List Ent := [ePure 0 (fLoadA 0 1 0),
  eGet 1 5 0,
  ePure 4 (fLoadA 4 1 1),
  eGet 5 5 0,
  eCallV 8 1 1 0,
  ePure 11 (fLoadA 11 1 0),
  ePure 12 (fLoadA 12 1 1),
  eGet 13 5 1,
  ePut 16 5 1 kInt,
  ePure 19 (fLoadA 19 1 1),
  eGet 20 5 2,
  ePure 23 (fPush 23 1 (.int 0)),
  ePure 24 (fLoadA 24 1 0),
  eGet 25 5 2,
  ePure 28 (fPush 28 1 (.int 0)),
  ePure 29 (fPush 29 2 (.int 20)),
  eCopy 31,
  ePure 34 (fLoadA 34 1 1),
  eGet 35 5 3,
  ePure 38 (fPush 38 1 (.int 0)),
  ePure 39 (fLoadA 39 1 0),
  eGet 40 5 3,
  ePure 43 (fPush 43 1 (.int 0)),
  ePure 44 (fPush 44 2 (.int 20)),
  eCopy 46,
  ePure 49 (fLoadA 49 1 0),
  ePure 50 (fLoadA 50 1 1),
  eGet 51 5 4,
  ePut 54 5 4 kInt,
  eRetV 57]
set_option maxRecDepth 100000 in
set_option maxHeartbeats 4000000 in
theorem ko_X5_copyFrom {l : Launch} {D : va_G} {cA : Nat → ClassId} {B : BB} {G : State → Prop} {md : Bool} {d : Nat} {call : Call} (hG : ∀ s, G s → Gs B s) (hok : COk l D cA B G md d mI call) : ∀ e ∈ k_X5_copyFrom md, EOk l RX5 cX5_copyFrom 2 none false D cA B G md d call e := by
  unfold k_X5_copyFrom
  refine al_cons (eok_pure (pr_aload_n dX5_copyFrom_0 rfl)) ?_
  refine al_cons (ok_get cl_X5 gX5 (by decide) w_252 dX5_copyFrom_1) ?_
  refine al_cons (eok_pure (pr_aload_n dX5_copyFrom_4 rfl)) ?_
  refine al_cons (ok_get cl_X5 gX5 (by decide) w_252 dX5_copyFrom_5) ?_
  refine al_cons (ok_callV hok mi_1 cl_X0 w_806 w_661 w_662 w_76 w_663 na_1 (by decide) dX5_copyFrom_8) ?_
  refine al_cons (eok_pure (pr_aload_n dX5_copyFrom_11 rfl)) ?_
  refine al_cons (eok_pure (pr_aload_n dX5_copyFrom_12 rfl)) ?_
  refine al_cons (ok_get cl_X5 gX5 (by decide) w_255 dX5_copyFrom_13) ?_
  refine al_cons (ok_put cl_X5 gX5 tyX5_ok nmX5 (by decide) w_255 rfl (by decide +kernel) (kok_int B) dX5_copyFrom_16) ?_
  refine al_cons (eok_pure (pr_aload_n dX5_copyFrom_19 rfl)) ?_
  refine al_cons (ok_get cl_X5 gX5 (by decide) w_258 dX5_copyFrom_20) ?_
  refine al_cons (eok_pure (pr_iconst dX5_copyFrom_23 (by decide))) ?_
  refine al_cons (eok_pure (pr_aload_n dX5_copyFrom_24 rfl)) ?_
  refine al_cons (ok_get cl_X5 gX5 (by decide) w_258 dX5_copyFrom_25) ?_
  refine al_cons (eok_pure (pr_iconst dX5_copyFrom_28 (by decide))) ?_
  refine al_cons (eok_pure (pr_bipush dX5_copyFrom_29 (by decide))) ?_
  refine al_cons (ok_copy w_807 w_403 w_402 w_81 dX5_copyFrom_31) ?_
  refine al_cons (eok_pure (pr_aload_n dX5_copyFrom_34 rfl)) ?_
  refine al_cons (ok_get cl_X5 gX5 (by decide) w_260 dX5_copyFrom_35) ?_
  refine al_cons (eok_pure (pr_iconst dX5_copyFrom_38 (by decide))) ?_
  refine al_cons (eok_pure (pr_aload_n dX5_copyFrom_39 rfl)) ?_
  refine al_cons (ok_get cl_X5 gX5 (by decide) w_260 dX5_copyFrom_40) ?_
  refine al_cons (eok_pure (pr_iconst dX5_copyFrom_43 (by decide))) ?_
  refine al_cons (eok_pure (pr_bipush dX5_copyFrom_44 (by decide))) ?_
  refine al_cons (ok_copy w_807 w_403 w_402 w_81 dX5_copyFrom_46) ?_
  refine al_cons (eok_pure (pr_aload_n dX5_copyFrom_49 rfl)) ?_
  refine al_cons (eok_pure (pr_aload_n dX5_copyFrom_50 rfl)) ?_
  refine al_cons (ok_get cl_X5 gX5 (by decide) w_262 dX5_copyFrom_51) ?_
  refine al_cons (ok_put cl_X5 gX5 tyX5_ok nmX5 (by decide) w_262 rfl (by decide +kernel) (kok_int B) dX5_copyFrom_54) ?_
  refine al_cons (ok_retV rfl dX5_copyFrom_57) ?_
  exact al_nil
def k_X5_hasDrop (md : Bool) : List Ent := [ePure 0 (fLoadI 0 1 1),
  ePure 1 (fIf1 1 16 b1_lt),
  ePure 4 (fLoadI 4 1 1),
  ePure 5 (fLoadA 5 1 0),
  eGet 6 5 1,
  ePure 9 (fIf2 9 16 b2_ge),
  ePure 12 (fPush 12 1 (.int 1)),
  ePure 13 (fGoto 17),
  ePure 16 (fPush 16 1 (.int 0)),
  eRetZ 17]
set_option maxRecDepth 100000 in
set_option maxHeartbeats 4000000 in
theorem ko_X5_hasDrop {l : Launch} {D : va_G} {cA : Nat → ClassId} {B : BB} {G : State → Prop} {md : Bool} {d : Nat} {call : Call} (hG : ∀ s, G s → Gs B s) (hok : COk l D cA B G md d mI call) : ∀ e ∈ k_X5_hasDrop md, EOk l RX5 cX5_hasDrop 2 (some .boolean) false D cA B G md d call e := by
  unfold k_X5_hasDrop
  refine al_cons (eok_pure (pr_iload_n dX5_hasDrop_0 rfl)) ?_
  refine al_cons (eok_pure (pr_if_lt dX5_hasDrop_1 (by decide))) ?_
  refine al_cons (eok_pure (pr_iload_n dX5_hasDrop_4 rfl)) ?_
  refine al_cons (eok_pure (pr_aload_n dX5_hasDrop_5 rfl)) ?_
  refine al_cons (ok_get cl_X5 gX5 (by decide) w_255 dX5_hasDrop_6) ?_
  refine al_cons (eok_pure (pr_icmp_ge dX5_hasDrop_9 (by decide))) ?_
  refine al_cons (eok_pure (pr_iconst dX5_hasDrop_12 (by decide))) ?_
  refine al_cons (eok_pure (pr_goto dX5_hasDrop_13 (by decide))) ?_
  refine al_cons (eok_pure (pr_iconst dX5_hasDrop_16 (by decide))) ?_
  refine al_cons (ok_retZ rfl dX5_hasDrop_17) ?_
  exact al_nil
def k_X5_how (md : Bool) : List Ent := [ePure 0 (fLoadA 0 1 0),
  eGet 1 5 2,
  ePure 4 (fLoadI 4 1 2),
  eIald 5 0,
  ePure 6 (fIf1 6 16 b1_eq),
  ePure 9 (fLoadA 9 1 0),
  eGet 10 5 2,
  ePure 13 (fLoadI 13 1 2),
  eIald 14 0,
  eRetI 15,
  ePure 16 (fLoadA 16 1 0),
  eGet 17 5 0,
  ePure 20 (fLoadI 20 1 2),
  eCallV 21 1 6 0,
  ePure 24 (fLoadA 24 1 1),
  eGet 25 6 11,
  ePure 28 (fLoadI 28 1 2),
  eIald 29 0,
  ePure 30 (fIf2 30 37 b2_ge),
  ePure 33 (fPush 33 1 (.int 0)),
  ePure 34 (fGoto 38),
  ePure 37 (fPush 37 1 (.int 1)),
  eRetI 38]
set_option maxRecDepth 100000 in
set_option maxHeartbeats 4000000 in
theorem ko_X5_how {l : Launch} {D : va_G} {cA : Nat → ClassId} {B : BB} {G : State → Prop} {md : Bool} {d : Nat} {call : Call} (hG : ∀ s, G s → Gs B s) (hok : COk l D cA B G md d mI call) : ∀ e ∈ k_X5_how md, EOk l RX5 cX5_how 3 (some .int) false D cA B G md d call e := by
  unfold k_X5_how
  refine al_cons (eok_pure (pr_aload_n dX5_how_0 rfl)) ?_
  refine al_cons (ok_get cl_X5 gX5 (by decide) w_258 dX5_how_1) ?_
  refine al_cons (eok_pure (pr_iload_n dX5_how_4 rfl)) ?_
  refine al_cons (ok_iald dX5_how_5) ?_
  refine al_cons (eok_pure (pr_if_eq dX5_how_6 (by decide))) ?_
  refine al_cons (eok_pure (pr_aload_n dX5_how_9 rfl)) ?_
  refine al_cons (ok_get cl_X5 gX5 (by decide) w_258 dX5_how_10) ?_
  refine al_cons (eok_pure (pr_iload_n dX5_how_13 rfl)) ?_
  refine al_cons (ok_iald dX5_how_14) ?_
  refine al_cons (ok_retI rfl dX5_how_15) ?_
  refine al_cons (eok_pure (pr_aload_n dX5_how_16 rfl)) ?_
  refine al_cons (ok_get cl_X5 gX5 (by decide) w_252 dX5_how_17) ?_
  refine al_cons (eok_pure (pr_iload_n dX5_how_20 rfl)) ?_
  refine al_cons (ok_callV hok mi_6 cl_X0 w_725 w_681 w_682 w_76 w_683 na_6 (by decide) dX5_how_21) ?_
  refine al_cons (eok_pure (pr_aload_n dX5_how_24 rfl)) ?_
  refine al_cons (ok_get cl_X6 gX6 (by decide) w_193 dX5_how_25) ?_
  refine al_cons (eok_pure (pr_iload_n dX5_how_28 rfl)) ?_
  refine al_cons (ok_iald dX5_how_29) ?_
  refine al_cons (eok_pure (pr_icmp_ge dX5_how_30 (by decide))) ?_
  refine al_cons (eok_pure (pr_iconst dX5_how_33 (by decide))) ?_
  refine al_cons (eok_pure (pr_goto dX5_how_34 (by decide))) ?_
  refine al_cons (eok_pure (pr_iconst dX5_how_37 (by decide))) ?_
  refine al_cons (ok_retI rfl dX5_how_38) ?_
  exact al_nil
def k_X5_shortOf (md : Bool) : List Ent := [ePure 0 (fLoadA 0 1 0),
  eGet 1 5 2,
  ePure 4 (fLoadI 4 1 2),
  eIald 5 0,
  ePure 6 (fPush 6 1 (.int 2)),
  ePure 7 (fIf2 7 26 b2_ne),
  ePure 10 (fLoadA 10 1 1),
  eGet 11 6 11,
  ePure 14 (fLoadI 14 1 2),
  eIald 15 0,
  ePure 16 (fLoadA 16 1 0),
  eGet 17 5 3,
  ePure 20 (fLoadI 20 1 2),
  eIald 21 0,
  ePure 22 (fBin 22 o_isub),
  ePure 23 (fGoto 27),
  ePure 26 (fPush 26 1 (.int 0)),
  eRetI 27]
set_option maxRecDepth 100000 in
set_option maxHeartbeats 4000000 in
theorem ko_X5_shortOf {l : Launch} {D : va_G} {cA : Nat → ClassId} {B : BB} {G : State → Prop} {md : Bool} {d : Nat} {call : Call} (hG : ∀ s, G s → Gs B s) (hok : COk l D cA B G md d mI call) : ∀ e ∈ k_X5_shortOf md, EOk l RX5 cX5_shortOf 3 (some .int) false D cA B G md d call e := by
  unfold k_X5_shortOf
  refine al_cons (eok_pure (pr_aload_n dX5_shortOf_0 rfl)) ?_
  refine al_cons (ok_get cl_X5 gX5 (by decide) w_258 dX5_shortOf_1) ?_
  refine al_cons (eok_pure (pr_iload_n dX5_shortOf_4 rfl)) ?_
  refine al_cons (ok_iald dX5_shortOf_5) ?_
  refine al_cons (eok_pure (pr_iconst dX5_shortOf_6 (by decide))) ?_
  refine al_cons (eok_pure (pr_icmp_ne dX5_shortOf_7 (by decide))) ?_
  refine al_cons (eok_pure (pr_aload_n dX5_shortOf_10 rfl)) ?_
  refine al_cons (ok_get cl_X6 gX6 (by decide) w_193 dX5_shortOf_11) ?_
  refine al_cons (eok_pure (pr_iload_n dX5_shortOf_14 rfl)) ?_
  refine al_cons (ok_iald dX5_shortOf_15) ?_
  refine al_cons (eok_pure (pr_aload_n dX5_shortOf_16 rfl)) ?_
  refine al_cons (ok_get cl_X5 gX5 (by decide) w_260 dX5_shortOf_17) ?_
  refine al_cons (eok_pure (pr_iload_n dX5_shortOf_20 rfl)) ?_
  refine al_cons (ok_iald dX5_shortOf_21) ?_
  refine al_cons (eok_pure (pr_isub dX5_shortOf_22)) ?_
  refine al_cons (eok_pure (pr_goto dX5_shortOf_23 (by decide))) ?_
  refine al_cons (eok_pure (pr_iconst dX5_shortOf_26 (by decide))) ?_
  refine al_cons (ok_retI rfl dX5_shortOf_27) ?_
  exact al_nil
def k_X5_waiting (md : Bool) : List Ent := [ePure 0 (fPush 0 1 (.int 0)),
  ePure 1 (fStoI 1 1 2 4),
  ePure 2 (fPush 2 1 (.int 0)),
  ePure 3 (fStoI 3 1 3 4),
  ePure 4 (fLoadI 4 1 3),
  ePure 5 (fLoadA 5 1 0),
  eGet 6 5 1,
  ePure 9 (fIf2 9 30 b2_ge),
  ePure 12 (fLoadA 12 1 0),
  ePure 13 (fLoadA 13 1 1),
  ePure 14 (fLoadI 14 1 3),
  eCallV 15 2 58 5,
  ePure 18 (fIf1 18 24 b1_ne),
  ePure 21 (fInc 21 2 4 1),
  ePure 24 (fInc 24 3 4 1),
  ePure 27 (fGoto 4),
  ePure 30 (fLoadI 30 1 2),
  eRetI 31]
set_option maxRecDepth 100000 in
set_option maxHeartbeats 4000000 in
theorem ko_X5_waiting {l : Launch} {D : va_G} {cA : Nat → ClassId} {B : BB} {G : State → Prop} {md : Bool} {d : Nat} {call : Call} (hG : ∀ s, G s → Gs B s) (hok : COk l D cA B G md d mI call) : ∀ e ∈ k_X5_waiting md, EOk l RX5 cX5_waiting 4 (some .int) false D cA B G md d call e := by
  unfold k_X5_waiting
  refine al_cons (eok_pure (pr_iconst dX5_waiting_0 (by decide))) ?_
  refine al_cons (eok_pure (pr_istore_n dX5_waiting_1 rfl)) ?_
  refine al_cons (eok_pure (pr_iconst dX5_waiting_2 (by decide))) ?_
  refine al_cons (eok_pure (pr_istore_n dX5_waiting_3 rfl)) ?_
  refine al_cons (eok_pure (pr_iload_n dX5_waiting_4 rfl)) ?_
  refine al_cons (eok_pure (pr_aload_n dX5_waiting_5 rfl)) ?_
  refine al_cons (ok_get cl_X5 gX5 (by decide) w_255 dX5_waiting_6) ?_
  refine al_cons (eok_pure (pr_icmp_ge dX5_waiting_9 (by decide))) ?_
  refine al_cons (eok_pure (pr_aload_n dX5_waiting_12 rfl)) ?_
  refine al_cons (eok_pure (pr_aload_n dX5_waiting_13 rfl)) ?_
  refine al_cons (eok_pure (pr_iload_n dX5_waiting_14 rfl)) ?_
  refine al_cons (ok_callV hok mi_58 cl_X5 w_797 w_722 w_723 w_75 w_724 na_58 (by decide) dX5_waiting_15) ?_
  refine al_cons (eok_pure (pr_if_ne dX5_waiting_18 (by decide))) ?_
  refine al_cons (eok_pure (pr_iinc dX5_waiting_21 (by decide))) ?_
  refine al_cons (eok_pure (pr_iinc dX5_waiting_24 (by decide))) ?_
  refine al_cons (eok_pure (pr_goto dX5_waiting_27 (by decide))) ?_
  refine al_cons (eok_pure (pr_iload_n dX5_waiting_30 rfl)) ?_
  refine al_cons (ok_retI rfl dX5_waiting_31) ?_
  exact al_nil
def k_X6_init (md : Bool) : List Ent := [ePure 0 (fLoadA 0 1 0),
  eObj 1,
  ePure 4 (fLoadA 4 1 0),
  ePure 5 (fPush 5 2 (.int 9)),
  eNewI md 7 0,
  ePut 9 6 0 kRef,
  ePure 12 (fLoadA 12 1 0),
  ePure 13 (fPush 13 1 (.int 5)),
  eNewI md 14 0,
  ePut 16 6 2 kRef,
  ePure 19 (fLoadA 19 1 0),
  ePure 20 (fPush 20 1 (.int 5)),
  eNewI md 21 0,
  ePut 23 6 3 kRef,
  ePure 26 (fLoadA 26 1 0),
  ePure 27 (fPush 27 1 (.int 5)),
  eNewI md 28 0,
  ePut 30 6 4 kRef,
  ePure 33 (fLoadA 33 1 0),
  ePure 34 (fPush 34 1 (.int 5)),
  eNewI md 35 0,
  ePut 37 6 5 kRef,
  ePure 40 (fLoadA 40 1 0),
  ePure 41 (fPush 41 2 (.int 6)),
  eNewI md 43 0,
  ePut 45 6 7 kRef,
  ePure 48 (fLoadA 48 1 0),
  ePure 49 (fPush 49 2 (.int 20)),
  eNewI md 51 0,
  ePut 53 6 10 kRef,
  ePure 56 (fLoadA 56 1 0),
  ePure 57 (fPush 57 2 (.int 20)),
  eNewI md 59 0,
  ePut 61 6 11 kRef,
  eRetV 64]
set_option maxRecDepth 100000 in
set_option maxHeartbeats 4000000 in
theorem ko_X6_init {l : Launch} {D : va_G} {cA : Nat → ClassId} {B : BB} {G : State → Prop} {md : Bool} {d : Nat} {call : Call} (hG : ∀ s, G s → Gs B s) (hok : COk l D cA B G md d mI call) : ∀ e ∈ k_X6_init md, EOk l RX6 cX6_init 1 none true D cA B G md d call e := by
  unfold k_X6_init
  refine al_cons (eok_pure (pr_aload_n dX6_init_0 rfl)) ?_
  refine al_cons (ok_obj w_151 w_99 w_100 dX6_init_1) ?_
  refine al_cons (eok_pure (pr_aload_n dX6_init_4 rfl)) ?_
  refine al_cons (eok_pure (pr_bipush dX6_init_5 (by decide))) ?_
  refine al_cons (ok_newi w_145 dX6_init_7) ?_
  refine al_cons (ok_putF rfl cl_X6 gX6 tyX6_ok nmX6 (by decide) w_152 rfl rfl (by decide +kernel) (kok_arr B .int) dX6_init_9) ?_
  refine al_cons (eok_pure (pr_aload_n dX6_init_12 rfl)) ?_
  refine al_cons (eok_pure (pr_iconst dX6_init_13 (by decide))) ?_
  refine al_cons (ok_newi w_145 dX6_init_14) ?_
  refine al_cons (ok_putF rfl cl_X6 gX6 tyX6_ok nmX6 (by decide) w_160 rfl rfl (by decide +kernel) (kok_arr B .int) dX6_init_16) ?_
  refine al_cons (eok_pure (pr_aload_n dX6_init_19 rfl)) ?_
  refine al_cons (eok_pure (pr_iconst dX6_init_20 (by decide))) ?_
  refine al_cons (ok_newi w_145 dX6_init_21) ?_
  refine al_cons (ok_putF rfl cl_X6 gX6 tyX6_ok nmX6 (by decide) w_164 rfl rfl (by decide +kernel) (kok_arr B .int) dX6_init_23) ?_
  refine al_cons (eok_pure (pr_aload_n dX6_init_26 rfl)) ?_
  refine al_cons (eok_pure (pr_iconst dX6_init_27 (by decide))) ?_
  refine al_cons (ok_newi w_145 dX6_init_28) ?_
  refine al_cons (ok_putF rfl cl_X6 gX6 tyX6_ok nmX6 (by decide) w_168 rfl rfl (by decide +kernel) (kok_arr B .int) dX6_init_30) ?_
  refine al_cons (eok_pure (pr_aload_n dX6_init_33 rfl)) ?_
  refine al_cons (eok_pure (pr_iconst dX6_init_34 (by decide))) ?_
  refine al_cons (ok_newi w_145 dX6_init_35) ?_
  refine al_cons (ok_putF rfl cl_X6 gX6 tyX6_ok nmX6 (by decide) w_172 rfl rfl (by decide +kernel) (kok_arr B .int) dX6_init_37) ?_
  refine al_cons (eok_pure (pr_aload_n dX6_init_40 rfl)) ?_
  refine al_cons (eok_pure (pr_bipush dX6_init_41 (by decide))) ?_
  refine al_cons (ok_newi w_145 dX6_init_43) ?_
  refine al_cons (ok_putF rfl cl_X6 gX6 tyX6_ok nmX6 (by decide) w_178 rfl rfl (by decide +kernel) (kok_arr B .int) dX6_init_45) ?_
  refine al_cons (eok_pure (pr_aload_n dX6_init_48 rfl)) ?_
  refine al_cons (eok_pure (pr_bipush dX6_init_49 (by decide))) ?_
  refine al_cons (ok_newi w_145 dX6_init_51) ?_
  refine al_cons (ok_putF rfl cl_X6 gX6 tyX6_ok nmX6 (by decide) w_186 rfl rfl (by decide +kernel) (kok_arr B .int) dX6_init_53) ?_
  refine al_cons (eok_pure (pr_aload_n dX6_init_56 rfl)) ?_
  refine al_cons (eok_pure (pr_bipush dX6_init_57 (by decide))) ?_
  refine al_cons (ok_newi w_145 dX6_init_59) ?_
  refine al_cons (ok_putF rfl cl_X6 gX6 tyX6_ok nmX6 (by decide) w_190 rfl rfl (by decide +kernel) (kok_arr B .int) dX6_init_61) ?_
  refine al_cons (ok_retV rfl dX6_init_64) ?_
  exact al_nil
def k_X6_clear (md : Bool) : List Ent := [ePure 0 (fLoadA 0 1 0),
  eGet 1 6 0,
  ePure 4 (fPush 4 1 (.int 0)),
  eCallS 5 2 165,
  ePure 8 (fLoadA 8 1 0),
  eGet 9 6 0,
  ePure 12 (fPush 12 1 (.int 0)),
  ePure 13 (fPush 13 1 (.int 1)),
  eIast 14 0 (fun x => x),
  ePure 15 (fLoadA 15 1 0),
  ePure 16 (fPush 16 1 (.int 0)),
  ePut 17 6 1 kInt,
  ePure 20 (fLoadA 20 1 0),
  eGet 21 6 5,
  ePure 24 (fPush 24 1 (.int (-1))),
  eCallS 25 2 165,
  ePure 28 (fLoadA 28 1 0),
  ePure 29 (fPush 29 1 (.int 0)),
  ePut 30 6 6 kInt,
  ePure 33 (fLoadA 33 1 0),
  ePure 34 (fPush 34 1 (.long 0)),
  ePut 35 6 8 kLong,
  ePure 38 (fLoadA 38 1 0),
  ePure 39 (fPush 39 1 (.int 0)),
  ePut 40 6 9 kInt,
  eRetV 43]
set_option maxRecDepth 100000 in
set_option maxHeartbeats 4000000 in
theorem ko_X6_clear {l : Launch} {D : va_G} {cA : Nat → ClassId} {B : BB} {G : State → Prop} {md : Bool} {d : Nat} {call : Call} (hG : ∀ s, G s → Gs B s) (hok : COk l D cA B G md d mI call) : ∀ e ∈ k_X6_clear md, EOk l RX6 cX6_clear 1 none false D cA B G md d call e := by
  unfold k_X6_clear
  refine al_cons (eok_pure (pr_aload_n dX6_clear_0 rfl)) ?_
  refine al_cons (ok_get cl_X6 gX6 (by decide) w_152 dX6_clear_1) ?_
  refine al_cons (eok_pure (pr_iconst dX6_clear_4 (by decide))) ?_
  refine al_cons (ok_callS hok mi_165 w_389 w_390 w_80 w_391 na_165 (by decide) dX6_clear_5) ?_
  refine al_cons (eok_pure (pr_aload_n dX6_clear_8 rfl)) ?_
  refine al_cons (ok_get cl_X6 gX6 (by decide) w_152 dX6_clear_9) ?_
  refine al_cons (eok_pure (pr_iconst dX6_clear_12 (by decide))) ?_
  refine al_cons (eok_pure (pr_iconst dX6_clear_13 (by decide))) ?_
  refine al_cons (ok_iast dX6_clear_14) ?_
  refine al_cons (eok_pure (pr_aload_n dX6_clear_15 rfl)) ?_
  refine al_cons (eok_pure (pr_iconst dX6_clear_16 (by decide))) ?_
  refine al_cons (ok_put cl_X6 gX6 tyX6_ok nmX6 (by decide) w_155 rfl (by decide +kernel) (kok_int B) dX6_clear_17) ?_
  refine al_cons (eok_pure (pr_aload_n dX6_clear_20 rfl)) ?_
  refine al_cons (ok_get cl_X6 gX6 (by decide) w_172 dX6_clear_21) ?_
  refine al_cons (eok_pure (pr_iconst dX6_clear_24 (by decide))) ?_
  refine al_cons (ok_callS hok mi_165 w_389 w_390 w_80 w_391 na_165 (by decide) dX6_clear_25) ?_
  refine al_cons (eok_pure (pr_aload_n dX6_clear_28 rfl)) ?_
  refine al_cons (eok_pure (pr_iconst dX6_clear_29 (by decide))) ?_
  refine al_cons (ok_put cl_X6 gX6 tyX6_ok nmX6 (by decide) w_175 rfl (by decide +kernel) (kok_int B) dX6_clear_30) ?_
  refine al_cons (eok_pure (pr_aload_n dX6_clear_33 rfl)) ?_
  refine al_cons (eok_pure (pr_lconst dX6_clear_34 (by decide))) ?_
  refine al_cons (ok_put cl_X6 gX6 tyX6_ok nmX6 (by decide) w_181 rfl (by decide +kernel) (kok_long B) dX6_clear_35) ?_
  refine al_cons (eok_pure (pr_aload_n dX6_clear_38 rfl)) ?_
  refine al_cons (eok_pure (pr_iconst dX6_clear_39 (by decide))) ?_
  refine al_cons (ok_put cl_X6 gX6 tyX6_ok nmX6 (by decide) w_184 rfl (by decide +kernel) (kok_int B) dX6_clear_40) ?_
  refine al_cons (ok_retV rfl dX6_clear_43) ?_
  exact al_nil
def k_X6_hasCompartment (md : Bool) : List Ent := [ePure 0 (fLoadI 0 1 1),
  ePure 1 (fIf1 1 16 b1_lt),
  ePure 4 (fLoadI 4 1 1),
  ePure 5 (fLoadA 5 1 0),
  eGet 6 6 1,
  ePure 9 (fIf2 9 16 b2_ge),
  ePure 12 (fPush 12 1 (.int 1)),
  ePure 13 (fGoto 17),
  ePure 16 (fPush 16 1 (.int 0)),
  eRetZ 17]
set_option maxRecDepth 100000 in
set_option maxHeartbeats 4000000 in
theorem ko_X6_hasCompartment {l : Launch} {D : va_G} {cA : Nat → ClassId} {B : BB} {G : State → Prop} {md : Bool} {d : Nat} {call : Call} (hG : ∀ s, G s → Gs B s) (hok : COk l D cA B G md d mI call) : ∀ e ∈ k_X6_hasCompartment md, EOk l RX6 cX6_hasCompartment 2 (some .boolean) false D cA B G md d call e := by
  unfold k_X6_hasCompartment
  refine al_cons (eok_pure (pr_iload_n dX6_hasCompartment_0 rfl)) ?_
  refine al_cons (eok_pure (pr_if_lt dX6_hasCompartment_1 (by decide))) ?_
  refine al_cons (eok_pure (pr_iload_n dX6_hasCompartment_4 rfl)) ?_
  refine al_cons (eok_pure (pr_aload_n dX6_hasCompartment_5 rfl)) ?_
  refine al_cons (ok_get cl_X6 gX6 (by decide) w_155 dX6_hasCompartment_6) ?_
  refine al_cons (eok_pure (pr_icmp_ge dX6_hasCompartment_9 (by decide))) ?_
  refine al_cons (eok_pure (pr_iconst dX6_hasCompartment_12 (by decide))) ?_
  refine al_cons (eok_pure (pr_goto dX6_hasCompartment_13 (by decide))) ?_
  refine al_cons (eok_pure (pr_iconst dX6_hasCompartment_16 (by decide))) ?_
  refine al_cons (ok_retZ rfl dX6_hasCompartment_17) ?_
  exact al_nil
def k_X6_hasLiquid (md : Bool) : List Ent := [ePure 0 (fLoadI 0 1 1),
  ePure 1 (fIf1 1 16 b1_lt),
  ePure 4 (fLoadI 4 1 1),
  ePure 5 (fLoadA 5 1 0),
  eGet 6 6 6,
  ePure 9 (fIf2 9 16 b2_ge),
  ePure 12 (fPush 12 1 (.int 1)),
  ePure 13 (fGoto 17),
  ePure 16 (fPush 16 1 (.int 0)),
  eRetZ 17]
set_option maxRecDepth 100000 in
set_option maxHeartbeats 4000000 in
theorem ko_X6_hasLiquid {l : Launch} {D : va_G} {cA : Nat → ClassId} {B : BB} {G : State → Prop} {md : Bool} {d : Nat} {call : Call} (hG : ∀ s, G s → Gs B s) (hok : COk l D cA B G md d mI call) : ∀ e ∈ k_X6_hasLiquid md, EOk l RX6 cX6_hasLiquid 2 (some .boolean) false D cA B G md d call e := by
  unfold k_X6_hasLiquid
  refine al_cons (eok_pure (pr_iload_n dX6_hasLiquid_0 rfl)) ?_
  refine al_cons (eok_pure (pr_if_lt dX6_hasLiquid_1 (by decide))) ?_
  refine al_cons (eok_pure (pr_iload_n dX6_hasLiquid_4 rfl)) ?_
  refine al_cons (eok_pure (pr_aload_n dX6_hasLiquid_5 rfl)) ?_
  refine al_cons (ok_get cl_X6 gX6 (by decide) w_175 dX6_hasLiquid_6) ?_
  refine al_cons (eok_pure (pr_icmp_ge dX6_hasLiquid_9 (by decide))) ?_
  refine al_cons (eok_pure (pr_iconst dX6_hasLiquid_12 (by decide))) ?_
  refine al_cons (eok_pure (pr_goto dX6_hasLiquid_13 (by decide))) ?_
  refine al_cons (eok_pure (pr_iconst dX6_hasLiquid_16 (by decide))) ?_
  refine al_cons (ok_retZ rfl dX6_hasLiquid_17) ?_
  exact al_nil
def k_X6_top (md : Bool) : List Ent := [ePure 0 (fLoadA 0 1 0),
  eGet 1 6 2,
  ePure 4 (fLoadI 4 1 1),
  eIald 5 0,
  ePure 6 (fLoadA 6 1 0),
  eGet 7 6 0,
  ePure 10 (fPush 10 2 (.int 6)),
  eIald 12 0,
  ePure 13 (fBin 13 o_imul),
  ePure 14 (fPush 14 2 (.int 100)),
  ePure 16 (fDiv 16),
  eRetI 17]
set_option maxRecDepth 100000 in
set_option maxHeartbeats 4000000 in
theorem ko_X6_top {l : Launch} {D : va_G} {cA : Nat → ClassId} {B : BB} {G : State → Prop} {md : Bool} {d : Nat} {call : Call} (hG : ∀ s, G s → Gs B s) (hok : COk l D cA B G md d mI call) : ∀ e ∈ k_X6_top md, EOk l RX6 cX6_top 2 (some .int) false D cA B G md d call e := by
  unfold k_X6_top
  refine al_cons (eok_pure (pr_aload_n dX6_top_0 rfl)) ?_
  refine al_cons (ok_get cl_X6 gX6 (by decide) w_160 dX6_top_1) ?_
  refine al_cons (eok_pure (pr_iload_n dX6_top_4 rfl)) ?_
  refine al_cons (ok_iald dX6_top_5) ?_
  refine al_cons (eok_pure (pr_aload_n dX6_top_6 rfl)) ?_
  refine al_cons (ok_get cl_X6 gX6 (by decide) w_152 dX6_top_7) ?_
  refine al_cons (eok_pure (pr_bipush dX6_top_10 (by decide))) ?_
  refine al_cons (ok_iald dX6_top_12) ?_
  refine al_cons (eok_pure (pr_imul dX6_top_13)) ?_
  refine al_cons (eok_pure (pr_bipush dX6_top_14 (by decide))) ?_
  refine al_cons (eok_pure (pr_idiv dX6_top_16)) ?_
  refine al_cons (ok_retI rfl dX6_top_17) ?_
  exact al_nil
def k_X6_bar (md : Bool) : List Ent := [ePure 0 (fLoadA 0 1 0),
  ePure 1 (fDup 1),
  eGet 2 6 8,
  ePure 5 (fPush 5 1 (.long 1)),
  ePure 6 (fLoadI 6 1 1),
  ePure 7 (fPush 7 2 (.int 6)),
  ePure 9 (fBin 9 o_imul),
  ePure 10 (fLoadI 10 1 2),
  ePure 11 (fBin 11 o_iadd),
  ePure 12 (fShJ 12 o_lshl),
  ePure 13 (fBinJ 13 o_lor),
  ePut 14 6 8 kLong,
  eRetV 17]
set_option maxRecDepth 100000 in
set_option maxHeartbeats 4000000 in
theorem ko_X6_bar {l : Launch} {D : va_G} {cA : Nat → ClassId} {B : BB} {G : State → Prop} {md : Bool} {d : Nat} {call : Call} (hG : ∀ s, G s → Gs B s) (hok : COk l D cA B G md d mI call) : ∀ e ∈ k_X6_bar md, EOk l RX6 cX6_bar 3 none false D cA B G md d call e := by
  unfold k_X6_bar
  refine al_cons (eok_pure (pr_aload_n dX6_bar_0 rfl)) ?_
  refine al_cons (eok_pure (pr_dup dX6_bar_1)) ?_
  refine al_cons (ok_get cl_X6 gX6 (by decide) w_181 dX6_bar_2) ?_
  refine al_cons (eok_pure (pr_lconst dX6_bar_5 (by decide))) ?_
  refine al_cons (eok_pure (pr_iload_n dX6_bar_6 rfl)) ?_
  refine al_cons (eok_pure (pr_bipush dX6_bar_7 (by decide))) ?_
  refine al_cons (eok_pure (pr_imul dX6_bar_9)) ?_
  refine al_cons (eok_pure (pr_iload_n dX6_bar_10 rfl)) ?_
  refine al_cons (eok_pure (pr_iadd dX6_bar_11)) ?_
  refine al_cons (eok_pure (pr_lshl dX6_bar_12)) ?_
  refine al_cons (eok_pure (pr_lor dX6_bar_13)) ?_
  refine al_cons (ok_put cl_X6 gX6 tyX6_ok nmX6 (by decide) w_181 rfl (by decide +kernel) (kok_long B) dX6_bar_14) ?_
  refine al_cons (ok_retV rfl dX6_bar_17) ?_
  exact al_nil
def k_X6_isBarred (md : Bool) : List Ent := [ePure 0 (fLoadI 0 1 1),
  ePure 1 (fPush 1 1 (.int (-1))),
  ePure 2 (fIf2 2 27 b2_eq),
  ePure 5 (fLoadA 5 1 0),
  eGet 6 6 8,
  ePure 9 (fLoadI 9 1 1),
  ePure 10 (fPush 10 2 (.int 6)),
  ePure 12 (fBin 12 o_imul),
  ePure 13 (fLoadI 13 1 2),
  ePure 14 (fBin 14 o_iadd),
  ePure 15 (fShJ 15 o_lshr),
  ePure 16 (fPush 16 1 (.long 1)),
  ePure 17 (fBinJ 17 o_land),
  ePure 18 (fPush 18 1 (.long 0)),
  ePure 19 (fLcmp 19),
  ePure 20 (fIf1 20 27 b1_eq),
  ePure 23 (fPush 23 1 (.int 1)),
  ePure 24 (fGoto 28),
  ePure 27 (fPush 27 1 (.int 0)),
  eRetZ 28]
set_option maxRecDepth 100000 in
set_option maxHeartbeats 4000000 in
theorem ko_X6_isBarred {l : Launch} {D : va_G} {cA : Nat → ClassId} {B : BB} {G : State → Prop} {md : Bool} {d : Nat} {call : Call} (hG : ∀ s, G s → Gs B s) (hok : COk l D cA B G md d mI call) : ∀ e ∈ k_X6_isBarred md, EOk l RX6 cX6_isBarred 3 (some .boolean) false D cA B G md d call e := by
  unfold k_X6_isBarred
  refine al_cons (eok_pure (pr_iload_n dX6_isBarred_0 rfl)) ?_
  refine al_cons (eok_pure (pr_iconst dX6_isBarred_1 (by decide))) ?_
  refine al_cons (eok_pure (pr_icmp_eq dX6_isBarred_2 (by decide))) ?_
  refine al_cons (eok_pure (pr_aload_n dX6_isBarred_5 rfl)) ?_
  refine al_cons (ok_get cl_X6 gX6 (by decide) w_181 dX6_isBarred_6) ?_
  refine al_cons (eok_pure (pr_iload_n dX6_isBarred_9 rfl)) ?_
  refine al_cons (eok_pure (pr_bipush dX6_isBarred_10 (by decide))) ?_
  refine al_cons (eok_pure (pr_imul dX6_isBarred_12)) ?_
  refine al_cons (eok_pure (pr_iload_n dX6_isBarred_13 rfl)) ?_
  refine al_cons (eok_pure (pr_iadd dX6_isBarred_14)) ?_
  refine al_cons (eok_pure (pr_lshr dX6_isBarred_15)) ?_
  refine al_cons (eok_pure (pr_lconst dX6_isBarred_16 (by decide))) ?_
  refine al_cons (eok_pure (pr_land dX6_isBarred_17)) ?_
  refine al_cons (eok_pure (pr_lconst dX6_isBarred_18 (by decide))) ?_
  refine al_cons (eok_pure (pr_lcmp dX6_isBarred_19)) ?_
  refine al_cons (eok_pure (pr_if_eq dX6_isBarred_20 (by decide))) ?_
  refine al_cons (eok_pure (pr_iconst dX6_isBarred_23 (by decide))) ?_
  refine al_cons (eok_pure (pr_goto dX6_isBarred_24 (by decide))) ?_
  refine al_cons (eok_pure (pr_iconst dX6_isBarred_27 (by decide))) ?_
  refine al_cons (ok_retZ rfl dX6_isBarred_28) ?_
  exact al_nil
def k_X7_init (md : Bool) : List Ent := [ePure 0 (fLoadA 0 1 0),
  eObj 1,
  ePure 4 (fLoadA 4 1 0),
  ePure 5 (fPush 5 3 (.int 740)),
  eNewI md 8 1,
  ePut 10 7 0 kRef,
  ePure 13 (fLoadA 13 1 0),
  ePure 14 (fPush 14 1 (.int 0)),
  ePut 15 7 1 kInt,
  ePure 18 (fLoadA 18 1 0),
  ePure 19 (fPush 19 1 (.int 0)),
  ePut 20 7 2 kInt,
  ePure 23 (fLoadA 23 1 0),
  eNew md 24 4 [.null, .null, .int 0, .int 0, .int 0, .int 0, .int 0, .null, .int 0, .int 0, .int 0],
  ePure 27 (fDup 27),
  eCallI 28 0 35,
  ePut 31 7 3 kRef,
  ePure 34 (fLoadA 34 1 0),
  eNew md 35 6 [.null, .int 0, .null, .null, .null, .null, .int 0, .null, .long 0, .int 0, .null, .null],
  ePure 38 (fDup 38),
  eCallI 39 0 61,
  ePut 42 7 4 kRef,
  ePure 45 (fLoadA 45 1 0),
  eNew md 46 6 [.null, .int 0, .null, .null, .null, .null, .int 0, .null, .long 0, .int 0, .null, .null],
  ePure 49 (fDup 49),
  eCallI 50 0 61,
  ePut 53 7 5 kRef,
  ePure 56 (fLoadA 56 1 0),
  eNew md 57 5 [.null, .int 0, .null, .null, .int 0],
  ePure 60 (fDup 60),
  eCallI 61 0 53,
  ePut 64 7 6 kRef,
  ePure 67 (fLoadA 67 1 0),
  eNew md 68 1 [.null, .int 0, .int 0],
  ePure 71 (fDup 71),
  eCallI 72 0 13,
  ePut 75 7 7 kRef,
  ePure 78 (fLoadA 78 1 0),
  eNew md 79 0 [.null, .null, .null, .null],
  ePure 82 (fDup 82),
  eCallI 83 0 0,
  ePut 86 7 8 kRef,
  ePure 89 (fLoadA 89 1 0),
  eNew md 90 2 [.int 0, .null, .null, .null],
  ePure 93 (fDup 93),
  eCallI 94 0 17,
  ePut 97 7 9 kRef,
  ePure 100 (fLoadA 100 1 0),
  eNew md 101 3 [.null, .null, .null, .null, .int 0, .int 0, .null, .null, .null, .null, .int 0, .int 0, .int 0, .int 0, .int 0, .int 0, .null, .null],
  ePure 104 (fDup 104),
  eCallI 105 0 24,
  ePut 108 7 10 kRef,
  ePure 111 (fLoadA 111 1 0),
  eGet 112 7 4,
  eCallV 115 0 62 6,
  ePure 118 (fLoadA 118 1 0),
  eGet 119 7 6,
  ePure 122 (fLoadA 122 1 0),
  eGet 123 7 4,
  eCallV 126 1 54 5,
  eRetV 129]
set_option maxRecDepth 100000 in
set_option maxHeartbeats 4000000 in
theorem ko_X7_init {l : Launch} {D : va_G} {cA : Nat → ClassId} {B : BB} {G : State → Prop} {md : Bool} {d : Nat} {call : Call} (hG : ∀ s, G s → Gs B s) (hok : COk l D cA B G md d mI call) : ∀ e ∈ k_X7_init md, EOk l RX7 cX7_init 1 none true D cA B G md d call e := by
  unfold k_X7_init
  refine al_cons (eok_pure (pr_aload_n dX7_init_0 rfl)) ?_
  refine al_cons (ok_obj w_98 w_99 w_100 dX7_init_1) ?_
  refine al_cons (eok_pure (pr_aload_n dX7_init_4 rfl)) ?_
  refine al_cons (eok_pure (pr_sipush dX7_init_5 (by decide))) ?_
  refine al_cons (ok_newb w_144 dX7_init_8) ?_
  refine al_cons (ok_putF rfl cl_X7 gX7 tyX7_ok nmX7 (by decide) w_408 rfl rfl (by decide +kernel) (kok_arr B .byte) dX7_init_10) ?_
  refine al_cons (eok_pure (pr_aload_n dX7_init_13 rfl)) ?_
  refine al_cons (eok_pure (pr_iconst dX7_init_14 (by decide))) ?_
  refine al_cons (ok_put cl_X7 gX7 tyX7_ok nmX7 (by decide) w_409 rfl (by decide +kernel) (kok_int B) dX7_init_15) ?_
  refine al_cons (eok_pure (pr_aload_n dX7_init_18 rfl)) ?_
  refine al_cons (eok_pure (pr_iconst dX7_init_19 (by decide))) ?_
  refine al_cons (ok_put cl_X7 gX7 tyX7_ok nmX7 (by decide) w_410 rfl (by decide +kernel) (kok_int B) dX7_init_20) ?_
  refine al_cons (eok_pure (pr_aload_n dX7_init_23 rfl)) ?_
  refine al_cons (ok_new cl_X4 gX4 tyX4_ok w_101 w_102 w_73 dfX4 (by decide) rfl dX7_init_24) ?_
  refine al_cons (eok_pure (pr_dup dX7_init_27)) ?_
  refine al_cons (ok_callIN hok mi_35 w_103 w_104 w_73 w_105 rfl na_35 (by decide) dX7_init_28) ?_
  refine al_cons (ok_putF rfl cl_X7 gX7 tyX7_ok nmX7 (by decide) w_411 rfl rfl (by decide +kernel) (kok_obj B "TankerDesk$Reader") dX7_init_31) ?_
  refine al_cons (eok_pure (pr_aload_n dX7_init_34 rfl)) ?_
  refine al_cons (ok_new cl_X6 gX6 tyX6_ok w_146 w_147 w_74 dfX6 (by decide) rfl dX7_init_35) ?_
  refine al_cons (eok_pure (pr_dup dX7_init_38)) ?_
  refine al_cons (ok_callIN hok mi_61 w_148 w_149 w_74 w_150 rfl na_61 (by decide) dX7_init_39) ?_
  refine al_cons (ok_put cl_X7 gX7 tyX7_ok nmX7 (by decide) w_412 rfl (by decide +kernel) (kok_obj B "TankerDesk$Told") dX7_init_42) ?_
  refine al_cons (eok_pure (pr_aload_n dX7_init_45 rfl)) ?_
  refine al_cons (ok_new cl_X6 gX6 tyX6_ok w_146 w_147 w_74 dfX6 (by decide) rfl dX7_init_46) ?_
  refine al_cons (eok_pure (pr_dup dX7_init_49)) ?_
  refine al_cons (ok_callIN hok mi_61 w_148 w_149 w_74 w_150 rfl na_61 (by decide) dX7_init_50) ?_
  refine al_cons (ok_put cl_X7 gX7 tyX7_ok nmX7 (by decide) w_413 rfl (by decide +kernel) (kok_obj B "TankerDesk$Told") dX7_init_53) ?_
  refine al_cons (eok_pure (pr_aload_n dX7_init_56 rfl)) ?_
  refine al_cons (ok_new cl_X5 gX5 tyX5_ok w_221 w_222 w_75 dfX5 (by decide) rfl dX7_init_57) ?_
  refine al_cons (eok_pure (pr_dup dX7_init_60)) ?_
  refine al_cons (ok_callIN hok mi_53 w_223 w_224 w_75 w_225 rfl na_53 (by decide) dX7_init_61) ?_
  refine al_cons (ok_putF rfl cl_X7 gX7 tyX7_ok nmX7 (by decide) w_414 rfl rfl (by decide +kernel) (kok_obj B "TankerDesk$State") dX7_init_64) ?_
  refine al_cons (eok_pure (pr_aload_n dX7_init_67 rfl)) ?_
  refine al_cons (ok_new cl_X1 gX1 tyX1_ok w_275 w_276 w_77 dfX1 (by decide) rfl dX7_init_68) ?_
  refine al_cons (eok_pure (pr_dup dX7_init_71)) ?_
  refine al_cons (ok_callI hok mi_13 w_277 w_278 w_77 w_279 rfl na_13 (by decide) dX7_init_72) ?_
  refine al_cons (ok_putF rfl cl_X7 gX7 tyX7_ok nmX7 (by decide) w_415 rfl rfl (by decide +kernel) (kok_obj B "TankerDesk$History") dX7_init_75) ?_
  refine al_cons (eok_pure (pr_aload_n dX7_init_78 rfl)) ?_
  refine al_cons (ok_new cl_X0 gX0 tyX0_ok w_295 w_228 w_76 dfX0 (by decide) rfl dX7_init_79) ?_
  refine al_cons (eok_pure (pr_dup dX7_init_82)) ?_
  refine al_cons (ok_callIN hok mi_0 w_296 w_230 w_76 w_231 rfl na_0 (by decide) dX7_init_83) ?_
  refine al_cons (ok_putF rfl cl_X7 gX7 tyX7_ok nmX7 (by decide) w_416 rfl rfl (by decide +kernel) (kok_obj B "TankerDesk$Cargo") dX7_init_86) ?_
  refine al_cons (eok_pure (pr_aload_n dX7_init_89 rfl)) ?_
  refine al_cons (ok_new cl_X2 gX2 tyX2_ok w_297 w_298 w_78 dfX2 (by decide) rfl dX7_init_90) ?_
  refine al_cons (eok_pure (pr_dup dX7_init_93)) ?_
  refine al_cons (ok_callIN hok mi_17 w_299 w_300 w_78 w_301 rfl na_17 (by decide) dX7_init_94) ?_
  refine al_cons (ok_putF rfl cl_X7 gX7 tyX7_ok nmX7 (by decide) w_417 rfl rfl (by decide +kernel) (kok_obj B "TankerDesk$OrderTable") dX7_init_97) ?_
  refine al_cons (eok_pure (pr_aload_n dX7_init_100 rfl)) ?_
  refine al_cons (ok_new cl_X3 gX3 tyX3_ok w_316 w_317 w_79 dfX3 (by decide) rfl dX7_init_101) ?_
  refine al_cons (eok_pure (pr_dup dX7_init_104)) ?_
  refine al_cons (ok_callIN hok mi_24 w_318 w_319 w_79 w_320 rfl na_24 (by decide) dX7_init_105) ?_
  refine al_cons (ok_putF rfl cl_X7 gX7 tyX7_ok nmX7 (by decide) w_418 rfl rfl (by decide +kernel) (kok_obj B "TankerDesk$Planner") dX7_init_108) ?_
  refine al_cons (eok_pure (pr_aload_n dX7_init_111 rfl)) ?_
  refine al_cons (ok_get cl_X7 gX7 (by decide) w_412 dX7_init_112) ?_
  refine al_cons (ok_callV hok mi_62 cl_X6 w_385 w_386 w_387 w_74 w_388 na_62 (by decide) dX7_init_115) ?_
  refine al_cons (eok_pure (pr_aload_n dX7_init_118 rfl)) ?_
  refine al_cons (ok_get cl_X7 gX7 (by decide) w_414 dX7_init_119) ?_
  refine al_cons (eok_pure (pr_aload_n dX7_init_122 rfl)) ?_
  refine al_cons (ok_get cl_X7 gX7 (by decide) w_412 dX7_init_123) ?_
  refine al_cons (ok_callV hok mi_54 cl_X5 w_392 w_393 w_394 w_75 w_395 na_54 (by decide) dX7_init_126) ?_
  refine al_cons (ok_retV rfl dX7_init_129) ?_
  exact al_nil
def k_X7_feed (md : Bool) : List Ent := [ePure 0 (fLoadA 0 1 0),
  eGet 1 7 1,
  ePure 4 (fPush 4 2 (.int 20)),
  ePure 6 (fBin 6 o_iadd),
  ePure 7 (fPush 7 3 (.int 740)),
  ePure 10 (fIf2 10 15 b2_le),
  ePure 13 (fPush 13 1 (.int (-1))),
  eRetI 14,
  ePure 15 (fLoadA 15 1 0),
  ePure 16 (fLoadI 16 1 1),
  eCallV 17 1 91 7,
  ePure 20 (fLoadA 20 1 0),
  ePure 21 (fLoadI 21 1 2),
  eCallV 22 1 91 7,
  ePure 25 (fLoadA 25 1 0),
  ePure 26 (fLoadI 26 1 3),
  eCallV 27 1 91 7,
  ePure 30 (fLoadA 30 1 0),
  ePure 31 (fLoadI 31 2 4),
  eCallV 33 1 91 7,
  ePure 36 (fLoadA 36 1 0),
  ePure 37 (fLoadI 37 2 5),
  eCallV 39 1 91 7,
  ePure 42 (fLoadA 42 1 0),
  eGet 43 7 1,
  eRetI 46]
set_option maxRecDepth 100000 in
set_option maxHeartbeats 4000000 in
theorem ko_X7_feed {l : Launch} {D : va_G} {cA : Nat → ClassId} {B : BB} {G : State → Prop} {md : Bool} {d : Nat} {call : Call} (hG : ∀ s, G s → Gs B s) (hok : COk l D cA B G md d mI call) : ∀ e ∈ k_X7_feed md, EOk l RX7 cX7_feed 6 (some .int) false D cA B G md d call e := by
  unfold k_X7_feed
  refine al_cons (eok_pure (pr_aload_n dX7_feed_0 rfl)) ?_
  refine al_cons (ok_get cl_X7 gX7 (by decide) w_409 dX7_feed_1) ?_
  refine al_cons (eok_pure (pr_bipush dX7_feed_4 (by decide))) ?_
  refine al_cons (eok_pure (pr_iadd dX7_feed_6)) ?_
  refine al_cons (eok_pure (pr_sipush dX7_feed_7 (by decide))) ?_
  refine al_cons (eok_pure (pr_icmp_le dX7_feed_10 (by decide))) ?_
  refine al_cons (eok_pure (pr_iconst dX7_feed_13 (by decide))) ?_
  refine al_cons (ok_retI rfl dX7_feed_14) ?_
  refine al_cons (eok_pure (pr_aload_n dX7_feed_15 rfl)) ?_
  refine al_cons (eok_pure (pr_iload_n dX7_feed_16 rfl)) ?_
  refine al_cons (ok_callV hok mi_91 cl_X7 w_446 w_448 w_0 w_72 w_449 na_91 (by decide) dX7_feed_17) ?_
  refine al_cons (eok_pure (pr_aload_n dX7_feed_20 rfl)) ?_
  refine al_cons (eok_pure (pr_iload_n dX7_feed_21 rfl)) ?_
  refine al_cons (ok_callV hok mi_91 cl_X7 w_446 w_448 w_0 w_72 w_449 na_91 (by decide) dX7_feed_22) ?_
  refine al_cons (eok_pure (pr_aload_n dX7_feed_25 rfl)) ?_
  refine al_cons (eok_pure (pr_iload_n dX7_feed_26 rfl)) ?_
  refine al_cons (ok_callV hok mi_91 cl_X7 w_446 w_448 w_0 w_72 w_449 na_91 (by decide) dX7_feed_27) ?_
  refine al_cons (eok_pure (pr_aload_n dX7_feed_30 rfl)) ?_
  refine al_cons (eok_pure (pr_iload dX7_feed_31)) ?_
  refine al_cons (ok_callV hok mi_91 cl_X7 w_446 w_448 w_0 w_72 w_449 na_91 (by decide) dX7_feed_33) ?_
  refine al_cons (eok_pure (pr_aload_n dX7_feed_36 rfl)) ?_
  refine al_cons (eok_pure (pr_iload dX7_feed_37)) ?_
  refine al_cons (ok_callV hok mi_91 cl_X7 w_446 w_448 w_0 w_72 w_449 na_91 (by decide) dX7_feed_39) ?_
  refine al_cons (eok_pure (pr_aload_n dX7_feed_42 rfl)) ?_
  refine al_cons (ok_get cl_X7 gX7 (by decide) w_409 dX7_feed_43) ?_
  refine al_cons (ok_retI rfl dX7_feed_46) ?_
  exact al_nil
def k_X7_end (md : Bool) : List Ent := [ePure 0 (fLoadI 0 1 1),
  ePure 1 (fIf1 1 12 b1_lt),
  ePure 4 (fLoadI 4 1 1),
  ePure 5 (fLoadA 5 1 0),
  eGet 6 7 1,
  ePure 9 (fIf2 9 14 b2_le),
  ePure 12 (fPush 12 1 (.int 0)),
  eRetZ 13,
  ePure 14 (fLoadA 14 1 0),
  ePure 15 (fLoadI 15 1 1),
  ePut 16 7 1 kInt,
  ePure 19 (fPush 19 1 (.int 1)),
  eRetZ 20]
set_option maxRecDepth 100000 in
set_option maxHeartbeats 4000000 in
theorem ko_X7_end {l : Launch} {D : va_G} {cA : Nat → ClassId} {B : BB} {G : State → Prop} {md : Bool} {d : Nat} {call : Call} (hG : ∀ s, G s → Gs B s) (hok : COk l D cA B G md d mI call) : ∀ e ∈ k_X7_end md, EOk l RX7 cX7_end 2 (some .boolean) false D cA B G md d call e := by
  unfold k_X7_end
  refine al_cons (eok_pure (pr_iload_n dX7_end_0 rfl)) ?_
  refine al_cons (eok_pure (pr_if_lt dX7_end_1 (by decide))) ?_
  refine al_cons (eok_pure (pr_iload_n dX7_end_4 rfl)) ?_
  refine al_cons (eok_pure (pr_aload_n dX7_end_5 rfl)) ?_
  refine al_cons (ok_get cl_X7 gX7 (by decide) w_409 dX7_end_6) ?_
  refine al_cons (eok_pure (pr_icmp_le dX7_end_9 (by decide))) ?_
  refine al_cons (eok_pure (pr_iconst dX7_end_12 (by decide))) ?_
  refine al_cons (ok_retZ rfl dX7_end_13) ?_
  refine al_cons (eok_pure (pr_aload_n dX7_end_14 rfl)) ?_
  refine al_cons (eok_pure (pr_iload_n dX7_end_15 rfl)) ?_
  refine al_cons (ok_put cl_X7 gX7 tyX7_ok nmX7 (by decide) w_409 rfl (by decide +kernel) (kok_int B) dX7_end_16) ?_
  refine al_cons (eok_pure (pr_iconst dX7_end_19 (by decide))) ?_
  refine al_cons (ok_retZ rfl dX7_end_20) ?_
  exact al_nil
def k_X7_text (md : Bool) : List Ent := [ePure 0 (fLoadA 0 1 0),
  eGet 1 7 3,
  ePure 4 (fLoadA 4 1 0),
  eGet 5 7 0,
  ePure 8 (fLoadA 8 1 0),
  eGet 9 7 1,
  ePure 12 (fLoadA 12 1 0),
  eGet 13 7 5,
  eCallV 16 3 36 4,
  ePure 19 (fStoI 19 1 1 3),
  ePure 20 (fLoadA 20 1 0),
  ePure 21 (fPush 21 1 (.int 0)),
  ePut 22 7 1 kInt,
  ePure 25 (fLoadA 25 1 0),
  ePure 26 (fLoadI 26 1 1),
  ePure 27 (fIf1 27 34 b1_eq),
  ePure 30 (fPush 30 1 (.int 0)),
  ePure 31 (fGoto 41),
  ePure 34 (fLoadA 34 1 0),
  eGet 35 7 3,
  eGet 38 4 9,
  ePut 41 7 2 kInt,
  ePure 44 (fLoadI 44 1 1),
  ePure 45 (fIf1 45 58 b1_ne),
  ePure 48 (fPush 48 1 (.int (-1))),
  ePure 49 (fLoadA 49 1 0),
  eGet 50 7 3,
  eGet 53 4 10,
  ePure 56 (fBin 56 o_isub),
  eRetI 57,
  ePure 58 (fLoadA 58 1 0),
  eGet 59 7 4,
  ePure 62 (fStoA 62 1 2 3),
  ePure 63 (fLoadA 63 1 0),
  ePure 64 (fLoadA 64 1 0),
  eGet 65 7 5,
  ePut 68 7 4 kRef,
  ePure 71 (fLoadA 71 1 0),
  ePure 72 (fLoadA 72 1 2),
  ePut 73 7 5 kRef,
  ePure 76 (fLoadA 76 1 0),
  eGet 77 7 6,
  ePure 80 (fLoadA 80 1 0),
  eGet 81 7 4,
  eCallV 84 1 54 5,
  ePure 87 (fLoadA 87 1 0),
  eGet 88 7 7,
  eCallV 91 0 14 1,
  ePure 94 (fLoadA 94 1 0),
  eGet 95 7 3,
  eGet 98 4 8,
  eRetI 101]
set_option maxRecDepth 100000 in
set_option maxHeartbeats 4000000 in
theorem ko_X7_text {l : Launch} {D : va_G} {cA : Nat → ClassId} {B : BB} {G : State → Prop} {md : Bool} {d : Nat} {call : Call} (hG : ∀ s, G s → Gs B s) (hok : COk l D cA B G md d mI call) : ∀ e ∈ k_X7_text md, EOk l RX7 cX7_text 3 (some .int) false D cA B G md d call e := by
  unfold k_X7_text
  refine al_cons (eok_pure (pr_aload_n dX7_text_0 rfl)) ?_
  refine al_cons (ok_get cl_X7 gX7 (by decide) w_411 dX7_text_1) ?_
  refine al_cons (eok_pure (pr_aload_n dX7_text_4 rfl)) ?_
  refine al_cons (ok_get cl_X7 gX7 (by decide) w_408 dX7_text_5) ?_
  refine al_cons (eok_pure (pr_aload_n dX7_text_8 rfl)) ?_
  refine al_cons (ok_get cl_X7 gX7 (by decide) w_409 dX7_text_9) ?_
  refine al_cons (eok_pure (pr_aload_n dX7_text_12 rfl)) ?_
  refine al_cons (ok_get cl_X7 gX7 (by decide) w_413 dX7_text_13) ?_
  refine al_cons (ok_callV hok mi_36 cl_X4 w_458 w_459 w_460 w_73 w_461 na_36 (by decide) dX7_text_16) ?_
  refine al_cons (eok_pure (pr_istore_n dX7_text_19 rfl)) ?_
  refine al_cons (eok_pure (pr_aload_n dX7_text_20 rfl)) ?_
  refine al_cons (eok_pure (pr_iconst dX7_text_21 (by decide))) ?_
  refine al_cons (ok_put cl_X7 gX7 tyX7_ok nmX7 (by decide) w_409 rfl (by decide +kernel) (kok_int B) dX7_text_22) ?_
  refine al_cons (eok_pure (pr_aload_n dX7_text_25 rfl)) ?_
  refine al_cons (eok_pure (pr_iload_n dX7_text_26 rfl)) ?_
  refine al_cons (eok_pure (pr_if_eq dX7_text_27 (by decide))) ?_
  refine al_cons (eok_pure (pr_iconst dX7_text_30 (by decide))) ?_
  refine al_cons (eok_pure (pr_goto dX7_text_31 (by decide))) ?_
  refine al_cons (eok_pure (pr_aload_n dX7_text_34 rfl)) ?_
  refine al_cons (ok_get cl_X7 gX7 (by decide) w_411 dX7_text_35) ?_
  refine al_cons (ok_get cl_X4 gX4 (by decide) w_118 dX7_text_38) ?_
  refine al_cons (ok_put cl_X7 gX7 tyX7_ok nmX7 (by decide) w_410 rfl (by decide +kernel) (kok_int B) dX7_text_41) ?_
  refine al_cons (eok_pure (pr_iload_n dX7_text_44 rfl)) ?_
  refine al_cons (eok_pure (pr_if_ne dX7_text_45 (by decide))) ?_
  refine al_cons (eok_pure (pr_iconst dX7_text_48 (by decide))) ?_
  refine al_cons (eok_pure (pr_aload_n dX7_text_49 rfl)) ?_
  refine al_cons (ok_get cl_X7 gX7 (by decide) w_411 dX7_text_50) ?_
  refine al_cons (ok_get cl_X4 gX4 (by decide) w_120 dX7_text_53) ?_
  refine al_cons (eok_pure (pr_isub dX7_text_56)) ?_
  refine al_cons (ok_retI rfl dX7_text_57) ?_
  refine al_cons (eok_pure (pr_aload_n dX7_text_58 rfl)) ?_
  refine al_cons (ok_get cl_X7 gX7 (by decide) w_412 dX7_text_59) ?_
  refine al_cons (eok_pure (pr_astore_n dX7_text_62 rfl)) ?_
  refine al_cons (eok_pure (pr_aload_n dX7_text_63 rfl)) ?_
  refine al_cons (eok_pure (pr_aload_n dX7_text_64 rfl)) ?_
  refine al_cons (ok_get cl_X7 gX7 (by decide) w_413 dX7_text_65) ?_
  refine al_cons (ok_put cl_X7 gX7 tyX7_ok nmX7 (by decide) w_412 rfl (by decide +kernel) (kok_obj B "TankerDesk$Told") dX7_text_68) ?_
  refine al_cons (eok_pure (pr_aload_n dX7_text_71 rfl)) ?_
  refine al_cons (eok_pure (pr_aload_n dX7_text_72 rfl)) ?_
  refine al_cons (ok_put cl_X7 gX7 tyX7_ok nmX7 (by decide) w_413 rfl (by decide +kernel) (kok_obj B "TankerDesk$Told") dX7_text_73) ?_
  refine al_cons (eok_pure (pr_aload_n dX7_text_76 rfl)) ?_
  refine al_cons (ok_get cl_X7 gX7 (by decide) w_414 dX7_text_77) ?_
  refine al_cons (eok_pure (pr_aload_n dX7_text_80 rfl)) ?_
  refine al_cons (ok_get cl_X7 gX7 (by decide) w_412 dX7_text_81) ?_
  refine al_cons (ok_callV hok mi_54 cl_X5 w_392 w_393 w_394 w_75 w_395 na_54 (by decide) dX7_text_84) ?_
  refine al_cons (eok_pure (pr_aload_n dX7_text_87 rfl)) ?_
  refine al_cons (ok_get cl_X7 gX7 (by decide) w_415 dX7_text_88) ?_
  refine al_cons (ok_callV hok mi_14 cl_X1 w_592 w_593 w_594 w_77 w_595 na_14 (by decide) dX7_text_91) ?_
  refine al_cons (eok_pure (pr_aload_n dX7_text_94 rfl)) ?_
  refine al_cons (ok_get cl_X7 gX7 (by decide) w_411 dX7_text_95) ?_
  refine al_cons (ok_get cl_X4 gX4 (by decide) w_116 dX7_text_98) ?_
  refine al_cons (ok_retI rfl dX7_text_101) ?_
  exact al_nil
def k_X7_fault (md : Bool) : List Ent := [ePure 0 (fLoadA 0 1 0),
  eGet 1 7 2,
  eRetI 4]
set_option maxRecDepth 100000 in
set_option maxHeartbeats 4000000 in
theorem ko_X7_fault {l : Launch} {D : va_G} {cA : Nat → ClassId} {B : BB} {G : State → Prop} {md : Bool} {d : Nat} {call : Call} (hG : ∀ s, G s → Gs B s) (hok : COk l D cA B G md d mI call) : ∀ e ∈ k_X7_fault md, EOk l RX7 cX7_fault 1 (some .int) false D cA B G md d call e := by
  unfold k_X7_fault
  refine al_cons (eok_pure (pr_aload_n dX7_fault_0 rfl)) ?_
  refine al_cons (ok_get cl_X7 gX7 (by decide) w_410 dX7_fault_1) ?_
  refine al_cons (ok_retI rfl dX7_fault_4) ?_
  exact al_nil
def k_X7_now (md : Bool) : List Ent := [ePure 0 (fLoadI 0 1 1),
  ePure 1 (fSw 0 [56, 64, 72, 80, 91, 107, 123, 139, 147, 155] 160),
  ePure 56 (fLoadA 56 1 0),
  eGet 57 7 4,
  eGet 60 6 1,
  eRetI 63,
  ePure 64 (fLoadA 64 1 0),
  eGet 65 7 4,
  eGet 68 6 6,
  eRetI 71,
  ePure 72 (fLoadA 72 1 0),
  eGet 73 7 6,
  eGet 76 5 1,
  eRetI 79,
  ePure 80 (fLoadA 80 1 0),
  eGet 81 7 4,
  eGet 84 6 8,
  eCallS 87 1 166,
  eRetI 90,
  ePure 91 (fLoadA 91 1 0),
  eGet 92 7 6,
  eGet 95 5 0,
  ePure 98 (fLoadA 98 1 0),
  eGet 99 7 4,
  ePure 102 (fPush 102 1 (.int 0)),
  eCallV 103 2 9 0,
  eRetI 106,
  ePure 107 (fLoadA 107 1 0),
  eGet 108 7 6,
  eGet 111 5 0,
  ePure 114 (fLoadA 114 1 0),
  eGet 115 7 4,
  ePure 118 (fPush 118 1 (.int 0)),
  eCallV 119 2 10 0,
  eRetI 122,
  ePure 123 (fLoadA 123 1 0),
  eGet 124 7 6,
  eGet 127 5 0,
  ePure 130 (fLoadA 130 1 0),
  eGet 131 7 4,
  ePure 134 (fPush 134 1 (.int 0)),
  eCallV 135 2 8 0,
  eRetI 138,
  ePure 139 (fLoadA 139 1 0),
  eGet 140 7 6,
  eGet 143 5 4,
  eRetI 146,
  ePure 147 (fLoadA 147 1 0),
  eGet 148 7 7,
  eGet 151 1 2,
  eRetI 154,
  ePure 155 (fLoadA 155 1 0),
  eGet 156 7 1,
  eRetI 159,
  ePure 160 (fPush 160 2 (.int (-100000000))),
  eRetI 162]
set_option maxRecDepth 100000 in
set_option maxHeartbeats 4000000 in
theorem ko_X7_now {l : Launch} {D : va_G} {cA : Nat → ClassId} {B : BB} {G : State → Prop} {md : Bool} {d : Nat} {call : Call} (hG : ∀ s, G s → Gs B s) (hok : COk l D cA B G md d mI call) : ∀ e ∈ k_X7_now md, EOk l RX7 cX7_now 2 (some .int) false D cA B G md d call e := by
  unfold k_X7_now
  refine al_cons (eok_pure (pr_iload_n dX7_now_0 rfl)) ?_
  refine al_cons (eok_pure (pr_tsw dX7_now_1 (by decide) (by decide) (by decide))) ?_
  refine al_cons (eok_pure (pr_aload_n dX7_now_56 rfl)) ?_
  refine al_cons (ok_get cl_X7 gX7 (by decide) w_412 dX7_now_57) ?_
  refine al_cons (ok_get cl_X6 gX6 (by decide) w_157 dX7_now_60) ?_
  refine al_cons (ok_retI rfl dX7_now_63) ?_
  refine al_cons (eok_pure (pr_aload_n dX7_now_64 rfl)) ?_
  refine al_cons (ok_get cl_X7 gX7 (by decide) w_412 dX7_now_65) ?_
  refine al_cons (ok_get cl_X6 gX6 (by decide) w_176 dX7_now_68) ?_
  refine al_cons (ok_retI rfl dX7_now_71) ?_
  refine al_cons (eok_pure (pr_aload_n dX7_now_72 rfl)) ?_
  refine al_cons (ok_get cl_X7 gX7 (by decide) w_414 dX7_now_73) ?_
  refine al_cons (ok_get cl_X5 gX5 (by decide) w_257 dX7_now_76) ?_
  refine al_cons (ok_retI rfl dX7_now_79) ?_
  refine al_cons (eok_pure (pr_aload_n dX7_now_80 rfl)) ?_
  refine al_cons (ok_get cl_X7 gX7 (by decide) w_412 dX7_now_81) ?_
  refine al_cons (ok_get cl_X6 gX6 (by decide) w_182 dX7_now_84) ?_
  refine al_cons (ok_callS hok mi_166 w_604 w_605 w_87 w_606 na_166 (by decide) dX7_now_87) ?_
  refine al_cons (ok_retI rfl dX7_now_90) ?_
  refine al_cons (eok_pure (pr_aload_n dX7_now_91 rfl)) ?_
  refine al_cons (ok_get cl_X7 gX7 (by decide) w_414 dX7_now_92) ?_
  refine al_cons (ok_get cl_X5 gX5 (by decide) w_254 dX7_now_95) ?_
  refine al_cons (eok_pure (pr_aload_n dX7_now_98 rfl)) ?_
  refine al_cons (ok_get cl_X7 gX7 (by decide) w_412 dX7_now_99) ?_
  refine al_cons (eok_pure (pr_iconst dX7_now_102 (by decide))) ?_
  refine al_cons (ok_callV hok mi_9 cl_X0 w_610 w_611 w_612 w_76 w_613 na_9 (by decide) dX7_now_103) ?_
  refine al_cons (ok_retI rfl dX7_now_106) ?_
  refine al_cons (eok_pure (pr_aload_n dX7_now_107 rfl)) ?_
  refine al_cons (ok_get cl_X7 gX7 (by decide) w_414 dX7_now_108) ?_
  refine al_cons (ok_get cl_X5 gX5 (by decide) w_254 dX7_now_111) ?_
  refine al_cons (eok_pure (pr_aload_n dX7_now_114 rfl)) ?_
  refine al_cons (ok_get cl_X7 gX7 (by decide) w_412 dX7_now_115) ?_
  refine al_cons (eok_pure (pr_iconst dX7_now_118 (by decide))) ?_
  refine al_cons (ok_callV hok mi_10 cl_X0 w_617 w_618 w_619 w_76 w_620 na_10 (by decide) dX7_now_119) ?_
  refine al_cons (ok_retI rfl dX7_now_122) ?_
  refine al_cons (eok_pure (pr_aload_n dX7_now_123 rfl)) ?_
  refine al_cons (ok_get cl_X7 gX7 (by decide) w_414 dX7_now_124) ?_
  refine al_cons (ok_get cl_X5 gX5 (by decide) w_254 dX7_now_127) ?_
  refine al_cons (eok_pure (pr_aload_n dX7_now_130 rfl)) ?_
  refine al_cons (ok_get cl_X7 gX7 (by decide) w_412 dX7_now_131) ?_
  refine al_cons (eok_pure (pr_iconst dX7_now_134 (by decide))) ?_
  refine al_cons (ok_callV hok mi_8 cl_X0 w_621 w_622 w_623 w_76 w_624 na_8 (by decide) dX7_now_135) ?_
  refine al_cons (ok_retI rfl dX7_now_138) ?_
  refine al_cons (eok_pure (pr_aload_n dX7_now_139 rfl)) ?_
  refine al_cons (ok_get cl_X7 gX7 (by decide) w_414 dX7_now_140) ?_
  refine al_cons (ok_get cl_X5 gX5 (by decide) w_263 dX7_now_143) ?_
  refine al_cons (ok_retI rfl dX7_now_146) ?_
  refine al_cons (eok_pure (pr_aload_n dX7_now_147 rfl)) ?_
  refine al_cons (ok_get cl_X7 gX7 (by decide) w_415 dX7_now_148) ?_
  refine al_cons (ok_get cl_X1 gX1 (by decide) w_287 dX7_now_151) ?_
  refine al_cons (ok_retI rfl dX7_now_154) ?_
  refine al_cons (eok_pure (pr_aload_n dX7_now_155 rfl)) ?_
  refine al_cons (ok_get cl_X7 gX7 (by decide) w_409 dX7_now_156) ?_
  refine al_cons (ok_retI rfl dX7_now_159) ?_
  refine al_cons (eok_pure (pr_ldc dX7_now_160 w_631)) ?_
  refine al_cons (ok_retI rfl dX7_now_162) ?_
  exact al_nil
def k_X7_compartment (md : Bool) : List Ent := [ePure 0 (fLoadA 0 1 0),
  eGet 1 7 4,
  ePure 4 (fLoadI 4 1 1),
  eCallV 5 1 63 6,
  ePure 8 (fIf1 8 13 b1_ne),
  ePure 11 (fPush 11 1 (.int (-1))),
  eRetI 12,
  ePure 13 (fLoadI 13 1 2),
  ePure 14 (fSw 0 [56, 66, 76, 86, 95, 108, 121] 134),
  ePure 56 (fLoadA 56 1 0),
  eGet 57 7 4,
  eGet 60 6 2,
  ePure 63 (fLoadI 63 1 1),
  eIald 64 0,
  eRetI 65,
  ePure 66 (fLoadA 66 1 0),
  eGet 67 7 4,
  eGet 70 6 3,
  ePure 73 (fLoadI 73 1 1),
  eIald 74 0,
  eRetI 75,
  ePure 76 (fLoadA 76 1 0),
  eGet 77 7 4,
  eGet 80 6 4,
  ePure 83 (fLoadI 83 1 1),
  eIald 84 0,
  eRetI 85,
  ePure 86 (fLoadA 86 1 0),
  eGet 87 7 4,
  ePure 90 (fLoadI 90 1 1),
  eCallV 91 1 65 6,
  eRetI 94,
  ePure 95 (fLoadA 95 1 0),
  eGet 96 7 6,
  eGet 99 5 0,
  eGet 102 0 0,
  ePure 105 (fLoadI 105 1 1),
  eIald 106 0,
  eRetI 107,
  ePure 108 (fLoadA 108 1 0),
  eGet 109 7 6,
  eGet 112 5 0,
  eGet 115 0 1,
  ePure 118 (fLoadI 118 1 1),
  eIald 119 0,
  eRetI 120,
  ePure 121 (fLoadA 121 1 0),
  eGet 122 7 6,
  eGet 125 5 0,
  eGet 128 0 2,
  ePure 131 (fLoadI 131 1 1),
  eIald 132 0,
  eRetI 133,
  ePure 134 (fPush 134 1 (.int (-1))),
  eRetI 135]
set_option maxRecDepth 100000 in
set_option maxHeartbeats 4000000 in
theorem ko_X7_compartment {l : Launch} {D : va_G} {cA : Nat → ClassId} {B : BB} {G : State → Prop} {md : Bool} {d : Nat} {call : Call} (hG : ∀ s, G s → Gs B s) (hok : COk l D cA B G md d mI call) : ∀ e ∈ k_X7_compartment md, EOk l RX7 cX7_compartment 3 (some .int) false D cA B G md d call e := by
  unfold k_X7_compartment
  refine al_cons (eok_pure (pr_aload_n dX7_compartment_0 rfl)) ?_
  refine al_cons (ok_get cl_X7 gX7 (by decide) w_412 dX7_compartment_1) ?_
  refine al_cons (eok_pure (pr_iload_n dX7_compartment_4 rfl)) ?_
  refine al_cons (ok_callV hok mi_63 cl_X6 w_636 w_637 w_638 w_74 w_639 na_63 (by decide) dX7_compartment_5) ?_
  refine al_cons (eok_pure (pr_if_ne dX7_compartment_8 (by decide))) ?_
  refine al_cons (eok_pure (pr_iconst dX7_compartment_11 (by decide))) ?_
  refine al_cons (ok_retI rfl dX7_compartment_12) ?_
  refine al_cons (eok_pure (pr_iload_n dX7_compartment_13 rfl)) ?_
  refine al_cons (eok_pure (pr_tsw dX7_compartment_14 (by decide) (by decide) (by decide))) ?_
  refine al_cons (eok_pure (pr_aload_n dX7_compartment_56 rfl)) ?_
  refine al_cons (ok_get cl_X7 gX7 (by decide) w_412 dX7_compartment_57) ?_
  refine al_cons (ok_get cl_X6 gX6 (by decide) w_161 dX7_compartment_60) ?_
  refine al_cons (eok_pure (pr_iload_n dX7_compartment_63 rfl)) ?_
  refine al_cons (ok_iald dX7_compartment_64) ?_
  refine al_cons (ok_retI rfl dX7_compartment_65) ?_
  refine al_cons (eok_pure (pr_aload_n dX7_compartment_66 rfl)) ?_
  refine al_cons (ok_get cl_X7 gX7 (by decide) w_412 dX7_compartment_67) ?_
  refine al_cons (ok_get cl_X6 gX6 (by decide) w_165 dX7_compartment_70) ?_
  refine al_cons (eok_pure (pr_iload_n dX7_compartment_73 rfl)) ?_
  refine al_cons (ok_iald dX7_compartment_74) ?_
  refine al_cons (ok_retI rfl dX7_compartment_75) ?_
  refine al_cons (eok_pure (pr_aload_n dX7_compartment_76 rfl)) ?_
  refine al_cons (ok_get cl_X7 gX7 (by decide) w_412 dX7_compartment_77) ?_
  refine al_cons (ok_get cl_X6 gX6 (by decide) w_169 dX7_compartment_80) ?_
  refine al_cons (eok_pure (pr_iload_n dX7_compartment_83 rfl)) ?_
  refine al_cons (ok_iald dX7_compartment_84) ?_
  refine al_cons (ok_retI rfl dX7_compartment_85) ?_
  refine al_cons (eok_pure (pr_aload_n dX7_compartment_86 rfl)) ?_
  refine al_cons (ok_get cl_X7 gX7 (by decide) w_412 dX7_compartment_87) ?_
  refine al_cons (eok_pure (pr_iload_n dX7_compartment_90 rfl)) ?_
  refine al_cons (ok_callV hok mi_65 cl_X6 w_640 w_641 w_642 w_74 w_643 na_65 (by decide) dX7_compartment_91) ?_
  refine al_cons (ok_retI rfl dX7_compartment_94) ?_
  refine al_cons (eok_pure (pr_aload_n dX7_compartment_95 rfl)) ?_
  refine al_cons (ok_get cl_X7 gX7 (by decide) w_414 dX7_compartment_96) ?_
  refine al_cons (ok_get cl_X5 gX5 (by decide) w_254 dX7_compartment_99) ?_
  refine al_cons (ok_get cl_X0 gX0 (by decide) w_235 dX7_compartment_102) ?_
  refine al_cons (eok_pure (pr_iload_n dX7_compartment_105 rfl)) ?_
  refine al_cons (ok_iald dX7_compartment_106) ?_
  refine al_cons (ok_retI rfl dX7_compartment_107) ?_
  refine al_cons (eok_pure (pr_aload_n dX7_compartment_108 rfl)) ?_
  refine al_cons (ok_get cl_X7 gX7 (by decide) w_414 dX7_compartment_109) ?_
  refine al_cons (ok_get cl_X5 gX5 (by decide) w_254 dX7_compartment_112) ?_
  refine al_cons (ok_get cl_X0 gX0 (by decide) w_237 dX7_compartment_115) ?_
  refine al_cons (eok_pure (pr_iload_n dX7_compartment_118 rfl)) ?_
  refine al_cons (ok_iald dX7_compartment_119) ?_
  refine al_cons (ok_retI rfl dX7_compartment_120) ?_
  refine al_cons (eok_pure (pr_aload_n dX7_compartment_121 rfl)) ?_
  refine al_cons (ok_get cl_X7 gX7 (by decide) w_414 dX7_compartment_122) ?_
  refine al_cons (ok_get cl_X5 gX5 (by decide) w_254 dX7_compartment_125) ?_
  refine al_cons (ok_get cl_X0 gX0 (by decide) w_241 dX7_compartment_128) ?_
  refine al_cons (eok_pure (pr_iload_n dX7_compartment_131 rfl)) ?_
  refine al_cons (ok_iald dX7_compartment_132) ?_
  refine al_cons (ok_retI rfl dX7_compartment_133) ?_
  refine al_cons (eok_pure (pr_iconst dX7_compartment_134 (by decide))) ?_
  refine al_cons (ok_retI rfl dX7_compartment_135) ?_
  exact al_nil
def k_X7_drop (md : Bool) : List Ent := [ePure 0 (fLoadA 0 1 0),
  eGet 1 7 6,
  ePure 4 (fLoadI 4 1 1),
  eCallV 5 1 57 5,
  ePure 8 (fIf1 8 20 b1_eq),
  ePure 11 (fLoadI 11 1 2),
  ePure 12 (fIf1 12 20 b1_lt),
  ePure 15 (fLoadI 15 1 2),
  ePure 16 (fPush 16 1 (.int 5)),
  ePure 17 (fIf2 17 28 b2_le),
  ePure 28 (fLoadI 28 1 2),
  ePure 29 (fSw 0 [64, 74, 84, 96, 109] 119),
  ePure 64 (fLoadA 64 1 0),
  eGet 65 7 4,
  eGet 68 6 10,
  ePure 71 (fLoadI 71 1 1),
  eIald 72 0,
  eRetI 73,
  ePure 74 (fLoadA 74 1 0),
  eGet 75 7 4,
  eGet 78 6 11,
  ePure 81 (fLoadI 81 1 1),
  eIald 82 0,
  eRetI 83,
  ePure 84 (fLoadA 84 1 0),
  eGet 85 7 6,
  eGet 88 5 0,
  ePure 91 (fLoadI 91 1 1),
  eCallV 92 1 6 0,
  eRetI 95,
  ePure 96 (fLoadA 96 1 0),
  eGet 97 7 6,
  ePure 100 (fLoadA 100 1 0),
  eGet 101 7 4,
  ePure 104 (fLoadI 104 1 1),
  eCallV 105 2 58 5,
  eRetI 108,
  ePure 109 (fLoadA 109 1 0),
  eGet 110 7 6,
  eGet 113 5 3,
  ePure 116 (fLoadI 116 1 1),
  eIald 117 0,
  eRetI 118,
  ePure 119 (fLoadA 119 1 0),
  eGet 120 7 6,
  ePure 123 (fLoadA 123 1 0),
  eGet 124 7 4,
  ePure 127 (fLoadI 127 1 1),
  eCallV 128 2 59 5,
  eRetI 131]
set_option maxRecDepth 100000 in
set_option maxHeartbeats 4000000 in
theorem ko_X7_drop {l : Launch} {D : va_G} {cA : Nat → ClassId} {B : BB} {G : State → Prop} {md : Bool} {d : Nat} {call : Call} (hG : ∀ s, G s → Gs B s) (hok : COk l D cA B G md d mI call) : ∀ e ∈ k_X7_drop md, EOk l RX7 cX7_drop 3 (some .int) false D cA B G md d call e := by
  unfold k_X7_drop
  refine al_cons (eok_pure (pr_aload_n dX7_drop_0 rfl)) ?_
  refine al_cons (ok_get cl_X7 gX7 (by decide) w_414 dX7_drop_1) ?_
  refine al_cons (eok_pure (pr_iload_n dX7_drop_4 rfl)) ?_
  refine al_cons (ok_callV hok mi_57 cl_X5 w_717 w_718 w_719 w_75 w_720 na_57 (by decide) dX7_drop_5) ?_
  refine al_cons (eok_pure (pr_if_eq dX7_drop_8 (by decide))) ?_
  refine al_cons (eok_pure (pr_iload_n dX7_drop_11 rfl)) ?_
  refine al_cons (eok_pure (pr_if_lt dX7_drop_12 (by decide))) ?_
  refine al_cons (eok_pure (pr_iload_n dX7_drop_15 rfl)) ?_
  refine al_cons (eok_pure (pr_iconst dX7_drop_16 (by decide))) ?_
  refine al_cons (eok_pure (pr_icmp_le dX7_drop_17 (by decide))) ?_
  refine al_cons (eok_pure (pr_iload_n dX7_drop_28 rfl)) ?_
  refine al_cons (eok_pure (pr_tsw dX7_drop_29 (by decide) (by decide) (by decide))) ?_
  refine al_cons (eok_pure (pr_aload_n dX7_drop_64 rfl)) ?_
  refine al_cons (ok_get cl_X7 gX7 (by decide) w_412 dX7_drop_65) ?_
  refine al_cons (ok_get cl_X6 gX6 (by decide) w_188 dX7_drop_68) ?_
  refine al_cons (eok_pure (pr_iload_n dX7_drop_71 rfl)) ?_
  refine al_cons (ok_iald dX7_drop_72) ?_
  refine al_cons (ok_retI rfl dX7_drop_73) ?_
  refine al_cons (eok_pure (pr_aload_n dX7_drop_74 rfl)) ?_
  refine al_cons (ok_get cl_X7 gX7 (by decide) w_412 dX7_drop_75) ?_
  refine al_cons (ok_get cl_X6 gX6 (by decide) w_194 dX7_drop_78) ?_
  refine al_cons (eok_pure (pr_iload_n dX7_drop_81 rfl)) ?_
  refine al_cons (ok_iald dX7_drop_82) ?_
  refine al_cons (ok_retI rfl dX7_drop_83) ?_
  refine al_cons (eok_pure (pr_aload_n dX7_drop_84 rfl)) ?_
  refine al_cons (ok_get cl_X7 gX7 (by decide) w_414 dX7_drop_85) ?_
  refine al_cons (ok_get cl_X5 gX5 (by decide) w_254 dX7_drop_88) ?_
  refine al_cons (eok_pure (pr_iload_n dX7_drop_91 rfl)) ?_
  refine al_cons (ok_callV hok mi_6 cl_X0 w_814 w_681 w_682 w_76 w_683 na_6 (by decide) dX7_drop_92) ?_
  refine al_cons (ok_retI rfl dX7_drop_95) ?_
  refine al_cons (eok_pure (pr_aload_n dX7_drop_96 rfl)) ?_
  refine al_cons (ok_get cl_X7 gX7 (by decide) w_414 dX7_drop_97) ?_
  refine al_cons (eok_pure (pr_aload_n dX7_drop_100 rfl)) ?_
  refine al_cons (ok_get cl_X7 gX7 (by decide) w_412 dX7_drop_101) ?_
  refine al_cons (eok_pure (pr_iload_n dX7_drop_104 rfl)) ?_
  refine al_cons (ok_callV hok mi_58 cl_X5 w_721 w_722 w_723 w_75 w_724 na_58 (by decide) dX7_drop_105) ?_
  refine al_cons (ok_retI rfl dX7_drop_108) ?_
  refine al_cons (eok_pure (pr_aload_n dX7_drop_109 rfl)) ?_
  refine al_cons (ok_get cl_X7 gX7 (by decide) w_414 dX7_drop_110) ?_
  refine al_cons (ok_get cl_X5 gX5 (by decide) w_261 dX7_drop_113) ?_
  refine al_cons (eok_pure (pr_iload_n dX7_drop_116 rfl)) ?_
  refine al_cons (ok_iald dX7_drop_117) ?_
  refine al_cons (ok_retI rfl dX7_drop_118) ?_
  refine al_cons (eok_pure (pr_aload_n dX7_drop_119 rfl)) ?_
  refine al_cons (ok_get cl_X7 gX7 (by decide) w_414 dX7_drop_120) ?_
  refine al_cons (eok_pure (pr_aload_n dX7_drop_123 rfl)) ?_
  refine al_cons (ok_get cl_X7 gX7 (by decide) w_412 dX7_drop_124) ?_
  refine al_cons (eok_pure (pr_iload_n dX7_drop_127 rfl)) ?_
  refine al_cons (ok_callV hok mi_59 cl_X5 w_833 w_834 w_835 w_75 w_836 na_59 (by decide) dX7_drop_128) ?_
  refine al_cons (ok_retI rfl dX7_drop_131) ?_
  exact al_nil
def k_X7_may (md : Bool) : List Ent := [ePure 0 (fLoadA 0 1 0),
  eGet 1 7 4,
  ePure 4 (fLoadI 4 1 1),
  eCallV 5 1 63 6,
  ePure 8 (fIf1 8 49 b1_eq),
  ePure 11 (fLoadA 11 1 0),
  eGet 12 7 4,
  ePure 15 (fLoadI 15 1 2),
  eCallV 16 1 64 6,
  ePure 19 (fIf1 19 49 b1_eq),
  ePure 22 (fLoadA 22 1 0),
  eGet 23 7 4,
  ePure 26 (fLoadA 26 1 0),
  eGet 27 7 6,
  eGet 30 5 0,
  eGet 33 0 2,
  ePure 36 (fLoadI 36 1 1),
  eIald 37 0,
  ePure 38 (fLoadI 38 1 2),
  eCallV 39 2 67 6,
  ePure 42 (fIf1 42 49 b1_ne),
  ePure 45 (fPush 45 1 (.int 1)),
  ePure 46 (fGoto 50),
  ePure 49 (fPush 49 1 (.int 0)),
  eRetZ 50]
set_option maxRecDepth 100000 in
set_option maxHeartbeats 4000000 in
theorem ko_X7_may {l : Launch} {D : va_G} {cA : Nat → ClassId} {B : BB} {G : State → Prop} {md : Bool} {d : Nat} {call : Call} (hG : ∀ s, G s → Gs B s) (hok : COk l D cA B G md d mI call) : ∀ e ∈ k_X7_may md, EOk l RX7 cX7_may 3 (some .boolean) false D cA B G md d call e := by
  unfold k_X7_may
  refine al_cons (eok_pure (pr_aload_n dX7_may_0 rfl)) ?_
  refine al_cons (ok_get cl_X7 gX7 (by decide) w_412 dX7_may_1) ?_
  refine al_cons (eok_pure (pr_iload_n dX7_may_4 rfl)) ?_
  refine al_cons (ok_callV hok mi_63 cl_X6 w_636 w_637 w_638 w_74 w_639 na_63 (by decide) dX7_may_5) ?_
  refine al_cons (eok_pure (pr_if_eq dX7_may_8 (by decide))) ?_
  refine al_cons (eok_pure (pr_aload_n dX7_may_11 rfl)) ?_
  refine al_cons (ok_get cl_X7 gX7 (by decide) w_412 dX7_may_12) ?_
  refine al_cons (eok_pure (pr_iload_n dX7_may_15 rfl)) ?_
  refine al_cons (ok_callV hok mi_64 cl_X6 w_648 w_649 w_650 w_74 w_651 na_64 (by decide) dX7_may_16) ?_
  refine al_cons (eok_pure (pr_if_eq dX7_may_19 (by decide))) ?_
  refine al_cons (eok_pure (pr_aload_n dX7_may_22 rfl)) ?_
  refine al_cons (ok_get cl_X7 gX7 (by decide) w_412 dX7_may_23) ?_
  refine al_cons (eok_pure (pr_aload_n dX7_may_26 rfl)) ?_
  refine al_cons (ok_get cl_X7 gX7 (by decide) w_414 dX7_may_27) ?_
  refine al_cons (ok_get cl_X5 gX5 (by decide) w_254 dX7_may_30) ?_
  refine al_cons (ok_get cl_X0 gX0 (by decide) w_241 dX7_may_33) ?_
  refine al_cons (eok_pure (pr_iload_n dX7_may_36 rfl)) ?_
  refine al_cons (ok_iald dX7_may_37) ?_
  refine al_cons (eok_pure (pr_iload_n dX7_may_38 rfl)) ?_
  refine al_cons (ok_callV hok mi_67 cl_X6 w_652 w_653 w_654 w_74 w_655 na_67 (by decide) dX7_may_39) ?_
  refine al_cons (eok_pure (pr_if_ne dX7_may_42 (by decide))) ?_
  refine al_cons (eok_pure (pr_iconst dX7_may_45 (by decide))) ?_
  refine al_cons (eok_pure (pr_goto dX7_may_46 (by decide))) ?_
  refine al_cons (eok_pure (pr_iconst dX7_may_49 (by decide))) ?_
  refine al_cons (ok_retZ rfl dX7_may_50) ?_
  exact al_nil
def k_X7_would (md : Bool) : List Ent := [ePure 0 (fLoadA 0 1 0),
  eGet 1 7 4,
  ePure 4 (fLoadI 4 1 1),
  eCallV 5 1 63 6,
  ePure 8 (fIf1 8 39 b1_eq),
  ePure 11 (fLoadA 11 1 0),
  eGet 12 7 4,
  ePure 15 (fLoadI 15 1 2),
  eCallV 16 1 64 6,
  ePure 19 (fIf1 19 39 b1_eq),
  ePure 22 (fLoadI 22 1 3),
  ePure 23 (fIf1 23 39 b1_lt),
  ePure 26 (fLoadI 26 1 3),
  ePure 27 (fLoadA 27 1 0),
  eGet 28 7 4,
  eGet 31 6 2,
  ePure 34 (fLoadI 34 1 1),
  eIald 35 0,
  ePure 36 (fIf2 36 41 b2_le),
  ePure 39 (fPush 39 1 (.int (-1))),
  eRetI 40,
  ePure 41 (fLoadA 41 1 0),
  eGet 42 7 8,
  ePure 45 (fLoadA 45 1 0),
  eGet 46 7 6,
  eGet 49 5 0,
  eCallV 52 1 1 0,
  ePure 55 (fLoadA 55 1 0),
  eGet 56 7 8,
  ePure 59 (fLoadA 59 1 0),
  eGet 60 7 4,
  ePure 63 (fLoadI 63 1 1),
  ePure 64 (fPush 64 1 (.int (-1))),
  ePure 65 (fLoadI 65 1 2),
  ePure 66 (fLoadI 66 1 3),
  eCallV 67 5 3 0,
  ePure 70 (fLoadA 70 1 0),
  eGet 71 7 8,
  ePure 74 (fLoadA 74 1 0),
  eGet 75 7 4,
  ePure 78 (fPush 78 1 (.int 0)),
  eCallV 79 2 8 0,
  eRetI 82]
set_option maxRecDepth 100000 in
set_option maxHeartbeats 4000000 in
theorem ko_X7_would {l : Launch} {D : va_G} {cA : Nat → ClassId} {B : BB} {G : State → Prop} {md : Bool} {d : Nat} {call : Call} (hG : ∀ s, G s → Gs B s) (hok : COk l D cA B G md d mI call) : ∀ e ∈ k_X7_would md, EOk l RX7 cX7_would 4 (some .int) false D cA B G md d call e := by
  unfold k_X7_would
  refine al_cons (eok_pure (pr_aload_n dX7_would_0 rfl)) ?_
  refine al_cons (ok_get cl_X7 gX7 (by decide) w_412 dX7_would_1) ?_
  refine al_cons (eok_pure (pr_iload_n dX7_would_4 rfl)) ?_
  refine al_cons (ok_callV hok mi_63 cl_X6 w_636 w_637 w_638 w_74 w_639 na_63 (by decide) dX7_would_5) ?_
  refine al_cons (eok_pure (pr_if_eq dX7_would_8 (by decide))) ?_
  refine al_cons (eok_pure (pr_aload_n dX7_would_11 rfl)) ?_
  refine al_cons (ok_get cl_X7 gX7 (by decide) w_412 dX7_would_12) ?_
  refine al_cons (eok_pure (pr_iload_n dX7_would_15 rfl)) ?_
  refine al_cons (ok_callV hok mi_64 cl_X6 w_648 w_649 w_650 w_74 w_651 na_64 (by decide) dX7_would_16) ?_
  refine al_cons (eok_pure (pr_if_eq dX7_would_19 (by decide))) ?_
  refine al_cons (eok_pure (pr_iload_n dX7_would_22 rfl)) ?_
  refine al_cons (eok_pure (pr_if_lt dX7_would_23 (by decide))) ?_
  refine al_cons (eok_pure (pr_iload_n dX7_would_26 rfl)) ?_
  refine al_cons (eok_pure (pr_aload_n dX7_would_27 rfl)) ?_
  refine al_cons (ok_get cl_X7 gX7 (by decide) w_412 dX7_would_28) ?_
  refine al_cons (ok_get cl_X6 gX6 (by decide) w_161 dX7_would_31) ?_
  refine al_cons (eok_pure (pr_iload_n dX7_would_34 rfl)) ?_
  refine al_cons (ok_iald dX7_would_35) ?_
  refine al_cons (eok_pure (pr_icmp_le dX7_would_36 (by decide))) ?_
  refine al_cons (eok_pure (pr_iconst dX7_would_39 (by decide))) ?_
  refine al_cons (ok_retI rfl dX7_would_40) ?_
  refine al_cons (eok_pure (pr_aload_n dX7_would_41 rfl)) ?_
  refine al_cons (ok_get cl_X7 gX7 (by decide) w_416 dX7_would_42) ?_
  refine al_cons (eok_pure (pr_aload_n dX7_would_45 rfl)) ?_
  refine al_cons (ok_get cl_X7 gX7 (by decide) w_414 dX7_would_46) ?_
  refine al_cons (ok_get cl_X5 gX5 (by decide) w_254 dX7_would_49) ?_
  refine al_cons (ok_callV hok mi_1 cl_X0 w_660 w_661 w_662 w_76 w_663 na_1 (by decide) dX7_would_52) ?_
  refine al_cons (eok_pure (pr_aload_n dX7_would_55 rfl)) ?_
  refine al_cons (ok_get cl_X7 gX7 (by decide) w_416 dX7_would_56) ?_
  refine al_cons (eok_pure (pr_aload_n dX7_would_59 rfl)) ?_
  refine al_cons (ok_get cl_X7 gX7 (by decide) w_412 dX7_would_60) ?_
  refine al_cons (eok_pure (pr_iload_n dX7_would_63 rfl)) ?_
  refine al_cons (eok_pure (pr_iconst dX7_would_64 (by decide))) ?_
  refine al_cons (eok_pure (pr_iload_n dX7_would_65 rfl)) ?_
  refine al_cons (eok_pure (pr_iload_n dX7_would_66 rfl)) ?_
  refine al_cons (ok_callV hok mi_3 cl_X0 w_664 w_665 w_666 w_76 w_667 na_3 (by decide) dX7_would_67) ?_
  refine al_cons (eok_pure (pr_aload_n dX7_would_70 rfl)) ?_
  refine al_cons (ok_get cl_X7 gX7 (by decide) w_416 dX7_would_71) ?_
  refine al_cons (eok_pure (pr_aload_n dX7_would_74 rfl)) ?_
  refine al_cons (ok_get cl_X7 gX7 (by decide) w_412 dX7_would_75) ?_
  refine al_cons (eok_pure (pr_iconst dX7_would_78 (by decide))) ?_
  refine al_cons (ok_callV hok mi_8 cl_X0 w_621 w_622 w_623 w_76 w_624 na_8 (by decide) dX7_would_79) ?_
  refine al_cons (ok_retI rfl dX7_would_82) ?_
  exact al_nil
def k_X7_orders (md : Bool) : List Ent := [ePure 0 (fLoadA 0 1 0),
  eGet 1 7 9,
  ePure 4 (fLoadA 4 1 0),
  eGet 5 7 4,
  ePure 8 (fLoadA 8 1 0),
  eGet 9 7 6,
  eGet 12 5 0,
  ePure 15 (fLoadA 15 1 0),
  eGet 16 7 6,
  eGet 19 5 1,
  eCallV 22 3 18 2,
  eRetI 25]
set_option maxRecDepth 100000 in
set_option maxHeartbeats 4000000 in
theorem ko_X7_orders {l : Launch} {D : va_G} {cA : Nat → ClassId} {B : BB} {G : State → Prop} {md : Bool} {d : Nat} {call : Call} (hG : ∀ s, G s → Gs B s) (hok : COk l D cA B G md d mI call) : ∀ e ∈ k_X7_orders md, EOk l RX7 cX7_orders 1 (some .int) false D cA B G md d call e := by
  unfold k_X7_orders
  refine al_cons (eok_pure (pr_aload_n dX7_orders_0 rfl)) ?_
  refine al_cons (ok_get cl_X7 gX7 (by decide) w_417 dX7_orders_1) ?_
  refine al_cons (eok_pure (pr_aload_n dX7_orders_4 rfl)) ?_
  refine al_cons (ok_get cl_X7 gX7 (by decide) w_412 dX7_orders_5) ?_
  refine al_cons (eok_pure (pr_aload_n dX7_orders_8 rfl)) ?_
  refine al_cons (ok_get cl_X7 gX7 (by decide) w_414 dX7_orders_9) ?_
  refine al_cons (ok_get cl_X5 gX5 (by decide) w_254 dX7_orders_12) ?_
  refine al_cons (eok_pure (pr_aload_n dX7_orders_15 rfl)) ?_
  refine al_cons (ok_get cl_X7 gX7 (by decide) w_414 dX7_orders_16) ?_
  refine al_cons (ok_get cl_X5 gX5 (by decide) w_257 dX7_orders_19) ?_
  refine al_cons (ok_callV hok mi_18 cl_X2 w_672 w_673 w_674 w_78 w_675 na_18 (by decide) dX7_orders_22) ?_
  refine al_cons (ok_retI rfl dX7_orders_25) ?_
  exact al_nil
def k_X7_ordered (md : Bool) : List Ent := [ePure 0 (fLoadA 0 1 0),
  eGet 1 7 9,
  ePure 4 (fLoadA 4 1 0),
  eGet 5 7 4,
  ePure 8 (fLoadA 8 1 0),
  eGet 9 7 6,
  eGet 12 5 0,
  ePure 15 (fLoadA 15 1 0),
  eGet 16 7 6,
  eGet 19 5 1,
  eCallV 22 3 18 2,
  ePure 25 (fPop 25),
  ePure 26 (fLoadA 26 1 0),
  eGet 27 7 9,
  ePure 30 (fLoadI 30 1 1),
  eCallV 31 1 19 2,
  eRetI 34]
set_option maxRecDepth 100000 in
set_option maxHeartbeats 4000000 in
theorem ko_X7_ordered {l : Launch} {D : va_G} {cA : Nat → ClassId} {B : BB} {G : State → Prop} {md : Bool} {d : Nat} {call : Call} (hG : ∀ s, G s → Gs B s) (hok : COk l D cA B G md d mI call) : ∀ e ∈ k_X7_ordered md, EOk l RX7 cX7_ordered 2 (some .int) false D cA B G md d call e := by
  unfold k_X7_ordered
  refine al_cons (eok_pure (pr_aload_n dX7_ordered_0 rfl)) ?_
  refine al_cons (ok_get cl_X7 gX7 (by decide) w_417 dX7_ordered_1) ?_
  refine al_cons (eok_pure (pr_aload_n dX7_ordered_4 rfl)) ?_
  refine al_cons (ok_get cl_X7 gX7 (by decide) w_412 dX7_ordered_5) ?_
  refine al_cons (eok_pure (pr_aload_n dX7_ordered_8 rfl)) ?_
  refine al_cons (ok_get cl_X7 gX7 (by decide) w_414 dX7_ordered_9) ?_
  refine al_cons (ok_get cl_X5 gX5 (by decide) w_254 dX7_ordered_12) ?_
  refine al_cons (eok_pure (pr_aload_n dX7_ordered_15 rfl)) ?_
  refine al_cons (ok_get cl_X7 gX7 (by decide) w_414 dX7_ordered_16) ?_
  refine al_cons (ok_get cl_X5 gX5 (by decide) w_257 dX7_ordered_19) ?_
  refine al_cons (ok_callV hok mi_18 cl_X2 w_672 w_673 w_674 w_78 w_675 na_18 (by decide) dX7_ordered_22) ?_
  refine al_cons (eok_pure (pr_pop dX7_ordered_25)) ?_
  refine al_cons (eok_pure (pr_aload_n dX7_ordered_26 rfl)) ?_
  refine al_cons (ok_get cl_X7 gX7 (by decide) w_417 dX7_ordered_27) ?_
  refine al_cons (eok_pure (pr_iload_n dX7_ordered_30 rfl)) ?_
  refine al_cons (ok_callV hok mi_19 cl_X2 w_701 w_702 w_703 w_78 w_704 na_19 (by decide) dX7_ordered_31) ?_
  refine al_cons (ok_retI rfl dX7_ordered_34) ?_
  exact al_nil
def k_X7_without (md : Bool) : List Ent := [ePure 0 (fLoadA 0 1 0),
  ePure 1 (fLoadI 1 1 1),
  ePure 2 (fPush 2 1 (.int 1)),
  eCallV 3 2 92 7,
  ePure 6 (fIf1 6 11 b1_ne),
  ePure 9 (fPush 9 1 (.int (-1))),
  eRetI 10,
  ePure 11 (fLoadA 11 1 0),
  eGet 12 7 6,
  eGet 15 5 0,
  ePure 18 (fLoadA 18 1 0),
  eGet 19 7 4,
  ePure 22 (fLoadA 22 1 0),
  eGet 23 7 6,
  eGet 26 5 0,
  ePure 29 (fLoadI 29 1 1),
  eCallV 30 1 7 0,
  eCallV 33 2 8 0,
  eRetI 36]
set_option maxRecDepth 100000 in
set_option maxHeartbeats 4000000 in
theorem ko_X7_without {l : Launch} {D : va_G} {cA : Nat → ClassId} {B : BB} {G : State → Prop} {md : Bool} {d : Nat} {call : Call} (hG : ∀ s, G s → Gs B s) (hok : COk l D cA B G md d mI call) : ∀ e ∈ k_X7_without md, EOk l RX7 cX7_without 2 (some .int) false D cA B G md d call e := by
  unfold k_X7_without
  refine al_cons (eok_pure (pr_aload_n dX7_without_0 rfl)) ?_
  refine al_cons (eok_pure (pr_iload_n dX7_without_1 rfl)) ?_
  refine al_cons (eok_pure (pr_iconst dX7_without_2 (by decide))) ?_
  refine al_cons (ok_callV hok mi_92 cl_X7 w_713 w_715 w_20 w_72 w_716 na_92 (by decide) dX7_without_3) ?_
  refine al_cons (eok_pure (pr_if_ne dX7_without_6 (by decide))) ?_
  refine al_cons (eok_pure (pr_iconst dX7_without_9 (by decide))) ?_
  refine al_cons (ok_retI rfl dX7_without_10) ?_
  refine al_cons (eok_pure (pr_aload_n dX7_without_11 rfl)) ?_
  refine al_cons (ok_get cl_X7 gX7 (by decide) w_414 dX7_without_12) ?_
  refine al_cons (ok_get cl_X5 gX5 (by decide) w_254 dX7_without_15) ?_
  refine al_cons (eok_pure (pr_aload_n dX7_without_18 rfl)) ?_
  refine al_cons (ok_get cl_X7 gX7 (by decide) w_412 dX7_without_19) ?_
  refine al_cons (eok_pure (pr_aload_n dX7_without_22 rfl)) ?_
  refine al_cons (ok_get cl_X7 gX7 (by decide) w_414 dX7_without_23) ?_
  refine al_cons (ok_get cl_X5 gX5 (by decide) w_254 dX7_without_26) ?_
  refine al_cons (eok_pure (pr_iload_n dX7_without_29 rfl)) ?_
  refine al_cons (ok_callV hok mi_7 cl_X0 w_726 w_685 w_686 w_76 w_687 na_7 (by decide) dX7_without_30) ?_
  refine al_cons (ok_callV hok mi_8 cl_X0 w_621 w_622 w_623 w_76 w_624 na_8 (by decide) dX7_without_33) ?_
  refine al_cons (ok_retI rfl dX7_without_36) ?_
  exact al_nil
def k_X7_plan (md : Bool) : List Ent := [ePure 0 (fLoadA 0 1 0),
  eGet 1 7 10,
  ePure 4 (fLoadA 4 1 0),
  eGet 5 7 4,
  ePure 8 (fLoadA 8 1 0),
  eGet 9 7 6,
  eCallV 12 2 25 3,
  ePure 15 (fIf1 15 21 b1_ne),
  ePure 18 (fPush 18 2 (.int (-2))),
  eRetI 20,
  ePure 21 (fLoadI 21 1 1),
  ePure 22 (fIf1 22 33 b1_ne),
  ePure 25 (fLoadA 25 1 0),
  eGet 26 7 10,
  eGet 29 3 14,
  eRetI 32,
  ePure 33 (fLoadI 33 1 1),
  ePure 34 (fPush 34 1 (.int 1)),
  ePure 35 (fIf2 35 46 b2_ne),
  ePure 38 (fLoadA 38 1 0),
  eGet 39 7 10,
  eGet 42 3 15,
  eRetI 45,
  ePure 46 (fLoadI 46 1 1),
  ePure 47 (fPush 47 2 (.int 10)),
  ePure 49 (fIf2 49 79 b2_lt),
  ePure 52 (fLoadA 52 1 0),
  eGet 53 7 4,
  ePure 56 (fLoadI 56 1 1),
  ePure 57 (fPush 57 2 (.int 10)),
  ePure 59 (fBin 59 o_isub),
  eCallV 60 1 63 6,
  ePure 63 (fIf1 63 79 b1_eq),
  ePure 66 (fLoadA 66 1 0),
  eGet 67 7 10,
  eGet 70 3 16,
  ePure 73 (fLoadI 73 1 1),
  ePure 74 (fPush 74 2 (.int 10)),
  ePure 76 (fBin 76 o_isub),
  eIald 77 0,
  eRetI 78,
  ePure 79 (fLoadI 79 1 1),
  ePure 80 (fPush 80 2 (.int 20)),
  ePure 82 (fIf2 82 112 b2_lt),
  ePure 85 (fLoadA 85 1 0),
  eGet 86 7 4,
  ePure 89 (fLoadI 89 1 1),
  ePure 90 (fPush 90 2 (.int 20)),
  ePure 92 (fBin 92 o_isub),
  eCallV 93 1 63 6,
  ePure 96 (fIf1 96 112 b1_eq),
  ePure 99 (fLoadA 99 1 0),
  eGet 100 7 10,
  eGet 103 3 17,
  ePure 106 (fLoadI 106 1 1),
  ePure 107 (fPush 107 2 (.int 20)),
  ePure 109 (fBin 109 o_isub),
  eIald 110 0,
  eRetI 111,
  ePure 112 (fPush 112 1 (.int (-1))),
  eRetI 113]
set_option maxRecDepth 100000 in
set_option maxHeartbeats 4000000 in
theorem ko_X7_plan {l : Launch} {D : va_G} {cA : Nat → ClassId} {B : BB} {G : State → Prop} {md : Bool} {d : Nat} {call : Call} (hG : ∀ s, G s → Gs B s) (hok : COk l D cA B G md d mI call) : ∀ e ∈ k_X7_plan md, EOk l RX7 cX7_plan 2 (some .int) false D cA B G md d call e := by
  unfold k_X7_plan
  refine al_cons (eok_pure (pr_aload_n dX7_plan_0 rfl)) ?_
  refine al_cons (ok_get cl_X7 gX7 (by decide) w_418 dX7_plan_1) ?_
  refine al_cons (eok_pure (pr_aload_n dX7_plan_4 rfl)) ?_
  refine al_cons (ok_get cl_X7 gX7 (by decide) w_412 dX7_plan_5) ?_
  refine al_cons (eok_pure (pr_aload_n dX7_plan_8 rfl)) ?_
  refine al_cons (ok_get cl_X7 gX7 (by decide) w_414 dX7_plan_9) ?_
  refine al_cons (ok_callV hok mi_25 cl_X3 w_731 w_732 w_733 w_79 w_734 na_25 (by decide) dX7_plan_12) ?_
  refine al_cons (eok_pure (pr_if_ne dX7_plan_15 (by decide))) ?_
  refine al_cons (eok_pure (pr_bipush dX7_plan_18 (by decide))) ?_
  refine al_cons (ok_retI rfl dX7_plan_20) ?_
  refine al_cons (eok_pure (pr_iload_n dX7_plan_21 rfl)) ?_
  refine al_cons (eok_pure (pr_if_ne dX7_plan_22 (by decide))) ?_
  refine al_cons (eok_pure (pr_aload_n dX7_plan_25 rfl)) ?_
  refine al_cons (ok_get cl_X7 gX7 (by decide) w_418 dX7_plan_26) ?_
  refine al_cons (ok_get cl_X3 gX3 (by decide) w_341 dX7_plan_29) ?_
  refine al_cons (ok_retI rfl dX7_plan_32) ?_
  refine al_cons (eok_pure (pr_iload_n dX7_plan_33 rfl)) ?_
  refine al_cons (eok_pure (pr_iconst dX7_plan_34 (by decide))) ?_
  refine al_cons (eok_pure (pr_icmp_ne dX7_plan_35 (by decide))) ?_
  refine al_cons (eok_pure (pr_aload_n dX7_plan_38 rfl)) ?_
  refine al_cons (ok_get cl_X7 gX7 (by decide) w_418 dX7_plan_39) ?_
  refine al_cons (ok_get cl_X3 gX3 (by decide) w_343 dX7_plan_42) ?_
  refine al_cons (ok_retI rfl dX7_plan_45) ?_
  refine al_cons (eok_pure (pr_iload_n dX7_plan_46 rfl)) ?_
  refine al_cons (eok_pure (pr_bipush dX7_plan_47 (by decide))) ?_
  refine al_cons (eok_pure (pr_icmp_lt dX7_plan_49 (by decide))) ?_
  refine al_cons (eok_pure (pr_aload_n dX7_plan_52 rfl)) ?_
  refine al_cons (ok_get cl_X7 gX7 (by decide) w_412 dX7_plan_53) ?_
  refine al_cons (eok_pure (pr_iload_n dX7_plan_56 rfl)) ?_
  refine al_cons (eok_pure (pr_bipush dX7_plan_57 (by decide))) ?_
  refine al_cons (eok_pure (pr_isub dX7_plan_59)) ?_
  refine al_cons (ok_callV hok mi_63 cl_X6 w_636 w_637 w_638 w_74 w_639 na_63 (by decide) dX7_plan_60) ?_
  refine al_cons (eok_pure (pr_if_eq dX7_plan_63 (by decide))) ?_
  refine al_cons (eok_pure (pr_aload_n dX7_plan_66 rfl)) ?_
  refine al_cons (ok_get cl_X7 gX7 (by decide) w_418 dX7_plan_67) ?_
  refine al_cons (ok_get cl_X3 gX3 (by decide) w_345 dX7_plan_70) ?_
  refine al_cons (eok_pure (pr_iload_n dX7_plan_73 rfl)) ?_
  refine al_cons (eok_pure (pr_bipush dX7_plan_74 (by decide))) ?_
  refine al_cons (eok_pure (pr_isub dX7_plan_76)) ?_
  refine al_cons (ok_iald dX7_plan_77) ?_
  refine al_cons (ok_retI rfl dX7_plan_78) ?_
  refine al_cons (eok_pure (pr_iload_n dX7_plan_79 rfl)) ?_
  refine al_cons (eok_pure (pr_bipush dX7_plan_80 (by decide))) ?_
  refine al_cons (eok_pure (pr_icmp_lt dX7_plan_82 (by decide))) ?_
  refine al_cons (eok_pure (pr_aload_n dX7_plan_85 rfl)) ?_
  refine al_cons (ok_get cl_X7 gX7 (by decide) w_412 dX7_plan_86) ?_
  refine al_cons (eok_pure (pr_iload_n dX7_plan_89 rfl)) ?_
  refine al_cons (eok_pure (pr_bipush dX7_plan_90 (by decide))) ?_
  refine al_cons (eok_pure (pr_isub dX7_plan_92)) ?_
  refine al_cons (ok_callV hok mi_63 cl_X6 w_636 w_637 w_638 w_74 w_639 na_63 (by decide) dX7_plan_93) ?_
  refine al_cons (eok_pure (pr_if_eq dX7_plan_96 (by decide))) ?_
  refine al_cons (eok_pure (pr_aload_n dX7_plan_99 rfl)) ?_
  refine al_cons (ok_get cl_X7 gX7 (by decide) w_418 dX7_plan_100) ?_
  refine al_cons (ok_get cl_X3 gX3 (by decide) w_347 dX7_plan_103) ?_
  refine al_cons (eok_pure (pr_iload_n dX7_plan_106 rfl)) ?_
  refine al_cons (eok_pure (pr_bipush dX7_plan_107 (by decide))) ?_
  refine al_cons (eok_pure (pr_isub dX7_plan_109)) ?_
  refine al_cons (ok_iald dX7_plan_110) ?_
  refine al_cons (ok_retI rfl dX7_plan_111) ?_
  refine al_cons (eok_pure (pr_iconst dX7_plan_112 (by decide))) ?_
  refine al_cons (ok_retI rfl dX7_plan_113) ?_
  exact al_nil
def k_X7_washes (md : Bool) : List Ent := [ePure 0 (fLoadA 0 1 0),
  eGet 1 7 10,
  ePure 4 (fLoadA 4 1 0),
  eGet 5 7 4,
  ePure 8 (fLoadA 8 1 0),
  eGet 9 7 6,
  eCallV 12 2 26 3,
  ePure 15 (fStoI 15 1 1 2),
  ePure 16 (fLoadI 16 1 1),
  ePure 17 (fPush 17 1 (.int (-1))),
  ePure 18 (fIf2 18 26 b2_ne),
  ePure 21 (fPush 21 2 (.int (-2))),
  ePure 23 (fGoto 27),
  ePure 26 (fLoadI 26 1 1),
  eRetI 27]
set_option maxRecDepth 100000 in
set_option maxHeartbeats 4000000 in
theorem ko_X7_washes {l : Launch} {D : va_G} {cA : Nat → ClassId} {B : BB} {G : State → Prop} {md : Bool} {d : Nat} {call : Call} (hG : ∀ s, G s → Gs B s) (hok : COk l D cA B G md d mI call) : ∀ e ∈ k_X7_washes md, EOk l RX7 cX7_washes 2 (some .int) false D cA B G md d call e := by
  unfold k_X7_washes
  refine al_cons (eok_pure (pr_aload_n dX7_washes_0 rfl)) ?_
  refine al_cons (ok_get cl_X7 gX7 (by decide) w_418 dX7_washes_1) ?_
  refine al_cons (eok_pure (pr_aload_n dX7_washes_4 rfl)) ?_
  refine al_cons (ok_get cl_X7 gX7 (by decide) w_412 dX7_washes_5) ?_
  refine al_cons (eok_pure (pr_aload_n dX7_washes_8 rfl)) ?_
  refine al_cons (ok_get cl_X7 gX7 (by decide) w_414 dX7_washes_9) ?_
  refine al_cons (ok_callV hok mi_26 cl_X3 w_785 w_786 w_787 w_79 w_788 na_26 (by decide) dX7_washes_12) ?_
  refine al_cons (eok_pure (pr_istore_n dX7_washes_15 rfl)) ?_
  refine al_cons (eok_pure (pr_iload_n dX7_washes_16 rfl)) ?_
  refine al_cons (eok_pure (pr_iconst dX7_washes_17 (by decide))) ?_
  refine al_cons (eok_pure (pr_icmp_ne dX7_washes_18 (by decide))) ?_
  refine al_cons (eok_pure (pr_bipush dX7_washes_21 (by decide))) ?_
  refine al_cons (eok_pure (pr_goto dX7_washes_23 (by decide))) ?_
  refine al_cons (eok_pure (pr_iload_n dX7_washes_26 rfl)) ?_
  refine al_cons (ok_retI rfl dX7_washes_27) ?_
  exact al_nil
def k_X7_asks (md : Bool) : List Ent := [ePure 0 (fLoadA 0 1 0),
  eGet 1 7 4,
  ePure 4 (fLoadI 4 1 1),
  eCallV 5 1 64 6,
  ePure 8 (fIf1 8 23 b1_eq),
  ePure 11 (fLoadI 11 1 2),
  ePure 12 (fPush 12 1 (.int 1)),
  ePure 13 (fIf2 13 23 b2_lt),
  ePure 16 (fLoadI 16 1 2),
  ePure 17 (fPush 17 3 (.int 4995)),
  ePure 20 (fIf2 20 25 b2_le),
  ePure 23 (fPush 23 1 (.int (-1))),
  eRetI 24,
  ePure 25 (fLoadA 25 1 0),
  eGet 26 7 6,
  ePure 29 (fLoadA 29 1 0),
  eGet 30 7 4,
  eCallV 33 1 60 5,
  ePure 36 (fPush 36 1 (.int 4)),
  ePure 37 (fIf2 37 43 b2_lt),
  ePure 40 (fPush 40 2 (.int (-2))),
  eRetI 42,
  ePure 43 (fLoadA 43 1 0),
  eGet 44 7 6,
  eGet 47 5 1,
  ePure 50 (fPush 50 2 (.int 20)),
  ePure 52 (fIf2 52 58 b2_lt),
  ePure 55 (fPush 55 2 (.int (-3))),
  eRetI 57,
  ePure 58 (fLoadA 58 1 0),
  eGet 59 7 7,
  ePure 62 (fLoadA 62 1 0),
  eGet 63 7 6,
  eCallV 66 1 15 1,
  ePure 69 (fLoadA 69 1 0),
  eGet 70 7 6,
  eGet 73 5 1,
  ePure 76 (fStoI 76 1 3 4),
  ePure 77 (fLoadA 77 1 0),
  eGet 78 7 4,
  eGet 81 6 10,
  ePure 84 (fLoadI 84 1 3),
  ePure 85 (fLoadI 85 1 1),
  eIast 86 0 (fun x => x),
  ePure 87 (fLoadA 87 1 0),
  eGet 88 7 4,
  eGet 91 6 11,
  ePure 94 (fLoadI 94 1 3),
  ePure 95 (fLoadI 95 1 2),
  eIast 96 0 (fun x => x),
  ePure 97 (fLoadA 97 1 0),
  eGet 98 7 6,
  eCallV 101 0 55 5,
  ePure 104 (fLoadI 104 1 3),
  eRetI 105]
set_option maxRecDepth 100000 in
set_option maxHeartbeats 4000000 in
theorem ko_X7_asks {l : Launch} {D : va_G} {cA : Nat → ClassId} {B : BB} {G : State → Prop} {md : Bool} {d : Nat} {call : Call} (hG : ∀ s, G s → Gs B s) (hok : COk l D cA B G md d mI call) : ∀ e ∈ k_X7_asks md, EOk l RX7 cX7_asks 4 (some .int) false D cA B G md d call e := by
  unfold k_X7_asks
  refine al_cons (eok_pure (pr_aload_n dX7_asks_0 rfl)) ?_
  refine al_cons (ok_get cl_X7 gX7 (by decide) w_412 dX7_asks_1) ?_
  refine al_cons (eok_pure (pr_iload_n dX7_asks_4 rfl)) ?_
  refine al_cons (ok_callV hok mi_64 cl_X6 w_648 w_649 w_650 w_74 w_651 na_64 (by decide) dX7_asks_5) ?_
  refine al_cons (eok_pure (pr_if_eq dX7_asks_8 (by decide))) ?_
  refine al_cons (eok_pure (pr_iload_n dX7_asks_11 rfl)) ?_
  refine al_cons (eok_pure (pr_iconst dX7_asks_12 (by decide))) ?_
  refine al_cons (eok_pure (pr_icmp_lt dX7_asks_13 (by decide))) ?_
  refine al_cons (eok_pure (pr_iload_n dX7_asks_16 rfl)) ?_
  refine al_cons (eok_pure (pr_sipush dX7_asks_17 (by decide))) ?_
  refine al_cons (eok_pure (pr_icmp_le dX7_asks_20 (by decide))) ?_
  refine al_cons (eok_pure (pr_iconst dX7_asks_23 (by decide))) ?_
  refine al_cons (ok_retI rfl dX7_asks_24) ?_
  refine al_cons (eok_pure (pr_aload_n dX7_asks_25 rfl)) ?_
  refine al_cons (ok_get cl_X7 gX7 (by decide) w_414 dX7_asks_26) ?_
  refine al_cons (eok_pure (pr_aload_n dX7_asks_29 rfl)) ?_
  refine al_cons (ok_get cl_X7 gX7 (by decide) w_412 dX7_asks_30) ?_
  refine al_cons (ok_callV hok mi_60 cl_X5 w_793 w_794 w_795 w_75 w_796 na_60 (by decide) dX7_asks_33) ?_
  refine al_cons (eok_pure (pr_iconst dX7_asks_36 (by decide))) ?_
  refine al_cons (eok_pure (pr_icmp_lt dX7_asks_37 (by decide))) ?_
  refine al_cons (eok_pure (pr_bipush dX7_asks_40 (by decide))) ?_
  refine al_cons (ok_retI rfl dX7_asks_42) ?_
  refine al_cons (eok_pure (pr_aload_n dX7_asks_43 rfl)) ?_
  refine al_cons (ok_get cl_X7 gX7 (by decide) w_414 dX7_asks_44) ?_
  refine al_cons (ok_get cl_X5 gX5 (by decide) w_257 dX7_asks_47) ?_
  refine al_cons (eok_pure (pr_bipush dX7_asks_50 (by decide))) ?_
  refine al_cons (eok_pure (pr_icmp_lt dX7_asks_52 (by decide))) ?_
  refine al_cons (eok_pure (pr_bipush dX7_asks_55 (by decide))) ?_
  refine al_cons (ok_retI rfl dX7_asks_57) ?_
  refine al_cons (eok_pure (pr_aload_n dX7_asks_58 rfl)) ?_
  refine al_cons (ok_get cl_X7 gX7 (by decide) w_415 dX7_asks_59) ?_
  refine al_cons (eok_pure (pr_aload_n dX7_asks_62 rfl)) ?_
  refine al_cons (ok_get cl_X7 gX7 (by decide) w_414 dX7_asks_63) ?_
  refine al_cons (ok_callV hok mi_15 cl_X1 w_798 w_799 w_800 w_77 w_801 na_15 (by decide) dX7_asks_66) ?_
  refine al_cons (eok_pure (pr_aload_n dX7_asks_69 rfl)) ?_
  refine al_cons (ok_get cl_X7 gX7 (by decide) w_414 dX7_asks_70) ?_
  refine al_cons (ok_get cl_X5 gX5 (by decide) w_257 dX7_asks_73) ?_
  refine al_cons (eok_pure (pr_istore_n dX7_asks_76 rfl)) ?_
  refine al_cons (eok_pure (pr_aload_n dX7_asks_77 rfl)) ?_
  refine al_cons (ok_get cl_X7 gX7 (by decide) w_412 dX7_asks_78) ?_
  refine al_cons (ok_get cl_X6 gX6 (by decide) w_188 dX7_asks_81) ?_
  refine al_cons (eok_pure (pr_iload_n dX7_asks_84 rfl)) ?_
  refine al_cons (eok_pure (pr_iload_n dX7_asks_85 rfl)) ?_
  refine al_cons (ok_iast dX7_asks_86) ?_
  refine al_cons (eok_pure (pr_aload_n dX7_asks_87 rfl)) ?_
  refine al_cons (ok_get cl_X7 gX7 (by decide) w_412 dX7_asks_88) ?_
  refine al_cons (ok_get cl_X6 gX6 (by decide) w_194 dX7_asks_91) ?_
  refine al_cons (eok_pure (pr_iload_n dX7_asks_94 rfl)) ?_
  refine al_cons (eok_pure (pr_iload_n dX7_asks_95 rfl)) ?_
  refine al_cons (ok_iast dX7_asks_96) ?_
  refine al_cons (eok_pure (pr_aload_n dX7_asks_97 rfl)) ?_
  refine al_cons (ok_get cl_X7 gX7 (by decide) w_414 dX7_asks_98) ?_
  refine al_cons (ok_callV hok mi_55 cl_X5 w_809 w_405 w_406 w_75 w_407 na_55 (by decide) dX7_asks_101) ?_
  refine al_cons (eok_pure (pr_iload_n dX7_asks_104 rfl)) ?_
  refine al_cons (ok_retI rfl dX7_asks_105) ?_
  exact al_nil
def k_X7_cancel (md : Bool) : List Ent := [ePure 0 (fLoadA 0 1 0),
  ePure 1 (fLoadI 1 1 1),
  ePure 2 (fPush 2 1 (.int 0)),
  eCallV 3 2 92 7,
  ePure 6 (fIf1 6 23 b1_eq),
  ePure 9 (fLoadA 9 1 0),
  eGet 10 7 6,
  eGet 13 5 0,
  ePure 16 (fLoadI 16 1 1),
  eCallV 17 1 6 0,
  ePure 20 (fIf1 20 25 b1_le),
  ePure 23 (fPush 23 1 (.int 0)),
  eRetZ 24,
  ePure 25 (fLoadA 25 1 0),
  eGet 26 7 7,
  ePure 29 (fLoadA 29 1 0),
  eGet 30 7 6,
  eCallV 33 1 15 1,
  ePure 36 (fLoadA 36 1 0),
  eGet 37 7 6,
  eGet 40 5 2,
  ePure 43 (fLoadI 43 1 1),
  ePure 44 (fPush 44 1 (.int 3)),
  eIast 45 0 (fun x => x),
  ePure 46 (fPush 46 1 (.int 1)),
  eRetZ 47]
set_option maxRecDepth 100000 in
set_option maxHeartbeats 4000000 in
theorem ko_X7_cancel {l : Launch} {D : va_G} {cA : Nat → ClassId} {B : BB} {G : State → Prop} {md : Bool} {d : Nat} {call : Call} (hG : ∀ s, G s → Gs B s) (hok : COk l D cA B G md d mI call) : ∀ e ∈ k_X7_cancel md, EOk l RX7 cX7_cancel 2 (some .boolean) false D cA B G md d call e := by
  unfold k_X7_cancel
  refine al_cons (eok_pure (pr_aload_n dX7_cancel_0 rfl)) ?_
  refine al_cons (eok_pure (pr_iload_n dX7_cancel_1 rfl)) ?_
  refine al_cons (eok_pure (pr_iconst dX7_cancel_2 (by decide))) ?_
  refine al_cons (ok_callV hok mi_92 cl_X7 w_713 w_715 w_20 w_72 w_716 na_92 (by decide) dX7_cancel_3) ?_
  refine al_cons (eok_pure (pr_if_eq dX7_cancel_6 (by decide))) ?_
  refine al_cons (eok_pure (pr_aload_n dX7_cancel_9 rfl)) ?_
  refine al_cons (ok_get cl_X7 gX7 (by decide) w_414 dX7_cancel_10) ?_
  refine al_cons (ok_get cl_X5 gX5 (by decide) w_254 dX7_cancel_13) ?_
  refine al_cons (eok_pure (pr_iload_n dX7_cancel_16 rfl)) ?_
  refine al_cons (ok_callV hok mi_6 cl_X0 w_814 w_681 w_682 w_76 w_683 na_6 (by decide) dX7_cancel_17) ?_
  refine al_cons (eok_pure (pr_if_le dX7_cancel_20 (by decide))) ?_
  refine al_cons (eok_pure (pr_iconst dX7_cancel_23 (by decide))) ?_
  refine al_cons (ok_retZ rfl dX7_cancel_24) ?_
  refine al_cons (eok_pure (pr_aload_n dX7_cancel_25 rfl)) ?_
  refine al_cons (ok_get cl_X7 gX7 (by decide) w_415 dX7_cancel_26) ?_
  refine al_cons (eok_pure (pr_aload_n dX7_cancel_29 rfl)) ?_
  refine al_cons (ok_get cl_X7 gX7 (by decide) w_414 dX7_cancel_30) ?_
  refine al_cons (ok_callV hok mi_15 cl_X1 w_798 w_799 w_800 w_77 w_801 na_15 (by decide) dX7_cancel_33) ?_
  refine al_cons (eok_pure (pr_aload_n dX7_cancel_36 rfl)) ?_
  refine al_cons (ok_get cl_X7 gX7 (by decide) w_414 dX7_cancel_37) ?_
  refine al_cons (ok_get cl_X5 gX5 (by decide) w_259 dX7_cancel_40) ?_
  refine al_cons (eok_pure (pr_iload_n dX7_cancel_43 rfl)) ?_
  refine al_cons (eok_pure (pr_iconst dX7_cancel_44 (by decide))) ?_
  refine al_cons (ok_iast dX7_cancel_45) ?_
  refine al_cons (eok_pure (pr_iconst dX7_cancel_46 (by decide))) ?_
  refine al_cons (ok_retZ rfl dX7_cancel_47) ?_
  exact al_nil
def k_X7_put (md : Bool) : List Ent := [ePure 0 (fLoadA 0 1 0),
  eGet 1 7 4,
  ePure 4 (fLoadI 4 1 1),
  eCallV 5 1 63 6,
  ePure 8 (fIf1 8 20 b1_eq),
  ePure 11 (fLoadA 11 1 0),
  ePure 12 (fLoadI 12 1 2),
  ePure 13 (fPush 13 1 (.int 0)),
  eCallV 14 2 92 7,
  ePure 17 (fIf1 17 22 b1_ne),
  ePure 20 (fPush 20 1 (.int (-1))),
  eRetI 21,
  ePure 22 (fLoadA 22 1 0),
  eGet 23 7 6,
  eGet 26 5 0,
  eGet 29 0 0,
  ePure 32 (fLoadI 32 1 1),
  eIald 33 0,
  ePure 34 (fIf1 34 40 b1_le),
  ePure 37 (fPush 37 2 (.int (-2))),
  eRetI 39,
  ePure 40 (fLoadA 40 1 0),
  eGet 41 7 4,
  eGet 44 6 10,
  ePure 47 (fLoadI 47 1 2),
  eIald 48 0,
  ePure 49 (fStoI 49 1 3 6),
  ePure 50 (fLoadA 50 1 0),
  eGet 51 7 4,
  ePure 54 (fLoadA 54 1 0),
  eGet 55 7 6,
  eGet 58 5 0,
  eGet 61 0 2,
  ePure 64 (fLoadI 64 1 1),
  eIald 65 0,
  ePure 66 (fLoadI 66 1 3),
  eCallV 67 2 67 6,
  ePure 70 (fIf1 70 76 b1_eq),
  ePure 73 (fPush 73 2 (.int (-3))),
  eRetI 75,
  ePure 76 (fLoadA 76 1 0),
  eGet 77 7 4,
  ePure 80 (fLoadI 80 1 1),
  eCallV 81 1 65 6,
  ePure 84 (fStoI 84 2 4 6),
  ePure 86 (fLoadI 86 2 4),
  ePure 88 (fIf1 88 94 b1_ne),
  ePure 91 (fPush 91 2 (.int (-4))),
  eRetI 93,
  ePure 94 (fLoadA 94 1 0),
  eGet 95 7 7,
  ePure 98 (fLoadA 98 1 0),
  eGet 99 7 6,
  eCallV 102 1 15 1,
  ePure 105 (fLoadI 105 2 4),
  ePure 107 (fLoadA 107 1 0),
  eGet 108 7 4,
  eGet 111 6 11,
  ePure 114 (fLoadI 114 1 2),
  eIald 115 0,
  ePure 116 (fLoadA 116 1 0),
  eGet 117 7 6,
  eGet 120 5 0,
  ePure 123 (fLoadI 123 1 2),
  eCallV 124 1 6 0,
  ePure 127 (fBin 127 o_isub),
  eMin 128,
  ePure 131 (fStoI 131 2 5 6),
  ePure 133 (fLoadA 133 1 0),
  eGet 134 7 6,
  eGet 137 5 0,
  ePure 140 (fLoadA 140 1 0),
  eGet 141 7 4,
  ePure 144 (fLoadI 144 1 1),
  ePure 145 (fLoadI 145 1 2),
  ePure 146 (fLoadI 146 1 3),
  ePure 147 (fLoadI 147 2 5),
  eCallV 149 5 3 0,
  ePure 152 (fLoadI 152 2 5),
  eRetI 154]
set_option maxRecDepth 100000 in
set_option maxHeartbeats 4000000 in
theorem ko_X7_put {l : Launch} {D : va_G} {cA : Nat → ClassId} {B : BB} {G : State → Prop} {md : Bool} {d : Nat} {call : Call} (hG : ∀ s, G s → Gs B s) (hok : COk l D cA B G md d mI call) : ∀ e ∈ k_X7_put md, EOk l RX7 cX7_put 6 (some .int) false D cA B G md d call e := by
  unfold k_X7_put
  refine al_cons (eok_pure (pr_aload_n dX7_put_0 rfl)) ?_
  refine al_cons (ok_get cl_X7 gX7 (by decide) w_412 dX7_put_1) ?_
  refine al_cons (eok_pure (pr_iload_n dX7_put_4 rfl)) ?_
  refine al_cons (ok_callV hok mi_63 cl_X6 w_636 w_637 w_638 w_74 w_639 na_63 (by decide) dX7_put_5) ?_
  refine al_cons (eok_pure (pr_if_eq dX7_put_8 (by decide))) ?_
  refine al_cons (eok_pure (pr_aload_n dX7_put_11 rfl)) ?_
  refine al_cons (eok_pure (pr_iload_n dX7_put_12 rfl)) ?_
  refine al_cons (eok_pure (pr_iconst dX7_put_13 (by decide))) ?_
  refine al_cons (ok_callV hok mi_92 cl_X7 w_713 w_715 w_20 w_72 w_716 na_92 (by decide) dX7_put_14) ?_
  refine al_cons (eok_pure (pr_if_ne dX7_put_17 (by decide))) ?_
  refine al_cons (eok_pure (pr_iconst dX7_put_20 (by decide))) ?_
  refine al_cons (ok_retI rfl dX7_put_21) ?_
  refine al_cons (eok_pure (pr_aload_n dX7_put_22 rfl)) ?_
  refine al_cons (ok_get cl_X7 gX7 (by decide) w_414 dX7_put_23) ?_
  refine al_cons (ok_get cl_X5 gX5 (by decide) w_254 dX7_put_26) ?_
  refine al_cons (ok_get cl_X0 gX0 (by decide) w_235 dX7_put_29) ?_
  refine al_cons (eok_pure (pr_iload_n dX7_put_32 rfl)) ?_
  refine al_cons (ok_iald dX7_put_33) ?_
  refine al_cons (eok_pure (pr_if_le dX7_put_34 (by decide))) ?_
  refine al_cons (eok_pure (pr_bipush dX7_put_37 (by decide))) ?_
  refine al_cons (ok_retI rfl dX7_put_39) ?_
  refine al_cons (eok_pure (pr_aload_n dX7_put_40 rfl)) ?_
  refine al_cons (ok_get cl_X7 gX7 (by decide) w_412 dX7_put_41) ?_
  refine al_cons (ok_get cl_X6 gX6 (by decide) w_188 dX7_put_44) ?_
  refine al_cons (eok_pure (pr_iload_n dX7_put_47 rfl)) ?_
  refine al_cons (ok_iald dX7_put_48) ?_
  refine al_cons (eok_pure (pr_istore_n dX7_put_49 rfl)) ?_
  refine al_cons (eok_pure (pr_aload_n dX7_put_50 rfl)) ?_
  refine al_cons (ok_get cl_X7 gX7 (by decide) w_412 dX7_put_51) ?_
  refine al_cons (eok_pure (pr_aload_n dX7_put_54 rfl)) ?_
  refine al_cons (ok_get cl_X7 gX7 (by decide) w_414 dX7_put_55) ?_
  refine al_cons (ok_get cl_X5 gX5 (by decide) w_254 dX7_put_58) ?_
  refine al_cons (ok_get cl_X0 gX0 (by decide) w_241 dX7_put_61) ?_
  refine al_cons (eok_pure (pr_iload_n dX7_put_64 rfl)) ?_
  refine al_cons (ok_iald dX7_put_65) ?_
  refine al_cons (eok_pure (pr_iload_n dX7_put_66 rfl)) ?_
  refine al_cons (ok_callV hok mi_67 cl_X6 w_652 w_653 w_654 w_74 w_655 na_67 (by decide) dX7_put_67) ?_
  refine al_cons (eok_pure (pr_if_eq dX7_put_70 (by decide))) ?_
  refine al_cons (eok_pure (pr_bipush dX7_put_73 (by decide))) ?_
  refine al_cons (ok_retI rfl dX7_put_75) ?_
  refine al_cons (eok_pure (pr_aload_n dX7_put_76 rfl)) ?_
  refine al_cons (ok_get cl_X7 gX7 (by decide) w_412 dX7_put_77) ?_
  refine al_cons (eok_pure (pr_iload_n dX7_put_80 rfl)) ?_
  refine al_cons (ok_callV hok mi_65 cl_X6 w_640 w_641 w_642 w_74 w_643 na_65 (by decide) dX7_put_81) ?_
  refine al_cons (eok_pure (pr_istore dX7_put_84)) ?_
  refine al_cons (eok_pure (pr_iload dX7_put_86)) ?_
  refine al_cons (eok_pure (pr_if_ne dX7_put_88 (by decide))) ?_
  refine al_cons (eok_pure (pr_bipush dX7_put_91 (by decide))) ?_
  refine al_cons (ok_retI rfl dX7_put_93) ?_
  refine al_cons (eok_pure (pr_aload_n dX7_put_94 rfl)) ?_
  refine al_cons (ok_get cl_X7 gX7 (by decide) w_415 dX7_put_95) ?_
  refine al_cons (eok_pure (pr_aload_n dX7_put_98 rfl)) ?_
  refine al_cons (ok_get cl_X7 gX7 (by decide) w_414 dX7_put_99) ?_
  refine al_cons (ok_callV hok mi_15 cl_X1 w_798 w_799 w_800 w_77 w_801 na_15 (by decide) dX7_put_102) ?_
  refine al_cons (eok_pure (pr_iload dX7_put_105)) ?_
  refine al_cons (eok_pure (pr_aload_n dX7_put_107 rfl)) ?_
  refine al_cons (ok_get cl_X7 gX7 (by decide) w_412 dX7_put_108) ?_
  refine al_cons (ok_get cl_X6 gX6 (by decide) w_194 dX7_put_111) ?_
  refine al_cons (eok_pure (pr_iload_n dX7_put_114 rfl)) ?_
  refine al_cons (ok_iald dX7_put_115) ?_
  refine al_cons (eok_pure (pr_aload_n dX7_put_116 rfl)) ?_
  refine al_cons (ok_get cl_X7 gX7 (by decide) w_414 dX7_put_117) ?_
  refine al_cons (ok_get cl_X5 gX5 (by decide) w_254 dX7_put_120) ?_
  refine al_cons (eok_pure (pr_iload_n dX7_put_123 rfl)) ?_
  refine al_cons (ok_callV hok mi_6 cl_X0 w_814 w_681 w_682 w_76 w_683 na_6 (by decide) dX7_put_124) ?_
  refine al_cons (eok_pure (pr_isub dX7_put_127)) ?_
  refine al_cons (ok_min w_819 w_769 w_92 w_770 dX7_put_128) ?_
  refine al_cons (eok_pure (pr_istore dX7_put_131)) ?_
  refine al_cons (eok_pure (pr_aload_n dX7_put_133 rfl)) ?_
  refine al_cons (ok_get cl_X7 gX7 (by decide) w_414 dX7_put_134) ?_
  refine al_cons (ok_get cl_X5 gX5 (by decide) w_254 dX7_put_137) ?_
  refine al_cons (eok_pure (pr_aload_n dX7_put_140 rfl)) ?_
  refine al_cons (ok_get cl_X7 gX7 (by decide) w_412 dX7_put_141) ?_
  refine al_cons (eok_pure (pr_iload_n dX7_put_144 rfl)) ?_
  refine al_cons (eok_pure (pr_iload_n dX7_put_145 rfl)) ?_
  refine al_cons (eok_pure (pr_iload_n dX7_put_146 rfl)) ?_
  refine al_cons (eok_pure (pr_iload dX7_put_147)) ?_
  refine al_cons (ok_callV hok mi_3 cl_X0 w_664 w_665 w_666 w_76 w_667 na_3 (by decide) dX7_put_149) ?_
  refine al_cons (eok_pure (pr_iload dX7_put_152)) ?_
  refine al_cons (ok_retI rfl dX7_put_154) ?_
  exact al_nil
