theorem al_nil {α : Type} {P : α → Prop} : ∀ e ∈ ([] : List α), P e := fun _ h => by cases h
theorem al_cons {α : Type} {P : α → Prop} {a : α} {r : List α} (h : P a) (t : ∀ e ∈ r, P e) : ∀ e ∈ a :: r, P e := List.forall_mem_cons.mpr ⟨h, t⟩
def k_X0_init (md : Bool) : List Ent := [ePure 0 (fLoadA 0 1 0),
  eObj 1,
  ePure 4 (fLoadA 4 1 0),
  ePure 5 (fPush 5 1 (.int 5)),
  eNewI md 6 0,
  ePut 8 0 0 kRef,
  ePure 11 (fLoadA 11 1 0),
  ePure 12 (fPush 12 1 (.int 5)),
  eNewI md 13 0,
  ePut 15 0 1 kRef,
  ePure 18 (fLoadA 18 1 0),
  ePure 19 (fPush 19 1 (.int 5)),
  eNewI md 20 0,
  ePut 22 0 2 kRef,
  ePure 25 (fLoadA 25 1 0),
  ePure 26 (fPush 26 1 (.int 5)),
  eNewI md 27 0,
  ePut 29 0 3 kRef,
  eRetV 32]
set_option maxRecDepth 100000 in
set_option maxHeartbeats 4000000 in
theorem ko_X0_init {l : Launch} {D : va_G} {cA : Nat → ClassId} {B : BB} {G : State → Prop} {md : Bool} {d : Nat} {call : Call} (hG : ∀ s, G s → Gs B s) (hok : COk l D cA B G md d mI call) : ∀ e ∈ k_X0_init md, EOk l RX0 cX0_init 1 none true D cA B G md d call e := by
  unfold k_X0_init
  refine al_cons (eok_pure (pr_aload_n dX0_init_0 rfl)) ?_
  refine al_cons (ok_obj w_232 w_99 w_100 dX0_init_1) ?_
  refine al_cons (eok_pure (pr_aload_n dX0_init_4 rfl)) ?_
  refine al_cons (eok_pure (pr_iconst dX0_init_5 (by decide))) ?_
  refine al_cons (ok_newi w_145 dX0_init_6) ?_
  refine al_cons (ok_putF rfl cl_X0 gX0 tyX0_ok nmX0 (by decide) w_233 rfl rfl (by decide +kernel) (kok_arr B .int) dX0_init_8) ?_
  refine al_cons (eok_pure (pr_aload_n dX0_init_11 rfl)) ?_
  refine al_cons (eok_pure (pr_iconst dX0_init_12 (by decide))) ?_
  refine al_cons (ok_newi w_145 dX0_init_13) ?_
  refine al_cons (ok_putF rfl cl_X0 gX0 tyX0_ok nmX0 (by decide) w_236 rfl rfl (by decide +kernel) (kok_arr B .int) dX0_init_15) ?_
  refine al_cons (eok_pure (pr_aload_n dX0_init_18 rfl)) ?_
  refine al_cons (eok_pure (pr_iconst dX0_init_19 (by decide))) ?_
  refine al_cons (ok_newi w_145 dX0_init_20) ?_
  refine al_cons (ok_putF rfl cl_X0 gX0 tyX0_ok nmX0 (by decide) w_239 rfl rfl (by decide +kernel) (kok_arr B .int) dX0_init_22) ?_
  refine al_cons (eok_pure (pr_aload_n dX0_init_25 rfl)) ?_
  refine al_cons (eok_pure (pr_iconst dX0_init_26 (by decide))) ?_
  refine al_cons (ok_newi w_145 dX0_init_27) ?_
  refine al_cons (ok_putF rfl cl_X0 gX0 tyX0_ok nmX0 (by decide) w_242 rfl rfl (by decide +kernel) (kok_arr B .int) dX0_init_29) ?_
  refine al_cons (ok_retV rfl dX0_init_32) ?_
  exact al_nil
def k_X0_copyFrom (md : Bool) : List Ent := [ePure 0 (fLoadA 0 1 1),
  eGet 1 0 0,
  ePure 4 (fPush 4 1 (.int 0)),
  ePure 5 (fLoadA 5 1 0),
  eGet 6 0 0,
  ePure 9 (fPush 9 1 (.int 0)),
  ePure 10 (fPush 10 1 (.int 5)),
  eCopy 11,
  ePure 14 (fLoadA 14 1 1),
  eGet 15 0 3,
  ePure 18 (fPush 18 1 (.int 0)),
  ePure 19 (fLoadA 19 1 0),
  eGet 20 0 3,
  ePure 23 (fPush 23 1 (.int 0)),
  ePure 24 (fPush 24 1 (.int 5)),
  eCopy 25,
  ePure 28 (fLoadA 28 1 1),
  eGet 29 0 1,
  ePure 32 (fPush 32 1 (.int 0)),
  ePure 33 (fLoadA 33 1 0),
  eGet 34 0 1,
  ePure 37 (fPush 37 1 (.int 0)),
  ePure 38 (fPush 38 1 (.int 5)),
  eCopy 39,
  ePure 42 (fLoadA 42 1 1),
  eGet 43 0 2,
  ePure 46 (fPush 46 1 (.int 0)),
  ePure 47 (fLoadA 47 1 0),
  eGet 48 0 2,
  ePure 51 (fPush 51 1 (.int 0)),
  ePure 52 (fPush 52 1 (.int 5)),
  eCopy 53,
  eRetV 56]
set_option maxRecDepth 100000 in
set_option maxHeartbeats 4000000 in
theorem ko_X0_copyFrom {l : Launch} {D : va_G} {cA : Nat → ClassId} {B : BB} {G : State → Prop} {md : Bool} {d : Nat} {call : Call} (hG : ∀ s, G s → Gs B s) (hok : COk l D cA B G md d mI call) : ∀ e ∈ k_X0_copyFrom md, EOk l RX0 cX0_copyFrom 2 none false D cA B G md d call e := by
  unfold k_X0_copyFrom
  refine al_cons (eok_pure (pr_aload_n dX0_copyFrom_0 rfl)) ?_
  refine al_cons (ok_get cl_X0 gX0 (by decide) w_233 dX0_copyFrom_1) ?_
  refine al_cons (eok_pure (pr_iconst dX0_copyFrom_4 (by decide))) ?_
  refine al_cons (eok_pure (pr_aload_n dX0_copyFrom_5 rfl)) ?_
  refine al_cons (ok_get cl_X0 gX0 (by decide) w_233 dX0_copyFrom_6) ?_
  refine al_cons (eok_pure (pr_iconst dX0_copyFrom_9 (by decide))) ?_
  refine al_cons (eok_pure (pr_iconst dX0_copyFrom_10 (by decide))) ?_
  refine al_cons (ok_copy w_401 w_403 w_402 w_81 dX0_copyFrom_11) ?_
  refine al_cons (eok_pure (pr_aload_n dX0_copyFrom_14 rfl)) ?_
  refine al_cons (ok_get cl_X0 gX0 (by decide) w_242 dX0_copyFrom_15) ?_
  refine al_cons (eok_pure (pr_iconst dX0_copyFrom_18 (by decide))) ?_
  refine al_cons (eok_pure (pr_aload_n dX0_copyFrom_19 rfl)) ?_
  refine al_cons (ok_get cl_X0 gX0 (by decide) w_242 dX0_copyFrom_20) ?_
  refine al_cons (eok_pure (pr_iconst dX0_copyFrom_23 (by decide))) ?_
  refine al_cons (eok_pure (pr_iconst dX0_copyFrom_24 (by decide))) ?_
  refine al_cons (ok_copy w_401 w_403 w_402 w_81 dX0_copyFrom_25) ?_
  refine al_cons (eok_pure (pr_aload_n dX0_copyFrom_28 rfl)) ?_
  refine al_cons (ok_get cl_X0 gX0 (by decide) w_236 dX0_copyFrom_29) ?_
  refine al_cons (eok_pure (pr_iconst dX0_copyFrom_32 (by decide))) ?_
  refine al_cons (eok_pure (pr_aload_n dX0_copyFrom_33 rfl)) ?_
  refine al_cons (ok_get cl_X0 gX0 (by decide) w_236 dX0_copyFrom_34) ?_
  refine al_cons (eok_pure (pr_iconst dX0_copyFrom_37 (by decide))) ?_
  refine al_cons (eok_pure (pr_iconst dX0_copyFrom_38 (by decide))) ?_
  refine al_cons (ok_copy w_401 w_403 w_402 w_81 dX0_copyFrom_39) ?_
  refine al_cons (eok_pure (pr_aload_n dX0_copyFrom_42 rfl)) ?_
  refine al_cons (ok_get cl_X0 gX0 (by decide) w_239 dX0_copyFrom_43) ?_
  refine al_cons (eok_pure (pr_iconst dX0_copyFrom_46 (by decide))) ?_
  refine al_cons (eok_pure (pr_aload_n dX0_copyFrom_47 rfl)) ?_
  refine al_cons (ok_get cl_X0 gX0 (by decide) w_239 dX0_copyFrom_48) ?_
  refine al_cons (eok_pure (pr_iconst dX0_copyFrom_51 (by decide))) ?_
  refine al_cons (eok_pure (pr_iconst dX0_copyFrom_52 (by decide))) ?_
  refine al_cons (ok_copy w_401 w_403 w_402 w_81 dX0_copyFrom_53) ?_
  refine al_cons (ok_retV rfl dX0_copyFrom_56) ?_
  exact al_nil
def k_X0_begin (md : Bool) : List Ent := [ePure 0 (fLoadA 0 1 0),
  eGet 1 0 0,
  ePure 4 (fPush 4 1 (.int 0)),
  eCallS 5 2 165,
  ePure 8 (fLoadA 8 1 0),
  eGet 9 0 3,
  ePure 12 (fPush 12 1 (.int 0)),
  eCallS 13 2 165,
  ePure 16 (fLoadA 16 1 0),
  eGet 17 0 1,
  ePure 20 (fPush 20 1 (.int (-1))),
  eCallS 21 2 165,
  ePure 24 (fLoadA 24 1 1),
  eGet 25 6 5,
  ePure 28 (fPush 28 1 (.int 0)),
  ePure 29 (fLoadA 29 1 0),
  eGet 30 0 2,
  ePure 33 (fPush 33 1 (.int 0)),
  ePure 34 (fPush 34 1 (.int 5)),
  eCopy 35,
  eRetV 38]
set_option maxRecDepth 100000 in
set_option maxHeartbeats 4000000 in
theorem ko_X0_begin {l : Launch} {D : va_G} {cA : Nat → ClassId} {B : BB} {G : State → Prop} {md : Bool} {d : Nat} {call : Call} (hG : ∀ s, G s → Gs B s) (hok : COk l D cA B G md d mI call) : ∀ e ∈ k_X0_begin md, EOk l RX0 cX0_begin 2 none false D cA B G md d call e := by
  unfold k_X0_begin
  refine al_cons (eok_pure (pr_aload_n dX0_begin_0 rfl)) ?_
  refine al_cons (ok_get cl_X0 gX0 (by decide) w_233 dX0_begin_1) ?_
  refine al_cons (eok_pure (pr_iconst dX0_begin_4 (by decide))) ?_
  refine al_cons (ok_callS hok mi_165 w_400 w_390 w_80 w_391 na_165 (by decide) dX0_begin_5) ?_
  refine al_cons (eok_pure (pr_aload_n dX0_begin_8 rfl)) ?_
  refine al_cons (ok_get cl_X0 gX0 (by decide) w_242 dX0_begin_9) ?_
  refine al_cons (eok_pure (pr_iconst dX0_begin_12 (by decide))) ?_
  refine al_cons (ok_callS hok mi_165 w_400 w_390 w_80 w_391 na_165 (by decide) dX0_begin_13) ?_
  refine al_cons (eok_pure (pr_aload_n dX0_begin_16 rfl)) ?_
  refine al_cons (ok_get cl_X0 gX0 (by decide) w_236 dX0_begin_17) ?_
  refine al_cons (eok_pure (pr_iconst dX0_begin_20 (by decide))) ?_
  refine al_cons (ok_callS hok mi_165 w_400 w_390 w_80 w_391 na_165 (by decide) dX0_begin_21) ?_
  refine al_cons (eok_pure (pr_aload_n dX0_begin_24 rfl)) ?_
  refine al_cons (ok_get cl_X6 gX6 (by decide) w_173 dX0_begin_25) ?_
  refine al_cons (eok_pure (pr_iconst dX0_begin_28 (by decide))) ?_
  refine al_cons (eok_pure (pr_aload_n dX0_begin_29 rfl)) ?_
  refine al_cons (ok_get cl_X0 gX0 (by decide) w_239 dX0_begin_30) ?_
  refine al_cons (eok_pure (pr_iconst dX0_begin_33 (by decide))) ?_
  refine al_cons (eok_pure (pr_iconst dX0_begin_34 (by decide))) ?_
  refine al_cons (ok_copy w_401 w_403 w_402 w_81 dX0_begin_35) ?_
  refine al_cons (ok_retV rfl dX0_begin_38) ?_
  exact al_nil
def k_X0_lay (md : Bool) : List Ent := [ePure 0 (fLoadA 0 1 0),
  eGet 1 0 0,
  ePure 4 (fLoadI 4 1 2),
  ePure 5 (fLoadI 5 2 5),
  eIast 7 0 (fun x => x),
  ePure 8 (fLoadA 8 1 0),
  eGet 9 0 3,
  ePure 12 (fLoadI 12 1 2),
  ePure 13 (fLoadI 13 2 5),
  ePure 15 (fLoadA 15 1 1),
  eGet 16 6 7,
  ePure 19 (fLoadI 19 2 4),
  eIald 21 0,
  ePure 22 (fBin 22 o_imul),
  eIast 23 0 (fun x => x),
  ePure 24 (fLoadA 24 1 0),
  eGet 25 0 1,
  ePure 28 (fLoadI 28 1 2),
  ePure 29 (fLoadI 29 1 3),
  eIast 30 0 (fun x => x),
  ePure 31 (fLoadA 31 1 0),
  eGet 32 0 2,
  ePure 35 (fLoadI 35 1 2),
  ePure 36 (fLoadI 36 2 4),
  eIast 38 0 (fun x => x),
  eRetV 39]
set_option maxRecDepth 100000 in
set_option maxHeartbeats 4000000 in
theorem ko_X0_lay {l : Launch} {D : va_G} {cA : Nat → ClassId} {B : BB} {G : State → Prop} {md : Bool} {d : Nat} {call : Call} (hG : ∀ s, G s → Gs B s) (hok : COk l D cA B G md d mI call) : ∀ e ∈ k_X0_lay md, EOk l RX0 cX0_lay 6 none false D cA B G md d call e := by
  unfold k_X0_lay
  refine al_cons (eok_pure (pr_aload_n dX0_lay_0 rfl)) ?_
  refine al_cons (ok_get cl_X0 gX0 (by decide) w_233 dX0_lay_1) ?_
  refine al_cons (eok_pure (pr_iload_n dX0_lay_4 rfl)) ?_
  refine al_cons (eok_pure (pr_iload dX0_lay_5)) ?_
  refine al_cons (ok_iast dX0_lay_7) ?_
  refine al_cons (eok_pure (pr_aload_n dX0_lay_8 rfl)) ?_
  refine al_cons (ok_get cl_X0 gX0 (by decide) w_242 dX0_lay_9) ?_
  refine al_cons (eok_pure (pr_iload_n dX0_lay_12 rfl)) ?_
  refine al_cons (eok_pure (pr_iload dX0_lay_13)) ?_
  refine al_cons (eok_pure (pr_aload_n dX0_lay_15 rfl)) ?_
  refine al_cons (ok_get cl_X6 gX6 (by decide) w_179 dX0_lay_16) ?_
  refine al_cons (eok_pure (pr_iload dX0_lay_19)) ?_
  refine al_cons (ok_iald dX0_lay_21) ?_
  refine al_cons (eok_pure (pr_imul dX0_lay_22)) ?_
  refine al_cons (ok_iast dX0_lay_23) ?_
  refine al_cons (eok_pure (pr_aload_n dX0_lay_24 rfl)) ?_
  refine al_cons (ok_get cl_X0 gX0 (by decide) w_236 dX0_lay_25) ?_
  refine al_cons (eok_pure (pr_iload_n dX0_lay_28 rfl)) ?_
  refine al_cons (eok_pure (pr_iload_n dX0_lay_29 rfl)) ?_
  refine al_cons (ok_iast dX0_lay_30) ?_
  refine al_cons (eok_pure (pr_aload_n dX0_lay_31 rfl)) ?_
  refine al_cons (ok_get cl_X0 gX0 (by decide) w_239 dX0_lay_32) ?_
  refine al_cons (eok_pure (pr_iload_n dX0_lay_35 rfl)) ?_
  refine al_cons (eok_pure (pr_iload dX0_lay_36)) ?_
  refine al_cons (ok_iast dX0_lay_38) ?_
  refine al_cons (ok_retV rfl dX0_lay_39) ?_
  exact al_nil
def k_X0_takeOut (md : Bool) : List Ent := [ePure 0 (fLoadA 0 1 0),
  eGet 1 0 0,
  ePure 4 (fLoadI 4 1 1),
  ePure 5 (fPush 5 1 (.int 0)),
  eIast 6 0 (fun x => x),
  ePure 7 (fLoadA 7 1 0),
  eGet 8 0 3,
  ePure 11 (fLoadI 11 1 1),
  ePure 12 (fPush 12 1 (.int 0)),
  eIast 13 0 (fun x => x),
  ePure 14 (fLoadA 14 1 0),
  eGet 15 0 1,
  ePure 18 (fLoadI 18 1 1),
  ePure 19 (fPush 19 1 (.int (-1))),
  eIast 20 0 (fun x => x),
  eRetV 21]
set_option maxRecDepth 100000 in
set_option maxHeartbeats 4000000 in
theorem ko_X0_takeOut {l : Launch} {D : va_G} {cA : Nat → ClassId} {B : BB} {G : State → Prop} {md : Bool} {d : Nat} {call : Call} (hG : ∀ s, G s → Gs B s) (hok : COk l D cA B G md d mI call) : ∀ e ∈ k_X0_takeOut md, EOk l RX0 cX0_takeOut 2 none false D cA B G md d call e := by
  unfold k_X0_takeOut
  refine al_cons (eok_pure (pr_aload_n dX0_takeOut_0 rfl)) ?_
  refine al_cons (ok_get cl_X0 gX0 (by decide) w_233 dX0_takeOut_1) ?_
  refine al_cons (eok_pure (pr_iload_n dX0_takeOut_4 rfl)) ?_
  refine al_cons (eok_pure (pr_iconst dX0_takeOut_5 (by decide))) ?_
  refine al_cons (ok_iast dX0_takeOut_6) ?_
  refine al_cons (eok_pure (pr_aload_n dX0_takeOut_7 rfl)) ?_
  refine al_cons (ok_get cl_X0 gX0 (by decide) w_242 dX0_takeOut_8) ?_
  refine al_cons (eok_pure (pr_iload_n dX0_takeOut_11 rfl)) ?_
  refine al_cons (eok_pure (pr_iconst dX0_takeOut_12 (by decide))) ?_
  refine al_cons (ok_iast dX0_takeOut_13) ?_
  refine al_cons (eok_pure (pr_aload_n dX0_takeOut_14 rfl)) ?_
  refine al_cons (ok_get cl_X0 gX0 (by decide) w_236 dX0_takeOut_15) ?_
  refine al_cons (eok_pure (pr_iload_n dX0_takeOut_18 rfl)) ?_
  refine al_cons (eok_pure (pr_iconst dX0_takeOut_19 (by decide))) ?_
  refine al_cons (ok_iast dX0_takeOut_20) ?_
  refine al_cons (ok_retV rfl dX0_takeOut_21) ?_
  exact al_nil
def k_X0_takeOutAll (md : Bool) : List Ent := [ePure 0 (fPush 0 1 (.int 0)),
  ePure 1 (fStoI 1 1 2 3),
  ePure 2 (fLoadI 2 1 2),
  ePure 3 (fPush 3 1 (.int 5)),
  ePure 4 (fIf2 4 26 b2_ge),
  ePure 7 (fLoadI 7 1 1),
  ePure 8 (fLoadI 8 1 2),
  eCallS 9 2 12,
  ePure 12 (fIf1 12 20 b1_eq),
  ePure 15 (fLoadA 15 1 0),
  ePure 16 (fLoadI 16 1 2),
  eCallV 17 1 4 0,
  ePure 20 (fInc 20 2 3 1),
  ePure 23 (fGoto 2),
  eRetV 26]
set_option maxRecDepth 100000 in
set_option maxHeartbeats 4000000 in
theorem ko_X0_takeOutAll {l : Launch} {D : va_G} {cA : Nat → ClassId} {B : BB} {G : State → Prop} {md : Bool} {d : Nat} {call : Call} (hG : ∀ s, G s → Gs B s) (hok : COk l D cA B G md d mI call) : ∀ e ∈ k_X0_takeOutAll md, EOk l RX0 cX0_takeOutAll 3 none false D cA B G md d call e := by
  unfold k_X0_takeOutAll
  refine al_cons (eok_pure (pr_iconst dX0_takeOutAll_0 (by decide))) ?_
  refine al_cons (eok_pure (pr_istore_n dX0_takeOutAll_1 rfl)) ?_
  refine al_cons (eok_pure (pr_iload_n dX0_takeOutAll_2 rfl)) ?_
  refine al_cons (eok_pure (pr_iconst dX0_takeOutAll_3 (by decide))) ?_
  refine al_cons (eok_pure (pr_icmp_ge dX0_takeOutAll_4 (by decide))) ?_
  refine al_cons (eok_pure (pr_iload_n dX0_takeOutAll_7 rfl)) ?_
  refine al_cons (eok_pure (pr_iload_n dX0_takeOutAll_8 rfl)) ?_
  refine al_cons (ok_callS hok mi_12 w_614 w_615 w_76 w_616 na_12 (by decide) dX0_takeOutAll_9) ?_
  refine al_cons (eok_pure (pr_if_eq dX0_takeOutAll_12 (by decide))) ?_
  refine al_cons (eok_pure (pr_aload_n dX0_takeOutAll_15 rfl)) ?_
  refine al_cons (eok_pure (pr_iload_n dX0_takeOutAll_16 rfl)) ?_
  refine al_cons (ok_callV hok mi_4 cl_X0 w_832 w_778 w_779 w_76 w_780 na_4 (by decide) dX0_takeOutAll_17) ?_
  refine al_cons (eok_pure (pr_iinc dX0_takeOutAll_20 (by decide))) ?_
  refine al_cons (eok_pure (pr_goto dX0_takeOutAll_23 (by decide))) ?_
  refine al_cons (ok_retV rfl dX0_takeOutAll_26) ?_
  exact al_nil
def k_X0_loaded (md : Bool) : List Ent := [ePure 0 (fPush 0 1 (.int 0)),
  ePure 1 (fStoI 1 1 2 4),
  ePure 2 (fPush 2 1 (.int 0)),
  ePure 3 (fStoI 3 1 3 4),
  ePure 4 (fLoadI 4 1 3),
  ePure 5 (fPush 5 1 (.int 5)),
  ePure 6 (fIf2 6 34 b2_ge),
  ePure 9 (fLoadA 9 1 0),
  eGet 10 0 1,
  ePure 13 (fLoadI 13 1 3),
  eIald 14 0,
  ePure 15 (fLoadI 15 1 1),
  ePure 16 (fIf2 16 28 b2_ne),
  ePure 19 (fLoadI 19 1 2),
  ePure 20 (fLoadA 20 1 0),
  eGet 21 0 0,
  ePure 24 (fLoadI 24 1 3),
  eIald 25 0,
  ePure 26 (fBin 26 o_iadd),
  ePure 27 (fStoI 27 1 2 4),
  ePure 28 (fInc 28 3 4 1),
  ePure 31 (fGoto 4),
  ePure 34 (fLoadI 34 1 2),
  eRetI 35]
set_option maxRecDepth 100000 in
set_option maxHeartbeats 4000000 in
theorem ko_X0_loaded {l : Launch} {D : va_G} {cA : Nat → ClassId} {B : BB} {G : State → Prop} {md : Bool} {d : Nat} {call : Call} (hG : ∀ s, G s → Gs B s) (hok : COk l D cA B G md d mI call) : ∀ e ∈ k_X0_loaded md, EOk l RX0 cX0_loaded 4 (some .int) false D cA B G md d call e := by
  unfold k_X0_loaded
  refine al_cons (eok_pure (pr_iconst dX0_loaded_0 (by decide))) ?_
  refine al_cons (eok_pure (pr_istore_n dX0_loaded_1 rfl)) ?_
  refine al_cons (eok_pure (pr_iconst dX0_loaded_2 (by decide))) ?_
  refine al_cons (eok_pure (pr_istore_n dX0_loaded_3 rfl)) ?_
  refine al_cons (eok_pure (pr_iload_n dX0_loaded_4 rfl)) ?_
  refine al_cons (eok_pure (pr_iconst dX0_loaded_5 (by decide))) ?_
  refine al_cons (eok_pure (pr_icmp_ge dX0_loaded_6 (by decide))) ?_
  refine al_cons (eok_pure (pr_aload_n dX0_loaded_9 rfl)) ?_
  refine al_cons (ok_get cl_X0 gX0 (by decide) w_236 dX0_loaded_10) ?_
  refine al_cons (eok_pure (pr_iload_n dX0_loaded_13 rfl)) ?_
  refine al_cons (ok_iald dX0_loaded_14) ?_
  refine al_cons (eok_pure (pr_iload_n dX0_loaded_15 rfl)) ?_
  refine al_cons (eok_pure (pr_icmp_ne dX0_loaded_16 (by decide))) ?_
  refine al_cons (eok_pure (pr_iload_n dX0_loaded_19 rfl)) ?_
  refine al_cons (eok_pure (pr_aload_n dX0_loaded_20 rfl)) ?_
  refine al_cons (ok_get cl_X0 gX0 (by decide) w_233 dX0_loaded_21) ?_
  refine al_cons (eok_pure (pr_iload_n dX0_loaded_24 rfl)) ?_
  refine al_cons (ok_iald dX0_loaded_25) ?_
  refine al_cons (eok_pure (pr_iadd dX0_loaded_26)) ?_
  refine al_cons (eok_pure (pr_istore_n dX0_loaded_27 rfl)) ?_
  refine al_cons (eok_pure (pr_iinc dX0_loaded_28 (by decide))) ?_
  refine al_cons (eok_pure (pr_goto dX0_loaded_31 (by decide))) ?_
  refine al_cons (eok_pure (pr_iload_n dX0_loaded_34 rfl)) ?_
  refine al_cons (ok_retI rfl dX0_loaded_35) ?_
  exact al_nil
def k_X0_partsOf (md : Bool) : List Ent := [ePure 0 (fPush 0 1 (.int 0)),
  ePure 1 (fStoI 1 1 2 4),
  ePure 2 (fPush 2 1 (.int 0)),
  ePure 3 (fStoI 3 1 3 4),
  ePure 4 (fLoadI 4 1 3),
  ePure 5 (fPush 5 1 (.int 5)),
  ePure 6 (fIf2 6 31 b2_ge),
  ePure 9 (fLoadA 9 1 0),
  eGet 10 0 1,
  ePure 13 (fLoadI 13 1 3),
  eIald 14 0,
  ePure 15 (fLoadI 15 1 1),
  ePure 16 (fIf2 16 25 b2_ne),
  ePure 19 (fLoadI 19 1 2),
  ePure 20 (fPush 20 1 (.int 1)),
  ePure 21 (fLoadI 21 1 3),
  ePure 22 (fBin 22 o_ishl),
  ePure 23 (fBin 23 o_ior),
  ePure 24 (fStoI 24 1 2 4),
  ePure 25 (fInc 25 3 4 1),
  ePure 28 (fGoto 4),
  ePure 31 (fLoadI 31 1 2),
  eRetI 32]
set_option maxRecDepth 100000 in
set_option maxHeartbeats 4000000 in
theorem ko_X0_partsOf {l : Launch} {D : va_G} {cA : Nat → ClassId} {B : BB} {G : State → Prop} {md : Bool} {d : Nat} {call : Call} (hG : ∀ s, G s → Gs B s) (hok : COk l D cA B G md d mI call) : ∀ e ∈ k_X0_partsOf md, EOk l RX0 cX0_partsOf 4 (some .int) false D cA B G md d call e := by
  unfold k_X0_partsOf
  refine al_cons (eok_pure (pr_iconst dX0_partsOf_0 (by decide))) ?_
  refine al_cons (eok_pure (pr_istore_n dX0_partsOf_1 rfl)) ?_
  refine al_cons (eok_pure (pr_iconst dX0_partsOf_2 (by decide))) ?_
  refine al_cons (eok_pure (pr_istore_n dX0_partsOf_3 rfl)) ?_
  refine al_cons (eok_pure (pr_iload_n dX0_partsOf_4 rfl)) ?_
  refine al_cons (eok_pure (pr_iconst dX0_partsOf_5 (by decide))) ?_
  refine al_cons (eok_pure (pr_icmp_ge dX0_partsOf_6 (by decide))) ?_
  refine al_cons (eok_pure (pr_aload_n dX0_partsOf_9 rfl)) ?_
  refine al_cons (ok_get cl_X0 gX0 (by decide) w_236 dX0_partsOf_10) ?_
  refine al_cons (eok_pure (pr_iload_n dX0_partsOf_13 rfl)) ?_
  refine al_cons (ok_iald dX0_partsOf_14) ?_
  refine al_cons (eok_pure (pr_iload_n dX0_partsOf_15 rfl)) ?_
  refine al_cons (eok_pure (pr_icmp_ne dX0_partsOf_16 (by decide))) ?_
  refine al_cons (eok_pure (pr_iload_n dX0_partsOf_19 rfl)) ?_
  refine al_cons (eok_pure (pr_iconst dX0_partsOf_20 (by decide))) ?_
  refine al_cons (eok_pure (pr_iload_n dX0_partsOf_21 rfl)) ?_
  refine al_cons (eok_pure (pr_ishl dX0_partsOf_22)) ?_
  refine al_cons (eok_pure (pr_ior dX0_partsOf_23)) ?_
  refine al_cons (eok_pure (pr_istore_n dX0_partsOf_24 rfl)) ?_
  refine al_cons (eok_pure (pr_iinc dX0_partsOf_25 (by decide))) ?_
  refine al_cons (eok_pure (pr_goto dX0_partsOf_28 (by decide))) ?_
  refine al_cons (eok_pure (pr_iload_n dX0_partsOf_31 rfl)) ?_
  refine al_cons (ok_retI rfl dX0_partsOf_32) ?_
  exact al_nil
def k_X0_standing (md : Bool) : List Ent := [ePure 0 (fLoadA 0 1 0),
  ePure 1 (fLoadA 1 1 1),
  ePure 2 (fLoadI 2 1 2),
  eCallV 3 2 11 0,
  ePure 6 (fIf1 6 11 b1_eq),
  ePure 9 (fPush 9 1 (.int 1)),
  eRetI 10,
  ePure 11 (fLoadA 11 1 1),
  eGet 12 6 0,
  ePure 15 (fPush 15 1 (.int 0)),
  eIald 16 0,
  ePure 17 (fStoI 17 1 3 5),
  ePure 18 (fLoadA 18 1 0),
  ePure 19 (fLoadA 19 1 1),
  ePure 20 (fLoadI 20 1 2),
  eCallV 21 2 9 0,
  ePure 24 (fStoI 24 2 4 5),
  ePure 26 (fLoadI 26 2 4),
  ePure 28 (fLoadA 28 1 1),
  eGet 29 6 0,
  ePure 32 (fPush 32 1 (.int 4)),
  eIald 33 0,
  ePure 34 (fLoadI 34 1 3),
  ePure 35 (fBin 35 o_imul),
  ePure 36 (fIf2 36 41 b2_le),
  ePure 39 (fPush 39 1 (.int 2)),
  eRetI 40,
  ePure 41 (fLoadI 41 2 4),
  ePure 43 (fLoadA 43 1 1),
  eGet 44 6 0,
  ePure 47 (fPush 47 1 (.int 3)),
  eIald 48 0,
  ePure 49 (fLoadI 49 1 3),
  ePure 50 (fBin 50 o_imul),
  ePure 51 (fIf2 51 56 b2_ge),
  ePure 54 (fPush 54 1 (.int 3)),
  eRetI 55,
  ePure 56 (fLoadA 56 1 0),
  ePure 57 (fLoadA 57 1 1),
  ePure 58 (fLoadI 58 1 2),
  eCallV 59 2 10 0,
  ePure 62 (fLoadA 62 1 1),
  eGet 63 6 0,
  ePure 66 (fPush 66 1 (.int 5)),
  eIald 67 0,
  ePure 68 (fLoadI 68 1 3),
  ePure 69 (fBin 69 o_imul),
  ePure 70 (fIf2 70 77 b2_le),
  ePure 73 (fPush 73 1 (.int 4)),
  ePure 74 (fGoto 78),
  ePure 77 (fPush 77 1 (.int 0)),
  eRetI 78]
set_option maxRecDepth 100000 in
set_option maxHeartbeats 4000000 in
theorem ko_X0_standing {l : Launch} {D : va_G} {cA : Nat → ClassId} {B : BB} {G : State → Prop} {md : Bool} {d : Nat} {call : Call} (hG : ∀ s, G s → Gs B s) (hok : COk l D cA B G md d mI call) : ∀ e ∈ k_X0_standing md, EOk l RX0 cX0_standing 5 (some .int) false D cA B G md d call e := by
  unfold k_X0_standing
  refine al_cons (eok_pure (pr_aload_n dX0_standing_0 rfl)) ?_
  refine al_cons (eok_pure (pr_aload_n dX0_standing_1 rfl)) ?_
  refine al_cons (eok_pure (pr_iload_n dX0_standing_2 rfl)) ?_
  refine al_cons (ok_callV hok mi_11 cl_X0 w_625 w_627 w_15 w_76 w_628 na_11 (by decide) dX0_standing_3) ?_
  refine al_cons (eok_pure (pr_if_eq dX0_standing_6 (by decide))) ?_
  refine al_cons (eok_pure (pr_iconst dX0_standing_9 (by decide))) ?_
  refine al_cons (ok_retI rfl dX0_standing_10) ?_
  refine al_cons (eok_pure (pr_aload_n dX0_standing_11 rfl)) ?_
  refine al_cons (ok_get cl_X6 gX6 (by decide) w_154 dX0_standing_12) ?_
  refine al_cons (eok_pure (pr_iconst dX0_standing_15 (by decide))) ?_
  refine al_cons (ok_iald dX0_standing_16) ?_
  refine al_cons (eok_pure (pr_istore_n dX0_standing_17 rfl)) ?_
  refine al_cons (eok_pure (pr_aload_n dX0_standing_18 rfl)) ?_
  refine al_cons (eok_pure (pr_aload_n dX0_standing_19 rfl)) ?_
  refine al_cons (eok_pure (pr_iload_n dX0_standing_20 rfl)) ?_
  refine al_cons (ok_callV hok mi_9 cl_X0 w_629 w_611 w_612 w_76 w_613 na_9 (by decide) dX0_standing_21) ?_
  refine al_cons (eok_pure (pr_istore dX0_standing_24)) ?_
  refine al_cons (eok_pure (pr_iload dX0_standing_26)) ?_
  refine al_cons (eok_pure (pr_aload_n dX0_standing_28 rfl)) ?_
  refine al_cons (ok_get cl_X6 gX6 (by decide) w_154 dX0_standing_29) ?_
  refine al_cons (eok_pure (pr_iconst dX0_standing_32 (by decide))) ?_
  refine al_cons (ok_iald dX0_standing_33) ?_
  refine al_cons (eok_pure (pr_iload_n dX0_standing_34 rfl)) ?_
  refine al_cons (eok_pure (pr_imul dX0_standing_35)) ?_
  refine al_cons (eok_pure (pr_icmp_le dX0_standing_36 (by decide))) ?_
  refine al_cons (eok_pure (pr_iconst dX0_standing_39 (by decide))) ?_
  refine al_cons (ok_retI rfl dX0_standing_40) ?_
  refine al_cons (eok_pure (pr_iload dX0_standing_41)) ?_
  refine al_cons (eok_pure (pr_aload_n dX0_standing_43 rfl)) ?_
  refine al_cons (ok_get cl_X6 gX6 (by decide) w_154 dX0_standing_44) ?_
  refine al_cons (eok_pure (pr_iconst dX0_standing_47 (by decide))) ?_
  refine al_cons (ok_iald dX0_standing_48) ?_
  refine al_cons (eok_pure (pr_iload_n dX0_standing_49 rfl)) ?_
  refine al_cons (eok_pure (pr_imul dX0_standing_50)) ?_
  refine al_cons (eok_pure (pr_icmp_ge dX0_standing_51 (by decide))) ?_
  refine al_cons (eok_pure (pr_iconst dX0_standing_54 (by decide))) ?_
  refine al_cons (ok_retI rfl dX0_standing_55) ?_
  refine al_cons (eok_pure (pr_aload_n dX0_standing_56 rfl)) ?_
  refine al_cons (eok_pure (pr_aload_n dX0_standing_57 rfl)) ?_
  refine al_cons (eok_pure (pr_iload_n dX0_standing_58 rfl)) ?_
  refine al_cons (ok_callV hok mi_10 cl_X0 w_630 w_618 w_619 w_76 w_620 na_10 (by decide) dX0_standing_59) ?_
  refine al_cons (eok_pure (pr_aload_n dX0_standing_62 rfl)) ?_
  refine al_cons (ok_get cl_X6 gX6 (by decide) w_154 dX0_standing_63) ?_
  refine al_cons (eok_pure (pr_iconst dX0_standing_66 (by decide))) ?_
  refine al_cons (ok_iald dX0_standing_67) ?_
  refine al_cons (eok_pure (pr_iload_n dX0_standing_68 rfl)) ?_
  refine al_cons (eok_pure (pr_imul dX0_standing_69)) ?_
  refine al_cons (eok_pure (pr_icmp_le dX0_standing_70 (by decide))) ?_
  refine al_cons (eok_pure (pr_iconst dX0_standing_73 (by decide))) ?_
  refine al_cons (eok_pure (pr_goto dX0_standing_74 (by decide))) ?_
  refine al_cons (eok_pure (pr_iconst dX0_standing_77 (by decide))) ?_
  refine al_cons (ok_retI rfl dX0_standing_78) ?_
  exact al_nil
def k_X0_frontLoad (md : Bool) : List Ent := [ePure 0 (fLoadA 0 1 1),
  eGet 1 6 0,
  ePure 4 (fPush 4 1 (.int 0)),
  eIald 5 0,
  ePure 6 (fStoI 6 1 3 6),
  ePure 7 (fLoadA 7 1 1),
  eGet 8 6 0,
  ePure 11 (fPush 11 1 (.int 1)),
  eIald 12 0,
  ePure 13 (fLoadI 13 1 3),
  ePure 14 (fBin 14 o_imul),
  ePure 15 (fStoI 15 2 4 6),
  ePure 17 (fPush 17 1 (.int 0)),
  ePure 18 (fStoI 18 2 5 6),
  ePure 20 (fLoadI 20 2 5),
  ePure 22 (fLoadA 22 1 1),
  eGet 23 6 1,
  ePure 26 (fIf2 26 70 b2_ge),
  ePure 29 (fLoadI 29 2 4),
  ePure 31 (fLoadI 31 1 2),
  ePure 32 (fLoadI 32 2 5),
  eCallS 34 2 12,
  ePure 37 (fIf1 37 44 b1_eq),
  ePure 40 (fPush 40 1 (.int 0)),
  ePure 41 (fGoto 61),
  ePure 44 (fLoadA 44 1 0),
  eGet 45 0 3,
  ePure 48 (fLoadI 48 2 5),
  eIald 50 0,
  ePure 51 (fLoadI 51 1 3),
  ePure 52 (fLoadA 52 1 1),
  eGet 53 6 3,
  ePure 56 (fLoadI 56 2 5),
  eIald 58 0,
  ePure 59 (fBin 59 o_isub),
  ePure 60 (fBin 60 o_imul),
  ePure 61 (fBin 61 o_iadd),
  ePure 62 (fStoI 62 2 4 6),
  ePure 64 (fInc 64 5 6 1),
  ePure 67 (fGoto 20),
  ePure 70 (fLoadI 70 2 4),
  eRetI 72]
set_option maxRecDepth 100000 in
set_option maxHeartbeats 4000000 in
theorem ko_X0_frontLoad {l : Launch} {D : va_G} {cA : Nat → ClassId} {B : BB} {G : State → Prop} {md : Bool} {d : Nat} {call : Call} (hG : ∀ s, G s → Gs B s) (hok : COk l D cA B G md d mI call) : ∀ e ∈ k_X0_frontLoad md, EOk l RX0 cX0_frontLoad 6 (some .int) false D cA B G md d call e := by
  unfold k_X0_frontLoad
  refine al_cons (eok_pure (pr_aload_n dX0_frontLoad_0 rfl)) ?_
  refine al_cons (ok_get cl_X6 gX6 (by decide) w_154 dX0_frontLoad_1) ?_
  refine al_cons (eok_pure (pr_iconst dX0_frontLoad_4 (by decide))) ?_
  refine al_cons (ok_iald dX0_frontLoad_5) ?_
  refine al_cons (eok_pure (pr_istore_n dX0_frontLoad_6 rfl)) ?_
  refine al_cons (eok_pure (pr_aload_n dX0_frontLoad_7 rfl)) ?_
  refine al_cons (ok_get cl_X6 gX6 (by decide) w_154 dX0_frontLoad_8) ?_
  refine al_cons (eok_pure (pr_iconst dX0_frontLoad_11 (by decide))) ?_
  refine al_cons (ok_iald dX0_frontLoad_12) ?_
  refine al_cons (eok_pure (pr_iload_n dX0_frontLoad_13 rfl)) ?_
  refine al_cons (eok_pure (pr_imul dX0_frontLoad_14)) ?_
  refine al_cons (eok_pure (pr_istore dX0_frontLoad_15)) ?_
  refine al_cons (eok_pure (pr_iconst dX0_frontLoad_17 (by decide))) ?_
  refine al_cons (eok_pure (pr_istore dX0_frontLoad_18)) ?_
  refine al_cons (eok_pure (pr_iload dX0_frontLoad_20)) ?_
  refine al_cons (eok_pure (pr_aload_n dX0_frontLoad_22 rfl)) ?_
  refine al_cons (ok_get cl_X6 gX6 (by decide) w_159 dX0_frontLoad_23) ?_
  refine al_cons (eok_pure (pr_icmp_ge dX0_frontLoad_26 (by decide))) ?_
  refine al_cons (eok_pure (pr_iload dX0_frontLoad_29)) ?_
  refine al_cons (eok_pure (pr_iload_n dX0_frontLoad_31 rfl)) ?_
  refine al_cons (eok_pure (pr_iload dX0_frontLoad_32)) ?_
  refine al_cons (ok_callS hok mi_12 w_614 w_615 w_76 w_616 na_12 (by decide) dX0_frontLoad_34) ?_
  refine al_cons (eok_pure (pr_if_eq dX0_frontLoad_37 (by decide))) ?_
  refine al_cons (eok_pure (pr_iconst dX0_frontLoad_40 (by decide))) ?_
  refine al_cons (eok_pure (pr_goto dX0_frontLoad_41 (by decide))) ?_
  refine al_cons (eok_pure (pr_aload_n dX0_frontLoad_44 rfl)) ?_
  refine al_cons (ok_get cl_X0 gX0 (by decide) w_242 dX0_frontLoad_45) ?_
  refine al_cons (eok_pure (pr_iload dX0_frontLoad_48)) ?_
  refine al_cons (ok_iald dX0_frontLoad_50) ?_
  refine al_cons (eok_pure (pr_iload_n dX0_frontLoad_51 rfl)) ?_
  refine al_cons (eok_pure (pr_aload_n dX0_frontLoad_52 rfl)) ?_
  refine al_cons (ok_get cl_X6 gX6 (by decide) w_167 dX0_frontLoad_53) ?_
  refine al_cons (eok_pure (pr_iload dX0_frontLoad_56)) ?_
  refine al_cons (ok_iald dX0_frontLoad_58) ?_
  refine al_cons (eok_pure (pr_isub dX0_frontLoad_59)) ?_
  refine al_cons (eok_pure (pr_imul dX0_frontLoad_60)) ?_
  refine al_cons (eok_pure (pr_iadd dX0_frontLoad_61)) ?_
  refine al_cons (eok_pure (pr_istore dX0_frontLoad_62)) ?_
  refine al_cons (eok_pure (pr_iinc dX0_frontLoad_64 (by decide))) ?_
  refine al_cons (eok_pure (pr_goto dX0_frontLoad_67 (by decide))) ?_
  refine al_cons (eok_pure (pr_iload dX0_frontLoad_70)) ?_
  refine al_cons (ok_retI rfl dX0_frontLoad_72) ?_
  exact al_nil
def k_X0_rearLoad (md : Bool) : List Ent := [ePure 0 (fLoadA 0 1 1),
  eGet 1 6 0,
  ePure 4 (fPush 4 1 (.int 2)),
  eIald 5 0,
  ePure 6 (fLoadA 6 1 1),
  eGet 7 6 0,
  ePure 10 (fPush 10 1 (.int 0)),
  eIald 11 0,
  ePure 12 (fBin 12 o_imul),
  ePure 13 (fStoI 13 1 3 5),
  ePure 14 (fPush 14 1 (.int 0)),
  ePure 15 (fStoI 15 2 4 5),
  ePure 17 (fLoadI 17 2 4),
  ePure 19 (fLoadA 19 1 1),
  eGet 20 6 1,
  ePure 23 (fIf2 23 63 b2_ge),
  ePure 26 (fLoadI 26 1 3),
  ePure 27 (fLoadI 27 1 2),
  ePure 28 (fLoadI 28 2 4),
  eCallS 30 2 12,
  ePure 33 (fIf1 33 40 b1_eq),
  ePure 36 (fPush 36 1 (.int 0)),
  ePure 37 (fGoto 55),
  ePure 40 (fLoadA 40 1 0),
  eGet 41 0 3,
  ePure 44 (fLoadI 44 2 4),
  eIald 46 0,
  ePure 47 (fLoadA 47 1 1),
  eGet 48 6 3,
  ePure 51 (fLoadI 51 2 4),
  eIald 53 0,
  ePure 54 (fBin 54 o_imul),
  ePure 55 (fBin 55 o_iadd),
  ePure 56 (fStoI 56 1 3 5),
  ePure 57 (fInc 57 4 5 1),
  ePure 60 (fGoto 17),
  ePure 63 (fLoadI 63 1 3),
  eRetI 64]
set_option maxRecDepth 100000 in
set_option maxHeartbeats 4000000 in
theorem ko_X0_rearLoad {l : Launch} {D : va_G} {cA : Nat → ClassId} {B : BB} {G : State → Prop} {md : Bool} {d : Nat} {call : Call} (hG : ∀ s, G s → Gs B s) (hok : COk l D cA B G md d mI call) : ∀ e ∈ k_X0_rearLoad md, EOk l RX0 cX0_rearLoad 5 (some .int) false D cA B G md d call e := by
  unfold k_X0_rearLoad
  refine al_cons (eok_pure (pr_aload_n dX0_rearLoad_0 rfl)) ?_
  refine al_cons (ok_get cl_X6 gX6 (by decide) w_154 dX0_rearLoad_1) ?_
  refine al_cons (eok_pure (pr_iconst dX0_rearLoad_4 (by decide))) ?_
  refine al_cons (ok_iald dX0_rearLoad_5) ?_
  refine al_cons (eok_pure (pr_aload_n dX0_rearLoad_6 rfl)) ?_
  refine al_cons (ok_get cl_X6 gX6 (by decide) w_154 dX0_rearLoad_7) ?_
  refine al_cons (eok_pure (pr_iconst dX0_rearLoad_10 (by decide))) ?_
  refine al_cons (ok_iald dX0_rearLoad_11) ?_
  refine al_cons (eok_pure (pr_imul dX0_rearLoad_12)) ?_
  refine al_cons (eok_pure (pr_istore_n dX0_rearLoad_13 rfl)) ?_
  refine al_cons (eok_pure (pr_iconst dX0_rearLoad_14 (by decide))) ?_
  refine al_cons (eok_pure (pr_istore dX0_rearLoad_15)) ?_
  refine al_cons (eok_pure (pr_iload dX0_rearLoad_17)) ?_
  refine al_cons (eok_pure (pr_aload_n dX0_rearLoad_19 rfl)) ?_
  refine al_cons (ok_get cl_X6 gX6 (by decide) w_159 dX0_rearLoad_20) ?_
  refine al_cons (eok_pure (pr_icmp_ge dX0_rearLoad_23 (by decide))) ?_
  refine al_cons (eok_pure (pr_iload_n dX0_rearLoad_26 rfl)) ?_
  refine al_cons (eok_pure (pr_iload_n dX0_rearLoad_27 rfl)) ?_
  refine al_cons (eok_pure (pr_iload dX0_rearLoad_28)) ?_
  refine al_cons (ok_callS hok mi_12 w_614 w_615 w_76 w_616 na_12 (by decide) dX0_rearLoad_30) ?_
  refine al_cons (eok_pure (pr_if_eq dX0_rearLoad_33 (by decide))) ?_
  refine al_cons (eok_pure (pr_iconst dX0_rearLoad_36 (by decide))) ?_
  refine al_cons (eok_pure (pr_goto dX0_rearLoad_37 (by decide))) ?_
  refine al_cons (eok_pure (pr_aload_n dX0_rearLoad_40 rfl)) ?_
  refine al_cons (ok_get cl_X0 gX0 (by decide) w_242 dX0_rearLoad_41) ?_
  refine al_cons (eok_pure (pr_iload dX0_rearLoad_44)) ?_
  refine al_cons (ok_iald dX0_rearLoad_46) ?_
  refine al_cons (eok_pure (pr_aload_n dX0_rearLoad_47 rfl)) ?_
  refine al_cons (ok_get cl_X6 gX6 (by decide) w_167 dX0_rearLoad_48) ?_
  refine al_cons (eok_pure (pr_iload dX0_rearLoad_51)) ?_
  refine al_cons (ok_iald dX0_rearLoad_53) ?_
  refine al_cons (eok_pure (pr_imul dX0_rearLoad_54)) ?_
  refine al_cons (eok_pure (pr_iadd dX0_rearLoad_55)) ?_
  refine al_cons (eok_pure (pr_istore_n dX0_rearLoad_56 rfl)) ?_
  refine al_cons (eok_pure (pr_iinc dX0_rearLoad_57 (by decide))) ?_
  refine al_cons (eok_pure (pr_goto dX0_rearLoad_60 (by decide))) ?_
  refine al_cons (eok_pure (pr_iload_n dX0_rearLoad_63 rfl)) ?_
  refine al_cons (ok_retI rfl dX0_rearLoad_64) ?_
  exact al_nil
def k_X0_surges (md : Bool) : List Ent := [ePure 0 (fPush 0 1 (.int 0)),
  ePure 1 (fStoI 1 1 3 5),
  ePure 2 (fLoadI 2 1 3),
  ePure 3 (fLoadA 3 1 1),
  eGet 4 6 1,
  ePure 7 (fIf2 7 94 b2_ge),
  ePure 10 (fLoadA 10 1 0),
  eGet 11 0 0,
  ePure 14 (fLoadI 14 1 3),
  eIald 15 0,
  ePure 16 (fPush 16 2 (.int 100)),
  ePure 18 (fBin 18 o_imul),
  ePure 19 (fStoI 19 2 4 5),
  ePure 21 (fLoadA 21 1 1),
  eGet 22 6 4,
  ePure 25 (fLoadI 25 1 3),
  eIald 26 0,
  ePure 27 (fPush 27 1 (.int 1)),
  ePure 28 (fIf2 28 88 b2_ne),
  ePure 31 (fLoadA 31 1 0),
  eGet 32 0 0,
  ePure 35 (fLoadI 35 1 3),
  eIald 36 0,
  ePure 37 (fIf1 37 88 b1_le),
  ePure 40 (fLoadI 40 1 2),
  ePure 41 (fLoadI 41 1 3),
  eCallS 42 2 12,
  ePure 45 (fIf1 45 88 b1_ne),
  ePure 48 (fLoadI 48 2 4),
  ePure 50 (fLoadA 50 1 1),
  eGet 51 6 0,
  ePure 54 (fPush 54 2 (.int 7)),
  eIald 56 0,
  ePure 57 (fLoadA 57 1 1),
  eGet 58 6 2,
  ePure 61 (fLoadI 61 1 3),
  eIald 62 0,
  ePure 63 (fBin 63 o_imul),
  ePure 64 (fIf2 64 88 b2_le),
  ePure 67 (fLoadI 67 2 4),
  ePure 69 (fLoadA 69 1 1),
  eGet 70 6 0,
  ePure 73 (fPush 73 2 (.int 8)),
  eIald 75 0,
  ePure 76 (fLoadA 76 1 1),
  eGet 77 6 2,
  ePure 80 (fLoadI 80 1 3),
  eIald 81 0,
  ePure 82 (fBin 82 o_imul),
  ePure 83 (fIf2 83 88 b2_ge),
  ePure 86 (fPush 86 1 (.int 1)),
  eRetZ 87,
  ePure 88 (fInc 88 3 5 1),
  ePure 91 (fGoto 2),
  ePure 94 (fPush 94 1 (.int 0)),
  eRetZ 95]
set_option maxRecDepth 100000 in
set_option maxHeartbeats 4000000 in
theorem ko_X0_surges {l : Launch} {D : va_G} {cA : Nat → ClassId} {B : BB} {G : State → Prop} {md : Bool} {d : Nat} {call : Call} (hG : ∀ s, G s → Gs B s) (hok : COk l D cA B G md d mI call) : ∀ e ∈ k_X0_surges md, EOk l RX0 cX0_surges 5 (some .boolean) false D cA B G md d call e := by
  unfold k_X0_surges
  refine al_cons (eok_pure (pr_iconst dX0_surges_0 (by decide))) ?_
  refine al_cons (eok_pure (pr_istore_n dX0_surges_1 rfl)) ?_
  refine al_cons (eok_pure (pr_iload_n dX0_surges_2 rfl)) ?_
  refine al_cons (eok_pure (pr_aload_n dX0_surges_3 rfl)) ?_
  refine al_cons (ok_get cl_X6 gX6 (by decide) w_159 dX0_surges_4) ?_
  refine al_cons (eok_pure (pr_icmp_ge dX0_surges_7 (by decide))) ?_
  refine al_cons (eok_pure (pr_aload_n dX0_surges_10 rfl)) ?_
  refine al_cons (ok_get cl_X0 gX0 (by decide) w_233 dX0_surges_11) ?_
  refine al_cons (eok_pure (pr_iload_n dX0_surges_14 rfl)) ?_
  refine al_cons (ok_iald dX0_surges_15) ?_
  refine al_cons (eok_pure (pr_bipush dX0_surges_16 (by decide))) ?_
  refine al_cons (eok_pure (pr_imul dX0_surges_18)) ?_
  refine al_cons (eok_pure (pr_istore dX0_surges_19)) ?_
  refine al_cons (eok_pure (pr_aload_n dX0_surges_21 rfl)) ?_
  refine al_cons (ok_get cl_X6 gX6 (by decide) w_171 dX0_surges_22) ?_
  refine al_cons (eok_pure (pr_iload_n dX0_surges_25 rfl)) ?_
  refine al_cons (ok_iald dX0_surges_26) ?_
  refine al_cons (eok_pure (pr_iconst dX0_surges_27 (by decide))) ?_
  refine al_cons (eok_pure (pr_icmp_ne dX0_surges_28 (by decide))) ?_
  refine al_cons (eok_pure (pr_aload_n dX0_surges_31 rfl)) ?_
  refine al_cons (ok_get cl_X0 gX0 (by decide) w_233 dX0_surges_32) ?_
  refine al_cons (eok_pure (pr_iload_n dX0_surges_35 rfl)) ?_
  refine al_cons (ok_iald dX0_surges_36) ?_
  refine al_cons (eok_pure (pr_if_le dX0_surges_37 (by decide))) ?_
  refine al_cons (eok_pure (pr_iload_n dX0_surges_40 rfl)) ?_
  refine al_cons (eok_pure (pr_iload_n dX0_surges_41 rfl)) ?_
  refine al_cons (ok_callS hok mi_12 w_614 w_615 w_76 w_616 na_12 (by decide) dX0_surges_42) ?_
  refine al_cons (eok_pure (pr_if_ne dX0_surges_45 (by decide))) ?_
  refine al_cons (eok_pure (pr_iload dX0_surges_48)) ?_
  refine al_cons (eok_pure (pr_aload_n dX0_surges_50 rfl)) ?_
  refine al_cons (ok_get cl_X6 gX6 (by decide) w_154 dX0_surges_51) ?_
  refine al_cons (eok_pure (pr_bipush dX0_surges_54 (by decide))) ?_
  refine al_cons (ok_iald dX0_surges_56) ?_
  refine al_cons (eok_pure (pr_aload_n dX0_surges_57 rfl)) ?_
  refine al_cons (ok_get cl_X6 gX6 (by decide) w_163 dX0_surges_58) ?_
  refine al_cons (eok_pure (pr_iload_n dX0_surges_61 rfl)) ?_
  refine al_cons (ok_iald dX0_surges_62) ?_
  refine al_cons (eok_pure (pr_imul dX0_surges_63)) ?_
  refine al_cons (eok_pure (pr_icmp_le dX0_surges_64 (by decide))) ?_
  refine al_cons (eok_pure (pr_iload dX0_surges_67)) ?_
  refine al_cons (eok_pure (pr_aload_n dX0_surges_69 rfl)) ?_
  refine al_cons (ok_get cl_X6 gX6 (by decide) w_154 dX0_surges_70) ?_
  refine al_cons (eok_pure (pr_bipush dX0_surges_73 (by decide))) ?_
  refine al_cons (ok_iald dX0_surges_75) ?_
  refine al_cons (eok_pure (pr_aload_n dX0_surges_76 rfl)) ?_
  refine al_cons (ok_get cl_X6 gX6 (by decide) w_163 dX0_surges_77) ?_
  refine al_cons (eok_pure (pr_iload_n dX0_surges_80 rfl)) ?_
  refine al_cons (ok_iald dX0_surges_81) ?_
  refine al_cons (eok_pure (pr_imul dX0_surges_82)) ?_
  refine al_cons (eok_pure (pr_icmp_ge dX0_surges_83 (by decide))) ?_
  refine al_cons (eok_pure (pr_iconst dX0_surges_86 (by decide))) ?_
  refine al_cons (ok_retZ rfl dX0_surges_87) ?_
  refine al_cons (eok_pure (pr_iinc dX0_surges_88 (by decide))) ?_
  refine al_cons (eok_pure (pr_goto dX0_surges_91 (by decide))) ?_
  refine al_cons (eok_pure (pr_iconst dX0_surges_94 (by decide))) ?_
  refine al_cons (ok_retZ rfl dX0_surges_95) ?_
  exact al_nil
def k_X0_isIn (md : Bool) : List Ent := [ePure 0 (fLoadI 0 1 0),
  ePure 1 (fLoadI 1 1 1),
  ePure 2 (fBin 2 o_ishr),
  ePure 3 (fPush 3 1 (.int 1)),
  ePure 4 (fBin 4 o_iand),
  ePure 5 (fIf1 5 12 b1_eq),
  ePure 8 (fPush 8 1 (.int 1)),
  ePure 9 (fGoto 13),
  ePure 12 (fPush 12 1 (.int 0)),
  eRetZ 13]
set_option maxRecDepth 100000 in
set_option maxHeartbeats 4000000 in
theorem ko_X0_isIn {l : Launch} {D : va_G} {cA : Nat → ClassId} {B : BB} {G : State → Prop} {md : Bool} {d : Nat} {call : Call} (hG : ∀ s, G s → Gs B s) (hok : COk l D cA B G md d mI call) : ∀ e ∈ k_X0_isIn md, EOk l RX0 cX0_isIn 2 (some .boolean) false D cA B G md d call e := by
  unfold k_X0_isIn
  refine al_cons (eok_pure (pr_iload_n dX0_isIn_0 rfl)) ?_
  refine al_cons (eok_pure (pr_iload_n dX0_isIn_1 rfl)) ?_
  refine al_cons (eok_pure (pr_ishr dX0_isIn_2)) ?_
  refine al_cons (eok_pure (pr_iconst dX0_isIn_3 (by decide))) ?_
  refine al_cons (eok_pure (pr_iand dX0_isIn_4)) ?_
  refine al_cons (eok_pure (pr_if_eq dX0_isIn_5 (by decide))) ?_
  refine al_cons (eok_pure (pr_iconst dX0_isIn_8 (by decide))) ?_
  refine al_cons (eok_pure (pr_goto dX0_isIn_9 (by decide))) ?_
  refine al_cons (eok_pure (pr_iconst dX0_isIn_12 (by decide))) ?_
  refine al_cons (ok_retZ rfl dX0_isIn_13) ?_
  exact al_nil
def k_X1_init (md : Bool) : List Ent := [ePure 0 (fLoadA 0 1 0),
  eObj 1,
  ePure 4 (fLoadA 4 1 0),
  ePure 5 (fPush 5 2 (.int 10)),
  eNewA md 7,
  ePut 10 1 0 kRef,
  ePure 13 (fPush 13 1 (.int 0)),
  ePure 14 (fStoI 14 1 1 2),
  ePure 15 (fLoadI 15 1 1),
  ePure 16 (fPush 16 2 (.int 10)),
  ePure 18 (fIf2 18 40 b2_ge),
  ePure 21 (fLoadA 21 1 0),
  eGet 22 1 0,
  ePure 25 (fLoadI 25 1 1),
  eNew md 26 5 [.null, .int 0, .null, .null, .int 0],
  ePure 29 (fDup 29),
  eCallI 30 0 53,
  eAast 33,
  ePure 34 (fInc 34 1 2 1),
  ePure 37 (fGoto 15),
  eRetV 40]
set_option maxRecDepth 100000 in
set_option maxHeartbeats 4000000 in
theorem ko_X1_init {l : Launch} {D : va_G} {cA : Nat → ClassId} {B : BB} {G : State → Prop} {md : Bool} {d : Nat} {call : Call} (hG : ∀ s, G s → Gs B s) (hok : COk l D cA B G md d mI call) : ∀ e ∈ k_X1_init md, EOk l RX1 cX1_init 2 none true D cA B G md d call e := by
  unfold k_X1_init
  refine al_cons (eok_pure (pr_aload_n dX1_init_0 rfl)) ?_
  refine al_cons (ok_obj w_280 w_99 w_100 dX1_init_1) ?_
  refine al_cons (eok_pure (pr_aload_n dX1_init_4 rfl)) ?_
  refine al_cons (eok_pure (pr_bipush dX1_init_5 (by decide))) ?_
  refine al_cons (ok_newA w_281 dX1_init_7) ?_
  refine al_cons (ok_putF rfl cl_X1 gX1 tyX1_ok nmX1 (by decide) w_284 rfl rfl (by decide +kernel) (kok_arr B (.object "TankerDesk$State")) dX1_init_10) ?_
  refine al_cons (eok_pure (pr_iconst dX1_init_13 (by decide))) ?_
  refine al_cons (eok_pure (pr_istore_n dX1_init_14 rfl)) ?_
  refine al_cons (eok_pure (pr_iload_n dX1_init_15 rfl)) ?_
  refine al_cons (eok_pure (pr_bipush dX1_init_16 (by decide))) ?_
  refine al_cons (eok_pure (pr_icmp_ge dX1_init_18 (by decide))) ?_
  refine al_cons (eok_pure (pr_aload_n dX1_init_21 rfl)) ?_
  refine al_cons (ok_get cl_X1 gX1 (by decide) w_284 dX1_init_22) ?_
  refine al_cons (eok_pure (pr_iload_n dX1_init_25 rfl)) ?_
  refine al_cons (ok_new cl_X5 gX5 tyX5_ok w_281 w_222 w_75 dfX5 (by decide) rfl dX1_init_26) ?_
  refine al_cons (eok_pure (pr_dup dX1_init_29)) ?_
  refine al_cons (ok_callIN hok mi_53 w_283 w_224 w_75 w_225 rfl na_53 (by decide) dX1_init_30) ?_
  refine al_cons (ok_aast dX1_init_33) ?_
  refine al_cons (eok_pure (pr_iinc dX1_init_34 (by decide))) ?_
  refine al_cons (eok_pure (pr_goto dX1_init_37 (by decide))) ?_
  refine al_cons (ok_retV rfl dX1_init_40) ?_
  exact al_nil
def k_X1_forget (md : Bool) : List Ent := [ePure 0 (fLoadA 0 1 0),
  ePure 1 (fPush 1 1 (.int 0)),
  ePut 2 1 2 kInt,
  eRetV 5]
set_option maxRecDepth 100000 in
set_option maxHeartbeats 4000000 in
theorem ko_X1_forget {l : Launch} {D : va_G} {cA : Nat → ClassId} {B : BB} {G : State → Prop} {md : Bool} {d : Nat} {call : Call} (hG : ∀ s, G s → Gs B s) (hok : COk l D cA B G md d mI call) : ∀ e ∈ k_X1_forget md, EOk l RX1 cX1_forget 1 none false D cA B G md d call e := by
  unfold k_X1_forget
  refine al_cons (eok_pure (pr_aload_n dX1_forget_0 rfl)) ?_
  refine al_cons (eok_pure (pr_iconst dX1_forget_1 (by decide))) ?_
  refine al_cons (ok_put cl_X1 gX1 tyX1_ok nmX1 (by decide) w_286 rfl (by decide +kernel) (kok_int B) dX1_forget_2) ?_
  refine al_cons (ok_retV rfl dX1_forget_5) ?_
  exact al_nil
def k_X1_keep (md : Bool) : List Ent := [ePure 0 (fLoadA 0 1 0),
  eGet 1 1 0,
  ePure 4 (fLoadA 4 1 0),
  eGet 5 1 1,
  eAald 8,
  ePure 9 (fLoadA 9 1 1),
  eCallV 10 1 56 5,
  ePure 13 (fLoadA 13 1 0),
  ePure 14 (fLoadA 14 1 0),
  eGet 15 1 1,
  ePure 18 (fPush 18 1 (.int 1)),
  ePure 19 (fBin 19 o_iadd),
  ePure 20 (fPush 20 2 (.int 10)),
  ePure 22 (fIf2 22 34 b2_ge),
  ePure 25 (fLoadA 25 1 0),
  eGet 26 1 1,
  ePure 29 (fPush 29 1 (.int 1)),
  ePure 30 (fBin 30 o_iadd),
  ePure 31 (fGoto 35),
  ePure 34 (fPush 34 1 (.int 0)),
  ePut 35 1 1 kInt,
  ePure 38 (fLoadA 38 1 0),
  ePure 39 (fLoadA 39 1 0),
  eGet 40 1 2,
  ePure 43 (fPush 43 1 (.int 1)),
  ePure 44 (fBin 44 o_iadd),
  ePure 45 (fPush 45 2 (.int 10)),
  eMin 47,
  ePut 50 1 2 kInt,
  eRetV 53]
set_option maxRecDepth 100000 in
set_option maxHeartbeats 4000000 in
theorem ko_X1_keep {l : Launch} {D : va_G} {cA : Nat → ClassId} {B : BB} {G : State → Prop} {md : Bool} {d : Nat} {call : Call} (hG : ∀ s, G s → Gs B s) (hok : COk l D cA B G md d mI call) : ∀ e ∈ k_X1_keep md, EOk l RX1 cX1_keep 2 none false D cA B G md d call e := by
  unfold k_X1_keep
  refine al_cons (eok_pure (pr_aload_n dX1_keep_0 rfl)) ?_
  refine al_cons (ok_get cl_X1 gX1 (by decide) w_284 dX1_keep_1) ?_
  refine al_cons (eok_pure (pr_aload_n dX1_keep_4 rfl)) ?_
  refine al_cons (ok_get cl_X1 gX1 (by decide) w_285 dX1_keep_5) ?_
  refine al_cons (ok_aald dX1_keep_8) ?_
  refine al_cons (eok_pure (pr_aload_n dX1_keep_9 rfl)) ?_
  refine al_cons (ok_callV hok mi_56 cl_X5 w_802 w_803 w_804 w_75 w_805 na_56 (by decide) dX1_keep_10) ?_
  refine al_cons (eok_pure (pr_aload_n dX1_keep_13 rfl)) ?_
  refine al_cons (eok_pure (pr_aload_n dX1_keep_14 rfl)) ?_
  refine al_cons (ok_get cl_X1 gX1 (by decide) w_285 dX1_keep_15) ?_
  refine al_cons (eok_pure (pr_iconst dX1_keep_18 (by decide))) ?_
  refine al_cons (eok_pure (pr_iadd dX1_keep_19)) ?_
  refine al_cons (eok_pure (pr_bipush dX1_keep_20 (by decide))) ?_
  refine al_cons (eok_pure (pr_icmp_ge dX1_keep_22 (by decide))) ?_
  refine al_cons (eok_pure (pr_aload_n dX1_keep_25 rfl)) ?_
  refine al_cons (ok_get cl_X1 gX1 (by decide) w_285 dX1_keep_26) ?_
  refine al_cons (eok_pure (pr_iconst dX1_keep_29 (by decide))) ?_
  refine al_cons (eok_pure (pr_iadd dX1_keep_30)) ?_
  refine al_cons (eok_pure (pr_goto dX1_keep_31 (by decide))) ?_
  refine al_cons (eok_pure (pr_iconst dX1_keep_34 (by decide))) ?_
  refine al_cons (ok_put cl_X1 gX1 tyX1_ok nmX1 (by decide) w_285 rfl (by decide +kernel) (kok_int B) dX1_keep_35) ?_
  refine al_cons (eok_pure (pr_aload_n dX1_keep_38 rfl)) ?_
  refine al_cons (eok_pure (pr_aload_n dX1_keep_39 rfl)) ?_
  refine al_cons (ok_get cl_X1 gX1 (by decide) w_286 dX1_keep_40) ?_
  refine al_cons (eok_pure (pr_iconst dX1_keep_43 (by decide))) ?_
  refine al_cons (eok_pure (pr_iadd dX1_keep_44)) ?_
  refine al_cons (eok_pure (pr_bipush dX1_keep_45 (by decide))) ?_
  refine al_cons (ok_min w_808 w_769 w_92 w_770 dX1_keep_47) ?_
  refine al_cons (ok_put cl_X1 gX1 tyX1_ok nmX1 (by decide) w_286 rfl (by decide +kernel) (kok_int B) dX1_keep_50) ?_
  refine al_cons (ok_retV rfl dX1_keep_53) ?_
  exact al_nil
def k_X1_goBack (md : Bool) : List Ent := [ePure 0 (fLoadA 0 1 0),
  eGet 1 1 2,
  ePure 4 (fIf1 4 9 b1_ne),
  ePure 7 (fPush 7 1 (.int 0)),
  eRetZ 8,
  ePure 9 (fLoadA 9 1 0),
  ePure 10 (fLoadA 10 1 0),
  eGet 11 1 1,
  ePure 14 (fIf1 14 26 b1_le),
  ePure 17 (fLoadA 17 1 0),
  eGet 18 1 1,
  ePure 21 (fPush 21 1 (.int 1)),
  ePure 22 (fBin 22 o_isub),
  ePure 23 (fGoto 28),
  ePure 26 (fPush 26 2 (.int 9)),
  ePut 28 1 1 kInt,
  ePure 31 (fLoadA 31 1 0),
  ePure 32 (fDup 32),
  eGet 33 1 2,
  ePure 36 (fPush 36 1 (.int 1)),
  ePure 37 (fBin 37 o_isub),
  ePut 38 1 2 kInt,
  ePure 41 (fLoadA 41 1 1),
  ePure 42 (fLoadA 42 1 0),
  eGet 43 1 0,
  ePure 46 (fLoadA 46 1 0),
  eGet 47 1 1,
  eAald 50,
  eCallV 51 1 56 5,
  ePure 54 (fPush 54 1 (.int 1)),
  eRetZ 55]
set_option maxRecDepth 100000 in
set_option maxHeartbeats 4000000 in
theorem ko_X1_goBack {l : Launch} {D : va_G} {cA : Nat → ClassId} {B : BB} {G : State → Prop} {md : Bool} {d : Nat} {call : Call} (hG : ∀ s, G s → Gs B s) (hok : COk l D cA B G md d mI call) : ∀ e ∈ k_X1_goBack md, EOk l RX1 cX1_goBack 2 (some .boolean) false D cA B G md d call e := by
  unfold k_X1_goBack
  refine al_cons (eok_pure (pr_aload_n dX1_goBack_0 rfl)) ?_
  refine al_cons (ok_get cl_X1 gX1 (by decide) w_286 dX1_goBack_1) ?_
  refine al_cons (eok_pure (pr_if_ne dX1_goBack_4 (by decide))) ?_
  refine al_cons (eok_pure (pr_iconst dX1_goBack_7 (by decide))) ?_
  refine al_cons (ok_retZ rfl dX1_goBack_8) ?_
  refine al_cons (eok_pure (pr_aload_n dX1_goBack_9 rfl)) ?_
  refine al_cons (eok_pure (pr_aload_n dX1_goBack_10 rfl)) ?_
  refine al_cons (ok_get cl_X1 gX1 (by decide) w_285 dX1_goBack_11) ?_
  refine al_cons (eok_pure (pr_if_le dX1_goBack_14 (by decide))) ?_
  refine al_cons (eok_pure (pr_aload_n dX1_goBack_17 rfl)) ?_
  refine al_cons (ok_get cl_X1 gX1 (by decide) w_285 dX1_goBack_18) ?_
  refine al_cons (eok_pure (pr_iconst dX1_goBack_21 (by decide))) ?_
  refine al_cons (eok_pure (pr_isub dX1_goBack_22)) ?_
  refine al_cons (eok_pure (pr_goto dX1_goBack_23 (by decide))) ?_
  refine al_cons (eok_pure (pr_bipush dX1_goBack_26 (by decide))) ?_
  refine al_cons (ok_put cl_X1 gX1 tyX1_ok nmX1 (by decide) w_285 rfl (by decide +kernel) (kok_int B) dX1_goBack_28) ?_
  refine al_cons (eok_pure (pr_aload_n dX1_goBack_31 rfl)) ?_
  refine al_cons (eok_pure (pr_dup dX1_goBack_32)) ?_
  refine al_cons (ok_get cl_X1 gX1 (by decide) w_286 dX1_goBack_33) ?_
  refine al_cons (eok_pure (pr_iconst dX1_goBack_36 (by decide))) ?_
  refine al_cons (eok_pure (pr_isub dX1_goBack_37)) ?_
  refine al_cons (ok_put cl_X1 gX1 tyX1_ok nmX1 (by decide) w_286 rfl (by decide +kernel) (kok_int B) dX1_goBack_38) ?_
  refine al_cons (eok_pure (pr_aload_n dX1_goBack_41 rfl)) ?_
  refine al_cons (eok_pure (pr_aload_n dX1_goBack_42 rfl)) ?_
  refine al_cons (ok_get cl_X1 gX1 (by decide) w_284 dX1_goBack_43) ?_
  refine al_cons (eok_pure (pr_aload_n dX1_goBack_46 rfl)) ?_
  refine al_cons (ok_get cl_X1 gX1 (by decide) w_285 dX1_goBack_47) ?_
  refine al_cons (ok_aald dX1_goBack_50) ?_
  refine al_cons (ok_callV hok mi_56 cl_X5 w_802 w_803 w_804 w_75 w_805 na_56 (by decide) dX1_goBack_51) ?_
  refine al_cons (eok_pure (pr_iconst dX1_goBack_54 (by decide))) ?_
  refine al_cons (ok_retZ rfl dX1_goBack_55) ?_
  exact al_nil
def k_X2_init (md : Bool) : List Ent := [ePure 0 (fLoadA 0 1 0),
  eObj 1,
  ePure 4 (fLoadA 4 1 0),
  ePure 5 (fPush 5 1 (.int 5)),
  eNewI md 6 0,
  ePut 8 2 1 kRef,
  ePure 11 (fLoadA 11 1 0),
  ePure 12 (fPush 12 1 (.int 5)),
  eNewI md 13 0,
  ePut 15 2 2 kRef,
  ePure 18 (fLoadA 18 1 0),
  ePure 19 (fPush 19 2 (.int 32)),
  eNewI md 21 0,
  ePut 23 2 3 kRef,
  eRetV 26]
set_option maxRecDepth 100000 in
set_option maxHeartbeats 4000000 in
theorem ko_X2_init {l : Launch} {D : va_G} {cA : Nat → ClassId} {B : BB} {G : State → Prop} {md : Bool} {d : Nat} {call : Call} (hG : ∀ s, G s → Gs B s) (hok : COk l D cA B G md d mI call) : ∀ e ∈ k_X2_init md, EOk l RX2 cX2_init 1 none true D cA B G md d call e := by
  unfold k_X2_init
  refine al_cons (eok_pure (pr_aload_n dX2_init_0 rfl)) ?_
  refine al_cons (ok_obj w_302 w_99 w_100 dX2_init_1) ?_
  refine al_cons (eok_pure (pr_aload_n dX2_init_4 rfl)) ?_
  refine al_cons (eok_pure (pr_iconst dX2_init_5 (by decide))) ?_
  refine al_cons (ok_newi w_145 dX2_init_6) ?_
  refine al_cons (ok_putF rfl cl_X2 gX2 tyX2_ok nmX2 (by decide) w_304 rfl rfl (by decide +kernel) (kok_arr B .int) dX2_init_8) ?_
  refine al_cons (eok_pure (pr_aload_n dX2_init_11 rfl)) ?_
  refine al_cons (eok_pure (pr_iconst dX2_init_12 (by decide))) ?_
  refine al_cons (ok_newi w_145 dX2_init_13) ?_
  refine al_cons (ok_putF rfl cl_X2 gX2 tyX2_ok nmX2 (by decide) w_305 rfl rfl (by decide +kernel) (kok_arr B .int) dX2_init_15) ?_
  refine al_cons (eok_pure (pr_aload_n dX2_init_18 rfl)) ?_
  refine al_cons (eok_pure (pr_bipush dX2_init_19 (by decide))) ?_
  refine al_cons (ok_newi w_145 dX2_init_21) ?_
  refine al_cons (ok_putF rfl cl_X2 gX2 tyX2_ok nmX2 (by decide) w_306 rfl rfl (by decide +kernel) (kok_arr B .int) dX2_init_23) ?_
  refine al_cons (ok_retV rfl dX2_init_26) ?_
  exact al_nil
def k_X2_count (md : Bool) : List Ent := [ePure 0 (fLoadA 0 1 0),
  ePure 1 (fLoadA 1 1 1),
  ePure 2 (fLoadA 2 1 2),
  ePure 3 (fLoadI 3 1 3),
  eCallV 4 3 20 2,
  ePure 7 (fPush 7 1 (.int 1)),
  ePure 8 (fLoadA 8 1 0),
  eGet 9 2 0,
  ePure 12 (fBin 12 o_ishl),
  ePure 13 (fPush 13 1 (.int 1)),
  ePure 14 (fBin 14 o_isub),
  ePure 15 (fStoI 15 2 4 7),
  ePure 17 (fLoadI 17 2 4),
  ePure 19 (fStoI 19 2 5 7),
  ePure 21 (fLoadI 21 2 5),
  ePure 23 (fIf1 23 98 b1_lt),
  ePure 26 (fLoadI 26 2 5),
  ePure 28 (fIf1 28 45 b1_eq),
  ePure 31 (fLoadA 31 1 2),
  ePure 32 (fLoadA 32 1 1),
  ePure 33 (fLoadA 33 1 0),
  ePure 34 (fLoadI 34 2 5),
  eCallV 36 1 21 2,
  eCallV 39 2 8 0,
  ePure 42 (fIf1 42 49 b1_ne),
  ePure 45 (fPush 45 1 (.int 1)),
  ePure 46 (fGoto 50),
  ePure 49 (fPush 49 1 (.int 0)),
  ePure 50 (fStoI 50 2 6 7),
  ePure 52 (fLoadI 52 2 6),
  ePure 54 (fIf1 54 68 b1_ne),
  ePure 57 (fLoadA 57 1 0),
  eGet 58 2 3,
  ePure 61 (fLoadI 61 2 5),
  ePure 63 (fPush 63 1 (.int 0)),
  eIast 64 0 (fun x => x),
  ePure 65 (fGoto 92),
  ePure 68 (fLoadA 68 1 0),
  eGet 69 2 3,
  ePure 72 (fLoadI 72 2 5),
  ePure 74 (fLoadI 74 2 5),
  ePure 76 (fLoadI 76 2 4),
  ePure 78 (fIf2 78 85 b2_ne),
  ePure 81 (fPush 81 1 (.int 1)),
  ePure 82 (fGoto 91),
  ePure 85 (fLoadA 85 1 0),
  ePure 86 (fLoadI 86 2 5),
  eCallV 88 1 22 2,
  eIast 91 0 (fun x => x),
  ePure 92 (fInc 92 5 7 (-1)),
  ePure 95 (fGoto 21),
  ePure 98 (fLoadA 98 1 0),
  eGet 99 2 3,
  ePure 102 (fPush 102 1 (.int 0)),
  eIald 103 0,
  eRetI 104]
set_option maxRecDepth 100000 in
set_option maxHeartbeats 4000000 in
theorem ko_X2_count {l : Launch} {D : va_G} {cA : Nat → ClassId} {B : BB} {G : State → Prop} {md : Bool} {d : Nat} {call : Call} (hG : ∀ s, G s → Gs B s) (hok : COk l D cA B G md d mI call) : ∀ e ∈ k_X2_count md, EOk l RX2 cX2_count 7 (some .int) false D cA B G md d call e := by
  unfold k_X2_count
  refine al_cons (eok_pure (pr_aload_n dX2_count_0 rfl)) ?_
  refine al_cons (eok_pure (pr_aload_n dX2_count_1 rfl)) ?_
  refine al_cons (eok_pure (pr_aload_n dX2_count_2 rfl)) ?_
  refine al_cons (eok_pure (pr_iload_n dX2_count_3 rfl)) ?_
  refine al_cons (ok_callV hok mi_20 cl_X2 w_676 w_678 w_16 w_78 w_679 na_20 (by decide) dX2_count_4) ?_
  refine al_cons (eok_pure (pr_iconst dX2_count_7 (by decide))) ?_
  refine al_cons (eok_pure (pr_aload_n dX2_count_8 rfl)) ?_
  refine al_cons (ok_get cl_X2 gX2 (by decide) w_303 dX2_count_9) ?_
  refine al_cons (eok_pure (pr_ishl dX2_count_12)) ?_
  refine al_cons (eok_pure (pr_iconst dX2_count_13 (by decide))) ?_
  refine al_cons (eok_pure (pr_isub dX2_count_14)) ?_
  refine al_cons (eok_pure (pr_istore dX2_count_15)) ?_
  refine al_cons (eok_pure (pr_iload dX2_count_17)) ?_
  refine al_cons (eok_pure (pr_istore dX2_count_19)) ?_
  refine al_cons (eok_pure (pr_iload dX2_count_21)) ?_
  refine al_cons (eok_pure (pr_if_lt dX2_count_23 (by decide))) ?_
  refine al_cons (eok_pure (pr_iload dX2_count_26)) ?_
  refine al_cons (eok_pure (pr_if_eq dX2_count_28 (by decide))) ?_
  refine al_cons (eok_pure (pr_aload_n dX2_count_31 rfl)) ?_
  refine al_cons (eok_pure (pr_aload_n dX2_count_32 rfl)) ?_
  refine al_cons (eok_pure (pr_aload_n dX2_count_33 rfl)) ?_
  refine al_cons (eok_pure (pr_iload dX2_count_34)) ?_
  refine al_cons (ok_callV hok mi_21 cl_X2 w_688 w_690 w_17 w_78 w_691 na_21 (by decide) dX2_count_36) ?_
  refine al_cons (ok_callV hok mi_8 cl_X0 w_692 w_622 w_623 w_76 w_624 na_8 (by decide) dX2_count_39) ?_
  refine al_cons (eok_pure (pr_if_ne dX2_count_42 (by decide))) ?_
  refine al_cons (eok_pure (pr_iconst dX2_count_45 (by decide))) ?_
  refine al_cons (eok_pure (pr_goto dX2_count_46 (by decide))) ?_
  refine al_cons (eok_pure (pr_iconst dX2_count_49 (by decide))) ?_
  refine al_cons (eok_pure (pr_istore dX2_count_50)) ?_
  refine al_cons (eok_pure (pr_iload dX2_count_52)) ?_
  refine al_cons (eok_pure (pr_if_ne dX2_count_54 (by decide))) ?_
  refine al_cons (eok_pure (pr_aload_n dX2_count_57 rfl)) ?_
  refine al_cons (ok_get cl_X2 gX2 (by decide) w_306 dX2_count_58) ?_
  refine al_cons (eok_pure (pr_iload dX2_count_61)) ?_
  refine al_cons (eok_pure (pr_iconst dX2_count_63 (by decide))) ?_
  refine al_cons (ok_iast dX2_count_64) ?_
  refine al_cons (eok_pure (pr_goto dX2_count_65 (by decide))) ?_
  refine al_cons (eok_pure (pr_aload_n dX2_count_68 rfl)) ?_
  refine al_cons (ok_get cl_X2 gX2 (by decide) w_306 dX2_count_69) ?_
  refine al_cons (eok_pure (pr_iload dX2_count_72)) ?_
  refine al_cons (eok_pure (pr_iload dX2_count_74)) ?_
  refine al_cons (eok_pure (pr_iload dX2_count_76)) ?_
  refine al_cons (eok_pure (pr_icmp_ne dX2_count_78 (by decide))) ?_
  refine al_cons (eok_pure (pr_iconst dX2_count_81 (by decide))) ?_
  refine al_cons (eok_pure (pr_goto dX2_count_82 (by decide))) ?_
  refine al_cons (eok_pure (pr_aload_n dX2_count_85 rfl)) ?_
  refine al_cons (eok_pure (pr_iload dX2_count_86)) ?_
  refine al_cons (ok_callV hok mi_22 cl_X2 w_693 w_695 w_18 w_78 w_696 na_22 (by decide) dX2_count_88) ?_
  refine al_cons (ok_iast dX2_count_91) ?_
  refine al_cons (eok_pure (pr_iinc dX2_count_92 (by decide))) ?_
  refine al_cons (eok_pure (pr_goto dX2_count_95 (by decide))) ?_
  refine al_cons (eok_pure (pr_aload_n dX2_count_98 rfl)) ?_
  refine al_cons (ok_get cl_X2 gX2 (by decide) w_306 dX2_count_99) ?_
  refine al_cons (eok_pure (pr_iconst dX2_count_102 (by decide))) ?_
  refine al_cons (ok_iald dX2_count_103) ?_
  refine al_cons (ok_retI rfl dX2_count_104) ?_
  exact al_nil
def k_X2_dropOfFirst (md : Bool) : List Ent := [ePure 0 (fLoadI 0 1 1),
  ePure 1 (fIf1 1 21 b1_lt),
  ePure 4 (fLoadI 4 1 1),
  ePure 5 (fLoadA 5 1 0),
  eGet 6 2 0,
  ePure 9 (fIf2 9 21 b2_ge),
  ePure 12 (fLoadA 12 1 0),
  eGet 13 2 3,
  ePure 16 (fPush 16 1 (.int 0)),
  eIald 17 0,
  ePure 18 (fIf1 18 23 b1_ne),
  ePure 21 (fPush 21 1 (.int (-1))),
  eRetI 22,
  ePure 23 (fPush 23 1 (.int 0)),
  ePure 24 (fStoI 24 1 2 5),
  ePure 25 (fPush 25 1 (.int (-1))),
  ePure 26 (fStoI 26 1 3 5),
  ePure 27 (fPush 27 1 (.int 0)),
  ePure 28 (fStoI 28 2 4 5),
  ePure 30 (fLoadI 30 2 4),
  ePure 32 (fLoadI 32 1 1),
  ePure 33 (fIf2 33 61 b2_gt),
  ePure 36 (fLoadA 36 1 0),
  ePure 37 (fLoadI 37 1 2),
  eCallV 38 1 23 2,
  ePure 41 (fStoI 41 1 3 5),
  ePure 42 (fLoadI 42 1 3),
  ePure 43 (fPush 43 1 (.int (-1))),
  ePure 44 (fIf2 44 49 b2_ne),
  ePure 47 (fPush 47 1 (.int (-1))),
  eRetI 48,
  ePure 49 (fLoadI 49 1 2),
  ePure 50 (fPush 50 1 (.int 1)),
  ePure 51 (fLoadI 51 1 3),
  ePure 52 (fBin 52 o_ishl),
  ePure 53 (fBin 53 o_ior),
  ePure 54 (fStoI 54 1 2 5),
  ePure 55 (fInc 55 4 5 1),
  ePure 58 (fGoto 30),
  ePure 61 (fLoadA 61 1 0),
  eGet 62 2 1,
  ePure 65 (fLoadI 65 1 3),
  eIald 66 0,
  eRetI 67]
set_option maxRecDepth 100000 in
set_option maxHeartbeats 4000000 in
theorem ko_X2_dropOfFirst {l : Launch} {D : va_G} {cA : Nat → ClassId} {B : BB} {G : State → Prop} {md : Bool} {d : Nat} {call : Call} (hG : ∀ s, G s → Gs B s) (hok : COk l D cA B G md d mI call) : ∀ e ∈ k_X2_dropOfFirst md, EOk l RX2 cX2_dropOfFirst 5 (some .int) false D cA B G md d call e := by
  unfold k_X2_dropOfFirst
  refine al_cons (eok_pure (pr_iload_n dX2_dropOfFirst_0 rfl)) ?_
  refine al_cons (eok_pure (pr_if_lt dX2_dropOfFirst_1 (by decide))) ?_
  refine al_cons (eok_pure (pr_iload_n dX2_dropOfFirst_4 rfl)) ?_
  refine al_cons (eok_pure (pr_aload_n dX2_dropOfFirst_5 rfl)) ?_
  refine al_cons (ok_get cl_X2 gX2 (by decide) w_303 dX2_dropOfFirst_6) ?_
  refine al_cons (eok_pure (pr_icmp_ge dX2_dropOfFirst_9 (by decide))) ?_
  refine al_cons (eok_pure (pr_aload_n dX2_dropOfFirst_12 rfl)) ?_
  refine al_cons (ok_get cl_X2 gX2 (by decide) w_306 dX2_dropOfFirst_13) ?_
  refine al_cons (eok_pure (pr_iconst dX2_dropOfFirst_16 (by decide))) ?_
  refine al_cons (ok_iald dX2_dropOfFirst_17) ?_
  refine al_cons (eok_pure (pr_if_ne dX2_dropOfFirst_18 (by decide))) ?_
  refine al_cons (eok_pure (pr_iconst dX2_dropOfFirst_21 (by decide))) ?_
  refine al_cons (ok_retI rfl dX2_dropOfFirst_22) ?_
  refine al_cons (eok_pure (pr_iconst dX2_dropOfFirst_23 (by decide))) ?_
  refine al_cons (eok_pure (pr_istore_n dX2_dropOfFirst_24 rfl)) ?_
  refine al_cons (eok_pure (pr_iconst dX2_dropOfFirst_25 (by decide))) ?_
  refine al_cons (eok_pure (pr_istore_n dX2_dropOfFirst_26 rfl)) ?_
  refine al_cons (eok_pure (pr_iconst dX2_dropOfFirst_27 (by decide))) ?_
  refine al_cons (eok_pure (pr_istore dX2_dropOfFirst_28)) ?_
  refine al_cons (eok_pure (pr_iload dX2_dropOfFirst_30)) ?_
  refine al_cons (eok_pure (pr_iload_n dX2_dropOfFirst_32 rfl)) ?_
  refine al_cons (eok_pure (pr_icmp_gt dX2_dropOfFirst_33 (by decide))) ?_
  refine al_cons (eok_pure (pr_aload_n dX2_dropOfFirst_36 rfl)) ?_
  refine al_cons (eok_pure (pr_iload_n dX2_dropOfFirst_37 rfl)) ?_
  refine al_cons (ok_callV hok mi_23 cl_X2 w_705 w_707 w_19 w_78 w_708 na_23 (by decide) dX2_dropOfFirst_38) ?_
  refine al_cons (eok_pure (pr_istore_n dX2_dropOfFirst_41 rfl)) ?_
  refine al_cons (eok_pure (pr_iload_n dX2_dropOfFirst_42 rfl)) ?_
  refine al_cons (eok_pure (pr_iconst dX2_dropOfFirst_43 (by decide))) ?_
  refine al_cons (eok_pure (pr_icmp_ne dX2_dropOfFirst_44 (by decide))) ?_
  refine al_cons (eok_pure (pr_iconst dX2_dropOfFirst_47 (by decide))) ?_
  refine al_cons (ok_retI rfl dX2_dropOfFirst_48) ?_
  refine al_cons (eok_pure (pr_iload_n dX2_dropOfFirst_49 rfl)) ?_
  refine al_cons (eok_pure (pr_iconst dX2_dropOfFirst_50 (by decide))) ?_
  refine al_cons (eok_pure (pr_iload_n dX2_dropOfFirst_51 rfl)) ?_
  refine al_cons (eok_pure (pr_ishl dX2_dropOfFirst_52)) ?_
  refine al_cons (eok_pure (pr_ior dX2_dropOfFirst_53)) ?_
  refine al_cons (eok_pure (pr_istore_n dX2_dropOfFirst_54 rfl)) ?_
  refine al_cons (eok_pure (pr_iinc dX2_dropOfFirst_55 (by decide))) ?_
  refine al_cons (eok_pure (pr_goto dX2_dropOfFirst_58 (by decide))) ?_
  refine al_cons (eok_pure (pr_aload_n dX2_dropOfFirst_61 rfl)) ?_
  refine al_cons (ok_get cl_X2 gX2 (by decide) w_304 dX2_dropOfFirst_62) ?_
  refine al_cons (eok_pure (pr_iload_n dX2_dropOfFirst_65 rfl)) ?_
  refine al_cons (ok_iald dX2_dropOfFirst_66) ?_
  refine al_cons (ok_retI rfl dX2_dropOfFirst_67) ?_
  exact al_nil
def k_X2_collect (md : Bool) : List Ent := [ePure 0 (fLoadA 0 1 0),
  ePure 1 (fPush 1 1 (.int 0)),
  ePut 2 2 0 kInt,
  ePure 5 (fPush 5 1 (.int 0)),
  ePure 6 (fStoI 6 2 4 5),
  ePure 8 (fLoadI 8 2 4),
  ePure 10 (fLoadI 10 1 3),
  ePure 11 (fIf2 11 80 b2_ge),
  ePure 14 (fLoadA 14 1 0),
  eGet 15 2 0,
  ePure 18 (fPush 18 1 (.int 5)),
  ePure 19 (fIf2 19 80 b2_ge),
  ePure 22 (fLoadA 22 1 2),
  ePure 23 (fLoadI 23 2 4),
  eCallV 25 1 6 0,
  ePure 28 (fLoadA 28 1 1),
  eGet 29 6 11,
  ePure 32 (fLoadI 32 2 4),
  eIald 34 0,
  ePure 35 (fIf2 35 74 b2_ne),
  ePure 38 (fLoadA 38 1 0),
  eGet 39 2 1,
  ePure 42 (fLoadA 42 1 0),
  eGet 43 2 0,
  ePure 46 (fLoadI 46 2 4),
  eIast 48 0 (fun x => x),
  ePure 49 (fLoadA 49 1 0),
  eGet 50 2 2,
  ePure 53 (fLoadA 53 1 0),
  eGet 54 2 0,
  ePure 57 (fLoadA 57 1 2),
  ePure 58 (fLoadI 58 2 4),
  eCallV 60 1 7 0,
  eIast 63 0 (fun x => x),
  ePure 64 (fLoadA 64 1 0),
  ePure 65 (fDup 65),
  eGet 66 2 0,
  ePure 69 (fPush 69 1 (.int 1)),
  ePure 70 (fBin 70 o_iadd),
  ePut 71 2 0 kInt,
  ePure 74 (fInc 74 4 5 1),
  ePure 77 (fGoto 8),
  eRetV 80]
set_option maxRecDepth 100000 in
set_option maxHeartbeats 4000000 in
theorem ko_X2_collect {l : Launch} {D : va_G} {cA : Nat → ClassId} {B : BB} {G : State → Prop} {md : Bool} {d : Nat} {call : Call} (hG : ∀ s, G s → Gs B s) (hok : COk l D cA B G md d mI call) : ∀ e ∈ k_X2_collect md, EOk l RX2 cX2_collect 5 none false D cA B G md d call e := by
  unfold k_X2_collect
  refine al_cons (eok_pure (pr_aload_n dX2_collect_0 rfl)) ?_
  refine al_cons (eok_pure (pr_iconst dX2_collect_1 (by decide))) ?_
  refine al_cons (ok_put cl_X2 gX2 tyX2_ok nmX2 (by decide) w_303 rfl (by decide +kernel) (kok_int B) dX2_collect_2) ?_
  refine al_cons (eok_pure (pr_iconst dX2_collect_5 (by decide))) ?_
  refine al_cons (eok_pure (pr_istore dX2_collect_6)) ?_
  refine al_cons (eok_pure (pr_iload dX2_collect_8)) ?_
  refine al_cons (eok_pure (pr_iload_n dX2_collect_10 rfl)) ?_
  refine al_cons (eok_pure (pr_icmp_ge dX2_collect_11 (by decide))) ?_
  refine al_cons (eok_pure (pr_aload_n dX2_collect_14 rfl)) ?_
  refine al_cons (ok_get cl_X2 gX2 (by decide) w_303 dX2_collect_15) ?_
  refine al_cons (eok_pure (pr_iconst dX2_collect_18 (by decide))) ?_
  refine al_cons (eok_pure (pr_icmp_ge dX2_collect_19 (by decide))) ?_
  refine al_cons (eok_pure (pr_aload_n dX2_collect_22 rfl)) ?_
  refine al_cons (eok_pure (pr_iload dX2_collect_23)) ?_
  refine al_cons (ok_callV hok mi_6 cl_X0 w_680 w_681 w_682 w_76 w_683 na_6 (by decide) dX2_collect_25) ?_
  refine al_cons (eok_pure (pr_aload_n dX2_collect_28 rfl)) ?_
  refine al_cons (ok_get cl_X6 gX6 (by decide) w_191 dX2_collect_29) ?_
  refine al_cons (eok_pure (pr_iload dX2_collect_32)) ?_
  refine al_cons (ok_iald dX2_collect_34) ?_
  refine al_cons (eok_pure (pr_icmp_ne dX2_collect_35 (by decide))) ?_
  refine al_cons (eok_pure (pr_aload_n dX2_collect_38 rfl)) ?_
  refine al_cons (ok_get cl_X2 gX2 (by decide) w_304 dX2_collect_39) ?_
  refine al_cons (eok_pure (pr_aload_n dX2_collect_42 rfl)) ?_
  refine al_cons (ok_get cl_X2 gX2 (by decide) w_303 dX2_collect_43) ?_
  refine al_cons (eok_pure (pr_iload dX2_collect_46)) ?_
  refine al_cons (ok_iast dX2_collect_48) ?_
  refine al_cons (eok_pure (pr_aload_n dX2_collect_49 rfl)) ?_
  refine al_cons (ok_get cl_X2 gX2 (by decide) w_305 dX2_collect_50) ?_
  refine al_cons (eok_pure (pr_aload_n dX2_collect_53 rfl)) ?_
  refine al_cons (ok_get cl_X2 gX2 (by decide) w_303 dX2_collect_54) ?_
  refine al_cons (eok_pure (pr_aload_n dX2_collect_57 rfl)) ?_
  refine al_cons (eok_pure (pr_iload dX2_collect_58)) ?_
  refine al_cons (ok_callV hok mi_7 cl_X0 w_684 w_685 w_686 w_76 w_687 na_7 (by decide) dX2_collect_60) ?_
  refine al_cons (ok_iast dX2_collect_63) ?_
  refine al_cons (eok_pure (pr_aload_n dX2_collect_64 rfl)) ?_
  refine al_cons (eok_pure (pr_dup dX2_collect_65)) ?_
  refine al_cons (ok_get cl_X2 gX2 (by decide) w_303 dX2_collect_66) ?_
  refine al_cons (eok_pure (pr_iconst dX2_collect_69 (by decide))) ?_
  refine al_cons (eok_pure (pr_iadd dX2_collect_70)) ?_
  refine al_cons (ok_put cl_X2 gX2 tyX2_ok nmX2 (by decide) w_303 rfl (by decide +kernel) (kok_int B) dX2_collect_71) ?_
  refine al_cons (eok_pure (pr_iinc dX2_collect_74 (by decide))) ?_
  refine al_cons (eok_pure (pr_goto dX2_collect_77 (by decide))) ?_
  refine al_cons (ok_retV rfl dX2_collect_80) ?_
  exact al_nil
def k_X2_partsOfAll (md : Bool) : List Ent := [ePure 0 (fPush 0 1 (.int 0)),
  ePure 1 (fStoI 1 1 2 4),
  ePure 2 (fPush 2 1 (.int 0)),
  ePure 3 (fStoI 3 1 3 4),
  ePure 4 (fLoadI 4 1 3),
  ePure 5 (fLoadA 5 1 0),
  eGet 6 2 0,
  ePure 9 (fIf2 9 35 b2_ge),
  ePure 12 (fLoadI 12 1 1),
  ePure 13 (fLoadI 13 1 3),
  ePure 14 (fBin 14 o_ishr),
  ePure 15 (fPush 15 1 (.int 1)),
  ePure 16 (fBin 16 o_iand),
  ePure 17 (fIf1 17 29 b1_eq),
  ePure 20 (fLoadI 20 1 2),
  ePure 21 (fLoadA 21 1 0),
  eGet 22 2 2,
  ePure 25 (fLoadI 25 1 3),
  eIald 26 0,
  ePure 27 (fBin 27 o_ior),
  ePure 28 (fStoI 28 1 2 4),
  ePure 29 (fInc 29 3 4 1),
  ePure 32 (fGoto 4),
  ePure 35 (fLoadI 35 1 2),
  eRetI 36]
set_option maxRecDepth 100000 in
set_option maxHeartbeats 4000000 in
theorem ko_X2_partsOfAll {l : Launch} {D : va_G} {cA : Nat → ClassId} {B : BB} {G : State → Prop} {md : Bool} {d : Nat} {call : Call} (hG : ∀ s, G s → Gs B s) (hok : COk l D cA B G md d mI call) : ∀ e ∈ k_X2_partsOfAll md, EOk l RX2 cX2_partsOfAll 4 (some .int) false D cA B G md d call e := by
  unfold k_X2_partsOfAll
  refine al_cons (eok_pure (pr_iconst dX2_partsOfAll_0 (by decide))) ?_
  refine al_cons (eok_pure (pr_istore_n dX2_partsOfAll_1 rfl)) ?_
  refine al_cons (eok_pure (pr_iconst dX2_partsOfAll_2 (by decide))) ?_
  refine al_cons (eok_pure (pr_istore_n dX2_partsOfAll_3 rfl)) ?_
  refine al_cons (eok_pure (pr_iload_n dX2_partsOfAll_4 rfl)) ?_
  refine al_cons (eok_pure (pr_aload_n dX2_partsOfAll_5 rfl)) ?_
  refine al_cons (ok_get cl_X2 gX2 (by decide) w_303 dX2_partsOfAll_6) ?_
  refine al_cons (eok_pure (pr_icmp_ge dX2_partsOfAll_9 (by decide))) ?_
  refine al_cons (eok_pure (pr_iload_n dX2_partsOfAll_12 rfl)) ?_
  refine al_cons (eok_pure (pr_iload_n dX2_partsOfAll_13 rfl)) ?_
  refine al_cons (eok_pure (pr_ishr dX2_partsOfAll_14)) ?_
  refine al_cons (eok_pure (pr_iconst dX2_partsOfAll_15 (by decide))) ?_
  refine al_cons (eok_pure (pr_iand dX2_partsOfAll_16)) ?_
  refine al_cons (eok_pure (pr_if_eq dX2_partsOfAll_17 (by decide))) ?_
  refine al_cons (eok_pure (pr_iload_n dX2_partsOfAll_20 rfl)) ?_
  refine al_cons (eok_pure (pr_aload_n dX2_partsOfAll_21 rfl)) ?_
  refine al_cons (ok_get cl_X2 gX2 (by decide) w_305 dX2_partsOfAll_22) ?_
  refine al_cons (eok_pure (pr_iload_n dX2_partsOfAll_25 rfl)) ?_
  refine al_cons (ok_iald dX2_partsOfAll_26) ?_
  refine al_cons (eok_pure (pr_ior dX2_partsOfAll_27)) ?_
  refine al_cons (eok_pure (pr_istore_n dX2_partsOfAll_28 rfl)) ?_
  refine al_cons (eok_pure (pr_iinc dX2_partsOfAll_29 (by decide))) ?_
  refine al_cons (eok_pure (pr_goto dX2_partsOfAll_32 (by decide))) ?_
  refine al_cons (eok_pure (pr_iload_n dX2_partsOfAll_35 rfl)) ?_
  refine al_cons (ok_retI rfl dX2_partsOfAll_36) ?_
  exact al_nil
def k_X2_waysBehind (md : Bool) : List Ent := [ePure 0 (fPush 0 1 (.int 0)),
  ePure 1 (fStoI 1 1 2 4),
  ePure 2 (fPush 2 1 (.int 0)),
  ePure 3 (fStoI 3 1 3 4),
  ePure 4 (fLoadI 4 1 3),
  ePure 5 (fLoadA 5 1 0),
  eGet 6 2 0,
  ePure 9 (fIf2 9 39 b2_ge),
  ePure 12 (fLoadI 12 1 1),
  ePure 13 (fLoadI 13 1 3),
  ePure 14 (fBin 14 o_ishr),
  ePure 15 (fPush 15 1 (.int 1)),
  ePure 16 (fBin 16 o_iand),
  ePure 17 (fIf1 17 33 b1_ne),
  ePure 20 (fLoadI 20 1 2),
  ePure 21 (fLoadA 21 1 0),
  eGet 22 2 3,
  ePure 25 (fLoadI 25 1 1),
  ePure 26 (fPush 26 1 (.int 1)),
  ePure 27 (fLoadI 27 1 3),
  ePure 28 (fBin 28 o_ishl),
  ePure 29 (fBin 29 o_ior),
  eIald 30 0,
  ePure 31 (fBin 31 o_iadd),
  ePure 32 (fStoI 32 1 2 4),
  ePure 33 (fInc 33 3 4 1),
  ePure 36 (fGoto 4),
  ePure 39 (fLoadI 39 1 2),
  eRetI 40]
set_option maxRecDepth 100000 in
set_option maxHeartbeats 4000000 in
theorem ko_X2_waysBehind {l : Launch} {D : va_G} {cA : Nat → ClassId} {B : BB} {G : State → Prop} {md : Bool} {d : Nat} {call : Call} (hG : ∀ s, G s → Gs B s) (hok : COk l D cA B G md d mI call) : ∀ e ∈ k_X2_waysBehind md, EOk l RX2 cX2_waysBehind 4 (some .int) false D cA B G md d call e := by
  unfold k_X2_waysBehind
  refine al_cons (eok_pure (pr_iconst dX2_waysBehind_0 (by decide))) ?_
  refine al_cons (eok_pure (pr_istore_n dX2_waysBehind_1 rfl)) ?_
  refine al_cons (eok_pure (pr_iconst dX2_waysBehind_2 (by decide))) ?_
  refine al_cons (eok_pure (pr_istore_n dX2_waysBehind_3 rfl)) ?_
  refine al_cons (eok_pure (pr_iload_n dX2_waysBehind_4 rfl)) ?_
  refine al_cons (eok_pure (pr_aload_n dX2_waysBehind_5 rfl)) ?_
  refine al_cons (ok_get cl_X2 gX2 (by decide) w_303 dX2_waysBehind_6) ?_
  refine al_cons (eok_pure (pr_icmp_ge dX2_waysBehind_9 (by decide))) ?_
  refine al_cons (eok_pure (pr_iload_n dX2_waysBehind_12 rfl)) ?_
  refine al_cons (eok_pure (pr_iload_n dX2_waysBehind_13 rfl)) ?_
  refine al_cons (eok_pure (pr_ishr dX2_waysBehind_14)) ?_
  refine al_cons (eok_pure (pr_iconst dX2_waysBehind_15 (by decide))) ?_
  refine al_cons (eok_pure (pr_iand dX2_waysBehind_16)) ?_
  refine al_cons (eok_pure (pr_if_ne dX2_waysBehind_17 (by decide))) ?_
  refine al_cons (eok_pure (pr_iload_n dX2_waysBehind_20 rfl)) ?_
  refine al_cons (eok_pure (pr_aload_n dX2_waysBehind_21 rfl)) ?_
  refine al_cons (ok_get cl_X2 gX2 (by decide) w_306 dX2_waysBehind_22) ?_
  refine al_cons (eok_pure (pr_iload_n dX2_waysBehind_25 rfl)) ?_
  refine al_cons (eok_pure (pr_iconst dX2_waysBehind_26 (by decide))) ?_
  refine al_cons (eok_pure (pr_iload_n dX2_waysBehind_27 rfl)) ?_
  refine al_cons (eok_pure (pr_ishl dX2_waysBehind_28)) ?_
  refine al_cons (eok_pure (pr_ior dX2_waysBehind_29)) ?_
  refine al_cons (ok_iald dX2_waysBehind_30) ?_
  refine al_cons (eok_pure (pr_iadd dX2_waysBehind_31)) ?_
  refine al_cons (eok_pure (pr_istore_n dX2_waysBehind_32 rfl)) ?_
  refine al_cons (eok_pure (pr_iinc dX2_waysBehind_33 (by decide))) ?_
  refine al_cons (eok_pure (pr_goto dX2_waysBehind_36 (by decide))) ?_
  refine al_cons (eok_pure (pr_iload_n dX2_waysBehind_39 rfl)) ?_
  refine al_cons (ok_retI rfl dX2_waysBehind_40) ?_
  exact al_nil
def k_X2_leastBehind (md : Bool) : List Ent := [ePure 0 (fPush 0 1 (.int 0)),
  ePure 1 (fStoI 1 1 2 3),
  ePure 2 (fLoadI 2 1 2),
  ePure 3 (fLoadA 3 1 0),
  eGet 4 2 0,
  ePure 7 (fIf2 7 39 b2_ge),
  ePure 10 (fLoadI 10 1 1),
  ePure 11 (fLoadI 11 1 2),
  ePure 12 (fBin 12 o_ishr),
  ePure 13 (fPush 13 1 (.int 1)),
  ePure 14 (fBin 14 o_iand),
  ePure 15 (fIf1 15 33 b1_ne),
  ePure 18 (fLoadA 18 1 0),
  eGet 19 2 3,
  ePure 22 (fLoadI 22 1 1),
  ePure 23 (fPush 23 1 (.int 1)),
  ePure 24 (fLoadI 24 1 2),
  ePure 25 (fBin 25 o_ishl),
  ePure 26 (fBin 26 o_ior),
  eIald 27 0,
  ePure 28 (fIf1 28 33 b1_le),
  ePure 31 (fLoadI 31 1 2),
  eRetI 32,
  ePure 33 (fInc 33 2 3 1),
  ePure 36 (fGoto 2),
  ePure 39 (fPush 39 1 (.int (-1))),
  eRetI 40]
set_option maxRecDepth 100000 in
set_option maxHeartbeats 4000000 in
theorem ko_X2_leastBehind {l : Launch} {D : va_G} {cA : Nat → ClassId} {B : BB} {G : State → Prop} {md : Bool} {d : Nat} {call : Call} (hG : ∀ s, G s → Gs B s) (hok : COk l D cA B G md d mI call) : ∀ e ∈ k_X2_leastBehind md, EOk l RX2 cX2_leastBehind 3 (some .int) false D cA B G md d call e := by
  unfold k_X2_leastBehind
  refine al_cons (eok_pure (pr_iconst dX2_leastBehind_0 (by decide))) ?_
  refine al_cons (eok_pure (pr_istore_n dX2_leastBehind_1 rfl)) ?_
  refine al_cons (eok_pure (pr_iload_n dX2_leastBehind_2 rfl)) ?_
  refine al_cons (eok_pure (pr_aload_n dX2_leastBehind_3 rfl)) ?_
  refine al_cons (ok_get cl_X2 gX2 (by decide) w_303 dX2_leastBehind_4) ?_
  refine al_cons (eok_pure (pr_icmp_ge dX2_leastBehind_7 (by decide))) ?_
  refine al_cons (eok_pure (pr_iload_n dX2_leastBehind_10 rfl)) ?_
  refine al_cons (eok_pure (pr_iload_n dX2_leastBehind_11 rfl)) ?_
  refine al_cons (eok_pure (pr_ishr dX2_leastBehind_12)) ?_
  refine al_cons (eok_pure (pr_iconst dX2_leastBehind_13 (by decide))) ?_
  refine al_cons (eok_pure (pr_iand dX2_leastBehind_14)) ?_
  refine al_cons (eok_pure (pr_if_ne dX2_leastBehind_15 (by decide))) ?_
  refine al_cons (eok_pure (pr_aload_n dX2_leastBehind_18 rfl)) ?_
  refine al_cons (ok_get cl_X2 gX2 (by decide) w_306 dX2_leastBehind_19) ?_
  refine al_cons (eok_pure (pr_iload_n dX2_leastBehind_22 rfl)) ?_
  refine al_cons (eok_pure (pr_iconst dX2_leastBehind_23 (by decide))) ?_
  refine al_cons (eok_pure (pr_iload_n dX2_leastBehind_24 rfl)) ?_
  refine al_cons (eok_pure (pr_ishl dX2_leastBehind_25)) ?_
  refine al_cons (eok_pure (pr_ior dX2_leastBehind_26)) ?_
  refine al_cons (ok_iald dX2_leastBehind_27) ?_
  refine al_cons (eok_pure (pr_if_le dX2_leastBehind_28 (by decide))) ?_
  refine al_cons (eok_pure (pr_iload_n dX2_leastBehind_31 rfl)) ?_
  refine al_cons (ok_retI rfl dX2_leastBehind_32) ?_
  refine al_cons (eok_pure (pr_iinc dX2_leastBehind_33 (by decide))) ?_
  refine al_cons (eok_pure (pr_goto dX2_leastBehind_36 (by decide))) ?_
  refine al_cons (eok_pure (pr_iconst dX2_leastBehind_39 (by decide))) ?_
  refine al_cons (ok_retI rfl dX2_leastBehind_40) ?_
  exact al_nil
def k_X3_init (md : Bool) : List Ent := [ePure 0 (fLoadA 0 1 0),
  eObj 1,
  ePure 4 (fLoadA 4 1 0),
  eNew md 5 2 [.int 0, .null, .null, .null],
  ePure 8 (fDup 8),
  eCallI 9 0 17,
  ePut 12 3 0 kRef,
  ePure 15 (fLoadA 15 1 0),
  eNew md 16 0 [.null, .null, .null, .null],
  ePure 19 (fDup 19),
  eCallI 20 0 0,
  ePut 23 3 1 kRef,
  ePure 26 (fLoadA 26 1 0),
  ePure 27 (fPush 27 1 (.int 4)),
  eNewI md 28 0,
  ePut 30 3 6 kRef,
  ePure 33 (fLoadA 33 1 0),
  ePure 34 (fPush 34 1 (.int 4)),
  eNewI md 35 0,
  ePut 37 3 7 kRef,
  ePure 40 (fLoadA 40 1 0),
  ePure 41 (fPush 41 1 (.int 4)),
  eNewI md 42 0,
  ePut 44 3 8 kRef,
  ePure 47 (fLoadA 47 1 0),
  ePure 48 (fPush 48 2 (.int 6)),
  eNewI md 50 0,
  ePut 52 3 9 kRef,
  ePure 55 (fLoadA 55 1 0),
  ePure 56 (fPush 56 1 (.int 5)),
  eNewI md 57 0,
  ePut 59 3 16 kRef,
  ePure 62 (fLoadA 62 1 0),
  ePure 63 (fPush 63 1 (.int 5)),
  eNewI md 64 0,
  ePut 66 3 17 kRef,
  eRetV 69]
set_option maxRecDepth 100000 in
set_option maxHeartbeats 4000000 in
theorem ko_X3_init {l : Launch} {D : va_G} {cA : Nat → ClassId} {B : BB} {G : State → Prop} {md : Bool} {d : Nat} {call : Call} (hG : ∀ s, G s → Gs B s) (hok : COk l D cA B G md d mI call) : ∀ e ∈ k_X3_init md, EOk l RX3 cX3_init 1 none true D cA B G md d call e := by
  unfold k_X3_init
  refine al_cons (eok_pure (pr_aload_n dX3_init_0 rfl)) ?_
  refine al_cons (ok_obj w_321 w_99 w_100 dX3_init_1) ?_
  refine al_cons (eok_pure (pr_aload_n dX3_init_4 rfl)) ?_
  refine al_cons (ok_new cl_X2 gX2 tyX2_ok w_322 w_298 w_78 dfX2 (by decide) rfl dX3_init_5) ?_
  refine al_cons (eok_pure (pr_dup dX3_init_8)) ?_
  refine al_cons (ok_callIN hok mi_17 w_323 w_300 w_78 w_301 rfl na_17 (by decide) dX3_init_9) ?_
  refine al_cons (ok_putF rfl cl_X3 gX3 tyX3_ok nmX3 (by decide) w_326 rfl rfl (by decide +kernel) (kok_obj B "TankerDesk$OrderTable") dX3_init_12) ?_
  refine al_cons (eok_pure (pr_aload_n dX3_init_15 rfl)) ?_
  refine al_cons (ok_new cl_X0 gX0 tyX0_ok w_324 w_228 w_76 dfX0 (by decide) rfl dX3_init_16) ?_
  refine al_cons (eok_pure (pr_dup dX3_init_19)) ?_
  refine al_cons (ok_callIN hok mi_0 w_325 w_230 w_76 w_231 rfl na_0 (by decide) dX3_init_20) ?_
  refine al_cons (ok_putF rfl cl_X3 gX3 tyX3_ok nmX3 (by decide) w_327 rfl rfl (by decide +kernel) (kok_obj B "TankerDesk$Cargo") dX3_init_23) ?_
  refine al_cons (eok_pure (pr_aload_n dX3_init_26 rfl)) ?_
  refine al_cons (eok_pure (pr_iconst dX3_init_27 (by decide))) ?_
  refine al_cons (ok_newi w_145 dX3_init_28) ?_
  refine al_cons (ok_putF rfl cl_X3 gX3 tyX3_ok nmX3 (by decide) w_332 rfl rfl (by decide +kernel) (kok_arr B .int) dX3_init_30) ?_
  refine al_cons (eok_pure (pr_aload_n dX3_init_33 rfl)) ?_
  refine al_cons (eok_pure (pr_iconst dX3_init_34 (by decide))) ?_
  refine al_cons (ok_newi w_145 dX3_init_35) ?_
  refine al_cons (ok_putF rfl cl_X3 gX3 tyX3_ok nmX3 (by decide) w_333 rfl rfl (by decide +kernel) (kok_arr B .int) dX3_init_37) ?_
  refine al_cons (eok_pure (pr_aload_n dX3_init_40 rfl)) ?_
  refine al_cons (eok_pure (pr_iconst dX3_init_41 (by decide))) ?_
  refine al_cons (ok_newi w_145 dX3_init_42) ?_
  refine al_cons (ok_putF rfl cl_X3 gX3 tyX3_ok nmX3 (by decide) w_334 rfl rfl (by decide +kernel) (kok_arr B .int) dX3_init_44) ?_
  refine al_cons (eok_pure (pr_aload_n dX3_init_47 rfl)) ?_
  refine al_cons (eok_pure (pr_bipush dX3_init_48 (by decide))) ?_
  refine al_cons (ok_newi w_145 dX3_init_50) ?_
  refine al_cons (ok_putF rfl cl_X3 gX3 tyX3_ok nmX3 (by decide) w_335 rfl rfl (by decide +kernel) (kok_arr B .int) dX3_init_52) ?_
  refine al_cons (eok_pure (pr_aload_n dX3_init_55 rfl)) ?_
  refine al_cons (eok_pure (pr_iconst dX3_init_56 (by decide))) ?_
  refine al_cons (ok_newi w_145 dX3_init_57) ?_
  refine al_cons (ok_putF rfl cl_X3 gX3 tyX3_ok nmX3 (by decide) w_344 rfl rfl (by decide +kernel) (kok_arr B .int) dX3_init_59) ?_
  refine al_cons (eok_pure (pr_aload_n dX3_init_62 rfl)) ?_
  refine al_cons (eok_pure (pr_iconst dX3_init_63 (by decide))) ?_
  refine al_cons (ok_newi w_145 dX3_init_64) ?_
  refine al_cons (ok_putF rfl cl_X3 gX3 tyX3_ok nmX3 (by decide) w_346 rfl rfl (by decide +kernel) (kok_arr B .int) dX3_init_66) ?_
  refine al_cons (ok_retV rfl dX3_init_69) ?_
  exact al_nil
def k_X3_findsPlan (md : Bool) : List Ent := [ePure 0 (fLoadA 0 1 0),
  ePure 1 (fLoadA 1 1 1),
  ePure 2 (fLoadA 2 1 2),
  ePure 3 (fPush 3 1 (.int 0)),
  eCallV 4 3 27 3,
  ePure 7 (fLoadA 7 1 0),
  ePure 8 (fPush 8 1 (.int 0)),
  eCallS 9 2 28,
  ePure 12 (fLoadA 12 1 0),
  eGet 13 3 12,
  eRetZ 16]
set_option maxRecDepth 100000 in
set_option maxHeartbeats 4000000 in
theorem ko_X3_findsPlan {l : Launch} {D : va_G} {cA : Nat → ClassId} {B : BB} {G : State → Prop} {md : Bool} {d : Nat} {call : Call} (hG : ∀ s, G s → Gs B s) (hok : COk l D cA B G md d mI call) : ∀ e ∈ k_X3_findsPlan md, EOk l RX3 cX3_findsPlan 3 (some .boolean) false D cA B G md d call e := by
  unfold k_X3_findsPlan
  refine al_cons (eok_pure (pr_aload_n dX3_findsPlan_0 rfl)) ?_
  refine al_cons (eok_pure (pr_aload_n dX3_findsPlan_1 rfl)) ?_
  refine al_cons (eok_pure (pr_aload_n dX3_findsPlan_2 rfl)) ?_
  refine al_cons (eok_pure (pr_iconst dX3_findsPlan_3 (by decide))) ?_
  refine al_cons (ok_callV hok mi_27 cl_X3 w_735 w_737 w_21 w_79 w_738 na_27 (by decide) dX3_findsPlan_4) ?_
  refine al_cons (eok_pure (pr_aload_n dX3_findsPlan_7 rfl)) ?_
  refine al_cons (eok_pure (pr_iconst dX3_findsPlan_8 (by decide))) ?_
  refine al_cons (ok_callS hok mi_28 w_743 w_744 w_79 w_745 na_28 (by decide) dX3_findsPlan_9) ?_
  refine al_cons (eok_pure (pr_aload_n dX3_findsPlan_12 rfl)) ?_
  refine al_cons (ok_get cl_X3 gX3 (by decide) w_338 dX3_findsPlan_13) ?_
  refine al_cons (ok_retZ rfl dX3_findsPlan_16) ?_
  exact al_nil
def k_X3_fewestWashes (md : Bool) : List Ent := [ePure 0 (fLoadA 0 1 0),
  ePure 1 (fLoadA 1 1 1),
  ePure 2 (fLoadA 2 1 2),
  ePure 3 (fPush 3 1 (.int 1)),
  eCallV 4 3 27 3,
  ePure 7 (fLoadA 7 1 0),
  ePure 8 (fPush 8 1 (.int 0)),
  eCallS 9 2 28,
  ePure 12 (fLoadA 12 1 0),
  eGet 13 3 12,
  ePure 16 (fIf1 16 26 b1_eq),
  ePure 19 (fLoadA 19 1 0),
  eGet 20 3 13,
  ePure 23 (fGoto 27),
  ePure 26 (fPush 26 1 (.int (-1))),
  eRetI 27]
set_option maxRecDepth 100000 in
set_option maxHeartbeats 4000000 in
theorem ko_X3_fewestWashes {l : Launch} {D : va_G} {cA : Nat → ClassId} {B : BB} {G : State → Prop} {md : Bool} {d : Nat} {call : Call} (hG : ∀ s, G s → Gs B s) (hok : COk l D cA B G md d mI call) : ∀ e ∈ k_X3_fewestWashes md, EOk l RX3 cX3_fewestWashes 3 (some .int) false D cA B G md d call e := by
  unfold k_X3_fewestWashes
  refine al_cons (eok_pure (pr_aload_n dX3_fewestWashes_0 rfl)) ?_
  refine al_cons (eok_pure (pr_aload_n dX3_fewestWashes_1 rfl)) ?_
  refine al_cons (eok_pure (pr_aload_n dX3_fewestWashes_2 rfl)) ?_
  refine al_cons (eok_pure (pr_iconst dX3_fewestWashes_3 (by decide))) ?_
  refine al_cons (ok_callV hok mi_27 cl_X3 w_735 w_737 w_21 w_79 w_738 na_27 (by decide) dX3_fewestWashes_4) ?_
  refine al_cons (eok_pure (pr_aload_n dX3_fewestWashes_7 rfl)) ?_
  refine al_cons (eok_pure (pr_iconst dX3_fewestWashes_8 (by decide))) ?_
  refine al_cons (ok_callS hok mi_28 w_743 w_744 w_79 w_745 na_28 (by decide) dX3_fewestWashes_9) ?_
  refine al_cons (eok_pure (pr_aload_n dX3_fewestWashes_12 rfl)) ?_
  refine al_cons (ok_get cl_X3 gX3 (by decide) w_338 dX3_fewestWashes_13) ?_
  refine al_cons (eok_pure (pr_if_eq dX3_fewestWashes_16 (by decide))) ?_
  refine al_cons (eok_pure (pr_aload_n dX3_fewestWashes_19 rfl)) ?_
  refine al_cons (ok_get cl_X3 gX3 (by decide) w_339 dX3_fewestWashes_20) ?_
  refine al_cons (eok_pure (pr_goto dX3_fewestWashes_23 (by decide))) ?_
  refine al_cons (eok_pure (pr_iconst dX3_fewestWashes_26 (by decide))) ?_
  refine al_cons (ok_retI rfl dX3_fewestWashes_27) ?_
  exact al_nil
def k_X3_prepare (md : Bool) : List Ent := [ePure 0 (fLoadA 0 1 0),
  ePure 1 (fLoadA 1 1 1),
  ePut 2 3 2 kRef,
  ePure 5 (fLoadA 5 1 0),
  ePure 6 (fLoadA 6 1 2),
  ePut 7 3 3 kRef,
  ePure 10 (fLoadA 10 1 0),
  ePure 11 (fLoadI 11 1 3),
  ePut 12 3 4 kBool,
  ePure 15 (fLoadA 15 1 0),
  eGet 16 3 1,
  ePure 19 (fLoadA 19 1 0),
  eGet 20 3 3,
  eGet 23 5 0,
  eCallV 26 1 1 0,
  ePure 29 (fLoadA 29 1 0),
  ePure 30 (fPush 30 1 (.int 0)),
  ePut 31 3 10 kInt,
  ePure 34 (fLoadA 34 1 0),
  ePure 35 (fPush 35 1 (.int 0)),
  ePut 36 3 11 kInt,
  ePure 39 (fLoadA 39 1 0),
  ePure 40 (fPush 40 1 (.int 0)),
  ePut 41 3 12 kBool,
  ePure 44 (fLoadA 44 1 0),
  ePure 45 (fPush 45 1 (.int 0)),
  ePut 46 3 5 kInt,
  ePure 49 (fPush 49 1 (.int 0)),
  ePure 50 (fStoI 50 2 4 5),
  ePure 52 (fLoadI 52 2 4),
  ePure 54 (fLoadA 54 1 0),
  eGet 55 3 3,
  eGet 58 5 1,
  ePure 61 (fIf2 61 165 b2_ge),
  ePure 64 (fLoadA 64 1 0),
  eGet 65 3 5,
  ePure 68 (fPush 68 1 (.int 4)),
  ePure 69 (fIf2 69 165 b2_ge),
  ePure 72 (fLoadA 72 1 0),
  eGet 73 3 3,
  ePure 76 (fLoadA 76 1 0),
  eGet 77 3 2,
  ePure 80 (fLoadI 80 2 4),
  eCallV 82 2 58 5,
  ePure 85 (fIf1 85 159 b1_ne),
  ePure 88 (fLoadA 88 1 0),
  eGet 89 3 6,
  ePure 92 (fLoadA 92 1 0),
  eGet 93 3 5,
  ePure 96 (fLoadI 96 2 4),
  eIast 98 0 (fun x => x),
  ePure 99 (fLoadA 99 1 0),
  eGet 100 3 7,
  ePure 103 (fLoadA 103 1 0),
  eGet 104 3 5,
  ePure 107 (fLoadA 107 1 0),
  eGet 108 3 2,
  eGet 111 6 11,
  ePure 114 (fLoadI 114 2 4),
  eIald 116 0,
  ePure 117 (fLoadA 117 1 0),
  eGet 118 3 3,
  eGet 121 5 0,
  ePure 124 (fLoadI 124 2 4),
  eCallV 126 1 6 0,
  ePure 129 (fBin 129 o_isub),
  eIast 130 0 (fun x => x),
  ePure 131 (fLoadA 131 1 0),
  eGet 132 3 8,
  ePure 135 (fLoadA 135 1 0),
  eGet 136 3 5,
  ePure 139 (fLoadA 139 1 0),
  eGet 140 3 7,
  ePure 143 (fLoadA 143 1 0),
  eGet 144 3 5,
  eIald 147 0,
  eIast 148 0 (fun x => x),
  ePure 149 (fLoadA 149 1 0),
  ePure 150 (fDup 150),
  eGet 151 3 5,
  ePure 154 (fPush 154 1 (.int 1)),
  ePure 155 (fBin 155 o_iadd),
  ePut 156 3 5 kInt,
  ePure 159 (fInc 159 4 5 1),
  ePure 162 (fGoto 52),
  ePure 165 (fLoadA 165 1 0),
  eGet 166 3 9,
  ePure 169 (fLoadA 169 1 0),
  eGet 170 3 2,
  eGet 173 6 1,
  ePure 176 (fPush 176 1 (.int 0)),
  eIast 177 0 (fun x => x),
  ePure 178 (fLoadA 178 1 0),
  eGet 179 3 2,
  eGet 182 6 1,
  ePure 185 (fPush 185 1 (.int 1)),
  ePure 186 (fBin 186 o_isub),
  ePure 187 (fStoI 187 2 4 5),
  ePure 189 (fLoadI 189 2 4),
  ePure 191 (fIf1 191 243 b1_lt),
  ePure 194 (fLoadA 194 1 0),
  eGet 195 3 9,
  ePure 198 (fLoadI 198 2 4),
  ePure 200 (fLoadA 200 1 0),
  eGet 201 3 9,
  ePure 204 (fLoadI 204 2 4),
  ePure 206 (fPush 206 1 (.int 1)),
  ePure 207 (fBin 207 o_iadd),
  eIald 208 0,
  ePure 209 (fLoadA 209 1 0),
  eGet 210 3 1,
  eGet 213 0 0,
  ePure 216 (fLoadI 216 2 4),
  eIald 218 0,
  ePure 219 (fIf1 219 234 b1_ne),
  ePure 222 (fLoadA 222 1 0),
  eGet 223 3 2,
  ePure 226 (fLoadI 226 2 4),
  eCallV 228 1 65 6,
  ePure 231 (fGoto 235),
  ePure 234 (fPush 234 1 (.int 0)),
  ePure 235 (fBin 235 o_iadd),
  eIast 236 0 (fun x => x),
  ePure 237 (fInc 237 4 5 (-1)),
  ePure 240 (fGoto 189),
  eRetV 243]
set_option maxRecDepth 100000 in
set_option maxHeartbeats 4000000 in
theorem ko_X3_prepare {l : Launch} {D : va_G} {cA : Nat → ClassId} {B : BB} {G : State → Prop} {md : Bool} {d : Nat} {call : Call} (hG : ∀ s, G s → Gs B s) (hok : COk l D cA B G md d mI call) : ∀ e ∈ k_X3_prepare md, EOk l RX3 cX3_prepare 5 none false D cA B G md d call e := by
  unfold k_X3_prepare
  refine al_cons (eok_pure (pr_aload_n dX3_prepare_0 rfl)) ?_
  refine al_cons (eok_pure (pr_aload_n dX3_prepare_1 rfl)) ?_
  refine al_cons (ok_put cl_X3 gX3 tyX3_ok nmX3 (by decide) w_328 rfl (by decide +kernel) (kok_obj B "TankerDesk$Told") dX3_prepare_2) ?_
  refine al_cons (eok_pure (pr_aload_n dX3_prepare_5 rfl)) ?_
  refine al_cons (eok_pure (pr_aload_n dX3_prepare_6 rfl)) ?_
  refine al_cons (ok_put cl_X3 gX3 tyX3_ok nmX3 (by decide) w_329 rfl (by decide +kernel) (kok_obj B "TankerDesk$State") dX3_prepare_7) ?_
  refine al_cons (eok_pure (pr_aload_n dX3_prepare_10 rfl)) ?_
  refine al_cons (eok_pure (pr_iload_n dX3_prepare_11 rfl)) ?_
  refine al_cons (ok_put cl_X3 gX3 tyX3_ok nmX3 (by decide) w_330 rfl (by decide +kernel) (kok_bool B) dX3_prepare_12) ?_
  refine al_cons (eok_pure (pr_aload_n dX3_prepare_15 rfl)) ?_
  refine al_cons (ok_get cl_X3 gX3 (by decide) w_327 dX3_prepare_16) ?_
  refine al_cons (eok_pure (pr_aload_n dX3_prepare_19 rfl)) ?_
  refine al_cons (ok_get cl_X3 gX3 (by decide) w_329 dX3_prepare_20) ?_
  refine al_cons (ok_get cl_X5 gX5 (by decide) w_253 dX3_prepare_23) ?_
  refine al_cons (ok_callV hok mi_1 cl_X0 w_739 w_661 w_662 w_76 w_663 na_1 (by decide) dX3_prepare_26) ?_
  refine al_cons (eok_pure (pr_aload_n dX3_prepare_29 rfl)) ?_
  refine al_cons (eok_pure (pr_iconst dX3_prepare_30 (by decide))) ?_
  refine al_cons (ok_put cl_X3 gX3 tyX3_ok nmX3 (by decide) w_336 rfl (by decide +kernel) (kok_int B) dX3_prepare_31) ?_
  refine al_cons (eok_pure (pr_aload_n dX3_prepare_34 rfl)) ?_
  refine al_cons (eok_pure (pr_iconst dX3_prepare_35 (by decide))) ?_
  refine al_cons (ok_put cl_X3 gX3 tyX3_ok nmX3 (by decide) w_337 rfl (by decide +kernel) (kok_int B) dX3_prepare_36) ?_
  refine al_cons (eok_pure (pr_aload_n dX3_prepare_39 rfl)) ?_
  refine al_cons (eok_pure (pr_iconst dX3_prepare_40 (by decide))) ?_
  refine al_cons (ok_put cl_X3 gX3 tyX3_ok nmX3 (by decide) w_338 rfl (by decide +kernel) (kok_bool B) dX3_prepare_41) ?_
  refine al_cons (eok_pure (pr_aload_n dX3_prepare_44 rfl)) ?_
  refine al_cons (eok_pure (pr_iconst dX3_prepare_45 (by decide))) ?_
  refine al_cons (ok_put cl_X3 gX3 tyX3_ok nmX3 (by decide) w_331 rfl (by decide +kernel) (kok_int B) dX3_prepare_46) ?_
  refine al_cons (eok_pure (pr_iconst dX3_prepare_49 (by decide))) ?_
  refine al_cons (eok_pure (pr_istore dX3_prepare_50)) ?_
  refine al_cons (eok_pure (pr_iload dX3_prepare_52)) ?_
  refine al_cons (eok_pure (pr_aload_n dX3_prepare_54 rfl)) ?_
  refine al_cons (ok_get cl_X3 gX3 (by decide) w_329 dX3_prepare_55) ?_
  refine al_cons (ok_get cl_X5 gX5 (by decide) w_256 dX3_prepare_58) ?_
  refine al_cons (eok_pure (pr_icmp_ge dX3_prepare_61 (by decide))) ?_
  refine al_cons (eok_pure (pr_aload_n dX3_prepare_64 rfl)) ?_
  refine al_cons (ok_get cl_X3 gX3 (by decide) w_331 dX3_prepare_65) ?_
  refine al_cons (eok_pure (pr_iconst dX3_prepare_68 (by decide))) ?_
  refine al_cons (eok_pure (pr_icmp_ge dX3_prepare_69 (by decide))) ?_
  refine al_cons (eok_pure (pr_aload_n dX3_prepare_72 rfl)) ?_
  refine al_cons (ok_get cl_X3 gX3 (by decide) w_329 dX3_prepare_73) ?_
  refine al_cons (eok_pure (pr_aload_n dX3_prepare_76 rfl)) ?_
  refine al_cons (ok_get cl_X3 gX3 (by decide) w_328 dX3_prepare_77) ?_
  refine al_cons (eok_pure (pr_iload dX3_prepare_80)) ?_
  refine al_cons (ok_callV hok mi_58 cl_X5 w_740 w_722 w_723 w_75 w_724 na_58 (by decide) dX3_prepare_82) ?_
  refine al_cons (eok_pure (pr_if_ne dX3_prepare_85 (by decide))) ?_
  refine al_cons (eok_pure (pr_aload_n dX3_prepare_88 rfl)) ?_
  refine al_cons (ok_get cl_X3 gX3 (by decide) w_332 dX3_prepare_89) ?_
  refine al_cons (eok_pure (pr_aload_n dX3_prepare_92 rfl)) ?_
  refine al_cons (ok_get cl_X3 gX3 (by decide) w_331 dX3_prepare_93) ?_
  refine al_cons (eok_pure (pr_iload dX3_prepare_96)) ?_
  refine al_cons (ok_iast dX3_prepare_98) ?_
  refine al_cons (eok_pure (pr_aload_n dX3_prepare_99 rfl)) ?_
  refine al_cons (ok_get cl_X3 gX3 (by decide) w_333 dX3_prepare_100) ?_
  refine al_cons (eok_pure (pr_aload_n dX3_prepare_103 rfl)) ?_
  refine al_cons (ok_get cl_X3 gX3 (by decide) w_331 dX3_prepare_104) ?_
  refine al_cons (eok_pure (pr_aload_n dX3_prepare_107 rfl)) ?_
  refine al_cons (ok_get cl_X3 gX3 (by decide) w_328 dX3_prepare_108) ?_
  refine al_cons (ok_get cl_X6 gX6 (by decide) w_192 dX3_prepare_111) ?_
  refine al_cons (eok_pure (pr_iload dX3_prepare_114)) ?_
  refine al_cons (ok_iald dX3_prepare_116) ?_
  refine al_cons (eok_pure (pr_aload_n dX3_prepare_117 rfl)) ?_
  refine al_cons (ok_get cl_X3 gX3 (by decide) w_329 dX3_prepare_118) ?_
  refine al_cons (ok_get cl_X5 gX5 (by decide) w_253 dX3_prepare_121) ?_
  refine al_cons (eok_pure (pr_iload dX3_prepare_124)) ?_
  refine al_cons (ok_callV hok mi_6 cl_X0 w_741 w_681 w_682 w_76 w_683 na_6 (by decide) dX3_prepare_126) ?_
  refine al_cons (eok_pure (pr_isub dX3_prepare_129)) ?_
  refine al_cons (ok_iast dX3_prepare_130) ?_
  refine al_cons (eok_pure (pr_aload_n dX3_prepare_131 rfl)) ?_
  refine al_cons (ok_get cl_X3 gX3 (by decide) w_334 dX3_prepare_132) ?_
  refine al_cons (eok_pure (pr_aload_n dX3_prepare_135 rfl)) ?_
  refine al_cons (ok_get cl_X3 gX3 (by decide) w_331 dX3_prepare_136) ?_
  refine al_cons (eok_pure (pr_aload_n dX3_prepare_139 rfl)) ?_
  refine al_cons (ok_get cl_X3 gX3 (by decide) w_333 dX3_prepare_140) ?_
  refine al_cons (eok_pure (pr_aload_n dX3_prepare_143 rfl)) ?_
  refine al_cons (ok_get cl_X3 gX3 (by decide) w_331 dX3_prepare_144) ?_
  refine al_cons (ok_iald dX3_prepare_147) ?_
  refine al_cons (ok_iast dX3_prepare_148) ?_
  refine al_cons (eok_pure (pr_aload_n dX3_prepare_149 rfl)) ?_
  refine al_cons (eok_pure (pr_dup dX3_prepare_150)) ?_
  refine al_cons (ok_get cl_X3 gX3 (by decide) w_331 dX3_prepare_151) ?_
  refine al_cons (eok_pure (pr_iconst dX3_prepare_154 (by decide))) ?_
  refine al_cons (eok_pure (pr_iadd dX3_prepare_155)) ?_
  refine al_cons (ok_put cl_X3 gX3 tyX3_ok nmX3 (by decide) w_331 rfl (by decide +kernel) (kok_int B) dX3_prepare_156) ?_
  refine al_cons (eok_pure (pr_iinc dX3_prepare_159 (by decide))) ?_
  refine al_cons (eok_pure (pr_goto dX3_prepare_162 (by decide))) ?_
  refine al_cons (eok_pure (pr_aload_n dX3_prepare_165 rfl)) ?_
  refine al_cons (ok_get cl_X3 gX3 (by decide) w_335 dX3_prepare_166) ?_
  refine al_cons (eok_pure (pr_aload_n dX3_prepare_169 rfl)) ?_
  refine al_cons (ok_get cl_X3 gX3 (by decide) w_328 dX3_prepare_170) ?_
  refine al_cons (ok_get cl_X6 gX6 (by decide) w_156 dX3_prepare_173) ?_
  refine al_cons (eok_pure (pr_iconst dX3_prepare_176 (by decide))) ?_
  refine al_cons (ok_iast dX3_prepare_177) ?_
  refine al_cons (eok_pure (pr_aload_n dX3_prepare_178 rfl)) ?_
  refine al_cons (ok_get cl_X3 gX3 (by decide) w_328 dX3_prepare_179) ?_
  refine al_cons (ok_get cl_X6 gX6 (by decide) w_156 dX3_prepare_182) ?_
  refine al_cons (eok_pure (pr_iconst dX3_prepare_185 (by decide))) ?_
  refine al_cons (eok_pure (pr_isub dX3_prepare_186)) ?_
  refine al_cons (eok_pure (pr_istore dX3_prepare_187)) ?_
  refine al_cons (eok_pure (pr_iload dX3_prepare_189)) ?_
  refine al_cons (eok_pure (pr_if_lt dX3_prepare_191 (by decide))) ?_
  refine al_cons (eok_pure (pr_aload_n dX3_prepare_194 rfl)) ?_
  refine al_cons (ok_get cl_X3 gX3 (by decide) w_335 dX3_prepare_195) ?_
  refine al_cons (eok_pure (pr_iload dX3_prepare_198)) ?_
  refine al_cons (eok_pure (pr_aload_n dX3_prepare_200 rfl)) ?_
  refine al_cons (ok_get cl_X3 gX3 (by decide) w_335 dX3_prepare_201) ?_
  refine al_cons (eok_pure (pr_iload dX3_prepare_204)) ?_
  refine al_cons (eok_pure (pr_iconst dX3_prepare_206 (by decide))) ?_
  refine al_cons (eok_pure (pr_iadd dX3_prepare_207)) ?_
  refine al_cons (ok_iald dX3_prepare_208) ?_
  refine al_cons (eok_pure (pr_aload_n dX3_prepare_209 rfl)) ?_
  refine al_cons (ok_get cl_X3 gX3 (by decide) w_327 dX3_prepare_210) ?_
  refine al_cons (ok_get cl_X0 gX0 (by decide) w_234 dX3_prepare_213) ?_
  refine al_cons (eok_pure (pr_iload dX3_prepare_216)) ?_
  refine al_cons (ok_iald dX3_prepare_218) ?_
  refine al_cons (eok_pure (pr_if_ne dX3_prepare_219 (by decide))) ?_
  refine al_cons (eok_pure (pr_aload_n dX3_prepare_222 rfl)) ?_
  refine al_cons (ok_get cl_X3 gX3 (by decide) w_328 dX3_prepare_223) ?_
  refine al_cons (eok_pure (pr_iload dX3_prepare_226)) ?_
  refine al_cons (ok_callV hok mi_65 cl_X6 w_742 w_641 w_642 w_74 w_643 na_65 (by decide) dX3_prepare_228) ?_
  refine al_cons (eok_pure (pr_goto dX3_prepare_231 (by decide))) ?_
  refine al_cons (eok_pure (pr_iconst dX3_prepare_234 (by decide))) ?_
  refine al_cons (eok_pure (pr_iadd dX3_prepare_235)) ?_
  refine al_cons (ok_iast dX3_prepare_236) ?_
  refine al_cons (eok_pure (pr_iinc dX3_prepare_237 (by decide))) ?_
  refine al_cons (eok_pure (pr_goto dX3_prepare_240 (by decide))) ?_
  refine al_cons (ok_retV rfl dX3_prepare_243) ?_
  exact al_nil
def k_X3_deal (md : Bool) : List Ent := [ePure 0 (fLoadA 0 1 0),
  ePure 1 (fLoadI 1 1 1),
  eCallV 2 1 29 3,
  ePure 5 (fIf1 5 9 b1_eq),
  eRetV 8,
  ePure 9 (fLoadI 9 1 1),
  ePure 10 (fLoadA 10 1 0),
  eGet 11 3 2,
  eGet 14 6 1,
  ePure 17 (fIf2 17 25 b2_lt),
  ePure 20 (fLoadA 20 1 0),
  eCallV 21 0 32 3,
  eRetV 24,
  ePure 25 (fLoadA 25 1 0),
  eGet 26 3 1,
  eGet 29 0 0,
  ePure 32 (fLoadI 32 1 1),
  eIald 33 0,
  ePure 34 (fIf1 34 75 b1_ne),
  ePure 37 (fPush 37 1 (.int 0)),
  ePure 38 (fStoI 38 1 2 3),
  ePure 39 (fLoadI 39 1 2),
  ePure 40 (fLoadA 40 1 0),
  eGet 41 3 5,
  ePure 44 (fIf2 44 75 b2_ge),
  ePure 47 (fLoadA 47 1 0),
  ePure 48 (fLoadI 48 1 1),
  ePure 49 (fLoadI 49 1 2),
  eCallV 50 2 30 3,
  ePure 53 (fIf1 53 69 b1_eq),
  ePure 56 (fLoadA 56 1 0),
  ePure 57 (fLoadI 57 1 1),
  ePure 58 (fPush 58 1 (.int 1)),
  ePure 59 (fBin 59 o_iadd),
  eCallS 60 2 28,
  ePure 63 (fLoadA 63 1 0),
  ePure 64 (fLoadI 64 1 1),
  ePure 65 (fLoadI 65 1 2),
  eCallV 66 2 31 3,
  ePure 69 (fInc 69 2 3 1),
  ePure 72 (fGoto 39),
  ePure 75 (fLoadA 75 1 0),
  ePure 76 (fLoadI 76 1 1),
  ePure 77 (fPush 77 1 (.int 1)),
  ePure 78 (fBin 78 o_iadd),
  eCallS 79 2 28,
  eRetV 82]
set_option maxRecDepth 100000 in
set_option maxHeartbeats 4000000 in
theorem ko_X3_deal {l : Launch} {D : va_G} {cA : Nat → ClassId} {B : BB} {G : State → Prop} {md : Bool} {d : Nat} {call : Call} (hG : ∀ s, G s → Gs B s) (hok : COk l D cA B G md d mI call) : ∀ e ∈ k_X3_deal md, EOk l RX3 cX3_deal 3 none false D cA B G md d call e := by
  unfold k_X3_deal
  refine al_cons (eok_pure (pr_aload_n dX3_deal_0 rfl)) ?_
  refine al_cons (eok_pure (pr_iload_n dX3_deal_1 rfl)) ?_
  refine al_cons (ok_callV hok mi_29 cl_X3 w_746 w_748 w_22 w_79 w_749 na_29 (by decide) dX3_deal_2) ?_
  refine al_cons (eok_pure (pr_if_eq dX3_deal_5 (by decide))) ?_
  refine al_cons (ok_retV rfl dX3_deal_8) ?_
  refine al_cons (eok_pure (pr_iload_n dX3_deal_9 rfl)) ?_
  refine al_cons (eok_pure (pr_aload_n dX3_deal_10 rfl)) ?_
  refine al_cons (ok_get cl_X3 gX3 (by decide) w_328 dX3_deal_11) ?_
  refine al_cons (ok_get cl_X6 gX6 (by decide) w_156 dX3_deal_14) ?_
  refine al_cons (eok_pure (pr_icmp_lt dX3_deal_17 (by decide))) ?_
  refine al_cons (eok_pure (pr_aload_n dX3_deal_20 rfl)) ?_
  refine al_cons (ok_callV hok mi_32 cl_X3 w_750 w_752 w_23 w_79 w_753 na_32 (by decide) dX3_deal_21) ?_
  refine al_cons (ok_retV rfl dX3_deal_24) ?_
  refine al_cons (eok_pure (pr_aload_n dX3_deal_25 rfl)) ?_
  refine al_cons (ok_get cl_X3 gX3 (by decide) w_327 dX3_deal_26) ?_
  refine al_cons (ok_get cl_X0 gX0 (by decide) w_234 dX3_deal_29) ?_
  refine al_cons (eok_pure (pr_iload_n dX3_deal_32 rfl)) ?_
  refine al_cons (ok_iald dX3_deal_33) ?_
  refine al_cons (eok_pure (pr_if_ne dX3_deal_34 (by decide))) ?_
  refine al_cons (eok_pure (pr_iconst dX3_deal_37 (by decide))) ?_
  refine al_cons (eok_pure (pr_istore_n dX3_deal_38 rfl)) ?_
  refine al_cons (eok_pure (pr_iload_n dX3_deal_39 rfl)) ?_
  refine al_cons (eok_pure (pr_aload_n dX3_deal_40 rfl)) ?_
  refine al_cons (ok_get cl_X3 gX3 (by decide) w_331 dX3_deal_41) ?_
  refine al_cons (eok_pure (pr_icmp_ge dX3_deal_44 (by decide))) ?_
  refine al_cons (eok_pure (pr_aload_n dX3_deal_47 rfl)) ?_
  refine al_cons (eok_pure (pr_iload_n dX3_deal_48 rfl)) ?_
  refine al_cons (eok_pure (pr_iload_n dX3_deal_49 rfl)) ?_
  refine al_cons (ok_callV hok mi_30 cl_X3 w_764 w_766 w_26 w_79 w_767 na_30 (by decide) dX3_deal_50) ?_
  refine al_cons (eok_pure (pr_if_eq dX3_deal_53 (by decide))) ?_
  refine al_cons (eok_pure (pr_aload_n dX3_deal_56 rfl)) ?_
  refine al_cons (eok_pure (pr_iload_n dX3_deal_57 rfl)) ?_
  refine al_cons (eok_pure (pr_iconst dX3_deal_58 (by decide))) ?_
  refine al_cons (eok_pure (pr_iadd dX3_deal_59)) ?_
  refine al_cons (ok_callS hok mi_28 w_743 w_744 w_79 w_745 na_28 (by decide) dX3_deal_60) ?_
  refine al_cons (eok_pure (pr_aload_n dX3_deal_63 rfl)) ?_
  refine al_cons (eok_pure (pr_iload_n dX3_deal_64 rfl)) ?_
  refine al_cons (eok_pure (pr_iload_n dX3_deal_65 rfl)) ?_
  refine al_cons (ok_callV hok mi_31 cl_X3 w_773 w_775 w_27 w_79 w_776 na_31 (by decide) dX3_deal_66) ?_
  refine al_cons (eok_pure (pr_iinc dX3_deal_69 (by decide))) ?_
  refine al_cons (eok_pure (pr_goto dX3_deal_72 (by decide))) ?_
  refine al_cons (eok_pure (pr_aload_n dX3_deal_75 rfl)) ?_
  refine al_cons (eok_pure (pr_iload_n dX3_deal_76 rfl)) ?_
  refine al_cons (eok_pure (pr_iconst dX3_deal_77 (by decide))) ?_
  refine al_cons (eok_pure (pr_iadd dX3_deal_78)) ?_
  refine al_cons (ok_callS hok mi_28 w_743 w_744 w_79 w_745 na_28 (by decide) dX3_deal_79) ?_
  refine al_cons (ok_retV rfl dX3_deal_82) ?_
  exact al_nil
