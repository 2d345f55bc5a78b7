def codeL (md : Bool) : List (List Ent) := [k_X0_init md, k_X0_copyFrom md, k_X0_begin md, k_X0_lay md, k_X0_takeOut md, k_X0_takeOutAll md, k_X0_loaded md, k_X0_partsOf md, k_X0_standing md, k_X0_frontLoad md, k_X0_rearLoad md, k_X0_surges md, k_X0_isIn md, k_X1_init md, k_X1_forget md, k_X1_keep md, k_X1_goBack md, k_X2_init md, k_X2_count md, k_X2_dropOfFirst md, k_X2_collect md, k_X2_partsOfAll md, k_X2_waysBehind md, k_X2_leastBehind md, k_X3_init md, k_X3_findsPlan md, k_X3_fewestWashes md, k_X3_prepare md, k_X3_deal md, k_X3_isHopeless md, k_X3_gives md, k_X3_takeBack md, k_X3_consider md, k_X3_isBetter md, k_X3_keepDeal md, k_X4_init md, k_X4_reads md, k_X4_refuse md, k_X4_readSign md, k_X4_readTanker md, k_X4_readOther md, k_X4_sortOfWord md, k_X4_readCompartment md, k_X4_readLiquid md, k_X4_readBar md, k_X4_readLast md, k_X4_readDrop md, k_X4_readNumber md, k_X4_isWord md, k_X4_advance md, k_X4_advanceRun md, k_X4_isLetter md, k_X4_isDigit md, k_X5_init md, k_X5_begin md, k_X5_addDrop md, k_X5_copyFrom md, k_X5_hasDrop md, k_X5_how md, k_X5_shortOf md, k_X5_waiting md, k_X6_init md, k_X6_clear md, k_X6_hasCompartment md, k_X6_hasLiquid md, k_X6_top md, k_X6_bar md, k_X6_isBarred md, k_X7_init md, k_X7_feed md, k_X7_end md, k_X7_text md, k_X7_fault md, k_X7_now md, k_X7_compartment md, k_X7_drop md, k_X7_may md, k_X7_would md, k_X7_orders md, k_X7_ordered md, k_X7_without md, k_X7_plan md, k_X7_washes md, k_X7_asks md, k_X7_cancel md, k_X7_put md, k_X7_load md, k_X7_unload md, k_X7_empty md, k_X7_wash md, k_X7_undo md, k_X7_tapeNumber md, k_X7_isSo md, k_X8_refuse md, k_X8_isIn md, k_X8_has md, k_X8_lays md, k_X8_feed md, k_X8_end md, k_X8_tapeAt md, k_X8_isDigit md, k_X8_isLetter md, k_X8_go md, k_X8_three md, k_X8_six md, k_X8_four md, k_X8_isWord md, k_X8_bad md, k_X8_init md, k_X8_told md, k_X8_oneOf md, k_X8_readTanker md, k_X8_readHold md, k_X8_readLiquid md, k_X8_readBar md, k_X8_readLast md, k_X8_readDrop md, k_X8_readLine md, k_X8_readEnd md, k_X8_text md, k_X8_fault md, k_X8_isHold md, k_X8_isLiquid md, k_X8_isDrop md, k_X8_holds md, k_X8_its md, k_X8_top md, k_X8_lastIn md, k_X8_mayCome md, k_X8_loadedOf md, k_X8_having md, k_X8_laysNow md, k_X8_muchBut md, k_X8_front md, k_X8_rear md, k_X8_stands md, k_X8_ordersFrom md, k_X8_ordersOf md, k_X8_aboardNow md, k_X8_now md, k_X8_bars md, k_X8_compartment md, k_X8_drop md, k_X8_may md, k_X8_would md, k_X8_orders md, k_X8_ordered md, k_X8_without md, k_X8_pours md, k_X8_looks md, k_X8_tries md, k_X8_laysPlan md, k_X8_plan md, k_X8_washes md, k_X8_snap md, k_X8_asks md, k_X8_cancel md, k_X8_puts md, k_X8_put md, k_X8_load md, k_X8_goes md, k_X8_unload md, k_X8_empty md, k_X8_wash md, k_X8_undo md, k_J7_fill_53178 md, k_J13_bitCount_95d88 md, k_J0_length_8abf5 md, k_J0_coder_7d493 md, k_J0_charAt_5068e md, k_J0_isLatin1_aae02 md, k_J0_checkIndex_df160 md, k_J1_charAt_3b067 md, k_J3_checkIndex_8e157 md]
def codeT (md : Bool) (id : Nat) : List Ent := (codeL md).getD id []
theorem mk_0 {l : Launch} {D : va_G} {cA : Nat → ClassId} {B : BB} {G : State → Prop} {md : Bool} (hG : ∀ s, G s → Gs B s) : MOk l D cA B G md mI (codeT md) 0 := Or.inr ⟨(by decide +kernel : plainName yX0_init.cls = true), fun _ => rfl, fun d call hok => ko_X0_init hG hok⟩
theorem mk_1 {l : Launch} {D : va_G} {cA : Nat → ClassId} {B : BB} {G : State → Prop} {md : Bool} (hG : ∀ s, G s → Gs B s) : MOk l D cA B G md mI (codeT md) 1 := Or.inr ⟨(by decide +kernel : plainName yX0_copyFrom.cls = true), fun z => Bool.noConfusion z, fun d call hok => ko_X0_copyFrom hG hok⟩
theorem mk_2 {l : Launch} {D : va_G} {cA : Nat → ClassId} {B : BB} {G : State → Prop} {md : Bool} (hG : ∀ s, G s → Gs B s) : MOk l D cA B G md mI (codeT md) 2 := Or.inr ⟨(by decide +kernel : plainName yX0_begin.cls = true), fun z => Bool.noConfusion z, fun d call hok => ko_X0_begin hG hok⟩
theorem mk_3 {l : Launch} {D : va_G} {cA : Nat → ClassId} {B : BB} {G : State → Prop} {md : Bool} (hG : ∀ s, G s → Gs B s) : MOk l D cA B G md mI (codeT md) 3 := Or.inr ⟨(by decide +kernel : plainName yX0_lay.cls = true), fun z => Bool.noConfusion z, fun d call hok => ko_X0_lay hG hok⟩
theorem mk_4 {l : Launch} {D : va_G} {cA : Nat → ClassId} {B : BB} {G : State → Prop} {md : Bool} (hG : ∀ s, G s → Gs B s) : MOk l D cA B G md mI (codeT md) 4 := Or.inr ⟨(by decide +kernel : plainName yX0_takeOut.cls = true), fun z => Bool.noConfusion z, fun d call hok => ko_X0_takeOut hG hok⟩
theorem mk_5 {l : Launch} {D : va_G} {cA : Nat → ClassId} {B : BB} {G : State → Prop} {md : Bool} (hG : ∀ s, G s → Gs B s) : MOk l D cA B G md mI (codeT md) 5 := Or.inr ⟨(by decide +kernel : plainName yX0_takeOutAll.cls = true), fun z => Bool.noConfusion z, fun d call hok => ko_X0_takeOutAll hG hok⟩
theorem mk_6 {l : Launch} {D : va_G} {cA : Nat → ClassId} {B : BB} {G : State → Prop} {md : Bool} (hG : ∀ s, G s → Gs B s) : MOk l D cA B G md mI (codeT md) 6 := Or.inr ⟨(by decide +kernel : plainName yX0_loaded.cls = true), fun z => Bool.noConfusion z, fun d call hok => ko_X0_loaded hG hok⟩
theorem mk_7 {l : Launch} {D : va_G} {cA : Nat → ClassId} {B : BB} {G : State → Prop} {md : Bool} (hG : ∀ s, G s → Gs B s) : MOk l D cA B G md mI (codeT md) 7 := Or.inr ⟨(by decide +kernel : plainName yX0_partsOf.cls = true), fun z => Bool.noConfusion z, fun d call hok => ko_X0_partsOf hG hok⟩
theorem mk_8 {l : Launch} {D : va_G} {cA : Nat → ClassId} {B : BB} {G : State → Prop} {md : Bool} (hG : ∀ s, G s → Gs B s) : MOk l D cA B G md mI (codeT md) 8 := Or.inr ⟨(by decide +kernel : plainName yX0_standing.cls = true), fun z => Bool.noConfusion z, fun d call hok => ko_X0_standing hG hok⟩
theorem mk_9 {l : Launch} {D : va_G} {cA : Nat → ClassId} {B : BB} {G : State → Prop} {md : Bool} (hG : ∀ s, G s → Gs B s) : MOk l D cA B G md mI (codeT md) 9 := Or.inr ⟨(by decide +kernel : plainName yX0_frontLoad.cls = true), fun z => Bool.noConfusion z, fun d call hok => ko_X0_frontLoad hG hok⟩
theorem mk_10 {l : Launch} {D : va_G} {cA : Nat → ClassId} {B : BB} {G : State → Prop} {md : Bool} (hG : ∀ s, G s → Gs B s) : MOk l D cA B G md mI (codeT md) 10 := Or.inr ⟨(by decide +kernel : plainName yX0_rearLoad.cls = true), fun z => Bool.noConfusion z, fun d call hok => ko_X0_rearLoad hG hok⟩
theorem mk_11 {l : Launch} {D : va_G} {cA : Nat → ClassId} {B : BB} {G : State → Prop} {md : Bool} (hG : ∀ s, G s → Gs B s) : MOk l D cA B G md mI (codeT md) 11 := Or.inr ⟨(by decide +kernel : plainName yX0_surges.cls = true), fun z => Bool.noConfusion z, fun d call hok => ko_X0_surges hG hok⟩
theorem mk_12 {l : Launch} {D : va_G} {cA : Nat → ClassId} {B : BB} {G : State → Prop} {md : Bool} (hG : ∀ s, G s → Gs B s) : MOk l D cA B G md mI (codeT md) 12 := Or.inr ⟨(by decide +kernel : plainName yX0_isIn.cls = true), fun z => Bool.noConfusion z, fun d call hok => ko_X0_isIn hG hok⟩
theorem mk_13 {l : Launch} {D : va_G} {cA : Nat → ClassId} {B : BB} {G : State → Prop} {md : Bool} (hG : ∀ s, G s → Gs B s) : MOk l D cA B G md mI (codeT md) 13 := Or.inr ⟨(by decide +kernel : plainName yX1_init.cls = true), fun _ => rfl, fun d call hok => ko_X1_init hG hok⟩
theorem mk_14 {l : Launch} {D : va_G} {cA : Nat → ClassId} {B : BB} {G : State → Prop} {md : Bool} (hG : ∀ s, G s → Gs B s) : MOk l D cA B G md mI (codeT md) 14 := Or.inr ⟨(by decide +kernel : plainName yX1_forget.cls = true), fun z => Bool.noConfusion z, fun d call hok => ko_X1_forget hG hok⟩
theorem mk_15 {l : Launch} {D : va_G} {cA : Nat → ClassId} {B : BB} {G : State → Prop} {md : Bool} (hG : ∀ s, G s → Gs B s) : MOk l D cA B G md mI (codeT md) 15 := Or.inr ⟨(by decide +kernel : plainName yX1_keep.cls = true), fun z => Bool.noConfusion z, fun d call hok => ko_X1_keep hG hok⟩
theorem mk_16 {l : Launch} {D : va_G} {cA : Nat → ClassId} {B : BB} {G : State → Prop} {md : Bool} (hG : ∀ s, G s → Gs B s) : MOk l D cA B G md mI (codeT md) 16 := Or.inr ⟨(by decide +kernel : plainName yX1_goBack.cls = true), fun z => Bool.noConfusion z, fun d call hok => ko_X1_goBack hG hok⟩
theorem mk_17 {l : Launch} {D : va_G} {cA : Nat → ClassId} {B : BB} {G : State → Prop} {md : Bool} (hG : ∀ s, G s → Gs B s) : MOk l D cA B G md mI (codeT md) 17 := Or.inr ⟨(by decide +kernel : plainName yX2_init.cls = true), fun _ => rfl, fun d call hok => ko_X2_init hG hok⟩
theorem mk_18 {l : Launch} {D : va_G} {cA : Nat → ClassId} {B : BB} {G : State → Prop} {md : Bool} (hG : ∀ s, G s → Gs B s) : MOk l D cA B G md mI (codeT md) 18 := Or.inr ⟨(by decide +kernel : plainName yX2_count.cls = true), fun z => Bool.noConfusion z, fun d call hok => ko_X2_count hG hok⟩
theorem mk_19 {l : Launch} {D : va_G} {cA : Nat → ClassId} {B : BB} {G : State → Prop} {md : Bool} (hG : ∀ s, G s → Gs B s) : MOk l D cA B G md mI (codeT md) 19 := Or.inr ⟨(by decide +kernel : plainName yX2_dropOfFirst.cls = true), fun z => Bool.noConfusion z, fun d call hok => ko_X2_dropOfFirst hG hok⟩
theorem mk_20 {l : Launch} {D : va_G} {cA : Nat → ClassId} {B : BB} {G : State → Prop} {md : Bool} (hG : ∀ s, G s → Gs B s) : MOk l D cA B G md mI (codeT md) 20 := Or.inr ⟨(by decide +kernel : plainName yX2_collect.cls = true), fun z => Bool.noConfusion z, fun d call hok => ko_X2_collect hG hok⟩
theorem mk_21 {l : Launch} {D : va_G} {cA : Nat → ClassId} {B : BB} {G : State → Prop} {md : Bool} (hG : ∀ s, G s → Gs B s) : MOk l D cA B G md mI (codeT md) 21 := Or.inr ⟨(by decide +kernel : plainName yX2_partsOfAll.cls = true), fun z => Bool.noConfusion z, fun d call hok => ko_X2_partsOfAll hG hok⟩
theorem mk_22 {l : Launch} {D : va_G} {cA : Nat → ClassId} {B : BB} {G : State → Prop} {md : Bool} (hG : ∀ s, G s → Gs B s) : MOk l D cA B G md mI (codeT md) 22 := Or.inr ⟨(by decide +kernel : plainName yX2_waysBehind.cls = true), fun z => Bool.noConfusion z, fun d call hok => ko_X2_waysBehind hG hok⟩
theorem mk_23 {l : Launch} {D : va_G} {cA : Nat → ClassId} {B : BB} {G : State → Prop} {md : Bool} (hG : ∀ s, G s → Gs B s) : MOk l D cA B G md mI (codeT md) 23 := Or.inr ⟨(by decide +kernel : plainName yX2_leastBehind.cls = true), fun z => Bool.noConfusion z, fun d call hok => ko_X2_leastBehind hG hok⟩
theorem mk_24 {l : Launch} {D : va_G} {cA : Nat → ClassId} {B : BB} {G : State → Prop} {md : Bool} (hG : ∀ s, G s → Gs B s) : MOk l D cA B G md mI (codeT md) 24 := Or.inr ⟨(by decide +kernel : plainName yX3_init.cls = true), fun _ => rfl, fun d call hok => ko_X3_init hG hok⟩
theorem mk_25 {l : Launch} {D : va_G} {cA : Nat → ClassId} {B : BB} {G : State → Prop} {md : Bool} (hG : ∀ s, G s → Gs B s) : MOk l D cA B G md mI (codeT md) 25 := Or.inr ⟨(by decide +kernel : plainName yX3_findsPlan.cls = true), fun z => Bool.noConfusion z, fun d call hok => ko_X3_findsPlan hG hok⟩
theorem mk_26 {l : Launch} {D : va_G} {cA : Nat → ClassId} {B : BB} {G : State → Prop} {md : Bool} (hG : ∀ s, G s → Gs B s) : MOk l D cA B G md mI (codeT md) 26 := Or.inr ⟨(by decide +kernel : plainName yX3_fewestWashes.cls = true), fun z => Bool.noConfusion z, fun d call hok => ko_X3_fewestWashes hG hok⟩
theorem mk_27 {l : Launch} {D : va_G} {cA : Nat → ClassId} {B : BB} {G : State → Prop} {md : Bool} (hG : ∀ s, G s → Gs B s) : MOk l D cA B G md mI (codeT md) 27 := Or.inr ⟨(by decide +kernel : plainName yX3_prepare.cls = true), fun z => Bool.noConfusion z, fun d call hok => ko_X3_prepare hG hok⟩
theorem mk_28 {l : Launch} {D : va_G} {cA : Nat → ClassId} {B : BB} {G : State → Prop} {md : Bool} (hG : ∀ s, G s → Gs B s) : MOk l D cA B G md mI (codeT md) 28 := Or.inr ⟨(by decide +kernel : plainName yX3_deal.cls = true), fun z => Bool.noConfusion z, fun d call hok => ko_X3_deal hG hok⟩
theorem mk_29 {l : Launch} {D : va_G} {cA : Nat → ClassId} {B : BB} {G : State → Prop} {md : Bool} (hG : ∀ s, G s → Gs B s) : MOk l D cA B G md mI (codeT md) 29 := Or.inr ⟨(by decide +kernel : plainName yX3_isHopeless.cls = true), fun z => Bool.noConfusion z, fun d call hok => ko_X3_isHopeless hG hok⟩
theorem mk_30 {l : Launch} {D : va_G} {cA : Nat → ClassId} {B : BB} {G : State → Prop} {md : Bool} (hG : ∀ s, G s → Gs B s) : MOk l D cA B G md mI (codeT md) 30 := Or.inr ⟨(by decide +kernel : plainName yX3_gives.cls = true), fun z => Bool.noConfusion z, fun d call hok => ko_X3_gives hG hok⟩
theorem mk_31 {l : Launch} {D : va_G} {cA : Nat → ClassId} {B : BB} {G : State → Prop} {md : Bool} (hG : ∀ s, G s → Gs B s) : MOk l D cA B G md mI (codeT md) 31 := Or.inr ⟨(by decide +kernel : plainName yX3_takeBack.cls = true), fun z => Bool.noConfusion z, fun d call hok => ko_X3_takeBack hG hok⟩
theorem mk_32 {l : Launch} {D : va_G} {cA : Nat → ClassId} {B : BB} {G : State → Prop} {md : Bool} (hG : ∀ s, G s → Gs B s) : MOk l D cA B G md mI (codeT md) 32 := Or.inr ⟨(by decide +kernel : plainName yX3_consider.cls = true), fun z => Bool.noConfusion z, fun d call hok => ko_X3_consider hG hok⟩
theorem mk_33 {l : Launch} {D : va_G} {cA : Nat → ClassId} {B : BB} {G : State → Prop} {md : Bool} (hG : ∀ s, G s → Gs B s) : MOk l D cA B G md mI (codeT md) 33 := Or.inr ⟨(by decide +kernel : plainName yX3_isBetter.cls = true), fun z => Bool.noConfusion z, fun d call hok => ko_X3_isBetter hG hok⟩
theorem mk_34 {l : Launch} {D : va_G} {cA : Nat → ClassId} {B : BB} {G : State → Prop} {md : Bool} (hG : ∀ s, G s → Gs B s) : MOk l D cA B G md mI (codeT md) 34 := Or.inr ⟨(by decide +kernel : plainName yX3_keepDeal.cls = true), fun z => Bool.noConfusion z, fun d call hok => ko_X3_keepDeal hG hok⟩
theorem mk_35 {l : Launch} {D : va_G} {cA : Nat → ClassId} {B : BB} {G : State → Prop} {md : Bool} (hG : ∀ s, G s → Gs B s) : MOk l D cA B G md mI (codeT md) 35 := Or.inr ⟨(by decide +kernel : plainName yX4_init.cls = true), fun _ => rfl, fun d call hok => ko_X4_init hG hok⟩
theorem mk_36 {l : Launch} {D : va_G} {cA : Nat → ClassId} {B : BB} {G : State → Prop} {md : Bool} (hG : ∀ s, G s → Gs B s) : MOk l D cA B G md mI (codeT md) 36 := Or.inr ⟨(by decide +kernel : plainName yX4_reads.cls = true), fun z => Bool.noConfusion z, fun d call hok => ko_X4_reads hG hok⟩
theorem mk_37 {l : Launch} {D : va_G} {cA : Nat → ClassId} {B : BB} {G : State → Prop} {md : Bool} (hG : ∀ s, G s → Gs B s) : MOk l D cA B G md mI (codeT md) 37 := Or.inr ⟨(by decide +kernel : plainName yX4_refuse.cls = true), fun z => Bool.noConfusion z, fun d call hok => ko_X4_refuse hG hok⟩
theorem mk_38 {l : Launch} {D : va_G} {cA : Nat → ClassId} {B : BB} {G : State → Prop} {md : Bool} (hG : ∀ s, G s → Gs B s) : MOk l D cA B G md mI (codeT md) 38 := Or.inr ⟨(by decide +kernel : plainName yX4_readSign.cls = true), fun z => Bool.noConfusion z, fun d call hok => ko_X4_readSign hG hok⟩
theorem mk_39 {l : Launch} {D : va_G} {cA : Nat → ClassId} {B : BB} {G : State → Prop} {md : Bool} (hG : ∀ s, G s → Gs B s) : MOk l D cA B G md mI (codeT md) 39 := Or.inr ⟨(by decide +kernel : plainName yX4_readTanker.cls = true), fun z => Bool.noConfusion z, fun d call hok => ko_X4_readTanker hG hok⟩
theorem mk_40 {l : Launch} {D : va_G} {cA : Nat → ClassId} {B : BB} {G : State → Prop} {md : Bool} (hG : ∀ s, G s → Gs B s) : MOk l D cA B G md mI (codeT md) 40 := Or.inr ⟨(by decide +kernel : plainName yX4_readOther.cls = true), fun z => Bool.noConfusion z, fun d call hok => ko_X4_readOther hG hok⟩
theorem mk_41 {l : Launch} {D : va_G} {cA : Nat → ClassId} {B : BB} {G : State → Prop} {md : Bool} (hG : ∀ s, G s → Gs B s) : MOk l D cA B G md mI (codeT md) 41 := Or.inr ⟨(by decide +kernel : plainName yX4_sortOfWord.cls = true), fun z => Bool.noConfusion z, fun d call hok => ko_X4_sortOfWord hG hok⟩
theorem mk_42 {l : Launch} {D : va_G} {cA : Nat → ClassId} {B : BB} {G : State → Prop} {md : Bool} (hG : ∀ s, G s → Gs B s) : MOk l D cA B G md mI (codeT md) 42 := Or.inr ⟨(by decide +kernel : plainName yX4_readCompartment.cls = true), fun z => Bool.noConfusion z, fun d call hok => ko_X4_readCompartment hG hok⟩
theorem mk_43 {l : Launch} {D : va_G} {cA : Nat → ClassId} {B : BB} {G : State → Prop} {md : Bool} (hG : ∀ s, G s → Gs B s) : MOk l D cA B G md mI (codeT md) 43 := Or.inr ⟨(by decide +kernel : plainName yX4_readLiquid.cls = true), fun z => Bool.noConfusion z, fun d call hok => ko_X4_readLiquid hG hok⟩
theorem mk_44 {l : Launch} {D : va_G} {cA : Nat → ClassId} {B : BB} {G : State → Prop} {md : Bool} (hG : ∀ s, G s → Gs B s) : MOk l D cA B G md mI (codeT md) 44 := Or.inr ⟨(by decide +kernel : plainName yX4_readBar.cls = true), fun z => Bool.noConfusion z, fun d call hok => ko_X4_readBar hG hok⟩
theorem mk_45 {l : Launch} {D : va_G} {cA : Nat → ClassId} {B : BB} {G : State → Prop} {md : Bool} (hG : ∀ s, G s → Gs B s) : MOk l D cA B G md mI (codeT md) 45 := Or.inr ⟨(by decide +kernel : plainName yX4_readLast.cls = true), fun z => Bool.noConfusion z, fun d call hok => ko_X4_readLast hG hok⟩
theorem mk_46 {l : Launch} {D : va_G} {cA : Nat → ClassId} {B : BB} {G : State → Prop} {md : Bool} (hG : ∀ s, G s → Gs B s) : MOk l D cA B G md mI (codeT md) 46 := Or.inr ⟨(by decide +kernel : plainName yX4_readDrop.cls = true), fun z => Bool.noConfusion z, fun d call hok => ko_X4_readDrop hG hok⟩
theorem mk_47 {l : Launch} {D : va_G} {cA : Nat → ClassId} {B : BB} {G : State → Prop} {md : Bool} (hG : ∀ s, G s → Gs B s) : MOk l D cA B G md mI (codeT md) 47 := Or.inr ⟨(by decide +kernel : plainName yX4_readNumber.cls = true), fun z => Bool.noConfusion z, fun d call hok => ko_X4_readNumber hG hok⟩
theorem mk_48 {l : Launch} {D : va_G} {cA : Nat → ClassId} {B : BB} {G : State → Prop} {md : Bool} (hG : ∀ s, G s → Gs B s) : MOk l D cA B G md mI (codeT md) 48 := Or.inr ⟨(by decide +kernel : plainName yX4_isWord.cls = true), fun z => Bool.noConfusion z, fun d call hok => ko_X4_isWord hG hok⟩
theorem mk_49 {l : Launch} {D : va_G} {cA : Nat → ClassId} {B : BB} {G : State → Prop} {md : Bool} (hG : ∀ s, G s → Gs B s) : MOk l D cA B G md mI (codeT md) 49 := Or.inr ⟨(by decide +kernel : plainName yX4_advance.cls = true), fun z => Bool.noConfusion z, fun d call hok => ko_X4_advance hG hok⟩
theorem mk_50 {l : Launch} {D : va_G} {cA : Nat → ClassId} {B : BB} {G : State → Prop} {md : Bool} (hG : ∀ s, G s → Gs B s) : MOk l D cA B G md mI (codeT md) 50 := Or.inr ⟨(by decide +kernel : plainName yX4_advanceRun.cls = true), fun z => Bool.noConfusion z, fun d call hok => ko_X4_advanceRun hG hok⟩
theorem mk_51 {l : Launch} {D : va_G} {cA : Nat → ClassId} {B : BB} {G : State → Prop} {md : Bool} (hG : ∀ s, G s → Gs B s) : MOk l D cA B G md mI (codeT md) 51 := Or.inr ⟨(by decide +kernel : plainName yX4_isLetter.cls = true), fun z => Bool.noConfusion z, fun d call hok => ko_X4_isLetter hG hok⟩
theorem mk_52 {l : Launch} {D : va_G} {cA : Nat → ClassId} {B : BB} {G : State → Prop} {md : Bool} (hG : ∀ s, G s → Gs B s) : MOk l D cA B G md mI (codeT md) 52 := Or.inr ⟨(by decide +kernel : plainName yX4_isDigit.cls = true), fun z => Bool.noConfusion z, fun d call hok => ko_X4_isDigit hG hok⟩
theorem mk_53 {l : Launch} {D : va_G} {cA : Nat → ClassId} {B : BB} {G : State → Prop} {md : Bool} (hG : ∀ s, G s → Gs B s) : MOk l D cA B G md mI (codeT md) 53 := Or.inr ⟨(by decide +kernel : plainName yX5_init.cls = true), fun _ => rfl, fun d call hok => ko_X5_init hG hok⟩
theorem mk_54 {l : Launch} {D : va_G} {cA : Nat → ClassId} {B : BB} {G : State → Prop} {md : Bool} (hG : ∀ s, G s → Gs B s) : MOk l D cA B G md mI (codeT md) 54 := Or.inr ⟨(by decide +kernel : plainName yX5_begin.cls = true), fun z => Bool.noConfusion z, fun d call hok => ko_X5_begin hG hok⟩
theorem mk_55 {l : Launch} {D : va_G} {cA : Nat → ClassId} {B : BB} {G : State → Prop} {md : Bool} (hG : ∀ s, G s → Gs B s) : MOk l D cA B G md mI (codeT md) 55 := Or.inr ⟨(by decide +kernel : plainName yX5_addDrop.cls = true), fun z => Bool.noConfusion z, fun d call hok => ko_X5_addDrop hG hok⟩
theorem mk_56 {l : Launch} {D : va_G} {cA : Nat → ClassId} {B : BB} {G : State → Prop} {md : Bool} (hG : ∀ s, G s → Gs B s) : MOk l D cA B G md mI (codeT md) 56 := Or.inr ⟨(by decide +kernel : plainName yX5_copyFrom.cls = true), fun z => Bool.noConfusion z, fun d call hok => ko_X5_copyFrom hG hok⟩
theorem mk_57 {l : Launch} {D : va_G} {cA : Nat → ClassId} {B : BB} {G : State → Prop} {md : Bool} (hG : ∀ s, G s → Gs B s) : MOk l D cA B G md mI (codeT md) 57 := Or.inr ⟨(by decide +kernel : plainName yX5_hasDrop.cls = true), fun z => Bool.noConfusion z, fun d call hok => ko_X5_hasDrop hG hok⟩
theorem mk_58 {l : Launch} {D : va_G} {cA : Nat → ClassId} {B : BB} {G : State → Prop} {md : Bool} (hG : ∀ s, G s → Gs B s) : MOk l D cA B G md mI (codeT md) 58 := Or.inr ⟨(by decide +kernel : plainName yX5_how.cls = true), fun z => Bool.noConfusion z, fun d call hok => ko_X5_how hG hok⟩
theorem mk_59 {l : Launch} {D : va_G} {cA : Nat → ClassId} {B : BB} {G : State → Prop} {md : Bool} (hG : ∀ s, G s → Gs B s) : MOk l D cA B G md mI (codeT md) 59 := Or.inr ⟨(by decide +kernel : plainName yX5_shortOf.cls = true), fun z => Bool.noConfusion z, fun d call hok => ko_X5_shortOf hG hok⟩
theorem mk_60 {l : Launch} {D : va_G} {cA : Nat → ClassId} {B : BB} {G : State → Prop} {md : Bool} (hG : ∀ s, G s → Gs B s) : MOk l D cA B G md mI (codeT md) 60 := Or.inr ⟨(by decide +kernel : plainName yX5_waiting.cls = true), fun z => Bool.noConfusion z, fun d call hok => ko_X5_waiting hG hok⟩
theorem mk_61 {l : Launch} {D : va_G} {cA : Nat → ClassId} {B : BB} {G : State → Prop} {md : Bool} (hG : ∀ s, G s → Gs B s) : MOk l D cA B G md mI (codeT md) 61 := Or.inr ⟨(by decide +kernel : plainName yX6_init.cls = true), fun _ => rfl, fun d call hok => ko_X6_init hG hok⟩
theorem mk_62 {l : Launch} {D : va_G} {cA : Nat → ClassId} {B : BB} {G : State → Prop} {md : Bool} (hG : ∀ s, G s → Gs B s) : MOk l D cA B G md mI (codeT md) 62 := Or.inr ⟨(by decide +kernel : plainName yX6_clear.cls = true), fun z => Bool.noConfusion z, fun d call hok => ko_X6_clear hG hok⟩
theorem mk_63 {l : Launch} {D : va_G} {cA : Nat → ClassId} {B : BB} {G : State → Prop} {md : Bool} (hG : ∀ s, G s → Gs B s) : MOk l D cA B G md mI (codeT md) 63 := Or.inr ⟨(by decide +kernel : plainName yX6_hasCompartment.cls = true), fun z => Bool.noConfusion z, fun d call hok => ko_X6_hasCompartment hG hok⟩
theorem mk_64 {l : Launch} {D : va_G} {cA : Nat → ClassId} {B : BB} {G : State → Prop} {md : Bool} (hG : ∀ s, G s → Gs B s) : MOk l D cA B G md mI (codeT md) 64 := Or.inr ⟨(by decide +kernel : plainName yX6_hasLiquid.cls = true), fun z => Bool.noConfusion z, fun d call hok => ko_X6_hasLiquid hG hok⟩
theorem mk_65 {l : Launch} {D : va_G} {cA : Nat → ClassId} {B : BB} {G : State → Prop} {md : Bool} (hG : ∀ s, G s → Gs B s) : MOk l D cA B G md mI (codeT md) 65 := Or.inr ⟨(by decide +kernel : plainName yX6_top.cls = true), fun z => Bool.noConfusion z, fun d call hok => ko_X6_top hG hok⟩
theorem mk_66 {l : Launch} {D : va_G} {cA : Nat → ClassId} {B : BB} {G : State → Prop} {md : Bool} (hG : ∀ s, G s → Gs B s) : MOk l D cA B G md mI (codeT md) 66 := Or.inr ⟨(by decide +kernel : plainName yX6_bar.cls = true), fun z => Bool.noConfusion z, fun d call hok => ko_X6_bar hG hok⟩
theorem mk_67 {l : Launch} {D : va_G} {cA : Nat → ClassId} {B : BB} {G : State → Prop} {md : Bool} (hG : ∀ s, G s → Gs B s) : MOk l D cA B G md mI (codeT md) 67 := Or.inr ⟨(by decide +kernel : plainName yX6_isBarred.cls = true), fun z => Bool.noConfusion z, fun d call hok => ko_X6_isBarred hG hok⟩
theorem mk_68 {l : Launch} {D : va_G} {cA : Nat → ClassId} {B : BB} {G : State → Prop} {md : Bool} (hG : ∀ s, G s → Gs B s) : MOk l D cA B G md mI (codeT md) 68 := Or.inr ⟨(by decide +kernel : plainName yX7_init.cls = true), fun _ => rfl, fun d call hok => ko_X7_init hG hok⟩
theorem mk_69 {l : Launch} {D : va_G} {cA : Nat → ClassId} {B : BB} {G : State → Prop} {md : Bool} (hG : ∀ s, G s → Gs B s) : MOk l D cA B G md mI (codeT md) 69 := Or.inr ⟨(by decide +kernel : plainName yX7_feed.cls = true), fun z => Bool.noConfusion z, fun d call hok => ko_X7_feed hG hok⟩
theorem mk_70 {l : Launch} {D : va_G} {cA : Nat → ClassId} {B : BB} {G : State → Prop} {md : Bool} (hG : ∀ s, G s → Gs B s) : MOk l D cA B G md mI (codeT md) 70 := Or.inr ⟨(by decide +kernel : plainName yX7_end.cls = true), fun z => Bool.noConfusion z, fun d call hok => ko_X7_end hG hok⟩
theorem mk_71 {l : Launch} {D : va_G} {cA : Nat → ClassId} {B : BB} {G : State → Prop} {md : Bool} (hG : ∀ s, G s → Gs B s) : MOk l D cA B G md mI (codeT md) 71 := Or.inr ⟨(by decide +kernel : plainName yX7_text.cls = true), fun z => Bool.noConfusion z, fun d call hok => ko_X7_text hG hok⟩
theorem mk_72 {l : Launch} {D : va_G} {cA : Nat → ClassId} {B : BB} {G : State → Prop} {md : Bool} (hG : ∀ s, G s → Gs B s) : MOk l D cA B G md mI (codeT md) 72 := Or.inr ⟨(by decide +kernel : plainName yX7_fault.cls = true), fun z => Bool.noConfusion z, fun d call hok => ko_X7_fault hG hok⟩
theorem mk_73 {l : Launch} {D : va_G} {cA : Nat → ClassId} {B : BB} {G : State → Prop} {md : Bool} (hG : ∀ s, G s → Gs B s) : MOk l D cA B G md mI (codeT md) 73 := Or.inr ⟨(by decide +kernel : plainName yX7_now.cls = true), fun z => Bool.noConfusion z, fun d call hok => ko_X7_now hG hok⟩
theorem mk_74 {l : Launch} {D : va_G} {cA : Nat → ClassId} {B : BB} {G : State → Prop} {md : Bool} (hG : ∀ s, G s → Gs B s) : MOk l D cA B G md mI (codeT md) 74 := Or.inr ⟨(by decide +kernel : plainName yX7_compartment.cls = true), fun z => Bool.noConfusion z, fun d call hok => ko_X7_compartment hG hok⟩
theorem mk_75 {l : Launch} {D : va_G} {cA : Nat → ClassId} {B : BB} {G : State → Prop} {md : Bool} (hG : ∀ s, G s → Gs B s) : MOk l D cA B G md mI (codeT md) 75 := Or.inr ⟨(by decide +kernel : plainName yX7_drop.cls = true), fun z => Bool.noConfusion z, fun d call hok => ko_X7_drop hG hok⟩
theorem mk_76 {l : Launch} {D : va_G} {cA : Nat → ClassId} {B : BB} {G : State → Prop} {md : Bool} (hG : ∀ s, G s → Gs B s) : MOk l D cA B G md mI (codeT md) 76 := Or.inr ⟨(by decide +kernel : plainName yX7_may.cls = true), fun z => Bool.noConfusion z, fun d call hok => ko_X7_may hG hok⟩
theorem mk_77 {l : Launch} {D : va_G} {cA : Nat → ClassId} {B : BB} {G : State → Prop} {md : Bool} (hG : ∀ s, G s → Gs B s) : MOk l D cA B G md mI (codeT md) 77 := Or.inr ⟨(by decide +kernel : plainName yX7_would.cls = true), fun z => Bool.noConfusion z, fun d call hok => ko_X7_would hG hok⟩
theorem mk_78 {l : Launch} {D : va_G} {cA : Nat → ClassId} {B : BB} {G : State → Prop} {md : Bool} (hG : ∀ s, G s → Gs B s) : MOk l D cA B G md mI (codeT md) 78 := Or.inr ⟨(by decide +kernel : plainName yX7_orders.cls = true), fun z => Bool.noConfusion z, fun d call hok => ko_X7_orders hG hok⟩
theorem mk_79 {l : Launch} {D : va_G} {cA : Nat → ClassId} {B : BB} {G : State → Prop} {md : Bool} (hG : ∀ s, G s → Gs B s) : MOk l D cA B G md mI (codeT md) 79 := Or.inr ⟨(by decide +kernel : plainName yX7_ordered.cls = true), fun z => Bool.noConfusion z, fun d call hok => ko_X7_ordered hG hok⟩
theorem mk_80 {l : Launch} {D : va_G} {cA : Nat → ClassId} {B : BB} {G : State → Prop} {md : Bool} (hG : ∀ s, G s → Gs B s) : MOk l D cA B G md mI (codeT md) 80 := Or.inr ⟨(by decide +kernel : plainName yX7_without.cls = true), fun z => Bool.noConfusion z, fun d call hok => ko_X7_without hG hok⟩
theorem mk_81 {l : Launch} {D : va_G} {cA : Nat → ClassId} {B : BB} {G : State → Prop} {md : Bool} (hG : ∀ s, G s → Gs B s) : MOk l D cA B G md mI (codeT md) 81 := Or.inr ⟨(by decide +kernel : plainName yX7_plan.cls = true), fun z => Bool.noConfusion z, fun d call hok => ko_X7_plan hG hok⟩
theorem mk_82 {l : Launch} {D : va_G} {cA : Nat → ClassId} {B : BB} {G : State → Prop} {md : Bool} (hG : ∀ s, G s → Gs B s) : MOk l D cA B G md mI (codeT md) 82 := Or.inr ⟨(by decide +kernel : plainName yX7_washes.cls = true), fun z => Bool.noConfusion z, fun d call hok => ko_X7_washes hG hok⟩
theorem mk_83 {l : Launch} {D : va_G} {cA : Nat → ClassId} {B : BB} {G : State → Prop} {md : Bool} (hG : ∀ s, G s → Gs B s) : MOk l D cA B G md mI (codeT md) 83 := Or.inr ⟨(by decide +kernel : plainName yX7_asks.cls = true), fun z => Bool.noConfusion z, fun d call hok => ko_X7_asks hG hok⟩
theorem mk_84 {l : Launch} {D : va_G} {cA : Nat → ClassId} {B : BB} {G : State → Prop} {md : Bool} (hG : ∀ s, G s → Gs B s) : MOk l D cA B G md mI (codeT md) 84 := Or.inr ⟨(by decide +kernel : plainName yX7_cancel.cls = true), fun z => Bool.noConfusion z, fun d call hok => ko_X7_cancel hG hok⟩
theorem mk_85 {l : Launch} {D : va_G} {cA : Nat → ClassId} {B : BB} {G : State → Prop} {md : Bool} (hG : ∀ s, G s → Gs B s) : MOk l D cA B G md mI (codeT md) 85 := Or.inr ⟨(by decide +kernel : plainName yX7_put.cls = true), fun z => Bool.noConfusion z, fun d call hok => ko_X7_put hG hok⟩
theorem mk_86 {l : Launch} {D : va_G} {cA : Nat → ClassId} {B : BB} {G : State → Prop} {md : Bool} (hG : ∀ s, G s → Gs B s) : MOk l D cA B G md mI (codeT md) 86 := Or.inr ⟨(by decide +kernel : plainName yX7_load.cls = true), fun z => Bool.noConfusion z, fun d call hok => ko_X7_load hG hok⟩
theorem mk_87 {l : Launch} {D : va_G} {cA : Nat → ClassId} {B : BB} {G : State → Prop} {md : Bool} (hG : ∀ s, G s → Gs B s) : MOk l D cA B G md mI (codeT md) 87 := Or.inr ⟨(by decide +kernel : plainName yX7_unload.cls = true), fun z => Bool.noConfusion z, fun d call hok => ko_X7_unload hG hok⟩
theorem mk_88 {l : Launch} {D : va_G} {cA : Nat → ClassId} {B : BB} {G : State → Prop} {md : Bool} (hG : ∀ s, G s → Gs B s) : MOk l D cA B G md mI (codeT md) 88 := Or.inr ⟨(by decide +kernel : plainName yX7_empty.cls = true), fun z => Bool.noConfusion z, fun d call hok => ko_X7_empty hG hok⟩
theorem mk_89 {l : Launch} {D : va_G} {cA : Nat → ClassId} {B : BB} {G : State → Prop} {md : Bool} (hG : ∀ s, G s → Gs B s) : MOk l D cA B G md mI (codeT md) 89 := Or.inr ⟨(by decide +kernel : plainName yX7_wash.cls = true), fun z => Bool.noConfusion z, fun d call hok => ko_X7_wash hG hok⟩
theorem mk_90 {l : Launch} {D : va_G} {cA : Nat → ClassId} {B : BB} {G : State → Prop} {md : Bool} (hG : ∀ s, G s → Gs B s) : MOk l D cA B G md mI (codeT md) 90 := Or.inr ⟨(by decide +kernel : plainName yX7_undo.cls = true), fun z => Bool.noConfusion z, fun d call hok => ko_X7_undo hG hok⟩
theorem mk_91 {l : Launch} {D : va_G} {cA : Nat → ClassId} {B : BB} {G : State → Prop} {md : Bool} (hG : ∀ s, G s → Gs B s) : MOk l D cA B G md mI (codeT md) 91 := Or.inr ⟨(by decide +kernel : plainName yX7_tapeNumber.cls = true), fun z => Bool.noConfusion z, fun d call hok => ko_X7_tapeNumber hG hok⟩
theorem mk_92 {l : Launch} {D : va_G} {cA : Nat → ClassId} {B : BB} {G : State → Prop} {md : Bool} (hG : ∀ s, G s → Gs B s) : MOk l D cA B G md mI (codeT md) 92 := Or.inr ⟨(by decide +kernel : plainName yX7_isSo.cls = true), fun z => Bool.noConfusion z, fun d call hok => ko_X7_isSo hG hok⟩
theorem mk_93 {l : Launch} {D : va_G} {cA : Nat → ClassId} {B : BB} {G : State → Prop} {md : Bool} (hG : ∀ s, G s → Gs B s) : MOk l D cA B G md mI (codeT md) 93 := Or.inr ⟨(by decide +kernel : plainName yX8_refuse.cls = true), fun z => Bool.noConfusion z, fun d call hok => ko_X8_refuse hG hok⟩
theorem mk_94 {l : Launch} {D : va_G} {cA : Nat → ClassId} {B : BB} {G : State → Prop} {md : Bool} (hG : ∀ s, G s → Gs B s) : MOk l D cA B G md mI (codeT md) 94 := Or.inr ⟨(by decide +kernel : plainName yX8_isIn.cls = true), fun z => Bool.noConfusion z, fun d call hok => ko_X8_isIn hG hok⟩
theorem mk_95 {l : Launch} {D : va_G} {cA : Nat → ClassId} {B : BB} {G : State → Prop} {md : Bool} (hG : ∀ s, G s → Gs B s) : MOk l D cA B G md mI (codeT md) 95 := Or.inr ⟨(by decide +kernel : plainName yX8_has.cls = true), fun z => Bool.noConfusion z, fun d call hok => ko_X8_has hG hok⟩
theorem mk_96 {l : Launch} {D : va_G} {cA : Nat → ClassId} {B : BB} {G : State → Prop} {md : Bool} (hG : ∀ s, G s → Gs B s) : MOk l D cA B G md mI (codeT md) 96 := Or.inr ⟨(by decide +kernel : plainName yX8_lays.cls = true), fun z => Bool.noConfusion z, fun d call hok => ko_X8_lays hG hok⟩
theorem mk_97 {l : Launch} {D : va_G} {cA : Nat → ClassId} {B : BB} {G : State → Prop} {md : Bool} (hG : ∀ s, G s → Gs B s) : MOk l D cA B G md mI (codeT md) 97 := Or.inr ⟨(by decide +kernel : plainName yX8_feed.cls = true), fun z => Bool.noConfusion z, fun d call hok => ko_X8_feed hG hok⟩
theorem mk_98 {l : Launch} {D : va_G} {cA : Nat → ClassId} {B : BB} {G : State → Prop} {md : Bool} (hG : ∀ s, G s → Gs B s) : MOk l D cA B G md mI (codeT md) 98 := Or.inr ⟨(by decide +kernel : plainName yX8_end.cls = true), fun z => Bool.noConfusion z, fun d call hok => ko_X8_end hG hok⟩
theorem mk_99 {l : Launch} {D : va_G} {cA : Nat → ClassId} {B : BB} {G : State → Prop} {md : Bool} (hG : ∀ s, G s → Gs B s) : MOk l D cA B G md mI (codeT md) 99 := Or.inr ⟨(by decide +kernel : plainName yX8_tapeAt.cls = true), fun z => Bool.noConfusion z, fun d call hok => ko_X8_tapeAt hG hok⟩
theorem mk_100 {l : Launch} {D : va_G} {cA : Nat → ClassId} {B : BB} {G : State → Prop} {md : Bool} (hG : ∀ s, G s → Gs B s) : MOk l D cA B G md mI (codeT md) 100 := Or.inr ⟨(by decide +kernel : plainName yX8_isDigit.cls = true), fun z => Bool.noConfusion z, fun d call hok => ko_X8_isDigit hG hok⟩
theorem mk_101 {l : Launch} {D : va_G} {cA : Nat → ClassId} {B : BB} {G : State → Prop} {md : Bool} (hG : ∀ s, G s → Gs B s) : MOk l D cA B G md mI (codeT md) 101 := Or.inr ⟨(by decide +kernel : plainName yX8_isLetter.cls = true), fun z => Bool.noConfusion z, fun d call hok => ko_X8_isLetter hG hok⟩
theorem mk_102 {l : Launch} {D : va_G} {cA : Nat → ClassId} {B : BB} {G : State → Prop} {md : Bool} (hG : ∀ s, G s → Gs B s) : MOk l D cA B G md mI (codeT md) 102 := Or.inr ⟨(by decide +kernel : plainName yX8_go.cls = true), fun z => Bool.noConfusion z, fun d call hok => ko_X8_go hG hok⟩
theorem mk_103 {l : Launch} {D : va_G} {cA : Nat → ClassId} {B : BB} {G : State → Prop} {md : Bool} (hG : ∀ s, G s → Gs B s) : MOk l D cA B G md mI (codeT md) 103 := Or.inr ⟨(by decide +kernel : plainName yX8_three.cls = true), fun z => Bool.noConfusion z, fun d call hok => ko_X8_three hG hok⟩
theorem mk_104 {l : Launch} {D : va_G} {cA : Nat → ClassId} {B : BB} {G : State → Prop} {md : Bool} (hG : ∀ s, G s → Gs B s) : MOk l D cA B G md mI (codeT md) 104 := Or.inr ⟨(by decide +kernel : plainName yX8_six.cls = true), fun z => Bool.noConfusion z, fun d call hok => ko_X8_six hG hok⟩
theorem mk_105 {l : Launch} {D : va_G} {cA : Nat → ClassId} {B : BB} {G : State → Prop} {md : Bool} (hG : ∀ s, G s → Gs B s) : MOk l D cA B G md mI (codeT md) 105 := Or.inr ⟨(by decide +kernel : plainName yX8_four.cls = true), fun z => Bool.noConfusion z, fun d call hok => ko_X8_four hG hok⟩
theorem mk_106 {l : Launch} {D : va_G} {cA : Nat → ClassId} {B : BB} {G : State → Prop} {md : Bool} (hG : ∀ s, G s → Gs B s) : MOk l D cA B G md mI (codeT md) 106 := Or.inr ⟨(by decide +kernel : plainName yX8_isWord.cls = true), fun z => Bool.noConfusion z, fun d call hok => ko_X8_isWord hG hok⟩
theorem mk_107 {l : Launch} {D : va_G} {cA : Nat → ClassId} {B : BB} {G : State → Prop} {md : Bool} (hG : ∀ s, G s → Gs B s) : MOk l D cA B G md mI (codeT md) 107 := Or.inr ⟨(by decide +kernel : plainName yX8_bad.cls = true), fun z => Bool.noConfusion z, fun d call hok => ko_X8_bad hG hok⟩
theorem mk_108 {l : Launch} {D : va_G} {cA : Nat → ClassId} {B : BB} {G : State → Prop} {md : Bool} (hG : ∀ s, G s → Gs B s) : MOk l D cA B G md mI (codeT md) 108 := Or.inr ⟨(by decide +kernel : plainName yX8_init.cls = true), fun _ => rfl, fun d call hok => ko_X8_init hG hok⟩
theorem mk_109 {l : Launch} {D : va_G} {cA : Nat → ClassId} {B : BB} {G : State → Prop} {md : Bool} (hG : ∀ s, G s → Gs B s) : MOk l D cA B G md mI (codeT md) 109 := Or.inr ⟨(by decide +kernel : plainName yX8_told.cls = true), fun z => Bool.noConfusion z, fun d call hok => ko_X8_told hG hok⟩
theorem mk_110 {l : Launch} {D : va_G} {cA : Nat → ClassId} {B : BB} {G : State → Prop} {md : Bool} (hG : ∀ s, G s → Gs B s) : MOk l D cA B G md mI (codeT md) 110 := Or.inr ⟨(by decide +kernel : plainName yX8_oneOf.cls = true), fun z => Bool.noConfusion z, fun d call hok => ko_X8_oneOf hG hok⟩
theorem mk_111 {l : Launch} {D : va_G} {cA : Nat → ClassId} {B : BB} {G : State → Prop} {md : Bool} (hG : ∀ s, G s → Gs B s) : MOk l D cA B G md mI (codeT md) 111 := Or.inr ⟨(by decide +kernel : plainName yX8_readTanker.cls = true), fun z => Bool.noConfusion z, fun d call hok => ko_X8_readTanker hG hok⟩
theorem mk_112 {l : Launch} {D : va_G} {cA : Nat → ClassId} {B : BB} {G : State → Prop} {md : Bool} (hG : ∀ s, G s → Gs B s) : MOk l D cA B G md mI (codeT md) 112 := Or.inr ⟨(by decide +kernel : plainName yX8_readHold.cls = true), fun z => Bool.noConfusion z, fun d call hok => ko_X8_readHold hG hok⟩
theorem mk_113 {l : Launch} {D : va_G} {cA : Nat → ClassId} {B : BB} {G : State → Prop} {md : Bool} (hG : ∀ s, G s → Gs B s) : MOk l D cA B G md mI (codeT md) 113 := Or.inr ⟨(by decide +kernel : plainName yX8_readLiquid.cls = true), fun z => Bool.noConfusion z, fun d call hok => ko_X8_readLiquid hG hok⟩
theorem mk_114 {l : Launch} {D : va_G} {cA : Nat → ClassId} {B : BB} {G : State → Prop} {md : Bool} (hG : ∀ s, G s → Gs B s) : MOk l D cA B G md mI (codeT md) 114 := Or.inr ⟨(by decide +kernel : plainName yX8_readBar.cls = true), fun z => Bool.noConfusion z, fun d call hok => ko_X8_readBar hG hok⟩
theorem mk_115 {l : Launch} {D : va_G} {cA : Nat → ClassId} {B : BB} {G : State → Prop} {md : Bool} (hG : ∀ s, G s → Gs B s) : MOk l D cA B G md mI (codeT md) 115 := Or.inr ⟨(by decide +kernel : plainName yX8_readLast.cls = true), fun z => Bool.noConfusion z, fun d call hok => ko_X8_readLast hG hok⟩
theorem mk_116 {l : Launch} {D : va_G} {cA : Nat → ClassId} {B : BB} {G : State → Prop} {md : Bool} (hG : ∀ s, G s → Gs B s) : MOk l D cA B G md mI (codeT md) 116 := Or.inr ⟨(by decide +kernel : plainName yX8_readDrop.cls = true), fun z => Bool.noConfusion z, fun d call hok => ko_X8_readDrop hG hok⟩
theorem mk_117 {l : Launch} {D : va_G} {cA : Nat → ClassId} {B : BB} {G : State → Prop} {md : Bool} (hG : ∀ s, G s → Gs B s) : MOk l D cA B G md mI (codeT md) 117 := Or.inr ⟨(by decide +kernel : plainName yX8_readLine.cls = true), fun z => Bool.noConfusion z, fun d call hok => ko_X8_readLine hG hok⟩
theorem mk_118 {l : Launch} {D : va_G} {cA : Nat → ClassId} {B : BB} {G : State → Prop} {md : Bool} (hG : ∀ s, G s → Gs B s) : MOk l D cA B G md mI (codeT md) 118 := Or.inr ⟨(by decide +kernel : plainName yX8_readEnd.cls = true), fun z => Bool.noConfusion z, fun d call hok => ko_X8_readEnd hG hok⟩
theorem mk_119 {l : Launch} {D : va_G} {cA : Nat → ClassId} {B : BB} {G : State → Prop} {md : Bool} (hG : ∀ s, G s → Gs B s) : MOk l D cA B G md mI (codeT md) 119 := Or.inr ⟨(by decide +kernel : plainName yX8_text.cls = true), fun z => Bool.noConfusion z, fun d call hok => ko_X8_text hG hok⟩
theorem mk_120 {l : Launch} {D : va_G} {cA : Nat → ClassId} {B : BB} {G : State → Prop} {md : Bool} (hG : ∀ s, G s → Gs B s) : MOk l D cA B G md mI (codeT md) 120 := Or.inr ⟨(by decide +kernel : plainName yX8_fault.cls = true), fun z => Bool.noConfusion z, fun d call hok => ko_X8_fault hG hok⟩
theorem mk_121 {l : Launch} {D : va_G} {cA : Nat → ClassId} {B : BB} {G : State → Prop} {md : Bool} (hG : ∀ s, G s → Gs B s) : MOk l D cA B G md mI (codeT md) 121 := Or.inr ⟨(by decide +kernel : plainName yX8_isHold.cls = true), fun z => Bool.noConfusion z, fun d call hok => ko_X8_isHold hG hok⟩
theorem mk_122 {l : Launch} {D : va_G} {cA : Nat → ClassId} {B : BB} {G : State → Prop} {md : Bool} (hG : ∀ s, G s → Gs B s) : MOk l D cA B G md mI (codeT md) 122 := Or.inr ⟨(by decide +kernel : plainName yX8_isLiquid.cls = true), fun z => Bool.noConfusion z, fun d call hok => ko_X8_isLiquid hG hok⟩
theorem mk_123 {l : Launch} {D : va_G} {cA : Nat → ClassId} {B : BB} {G : State → Prop} {md : Bool} (hG : ∀ s, G s → Gs B s) : MOk l D cA B G md mI (codeT md) 123 := Or.inr ⟨(by decide +kernel : plainName yX8_isDrop.cls = true), fun z => Bool.noConfusion z, fun d call hok => ko_X8_isDrop hG hok⟩
theorem mk_124 {l : Launch} {D : va_G} {cA : Nat → ClassId} {B : BB} {G : State → Prop} {md : Bool} (hG : ∀ s, G s → Gs B s) : MOk l D cA B G md mI (codeT md) 124 := Or.inr ⟨(by decide +kernel : plainName yX8_holds.cls = true), fun z => Bool.noConfusion z, fun d call hok => ko_X8_holds hG hok⟩
theorem mk_125 {l : Launch} {D : va_G} {cA : Nat → ClassId} {B : BB} {G : State → Prop} {md : Bool} (hG : ∀ s, G s → Gs B s) : MOk l D cA B G md mI (codeT md) 125 := Or.inr ⟨(by decide +kernel : plainName yX8_its.cls = true), fun z => Bool.noConfusion z, fun d call hok => ko_X8_its hG hok⟩
theorem mk_126 {l : Launch} {D : va_G} {cA : Nat → ClassId} {B : BB} {G : State → Prop} {md : Bool} (hG : ∀ s, G s → Gs B s) : MOk l D cA B G md mI (codeT md) 126 := Or.inr ⟨(by decide +kernel : plainName yX8_top.cls = true), fun z => Bool.noConfusion z, fun d call hok => ko_X8_top hG hok⟩
theorem mk_127 {l : Launch} {D : va_G} {cA : Nat → ClassId} {B : BB} {G : State → Prop} {md : Bool} (hG : ∀ s, G s → Gs B s) : MOk l D cA B G md mI (codeT md) 127 := Or.inr ⟨(by decide +kernel : plainName yX8_lastIn.cls = true), fun z => Bool.noConfusion z, fun d call hok => ko_X8_lastIn hG hok⟩
theorem mk_128 {l : Launch} {D : va_G} {cA : Nat → ClassId} {B : BB} {G : State → Prop} {md : Bool} (hG : ∀ s, G s → Gs B s) : MOk l D cA B G md mI (codeT md) 128 := Or.inr ⟨(by decide +kernel : plainName yX8_mayCome.cls = true), fun z => Bool.noConfusion z, fun d call hok => ko_X8_mayCome hG hok⟩
theorem mk_129 {l : Launch} {D : va_G} {cA : Nat → ClassId} {B : BB} {G : State → Prop} {md : Bool} (hG : ∀ s, G s → Gs B s) : MOk l D cA B G md mI (codeT md) 129 := Or.inr ⟨(by decide +kernel : plainName yX8_loadedOf.cls = true), fun z => Bool.noConfusion z, fun d call hok => ko_X8_loadedOf hG hok⟩
theorem mk_130 {l : Launch} {D : va_G} {cA : Nat → ClassId} {B : BB} {G : State → Prop} {md : Bool} (hG : ∀ s, G s → Gs B s) : MOk l D cA B G md mI (codeT md) 130 := Or.inr ⟨(by decide +kernel : plainName yX8_having.cls = true), fun z => Bool.noConfusion z, fun d call hok => ko_X8_having hG hok⟩
theorem mk_131 {l : Launch} {D : va_G} {cA : Nat → ClassId} {B : BB} {G : State → Prop} {md : Bool} (hG : ∀ s, G s → Gs B s) : MOk l D cA B G md mI (codeT md) 131 := Or.inr ⟨(by decide +kernel : plainName yX8_laysNow.cls = true), fun z => Bool.noConfusion z, fun d call hok => ko_X8_laysNow hG hok⟩
theorem mk_132 {l : Launch} {D : va_G} {cA : Nat → ClassId} {B : BB} {G : State → Prop} {md : Bool} (hG : ∀ s, G s → Gs B s) : MOk l D cA B G md mI (codeT md) 132 := Or.inr ⟨(by decide +kernel : plainName yX8_muchBut.cls = true), fun z => Bool.noConfusion z, fun d call hok => ko_X8_muchBut hG hok⟩
theorem mk_133 {l : Launch} {D : va_G} {cA : Nat → ClassId} {B : BB} {G : State → Prop} {md : Bool} (hG : ∀ s, G s → Gs B s) : MOk l D cA B G md mI (codeT md) 133 := Or.inr ⟨(by decide +kernel : plainName yX8_front.cls = true), fun z => Bool.noConfusion z, fun d call hok => ko_X8_front hG hok⟩
theorem mk_134 {l : Launch} {D : va_G} {cA : Nat → ClassId} {B : BB} {G : State → Prop} {md : Bool} (hG : ∀ s, G s → Gs B s) : MOk l D cA B G md mI (codeT md) 134 := Or.inr ⟨(by decide +kernel : plainName yX8_rear.cls = true), fun z => Bool.noConfusion z, fun d call hok => ko_X8_rear hG hok⟩
theorem mk_135 {l : Launch} {D : va_G} {cA : Nat → ClassId} {B : BB} {G : State → Prop} {md : Bool} (hG : ∀ s, G s → Gs B s) : MOk l D cA B G md mI (codeT md) 135 := Or.inr ⟨(by decide +kernel : plainName yX8_stands.cls = true), fun z => Bool.noConfusion z, fun d call hok => ko_X8_stands hG hok⟩
theorem mk_136 {l : Launch} {D : va_G} {cA : Nat → ClassId} {B : BB} {G : State → Prop} {md : Bool} (hG : ∀ s, G s → Gs B s) : MOk l D cA B G md mI (codeT md) 136 := Or.inr ⟨(by decide +kernel : plainName yX8_ordersFrom.cls = true), fun z => Bool.noConfusion z, fun d call hok => ko_X8_ordersFrom hG hok⟩
theorem mk_137 {l : Launch} {D : va_G} {cA : Nat → ClassId} {B : BB} {G : State → Prop} {md : Bool} (hG : ∀ s, G s → Gs B s) : MOk l D cA B G md mI (codeT md) 137 := Or.inr ⟨(by decide +kernel : plainName yX8_ordersOf.cls = true), fun z => Bool.noConfusion z, fun d call hok => ko_X8_ordersOf hG hok⟩
theorem mk_138 {l : Launch} {D : va_G} {cA : Nat → ClassId} {B : BB} {G : State → Prop} {md : Bool} (hG : ∀ s, G s → Gs B s) : MOk l D cA B G md mI (codeT md) 138 := Or.inr ⟨(by decide +kernel : plainName yX8_aboardNow.cls = true), fun z => Bool.noConfusion z, fun d call hok => ko_X8_aboardNow hG hok⟩
theorem mk_139 {l : Launch} {D : va_G} {cA : Nat → ClassId} {B : BB} {G : State → Prop} {md : Bool} (hG : ∀ s, G s → Gs B s) : MOk l D cA B G md mI (codeT md) 139 := Or.inr ⟨(by decide +kernel : plainName yX8_now.cls = true), fun z => Bool.noConfusion z, fun d call hok => ko_X8_now hG hok⟩
theorem mk_140 {l : Launch} {D : va_G} {cA : Nat → ClassId} {B : BB} {G : State → Prop} {md : Bool} (hG : ∀ s, G s → Gs B s) : MOk l D cA B G md mI (codeT md) 140 := Or.inr ⟨(by decide +kernel : plainName yX8_bars.cls = true), fun z => Bool.noConfusion z, fun d call hok => ko_X8_bars hG hok⟩
theorem mk_141 {l : Launch} {D : va_G} {cA : Nat → ClassId} {B : BB} {G : State → Prop} {md : Bool} (hG : ∀ s, G s → Gs B s) : MOk l D cA B G md mI (codeT md) 141 := Or.inr ⟨(by decide +kernel : plainName yX8_compartment.cls = true), fun z => Bool.noConfusion z, fun d call hok => ko_X8_compartment hG hok⟩
theorem mk_142 {l : Launch} {D : va_G} {cA : Nat → ClassId} {B : BB} {G : State → Prop} {md : Bool} (hG : ∀ s, G s → Gs B s) : MOk l D cA B G md mI (codeT md) 142 := Or.inr ⟨(by decide +kernel : plainName yX8_drop.cls = true), fun z => Bool.noConfusion z, fun d call hok => ko_X8_drop hG hok⟩
theorem mk_143 {l : Launch} {D : va_G} {cA : Nat → ClassId} {B : BB} {G : State → Prop} {md : Bool} (hG : ∀ s, G s → Gs B s) : MOk l D cA B G md mI (codeT md) 143 := Or.inr ⟨(by decide +kernel : plainName yX8_may.cls = true), fun z => Bool.noConfusion z, fun d call hok => ko_X8_may hG hok⟩
theorem mk_144 {l : Launch} {D : va_G} {cA : Nat → ClassId} {B : BB} {G : State → Prop} {md : Bool} (hG : ∀ s, G s → Gs B s) : MOk l D cA B G md mI (codeT md) 144 := Or.inr ⟨(by decide +kernel : plainName yX8_would.cls = true), fun z => Bool.noConfusion z, fun d call hok => ko_X8_would hG hok⟩
theorem mk_145 {l : Launch} {D : va_G} {cA : Nat → ClassId} {B : BB} {G : State → Prop} {md : Bool} (hG : ∀ s, G s → Gs B s) : MOk l D cA B G md mI (codeT md) 145 := Or.inr ⟨(by decide +kernel : plainName yX8_orders.cls = true), fun z => Bool.noConfusion z, fun d call hok => ko_X8_orders hG hok⟩
theorem mk_146 {l : Launch} {D : va_G} {cA : Nat → ClassId} {B : BB} {G : State → Prop} {md : Bool} (hG : ∀ s, G s → Gs B s) : MOk l D cA B G md mI (codeT md) 146 := Or.inr ⟨(by decide +kernel : plainName yX8_ordered.cls = true), fun z => Bool.noConfusion z, fun d call hok => ko_X8_ordered hG hok⟩
theorem mk_147 {l : Launch} {D : va_G} {cA : Nat → ClassId} {B : BB} {G : State → Prop} {md : Bool} (hG : ∀ s, G s → Gs B s) : MOk l D cA B G md mI (codeT md) 147 := Or.inr ⟨(by decide +kernel : plainName yX8_without.cls = true), fun z => Bool.noConfusion z, fun d call hok => ko_X8_without hG hok⟩
theorem mk_148 {l : Launch} {D : va_G} {cA : Nat → ClassId} {B : BB} {G : State → Prop} {md : Bool} (hG : ∀ s, G s → Gs B s) : MOk l D cA B G md mI (codeT md) 148 := Or.inr ⟨(by decide +kernel : plainName yX8_pours.cls = true), fun z => Bool.noConfusion z, fun d call hok => ko_X8_pours hG hok⟩
theorem mk_149 {l : Launch} {D : va_G} {cA : Nat → ClassId} {B : BB} {G : State → Prop} {md : Bool} (hG : ∀ s, G s → Gs B s) : MOk l D cA B G md mI (codeT md) 149 := Or.inr ⟨(by decide +kernel : plainName yX8_looks.cls = true), fun z => Bool.noConfusion z, fun d call hok => ko_X8_looks hG hok⟩
theorem mk_150 {l : Launch} {D : va_G} {cA : Nat → ClassId} {B : BB} {G : State → Prop} {md : Bool} (hG : ∀ s, G s → Gs B s) : MOk l D cA B G md mI (codeT md) 150 := Or.inr ⟨(by decide +kernel : plainName yX8_tries.cls = true), fun z => Bool.noConfusion z, fun d call hok => ko_X8_tries hG hok⟩
theorem mk_151 {l : Launch} {D : va_G} {cA : Nat → ClassId} {B : BB} {G : State → Prop} {md : Bool} (hG : ∀ s, G s → Gs B s) : MOk l D cA B G md mI (codeT md) 151 := Or.inr ⟨(by decide +kernel : plainName yX8_laysPlan.cls = true), fun z => Bool.noConfusion z, fun d call hok => ko_X8_laysPlan hG hok⟩
theorem mk_152 {l : Launch} {D : va_G} {cA : Nat → ClassId} {B : BB} {G : State → Prop} {md : Bool} (hG : ∀ s, G s → Gs B s) : MOk l D cA B G md mI (codeT md) 152 := Or.inr ⟨(by decide +kernel : plainName yX8_plan.cls = true), fun z => Bool.noConfusion z, fun d call hok => ko_X8_plan hG hok⟩
theorem mk_153 {l : Launch} {D : va_G} {cA : Nat → ClassId} {B : BB} {G : State → Prop} {md : Bool} (hG : ∀ s, G s → Gs B s) : MOk l D cA B G md mI (codeT md) 153 := Or.inr ⟨(by decide +kernel : plainName yX8_washes.cls = true), fun z => Bool.noConfusion z, fun d call hok => ko_X8_washes hG hok⟩
theorem mk_154 {l : Launch} {D : va_G} {cA : Nat → ClassId} {B : BB} {G : State → Prop} {md : Bool} (hG : ∀ s, G s → Gs B s) : MOk l D cA B G md mI (codeT md) 154 := Or.inr ⟨(by decide +kernel : plainName yX8_snap.cls = true), fun z => Bool.noConfusion z, fun d call hok => ko_X8_snap hG hok⟩
theorem mk_155 {l : Launch} {D : va_G} {cA : Nat → ClassId} {B : BB} {G : State → Prop} {md : Bool} (hG : ∀ s, G s → Gs B s) : MOk l D cA B G md mI (codeT md) 155 := Or.inr ⟨(by decide +kernel : plainName yX8_asks.cls = true), fun z => Bool.noConfusion z, fun d call hok => ko_X8_asks hG hok⟩
theorem mk_156 {l : Launch} {D : va_G} {cA : Nat → ClassId} {B : BB} {G : State → Prop} {md : Bool} (hG : ∀ s, G s → Gs B s) : MOk l D cA B G md mI (codeT md) 156 := Or.inr ⟨(by decide +kernel : plainName yX8_cancel.cls = true), fun z => Bool.noConfusion z, fun d call hok => ko_X8_cancel hG hok⟩
theorem mk_157 {l : Launch} {D : va_G} {cA : Nat → ClassId} {B : BB} {G : State → Prop} {md : Bool} (hG : ∀ s, G s → Gs B s) : MOk l D cA B G md mI (codeT md) 157 := Or.inr ⟨(by decide +kernel : plainName yX8_puts.cls = true), fun z => Bool.noConfusion z, fun d call hok => ko_X8_puts hG hok⟩
theorem mk_158 {l : Launch} {D : va_G} {cA : Nat → ClassId} {B : BB} {G : State → Prop} {md : Bool} (hG : ∀ s, G s → Gs B s) : MOk l D cA B G md mI (codeT md) 158 := Or.inr ⟨(by decide +kernel : plainName yX8_put.cls = true), fun z => Bool.noConfusion z, fun d call hok => ko_X8_put hG hok⟩
theorem mk_159 {l : Launch} {D : va_G} {cA : Nat → ClassId} {B : BB} {G : State → Prop} {md : Bool} (hG : ∀ s, G s → Gs B s) : MOk l D cA B G md mI (codeT md) 159 := Or.inr ⟨(by decide +kernel : plainName yX8_load.cls = true), fun z => Bool.noConfusion z, fun d call hok => ko_X8_load hG hok⟩
theorem mk_160 {l : Launch} {D : va_G} {cA : Nat → ClassId} {B : BB} {G : State → Prop} {md : Bool} (hG : ∀ s, G s → Gs B s) : MOk l D cA B G md mI (codeT md) 160 := Or.inr ⟨(by decide +kernel : plainName yX8_goes.cls = true), fun z => Bool.noConfusion z, fun d call hok => ko_X8_goes hG hok⟩
theorem mk_161 {l : Launch} {D : va_G} {cA : Nat → ClassId} {B : BB} {G : State → Prop} {md : Bool} (hG : ∀ s, G s → Gs B s) : MOk l D cA B G md mI (codeT md) 161 := Or.inr ⟨(by decide +kernel : plainName yX8_unload.cls = true), fun z => Bool.noConfusion z, fun d call hok => ko_X8_unload hG hok⟩
theorem mk_162 {l : Launch} {D : va_G} {cA : Nat → ClassId} {B : BB} {G : State → Prop} {md : Bool} (hG : ∀ s, G s → Gs B s) : MOk l D cA B G md mI (codeT md) 162 := Or.inr ⟨(by decide +kernel : plainName yX8_empty.cls = true), fun z => Bool.noConfusion z, fun d call hok => ko_X8_empty hG hok⟩
theorem mk_163 {l : Launch} {D : va_G} {cA : Nat → ClassId} {B : BB} {G : State → Prop} {md : Bool} (hG : ∀ s, G s → Gs B s) : MOk l D cA B G md mI (codeT md) 163 := Or.inr ⟨(by decide +kernel : plainName yX8_wash.cls = true), fun z => Bool.noConfusion z, fun d call hok => ko_X8_wash hG hok⟩
theorem mk_164 {l : Launch} {D : va_G} {cA : Nat → ClassId} {B : BB} {G : State → Prop} {md : Bool} (hG : ∀ s, G s → Gs B s) : MOk l D cA B G md mI (codeT md) 164 := Or.inr ⟨(by decide +kernel : plainName yX8_undo.cls = true), fun z => Bool.noConfusion z, fun d call hok => ko_X8_undo hG hok⟩
theorem mk_165 {l : Launch} {D : va_G} {cA : Nat → ClassId} {B : BB} {G : State → Prop} {md : Bool} (hG : ∀ s, G s → Gs B s) : MOk l D cA B G md mI (codeT md) 165 := Or.inr ⟨(by decide +kernel : plainName yJ7_fill_53178.cls = true), fun z => Bool.noConfusion z, fun d call hok => ko_J7_fill_53178 hG hok⟩
theorem mk_166 {l : Launch} {D : va_G} {cA : Nat → ClassId} {B : BB} {G : State → Prop} {md : Bool} (hG : ∀ s, G s → Gs B s) : MOk l D cA B G md mI (codeT md) 166 := Or.inr ⟨(by decide +kernel : plainName yJ13_bitCount_95d88.cls = true), fun z => Bool.noConfusion z, fun d call hok => ko_J13_bitCount_95d88 hG hok⟩
theorem mk_167 {l : Launch} {D : va_G} {cA : Nat → ClassId} {B : BB} {G : State → Prop} {md : Bool} (hG : ∀ s, G s → Gs B s) : MOk l D cA B G md mI (codeT md) 167 := Or.inr ⟨(by decide +kernel : plainName yJ0_length_8abf5.cls = true), fun z => Bool.noConfusion z, fun d call hok => ko_J0_length_8abf5 hG hok⟩
theorem mk_168 {l : Launch} {D : va_G} {cA : Nat → ClassId} {B : BB} {G : State → Prop} {md : Bool} (hG : ∀ s, G s → Gs B s) : MOk l D cA B G md mI (codeT md) 168 := Or.inr ⟨(by decide +kernel : plainName yJ0_coder_7d493.cls = true), fun z => Bool.noConfusion z, fun d call hok => ko_J0_coder_7d493 hG hok⟩
theorem mk_169 {l : Launch} {D : va_G} {cA : Nat → ClassId} {B : BB} {G : State → Prop} {md : Bool} (hG : ∀ s, G s → Gs B s) : MOk l D cA B G md mI (codeT md) 169 := Or.inr ⟨(by decide +kernel : plainName yJ0_charAt_5068e.cls = true), fun z => Bool.noConfusion z, fun d call hok => ko_J0_charAt_5068e hG hok⟩
theorem mk_170 {l : Launch} {D : va_G} {cA : Nat → ClassId} {B : BB} {G : State → Prop} {md : Bool} (hG : ∀ s, G s → Gs B s) : MOk l D cA B G md mI (codeT md) 170 := Or.inr ⟨(by decide +kernel : plainName yJ0_isLatin1_aae02.cls = true), fun z => Bool.noConfusion z, fun d call hok => ko_J0_isLatin1_aae02 hG hok⟩
theorem mk_171 {l : Launch} {D : va_G} {cA : Nat → ClassId} {B : BB} {G : State → Prop} {md : Bool} (hG : ∀ s, G s → Gs B s) : MOk l D cA B G md mI (codeT md) 171 := Or.inr ⟨(by decide +kernel : plainName yJ0_checkIndex_df160.cls = true), fun z => Bool.noConfusion z, fun d call hok => ko_J0_checkIndex_df160 hG hok⟩
theorem mk_172 {l : Launch} {D : va_G} {cA : Nat → ClassId} {B : BB} {G : State → Prop} {md : Bool} (hG : ∀ s, G s → Gs B s) : MOk l D cA B G md mI (codeT md) 172 := Or.inr ⟨(by decide +kernel : plainName yJ1_charAt_3b067.cls = true), fun z => Bool.noConfusion z, fun d call hok => ko_J1_charAt_3b067 hG hok⟩
theorem mk_173 {l : Launch} {D : va_G} {cA : Nat → ClassId} {B : BB} {G : State → Prop} {md : Bool} (hG : ∀ s, G s → Gs B s) : MOk l D cA B G md mI (codeT md) 173 := Or.inr ⟨(by decide +kernel : plainName yJ3_checkIndex_8e157.cls = true), fun z => Bool.noConfusion z, fun d call hok => ko_J3_checkIndex_8e157 hG hok⟩
set_option maxRecDepth 100000 in
theorem all_mk {l : Launch} {D : va_G} {cA : Nat → ClassId} {B : BB} {G : State → Prop} {md : Bool} (hG : ∀ s, G s → Gs B s) : ∀ id, MOk l D cA B G md mI (codeT md) id := by
  have h0 : ∀ a, a < 0 → MOk l D cA B G md mI (codeT md) a := lt_0
  have h1 : ∀ a, a < 1 → MOk l D cA B G md mI (codeT md) a := lt_s h0 (mk_0 hG)
  have h2 : ∀ a, a < 2 → MOk l D cA B G md mI (codeT md) a := lt_s h1 (mk_1 hG)
  have h3 : ∀ a, a < 3 → MOk l D cA B G md mI (codeT md) a := lt_s h2 (mk_2 hG)
  have h4 : ∀ a, a < 4 → MOk l D cA B G md mI (codeT md) a := lt_s h3 (mk_3 hG)
  have h5 : ∀ a, a < 5 → MOk l D cA B G md mI (codeT md) a := lt_s h4 (mk_4 hG)
  have h6 : ∀ a, a < 6 → MOk l D cA B G md mI (codeT md) a := lt_s h5 (mk_5 hG)
  have h7 : ∀ a, a < 7 → MOk l D cA B G md mI (codeT md) a := lt_s h6 (mk_6 hG)
  have h8 : ∀ a, a < 8 → MOk l D cA B G md mI (codeT md) a := lt_s h7 (mk_7 hG)
  have h9 : ∀ a, a < 9 → MOk l D cA B G md mI (codeT md) a := lt_s h8 (mk_8 hG)
  have h10 : ∀ a, a < 10 → MOk l D cA B G md mI (codeT md) a := lt_s h9 (mk_9 hG)
  have h11 : ∀ a, a < 11 → MOk l D cA B G md mI (codeT md) a := lt_s h10 (mk_10 hG)
  have h12 : ∀ a, a < 12 → MOk l D cA B G md mI (codeT md) a := lt_s h11 (mk_11 hG)
  have h13 : ∀ a, a < 13 → MOk l D cA B G md mI (codeT md) a := lt_s h12 (mk_12 hG)
  have h14 : ∀ a, a < 14 → MOk l D cA B G md mI (codeT md) a := lt_s h13 (mk_13 hG)
  have h15 : ∀ a, a < 15 → MOk l D cA B G md mI (codeT md) a := lt_s h14 (mk_14 hG)
  have h16 : ∀ a, a < 16 → MOk l D cA B G md mI (codeT md) a := lt_s h15 (mk_15 hG)
  have h17 : ∀ a, a < 17 → MOk l D cA B G md mI (codeT md) a := lt_s h16 (mk_16 hG)
  have h18 : ∀ a, a < 18 → MOk l D cA B G md mI (codeT md) a := lt_s h17 (mk_17 hG)
  have h19 : ∀ a, a < 19 → MOk l D cA B G md mI (codeT md) a := lt_s h18 (mk_18 hG)
  have h20 : ∀ a, a < 20 → MOk l D cA B G md mI (codeT md) a := lt_s h19 (mk_19 hG)
  have h21 : ∀ a, a < 21 → MOk l D cA B G md mI (codeT md) a := lt_s h20 (mk_20 hG)
  have h22 : ∀ a, a < 22 → MOk l D cA B G md mI (codeT md) a := lt_s h21 (mk_21 hG)
  have h23 : ∀ a, a < 23 → MOk l D cA B G md mI (codeT md) a := lt_s h22 (mk_22 hG)
  have h24 : ∀ a, a < 24 → MOk l D cA B G md mI (codeT md) a := lt_s h23 (mk_23 hG)
  have h25 : ∀ a, a < 25 → MOk l D cA B G md mI (codeT md) a := lt_s h24 (mk_24 hG)
  have h26 : ∀ a, a < 26 → MOk l D cA B G md mI (codeT md) a := lt_s h25 (mk_25 hG)
  have h27 : ∀ a, a < 27 → MOk l D cA B G md mI (codeT md) a := lt_s h26 (mk_26 hG)
  have h28 : ∀ a, a < 28 → MOk l D cA B G md mI (codeT md) a := lt_s h27 (mk_27 hG)
  have h29 : ∀ a, a < 29 → MOk l D cA B G md mI (codeT md) a := lt_s h28 (mk_28 hG)
  have h30 : ∀ a, a < 30 → MOk l D cA B G md mI (codeT md) a := lt_s h29 (mk_29 hG)
  have h31 : ∀ a, a < 31 → MOk l D cA B G md mI (codeT md) a := lt_s h30 (mk_30 hG)
  have h32 : ∀ a, a < 32 → MOk l D cA B G md mI (codeT md) a := lt_s h31 (mk_31 hG)
  have h33 : ∀ a, a < 33 → MOk l D cA B G md mI (codeT md) a := lt_s h32 (mk_32 hG)
  have h34 : ∀ a, a < 34 → MOk l D cA B G md mI (codeT md) a := lt_s h33 (mk_33 hG)
  have h35 : ∀ a, a < 35 → MOk l D cA B G md mI (codeT md) a := lt_s h34 (mk_34 hG)
  have h36 : ∀ a, a < 36 → MOk l D cA B G md mI (codeT md) a := lt_s h35 (mk_35 hG)
  have h37 : ∀ a, a < 37 → MOk l D cA B G md mI (codeT md) a := lt_s h36 (mk_36 hG)
  have h38 : ∀ a, a < 38 → MOk l D cA B G md mI (codeT md) a := lt_s h37 (mk_37 hG)
  have h39 : ∀ a, a < 39 → MOk l D cA B G md mI (codeT md) a := lt_s h38 (mk_38 hG)
  have h40 : ∀ a, a < 40 → MOk l D cA B G md mI (codeT md) a := lt_s h39 (mk_39 hG)
  have h41 : ∀ a, a < 41 → MOk l D cA B G md mI (codeT md) a := lt_s h40 (mk_40 hG)
  have h42 : ∀ a, a < 42 → MOk l D cA B G md mI (codeT md) a := lt_s h41 (mk_41 hG)
  have h43 : ∀ a, a < 43 → MOk l D cA B G md mI (codeT md) a := lt_s h42 (mk_42 hG)
  have h44 : ∀ a, a < 44 → MOk l D cA B G md mI (codeT md) a := lt_s h43 (mk_43 hG)
  have h45 : ∀ a, a < 45 → MOk l D cA B G md mI (codeT md) a := lt_s h44 (mk_44 hG)
  have h46 : ∀ a, a < 46 → MOk l D cA B G md mI (codeT md) a := lt_s h45 (mk_45 hG)
  have h47 : ∀ a, a < 47 → MOk l D cA B G md mI (codeT md) a := lt_s h46 (mk_46 hG)
  have h48 : ∀ a, a < 48 → MOk l D cA B G md mI (codeT md) a := lt_s h47 (mk_47 hG)
  have h49 : ∀ a, a < 49 → MOk l D cA B G md mI (codeT md) a := lt_s h48 (mk_48 hG)
  have h50 : ∀ a, a < 50 → MOk l D cA B G md mI (codeT md) a := lt_s h49 (mk_49 hG)
  have h51 : ∀ a, a < 51 → MOk l D cA B G md mI (codeT md) a := lt_s h50 (mk_50 hG)
  have h52 : ∀ a, a < 52 → MOk l D cA B G md mI (codeT md) a := lt_s h51 (mk_51 hG)
  have h53 : ∀ a, a < 53 → MOk l D cA B G md mI (codeT md) a := lt_s h52 (mk_52 hG)
  have h54 : ∀ a, a < 54 → MOk l D cA B G md mI (codeT md) a := lt_s h53 (mk_53 hG)
  have h55 : ∀ a, a < 55 → MOk l D cA B G md mI (codeT md) a := lt_s h54 (mk_54 hG)
  have h56 : ∀ a, a < 56 → MOk l D cA B G md mI (codeT md) a := lt_s h55 (mk_55 hG)
  have h57 : ∀ a, a < 57 → MOk l D cA B G md mI (codeT md) a := lt_s h56 (mk_56 hG)
  have h58 : ∀ a, a < 58 → MOk l D cA B G md mI (codeT md) a := lt_s h57 (mk_57 hG)
  have h59 : ∀ a, a < 59 → MOk l D cA B G md mI (codeT md) a := lt_s h58 (mk_58 hG)
  have h60 : ∀ a, a < 60 → MOk l D cA B G md mI (codeT md) a := lt_s h59 (mk_59 hG)
  have h61 : ∀ a, a < 61 → MOk l D cA B G md mI (codeT md) a := lt_s h60 (mk_60 hG)
  have h62 : ∀ a, a < 62 → MOk l D cA B G md mI (codeT md) a := lt_s h61 (mk_61 hG)
  have h63 : ∀ a, a < 63 → MOk l D cA B G md mI (codeT md) a := lt_s h62 (mk_62 hG)
  have h64 : ∀ a, a < 64 → MOk l D cA B G md mI (codeT md) a := lt_s h63 (mk_63 hG)
  have h65 : ∀ a, a < 65 → MOk l D cA B G md mI (codeT md) a := lt_s h64 (mk_64 hG)
  have h66 : ∀ a, a < 66 → MOk l D cA B G md mI (codeT md) a := lt_s h65 (mk_65 hG)
  have h67 : ∀ a, a < 67 → MOk l D cA B G md mI (codeT md) a := lt_s h66 (mk_66 hG)
  have h68 : ∀ a, a < 68 → MOk l D cA B G md mI (codeT md) a := lt_s h67 (mk_67 hG)
  have h69 : ∀ a, a < 69 → MOk l D cA B G md mI (codeT md) a := lt_s h68 (mk_68 hG)
  have h70 : ∀ a, a < 70 → MOk l D cA B G md mI (codeT md) a := lt_s h69 (mk_69 hG)
  have h71 : ∀ a, a < 71 → MOk l D cA B G md mI (codeT md) a := lt_s h70 (mk_70 hG)
  have h72 : ∀ a, a < 72 → MOk l D cA B G md mI (codeT md) a := lt_s h71 (mk_71 hG)
  have h73 : ∀ a, a < 73 → MOk l D cA B G md mI (codeT md) a := lt_s h72 (mk_72 hG)
  have h74 : ∀ a, a < 74 → MOk l D cA B G md mI (codeT md) a := lt_s h73 (mk_73 hG)
  have h75 : ∀ a, a < 75 → MOk l D cA B G md mI (codeT md) a := lt_s h74 (mk_74 hG)
  have h76 : ∀ a, a < 76 → MOk l D cA B G md mI (codeT md) a := lt_s h75 (mk_75 hG)
  have h77 : ∀ a, a < 77 → MOk l D cA B G md mI (codeT md) a := lt_s h76 (mk_76 hG)
  have h78 : ∀ a, a < 78 → MOk l D cA B G md mI (codeT md) a := lt_s h77 (mk_77 hG)
  have h79 : ∀ a, a < 79 → MOk l D cA B G md mI (codeT md) a := lt_s h78 (mk_78 hG)
  have h80 : ∀ a, a < 80 → MOk l D cA B G md mI (codeT md) a := lt_s h79 (mk_79 hG)
  have h81 : ∀ a, a < 81 → MOk l D cA B G md mI (codeT md) a := lt_s h80 (mk_80 hG)
  have h82 : ∀ a, a < 82 → MOk l D cA B G md mI (codeT md) a := lt_s h81 (mk_81 hG)
  have h83 : ∀ a, a < 83 → MOk l D cA B G md mI (codeT md) a := lt_s h82 (mk_82 hG)
  have h84 : ∀ a, a < 84 → MOk l D cA B G md mI (codeT md) a := lt_s h83 (mk_83 hG)
  have h85 : ∀ a, a < 85 → MOk l D cA B G md mI (codeT md) a := lt_s h84 (mk_84 hG)
  have h86 : ∀ a, a < 86 → MOk l D cA B G md mI (codeT md) a := lt_s h85 (mk_85 hG)
  have h87 : ∀ a, a < 87 → MOk l D cA B G md mI (codeT md) a := lt_s h86 (mk_86 hG)
  have h88 : ∀ a, a < 88 → MOk l D cA B G md mI (codeT md) a := lt_s h87 (mk_87 hG)
  have h89 : ∀ a, a < 89 → MOk l D cA B G md mI (codeT md) a := lt_s h88 (mk_88 hG)
  have h90 : ∀ a, a < 90 → MOk l D cA B G md mI (codeT md) a := lt_s h89 (mk_89 hG)
  have h91 : ∀ a, a < 91 → MOk l D cA B G md mI (codeT md) a := lt_s h90 (mk_90 hG)
  have h92 : ∀ a, a < 92 → MOk l D cA B G md mI (codeT md) a := lt_s h91 (mk_91 hG)
  have h93 : ∀ a, a < 93 → MOk l D cA B G md mI (codeT md) a := lt_s h92 (mk_92 hG)
  have h94 : ∀ a, a < 94 → MOk l D cA B G md mI (codeT md) a := lt_s h93 (mk_93 hG)
  have h95 : ∀ a, a < 95 → MOk l D cA B G md mI (codeT md) a := lt_s h94 (mk_94 hG)
  have h96 : ∀ a, a < 96 → MOk l D cA B G md mI (codeT md) a := lt_s h95 (mk_95 hG)
  have h97 : ∀ a, a < 97 → MOk l D cA B G md mI (codeT md) a := lt_s h96 (mk_96 hG)
  have h98 : ∀ a, a < 98 → MOk l D cA B G md mI (codeT md) a := lt_s h97 (mk_97 hG)
  have h99 : ∀ a, a < 99 → MOk l D cA B G md mI (codeT md) a := lt_s h98 (mk_98 hG)
  have h100 : ∀ a, a < 100 → MOk l D cA B G md mI (codeT md) a := lt_s h99 (mk_99 hG)
  have h101 : ∀ a, a < 101 → MOk l D cA B G md mI (codeT md) a := lt_s h100 (mk_100 hG)
  have h102 : ∀ a, a < 102 → MOk l D cA B G md mI (codeT md) a := lt_s h101 (mk_101 hG)
  have h103 : ∀ a, a < 103 → MOk l D cA B G md mI (codeT md) a := lt_s h102 (mk_102 hG)
  have h104 : ∀ a, a < 104 → MOk l D cA B G md mI (codeT md) a := lt_s h103 (mk_103 hG)
  have h105 : ∀ a, a < 105 → MOk l D cA B G md mI (codeT md) a := lt_s h104 (mk_104 hG)
  have h106 : ∀ a, a < 106 → MOk l D cA B G md mI (codeT md) a := lt_s h105 (mk_105 hG)
  have h107 : ∀ a, a < 107 → MOk l D cA B G md mI (codeT md) a := lt_s h106 (mk_106 hG)
  have h108 : ∀ a, a < 108 → MOk l D cA B G md mI (codeT md) a := lt_s h107 (mk_107 hG)
  have h109 : ∀ a, a < 109 → MOk l D cA B G md mI (codeT md) a := lt_s h108 (mk_108 hG)
  have h110 : ∀ a, a < 110 → MOk l D cA B G md mI (codeT md) a := lt_s h109 (mk_109 hG)
  have h111 : ∀ a, a < 111 → MOk l D cA B G md mI (codeT md) a := lt_s h110 (mk_110 hG)
  have h112 : ∀ a, a < 112 → MOk l D cA B G md mI (codeT md) a := lt_s h111 (mk_111 hG)
  have h113 : ∀ a, a < 113 → MOk l D cA B G md mI (codeT md) a := lt_s h112 (mk_112 hG)
  have h114 : ∀ a, a < 114 → MOk l D cA B G md mI (codeT md) a := lt_s h113 (mk_113 hG)
  have h115 : ∀ a, a < 115 → MOk l D cA B G md mI (codeT md) a := lt_s h114 (mk_114 hG)
  have h116 : ∀ a, a < 116 → MOk l D cA B G md mI (codeT md) a := lt_s h115 (mk_115 hG)
  have h117 : ∀ a, a < 117 → MOk l D cA B G md mI (codeT md) a := lt_s h116 (mk_116 hG)
  have h118 : ∀ a, a < 118 → MOk l D cA B G md mI (codeT md) a := lt_s h117 (mk_117 hG)
  have h119 : ∀ a, a < 119 → MOk l D cA B G md mI (codeT md) a := lt_s h118 (mk_118 hG)
  have h120 : ∀ a, a < 120 → MOk l D cA B G md mI (codeT md) a := lt_s h119 (mk_119 hG)
  have h121 : ∀ a, a < 121 → MOk l D cA B G md mI (codeT md) a := lt_s h120 (mk_120 hG)
  have h122 : ∀ a, a < 122 → MOk l D cA B G md mI (codeT md) a := lt_s h121 (mk_121 hG)
  have h123 : ∀ a, a < 123 → MOk l D cA B G md mI (codeT md) a := lt_s h122 (mk_122 hG)
  have h124 : ∀ a, a < 124 → MOk l D cA B G md mI (codeT md) a := lt_s h123 (mk_123 hG)
  have h125 : ∀ a, a < 125 → MOk l D cA B G md mI (codeT md) a := lt_s h124 (mk_124 hG)
  have h126 : ∀ a, a < 126 → MOk l D cA B G md mI (codeT md) a := lt_s h125 (mk_125 hG)
  have h127 : ∀ a, a < 127 → MOk l D cA B G md mI (codeT md) a := lt_s h126 (mk_126 hG)
  have h128 : ∀ a, a < 128 → MOk l D cA B G md mI (codeT md) a := lt_s h127 (mk_127 hG)
  have h129 : ∀ a, a < 129 → MOk l D cA B G md mI (codeT md) a := lt_s h128 (mk_128 hG)
  have h130 : ∀ a, a < 130 → MOk l D cA B G md mI (codeT md) a := lt_s h129 (mk_129 hG)
  have h131 : ∀ a, a < 131 → MOk l D cA B G md mI (codeT md) a := lt_s h130 (mk_130 hG)
  have h132 : ∀ a, a < 132 → MOk l D cA B G md mI (codeT md) a := lt_s h131 (mk_131 hG)
  have h133 : ∀ a, a < 133 → MOk l D cA B G md mI (codeT md) a := lt_s h132 (mk_132 hG)
  have h134 : ∀ a, a < 134 → MOk l D cA B G md mI (codeT md) a := lt_s h133 (mk_133 hG)
  have h135 : ∀ a, a < 135 → MOk l D cA B G md mI (codeT md) a := lt_s h134 (mk_134 hG)
  have h136 : ∀ a, a < 136 → MOk l D cA B G md mI (codeT md) a := lt_s h135 (mk_135 hG)
  have h137 : ∀ a, a < 137 → MOk l D cA B G md mI (codeT md) a := lt_s h136 (mk_136 hG)
  have h138 : ∀ a, a < 138 → MOk l D cA B G md mI (codeT md) a := lt_s h137 (mk_137 hG)
  have h139 : ∀ a, a < 139 → MOk l D cA B G md mI (codeT md) a := lt_s h138 (mk_138 hG)
  have h140 : ∀ a, a < 140 → MOk l D cA B G md mI (codeT md) a := lt_s h139 (mk_139 hG)
  have h141 : ∀ a, a < 141 → MOk l D cA B G md mI (codeT md) a := lt_s h140 (mk_140 hG)
  have h142 : ∀ a, a < 142 → MOk l D cA B G md mI (codeT md) a := lt_s h141 (mk_141 hG)
  have h143 : ∀ a, a < 143 → MOk l D cA B G md mI (codeT md) a := lt_s h142 (mk_142 hG)
  have h144 : ∀ a, a < 144 → MOk l D cA B G md mI (codeT md) a := lt_s h143 (mk_143 hG)
  have h145 : ∀ a, a < 145 → MOk l D cA B G md mI (codeT md) a := lt_s h144 (mk_144 hG)
  have h146 : ∀ a, a < 146 → MOk l D cA B G md mI (codeT md) a := lt_s h145 (mk_145 hG)
  have h147 : ∀ a, a < 147 → MOk l D cA B G md mI (codeT md) a := lt_s h146 (mk_146 hG)
  have h148 : ∀ a, a < 148 → MOk l D cA B G md mI (codeT md) a := lt_s h147 (mk_147 hG)
  have h149 : ∀ a, a < 149 → MOk l D cA B G md mI (codeT md) a := lt_s h148 (mk_148 hG)
  have h150 : ∀ a, a < 150 → MOk l D cA B G md mI (codeT md) a := lt_s h149 (mk_149 hG)
  have h151 : ∀ a, a < 151 → MOk l D cA B G md mI (codeT md) a := lt_s h150 (mk_150 hG)
  have h152 : ∀ a, a < 152 → MOk l D cA B G md mI (codeT md) a := lt_s h151 (mk_151 hG)
  have h153 : ∀ a, a < 153 → MOk l D cA B G md mI (codeT md) a := lt_s h152 (mk_152 hG)
  have h154 : ∀ a, a < 154 → MOk l D cA B G md mI (codeT md) a := lt_s h153 (mk_153 hG)
  have h155 : ∀ a, a < 155 → MOk l D cA B G md mI (codeT md) a := lt_s h154 (mk_154 hG)
  have h156 : ∀ a, a < 156 → MOk l D cA B G md mI (codeT md) a := lt_s h155 (mk_155 hG)
  have h157 : ∀ a, a < 157 → MOk l D cA B G md mI (codeT md) a := lt_s h156 (mk_156 hG)
  have h158 : ∀ a, a < 158 → MOk l D cA B G md mI (codeT md) a := lt_s h157 (mk_157 hG)
  have h159 : ∀ a, a < 159 → MOk l D cA B G md mI (codeT md) a := lt_s h158 (mk_158 hG)
  have h160 : ∀ a, a < 160 → MOk l D cA B G md mI (codeT md) a := lt_s h159 (mk_159 hG)
  have h161 : ∀ a, a < 161 → MOk l D cA B G md mI (codeT md) a := lt_s h160 (mk_160 hG)
  have h162 : ∀ a, a < 162 → MOk l D cA B G md mI (codeT md) a := lt_s h161 (mk_161 hG)
  have h163 : ∀ a, a < 163 → MOk l D cA B G md mI (codeT md) a := lt_s h162 (mk_162 hG)
  have h164 : ∀ a, a < 164 → MOk l D cA B G md mI (codeT md) a := lt_s h163 (mk_163 hG)
  have h165 : ∀ a, a < 165 → MOk l D cA B G md mI (codeT md) a := lt_s h164 (mk_164 hG)
  have h166 : ∀ a, a < 166 → MOk l D cA B G md mI (codeT md) a := lt_s h165 (mk_165 hG)
  have h167 : ∀ a, a < 167 → MOk l D cA B G md mI (codeT md) a := lt_s h166 (mk_166 hG)
  have h168 : ∀ a, a < 168 → MOk l D cA B G md mI (codeT md) a := lt_s h167 (mk_167 hG)
  have h169 : ∀ a, a < 169 → MOk l D cA B G md mI (codeT md) a := lt_s h168 (mk_168 hG)
  have h170 : ∀ a, a < 170 → MOk l D cA B G md mI (codeT md) a := lt_s h169 (mk_169 hG)
  have h171 : ∀ a, a < 171 → MOk l D cA B G md mI (codeT md) a := lt_s h170 (mk_170 hG)
  have h172 : ∀ a, a < 172 → MOk l D cA B G md mI (codeT md) a := lt_s h171 (mk_171 hG)
  have h173 : ∀ a, a < 173 → MOk l D cA B G md mI (codeT md) a := lt_s h172 (mk_172 hG)
  have h174 : ∀ a, a < 174 → MOk l D cA B G md mI (codeT md) a := lt_s h173 (mk_173 hG)
  intro id
  by_cases h : id < 174
  · exact h174 id h
  · left
    unfold codeT
    rw [List.getD_eq_getElem?_getD, List.getElem?_eq_none (by show 174 ≤ id; omega)]
    rfl
