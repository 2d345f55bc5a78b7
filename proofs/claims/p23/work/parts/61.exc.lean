theorem w_862 : Cond.classLink RX7 168 "java/util/NoSuchElementException" ∈ tT := tT_in (cs_tables_1_4) 71 (by decide +kernel) rfl
theorem w_91 : Cond.initialized "java/util/NoSuchElementException" ∈ tT := tT_in (cs_tables_1_1) 20 (by decide +kernel) rfl
theorem w_857 : Cond.classLink RL 13 "java/util/NoSuchElementException" ∈ tT := tT_in (cs_tables_1_4) 66 (by decide +kernel) rfl
theorem w_858 : Cond.methodLink RL 7 yX7_drop ∈ tT := tT_in (cs_tables_1_4) 67 (by decide +kernel) rfl
theorem w_859 : Cond.instanceMethod yX7_drop ∈ tT := tT_in (cs_tables_1_4) 68 (by decide +kernel) rfl
theorem w_860 : Cond.selects RX7 yX7_drop yX7_drop ∈ tT := tT_in (cs_tables_1_4) 69 (by decide +kernel) rfl
theorem w_861 : Cond.code yX7_drop cX7_drop 3 (some .int) ∈ tT := tT_in (cs_tables_1_4) 70 (by decide +kernel) rfl
theorem w_854 : Cond.methodLink RL 47 yL_drop ∈ tT := tT_in (cs_tables_1_4) 63 (by decide +kernel) rfl
theorem w_855 : Cond.static yL_drop ∈ tT := tT_in (cs_tables_1_4) 64 (by decide +kernel) rfl
theorem w_71 : Cond.initialized RL ∈ tT := tT_in (cs_tables_1_1) 0 (by decide +kernel) rfl
theorem w_856 : Cond.codeWith yL_drop cL_drop 5 (some .int) [(0, 10, 13, 13)] ∈ tT := tT_in (cs_tables_1_4) 65 (by decide +kernel) rfl
def k_dropP : List Ent := [ePure 0 (fLoadA 0 1 0),
  eGet 1 7 6,
  ePure 4 (fLoadI 4 1 1),
  eCallV 5 1 57 5,
  ePure 8 (fIf1 8 20 b1_eq),
  ePure 11 (fLoadI 11 1 2),
  ePure 12 (fIf1 12 20 b1_lt),
  ePure 15 (fLoadI 15 1 2),
  ePure 16 (fPush 16 1 (.int 5)),
  ePure 17 (fIf2 17 28 b2_le),
  ePure 28 (fLoadI 28 1 2),
  ePure 29 (fSw 0 [64, 74, 84, 96, 109] 119),
  ePure 64 (fLoadA 64 1 0),
  eGet 65 7 4,
  eGet 68 6 10,
  ePure 71 (fLoadI 71 1 1),
  eIald 72 0,
  eRetI 73,
  ePure 74 (fLoadA 74 1 0),
  eGet 75 7 4,
  eGet 78 6 11,
  ePure 81 (fLoadI 81 1 1),
  eIald 82 0,
  eRetI 83,
  ePure 84 (fLoadA 84 1 0),
  eGet 85 7 6,
  eGet 88 5 0,
  ePure 91 (fLoadI 91 1 1),
  eCallV 92 1 6 0,
  eRetI 95,
  ePure 96 (fLoadA 96 1 0),
  eGet 97 7 6,
  ePure 100 (fLoadA 100 1 0),
  eGet 101 7 4,
  ePure 104 (fLoadI 104 1 1),
  eCallV 105 2 58 5,
  eRetI 108,
  ePure 109 (fLoadA 109 1 0),
  eGet 110 7 6,
  eGet 113 5 3,
  ePure 116 (fLoadI 116 1 1),
  eIald 117 0,
  eRetI 118,
  ePure 119 (fLoadA 119 1 0),
  eGet 120 7 6,
  ePure 123 (fLoadA 123 1 0),
  eGet 124 7 4,
  ePure 127 (fLoadI 127 1 1),
  eCallV 128 2 59 5,
  eRetI 131]
set_option maxRecDepth 100000 in
set_option maxHeartbeats 4000000 in
theorem ko_dropP {l : Launch} {D : va_G} {cA : Nat → ClassId} {B : BB} {G : State → Prop} {md : Bool} {d : Nat} {call : Call} (hok : COk l D cA B G md d mI call) : ∀ e ∈ k_dropP, EOk l RX7 cX7_drop 3 (some .int) false D cA B G md d call e := by
  unfold k_dropP
  refine al_cons (eok_pure (pr_aload_n dX7_drop_0 rfl)) ?_
  refine al_cons (ok_get cl_X7 gX7 (by decide) w_414 dX7_drop_1) ?_
  refine al_cons (eok_pure (pr_iload_n dX7_drop_4 rfl)) ?_
  refine al_cons (ok_callV hok mi_57 cl_X5 w_717 w_718 w_719 w_75 w_720 na_57 (by decide) dX7_drop_5) ?_
  refine al_cons (eok_pure (pr_if_eq dX7_drop_8 (by decide))) ?_
  refine al_cons (eok_pure (pr_iload_n dX7_drop_11 rfl)) ?_
  refine al_cons (eok_pure (pr_if_lt dX7_drop_12 (by decide))) ?_
  refine al_cons (eok_pure (pr_iload_n dX7_drop_15 rfl)) ?_
  refine al_cons (eok_pure (pr_iconst dX7_drop_16 (by decide))) ?_
  refine al_cons (eok_pure (pr_icmp_le dX7_drop_17 (by decide))) ?_
  refine al_cons (eok_pure (pr_iload_n dX7_drop_28 rfl)) ?_
  refine al_cons (eok_pure (pr_tsw dX7_drop_29 (by decide) (by decide) (by decide))) ?_
  refine al_cons (eok_pure (pr_aload_n dX7_drop_64 rfl)) ?_
  refine al_cons (ok_get cl_X7 gX7 (by decide) w_412 dX7_drop_65) ?_
  refine al_cons (ok_get cl_X6 gX6 (by decide) w_188 dX7_drop_68) ?_
  refine al_cons (eok_pure (pr_iload_n dX7_drop_71 rfl)) ?_
  refine al_cons (ok_iald dX7_drop_72) ?_
  refine al_cons (ok_retI rfl dX7_drop_73) ?_
  refine al_cons (eok_pure (pr_aload_n dX7_drop_74 rfl)) ?_
  refine al_cons (ok_get cl_X7 gX7 (by decide) w_412 dX7_drop_75) ?_
  refine al_cons (ok_get cl_X6 gX6 (by decide) w_194 dX7_drop_78) ?_
  refine al_cons (eok_pure (pr_iload_n dX7_drop_81 rfl)) ?_
  refine al_cons (ok_iald dX7_drop_82) ?_
  refine al_cons (ok_retI rfl dX7_drop_83) ?_
  refine al_cons (eok_pure (pr_aload_n dX7_drop_84 rfl)) ?_
  refine al_cons (ok_get cl_X7 gX7 (by decide) w_414 dX7_drop_85) ?_
  refine al_cons (ok_get cl_X5 gX5 (by decide) w_254 dX7_drop_88) ?_
  refine al_cons (eok_pure (pr_iload_n dX7_drop_91 rfl)) ?_
  refine al_cons (ok_callV hok mi_6 cl_X0 w_814 w_681 w_682 w_76 w_683 na_6 (by decide) dX7_drop_92) ?_
  refine al_cons (ok_retI rfl dX7_drop_95) ?_
  refine al_cons (eok_pure (pr_aload_n dX7_drop_96 rfl)) ?_
  refine al_cons (ok_get cl_X7 gX7 (by decide) w_414 dX7_drop_97) ?_
  refine al_cons (eok_pure (pr_aload_n dX7_drop_100 rfl)) ?_
  refine al_cons (ok_get cl_X7 gX7 (by decide) w_412 dX7_drop_101) ?_
  refine al_cons (eok_pure (pr_iload_n dX7_drop_104 rfl)) ?_
  refine al_cons (ok_callV hok mi_58 cl_X5 w_721 w_722 w_723 w_75 w_724 na_58 (by decide) dX7_drop_105) ?_
  refine al_cons (ok_retI rfl dX7_drop_108) ?_
  refine al_cons (eok_pure (pr_aload_n dX7_drop_109 rfl)) ?_
  refine al_cons (ok_get cl_X7 gX7 (by decide) w_414 dX7_drop_110) ?_
  refine al_cons (ok_get cl_X5 gX5 (by decide) w_261 dX7_drop_113) ?_
  refine al_cons (eok_pure (pr_iload_n dX7_drop_116 rfl)) ?_
  refine al_cons (ok_iald dX7_drop_117) ?_
  refine al_cons (ok_retI rfl dX7_drop_118) ?_
  refine al_cons (eok_pure (pr_aload_n dX7_drop_119 rfl)) ?_
  refine al_cons (ok_get cl_X7 gX7 (by decide) w_414 dX7_drop_120) ?_
  refine al_cons (eok_pure (pr_aload_n dX7_drop_123 rfl)) ?_
  refine al_cons (ok_get cl_X7 gX7 (by decide) w_412 dX7_drop_124) ?_
  refine al_cons (eok_pure (pr_iload_n dX7_drop_127 rfl)) ?_
  refine al_cons (ok_callV hok mi_59 cl_X5 w_833 w_834 w_835 w_75 w_836 na_59 (by decide) dX7_drop_128) ?_
  refine al_cons (ok_retI rfl dX7_drop_131) ?_
  exact al_nil
def k_ldP : List Ent := [ePure 0 (fLoadA 0 1 3), ePure 1 (fPush 1 1 (.int 0)), ePure 2 (fLoadA 2 1 0), ePure 3 (fLoadI 3 1 1), ePure 4 (fLoadI 4 1 2)]
theorem ko_ldP {l : Launch} {D : va_G} {cA : Nat → ClassId} {B : BB} {G : State → Prop} {md : Bool} {d : Nat} {call : Call} : ∀ e ∈ k_ldP, EOk l RL cL_drop 5 (some .int) false D cA B G md d call e := by
  unfold k_ldP
  refine al_cons (eok_pure (pr_aload_n dL_drop_0 rfl)) ?_
  refine al_cons (eok_pure (pr_iconst dL_drop_1 (by decide))) ?_
  refine al_cons (eok_pure (pr_aload_n dL_drop_2 rfl)) ?_
  refine al_cons (eok_pure (pr_iload_n dL_drop_3 rfl)) ?_
  refine al_cons (eok_pure (pr_iload_n dL_drop_4 rfl)) ?_
  exact al_nil
def isX (w : Cond) : Bool := match w with
  | .declares _ => true
  | .castable _ _ => true
  | _ => false
def tX : List Cond := lw_tbl.filter isX
/-- what the law knows of the machine below its own cells: the script; the throw's statics and words -/
def Gx (L : Nat) (xs : Nat → Int32) (B : BB) (s : State) : Prop :=
  va_X B.2.1 L xs s s.heap ∧ vx_Zq Bundle.tN "UNASSIGNED_STACK" Bundle.steD (fun q => B.1 ≤ q) s s.heap ∧ vx_Zq Bundle.tN "SUPPRESSED_SENTINEL" Bundle.listD (fun q => B.1 ≤ q) s s.heap ∧ (∀ w ∈ tX, va_Nw w s) ∧ Gs B s
theorem Gx_cl {L : Nat} {xs : Nat → Int32} {B : BB} (hB : B.2.1 < B.1) : GCl B (Gx L xs B) := by
  intro u U hvm hq hg
  obtain ⟨g1, g2, g3, g4, g5⟩ := hg
  have hk : ∀ a : Nat, a < u.heap.size → ¬ (B.1 ≤ a) → U.heap[a]? = u.heap[a]? := fun a _ ha => hq a (Nat.lt_of_not_le ha)
  refine ⟨(va_X.moved hvm.alike g1).kept (hq _ hB), vx_Zq.moved hvm.alike (g2.kept hk), vx_Zq.moved hvm.alike (g3.kept hk), fun w hw => ?_, Gs_cl u U hvm hq g5⟩
  have hn := (List.mem_filter.mp hw).2
  cases w with
  | declares x => exact va_tabs rfl (rfl : (u.setVm U.vm).vm = U.vm) (by rw [Cond.declares_setVm hvm.alike]; exact g4 _ hw)
  | castable a b => exact va_tabs rfl (rfl : (u.setVm U.vm).vm = U.vm) (by rw [Cond.castable_setVm hvm.alike]; exact g4 _ hw)
  | _ => cases hn
def nsN : List String := ["java/lang/RuntimeException", "java/lang/Exception"]
set_option maxRecDepth 100000 in
theorem ns_good : ∀ w ∈ (vx_at0 RX7 170 "java/util/NoSuchElementException" nsN).filter goodWord, w ∈ lw_tbl := by
  have h : ((vx_at0 RX7 170 "java/util/NoSuchElementException" nsN).filter goodWord).all (fun w => lw_tbl.any (fun z => decide (w = z))) = true := by decide +kernel
  intro w hw
  obtain ⟨z, hz, e⟩ := List.any_eq_true.mp (List.all_eq_true.mp h w hw)
  rw [of_decide_eq_true e]
  exact hz
set_option maxRecDepth 100000 in
theorem ns_bad : ∀ w ∈ (vx_at0 RX7 170 "java/util/NoSuchElementException" nsN).filter (fun w => !goodWord w), w ∈ tX := by
  have h : ((vx_at0 RX7 170 "java/util/NoSuchElementException" nsN).filter (fun w => !goodWord w)).all (fun w => isX w && lw_tbl.any (fun z => decide (w = z))) = true := by decide +kernel
  intro w hw
  have h1 := List.all_eq_true.mp h w hw
  simp only [Bool.and_eq_true] at h1
  obtain ⟨z, hz, e⟩ := List.any_eq_true.mp h1.2
  refine List.mem_filter.mpr ⟨?_, h1.1⟩
  rw [of_decide_eq_true e]
  exact hz
theorem ns_ot : ∀ w ∈ Cond.classLink RX7 168 "java/util/NoSuchElementException" :: Cond.initialized "java/util/NoSuchElementException" :: vx_at0 RX7 170 "java/util/NoSuchElementException" nsN, vx_ot w = true := by
  have h : (Cond.classLink RX7 168 "java/util/NoSuchElementException" :: Cond.initialized "java/util/NoSuchElementException" :: vx_at0 RX7 170 "java/util/NoSuchElementException" nsN).all vx_ot = true := by decide +kernel
  exact fun w hw => List.all_eq_true.mp h w hw
/-- what a throw of drop leaves behind -/
def XCd (D : va_G) (cA : Nat → ClassId) (B : BB) (h : List AC) : String → State → State → Prop := fun E st t => E = "java/util/NoSuchElementException" ∧ va_P D vC (wo B cA h) t.heap ∧ va_F (fun q => B.1 ≤ q) st t
set_option maxHeartbeats 4000000 in
theorem met_drop {l : Launch} {D : va_G} {cA : Nat → ClassId} {B : BB} {L : Nat} {xs : Nat → Int32} {d : Nat} {call : Call} (hfl : l.stackTraces = false) (hok : COk l D cA B (Gx L xs B) false d mI call) (hd : 6 ≤ d) {h : List AC} {x n : Nat} {a b : Int32} {lv1 : Lv} (hgo : goTo call k_dropP 20 n 0 (lvE 3 [.ref x, .int a, .int b]) [] h = some (lv1, [], h)) :
    vx_Met l yX7_drop (mWs yX7_drop cX7_drop 3 (some .int)) (rmD (d + 1) 1 6) (va_Pc ([Value.ref x, .int a, .int b].map (dv B)) (PreU D cA B (Gx L xs B) false h)) (fun _ _ _ _ => False) (XCd D cA B h) 1 6 (fun q => B.1 ≤ q) := by
  refine vx_ofW (cc := cX7_drop) (maxL := 3) (ret := some .int) (by decide +kernel) rfl ?_
  intro p e s m args below meth c s₁ Bd hml hout hv
  obtain ⟨rfl, hv1, hv2, hv3, hv4, hv5⟩ := hv
  have hts := atoms_spec (ws := mWs yX7_drop cX7_drop 3 (some .int)) Bd.pre
  have hCx : Cx RX7 cX7_drop 3 (some .int) false D cA B (Gx L xs B) p s m ([Value.ref x, .int a, .int b].map (dv B)).toArray meth c :=
    ⟨Bd.exec, Bd.bytes, hml, findClass_of_methodNamed Bd.named, fun w hw => hts w (List.mem_cons_of_mem _ hw), Bd.returns, Bd.notSynchronized, fun z => Bool.noConfusion z, hv3, hv4, hv1⟩
  have hl := lv_entry ([Value.ref x, .int a, .int b].map (dv B)) (n := 3) (Nat.le_of_ble_eq_true rfl)
  have hl := has_lvE (nE := 3) hl
  rw [lg_entry_eq]
  obtain ⟨-, -, k⟩ := goTo_ok (ko_dropP hok) n 0 _ [] h lv1 [] h hgo
  have k := k p e (rmD (d + 1) 1 6) s m _ below meth c (vx_MQ below (fun _ _ _ _ => False) (XCd D cA B h) ([Value.ref x, .int a, .int b].map (dv B)).toArray s 1 6 (fun q => B.1 ≤ q)) hCx (Nat.le_refl _) (Nat.le_refl _) s.heap [] _ h.length (sl h) 0 0 ⟨hv2, va_S.rf⟩ hl (fun q => Bool.noConfusion q) (Nat.le_refl _) (Nat.le_refl _) (by rw [Nat.sub_self]; exact Nat.zero_le _) (by rw [Nat.sub_self]; exact Nat.zero_le _)
  rw [Nat.sub_self, Nat.sub_self, Nat.zero_add] at k
  refine k (fun H1 locs1 ls1 hW1 hl1 => ?_)
  refine vx_throw0 (cls := "java/util/NoSuchElementException") (own := RX7) (ik := 168) (ic := 170) (names := nsN) (A := fun q => B.1 ≤ q) hCx.1 hCx.2.1 hfl hCx.2.2.2.1 (by decide +kernel) (by decide +kernel) (hCx.2.2.2.2.1 _ w_862) (hCx.2.2.2.2.1 _ w_91) (vx_hat (fun w hw => hCx.2.2.2.2.1 w (List.mem_filter.mpr ⟨ns_good w hw, (List.mem_filter.mp hw).2⟩)) ns_bad (fun w hw => va_Nw.use (by have h9 := (List.mem_filter.mp hw).2; cases w <;> first | rfl | (cases h9)) (hv4.2.1.2.2.2.1 w hw))) ns_ot hv4.2.1.2.1 hv4.2.1.2.2.1 hW1.2 (by rw [hml]; exact hl1.1) dX7_drop_20 dX7_drop_23 dX7_drop_24 dX7_drop_27 (fun z hz => (hout z hz).elim) ?_ ?_ (Nat.le_refl _) (Nat.le_refl _) Bd.notSynchronized (fun t hvm hsz hk => ?_) hW1.2.2.2 (Nat.le_refl _) (Nat.le_refl _)
  · show 2 + 3 < d + 1
    omega
  · show 0 + (13 * (2 + 1) + 42) ≤ 100 * (d + 1)
    omega
  · refine ⟨rfl, hW1.1.kept (fun k q hq => hk q.1 ((hW1.1 k q hq).lt)), Nat.le_trans hW1.2.1 hsz, fun q h1 h2 => ?_⟩
    rw [hk q (Nat.lt_of_lt_of_le h1 hW1.2.1)]
    exact hW1.2.2.1 q h1 h2
set_option maxHeartbeats 4000000 in
/-- the law's own drop, where TankerDesk's throws -/
theorem met_ldrop {l : Launch} {D : va_G} {cA : Nat → ClassId} {B : BB} {L : Nat} {xs : Nat → Int32} {d : Nat} {call : Call} (hfl : l.stackTraces = false) (hok : COk l D cA B (Gx L xs B) false d mI call) (hd : 6 ≤ d) {h : List AC} {x n o : Nat} {fs : List Value} {a b : Int32} {lv1 : Lv} (hx : h[x]? = some (.inl (7, fs))) (hgo : goTo call k_dropP 20 n 0 (lvE 3 [.ref x, .int a, .int b]) [] h = some (lv1, [], h)) :
    Met l yL_drop (Cond.codeWith yL_drop cL_drop 5 (some .int) [(0, 10, 13, 13)] :: tT) (rmD (d + 2) 1 6) (va_Pc ([Value.ref x, .int a, .int b, .ref o].map (dv B)) (PreU D cA B (Gx L xs B) false h)) (Qr D cA B (some (.int 1)) h) 1 6 (fun q => B.1 ≤ q) := by
  refine va_MetW (cc := cL_drop) (maxL := 5) (ret := some .int) (hh := [(0, 10, 13, 13)]) (by decide +kernel) rfl ?_
  intro p e s m args below meth c s₁ Bd hml hv
  obtain ⟨rfl, hv1, hv2, hv3, hv4, hv5⟩ := hv
  have hts := atoms_spec (ws := Cond.codeWith yL_drop cL_drop 5 (some .int) [(0, 10, 13, 13)] :: tT) Bd.pre
  have hCx : Cx RL cL_drop 5 (some .int) false D cA B (Gx L xs B) p s m ([Value.ref x, .int a, .int b, .ref o].map (dv B)).toArray meth c :=
    ⟨Bd.exec, Bd.bytes, hml, findClass_of_methodNamed Bd.named, fun w hw => hts w (List.mem_cons_of_mem _ hw), Bd.returns, Bd.notSynchronized, fun z => Bool.noConfusion z, hv3, hv4, hv1⟩
  have htab : c.exceptionTable.toList = tableOf [(0, 10, 13, 13)] := vx_table (x := yL_drop) Bd (hts _ List.mem_cons_self)
  have hl := lv_entry ([Value.ref x, .int a, .int b, .ref o].map (dv B)) (n := 5) (Nat.le_of_ble_eq_true rfl)
  have hl := has_lvE (nE := 5) hl
  rw [lg_entry_eq]
  obtain ⟨-, -, k⟩ := goTo_ok (stop := 5) (call := call) (l := l) (G := Gx L xs B) (md := false) (d := d) (ko_ldP (D := D) (cA := cA) (B := B)) 10 0 (lvE 5 [.ref x, .int a, .int b, .ref o]) [] h _ _ h rfl
  have k := k p e (rmD (d + 2) 1 6) s m _ below meth c (MQ below (Qr D cA B (some (.int 1)) h) ([Value.ref x, .int a, .int b, .ref o].map (dv B)).toArray s 1 6 (fun q => B.1 ≤ q)) hCx (by show d + 1 ≤ d + 2; omega) (by show 100 * (d + 1) ≤ 100 * (d + 2); omega) s.heap [] _ h.length (sl h) 0 0 ⟨hv2, va_S.rf⟩ hl (fun q => Bool.noConfusion q) (Nat.le_refl _) (Nat.le_refl _) (by rw [Nat.sub_self]; exact Nat.zero_le _) (by rw [Nat.sub_self]; exact Nat.zero_le _)
  rw [Nat.sub_self, Nat.sub_self, Nat.zero_add] at k
  refine k (fun H1 locs1 ls1 hW1 hl1 => ?_)
  have hr := vx_runV (p := p) (e := e) (below := below) (meth := meth) (H := H1) (locs := locs1) (cells := 0) (slots := 0) (R := rmD (d + 2) 1 6) (As := [.int a, .int b]) (rest := [.int 0, .ref (B.1 + o)]) (b := B.1 + x) (C := RX7) (g := F0 m 5 ls1 [.int b, .int a, .ref (B.1 + x), .int 0, .ref (B.1 + o)]) ⟨hCx.1, hCx.2.1, hCx.2.2.1, hCx.2.2.2.1, hCx.2.2.2.2.1⟩ (met_drop hfl hok hd hgo) ⟨callB_of 2 hCx.2.2.2.2.1 (tT_good w_861) rfl rfl rfl (hCx.2.2.2.2.1 _ w_72) (hCx.2.2.2.2.1 _ w_858) (by decide +kernel) ⟨Nat.le_refl _, by show 8 + (3 + 11) + 100 * (d + 1) ≤ 100 * (d + 2); omega⟩, hCx.2.2.2.2.1 _ w_859, hCx.2.2.2.2.1 _ w_860⟩ ⟨blind, va_recv hv3 hW1.1 cl_X7 (wo_get hx), fun U hU hWm => ⟨rfl, by rw [hU]; exact Nat.le_trans hv1 hW1.2.1, by rw [hU]; exact hW1.1, va_K.moved hWm.alike hv3, ⟨Xt.warm hWm hv4.1, hv4.2.2 s U hWm (fun q hq => by rw [hU]; exact hW1.2.2.1 q (Nat.lt_of_lt_of_le hq hv1) (Nat.not_le.mpr hq)) hv4.2.1, hv4.2.2⟩, fun q => Bool.noConfusion q⟩⟩ rfl rfl hl1.1 rfl (lv_room (Nat.le_of_ble_eq_true rfl)) dL_drop_5 ⟨Nat.le_refl _, Nat.le_refl _⟩
  intro T hT X
  rcases hr T hT X with ⟨v, st₀, t, T', LL, h0, X', hL, e1, e2, hF, st⟩ | ⟨q, st₀, t, T', LL, E, ce, h0, X', hL, e1, e2, ⟨rfl, hP1, hF1⟩, hce, hcv, hcl, st⟩
  · exact hF.elim
  · rw [va_F, h0] at hF1
    have hS1 : va_S (fun q => B.1 ≤ q) s.heap T'.heap (locs1 ++ LL) := ⟨Nat.le_trans hW1.2.1 (by rw [e1]; exact hF1.1), fun q h1 h2 => by rw [e1, hF1.2 q (Nat.lt_of_lt_of_le h1 hW1.2.1) h2]; exact hW1.2.2.1 q h1 h2, fun q hq => by
      rcases List.mem_append.mp hq with h | h
      · exact hW1.2.2.2 q h
      · exact hL q h⟩
    have kx : vx_W p l e (rmD (d + 2) 1 6) s m ([Value.ref x, .int a, .int b, .ref o].map (dv B)).toArray below meth c T'.heap (locs1 ++ LL) (0 + 1) (0 + 6) (MQ below (Qr D cA B (some (.int 1)) h) ([Value.ref x, .int a, .int b, .ref o].map (dv B)).toArray s 1 6 (fun q => B.1 ≤ q)) (F0 m 5 ls1 [.int 0, .ref (B.1 + o)]) q := by
      refine vx_catch (own := RL) (name := "java/util/NoSuchElementException") (E := "java/util/NoSuchElementException") hCx.2.2.2.1 [] ⟨0, 10, 13, 13⟩ [] htab (fun z hz => by cases hz) (by decide) (by decide) (hCx.2.2.2.2.1 _ w_857) (va_Nw.use rfl (hv4.2.1.2.2.2.1 _ (List.mem_filter.mpr ⟨List.mem_of_getElem? (i := 864) (by decide +kernel), rfl⟩))) (by rw [e1]; exact hce) hcv hcl ?_
      refine lv_astore (lv' := _) hCx.1 hCx.2.1 dL_drop_13 hl1 (by decide) rfl (fun ls2 hl2 => ?_)
      refine lv_iconst (v := 1) hCx.1 hCx.2.1 dL_drop_15 (by decide) ?_
      exact W.iret hCx.1 hCx.2.1 hCx.2.2.2.2.2.1 (fun t2 ht2 hWm => ⟨rfl, by rw [ht2, e1]; exact hP1, hS1.F ht2⟩) hS1.2.2 dL_drop_16 Bd.notSynchronized
    obtain ⟨t2, a1, b1⟩ := kx T' rfl X'
    exact ⟨t2, st.trans a1, b1⟩

