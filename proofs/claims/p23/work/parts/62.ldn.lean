/-! the law's own drop, where TankerDesk's answers -/
def k_ldN : List Ent := [ePure 0 (fLoadA 0 1 3),
  ePure 1 (fPush 1 1 (.int 0)),
  ePure 2 (fLoadA 2 1 0),
  ePure 3 (fLoadI 3 1 1),
  ePure 4 (fLoadI 4 1 2),
  eCallV 5 2 75 7,
  ePure 8 (f_i2l 8),
  eLast 9,
  ePure 10 (fGoto 17),
  ePure 17 (fPush 17 1 (.int 0)),
  eRetI 18]
set_option maxRecDepth 100000 in
set_option maxHeartbeats 4000000 in
theorem ko_ldN {l : Launch} {D : va_G} {cA : Nat → ClassId} {B : BB} {G : State → Prop} {md : Bool} {d : Nat} {call : Call} (hok : COk l D cA B G md d mI call) : ∀ e ∈ k_ldN, EOk l RL cL_drop 5 (some .int) false D cA B G md d call e := by
  unfold k_ldN
  refine al_cons (eok_pure (pr_aload_n dL_drop_0 rfl)) ?_
  refine al_cons (eok_pure (pr_iconst dL_drop_1 (by decide))) ?_
  refine al_cons (eok_pure (pr_aload_n dL_drop_2 rfl)) ?_
  refine al_cons (eok_pure (pr_iload_n dL_drop_3 rfl)) ?_
  refine al_cons (eok_pure (pr_iload_n dL_drop_4 rfl)) ?_
  refine al_cons (ok_callV hok mi_75 cl_X7 w_858 w_859 w_860 w_72 w_861 na_75 (by decide) dL_drop_5) ?_
  refine al_cons (eok_pure (pr_i2l dL_drop_8)) ?_
  refine al_cons (ok_last dL_drop_9) ?_
  refine al_cons (eok_pure (pr_goto dL_drop_10 (by decide))) ?_
  refine al_cons (eok_pure (pr_iconst dL_drop_17 (by decide))) ?_
  refine al_cons (ok_retI rfl dL_drop_18) ?_
  exact al_nil
set_option maxHeartbeats 4000000 in
theorem met_ldropN {l : Launch} {D : va_G} {cA : Nat → ClassId} {B : BB} {G : State → Prop} {d : Nat} {call : Call} (hok : COk l D cA B G false d mI call) {n : Nat} {as : List Value} (hcat : cats as ≤ 5) {h h' : List AC} {r : Option Value} (hc : run call k_ldN n 0 (lvE 5 as) [] h = some (r, h')) :
    h.length ≤ h'.length ∧ sl h ≤ sl h' ∧ Met l yL_drop (Cond.codeWith yL_drop cL_drop 5 (some .int) [(0, 10, 13, 13)] :: tT) (rmD (d + 1) (h'.length - h.length) (sl h' - sl h)) (va_Pc (as.map (dv B)) (PreU D cA B G false h)) (Qr D cA B r h') (h'.length - h.length) (sl h' - sl h) (fun q => B.1 ≤ q) := by
  have hall := ko_ldN (l := l) (D := D) (cA := cA) (B := B) hok
  obtain ⟨a1, a2⟩ := run_mono hall n 0 _ _ h r h' hc
  refine ⟨a1, a2, ?_⟩
  refine va_MetW (cc := cL_drop) (maxL := 5) (ret := some .int) (hh := [(0, 10, 13, 13)]) (by decide +kernel) rfl ?_
  intro p e s m args below meth c s₁ Bd hml hv
  obtain ⟨rfl, hv1, hv2, hv3, hv4, hv5⟩ := hv
  have hts := atoms_spec (ws := Cond.codeWith yL_drop cL_drop 5 (some .int) [(0, 10, 13, 13)] :: tT) Bd.pre
  have hCx : Cx RL cL_drop 5 (some .int) false D cA B G p s m (as.map (dv B)).toArray meth c :=
    ⟨Bd.exec, Bd.bytes, hml, findClass_of_methodNamed Bd.named, fun w hw => hts w (List.mem_cons_of_mem _ hw), Bd.returns, Bd.notSynchronized, fun z => Bool.noConfusion z, hv3, hv4, hv1⟩
  have hlen : (lg_sl (as.map (dv B))).length ≤ 5 := by
    rw [lg_len]
    show ((as.map (dv B)).map fun v => v.category).sum ≤ _
    rw [cats_dv]
    exact hcat
  have hl := has_lvE (nE := 5) (lv_entry (as.map (dv B)) hlen)
  rw [lg_entry_eq]
  have k := run_ok hall n 0 (lvE 5 as) [] h r h' hc p e (rmD (d + 1) (h'.length - h.length) (sl h' - sl h)) s m (as.map (dv B)).toArray below meth c hCx (Nat.le_refl _) (Nat.le_refl _) s.heap [] _ h.length (sl h) 0 0 ⟨hv2, va_S.rf⟩ hl (fun q => Bool.noConfusion q) (Nat.le_refl _) (Nat.le_refl _) (by rw [Nat.zero_add]; exact Nat.le_refl _) (by rw [Nat.zero_add]; exact Nat.le_refl _)
  rw [Nat.sub_self, Nat.sub_self, Nat.zero_add, Nat.zero_add, Nat.zero_add] at k
  exact k

