/-! one call of the law, both sides: what holds always, the whole state alike -/
def DST (S : HS) : Prop := ∃ t u, isT t ∧ isT u ∧ t ≠ u ∧ gr S 0 4 = .ref t ∧ gr S 0 5 = .ref u
def JV (S M : HS) : Prop := IvD S ∧ IvM M ∧ TR S M ∧ gf S 0 2 = gf M 137 8 ∧ DST S ∧ ∃ t A, FH S M t A
theorem FH.of {S S1 M M1 : HS} {t : Nat} {A : Nat → Nat} (h : FH S M t A) (hL : LnD S1) (hLM : LnM M1) (h1 : ∀ k j, (t ≤ k ∧ k ≤ t + 8) ∨ (22 ≤ k ∧ k < 112) → gf S1 k j = gf S k j) (h2 : gr S1 0 4 = gr S 0 4) (h3 : gl S1 t = gl S t) (h4 : ∀ k, (t ≤ k ∧ k ≤ t + 8) ∨ (22 ≤ k ∧ k < 112) → ga S1 k = ga S k) (m1 : ∀ i, i < 157 → (ga M1 139).getD i 0 = (ga M 139).getD i 0) (m2 : gf M1 137 14 = gf M 137 14) (m3 : ga M1 141 = ga M 141) : FH S1 M1 t A := by
  obtain ⟨⟨_, _, hr, ht, hT, hSt, hM, hW⟩, hH⟩ := h
  refine ⟨⟨hL, hLM, h2.trans hr, ht, hT.keep (fun j => h1 _ _ (by omega)) h3 (fun i hi => h4 _ (by omega)), hSt.of (h1 _ _ (by omega)) (h1 _ _ (by omega)) (fun i _ _ => h4 _ (by omega)), fun i hi => (m1 i hi).trans (hM i hi), hW⟩, hH.of Tl.rf (fun k j _ _ => h1 _ _ (by omega)) (fun k _ _ => h4 _ (by omega)) m2 m3⟩
theorem FH.fr {S S1 M M1 : HS} {t : Nat} {A : Nat → Nat} (h : FH S M t A) (fS : Fr wXq S S1) (fM : Fr w0 M M1) : FH S1 M1 t A := by
  have htn := isT_num h.1.2.2.2.1
  refine h.of (h.1.1.fr fS) (h.1.2.1.fr fM) (fun k j hk => (fS.1 k j (by unfold wXq; omega)).1) (fS.1 0 4 (by unfold wXq; omega)).2 (fS.2.1 t (by unfold wXq; omega)) (fun k hk => fS.2.2.1 k (by unfold wXq; omega)) (fun i hi => by rw [fM.2.2.1 139 (by unfold w0; omega)]) (fM.1 137 14 (by unfold w0; omega)).1 (fM.2.2.1 141 (by unfold w0; omega))
theorem iv_m_fr {W : Nat → Nat → Prop} {M M1 : HS} (h : IvM M) (f : Fr W M M1) (hw : ¬ W 139 99 ∧ ¬ W 141 99 ∧ ¬ W 137 14) : IvM M1 := by
  obtain ⟨a, ⟨N, L, D, b⟩, c⟩ := h
  refine ⟨a.fr f, ⟨N, L, D, ?_⟩, SnOk.fr c f ⟨hw.2.1, hw.2.2⟩⟩
  rw [fM_fr f hw.1]
  exact b
theorem jv_of {S S1 M M1 : HS} (h : JV S M) (i1 : IvD S1) (i2 : IvM M1) (fS : Fr wX S S1) (fM : Fr wY M M1) (hF : ∃ t A, FH S1 M1 t A) : JV S1 M1 := by
  obtain ⟨_, _, ⟨B, n, hn, x1, x2, x3, x4, x5, x6⟩, h4, ⟨t, u, d1, d2, d3, d4, d5⟩, _⟩ := h
  refine ⟨i1, i2, ⟨B, n, hn, i1.1, i2.1, ?_, ?_, fun i hi => ?_, fun i hi => ?_⟩, ?_, ⟨t, u, d1, d2, d3, (fS.1 0 4 (by unfold wX; omega)).2.trans d4, (fS.1 0 5 (by unfold wX; omega)).2.trans d5⟩, hF⟩
  · rw [(fS.1 0 1 (by unfold wX; omega)).1]
    exact x3
  · rw [(fM.1 137 2 (by unfold wY; omega)).1]
    exact x4
  · rw [fS.2.2.1 1 (by unfold wX; omega)]
    exact x5 i hi
  · rw [fM.2.2.1 138 (by unfold wY; omega)]
    exact x6 i hi
  · rw [(fS.1 0 2 (by unfold wX; omega)).1, (fM.1 137 8 (by unfold wY; omega)).1]
    exact h4
theorem jv_q {S S1 M M1 : HS} (h : JV S M) (i1 : IvD S1) (i2 : IvM M1) (fS : Fr wXq S S1) (fM : Fr w0 M M1) : JV S1 M1 := by
  obtain ⟨t, A, hF⟩ := h.2.2.2.2.2
  exact jv_of h i1 i2 (fr_tr fr_rf fS (fun k j z => by unfold wXq at z; unfold wX; omega)) (fr_tr fr_rf fM (fun k j z => by unfold w0 at z; unfold wY; omega)) ⟨t, A, hF.fr fS fM⟩
theorem gom_of {M M1 : HS} {r : Option (Int32 × HS)} {v : Int32} (h : GoM M r) (e : r = some (v, M1)) : IvM M1 := by
  obtain ⟨v2, M2, e2, i⟩ := h
  rw [e] at e2
  cases e2
  exact i
theorem god_of {S S1 : HS} {r : Option (Int32 × HS)} {v : Int32} (h : Ok (GoD S) r) (e : r = some (v, S1)) : IvD S1 := by
  obtain ⟨⟨v2, S2⟩, e2, i⟩ := h
  rw [e] at e2
  cases e2
  exact i.1
theorem new_rw {S1 M1 : HS} {A : Nat → Nat} {t u : Nat} (hL : LnM M1) (h : NewT S1 M1 A t u) : IvM M1 := by
  obtain ⟨_, _, _, _, _, hR, h13, hZ, _, _, _, _, _, _, hM, h14⟩ := h
  have e : ∀ i, i < 157 → fM M1 i = nI (A i) := hM
  refine ⟨hL, ⟨A 9, A 10, A 13, hR.1, hR.2.1, hR.2.2.2.2.1, e _ (by omega), e _ (by omega), e _ (by omega), fun c hc => ⟨0, by omega, ?_⟩, fun c hc => ⟨A (32 + 6 * c), ?_, e _ (by omega)⟩, fun d hd => ⟨A (57 + 5 * d), hZ.2.2.2 d hd, e _ (by omega)⟩, fun d hd hz => ?_⟩, 0, by omega, h14, fun j hj => by omega⟩
  · rw [e _ (by omega), (hZ.2.1 c hc).2]
  · have h1 := hR.2.2.2.2.2.2.2.2.2.1 c hc
    have h2 := hR.2.1
    omega
  · rw [e _ (by omega), (hZ.2.2.1 d hd).1] at hz
    exact absurd hz (by decide)
theorem jv_tape {S S1 M M1 : HS} (h : JV S M) (i1 : IvD S1) (t1 : TR S1 M1) (f1 : Fr wTp S S1) (f2 : Fr wTm M M1) : JV S1 M1 := by
  obtain ⟨_, hi, _, h4, ⟨t, u, d1, d2, d3, d4, d5⟩, t', A, hF⟩ := h
  have htn := isT_num hF.1.2.2.2.1
  refine ⟨i1, iv_m_fr hi f2 (by unfold wTm; omega), t1, ?_, ⟨t, u, d1, d2, d3, (f1.1 0 4 (by unfold wTp; omega)).2.trans d4, (f1.1 0 5 (by unfold wTp; omega)).2.trans d5⟩, t', A, ?_⟩
  · rw [(f1.1 0 2 (by unfold wTp; omega)).1, (f2.1 137 8 (by unfold wTm; omega)).1]
    exact h4
  · exact hF.of i1.1 (hF.1.2.1.fr f2) (fun k j hk => (f1.1 k j (by unfold wTp; omega)).1) (f1.1 0 4 (by unfold wTp; omega)).2 (f1.2.1 t' (by unfold wTp; omega)) (fun k hk => f1.2.2.1 k (by unfold wTp; omega)) (fun i hi => by rw [f2.2.2.1 139 (by unfold wTm; omega)]) (f2.1 137 14 (by unfold wTm; omega)).1 (f2.2.2.1 141 (by unfold wTm; omega))
theorem jv_feed {S M : HS} {a b c d e : Int32} (h : JV S M) : ∃ v S1 M1, s_X7_feed a b c d e S = some (v, S1) ∧ s_X8_feed a b c d e M = some (v, M1) ∧ JV S1 M1 := by
  obtain ⟨v, S1, M1, e1, e2, i1, t1, f1, f2⟩ := j_feed (a := a) (b := b) (c := c) (d := d) (e := e) h.1 h.2.2.1
  exact ⟨v, S1, M1, e1, e2, jv_tape h i1 t1 f1 f2⟩
theorem jv_end {S M : HS} {a : Int32} (h : JV S M) : ∃ v S1 M1, s_X7_end a S = some (v, S1) ∧ s_X8_end a M = some (v, M1) ∧ JV S1 M1 := by
  obtain ⟨v, S1, M1, e1, e2, i1, t1, f1, f2⟩ := j_end (v := a) h.1 h.2.2.1
  exact ⟨v, S1, M1, e1, e2, jv_tape h i1 t1 f1 f2⟩
theorem ref_eq {t u : Nat} {v : Value} (h1 : v = .ref t) (h2 : v = .ref u) : t = u := by
  rw [h1] at h2
  cases h2
  rfl
theorem jv_text {S M : HS} (h : JV S M) : ∃ v S1 M1, s_X7_text S = some (v, S1) ∧ s_X8_text M = some (v, M1) ∧ JV S1 M1 := by
  obtain ⟨v, S1, M1, e1, e2, i1, t1, hf, hq⟩ := j_text h.1 h.2.2.1
  have t1' := t1
  obtain ⟨_, _, _, _, hLM, _⟩ := t1'
  obtain ⟨_, hiM, _, _, ⟨t, u, d1, d2, d3, d4, d5⟩, t', A, hF⟩ := h
  rcases hq with ⟨A2, a, b, g5, g4, hN⟩ | ⟨a, ha, g5, f, g1, g2, g3⟩
  · have ea : a = u := ref_eq g5 d5
    have eb : b = t := ref_eq g4 d4
    have hN' := hN
    obtain ⟨n1, n2, n3, n4, _, _, _, _, _, _, _, _, _, n30, _, n14⟩ := hN'
    obtain ⟨n, hn, en⟩ := i1.2.2.2.2.2.2.1
    refine ⟨v, S1, M1, e1, e2, i1, new_rw hLM hN, t1, hf, ⟨a, b, n1, n2, ?_, n3, n4⟩, a, A2, fs_new i1.1 hLM hN, 0, n, fun _ => A2, by omega, hn, n30, n14, en, fun i hi => absurd hi (Nat.not_lt_zero _), fun i j _ hj => absurd hj (Nat.not_lt_zero _)⟩
    rw [ea, eb]
    exact fun q => d3 q.symm
  · have ea : a = u := ref_eq g5 d5
    have et : t' = t := ref_eq hF.1.2.2.1 d4
    have hta := isT_num d1
    have hua := isT_num d2
    refine ⟨v, S1, M1, e1, e2, i1, ?_, t1, hf, ⟨t, u, d1, d2, d3, (f.1 0 4 (by unfold wTf wRt; omega)).2.trans d4, (f.1 0 5 (by unfold wTf wRt; omega)).2.trans d5⟩, t', A, ?_⟩
    · obtain ⟨_, ⟨N, L, D, b⟩, k, hk, ek, hr⟩ := hiM
      refine ⟨hLM, ⟨N, L, D, b.of (fun i hi => ?_)⟩, k, hk, g3.trans ek, ?_⟩
      · unfold fM
        rw [g1]
      · rw [g2]
        exact hr
    · exact hF.of i1.1 hLM (fun k j hk => (f.1 k j (by unfold wTf wRt; omega)).1) (f.1 0 4 (by unfold wTf wRt; omega)).2 (f.2.1 t' (by unfold wTf wRt; omega)) (fun k hk => f.2.2.1 k (by unfold wTf wRt; omega)) (fun i hi => by rw [g1]) g3 g2
theorem jv_fault {S M : HS} (h : JV S M) : ∃ v M1, s_X7_fault S = some v ∧ s_X8_fault M = some (v, M1) ∧ JV S M1 := by
  refine ⟨gf S 0 2, sf M 137 0 0, rfl, ?_, jv_q h h.1 (go_m0 h.2.1) fr_rf (fr_sf fr_rf (by unfold w0; omega))⟩
  unfold s_X8_fault
  rw [pf_ok, sb, gf_sf, if_neg (by omega), h.2.2.2.1]
theorem jv_now {S M : HS} {a : Int32} (h : JV S M) : ∃ v M1, s_X7_now a S = some v ∧ s_X8_now a M = some (v, M1) ∧ JV S M1 := by
  obtain ⟨t, A, hF, hH⟩ := h.2.2.2.2.2
  have hH' := hH
  obtain ⟨k, n, H, _, _, k1, k2, _⟩ := hH'
  obtain ⟨B, m, _, _, _, x3, x4, _, _⟩ := h.2.2.1
  obtain ⟨v, M1, e1, e2⟩ := e_now (a := a) hF (k1.trans k2.symm) (x3.trans x4.symm) (h_bar hF.2.2.2.2.1 hF.2.2.2.2.2.2.2.1)
  exact ⟨v, M1, e1, e2, jv_q h h.1 (gom_of (b_now h.2.1) e2) fr_rf (fq_X8_now fr_rf _ e2)⟩
theorem jv_compartment {S M : HS} {a b : Int32} (h : JV S M) : ∃ v M1, s_X7_compartment a b S = some v ∧ s_X8_compartment a b M = some (v, M1) ∧ JV S M1 := by
  obtain ⟨t, A, hF, hH⟩ := h.2.2.2.2.2
  obtain ⟨v, e1, e2⟩ := e_compartment (a := a) (b := b) hF
  exact ⟨v, _, e1, e2, jv_q h h.1 (gom_of (b_compartment h.2.1) e2) fr_rf (fq_X8_compartment fr_rf _ e2)⟩
theorem jv_may {S M : HS} {a b : Int32} (h : JV S M) : ∃ v M1, s_X7_may a b S = some v ∧ s_X8_may a b M = some (v, M1) ∧ JV S M1 := by
  obtain ⟨t, A, hF, hH⟩ := h.2.2.2.2.2
  obtain ⟨v, e1, e2⟩ := e_may (a := a) (b := b) hF
  exact ⟨v, _, e1, e2, jv_q h h.1 (gom_of (b_may h.2.1) e2) fr_rf (fq_X8_may fr_rf _ e2)⟩
theorem jv_would {S M : HS} {a b c : Int32} (h : JV S M) : ∃ v S1 M1, s_X7_would a b c S = some (v, S1) ∧ s_X8_would a b c M = some (v, M1) ∧ JV S1 M1 := by
  obtain ⟨t, A, hF, hH⟩ := h.2.2.2.2.2
  obtain ⟨v, S1, M1, e1, e2⟩ := e_would (a := a) (b := b) (x := c) hF
  exact ⟨v, S1, M1, e1, e2, jv_q h (god_of (a_would h.1) e1) (gom_of (b_would h.2.1) e2) (fq_X7_would fr_rf _ e1) (fq_X8_would fr_rf _ e2)⟩
theorem jv_orders {S M : HS} (h : JV S M) : ∃ v S1 M1, s_X7_orders S = some (v, S1) ∧ s_X8_orders M = some (v, M1) ∧ JV S1 M1 := by
  obtain ⟨t, A, hF, hH⟩ := h.2.2.2.2.2
  obtain ⟨v, S1, M1, e1, e2⟩ := e_orders hF
  exact ⟨v, S1, M1, e1, e2, jv_q h (god_of (a_orders h.1) e1) (gom_of (b_orders h.2.1) e2) (fq_X7_orders fr_rf _ e1) (fq_X8_orders fr_rf _ e2)⟩
theorem jv_ordered {S M : HS} {a : Int32} (h : JV S M) : ∃ v1 v2 S1 M1, s_X7_ordered a S = some (v1, S1) ∧ s_X8_ordered a M = some (v2, M1) ∧ JV S1 M1 := by
  obtain ⟨⟨v1, S1⟩, e1, i1, _⟩ := a_ordered (v := a) h.1
  obtain ⟨v2, M1, e2, i2⟩ := b_ordered (x := a) h.2.1
  exact ⟨v1, v2, S1, M1, e1, e2, jv_q h i1 i2 (fq_X7_ordered fr_rf _ e1) (fq_X8_ordered fr_rf _ e2)⟩
theorem jv_without {S M : HS} {a : Int32} (h : JV S M) : ∃ v M1, s_X7_without a S = some v ∧ s_X8_without a M = some (v, M1) ∧ JV S M1 := by
  obtain ⟨t, A, hF, hH⟩ := h.2.2.2.2.2
  obtain ⟨v, M1, e1, e2⟩ := e_without (a := a) hF
  exact ⟨v, M1, e1, e2, jv_q h h.1 (gom_of (b_without h.2.1) e2) fr_rf (fq_X8_without fr_rf _ e2)⟩
theorem jv_plan {S M : HS} {a : Int32} (h : JV S M) : ∃ v1 v2 S1 M1, s_X7_plan a S = some (v1, S1) ∧ s_X8_plan a M = some (v2, M1) ∧ JV S1 M1 := by
  obtain ⟨⟨v1, S1⟩, e1, i1, _⟩ := a_plan (v := a) h.1
  obtain ⟨v2, M1, e2, i2⟩ := b_plan (v := a) h.2.1
  exact ⟨v1, v2, S1, M1, e1, e2, jv_q h i1 i2 (fq_X7_plan fr_rf _ e1) (fq_X8_plan fr_rf _ e2)⟩
theorem jv_washes {S M : HS} (h : JV S M) : ∃ v1 v2 S1 M1, s_X7_washes S = some (v1, S1) ∧ s_X8_washes M = some (v2, M1) ∧ JV S1 M1 := by
  obtain ⟨⟨v1, S1⟩, e1, i1, _⟩ := a_washes h.1
  obtain ⟨v2, M1, e2, i2⟩ := b_washes h.2.1
  exact ⟨v1, v2, S1, M1, e1, e2, jv_q h i1 i2 (fq_X7_washes fr_rf _ e1) (fq_X8_washes fr_rf _ e2)⟩
theorem jv_asks {S M : HS} {a b : Int32} (h : JV S M) : ∃ v S1 M1, s_X7_asks a b S = some (v, S1) ∧ s_X8_asks a b M = some (v, M1) ∧ JV S1 M1 := by
  obtain ⟨t, A, hF⟩ := h.2.2.2.2.2
  obtain ⟨v, S1, M1, A1, e1, e2, hF1⟩ := e_asks (a := a) (b := b) hF
  exact ⟨v, S1, M1, e1, e2, jv_of h (god_of (a_asks h.1) e1) (gom_of (b_asks h.2.1) e2) (fx_X7_asks fr_rf _ e1) (fx_X8_asks fr_rf _ e2) ⟨t, A1, hF1⟩⟩
theorem jv_cancel {S M : HS} {a : Int32} (h : JV S M) : ∃ v S1 M1, s_X7_cancel a S = some (v, S1) ∧ s_X8_cancel a M = some (v, M1) ∧ JV S1 M1 := by
  obtain ⟨t, A, hF⟩ := h.2.2.2.2.2
  obtain ⟨v, S1, M1, A1, e1, e2, hF1⟩ := e_cancel (a := a) hF
  exact ⟨v, S1, M1, e1, e2, jv_of h (god_of (a_cancel h.1) e1) (gom_of (b_cancel h.2.1) e2) (fx_X7_cancel fr_rf _ e1) (fx_X8_cancel fr_rf _ e2) ⟨t, A1, hF1⟩⟩
theorem jv_put {S M : HS} {a b : Int32} (h : JV S M) : ∃ v S1 M1, s_X7_put a b S = some (v, S1) ∧ s_X8_put a b M = some (v, M1) ∧ JV S1 M1 := by
  obtain ⟨t, A, hF⟩ := h.2.2.2.2.2
  obtain ⟨v, S1, M1, A1, e1, e2, hF1⟩ := e_put (a := a) (b := b) hF
  exact ⟨v, S1, M1, e1, e2, jv_of h (god_of (a_put h.1) e1) (gom_of (b_put h.2.1) e2) (fx_X7_put fr_rf _ e1) (fx_X8_put fr_rf _ e2) ⟨t, A1, hF1⟩⟩
theorem jv_load {S M : HS} (h : JV S M) : ∃ v S1 M1, s_X7_load S = some (v, S1) ∧ s_X8_load M = some (v, M1) ∧ JV S1 M1 := by
  obtain ⟨t, A, hF⟩ := h.2.2.2.2.2
  obtain ⟨v, S1, M1, A1, e1, e2, hF1⟩ := e_load hF
  exact ⟨v, S1, M1, e1, e2, jv_of h (god_of (a_load h.1) e1) (gom_of (b_load h.2.1) e2) (fx_X7_load fr_rf _ e1) (fx_X8_load fr_rf _ e2) ⟨t, A1, hF1⟩⟩
theorem jv_unload {S M : HS} {a b : Int32} (h : JV S M) : ∃ v S1 M1, s_X7_unload a b S = some (v, S1) ∧ s_X8_unload a b M = some (v, M1) ∧ JV S1 M1 := by
  obtain ⟨t, A, hF⟩ := h.2.2.2.2.2
  obtain ⟨v, S1, M1, A1, e1, e2, hF1⟩ := e_unload (a := a) (b := b) hF
  exact ⟨v, S1, M1, e1, e2, jv_of h (god_of (a_unload h.1) e1) (gom_of (b_unload h.2.1) e2) (fx_X7_unload fr_rf _ e1) (fx_X8_unload fr_rf _ e2) ⟨t, A1, hF1⟩⟩
theorem jv_empty {S M : HS} {a : Int32} (h : JV S M) : ∃ v S1 M1, s_X7_empty a S = some (v, S1) ∧ s_X8_empty a M = some (v, M1) ∧ JV S1 M1 := by
  obtain ⟨t, A, hF⟩ := h.2.2.2.2.2
  obtain ⟨v, S1, M1, A1, e1, e2, hF1⟩ := e_empty (a := a) hF
  exact ⟨v, S1, M1, e1, e2, jv_of h (god_of (a_empty h.1) e1) (gom_of (b_empty h.2.1) e2) (fx_X7_empty fr_rf _ e1) (fx_X8_empty fr_rf _ e2) ⟨t, A1, hF1⟩⟩
theorem jv_wash {S M : HS} {a : Int32} (h : JV S M) : ∃ v S1 M1, s_X7_wash a S = some (v, S1) ∧ s_X8_wash a M = some (v, M1) ∧ JV S1 M1 := by
  obtain ⟨t, A, hF⟩ := h.2.2.2.2.2
  obtain ⟨v, S1, M1, A1, e1, e2, hF1⟩ := e_wash (a := a) hF
  exact ⟨v, S1, M1, e1, e2, jv_of h (god_of (a_wash h.1) e1) (gom_of (b_wash h.2.1) e2) (fx_X7_wash fr_rf _ e1) (fx_X8_wash fr_rf _ e2) ⟨t, A1, hF1⟩⟩
theorem jv_undo {S M : HS} (h : JV S M) : ∃ v S1 M1, s_X7_undo S = some (v, S1) ∧ s_X8_undo M = some (v, M1) ∧ JV S1 M1 := by
  obtain ⟨t, A, hF, hH⟩ := h.2.2.2.2.2
  obtain ⟨v, S1, M1, A1, e1, e2, hF1, hH1⟩ := h_undo hF hH
  exact ⟨v, S1, M1, e1, e2, jv_of h (god_of (a_undo h.1) e1) (gom_of (b_undo h.2.1) e2) (fx_X7_undo fr_rf _ e1) (fx_X8_undo fr_rf _ e2) ⟨t, A1, hF1, hH1⟩⟩
