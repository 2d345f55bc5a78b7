/-! one call of the law, both sides: what holds always -/
def JV (S M : HS) : Prop := IvD S ∧ IvM M ∧ TR S M ∧ gf S 0 2 = gf M 137 8
theorem iv_m_fr {W : Nat → Nat → Prop} {M M1 : HS} (h : IvM M) (f : Fr W M M1) (hw : ¬ W 139 99 ∧ ¬ W 141 99 ∧ ¬ W 137 14) : IvM M1 := by
  obtain ⟨a, ⟨N, L, D, b⟩, c⟩ := h
  refine ⟨a.fr f, ⟨N, L, D, ?_⟩, SnOk.fr c f ⟨hw.2.1, hw.2.2⟩⟩
  rw [fM_fr f hw.1]
  exact b
theorem jv_of {S S1 M M1 : HS} (h : JV S M) (i1 : IvD S1) (i2 : IvM M1) (fS : Fr wX S S1) (fM : Fr wY M M1) : JV S1 M1 := by
  obtain ⟨_, _, ⟨B, n, hn, x1, x2, x3, x4, x5, x6⟩, h4⟩ := h
  refine ⟨i1, i2, ⟨B, n, hn, i1.1, i2.1, ?_, ?_, fun i hi => ?_, fun i hi => ?_⟩, ?_⟩
  · rw [(fS.1 0 1 (by unfold wX; omega)).1]
    exact x3
  · rw [(fM.1 137 2 (by unfold wY; omega)).1]
    exact x4
  · rw [fS.2.2.1 1 (by unfold wX; omega)]
    exact x5 i hi
  · rw [fM.2.2.1 138 (by unfold wY; omega)]
    exact x6 i hi
  · rw [(fS.1 0 2 (by unfold wX; omega)).1, (fM.1 137 8 (by unfold wY; omega)).1]
    exact h4
theorem new_rw {S1 M1 : HS} {A : Nat → Nat} {t u : Nat} (hL : LnM M1) (h : NewT S1 M1 A t u) : IvM M1 := by
  obtain ⟨_, _, _, _, _, hR, h13, hZ, _, _, _, _, _, _, hM, h14⟩ := h
  have e : ∀ i, i < 157 → fM M1 i = nI (A i) := hM
  refine ⟨hL, ⟨A 9, A 10, A 13, hR.1, hR.2.1, hR.2.2.2.2.1, e _ (by omega), e _ (by omega), e _ (by omega), fun c hc => ⟨0, by omega, ?_⟩, fun c hc => ⟨A (32 + 6 * c), ?_, e _ (by omega)⟩, fun d hd => ⟨A (57 + 5 * d), hZ.2.2.2 d hd, e _ (by omega)⟩, fun d hd hz => ?_⟩, 0, by omega, h14, fun j hj => by omega⟩
  · rw [e _ (by omega), (hZ.2.1 c hc).2]
  · have h1 := hR.2.2.2.2.2.2.2.2.2.1 c hc
    have h2 := hR.2.1
    omega
  · rw [e _ (by omega), (hZ.2.2.1 d hd).1] at hz
    exact absurd hz (by decide)
theorem jv_feed {S M : HS} {a b c d e : Int32} (h : JV S M) : ∃ v S1 M1, s_X7_feed a b c d e S = some (v, S1) ∧ s_X8_feed a b c d e M = some (v, M1) ∧ JV S1 M1 := by
  obtain ⟨v, S1, M1, e1, e2, i1, t1, f1, f2⟩ := j_feed (a := a) (b := b) (c := c) (d := d) (e := e) h.1 h.2.2.1
  refine ⟨v, S1, M1, e1, e2, i1, iv_m_fr h.2.1 f2 (by unfold wTm; omega), t1, ?_⟩
  rw [(f1.1 0 2 (by unfold wTp; omega)).1, (f2.1 137 8 (by unfold wTm; omega)).1]
  exact h.2.2.2
theorem jv_end {S M : HS} {a : Int32} (h : JV S M) : ∃ v S1 M1, s_X7_end a S = some (v, S1) ∧ s_X8_end a M = some (v, M1) ∧ JV S1 M1 := by
  obtain ⟨v, S1, M1, e1, e2, i1, t1, f1, f2⟩ := j_end (v := a) h.1 h.2.2.1
  refine ⟨v, S1, M1, e1, e2, i1, iv_m_fr h.2.1 f2 (by unfold wTm; omega), t1, ?_⟩
  rw [(f1.1 0 2 (by unfold wTp; omega)).1, (f2.1 137 8 (by unfold wTm; omega)).1]
  exact h.2.2.2
theorem jv_text {S M : HS} (h : JV S M) : ∃ v S1 M1, s_X7_text S = some (v, S1) ∧ s_X8_text M = some (v, M1) ∧ JV S1 M1 := by
  obtain ⟨v, S1, M1, e1, e2, i1, t1, hf, hq⟩ := j_text h.1 h.2.2.1
  have t1' := t1
  obtain ⟨_, _, _, _, hLM, _⟩ := t1'
  refine ⟨v, S1, M1, e1, e2, i1, ?_, t1, hf⟩
  rcases hq with ⟨A, t, u, _, _, hN⟩ | ⟨t, _, _, _, g1, g2, g3⟩
  · exact new_rw hLM hN
  · obtain ⟨_, ⟨N, L, D, b⟩, k, hk, ek, hr⟩ := h.2.1
    refine ⟨hLM, ⟨N, L, D, b.of (fun i hi => ?_)⟩, k, hk, g3.trans ek, ?_⟩
    · unfold fM
      rw [g1]
    · rw [g2]
      exact hr
theorem jv_fault {S M : HS} (h : JV S M) : ∃ v M1, s_X7_fault S = some v ∧ s_X8_fault M = some (v, M1) ∧ JV S M1 := by
  refine ⟨gf S 0 2, sf M 137 0 0, rfl, ?_, jv_of h h.1 (go_m0 h.2.1) fr_rf (fr_sf fr_rf (by unfold wY; omega))⟩
  unfold s_X8_fault
  rw [pf_ok, sb, gf_sf, if_neg (by omega), h.2.2.2]
theorem jv_now {S M : HS} {a : Int32} (h : JV S M) : ∃ v1 v2 M1, s_X7_now a S = some v1 ∧ s_X8_now a M = some (v2, M1) ∧ JV S M1 := by
  obtain ⟨v1, e1, _⟩ := a_now (v := a) h.1
  obtain ⟨v2, M1, e2, i2⟩ := b_now (v := a) h.2.1
  exact ⟨v1, v2, M1, e1, e2, jv_of h h.1 i2 fr_rf (fx_X8_now fr_rf _ e2)⟩
theorem jv_compartment {S M : HS} {a b : Int32} (h : JV S M) : ∃ v1 v2 M1, s_X7_compartment a b S = some v1 ∧ s_X8_compartment a b M = some (v2, M1) ∧ JV S M1 := by
  obtain ⟨v1, e1, _⟩ := a_compartment (v := a) (w := b) h.1
  obtain ⟨v2, M1, e2, i2⟩ := b_compartment (v := a) (w := b) h.2.1
  exact ⟨v1, v2, M1, e1, e2, jv_of h h.1 i2 fr_rf (fx_X8_compartment fr_rf _ e2)⟩
theorem jv_may {S M : HS} {a b : Int32} (h : JV S M) : ∃ v1 v2 M1, s_X7_may a b S = some v1 ∧ s_X8_may a b M = some (v2, M1) ∧ JV S M1 := by
  obtain ⟨v1, e1, _⟩ := a_may (v := a) (w := b) h.1
  obtain ⟨v2, M1, e2, i2⟩ := b_may (v := a) (w := b) h.2.1
  exact ⟨v1, v2, M1, e1, e2, jv_of h h.1 i2 fr_rf (fx_X8_may fr_rf _ e2)⟩
theorem jv_would {S M : HS} {a b c : Int32} (h : JV S M) : ∃ v1 v2 S1 M1, s_X7_would a b c S = some (v1, S1) ∧ s_X8_would a b c M = some (v2, M1) ∧ JV S1 M1 := by
  obtain ⟨⟨v1, S1⟩, e1, i1, _⟩ := a_would (v := a) (w := b) (x := c) h.1
  obtain ⟨v2, M1, e2, i2⟩ := b_would (v := a) (w := b) (x := c) h.2.1
  exact ⟨v1, v2, S1, M1, e1, e2, jv_of h i1 i2 (fx_X7_would fr_rf _ e1) (fx_X8_would fr_rf _ e2)⟩
theorem jv_orders {S M : HS} (h : JV S M) : ∃ v1 v2 S1 M1, s_X7_orders S = some (v1, S1) ∧ s_X8_orders M = some (v2, M1) ∧ JV S1 M1 := by
  obtain ⟨⟨v1, S1⟩, e1, i1, _⟩ := a_orders h.1
  obtain ⟨v2, M1, e2, i2⟩ := b_orders h.2.1
  exact ⟨v1, v2, S1, M1, e1, e2, jv_of h i1 i2 (fx_X7_orders fr_rf _ e1) (fx_X8_orders fr_rf _ e2)⟩
theorem jv_ordered {S M : HS} {a : Int32} (h : JV S M) : ∃ v1 v2 S1 M1, s_X7_ordered a S = some (v1, S1) ∧ s_X8_ordered a M = some (v2, M1) ∧ JV S1 M1 := by
  obtain ⟨⟨v1, S1⟩, e1, i1, _⟩ := a_ordered (v := a) h.1
  obtain ⟨v2, M1, e2, i2⟩ := b_ordered (x := a) h.2.1
  exact ⟨v1, v2, S1, M1, e1, e2, jv_of h i1 i2 (fx_X7_ordered fr_rf _ e1) (fx_X8_ordered fr_rf _ e2)⟩
theorem jv_without {S M : HS} {a : Int32} (h : JV S M) : ∃ v1 v2 M1, s_X7_without a S = some v1 ∧ s_X8_without a M = some (v2, M1) ∧ JV S M1 := by
  obtain ⟨v1, e1, _⟩ := a_without (v := a) h.1
  obtain ⟨v2, M1, e2, i2⟩ := b_without (v := a) h.2.1
  exact ⟨v1, v2, M1, e1, e2, jv_of h h.1 i2 fr_rf (fx_X8_without fr_rf _ e2)⟩
theorem jv_plan {S M : HS} {a : Int32} (h : JV S M) : ∃ v1 v2 S1 M1, s_X7_plan a S = some (v1, S1) ∧ s_X8_plan a M = some (v2, M1) ∧ JV S1 M1 := by
  obtain ⟨⟨v1, S1⟩, e1, i1, _⟩ := a_plan (v := a) h.1
  obtain ⟨v2, M1, e2, i2⟩ := b_plan (v := a) h.2.1
  exact ⟨v1, v2, S1, M1, e1, e2, jv_of h i1 i2 (fx_X7_plan fr_rf _ e1) (fx_X8_plan fr_rf _ e2)⟩
theorem jv_washes {S M : HS} (h : JV S M) : ∃ v1 v2 S1 M1, s_X7_washes S = some (v1, S1) ∧ s_X8_washes M = some (v2, M1) ∧ JV S1 M1 := by
  obtain ⟨⟨v1, S1⟩, e1, i1, _⟩ := a_washes h.1
  obtain ⟨v2, M1, e2, i2⟩ := b_washes h.2.1
  exact ⟨v1, v2, S1, M1, e1, e2, jv_of h i1 i2 (fx_X7_washes fr_rf _ e1) (fx_X8_washes fr_rf _ e2)⟩
theorem jv_asks {S M : HS} {a b : Int32} (h : JV S M) : ∃ v1 v2 S1 M1, s_X7_asks a b S = some (v1, S1) ∧ s_X8_asks a b M = some (v2, M1) ∧ JV S1 M1 := by
  obtain ⟨⟨v1, S1⟩, e1, i1, _⟩ := a_asks (v := a) (w := b) h.1
  obtain ⟨v2, M1, e2, i2⟩ := b_asks (v := a) (w := b) h.2.1
  exact ⟨v1, v2, S1, M1, e1, e2, jv_of h i1 i2 (fx_X7_asks fr_rf _ e1) (fx_X8_asks fr_rf _ e2)⟩
theorem jv_cancel {S M : HS} {a : Int32} (h : JV S M) : ∃ v1 v2 S1 M1, s_X7_cancel a S = some (v1, S1) ∧ s_X8_cancel a M = some (v2, M1) ∧ JV S1 M1 := by
  obtain ⟨⟨v1, S1⟩, e1, i1, _⟩ := a_cancel (v := a) h.1
  obtain ⟨v2, M1, e2, i2⟩ := b_cancel (v := a) h.2.1
  exact ⟨v1, v2, S1, M1, e1, e2, jv_of h i1 i2 (fx_X7_cancel fr_rf _ e1) (fx_X8_cancel fr_rf _ e2)⟩
theorem jv_put {S M : HS} {a b : Int32} (h : JV S M) : ∃ v1 v2 S1 M1, s_X7_put a b S = some (v1, S1) ∧ s_X8_put a b M = some (v2, M1) ∧ JV S1 M1 := by
  obtain ⟨⟨v1, S1⟩, e1, i1, _⟩ := a_put (v := a) (w := b) h.1
  obtain ⟨v2, M1, e2, i2⟩ := b_put (v := a) (w := b) h.2.1
  exact ⟨v1, v2, S1, M1, e1, e2, jv_of h i1 i2 (fx_X7_put fr_rf _ e1) (fx_X8_put fr_rf _ e2)⟩
theorem jv_load {S M : HS} (h : JV S M) : ∃ v1 v2 S1 M1, s_X7_load S = some (v1, S1) ∧ s_X8_load M = some (v2, M1) ∧ JV S1 M1 := by
  obtain ⟨⟨v1, S1⟩, e1, i1, _⟩ := a_load h.1
  obtain ⟨v2, M1, e2, i2⟩ := b_load h.2.1
  exact ⟨v1, v2, S1, M1, e1, e2, jv_of h i1 i2 (fx_X7_load fr_rf _ e1) (fx_X8_load fr_rf _ e2)⟩
theorem jv_unload {S M : HS} {a b : Int32} (h : JV S M) : ∃ v1 v2 S1 M1, s_X7_unload a b S = some (v1, S1) ∧ s_X8_unload a b M = some (v2, M1) ∧ JV S1 M1 := by
  obtain ⟨⟨v1, S1⟩, e1, i1, _⟩ := a_unload (v := a) (w := b) h.1
  obtain ⟨v2, M1, e2, i2⟩ := b_unload (v := a) (w := b) h.2.1
  exact ⟨v1, v2, S1, M1, e1, e2, jv_of h i1 i2 (fx_X7_unload fr_rf _ e1) (fx_X8_unload fr_rf _ e2)⟩
theorem jv_empty {S M : HS} {a : Int32} (h : JV S M) : ∃ v1 v2 S1 M1, s_X7_empty a S = some (v1, S1) ∧ s_X8_empty a M = some (v2, M1) ∧ JV S1 M1 := by
  obtain ⟨⟨v1, S1⟩, e1, i1, _⟩ := a_empty (v := a) h.1
  obtain ⟨v2, M1, e2, i2⟩ := b_empty (v := a) h.2.1
  exact ⟨v1, v2, S1, M1, e1, e2, jv_of h i1 i2 (fx_X7_empty fr_rf _ e1) (fx_X8_empty fr_rf _ e2)⟩
theorem jv_wash {S M : HS} {a : Int32} (h : JV S M) : ∃ v1 v2 S1 M1, s_X7_wash a S = some (v1, S1) ∧ s_X8_wash a M = some (v2, M1) ∧ JV S1 M1 := by
  obtain ⟨⟨v1, S1⟩, e1, i1, _⟩ := a_wash (v := a) h.1
  obtain ⟨v2, M1, e2, i2⟩ := b_wash (v := a) h.2.1
  exact ⟨v1, v2, S1, M1, e1, e2, jv_of h i1 i2 (fx_X7_wash fr_rf _ e1) (fx_X8_wash fr_rf _ e2)⟩
theorem jv_undo {S M : HS} (h : JV S M) : ∃ v1 v2 S1 M1, s_X7_undo S = some (v1, S1) ∧ s_X8_undo M = some (v2, M1) ∧ JV S1 M1 := by
  obtain ⟨⟨v1, S1⟩, e1, i1, _⟩ := a_undo h.1
  obtain ⟨v2, M1, e2, i2⟩ := b_undo h.2.1
  exact ⟨v1, v2, S1, M1, e1, e2, jv_of h i1 i2 (fx_X7_undo fr_rf _ e1) (fx_X8_undo fr_rf _ e2)⟩
