/-! the model's thrown; drop on both sides -/
theorem t_lald {call : Call} {code : List Ent} {stop n pc b : Nat} {lv : Lv} {st : List Value} {h : List AC} {out : Lv × List Value × List AC} {i : Int32} {x : Int64} {xs : List Int64} (hne : pc ≠ stop) (hl : look code pc = some (eLald pc)) (hb : h[b]? = some (.inr (2, .inr (.inl xs)))) (hi : ¬ i < 0) (hx : xs[i.toNatClampNeg]? = some x) (g : goTo call code stop n (pc + 1) lv (.long x :: st) h = some out) : goTo call code stop (n + 1) pc lv (.int i :: .ref b :: st) h = some out := by
  unfold goTo
  rw [if_neg hne, hl]
  simp only [eLald, hb]
  rw [if_pos ⟨trivial, hi⟩]
  simp only [hx]
  exact g
def s_X8_thrown (S : HS) : Option Int32 := some (gf S 137 0)
set_option maxRecDepth 100000 in
theorem rf_X8_thrown {d : Nat} (hd : 1 ≤ d) {O : HS} (S : HS) : Lm (oI (en true O S)) (s_X8_thrown S) (CF d 174 [.ref 137] (en true O S)) := by
  unfold s_X8_thrown
  obtain ⟨e, rfl⟩ : ∃ e, d = e + 1 := ⟨d - 1, by omega⟩
  refine rm_of (lv := [some (.ref 137)]) (k_X8_thrown false) (by omega) rfl rfl (Nat.le_of_ble_eq_true rfl) ?_
  refine lm_le (n := 3) (by omega) ?_
  show Lm _ _ (run (CF e) _ _ _ _ _ _)
  refine r_pure rfl rfl ?_
  refine r_get rfl (en_get (b := true) (k := 137) (L := 12) ⟨rfl, by decide⟩ rfl) (fo_get (S := S) rfl) ?_
  exact r_retI rfl rfl
theorem dr_two {S M : HS} {v w : Int32} (hJ : JV S M) : ((s_X5_hasDrop v S = some 0 ∨ (s_X5_hasDrop v S = some 1 ∧ (w < 0 ∨ ¬ w ≤ 5))) ∧ s_X8_drop v w M = some (0, sf (sf M 137 0 0) 137 0 1)) ∨ ∃ r, s_X7_drop v w S = some r ∧ ∀ z, s_X8_drop v w (sg M 151 z) = some (r, sf (sg M 151 z) 137 0 0) := by
  obtain ⟨t, A, hF, _⟩ := hJ.2.2.2.2.2
  have hh := hF.thrown (x := 0)
  obtain ⟨hL, hLM, hr, ht, hT, ⟨h13, _, _, _⟩, hM, hW⟩ := hh
  have h20 := hW.1.2.2.2.2.1
  have hf0 : ∀ i, i < 157 → fM (sf M 137 0 0) i = nI (A i) := hM
  rcases q_hasD (v := v) h13 h20 with ⟨d, hd, rfl, g⟩ | ⟨g, n1⟩
  · have g' : s_X8_isDrop (nI d) (sf M 137 0 0) = some 1 := by
      rcases m_isDrp (v := nI d) hLM (hf0 13 (by omega)) h20 with ⟨c, _, _, g⟩ | ⟨_, n1⟩
      · exact g
      · exact absurd rfl (n1 d hd)
    rcases in_iff (v := w) (N := 6) (by omega) with ⟨k, hk, rfl, ek⟩ | ⟨ek, nk⟩
    · have hk6 : nI k = 0 ∨ nI k = 1 ∨ nI k = 2 ∨ nI k = 3 ∨ nI k = 4 ∨ nI k = 5 := by
        have hk7 : k = 0 ∨ k = 1 ∨ k = 2 ∨ k = 3 ∨ k = 4 ∨ k = 5 := by omega
        rcases hk7 with rfl | rfl | rfl | rfl | rfl | rfl
        · exact Or.inl rfl
        · exact Or.inr (Or.inl rfl)
        · exact Or.inr (Or.inr (Or.inl rfl))
        · exact Or.inr (Or.inr (Or.inr (Or.inl rfl)))
        · exact Or.inr (Or.inr (Or.inr (Or.inr (Or.inl rfl))))
        · exact Or.inr (Or.inr (Or.inr (Or.inr (Or.inr rfl))))
      obtain ⟨r, er, _⟩ := e_drop hF hd hk6
      refine Or.inr ⟨r, er, fun z => ?_⟩
      obtain ⟨r2, er2, e2⟩ := e_drop (M := sg M 151 z) (show FS S (sg M 151 z) t A from hF) hd hk6
      rw [er] at er2
      cases er2
      exact e2
    · refine Or.inl ⟨Or.inr ⟨g, ?_⟩, ?_⟩
      · have ek' : s_X8_isIn w 0 5 = some 0 := ek
        rw [q_isInM] at ek'
        by_cases z : w < 0
        · exact Or.inl z
        · refine Or.inr (fun z2 => ?_)
          rw [if_pos ⟨z, Int32.not_lt.mpr z2⟩] at ek'
          exact absurd ek' (by decide)
      · unfold s_X8_drop
        rw [pf_ok, sb, g', sbM, if_neg (by decide), show s_X8_isIn w 0 5 = some 0 from ek, sbM, if_neg (by decide)]
        rfl
  · refine Or.inl ⟨Or.inl g, ?_⟩
    have g' : s_X8_isDrop v (sf M 137 0 0) = some 0 := by
      rcases m_isDrp (v := v) hLM (hf0 13 (by omega)) h20 with ⟨c, hc, e, _⟩ | ⟨g, _⟩
      · exact absurd e (n1 c hc)
      · exact g
    unfold s_X8_drop
    rw [pf_ok, sb, g', sbM, if_pos rfl]
    rfl
